-- X12_init <init>()V
theorem en178 {d : Nat} {a : Int} {S : PS} {K : PV → PS → Prop} : pm_Call (d + 1) 178 [.inr (.inr (.inl a))] S K ↔ pm_Run d 178 0 [.inr (.inr (.inl a))] [] S K := pm_Call_s.trans (and_iff_right (show 1 ≤ pm_ml 178 from by decide +kernel))
-- X12_is is(III)Z
theorem en179 {d : Nat} {p0 p1 p2 : Int} {S : PS} {K : PV → PS → Prop} : pm_Call (d + 1) 179 [.inl p0, .inl p1, .inl p2] S K ↔ pm_Run d 179 0 [.inl p0, .inl p1, .inl p2] [] S K := pm_Call_s.trans (and_iff_right (show 3 ≤ pm_ml 179 from by decide +kernel))
theorem b179_0 {d : Nat} {G : PG} {M T : PH} {K : PV → PS → Prop} {l0 l1 l2 : Int} : pm_Run d 179 0 [.inl l0, .inl l1, .inl l2] [] (G, M, T) K ↔ if pm_sg l0 < pm_sg l1 then pm_Run d 179 14 [.inl l0, .inl l1, .inl l2] [] (G, M, T) K else pm_Run d 179 5 [.inl l0, .inl l1, .inl l2] [] (G, M, T) K := by
  refine (px_go (by decide +kernel : pm_fe 179 0 = some (.iload_n 0, 1)) rfl).trans ?_
  refine (px_go (by decide +kernel : pm_fe 179 1 = some (.iload_n 1, 1)) rfl).trans ?_
  refine (px_ic_lt (off := 12) (tgt := 14) (by decide +kernel)).trans ?_
  exact Iff.rfl
theorem b179_5 {d : Nat} {G : PG} {M T : PH} {K : PV → PS → Prop} {l0 l1 l2 : Int} : pm_Run d 179 5 [.inl l0, .inl l1, .inl l2] [] (G, M, T) K ↔ if pm_sg l2 < pm_sg l0 then pm_Run d 179 14 [.inl l0, .inl l1, .inl l2] [] (G, M, T) K else pm_Run d 179 10 [.inl l0, .inl l1, .inl l2] [] (G, M, T) K := by
  refine (px_go (by decide +kernel : pm_fe 179 5 = some (.iload_n 0, 1)) rfl).trans ?_
  refine (px_go (by decide +kernel : pm_fe 179 6 = some (.iload_n 2, 1)) rfl).trans ?_
  refine (px_ic_gt (off := 7) (tgt := 14) (by decide +kernel)).trans ?_
  exact Iff.rfl
theorem b179_10 {d : Nat} {G : PG} {M T : PH} {K : PV → PS → Prop} {l0 l1 l2 : Int} : pm_Run d 179 10 [.inl l0, .inl l1, .inl l2] [] (G, M, T) K ↔ pm_Run d 179 15 [.inl l0, .inl l1, .inl l2] [.inl 1] (G, M, T) K := by
  refine (px_go (by decide +kernel : pm_fe 179 10 = some (.iconst 1, 1)) rfl).trans ?_
  refine (px_goto (off := 4) (tgt := 15) (by decide +kernel)).trans ?_
  exact Iff.rfl
theorem b179_14 {d : Nat} {G : PG} {M T : PH} {K : PV → PS → Prop} {l0 l1 l2 : Int} : pm_Run d 179 14 [.inl l0, .inl l1, .inl l2] [] (G, M, T) K ↔ pm_Run d 179 15 [.inl l0, .inl l1, .inl l2] [.inl 0] (G, M, T) K := by
  refine (px_go (by decide +kernel : pm_fe 179 14 = some (.iconst 0, 1)) rfl).trans ?_
  exact Iff.rfl
theorem b179_15 {d : Nat} {G : PG} {M T : PH} {K : PV → PS → Prop} {l0 l1 l2 s0 : Int} (h1 : s0 = 0 ∨ s0 = 1) : pm_Run d 179 15 [.inl l0, .inl l1, .inl l2] [.inl s0] (G, M, T) K ↔ K (.inl s0) (G, M, T) := by
  refine (px_rz (by decide +kernel)).trans ((and_iff_right h1).trans ?_)
  exact Iff.rfl
-- X12_put put(I)V
theorem en180 {d : Nat} {a p0 : Int} {S : PS} {K : PV → PS → Prop} : pm_Call (d + 1) 180 [.inr (.inr (.inl a)), .inl p0] S K ↔ pm_Run d 180 0 [.inr (.inr (.inl a)), .inl p0, PU] [] S K := pm_Call_s.trans (and_iff_right (show 2 ≤ pm_ml 180 from by decide +kernel))
theorem b180_0 {d : Nat} {G : PG} {M T : PH} {K : PV → PS → Prop} {l0 l1 : Int} : pm_Run d 180 0 [.inr (.inr (.inl l0)), .inl l1, PU] [] (G, M, T) K ↔ pm_Run d 180 3 [.inr (.inr (.inl l0)), .inl l1, .inl 24] [] (G, M, T) K := by
  refine (px_go (by decide +kernel : pm_fe 180 0 = some (.bipush 24, 2)) rfl).trans ?_
  refine (px_go (by decide +kernel : pm_fe 180 2 = some (.istore_n 2, 1)) rfl).trans ?_
  exact Iff.rfl
theorem b180_3 {d : Nat} {G : PG} {M T : PH} {K : PV → PS → Prop} {l0 l1 l2 : Int} : pm_Run d 180 3 [.inr (.inr (.inl l0)), .inl l1, .inl l2] [] (G, M, T) K ↔ if pm_sg l2 < 0 then pm_Run d 180 39 [.inr (.inr (.inl l0)), .inl l1, .inl l2] [] (G, M, T) K else pm_Run d 180 7 [.inr (.inr (.inl l0)), .inl l1, .inl l2] [] (G, M, T) K := by
  refine (px_go (by decide +kernel : pm_fe 180 3 = some (.iload_n 2, 1)) rfl).trans ?_
  refine (px_if_lt (off := 35) (tgt := 39) (by decide +kernel)).trans ?_
  exact Iff.rfl
theorem b180_7 {d : Nat} {G : PG} {M T : PH} {K : PV → PS → Prop} {l0 l1 l2 : Int} (h1 : pm_ob G l0 12) (h2 : pm_ar G (T l0.toNat 0) 100 (M l0.toNat 1)) : pm_Run d 180 7 [.inr (.inr (.inl l0)), .inl l1, .inl l2] [] (G, M, T) K ↔ pm_Run d 180 33 [.inr (.inr (.inl l0)), .inl l1, .inl l2] [] (G, pm_sa (pm_sa M (T l0.toNat 0).toNat (pm_up (M (T l0.toNat 0).toNat) (pm_sg (M l0.toNat 1)).toNat (pm_and (pm_shr l1 l2) 255))) l0.toNat (pm_up ((pm_sa M (T l0.toNat 0).toNat (pm_up (M (T l0.toNat 0).toNat) (pm_sg (M l0.toNat 1)).toNat (pm_and (pm_shr l1 l2) 255))) l0.toNat) 1 (((pm_sa M (T l0.toNat 0).toNat (pm_up (M (T l0.toNat 0).toNat) (pm_sg (M l0.toNat 1)).toNat (pm_and (pm_shr l1 l2) 255))) l0.toNat 1) + 1)), T) K := by
  refine (px_go (by decide +kernel : pm_fe 180 7 = some (.aload_n 0, 1)) rfl).trans ?_
  refine (px_get2 (idx := 7) (ci := 12) (k := 0) (by decide +kernel)).trans ((and_iff_right h1).trans ?_)
  refine (px_go (by decide +kernel : pm_fe 180 11 = some (.aload_n 0, 1)) rfl).trans ?_
  refine (px_get0 (idx := 13) (ci := 12) (k := 1) (by decide +kernel)).trans ((and_iff_right h1).trans ?_)
  refine (px_go (by decide +kernel : pm_fe 180 15 = some (.iload_n 1, 1)) rfl).trans ?_
  refine (px_go (by decide +kernel : pm_fe 180 16 = some (.iload_n 2, 1)) rfl).trans ?_
  refine (px_go (by decide +kernel : pm_fe 180 17 = some (.ishr, 1)) rfl).trans ?_
  refine (px_go (by decide +kernel : pm_fe 180 18 = some (.sipush 255, 3)) rfl).trans ?_
  refine (px_go (by decide +kernel : pm_fe 180 21 = some (.iand, 1)) rfl).trans ?_
  refine (px_iastore (by decide +kernel)).trans ((and_iff_right h2).trans ?_)
  refine (px_go (by decide +kernel : pm_fe 180 23 = some (.aload_n 0, 1)) rfl).trans ?_
  refine (px_go (by decide +kernel : pm_fe 180 24 = some (.dup, 1)) rfl).trans ?_
  refine (px_get0 (idx := 13) (ci := 12) (k := 1) (by decide +kernel)).trans ((and_iff_right h1).trans ?_)
  refine (px_go (by decide +kernel : pm_fe 180 28 = some (.iconst 1, 1)) rfl).trans ?_
  refine (px_go (by decide +kernel : pm_fe 180 29 = some (.iadd, 1)) rfl).trans ?_
  refine (px_put0 (idx := 13) (ci := 12) (k := 1) (by decide +kernel)).trans ((and_iff_right h1).trans ?_)
  exact Iff.rfl
theorem b180_33 {d : Nat} {G : PG} {M T : PH} {K : PV → PS → Prop} {l0 l1 l2 : Int} : pm_Run d 180 33 [.inr (.inr (.inl l0)), .inl l1, .inl l2] [] (G, M, T) K ↔ pm_Run d 180 3 [.inr (.inr (.inl l0)), .inl l1, .inl (l2 + (-8))] [] (G, M, T) K := by
  refine (px_go (by decide +kernel : pm_fe 180 33 = some (.iinc 2 (-8), 3)) rfl).trans ?_
  refine (px_goto (off := (-33)) (tgt := 3) (by decide +kernel)).trans ?_
  exact Iff.rfl
theorem b180_39 {d : Nat} {G : PG} {M T : PH} {K : PV → PS → Prop} {l0 l1 l2 : Int} : pm_Run d 180 39 [.inr (.inr (.inl l0)), .inl l1, .inl l2] [] (G, M, T) K ↔ K PU (G, M, T) := by
  refine (px_rv (by decide +kernel)).trans ?_
  exact Iff.rfl
-- X12_feed feed(IIIII)I
theorem en181 {d : Nat} {a p0 p1 p2 p3 p4 : Int} {S : PS} {K : PV → PS → Prop} : pm_Call (d + 1) 181 [.inr (.inr (.inl a)), .inl p0, .inl p1, .inl p2, .inl p3, .inl p4] S K ↔ pm_Run d 181 0 [.inr (.inr (.inl a)), .inl p0, .inl p1, .inl p2, .inl p3, .inl p4] [] S K := pm_Call_s.trans (and_iff_right (show 6 ≤ pm_ml 181 from by decide +kernel))
theorem b181_0 {d : Nat} {G : PG} {M T : PH} {K : PV → PS → Prop} {l0 l1 l2 l3 l4 l5 : Int} (h1 : pm_ob G l0 12) : pm_Run d 181 0 [.inr (.inr (.inl l0)), .inl l1, .inl l2, .inl l3, .inl l4, .inl l5] [] (G, M, T) K ↔ if pm_sg ((M l0.toNat 1) + 20) ≤ pm_sg 1600 then pm_Run d 181 19 [.inr (.inr (.inl l0)), .inl l1, .inl l2, .inl l3, .inl l4, .inl l5] [] (G, M, T) K else pm_Run d 181 13 [.inr (.inr (.inl l0)), .inl l1, .inl l2, .inl l3, .inl l4, .inl l5] [] (G, M, T) K := by
  refine (px_go (by decide +kernel : pm_fe 181 0 = some (.aload_n 0, 1)) rfl).trans ?_
  refine (px_get0 (idx := 13) (ci := 12) (k := 1) (by decide +kernel)).trans ((and_iff_right h1).trans ?_)
  refine (px_go (by decide +kernel : pm_fe 181 4 = some (.bipush 20, 2)) rfl).trans ?_
  refine (px_go (by decide +kernel : pm_fe 181 6 = some (.iadd, 1)) rfl).trans ?_
  refine (px_go (by decide +kernel : pm_fe 181 7 = some (.sipush 1600, 3)) rfl).trans ?_
  refine (px_ic_le (off := 9) (tgt := 19) (by decide +kernel)).trans ?_
  exact Iff.rfl
theorem b181_13 {d : Nat} {G : PG} {M T : PH} {K : PV → PS → Prop} {l0 l1 l2 l3 l4 l5 : Int} (h1 : pm_ob G l0 12) : pm_Run d 181 13 [.inr (.inr (.inl l0)), .inl l1, .inl l2, .inl l3, .inl l4, .inl l5] [] (G, M, T) K ↔ pm_Call d 224 [.inr (.inr (.inl l0)), .inl 0] (G, M, T) (fun r S1 => pm_Run d 181 18 [.inr (.inr (.inl l0)), .inl l1, .inl l2, .inl l3, .inl l4, .inl l5] (pm_push r []) S1 K) := by
  refine (px_go (by decide +kernel : pm_fe 181 13 = some (.aload_n 0, 1)) rfl).trans ?_
  refine (px_go (by decide +kernel : pm_fe 181 14 = some (.iconst 0, 1)) rfl).trans ?_
  refine (px_v1 (idx := 243) (m' := 224) (ci := 12) (by decide +kernel)).trans ((and_iff_right ⟨h1, (by simp [pm_wl_n, pm_wl_c, pm_w] : pm_wl [] ≤ 8)⟩).trans ?_)
  exact Iff.rfl
theorem b181_18 {d : Nat} {G : PG} {M T : PH} {K : PV → PS → Prop} {l0 l1 l2 l3 l4 l5 s0 : Int} : pm_Run d 181 18 [.inr (.inr (.inl l0)), .inl l1, .inl l2, .inl l3, .inl l4, .inl l5] [.inl s0] (G, M, T) K ↔ K (.inl s0) (G, M, T) := by
  refine (px_ri (by decide +kernel)).trans ?_
  exact Iff.rfl
theorem b181_19 {d : Nat} {G : PG} {M T : PH} {K : PV → PS → Prop} {l0 l1 l2 l3 l4 l5 : Int} (h1 : pm_ob G l0 12) : pm_Run d 181 19 [.inr (.inr (.inl l0)), .inl l1, .inl l2, .inl l3, .inl l4, .inl l5] [] (G, M, T) K ↔ pm_Call d 180 [.inr (.inr (.inl l0)), .inl l1] (G, M, T) (fun r S1 => pm_Run d 181 24 [.inr (.inr (.inl l0)), .inl l1, .inl l2, .inl l3, .inl l4, .inl l5] (pm_push r []) S1 K) := by
  refine (px_go (by decide +kernel : pm_fe 181 19 = some (.aload_n 0, 1)) rfl).trans ?_
  refine (px_go (by decide +kernel : pm_fe 181 20 = some (.iload_n 1, 1)) rfl).trans ?_
  refine (px_v1 (idx := 247) (m' := 180) (ci := 12) (by decide +kernel)).trans ((and_iff_right ⟨h1, (by simp [pm_wl_n, pm_wl_c, pm_w] : pm_wl [] ≤ 8)⟩).trans ?_)
  exact Iff.rfl
theorem b181_24 {d : Nat} {G : PG} {M T : PH} {K : PV → PS → Prop} {l0 l1 l2 l3 l4 l5 : Int} (h1 : pm_ob G l0 12) : pm_Run d 181 24 [.inr (.inr (.inl l0)), .inl l1, .inl l2, .inl l3, .inl l4, .inl l5] [] (G, M, T) K ↔ pm_Call d 180 [.inr (.inr (.inl l0)), .inl l2] (G, M, T) (fun r S1 => pm_Run d 181 29 [.inr (.inr (.inl l0)), .inl l1, .inl l2, .inl l3, .inl l4, .inl l5] (pm_push r []) S1 K) := by
  refine (px_go (by decide +kernel : pm_fe 181 24 = some (.aload_n 0, 1)) rfl).trans ?_
  refine (px_go (by decide +kernel : pm_fe 181 25 = some (.iload_n 2, 1)) rfl).trans ?_
  refine (px_v1 (idx := 247) (m' := 180) (ci := 12) (by decide +kernel)).trans ((and_iff_right ⟨h1, (by simp [pm_wl_n, pm_wl_c, pm_w] : pm_wl [] ≤ 8)⟩).trans ?_)
  exact Iff.rfl
theorem b181_29 {d : Nat} {G : PG} {M T : PH} {K : PV → PS → Prop} {l0 l1 l2 l3 l4 l5 : Int} (h1 : pm_ob G l0 12) : pm_Run d 181 29 [.inr (.inr (.inl l0)), .inl l1, .inl l2, .inl l3, .inl l4, .inl l5] [] (G, M, T) K ↔ pm_Call d 180 [.inr (.inr (.inl l0)), .inl l3] (G, M, T) (fun r S1 => pm_Run d 181 34 [.inr (.inr (.inl l0)), .inl l1, .inl l2, .inl l3, .inl l4, .inl l5] (pm_push r []) S1 K) := by
  refine (px_go (by decide +kernel : pm_fe 181 29 = some (.aload_n 0, 1)) rfl).trans ?_
  refine (px_go (by decide +kernel : pm_fe 181 30 = some (.iload_n 3, 1)) rfl).trans ?_
  refine (px_v1 (idx := 247) (m' := 180) (ci := 12) (by decide +kernel)).trans ((and_iff_right ⟨h1, (by simp [pm_wl_n, pm_wl_c, pm_w] : pm_wl [] ≤ 8)⟩).trans ?_)
  exact Iff.rfl
theorem b181_34 {d : Nat} {G : PG} {M T : PH} {K : PV → PS → Prop} {l0 l1 l2 l3 l4 l5 : Int} (h1 : pm_ob G l0 12) : pm_Run d 181 34 [.inr (.inr (.inl l0)), .inl l1, .inl l2, .inl l3, .inl l4, .inl l5] [] (G, M, T) K ↔ pm_Call d 180 [.inr (.inr (.inl l0)), .inl l4] (G, M, T) (fun r S1 => pm_Run d 181 40 [.inr (.inr (.inl l0)), .inl l1, .inl l2, .inl l3, .inl l4, .inl l5] (pm_push r []) S1 K) := by
  refine (px_go (by decide +kernel : pm_fe 181 34 = some (.aload_n 0, 1)) rfl).trans ?_
  refine (px_go (by decide +kernel : pm_fe 181 35 = some (.iload 4, 2)) rfl).trans ?_
  refine (px_v1 (idx := 247) (m' := 180) (ci := 12) (by decide +kernel)).trans ((and_iff_right ⟨h1, (by simp [pm_wl_n, pm_wl_c, pm_w] : pm_wl [] ≤ 8)⟩).trans ?_)
  exact Iff.rfl
theorem b181_40 {d : Nat} {G : PG} {M T : PH} {K : PV → PS → Prop} {l0 l1 l2 l3 l4 l5 : Int} (h1 : pm_ob G l0 12) : pm_Run d 181 40 [.inr (.inr (.inl l0)), .inl l1, .inl l2, .inl l3, .inl l4, .inl l5] [] (G, M, T) K ↔ pm_Call d 180 [.inr (.inr (.inl l0)), .inl l5] (G, M, T) (fun r S1 => pm_Run d 181 46 [.inr (.inr (.inl l0)), .inl l1, .inl l2, .inl l3, .inl l4, .inl l5] (pm_push r []) S1 K) := by
  refine (px_go (by decide +kernel : pm_fe 181 40 = some (.aload_n 0, 1)) rfl).trans ?_
  refine (px_go (by decide +kernel : pm_fe 181 41 = some (.iload 5, 2)) rfl).trans ?_
  refine (px_v1 (idx := 247) (m' := 180) (ci := 12) (by decide +kernel)).trans ((and_iff_right ⟨h1, (by simp [pm_wl_n, pm_wl_c, pm_w] : pm_wl [] ≤ 8)⟩).trans ?_)
  exact Iff.rfl
theorem b181_46 {d : Nat} {G : PG} {M T : PH} {K : PV → PS → Prop} {l0 l1 l2 l3 l4 l5 : Int} (h1 : pm_ob G l0 12) : pm_Run d 181 46 [.inr (.inr (.inl l0)), .inl l1, .inl l2, .inl l3, .inl l4, .inl l5] [] (G, M, T) K ↔ K (.inl (M l0.toNat 1)) (G, M, T) := by
  refine (px_go (by decide +kernel : pm_fe 181 46 = some (.aload_n 0, 1)) rfl).trans ?_
  refine (px_get0 (idx := 13) (ci := 12) (k := 1) (by decide +kernel)).trans ((and_iff_right h1).trans ?_)
  refine (px_ri (by decide +kernel)).trans ?_
  exact Iff.rfl
-- X12_end end(I)Z
theorem en182 {d : Nat} {a p0 : Int} {S : PS} {K : PV → PS → Prop} : pm_Call (d + 1) 182 [.inr (.inr (.inl a)), .inl p0] S K ↔ pm_Run d 182 0 [.inr (.inr (.inl a)), .inl p0] [] S K := pm_Call_s.trans (and_iff_right (show 2 ≤ pm_ml 182 from by decide +kernel))
theorem b182_0 {d : Nat} {G : PG} {M T : PH} {K : PV → PS → Prop} {l0 l1 : Int} : pm_Run d 182 0 [.inr (.inr (.inl l0)), .inl l1] [] (G, M, T) K ↔ if pm_sg l1 < 0 then pm_Run d 182 12 [.inr (.inr (.inl l0)), .inl l1] [] (G, M, T) K else pm_Run d 182 4 [.inr (.inr (.inl l0)), .inl l1] [] (G, M, T) K := by
  refine (px_go (by decide +kernel : pm_fe 182 0 = some (.iload_n 1, 1)) rfl).trans ?_
  refine (px_if_lt (off := 11) (tgt := 12) (by decide +kernel)).trans ?_
  exact Iff.rfl
theorem b182_4 {d : Nat} {G : PG} {M T : PH} {K : PV → PS → Prop} {l0 l1 : Int} (h1 : pm_ob G l0 12) : pm_Run d 182 4 [.inr (.inr (.inl l0)), .inl l1] [] (G, M, T) K ↔ if pm_sg l1 ≤ pm_sg (M l0.toNat 1) then pm_Run d 182 26 [.inr (.inr (.inl l0)), .inl l1] [] (G, M, T) K else pm_Run d 182 12 [.inr (.inr (.inl l0)), .inl l1] [] (G, M, T) K := by
  refine (px_go (by decide +kernel : pm_fe 182 4 = some (.iload_n 1, 1)) rfl).trans ?_
  refine (px_go (by decide +kernel : pm_fe 182 5 = some (.aload_n 0, 1)) rfl).trans ?_
  refine (px_get0 (idx := 13) (ci := 12) (k := 1) (by decide +kernel)).trans ((and_iff_right h1).trans ?_)
  refine (px_ic_le (off := 17) (tgt := 26) (by decide +kernel)).trans ?_
  exact Iff.rfl
theorem b182_12 {d : Nat} {G : PG} {M T : PH} {K : PV → PS → Prop} {l0 l1 : Int} (h1 : pm_ob G l0 12) : pm_Run d 182 12 [.inr (.inr (.inl l0)), .inl l1] [] (G, M, T) K ↔ pm_Call d 224 [.inr (.inr (.inl l0)), .inl 0] (G, M, T) (fun r S1 => pm_Run d 182 17 [.inr (.inr (.inl l0)), .inl l1] (pm_push r []) S1 K) := by
  refine (px_go (by decide +kernel : pm_fe 182 12 = some (.aload_n 0, 1)) rfl).trans ?_
  refine (px_go (by decide +kernel : pm_fe 182 13 = some (.iconst 0, 1)) rfl).trans ?_
  refine (px_v1 (idx := 243) (m' := 224) (ci := 12) (by decide +kernel)).trans ((and_iff_right ⟨h1, (by simp [pm_wl_n, pm_wl_c, pm_w] : pm_wl [] ≤ 8)⟩).trans ?_)
  exact Iff.rfl
theorem b182_17 {d : Nat} {G : PG} {M T : PH} {K : PV → PS → Prop} {l0 l1 s0 : Int} : pm_Run d 182 17 [.inr (.inr (.inl l0)), .inl l1] [.inl s0] (G, M, T) K ↔ if pm_sg s0 < 0 then pm_Run d 182 24 [.inr (.inr (.inl l0)), .inl l1] [] (G, M, T) K else pm_Run d 182 20 [.inr (.inr (.inl l0)), .inl l1] [] (G, M, T) K := by
  refine (px_if_lt (off := 7) (tgt := 24) (by decide +kernel)).trans ?_
  exact Iff.rfl
theorem b182_20 {d : Nat} {G : PG} {M T : PH} {K : PV → PS → Prop} {l0 l1 : Int} : pm_Run d 182 20 [.inr (.inr (.inl l0)), .inl l1] [] (G, M, T) K ↔ pm_Run d 182 25 [.inr (.inr (.inl l0)), .inl l1] [.inl 1] (G, M, T) K := by
  refine (px_go (by decide +kernel : pm_fe 182 20 = some (.iconst 1, 1)) rfl).trans ?_
  refine (px_goto (off := 4) (tgt := 25) (by decide +kernel)).trans ?_
  exact Iff.rfl
theorem b182_24 {d : Nat} {G : PG} {M T : PH} {K : PV → PS → Prop} {l0 l1 : Int} : pm_Run d 182 24 [.inr (.inr (.inl l0)), .inl l1] [] (G, M, T) K ↔ pm_Run d 182 25 [.inr (.inr (.inl l0)), .inl l1] [.inl 0] (G, M, T) K := by
  refine (px_go (by decide +kernel : pm_fe 182 24 = some (.iconst 0, 1)) rfl).trans ?_
  exact Iff.rfl
theorem b182_25 {d : Nat} {G : PG} {M T : PH} {K : PV → PS → Prop} {l0 l1 s0 : Int} (h1 : s0 = 0 ∨ s0 = 1) : pm_Run d 182 25 [.inr (.inr (.inl l0)), .inl l1] [.inl s0] (G, M, T) K ↔ K (.inl s0) (G, M, T) := by
  refine (px_rz (by decide +kernel)).trans ((and_iff_right h1).trans ?_)
  exact Iff.rfl
theorem b182_26 {d : Nat} {G : PG} {M T : PH} {K : PV → PS → Prop} {l0 l1 : Int} (h1 : pm_ob G l0 12) : pm_Run d 182 26 [.inr (.inr (.inl l0)), .inl l1] [] (G, M, T) K ↔ K (.inl 1) (G, pm_sa M l0.toNat (pm_up (M l0.toNat) 1 l1), T) := by
  refine (px_go (by decide +kernel : pm_fe 182 26 = some (.aload_n 0, 1)) rfl).trans ?_
  refine (px_go (by decide +kernel : pm_fe 182 27 = some (.iload_n 1, 1)) rfl).trans ?_
  refine (px_put0 (idx := 13) (ci := 12) (k := 1) (by decide +kernel)).trans ((and_iff_right h1).trans ?_)
  refine (px_go (by decide +kernel : pm_fe 182 31 = some (.iconst 1, 1)) rfl).trans ?_
  refine (px_rz (by decide +kernel)).trans ((and_iff_right (by decide : (1 : Int) = (0 : Int) ∨ (1 : Int) = (1 : Int))).trans ?_)
  exact Iff.rfl
-- X12_blame blame(II)V
theorem en183 {d : Nat} {a p0 p1 : Int} {S : PS} {K : PV → PS → Prop} : pm_Call (d + 1) 183 [.inr (.inr (.inl a)), .inl p0, .inl p1] S K ↔ pm_Run d 183 0 [.inr (.inr (.inl a)), .inl p0, .inl p1] [] S K := pm_Call_s.trans (and_iff_right (show 3 ≤ pm_ml 183 from by decide +kernel))
theorem b183_0 {d : Nat} {G : PG} {M T : PH} {K : PV → PS → Prop} {l0 l1 l2 : Int} (h1 : pm_ob G l0 12) : pm_Run d 183 0 [.inr (.inr (.inl l0)), .inl l1, .inl l2] [] (G, M, T) K ↔ if pm_sg (M l0.toNat 8) ≤ 0 then pm_Run d 183 8 [.inr (.inr (.inl l0)), .inl l1, .inl l2] [] (G, M, T) K else pm_Run d 183 7 [.inr (.inr (.inl l0)), .inl l1, .inl l2] [] (G, M, T) K := by
  refine (px_go (by decide +kernel : pm_fe 183 0 = some (.aload_n 0, 1)) rfl).trans ?_
  refine (px_get0 (idx := 36) (ci := 12) (k := 8) (by decide +kernel)).trans ((and_iff_right h1).trans ?_)
  refine (px_if_le (off := 4) (tgt := 8) (by decide +kernel)).trans ?_
  exact Iff.rfl
theorem b183_7 {d : Nat} {G : PG} {M T : PH} {K : PV → PS → Prop} {l0 l1 l2 : Int} : pm_Run d 183 7 [.inr (.inr (.inl l0)), .inl l1, .inl l2] [] (G, M, T) K ↔ K PU (G, M, T) := by
  refine (px_rv (by decide +kernel)).trans ?_
  exact Iff.rfl
theorem b183_8 {d : Nat} {G : PG} {M T : PH} {K : PV → PS → Prop} {l0 l1 l2 : Int} (h1 : pm_ob G l0 12) : pm_Run d 183 8 [.inr (.inr (.inl l0)), .inl l1, .inl l2] [] (G, M, T) K ↔ K PU (G, pm_sa (pm_sa M l0.toNat (pm_up (M l0.toNat) 8 l1)) l0.toNat (pm_up ((pm_sa M l0.toNat (pm_up (M l0.toNat) 8 l1)) l0.toNat) 9 l2), T) := by
  refine (px_go (by decide +kernel : pm_fe 183 8 = some (.aload_n 0, 1)) rfl).trans ?_
  refine (px_go (by decide +kernel : pm_fe 183 9 = some (.iload_n 1, 1)) rfl).trans ?_
  refine (px_put0 (idx := 36) (ci := 12) (k := 8) (by decide +kernel)).trans ((and_iff_right h1).trans ?_)
  refine (px_go (by decide +kernel : pm_fe 183 13 = some (.aload_n 0, 1)) rfl).trans ?_
  refine (px_go (by decide +kernel : pm_fe 183 14 = some (.iload_n 2, 1)) rfl).trans ?_
  refine (px_put0 (idx := 39) (ci := 12) (k := 9) (by decide +kernel)).trans ((and_iff_right h1).trans ?_)
  refine (px_rv (by decide +kernel)).trans ?_
  exact Iff.rfl
-- X12_isLetter isLetter(I)Z
theorem en184 {d : Nat} {p0 : Int} {S : PS} {K : PV → PS → Prop} : pm_Call (d + 1) 184 [.inl p0] S K ↔ pm_Run d 184 0 [.inl p0] [] S K := pm_Call_s.trans (and_iff_right (show 1 ≤ pm_ml 184 from by decide +kernel))
theorem b184_0 {d : Nat} {G : PG} {M T : PH} {K : PV → PS → Prop} {l0 : Int} : pm_Run d 184 0 [.inl l0] [] (G, M, T) K ↔ if pm_sg l0 < pm_sg 97 then pm_Run d 184 16 [.inl l0] [] (G, M, T) K else pm_Run d 184 6 [.inl l0] [] (G, M, T) K := by
  refine (px_go (by decide +kernel : pm_fe 184 0 = some (.iload_n 0, 1)) rfl).trans ?_
  refine (px_go (by decide +kernel : pm_fe 184 1 = some (.bipush 97, 2)) rfl).trans ?_
  refine (px_ic_lt (off := 13) (tgt := 16) (by decide +kernel)).trans ?_
  exact Iff.rfl
theorem b184_6 {d : Nat} {G : PG} {M T : PH} {K : PV → PS → Prop} {l0 : Int} : pm_Run d 184 6 [.inl l0] [] (G, M, T) K ↔ if pm_sg 122 < pm_sg l0 then pm_Run d 184 16 [.inl l0] [] (G, M, T) K else pm_Run d 184 12 [.inl l0] [] (G, M, T) K := by
  refine (px_go (by decide +kernel : pm_fe 184 6 = some (.iload_n 0, 1)) rfl).trans ?_
  refine (px_go (by decide +kernel : pm_fe 184 7 = some (.bipush 122, 2)) rfl).trans ?_
  refine (px_ic_gt (off := 7) (tgt := 16) (by decide +kernel)).trans ?_
  exact Iff.rfl
theorem b184_12 {d : Nat} {G : PG} {M T : PH} {K : PV → PS → Prop} {l0 : Int} : pm_Run d 184 12 [.inl l0] [] (G, M, T) K ↔ pm_Run d 184 17 [.inl l0] [.inl 1] (G, M, T) K := by
  refine (px_go (by decide +kernel : pm_fe 184 12 = some (.iconst 1, 1)) rfl).trans ?_
  refine (px_goto (off := 4) (tgt := 17) (by decide +kernel)).trans ?_
  exact Iff.rfl
theorem b184_16 {d : Nat} {G : PG} {M T : PH} {K : PV → PS → Prop} {l0 : Int} : pm_Run d 184 16 [.inl l0] [] (G, M, T) K ↔ pm_Run d 184 17 [.inl l0] [.inl 0] (G, M, T) K := by
  refine (px_go (by decide +kernel : pm_fe 184 16 = some (.iconst 0, 1)) rfl).trans ?_
  exact Iff.rfl
theorem b184_17 {d : Nat} {G : PG} {M T : PH} {K : PV → PS → Prop} {l0 s0 : Int} (h1 : s0 = 0 ∨ s0 = 1) : pm_Run d 184 17 [.inl l0] [.inl s0] (G, M, T) K ↔ K (.inl s0) (G, M, T) := by
  refine (px_rz (by decide +kernel)).trans ((and_iff_right h1).trans ?_)
  exact Iff.rfl
-- X12_isDigit isDigit(I)Z
theorem en185 {d : Nat} {p0 : Int} {S : PS} {K : PV → PS → Prop} : pm_Call (d + 1) 185 [.inl p0] S K ↔ pm_Run d 185 0 [.inl p0] [] S K := pm_Call_s.trans (and_iff_right (show 1 ≤ pm_ml 185 from by decide +kernel))
theorem b185_0 {d : Nat} {G : PG} {M T : PH} {K : PV → PS → Prop} {l0 : Int} : pm_Run d 185 0 [.inl l0] [] (G, M, T) K ↔ if pm_sg l0 < pm_sg 48 then pm_Run d 185 16 [.inl l0] [] (G, M, T) K else pm_Run d 185 6 [.inl l0] [] (G, M, T) K := by
  refine (px_go (by decide +kernel : pm_fe 185 0 = some (.iload_n 0, 1)) rfl).trans ?_
  refine (px_go (by decide +kernel : pm_fe 185 1 = some (.bipush 48, 2)) rfl).trans ?_
  refine (px_ic_lt (off := 13) (tgt := 16) (by decide +kernel)).trans ?_
  exact Iff.rfl
theorem b185_6 {d : Nat} {G : PG} {M T : PH} {K : PV → PS → Prop} {l0 : Int} : pm_Run d 185 6 [.inl l0] [] (G, M, T) K ↔ if pm_sg 57 < pm_sg l0 then pm_Run d 185 16 [.inl l0] [] (G, M, T) K else pm_Run d 185 12 [.inl l0] [] (G, M, T) K := by
  refine (px_go (by decide +kernel : pm_fe 185 6 = some (.iload_n 0, 1)) rfl).trans ?_
  refine (px_go (by decide +kernel : pm_fe 185 7 = some (.bipush 57, 2)) rfl).trans ?_
  refine (px_ic_gt (off := 7) (tgt := 16) (by decide +kernel)).trans ?_
  exact Iff.rfl
theorem b185_12 {d : Nat} {G : PG} {M T : PH} {K : PV → PS → Prop} {l0 : Int} : pm_Run d 185 12 [.inl l0] [] (G, M, T) K ↔ pm_Run d 185 17 [.inl l0] [.inl 1] (G, M, T) K := by
  refine (px_go (by decide +kernel : pm_fe 185 12 = some (.iconst 1, 1)) rfl).trans ?_
  refine (px_goto (off := 4) (tgt := 17) (by decide +kernel)).trans ?_
  exact Iff.rfl
theorem b185_16 {d : Nat} {G : PG} {M T : PH} {K : PV → PS → Prop} {l0 : Int} : pm_Run d 185 16 [.inl l0] [] (G, M, T) K ↔ pm_Run d 185 17 [.inl l0] [.inl 0] (G, M, T) K := by
  refine (px_go (by decide +kernel : pm_fe 185 16 = some (.iconst 0, 1)) rfl).trans ?_
  exact Iff.rfl
theorem b185_17 {d : Nat} {G : PG} {M T : PH} {K : PV → PS → Prop} {l0 s0 : Int} (h1 : s0 = 0 ∨ s0 = 1) : pm_Run d 185 17 [.inl l0] [.inl s0] (G, M, T) K ↔ K (.inl s0) (G, M, T) := by
  refine (px_rz (by decide +kernel)).trans ((and_iff_right h1).trans ?_)
  exact Iff.rfl
-- X12_lex lex()V
theorem en186 {d : Nat} {a : Int} {S : PS} {K : PV → PS → Prop} : pm_Call (d + 1) 186 [.inr (.inr (.inl a))] S K ↔ pm_Run d 186 0 [.inr (.inr (.inl a))] [] S K := pm_Call_s.trans (and_iff_right (show 1 ≤ pm_ml 186 from by decide +kernel))
theorem b186_0 {d : Nat} {G : PG} {M T : PH} {K : PV → PS → Prop} {l0 : Int} (h1 : pm_ob G l0 12) : pm_Run d 186 0 [.inr (.inr (.inl l0))] [] (G, M, T) K ↔ if pm_sg (M l0.toNat 12) = pm_sg (-1) then pm_Run d 186 17 [.inr (.inr (.inl l0))] [] (G, M, T) K else pm_Run d 186 8 [.inr (.inr (.inl l0))] [] (G, M, T) K := by
  refine (px_go (by decide +kernel : pm_fe 186 0 = some (.aload_n 0, 1)) rfl).trans ?_
  refine (px_get0 (idx := 48) (ci := 12) (k := 12) (by decide +kernel)).trans ((and_iff_right h1).trans ?_)
  refine (px_go (by decide +kernel : pm_fe 186 4 = some (.iconst (-1), 1)) rfl).trans ?_
  refine (px_ic_eq (off := 12) (tgt := 17) (by decide +kernel)).trans ?_
  exact Iff.rfl
theorem b186_8 {d : Nat} {G : PG} {M T : PH} {K : PV → PS → Prop} {l0 : Int} (h1 : pm_ob G l0 12) : pm_Run d 186 8 [.inr (.inr (.inl l0))] [] (G, M, T) K ↔ pm_Call d 183 [.inr (.inr (.inl l0)), .inl 1, .inl (M l0.toNat 12)] (G, M, T) (fun r S1 => pm_Run d 186 17 [.inr (.inr (.inl l0))] (pm_push r []) S1 K) := by
  refine (px_go (by decide +kernel : pm_fe 186 8 = some (.aload_n 0, 1)) rfl).trans ?_
  refine (px_go (by decide +kernel : pm_fe 186 9 = some (.iconst 1, 1)) rfl).trans ?_
  refine (px_go (by decide +kernel : pm_fe 186 10 = some (.aload_n 0, 1)) rfl).trans ?_
  refine (px_get0 (idx := 48) (ci := 12) (k := 12) (by decide +kernel)).trans ((and_iff_right h1).trans ?_)
  refine (px_v2 (idx := 251) (m' := 183) (ci := 12) (by decide +kernel)).trans ((and_iff_right ⟨h1, (by simp [pm_wl_n, pm_wl_c, pm_w] : pm_wl [] ≤ 8)⟩).trans ?_)
  exact Iff.rfl
theorem b186_17 {d : Nat} {G : PG} {M T : PH} {K : PV → PS → Prop} {l0 : Int} : pm_Run d 186 17 [.inr (.inr (.inl l0))] [] (G, M, T) K ↔ K PU (G, M, T) := by
  refine (px_rv (by decide +kernel)).trans ?_
  exact Iff.rfl
-- X12_ahead ahead()V
theorem en187 {d : Nat} {a : Int} {S : PS} {K : PV → PS → Prop} : pm_Call (d + 1) 187 [.inr (.inr (.inl a))] S K ↔ pm_Run d 187 0 [.inr (.inr (.inl a)), PU, PU, PU, PU, PU] [] S K := pm_Call_s.trans (and_iff_right (show 1 ≤ pm_ml 187 from by decide +kernel))
theorem b187_0 {d : Nat} {G : PG} {M T : PH} {K : PV → PS → Prop} {l0 : Int} (h1 : pm_ob G l0 12) : pm_Run d 187 0 [.inr (.inr (.inl l0)), PU, PU, PU, PU, PU] [] (G, M, T) K ↔ pm_Run d 187 5 [.inr (.inr (.inl l0)), .inl (M l0.toNat 5), PU, PU, PU, PU] [] (G, M, T) K := by
  refine (px_go (by decide +kernel : pm_fe 187 0 = some (.aload_n 0, 1)) rfl).trans ?_
  refine (px_get0 (idx := 26) (ci := 12) (k := 5) (by decide +kernel)).trans ((and_iff_right h1).trans ?_)
  refine (px_go (by decide +kernel : pm_fe 187 4 = some (.istore_n 1, 1)) rfl).trans ?_
  exact Iff.rfl
theorem b187_5 {d : Nat} {G : PG} {M T : PH} {K : PV → PS → Prop} {l0 l1 : Int} (h1 : pm_ob G l0 12) : pm_Run d 187 5 [.inr (.inr (.inl l0)), .inl l1, PU, PU, PU, PU] [] (G, M, T) K ↔ if pm_sg (M l0.toNat 2) ≤ pm_sg l1 then pm_Run d 187 41 [.inr (.inr (.inl l0)), .inl l1, PU, PU, PU, PU] [] (G, M, T) K else pm_Run d 187 13 [.inr (.inr (.inl l0)), .inl l1, PU, PU, PU, PU] [] (G, M, T) K := by
  refine (px_go (by decide +kernel : pm_fe 187 5 = some (.iload_n 1, 1)) rfl).trans ?_
  refine (px_go (by decide +kernel : pm_fe 187 6 = some (.aload_n 0, 1)) rfl).trans ?_
  refine (px_get0 (idx := 17) (ci := 12) (k := 2) (by decide +kernel)).trans ((and_iff_right h1).trans ?_)
  refine (px_ic_ge (off := 31) (tgt := 41) (by decide +kernel)).trans ?_
  exact Iff.rfl
theorem b187_13 {d : Nat} {G : PG} {M T : PH} {K : PV → PS → Prop} {l0 l1 : Int} (h1 : pm_ob G l0 12) (h2 : pm_ar G (T l0.toNat 0) 100 l1) : pm_Run d 187 13 [.inr (.inr (.inl l0)), .inl l1, PU, PU, PU, PU] [] (G, M, T) K ↔ if pm_sg (M (T l0.toNat 0).toNat (pm_sg l1).toNat) = pm_sg 32 then pm_Run d 187 35 [.inr (.inr (.inl l0)), .inl l1, PU, PU, PU, PU] [] (G, M, T) K else pm_Run d 187 24 [.inr (.inr (.inl l0)), .inl l1, PU, PU, PU, PU] [] (G, M, T) K := by
  refine (px_go (by decide +kernel : pm_fe 187 13 = some (.aload_n 0, 1)) rfl).trans ?_
  refine (px_get2 (idx := 7) (ci := 12) (k := 0) (by decide +kernel)).trans ((and_iff_right h1).trans ?_)
  refine (px_go (by decide +kernel : pm_fe 187 17 = some (.iload_n 1, 1)) rfl).trans ?_
  refine (px_iaload (by decide +kernel) h2).trans ?_
  refine (px_go (by decide +kernel : pm_fe 187 19 = some (.bipush 32, 2)) rfl).trans ?_
  refine (px_ic_eq (off := 14) (tgt := 35) (by decide +kernel)).trans ?_
  exact Iff.rfl
theorem b187_24 {d : Nat} {G : PG} {M T : PH} {K : PV → PS → Prop} {l0 l1 : Int} (h1 : pm_ob G l0 12) (h2 : pm_ar G (T l0.toNat 0) 100 l1) : pm_Run d 187 24 [.inr (.inr (.inl l0)), .inl l1, PU, PU, PU, PU] [] (G, M, T) K ↔ if pm_sg (M (T l0.toNat 0).toNat (pm_sg l1).toNat) ≠ pm_sg 10 then pm_Run d 187 41 [.inr (.inr (.inl l0)), .inl l1, PU, PU, PU, PU] [] (G, M, T) K else pm_Run d 187 35 [.inr (.inr (.inl l0)), .inl l1, PU, PU, PU, PU] [] (G, M, T) K := by
  refine (px_go (by decide +kernel : pm_fe 187 24 = some (.aload_n 0, 1)) rfl).trans ?_
  refine (px_get2 (idx := 7) (ci := 12) (k := 0) (by decide +kernel)).trans ((and_iff_right h1).trans ?_)
  refine (px_go (by decide +kernel : pm_fe 187 28 = some (.iload_n 1, 1)) rfl).trans ?_
  refine (px_iaload (by decide +kernel) h2).trans ?_
  refine (px_go (by decide +kernel : pm_fe 187 30 = some (.bipush 10, 2)) rfl).trans ?_
  refine (px_ic_ne (off := 9) (tgt := 41) (by decide +kernel)).trans ?_
  exact Iff.rfl
theorem b187_35 {d : Nat} {G : PG} {M T : PH} {K : PV → PS → Prop} {l0 l1 : Int} : pm_Run d 187 35 [.inr (.inr (.inl l0)), .inl l1, PU, PU, PU, PU] [] (G, M, T) K ↔ pm_Run d 187 5 [.inr (.inr (.inl l0)), .inl (l1 + 1), PU, PU, PU, PU] [] (G, M, T) K := by
  refine (px_go (by decide +kernel : pm_fe 187 35 = some (.iinc 1 1, 3)) rfl).trans ?_
  refine (px_goto (off := (-33)) (tgt := 5) (by decide +kernel)).trans ?_
  exact Iff.rfl
theorem b187_41 {d : Nat} {G : PG} {M T : PH} {K : PV → PS → Prop} {l0 l1 : Int} (h1 : pm_ob G l0 12) : pm_Run d 187 41 [.inr (.inr (.inl l0)), .inl l1, PU, PU, PU, PU] [] (G, M, T) K ↔ pm_Run d 187 56 [.inr (.inr (.inl l0)), .inl l1, PU, PU, PU, PU] [] (G, pm_sa (pm_sa (pm_sa M l0.toNat (pm_up (M l0.toNat) 4 l1)) l0.toNat (pm_up ((pm_sa M l0.toNat (pm_up (M l0.toNat) 4 l1)) l0.toNat) 5 l1)) l0.toNat (pm_up ((pm_sa (pm_sa M l0.toNat (pm_up (M l0.toNat) 4 l1)) l0.toNat (pm_up ((pm_sa M l0.toNat (pm_up (M l0.toNat) 4 l1)) l0.toNat) 5 l1)) l0.toNat) 3 0), T) K := by
  refine (px_go (by decide +kernel : pm_fe 187 41 = some (.aload_n 0, 1)) rfl).trans ?_
  refine (px_go (by decide +kernel : pm_fe 187 42 = some (.iload_n 1, 1)) rfl).trans ?_
  refine (px_put0 (idx := 23) (ci := 12) (k := 4) (by decide +kernel)).trans ((and_iff_right h1).trans ?_)
  refine (px_go (by decide +kernel : pm_fe 187 46 = some (.aload_n 0, 1)) rfl).trans ?_
  refine (px_go (by decide +kernel : pm_fe 187 47 = some (.iload_n 1, 1)) rfl).trans ?_
  refine (px_put0 (idx := 26) (ci := 12) (k := 5) (by decide +kernel)).trans ((and_iff_right h1).trans ?_)
  refine (px_go (by decide +kernel : pm_fe 187 51 = some (.aload_n 0, 1)) rfl).trans ?_
  refine (px_go (by decide +kernel : pm_fe 187 52 = some (.iconst 0, 1)) rfl).trans ?_
  refine (px_put0 (idx := 20) (ci := 12) (k := 3) (by decide +kernel)).trans ((and_iff_right h1).trans ?_)
  exact Iff.rfl
theorem b187_56 {d : Nat} {G : PG} {M T : PH} {K : PV → PS → Prop} {l0 l1 : Int} (h1 : pm_ob G l0 12) : pm_Run d 187 56 [.inr (.inr (.inl l0)), .inl l1, PU, PU, PU, PU] [] (G, M, T) K ↔ if pm_sg l1 < pm_sg ((pm_sa M l0.toNat (pm_up (M l0.toNat) 12 (-1))) l0.toNat 2) then pm_Run d 187 70 [.inr (.inr (.inl l0)), .inl l1, PU, PU, PU, PU] [] (G, pm_sa M l0.toNat (pm_up (M l0.toNat) 12 (-1)), T) K else pm_Run d 187 69 [.inr (.inr (.inl l0)), .inl l1, PU, PU, PU, PU] [] (G, pm_sa M l0.toNat (pm_up (M l0.toNat) 12 (-1)), T) K := by
  refine (px_go (by decide +kernel : pm_fe 187 56 = some (.aload_n 0, 1)) rfl).trans ?_
  refine (px_go (by decide +kernel : pm_fe 187 57 = some (.iconst (-1), 1)) rfl).trans ?_
  refine (px_put0 (idx := 48) (ci := 12) (k := 12) (by decide +kernel)).trans ((and_iff_right h1).trans ?_)
  refine (px_go (by decide +kernel : pm_fe 187 61 = some (.iload_n 1, 1)) rfl).trans ?_
  refine (px_go (by decide +kernel : pm_fe 187 62 = some (.aload_n 0, 1)) rfl).trans ?_
  refine (px_get0 (idx := 17) (ci := 12) (k := 2) (by decide +kernel)).trans ((and_iff_right h1).trans ?_)
  refine (px_ic_lt (off := 4) (tgt := 70) (by decide +kernel)).trans ?_
  exact Iff.rfl
theorem b187_69 {d : Nat} {G : PG} {M T : PH} {K : PV → PS → Prop} {l0 l1 : Int} : pm_Run d 187 69 [.inr (.inr (.inl l0)), .inl l1, PU, PU, PU, PU] [] (G, M, T) K ↔ K PU (G, M, T) := by
  refine (px_rv (by decide +kernel)).trans ?_
  exact Iff.rfl
theorem b187_70 {d : Nat} {G : PG} {M T : PH} {K : PV → PS → Prop} {l0 l1 : Int} (h1 : pm_ob G l0 12) (h2 : pm_ar G (T l0.toNat 0) 100 l1) : pm_Run d 187 70 [.inr (.inr (.inl l0)), .inl l1, PU, PU, PU, PU] [] (G, M, T) K ↔ pm_Call d 184 [.inl (M (T l0.toNat 0).toNat (pm_sg l1).toNat)] (G, M, T) (fun r S1 => pm_Run d 187 79 [.inr (.inr (.inl l0)), .inl l1, PU, PU, PU, PU] (pm_push r []) S1 K) := by
  refine (px_go (by decide +kernel : pm_fe 187 70 = some (.aload_n 0, 1)) rfl).trans ?_
  refine (px_get2 (idx := 7) (ci := 12) (k := 0) (by decide +kernel)).trans ((and_iff_right h1).trans ?_)
  refine (px_go (by decide +kernel : pm_fe 187 74 = some (.iload_n 1, 1)) rfl).trans ?_
  refine (px_iaload (by decide +kernel) h2).trans ?_
  refine (px_s1 (idx := 255) (m' := 184) (nest := 0) (by decide +kernel)).trans ((and_iff_right (by simp [pm_wl_n, pm_wl_c, pm_w] : pm_wl [] ≤ 8)).trans ?_)
  exact Iff.rfl
theorem b187_79 {d : Nat} {G : PG} {M T : PH} {K : PV → PS → Prop} {l0 l1 s0 : Int} (h1 : pm_ob G l0 12) (h2 : pm_ar G (T l0.toNat 0) 100 l1) : pm_Run d 187 79 [.inr (.inr (.inl l0)), .inl l1, PU, PU, PU, PU] [.inl s0] (G, M, T) K ↔ pm_Call d 185 [.inl (M (T l0.toNat 0).toNat (pm_sg l1).toNat)] (G, M, T) (fun r S1 => pm_Run d 187 89 [.inr (.inr (.inl l0)), .inl l1, .inl s0, PU, PU, PU] (pm_push r []) S1 K) := by
  refine (px_go (by decide +kernel : pm_fe 187 79 = some (.istore_n 2, 1)) rfl).trans ?_
  refine (px_go (by decide +kernel : pm_fe 187 80 = some (.aload_n 0, 1)) rfl).trans ?_
  refine (px_get2 (idx := 7) (ci := 12) (k := 0) (by decide +kernel)).trans ((and_iff_right h1).trans ?_)
  refine (px_go (by decide +kernel : pm_fe 187 84 = some (.iload_n 1, 1)) rfl).trans ?_
  refine (px_iaload (by decide +kernel) h2).trans ?_
  refine (px_s1 (idx := 259) (m' := 185) (nest := 0) (by decide +kernel)).trans ((and_iff_right (by simp [pm_wl_n, pm_wl_c, pm_w] : pm_wl [] ≤ 8)).trans ?_)
  exact Iff.rfl
theorem b187_89 {d : Nat} {G : PG} {M T : PH} {K : PV → PS → Prop} {l0 l1 l2 s0 : Int} : pm_Run d 187 89 [.inr (.inr (.inl l0)), .inl l1, .inl l2, PU, PU, PU] [.inl s0] (G, M, T) K ↔ if pm_sg l2 ≠ 0 then pm_Run d 187 98 [.inr (.inr (.inl l0)), .inl l1, .inl l2, .inl s0, PU, PU] [] (G, M, T) K else pm_Run d 187 94 [.inr (.inr (.inl l0)), .inl l1, .inl l2, .inl s0, PU, PU] [] (G, M, T) K := by
  refine (px_go (by decide +kernel : pm_fe 187 89 = some (.istore_n 3, 1)) rfl).trans ?_
  refine (px_go (by decide +kernel : pm_fe 187 90 = some (.iload_n 2, 1)) rfl).trans ?_
  refine (px_if_ne (off := 7) (tgt := 98) (by decide +kernel)).trans ?_
  exact Iff.rfl
theorem b187_94 {d : Nat} {G : PG} {M T : PH} {K : PV → PS → Prop} {l0 l1 l2 l3 : Int} : pm_Run d 187 94 [.inr (.inr (.inl l0)), .inl l1, .inl l2, .inl l3, PU, PU] [] (G, M, T) K ↔ if pm_sg l3 = 0 then pm_Run d 187 135 [.inr (.inr (.inl l0)), .inl l1, .inl l2, .inl l3, PU, PU] [] (G, M, T) K else pm_Run d 187 98 [.inr (.inr (.inl l0)), .inl l1, .inl l2, .inl l3, PU, PU] [] (G, M, T) K := by
  refine (px_go (by decide +kernel : pm_fe 187 94 = some (.iload_n 3, 1)) rfl).trans ?_
  refine (px_if_eq (off := 40) (tgt := 135) (by decide +kernel)).trans ?_
  exact Iff.rfl
theorem b187_98 {d : Nat} {G : PG} {M T : PH} {K : PV → PS → Prop} {l0 l1 l2 l3 : Int} : pm_Run d 187 98 [.inr (.inr (.inl l0)), .inl l1, .inl l2, .inl l3, PU, PU] [] (G, M, T) K ↔ if pm_sg l1 ≤ 0 then pm_Run d 187 135 [.inr (.inr (.inl l0)), .inl l1, .inl l2, .inl l3, PU, PU] [] (G, M, T) K else pm_Run d 187 102 [.inr (.inr (.inl l0)), .inl l1, .inl l2, .inl l3, PU, PU] [] (G, M, T) K := by
  refine (px_go (by decide +kernel : pm_fe 187 98 = some (.iload_n 1, 1)) rfl).trans ?_
  refine (px_if_le (off := 36) (tgt := 135) (by decide +kernel)).trans ?_
  exact Iff.rfl
theorem b187_102 {d : Nat} {G : PG} {M T : PH} {K : PV → PS → Prop} {l0 l1 l2 l3 : Int} (h1 : pm_ob G l0 12) (h2 : pm_ar G (T l0.toNat 0) 100 (l1 - 1)) : pm_Run d 187 102 [.inr (.inr (.inl l0)), .inl l1, .inl l2, .inl l3, PU, PU] [] (G, M, T) K ↔ pm_Call d 184 [.inl (M (T l0.toNat 0).toNat (pm_sg (l1 - 1)).toNat)] (G, M, T) (fun r S1 => pm_Run d 187 113 [.inr (.inr (.inl l0)), .inl l1, .inl l2, .inl l3, PU, PU] (pm_push r []) S1 K) := by
  refine (px_go (by decide +kernel : pm_fe 187 102 = some (.aload_n 0, 1)) rfl).trans ?_
  refine (px_get2 (idx := 7) (ci := 12) (k := 0) (by decide +kernel)).trans ((and_iff_right h1).trans ?_)
  refine (px_go (by decide +kernel : pm_fe 187 106 = some (.iload_n 1, 1)) rfl).trans ?_
  refine (px_go (by decide +kernel : pm_fe 187 107 = some (.iconst 1, 1)) rfl).trans ?_
  refine (px_go (by decide +kernel : pm_fe 187 108 = some (.isub, 1)) rfl).trans ?_
  refine (px_iaload (by decide +kernel) h2).trans ?_
  refine (px_s1 (idx := 255) (m' := 184) (nest := 0) (by decide +kernel)).trans ((and_iff_right (by simp [pm_wl_n, pm_wl_c, pm_w] : pm_wl [] ≤ 8)).trans ?_)
  exact Iff.rfl
theorem b187_113 {d : Nat} {G : PG} {M T : PH} {K : PV → PS → Prop} {l0 l1 l2 l3 s0 : Int} : pm_Run d 187 113 [.inr (.inr (.inl l0)), .inl l1, .inl l2, .inl l3, PU, PU] [.inl s0] (G, M, T) K ↔ if pm_sg s0 ≠ 0 then pm_Run d 187 130 [.inr (.inr (.inl l0)), .inl l1, .inl l2, .inl l3, PU, PU] [] (G, M, T) K else pm_Run d 187 116 [.inr (.inr (.inl l0)), .inl l1, .inl l2, .inl l3, PU, PU] [] (G, M, T) K := by
  refine (px_if_ne (off := 17) (tgt := 130) (by decide +kernel)).trans ?_
  exact Iff.rfl
theorem b187_116 {d : Nat} {G : PG} {M T : PH} {K : PV → PS → Prop} {l0 l1 l2 l3 : Int} (h1 : pm_ob G l0 12) (h2 : pm_ar G (T l0.toNat 0) 100 (l1 - 1)) : pm_Run d 187 116 [.inr (.inr (.inl l0)), .inl l1, .inl l2, .inl l3, PU, PU] [] (G, M, T) K ↔ pm_Call d 185 [.inl (M (T l0.toNat 0).toNat (pm_sg (l1 - 1)).toNat)] (G, M, T) (fun r S1 => pm_Run d 187 127 [.inr (.inr (.inl l0)), .inl l1, .inl l2, .inl l3, PU, PU] (pm_push r []) S1 K) := by
  refine (px_go (by decide +kernel : pm_fe 187 116 = some (.aload_n 0, 1)) rfl).trans ?_
  refine (px_get2 (idx := 7) (ci := 12) (k := 0) (by decide +kernel)).trans ((and_iff_right h1).trans ?_)
  refine (px_go (by decide +kernel : pm_fe 187 120 = some (.iload_n 1, 1)) rfl).trans ?_
  refine (px_go (by decide +kernel : pm_fe 187 121 = some (.iconst 1, 1)) rfl).trans ?_
  refine (px_go (by decide +kernel : pm_fe 187 122 = some (.isub, 1)) rfl).trans ?_
  refine (px_iaload (by decide +kernel) h2).trans ?_
  refine (px_s1 (idx := 259) (m' := 185) (nest := 0) (by decide +kernel)).trans ((and_iff_right (by simp [pm_wl_n, pm_wl_c, pm_w] : pm_wl [] ≤ 8)).trans ?_)
  exact Iff.rfl
theorem b187_127 {d : Nat} {G : PG} {M T : PH} {K : PV → PS → Prop} {l0 l1 l2 l3 s0 : Int} : pm_Run d 187 127 [.inr (.inr (.inl l0)), .inl l1, .inl l2, .inl l3, PU, PU] [.inl s0] (G, M, T) K ↔ if pm_sg s0 = 0 then pm_Run d 187 135 [.inr (.inr (.inl l0)), .inl l1, .inl l2, .inl l3, PU, PU] [] (G, M, T) K else pm_Run d 187 130 [.inr (.inr (.inl l0)), .inl l1, .inl l2, .inl l3, PU, PU] [] (G, M, T) K := by
  refine (px_if_eq (off := 8) (tgt := 135) (by decide +kernel)).trans ?_
  exact Iff.rfl
theorem b187_130 {d : Nat} {G : PG} {M T : PH} {K : PV → PS → Prop} {l0 l1 l2 l3 : Int} (h1 : pm_ob G l0 12) : pm_Run d 187 130 [.inr (.inr (.inl l0)), .inl l1, .inl l2, .inl l3, PU, PU] [] (G, M, T) K ↔ pm_Run d 187 135 [.inr (.inr (.inl l0)), .inl l1, .inl l2, .inl l3, PU, PU] [] (G, pm_sa M l0.toNat (pm_up (M l0.toNat) 12 l1), T) K := by
  refine (px_go (by decide +kernel : pm_fe 187 130 = some (.aload_n 0, 1)) rfl).trans ?_
  refine (px_go (by decide +kernel : pm_fe 187 131 = some (.iload_n 1, 1)) rfl).trans ?_
  refine (px_put0 (idx := 48) (ci := 12) (k := 12) (by decide +kernel)).trans ((and_iff_right h1).trans ?_)
  exact Iff.rfl
theorem b187_135 {d : Nat} {G : PG} {M T : PH} {K : PV → PS → Prop} {l0 l1 l2 l3 : Int} (h1 : pm_ob G l0 12) : pm_Run d 187 135 [.inr (.inr (.inl l0)), .inl l1, .inl l2, .inl l3, PU, PU] [] (G, M, T) K ↔ pm_Run d 187 150 [.inr (.inr (.inl l0)), .inl l1, .inl l2, .inl l3, PU, PU] [] (G, pm_sa (pm_sa (pm_sa M l0.toNat (pm_up (M l0.toNat) 6 0)) l0.toNat (pm_up ((pm_sa M l0.toNat (pm_up (M l0.toNat) 6 0)) l0.toNat) 7 0)) l0.toNat (pm_up ((pm_sa (pm_sa M l0.toNat (pm_up (M l0.toNat) 6 0)) l0.toNat (pm_up ((pm_sa M l0.toNat (pm_up (M l0.toNat) 6 0)) l0.toNat) 7 0)) l0.toNat) 3 3), T) K := by
  refine (px_go (by decide +kernel : pm_fe 187 135 = some (.aload_n 0, 1)) rfl).trans ?_
  refine (px_go (by decide +kernel : pm_fe 187 136 = some (.iconst 0, 1)) rfl).trans ?_
  refine (px_put0 (idx := 29) (ci := 12) (k := 6) (by decide +kernel)).trans ((and_iff_right h1).trans ?_)
  refine (px_go (by decide +kernel : pm_fe 187 140 = some (.aload_n 0, 1)) rfl).trans ?_
  refine (px_go (by decide +kernel : pm_fe 187 141 = some (.lconst 0, 1)) rfl).trans ?_
  refine (px_put1 (idx := 32) (ci := 12) (k := 7) (by decide +kernel)).trans ((and_iff_right h1).trans ?_)
  refine (px_go (by decide +kernel : pm_fe 187 145 = some (.aload_n 0, 1)) rfl).trans ?_
  refine (px_go (by decide +kernel : pm_fe 187 146 = some (.iconst 3, 1)) rfl).trans ?_
  refine (px_put0 (idx := 20) (ci := 12) (k := 3) (by decide +kernel)).trans ((and_iff_right h1).trans ?_)
  exact Iff.rfl
theorem b187_150 {d : Nat} {G : PG} {M T : PH} {K : PV → PS → Prop} {l0 l1 l2 l3 : Int} (h1 : pm_ob G l0 12) : pm_Run d 187 150 [.inr (.inr (.inl l0)), .inl l1, .inl l2, .inl l3, PU, PU] [] (G, M, T) K ↔ if pm_sg l2 ≠ 0 then pm_Run d 187 176 [.inr (.inr (.inl l0)), .inl l1, .inl l2, .inl l3, PU, PU] [] (G, pm_sa M l0.toNat (pm_up (M l0.toNat) 5 (l1 + 1)), T) K else pm_Run d 187 161 [.inr (.inr (.inl l0)), .inl l1, .inl l2, .inl l3, PU, PU] [] (G, pm_sa M l0.toNat (pm_up (M l0.toNat) 5 (l1 + 1)), T) K := by
  refine (px_go (by decide +kernel : pm_fe 187 150 = some (.aload_n 0, 1)) rfl).trans ?_
  refine (px_go (by decide +kernel : pm_fe 187 151 = some (.iload_n 1, 1)) rfl).trans ?_
  refine (px_go (by decide +kernel : pm_fe 187 152 = some (.iconst 1, 1)) rfl).trans ?_
  refine (px_go (by decide +kernel : pm_fe 187 153 = some (.iadd, 1)) rfl).trans ?_
  refine (px_put0 (idx := 26) (ci := 12) (k := 5) (by decide +kernel)).trans ((and_iff_right h1).trans ?_)
  refine (px_go (by decide +kernel : pm_fe 187 157 = some (.iload_n 2, 1)) rfl).trans ?_
  refine (px_if_ne (off := 18) (tgt := 176) (by decide +kernel)).trans ?_
  exact Iff.rfl
theorem b187_161 {d : Nat} {G : PG} {M T : PH} {K : PV → PS → Prop} {l0 l1 l2 l3 : Int} : pm_Run d 187 161 [.inr (.inr (.inl l0)), .inl l1, .inl l2, .inl l3, PU, PU] [] (G, M, T) K ↔ if pm_sg l3 ≠ 0 then pm_Run d 187 176 [.inr (.inr (.inl l0)), .inl l1, .inl l2, .inl l3, PU, PU] [] (G, M, T) K else pm_Run d 187 165 [.inr (.inr (.inl l0)), .inl l1, .inl l2, .inl l3, PU, PU] [] (G, M, T) K := by
  refine (px_go (by decide +kernel : pm_fe 187 161 = some (.iload_n 3, 1)) rfl).trans ?_
  refine (px_if_ne (off := 14) (tgt := 176) (by decide +kernel)).trans ?_
  exact Iff.rfl
theorem b187_165 {d : Nat} {G : PG} {M T : PH} {K : PV → PS → Prop} {l0 l1 l2 l3 : Int} (h1 : pm_ob G l0 12) (h2 : pm_ar G (T l0.toNat 0) 100 l1) : pm_Run d 187 165 [.inr (.inr (.inl l0)), .inl l1, .inl l2, .inl l3, PU, PU] [] (G, M, T) K ↔ K PU (G, pm_sa M l0.toNat (pm_up (M l0.toNat) 6 (M (T l0.toNat 0).toNat (pm_sg l1).toNat)), T) := by
  refine (px_go (by decide +kernel : pm_fe 187 165 = some (.aload_n 0, 1)) rfl).trans ?_
  refine (px_go (by decide +kernel : pm_fe 187 166 = some (.aload_n 0, 1)) rfl).trans ?_
  refine (px_get2 (idx := 7) (ci := 12) (k := 0) (by decide +kernel)).trans ((and_iff_right h1).trans ?_)
  refine (px_go (by decide +kernel : pm_fe 187 170 = some (.iload_n 1, 1)) rfl).trans ?_
  refine (px_iaload (by decide +kernel) h2).trans ?_
  refine (px_put0 (idx := 29) (ci := 12) (k := 6) (by decide +kernel)).trans ((and_iff_right h1).trans ?_)
  refine (px_rv (by decide +kernel)).trans ?_
  exact Iff.rfl
theorem b187_176 {d : Nat} {G : PG} {M T : PH} {K : PV → PS → Prop} {l0 l1 l2 l3 : Int} : pm_Run d 187 176 [.inr (.inr (.inl l0)), .inl l1, .inl l2, .inl l3, PU, PU] [] (G, M, T) K ↔ if pm_sg l2 = 0 then pm_Run d 187 185 [.inr (.inr (.inl l0)), .inl l1, .inl l2, .inl l3, PU, PU] [.inr (.inr (.inl l0))] (G, M, T) K else pm_Run d 187 181 [.inr (.inr (.inl l0)), .inl l1, .inl l2, .inl l3, PU, PU] [.inr (.inr (.inl l0))] (G, M, T) K := by
  refine (px_go (by decide +kernel : pm_fe 187 176 = some (.aload_n 0, 1)) rfl).trans ?_
  refine (px_go (by decide +kernel : pm_fe 187 177 = some (.iload_n 2, 1)) rfl).trans ?_
  refine (px_if_eq (off := 7) (tgt := 185) (by decide +kernel)).trans ?_
  exact Iff.rfl
theorem b187_181 {d : Nat} {G : PG} {M T : PH} {K : PV → PS → Prop} {l0 l1 l2 l3 s0 : Int} : pm_Run d 187 181 [.inr (.inr (.inl l0)), .inl l1, .inl l2, .inl l3, PU, PU] [.inr (.inr (.inl s0))] (G, M, T) K ↔ pm_Run d 187 186 [.inr (.inr (.inl l0)), .inl l1, .inl l2, .inl l3, PU, PU] [.inl 1, .inr (.inr (.inl s0))] (G, M, T) K := by
  refine (px_go (by decide +kernel : pm_fe 187 181 = some (.iconst 1, 1)) rfl).trans ?_
  refine (px_goto (off := 4) (tgt := 186) (by decide +kernel)).trans ?_
  exact Iff.rfl
theorem b187_185 {d : Nat} {G : PG} {M T : PH} {K : PV → PS → Prop} {l0 l1 l2 l3 s0 : Int} : pm_Run d 187 185 [.inr (.inr (.inl l0)), .inl l1, .inl l2, .inl l3, PU, PU] [.inr (.inr (.inl s0))] (G, M, T) K ↔ pm_Run d 187 186 [.inr (.inr (.inl l0)), .inl l1, .inl l2, .inl l3, PU, PU] [.inl 2, .inr (.inr (.inl s0))] (G, M, T) K := by
  refine (px_go (by decide +kernel : pm_fe 187 185 = some (.iconst 2, 1)) rfl).trans ?_
  exact Iff.rfl
theorem b187_186 {d : Nat} {G : PG} {M T : PH} {K : PV → PS → Prop} {l0 l1 l2 l3 s0 s1 : Int} (h1 : pm_ob G s1 12) : pm_Run d 187 186 [.inr (.inr (.inl l0)), .inl l1, .inl l2, .inl l3, PU, PU] [.inl s0, .inr (.inr (.inl s1))] (G, M, T) K ↔ if pm_sg l2 = 0 then pm_Run d 187 198 [.inr (.inr (.inl l0)), .inl l1, .inl l2, .inl l3, PU, PU] [] (G, pm_sa M s1.toNat (pm_up (M s1.toNat) 3 s0), T) K else pm_Run d 187 193 [.inr (.inr (.inl l0)), .inl l1, .inl l2, .inl l3, PU, PU] [] (G, pm_sa M s1.toNat (pm_up (M s1.toNat) 3 s0), T) K := by
  refine (px_put0 (idx := 20) (ci := 12) (k := 3) (by decide +kernel)).trans ((and_iff_right h1).trans ?_)
  refine (px_go (by decide +kernel : pm_fe 187 189 = some (.iload_n 2, 1)) rfl).trans ?_
  refine (px_if_eq (off := 8) (tgt := 198) (by decide +kernel)).trans ?_
  exact Iff.rfl
theorem b187_193 {d : Nat} {G : PG} {M T : PH} {K : PV → PS → Prop} {l0 l1 l2 l3 : Int} : pm_Run d 187 193 [.inr (.inr (.inl l0)), .inl l1, .inl l2, .inl l3, PU, PU] [] (G, M, T) K ↔ pm_Run d 187 199 [.inr (.inr (.inl l0)), .inl l1, .inl l2, .inl l3, PU, PU] [.inl 6] (G, M, T) K := by
  refine (px_go (by decide +kernel : pm_fe 187 193 = some (.bipush 6, 2)) rfl).trans ?_
  refine (px_goto (off := 4) (tgt := 199) (by decide +kernel)).trans ?_
  exact Iff.rfl
theorem b187_198 {d : Nat} {G : PG} {M T : PH} {K : PV → PS → Prop} {l0 l1 l2 l3 : Int} : pm_Run d 187 198 [.inr (.inr (.inl l0)), .inl l1, .inl l2, .inl l3, PU, PU] [] (G, M, T) K ↔ pm_Run d 187 199 [.inr (.inr (.inl l0)), .inl l1, .inl l2, .inl l3, PU, PU] [.inl 4] (G, M, T) K := by
  refine (px_go (by decide +kernel : pm_fe 187 198 = some (.iconst 4, 1)) rfl).trans ?_
  exact Iff.rfl
theorem b187_199 {d : Nat} {G : PG} {M T : PH} {K : PV → PS → Prop} {l0 l1 l2 l3 s0 : Int} : pm_Run d 187 199 [.inr (.inr (.inl l0)), .inl l1, .inl l2, .inl l3, PU, PU] [.inl s0] (G, M, T) K ↔ pm_Run d 187 204 [.inr (.inr (.inl l0)), .inl l1, .inl l2, .inl l3, .inl s0, .inl 0] [] (G, M, T) K := by
  refine (px_go (by decide +kernel : pm_fe 187 199 = some (.istore 4, 2)) rfl).trans ?_
  refine (px_go (by decide +kernel : pm_fe 187 201 = some (.iconst 0, 1)) rfl).trans ?_
  refine (px_go (by decide +kernel : pm_fe 187 202 = some (.istore 5, 2)) rfl).trans ?_
  exact Iff.rfl
theorem b187_204 {d : Nat} {G : PG} {M T : PH} {K : PV → PS → Prop} {l0 l1 l2 l3 l4 l5 : Int} (h1 : pm_ob G l0 12) : pm_Run d 187 204 [.inr (.inr (.inl l0)), .inl l1, .inl l2, .inl l3, .inl l4, .inl l5] [] (G, M, T) K ↔ if pm_sg (M l0.toNat 2) ≤ pm_sg l1 then pm_Run d 187 334 [.inr (.inr (.inl l0)), .inl l1, .inl l2, .inl l3, .inl l4, .inl l5] [] (G, M, T) K else pm_Run d 187 212 [.inr (.inr (.inl l0)), .inl l1, .inl l2, .inl l3, .inl l4, .inl l5] [] (G, M, T) K := by
  refine (px_go (by decide +kernel : pm_fe 187 204 = some (.iload_n 1, 1)) rfl).trans ?_
  refine (px_go (by decide +kernel : pm_fe 187 205 = some (.aload_n 0, 1)) rfl).trans ?_
  refine (px_get0 (idx := 17) (ci := 12) (k := 2) (by decide +kernel)).trans ((and_iff_right h1).trans ?_)
  refine (px_ic_ge (off := 125) (tgt := 334) (by decide +kernel)).trans ?_
  exact Iff.rfl
theorem b187_212 {d : Nat} {G : PG} {M T : PH} {K : PV → PS → Prop} {l0 l1 l2 l3 l4 l5 : Int} : pm_Run d 187 212 [.inr (.inr (.inl l0)), .inl l1, .inl l2, .inl l3, .inl l4, .inl l5] [] (G, M, T) K ↔ if pm_sg l2 = 0 then pm_Run d 187 231 [.inr (.inr (.inl l0)), .inl l1, .inl l2, .inl l3, .inl l4, .inl l5] [] (G, M, T) K else pm_Run d 187 216 [.inr (.inr (.inl l0)), .inl l1, .inl l2, .inl l3, .inl l4, .inl l5] [] (G, M, T) K := by
  refine (px_go (by decide +kernel : pm_fe 187 212 = some (.iload_n 2, 1)) rfl).trans ?_
  refine (px_if_eq (off := 18) (tgt := 231) (by decide +kernel)).trans ?_
  exact Iff.rfl
theorem b187_216 {d : Nat} {G : PG} {M T : PH} {K : PV → PS → Prop} {l0 l1 l2 l3 l4 l5 : Int} (h1 : pm_ob G l0 12) (h2 : pm_ar G (T l0.toNat 0) 100 l1) : pm_Run d 187 216 [.inr (.inr (.inl l0)), .inl l1, .inl l2, .inl l3, .inl l4, .inl l5] [] (G, M, T) K ↔ pm_Call d 184 [.inl (M (T l0.toNat 0).toNat (pm_sg l1).toNat)] (G, M, T) (fun r S1 => pm_Run d 187 225 [.inr (.inr (.inl l0)), .inl l1, .inl l2, .inl l3, .inl l4, .inl l5] (pm_push r []) S1 K) := by
  refine (px_go (by decide +kernel : pm_fe 187 216 = some (.aload_n 0, 1)) rfl).trans ?_
  refine (px_get2 (idx := 7) (ci := 12) (k := 0) (by decide +kernel)).trans ((and_iff_right h1).trans ?_)
  refine (px_go (by decide +kernel : pm_fe 187 220 = some (.iload_n 1, 1)) rfl).trans ?_
  refine (px_iaload (by decide +kernel) h2).trans ?_
  refine (px_s1 (idx := 255) (m' := 184) (nest := 0) (by decide +kernel)).trans ((and_iff_right (by simp [pm_wl_n, pm_wl_c, pm_w] : pm_wl [] ≤ 8)).trans ?_)
  exact Iff.rfl
theorem b187_225 {d : Nat} {G : PG} {M T : PH} {K : PV → PS → Prop} {l0 l1 l2 l3 l4 l5 s0 : Int} : pm_Run d 187 225 [.inr (.inr (.inl l0)), .inl l1, .inl l2, .inl l3, .inl l4, .inl l5] [.inl s0] (G, M, T) K ↔ if pm_sg s0 = 0 then pm_Run d 187 334 [.inr (.inr (.inl l0)), .inl l1, .inl l2, .inl l3, .inl l4, .inl l5] [] (G, M, T) K else pm_Run d 187 228 [.inr (.inr (.inl l0)), .inl l1, .inl l2, .inl l3, .inl l4, .inl l5] [] (G, M, T) K := by
  refine (px_if_eq (off := 109) (tgt := 334) (by decide +kernel)).trans ?_
  exact Iff.rfl
theorem b187_228 {d : Nat} {G : PG} {M T : PH} {K : PV → PS → Prop} {l0 l1 l2 l3 l4 l5 : Int} : pm_Run d 187 228 [.inr (.inr (.inl l0)), .inl l1, .inl l2, .inl l3, .inl l4, .inl l5] [] (G, M, T) K ↔ pm_Run d 187 243 [.inr (.inr (.inl l0)), .inl l1, .inl l2, .inl l3, .inl l4, .inl l5] [] (G, M, T) K := by
  refine (px_goto (off := 15) (tgt := 243) (by decide +kernel)).trans ?_
  exact Iff.rfl
theorem b187_231 {d : Nat} {G : PG} {M T : PH} {K : PV → PS → Prop} {l0 l1 l2 l3 l4 l5 : Int} (h1 : pm_ob G l0 12) (h2 : pm_ar G (T l0.toNat 0) 100 l1) : pm_Run d 187 231 [.inr (.inr (.inl l0)), .inl l1, .inl l2, .inl l3, .inl l4, .inl l5] [] (G, M, T) K ↔ pm_Call d 185 [.inl (M (T l0.toNat 0).toNat (pm_sg l1).toNat)] (G, M, T) (fun r S1 => pm_Run d 187 240 [.inr (.inr (.inl l0)), .inl l1, .inl l2, .inl l3, .inl l4, .inl l5] (pm_push r []) S1 K) := by
  refine (px_go (by decide +kernel : pm_fe 187 231 = some (.aload_n 0, 1)) rfl).trans ?_
  refine (px_get2 (idx := 7) (ci := 12) (k := 0) (by decide +kernel)).trans ((and_iff_right h1).trans ?_)
  refine (px_go (by decide +kernel : pm_fe 187 235 = some (.iload_n 1, 1)) rfl).trans ?_
  refine (px_iaload (by decide +kernel) h2).trans ?_
  refine (px_s1 (idx := 259) (m' := 185) (nest := 0) (by decide +kernel)).trans ((and_iff_right (by simp [pm_wl_n, pm_wl_c, pm_w] : pm_wl [] ≤ 8)).trans ?_)
  exact Iff.rfl
theorem b187_240 {d : Nat} {G : PG} {M T : PH} {K : PV → PS → Prop} {l0 l1 l2 l3 l4 l5 s0 : Int} : pm_Run d 187 240 [.inr (.inr (.inl l0)), .inl l1, .inl l2, .inl l3, .inl l4, .inl l5] [.inl s0] (G, M, T) K ↔ if pm_sg s0 = 0 then pm_Run d 187 334 [.inr (.inr (.inl l0)), .inl l1, .inl l2, .inl l3, .inl l4, .inl l5] [] (G, M, T) K else pm_Run d 187 243 [.inr (.inr (.inl l0)), .inl l1, .inl l2, .inl l3, .inl l4, .inl l5] [] (G, M, T) K := by
  refine (px_if_eq (off := 94) (tgt := 334) (by decide +kernel)).trans ?_
  exact Iff.rfl
theorem b187_243 {d : Nat} {G : PG} {M T : PH} {K : PV → PS → Prop} {l0 l1 l2 l3 l4 l5 : Int} : pm_Run d 187 243 [.inr (.inr (.inl l0)), .inl l1, .inl l2, .inl l3, .inl l4, .inl l5] [] (G, M, T) K ↔ if pm_sg l5 ≠ pm_sg l4 then pm_Run d 187 263 [.inr (.inr (.inl l0)), .inl l1, .inl l2, .inl l3, .inl l4, .inl l5] [] (G, M, T) K else pm_Run d 187 250 [.inr (.inr (.inl l0)), .inl l1, .inl l2, .inl l3, .inl l4, .inl l5] [] (G, M, T) K := by
  refine (px_go (by decide +kernel : pm_fe 187 243 = some (.iload 5, 2)) rfl).trans ?_
  refine (px_go (by decide +kernel : pm_fe 187 245 = some (.iload 4, 2)) rfl).trans ?_
  refine (px_ic_ne (off := 16) (tgt := 263) (by decide +kernel)).trans ?_
  exact Iff.rfl
theorem b187_250 {d : Nat} {G : PG} {M T : PH} {K : PV → PS → Prop} {l0 l1 l2 l3 l4 l5 : Int} (h1 : pm_ob G l0 12) : pm_Run d 187 250 [.inr (.inr (.inl l0)), .inl l1, .inl l2, .inl l3, .inl l4, .inl l5] [] (G, M, T) K ↔ if pm_sg (M l0.toNat 12) ≠ pm_sg (-1) then pm_Run d 187 263 [.inr (.inr (.inl l0)), .inl l1, .inl l2, .inl l3, .inl l4, .inl l5] [] (G, M, T) K else pm_Run d 187 258 [.inr (.inr (.inl l0)), .inl l1, .inl l2, .inl l3, .inl l4, .inl l5] [] (G, M, T) K := by
  refine (px_go (by decide +kernel : pm_fe 187 250 = some (.aload_n 0, 1)) rfl).trans ?_
  refine (px_get0 (idx := 48) (ci := 12) (k := 12) (by decide +kernel)).trans ((and_iff_right h1).trans ?_)
  refine (px_go (by decide +kernel : pm_fe 187 254 = some (.iconst (-1), 1)) rfl).trans ?_
  refine (px_ic_ne (off := 8) (tgt := 263) (by decide +kernel)).trans ?_
  exact Iff.rfl
theorem b187_258 {d : Nat} {G : PG} {M T : PH} {K : PV → PS → Prop} {l0 l1 l2 l3 l4 l5 : Int} (h1 : pm_ob G l0 12) : pm_Run d 187 258 [.inr (.inr (.inl l0)), .inl l1, .inl l2, .inl l3, .inl l4, .inl l5] [] (G, M, T) K ↔ pm_Run d 187 263 [.inr (.inr (.inl l0)), .inl l1, .inl l2, .inl l3, .inl l4, .inl l5] [] (G, pm_sa M l0.toNat (pm_up (M l0.toNat) 12 l1), T) K := by
  refine (px_go (by decide +kernel : pm_fe 187 258 = some (.aload_n 0, 1)) rfl).trans ?_
  refine (px_go (by decide +kernel : pm_fe 187 259 = some (.iload_n 1, 1)) rfl).trans ?_
  refine (px_put0 (idx := 48) (ci := 12) (k := 12) (by decide +kernel)).trans ((and_iff_right h1).trans ?_)
  exact Iff.rfl
theorem b187_263 {d : Nat} {G : PG} {M T : PH} {K : PV → PS → Prop} {l0 l1 l2 l3 l4 l5 : Int} : pm_Run d 187 263 [.inr (.inr (.inl l0)), .inl l1, .inl l2, .inl l3, .inl l4, .inl l5] [] (G, M, T) K ↔ if pm_sg l4 ≤ pm_sg l5 then pm_Run d 187 293 [.inr (.inr (.inl l0)), .inl l1, .inl l2, .inl l3, .inl l4, .inl l5] [] (G, M, T) K else pm_Run d 187 270 [.inr (.inr (.inl l0)), .inl l1, .inl l2, .inl l3, .inl l4, .inl l5] [] (G, M, T) K := by
  refine (px_go (by decide +kernel : pm_fe 187 263 = some (.iload 5, 2)) rfl).trans ?_
  refine (px_go (by decide +kernel : pm_fe 187 265 = some (.iload 4, 2)) rfl).trans ?_
  refine (px_ic_ge (off := 26) (tgt := 293) (by decide +kernel)).trans ?_
  exact Iff.rfl
theorem b187_270 {d : Nat} {G : PG} {M T : PH} {K : PV → PS → Prop} {l0 l1 l2 l3 l4 l5 : Int} : pm_Run d 187 270 [.inr (.inr (.inl l0)), .inl l1, .inl l2, .inl l3, .inl l4, .inl l5] [] (G, M, T) K ↔ if pm_sg l2 = 0 then pm_Run d 187 293 [.inr (.inr (.inl l0)), .inl l1, .inl l2, .inl l3, .inl l4, .inl l5] [] (G, M, T) K else pm_Run d 187 274 [.inr (.inr (.inl l0)), .inl l1, .inl l2, .inl l3, .inl l4, .inl l5] [] (G, M, T) K := by
  refine (px_go (by decide +kernel : pm_fe 187 270 = some (.iload_n 2, 1)) rfl).trans ?_
  refine (px_if_eq (off := 22) (tgt := 293) (by decide +kernel)).trans ?_
  exact Iff.rfl
theorem b187_274 {d : Nat} {G : PG} {M T : PH} {K : PV → PS → Prop} {l0 l1 l2 l3 l4 l5 : Int} (h1 : pm_ob G l0 12) (h2 : pm_ar G (T l0.toNat 0) 100 l1) : pm_Run d 187 274 [.inr (.inr (.inl l0)), .inl l1, .inl l2, .inl l3, .inl l4, .inl l5] [] (G, M, T) K ↔ pm_Run d 187 293 [.inr (.inr (.inl l0)), .inl l1, .inl l2, .inl l3, .inl l4, .inl l5] [] (G, pm_sa M l0.toNat (pm_up (M l0.toNat) 7 (pm_lor (pm_lshl (M l0.toNat 7) 8) (pm_sg (M (T l0.toNat 0).toNat (pm_sg l1).toNat)))), T) K := by
  refine (px_go (by decide +kernel : pm_fe 187 274 = some (.aload_n 0, 1)) rfl).trans ?_
  refine (px_go (by decide +kernel : pm_fe 187 275 = some (.aload_n 0, 1)) rfl).trans ?_
  refine (px_get1 (idx := 32) (ci := 12) (k := 7) (by decide +kernel)).trans ((and_iff_right h1).trans ?_)
  refine (px_go (by decide +kernel : pm_fe 187 279 = some (.bipush 8, 2)) rfl).trans ?_
  refine (px_go (by decide +kernel : pm_fe 187 281 = some (.lshl, 1)) rfl).trans ?_
  refine (px_go (by decide +kernel : pm_fe 187 282 = some (.aload_n 0, 1)) rfl).trans ?_
  refine (px_get2 (idx := 7) (ci := 12) (k := 0) (by decide +kernel)).trans ((and_iff_right h1).trans ?_)
  refine (px_go (by decide +kernel : pm_fe 187 286 = some (.iload_n 1, 1)) rfl).trans ?_
  refine (px_iaload (by decide +kernel) h2).trans ?_
  refine (px_go (by decide +kernel : pm_fe 187 288 = some (.i2l, 1)) rfl).trans ?_
  refine (px_go (by decide +kernel : pm_fe 187 289 = some (.lor, 1)) rfl).trans ?_
  refine (px_put1 (idx := 32) (ci := 12) (k := 7) (by decide +kernel)).trans ((and_iff_right h1).trans ?_)
  exact Iff.rfl
theorem b187_293 {d : Nat} {G : PG} {M T : PH} {K : PV → PS → Prop} {l0 l1 l2 l3 l4 l5 : Int} : pm_Run d 187 293 [.inr (.inr (.inl l0)), .inl l1, .inl l2, .inl l3, .inl l4, .inl l5] [] (G, M, T) K ↔ if pm_sg l4 ≤ pm_sg l5 then pm_Run d 187 325 [.inr (.inr (.inl l0)), .inl l1, .inl l2, .inl l3, .inl l4, .inl l5] [] (G, M, T) K else pm_Run d 187 300 [.inr (.inr (.inl l0)), .inl l1, .inl l2, .inl l3, .inl l4, .inl l5] [] (G, M, T) K := by
  refine (px_go (by decide +kernel : pm_fe 187 293 = some (.iload 5, 2)) rfl).trans ?_
  refine (px_go (by decide +kernel : pm_fe 187 295 = some (.iload 4, 2)) rfl).trans ?_
  refine (px_ic_ge (off := 28) (tgt := 325) (by decide +kernel)).trans ?_
  exact Iff.rfl
theorem b187_300 {d : Nat} {G : PG} {M T : PH} {K : PV → PS → Prop} {l0 l1 l2 l3 l4 l5 : Int} : pm_Run d 187 300 [.inr (.inr (.inl l0)), .inl l1, .inl l2, .inl l3, .inl l4, .inl l5] [] (G, M, T) K ↔ if pm_sg l3 = 0 then pm_Run d 187 325 [.inr (.inr (.inl l0)), .inl l1, .inl l2, .inl l3, .inl l4, .inl l5] [] (G, M, T) K else pm_Run d 187 304 [.inr (.inr (.inl l0)), .inl l1, .inl l2, .inl l3, .inl l4, .inl l5] [] (G, M, T) K := by
  refine (px_go (by decide +kernel : pm_fe 187 300 = some (.iload_n 3, 1)) rfl).trans ?_
  refine (px_if_eq (off := 24) (tgt := 325) (by decide +kernel)).trans ?_
  exact Iff.rfl
theorem b187_304 {d : Nat} {G : PG} {M T : PH} {K : PV → PS → Prop} {l0 l1 l2 l3 l4 l5 : Int} (h1 : pm_ob G l0 12) (h2 : pm_ar G (T l0.toNat 0) 100 l1) : pm_Run d 187 304 [.inr (.inr (.inl l0)), .inl l1, .inl l2, .inl l3, .inl l4, .inl l5] [] (G, M, T) K ↔ pm_Run d 187 325 [.inr (.inr (.inl l0)), .inl l1, .inl l2, .inl l3, .inl l4, .inl l5] [] (G, pm_sa M l0.toNat (pm_up (M l0.toNat) 6 (((10 * (M l0.toNat 6)) + (M (T l0.toNat 0).toNat (pm_sg l1).toNat)) - 48)), T) K := by
  refine (px_go (by decide +kernel : pm_fe 187 304 = some (.aload_n 0, 1)) rfl).trans ?_
  refine (px_go (by decide +kernel : pm_fe 187 305 = some (.bipush 10, 2)) rfl).trans ?_
  refine (px_go (by decide +kernel : pm_fe 187 307 = some (.aload_n 0, 1)) rfl).trans ?_
  refine (px_get0 (idx := 29) (ci := 12) (k := 6) (by decide +kernel)).trans ((and_iff_right h1).trans ?_)
  refine (px_go (by decide +kernel : pm_fe 187 311 = some (.imul, 1)) rfl).trans ?_
  refine (px_go (by decide +kernel : pm_fe 187 312 = some (.aload_n 0, 1)) rfl).trans ?_
  refine (px_get2 (idx := 7) (ci := 12) (k := 0) (by decide +kernel)).trans ((and_iff_right h1).trans ?_)
  refine (px_go (by decide +kernel : pm_fe 187 316 = some (.iload_n 1, 1)) rfl).trans ?_
  refine (px_iaload (by decide +kernel) h2).trans ?_
  refine (px_go (by decide +kernel : pm_fe 187 318 = some (.iadd, 1)) rfl).trans ?_
  refine (px_go (by decide +kernel : pm_fe 187 319 = some (.bipush 48, 2)) rfl).trans ?_
  refine (px_go (by decide +kernel : pm_fe 187 321 = some (.isub, 1)) rfl).trans ?_
  refine (px_put0 (idx := 29) (ci := 12) (k := 6) (by decide +kernel)).trans ((and_iff_right h1).trans ?_)
  exact Iff.rfl
theorem b187_325 {d : Nat} {G : PG} {M T : PH} {K : PV → PS → Prop} {l0 l1 l2 l3 l4 l5 : Int} : pm_Run d 187 325 [.inr (.inr (.inl l0)), .inl l1, .inl l2, .inl l3, .inl l4, .inl l5] [] (G, M, T) K ↔ pm_Run d 187 204 [.inr (.inr (.inl l0)), .inl (l1 + 1), .inl l2, .inl l3, .inl l4, .inl (l5 + 1)] [] (G, M, T) K := by
  refine (px_go (by decide +kernel : pm_fe 187 325 = some (.iinc 5 1, 3)) rfl).trans ?_
  refine (px_go (by decide +kernel : pm_fe 187 328 = some (.iinc 1 1, 3)) rfl).trans ?_
  refine (px_goto (off := (-127)) (tgt := 204) (by decide +kernel)).trans ?_
  exact Iff.rfl
theorem b187_334 {d : Nat} {G : PG} {M T : PH} {K : PV → PS → Prop} {l0 l1 l2 l3 l4 l5 : Int} (h1 : pm_ob G l0 12) : pm_Run d 187 334 [.inr (.inr (.inl l0)), .inl l1, .inl l2, .inl l3, .inl l4, .inl l5] [] (G, M, T) K ↔ K PU (G, pm_sa M l0.toNat (pm_up (M l0.toNat) 5 l1), T) := by
  refine (px_go (by decide +kernel : pm_fe 187 334 = some (.aload_n 0, 1)) rfl).trans ?_
  refine (px_go (by decide +kernel : pm_fe 187 335 = some (.iload_n 1, 1)) rfl).trans ?_
  refine (px_put0 (idx := 26) (ci := 12) (k := 5) (by decide +kernel)).trans ((and_iff_right h1).trans ?_)
  refine (px_rv (by decide +kernel)).trans ?_
  exact Iff.rfl
-- X12_isSign isSign(I)Z
theorem en188 {d : Nat} {a p0 : Int} {S : PS} {K : PV → PS → Prop} : pm_Call (d + 1) 188 [.inr (.inr (.inl a)), .inl p0] S K ↔ pm_Run d 188 0 [.inr (.inr (.inl a)), .inl p0] [] S K := pm_Call_s.trans (and_iff_right (show 2 ≤ pm_ml 188 from by decide +kernel))
theorem b188_0 {d : Nat} {G : PG} {M T : PH} {K : PV → PS → Prop} {l0 l1 : Int} (h1 : pm_ob G l0 12) : pm_Run d 188 0 [.inr (.inr (.inl l0)), .inl l1] [] (G, M, T) K ↔ if pm_sg (M l0.toNat 3) ≠ pm_sg 3 then pm_Run d 188 20 [.inr (.inr (.inl l0)), .inl l1] [] (G, M, T) K else pm_Run d 188 8 [.inr (.inr (.inl l0)), .inl l1] [] (G, M, T) K := by
  refine (px_go (by decide +kernel : pm_fe 188 0 = some (.aload_n 0, 1)) rfl).trans ?_
  refine (px_get0 (idx := 20) (ci := 12) (k := 3) (by decide +kernel)).trans ((and_iff_right h1).trans ?_)
  refine (px_go (by decide +kernel : pm_fe 188 4 = some (.iconst 3, 1)) rfl).trans ?_
  refine (px_ic_ne (off := 15) (tgt := 20) (by decide +kernel)).trans ?_
  exact Iff.rfl
theorem b188_8 {d : Nat} {G : PG} {M T : PH} {K : PV → PS → Prop} {l0 l1 : Int} (h1 : pm_ob G l0 12) : pm_Run d 188 8 [.inr (.inr (.inl l0)), .inl l1] [] (G, M, T) K ↔ if pm_sg (M l0.toNat 6) ≠ pm_sg l1 then pm_Run d 188 20 [.inr (.inr (.inl l0)), .inl l1] [] (G, M, T) K else pm_Run d 188 16 [.inr (.inr (.inl l0)), .inl l1] [] (G, M, T) K := by
  refine (px_go (by decide +kernel : pm_fe 188 8 = some (.aload_n 0, 1)) rfl).trans ?_
  refine (px_get0 (idx := 29) (ci := 12) (k := 6) (by decide +kernel)).trans ((and_iff_right h1).trans ?_)
  refine (px_go (by decide +kernel : pm_fe 188 12 = some (.iload_n 1, 1)) rfl).trans ?_
  refine (px_ic_ne (off := 7) (tgt := 20) (by decide +kernel)).trans ?_
  exact Iff.rfl
theorem b188_16 {d : Nat} {G : PG} {M T : PH} {K : PV → PS → Prop} {l0 l1 : Int} : pm_Run d 188 16 [.inr (.inr (.inl l0)), .inl l1] [] (G, M, T) K ↔ pm_Run d 188 21 [.inr (.inr (.inl l0)), .inl l1] [.inl 1] (G, M, T) K := by
  refine (px_go (by decide +kernel : pm_fe 188 16 = some (.iconst 1, 1)) rfl).trans ?_
  refine (px_goto (off := 4) (tgt := 21) (by decide +kernel)).trans ?_
  exact Iff.rfl
theorem b188_20 {d : Nat} {G : PG} {M T : PH} {K : PV → PS → Prop} {l0 l1 : Int} : pm_Run d 188 20 [.inr (.inr (.inl l0)), .inl l1] [] (G, M, T) K ↔ pm_Run d 188 21 [.inr (.inr (.inl l0)), .inl l1] [.inl 0] (G, M, T) K := by
  refine (px_go (by decide +kernel : pm_fe 188 20 = some (.iconst 0, 1)) rfl).trans ?_
  exact Iff.rfl
theorem b188_21 {d : Nat} {G : PG} {M T : PH} {K : PV → PS → Prop} {l0 l1 s0 : Int} (h1 : s0 = 0 ∨ s0 = 1) : pm_Run d 188 21 [.inr (.inr (.inl l0)), .inl l1] [.inl s0] (G, M, T) K ↔ K (.inl s0) (G, M, T) := by
  refine (px_rz (by decide +kernel)).trans ((and_iff_right h1).trans ?_)
  exact Iff.rfl
-- X12_isWord isWord(J)Z
theorem en189 {d : Nat} {a p0 : Int} {S : PS} {K : PV → PS → Prop} : pm_Call (d + 1) 189 [.inr (.inr (.inl a)), .inr (.inl p0)] S K ↔ pm_Run d 189 0 [.inr (.inr (.inl a)), .inr (.inl p0), PU] [] S K := pm_Call_s.trans (and_iff_right (show 3 ≤ pm_ml 189 from by decide +kernel))
theorem b189_0 {d : Nat} {G : PG} {M T : PH} {K : PV → PS → Prop} {l0 l1 : Int} (h1 : pm_ob G l0 12) : pm_Run d 189 0 [.inr (.inr (.inl l0)), .inr (.inl l1), PU] [] (G, M, T) K ↔ if pm_sg (M l0.toNat 3) ≠ pm_sg 1 then pm_Run d 189 21 [.inr (.inr (.inl l0)), .inr (.inl l1), PU] [] (G, M, T) K else pm_Run d 189 8 [.inr (.inr (.inl l0)), .inr (.inl l1), PU] [] (G, M, T) K := by
  refine (px_go (by decide +kernel : pm_fe 189 0 = some (.aload_n 0, 1)) rfl).trans ?_
  refine (px_get0 (idx := 20) (ci := 12) (k := 3) (by decide +kernel)).trans ((and_iff_right h1).trans ?_)
  refine (px_go (by decide +kernel : pm_fe 189 4 = some (.iconst 1, 1)) rfl).trans ?_
  refine (px_ic_ne (off := 16) (tgt := 21) (by decide +kernel)).trans ?_
  exact Iff.rfl
theorem b189_8 {d : Nat} {G : PG} {M T : PH} {K : PV → PS → Prop} {l0 l1 : Int} (h1 : pm_ob G l0 12) : pm_Run d 189 8 [.inr (.inr (.inl l0)), .inr (.inl l1), PU] [] (G, M, T) K ↔ if pm_sg (pm_cmp (M l0.toNat 7) l1) ≠ 0 then pm_Run d 189 21 [.inr (.inr (.inl l0)), .inr (.inl l1), PU] [] (G, M, T) K else pm_Run d 189 17 [.inr (.inr (.inl l0)), .inr (.inl l1), PU] [] (G, M, T) K := by
  refine (px_go (by decide +kernel : pm_fe 189 8 = some (.aload_n 0, 1)) rfl).trans ?_
  refine (px_get1 (idx := 32) (ci := 12) (k := 7) (by decide +kernel)).trans ((and_iff_right h1).trans ?_)
  refine (px_go (by decide +kernel : pm_fe 189 12 = some (.lload_n 1, 1)) rfl).trans ?_
  refine (px_go (by decide +kernel : pm_fe 189 13 = some (.lcmp, 1)) rfl).trans ?_
  refine (px_if_ne (off := 7) (tgt := 21) (by decide +kernel)).trans ?_
  exact Iff.rfl
theorem b189_17 {d : Nat} {G : PG} {M T : PH} {K : PV → PS → Prop} {l0 l1 : Int} : pm_Run d 189 17 [.inr (.inr (.inl l0)), .inr (.inl l1), PU] [] (G, M, T) K ↔ pm_Run d 189 22 [.inr (.inr (.inl l0)), .inr (.inl l1), PU] [.inl 1] (G, M, T) K := by
  refine (px_go (by decide +kernel : pm_fe 189 17 = some (.iconst 1, 1)) rfl).trans ?_
  refine (px_goto (off := 4) (tgt := 22) (by decide +kernel)).trans ?_
  exact Iff.rfl
theorem b189_21 {d : Nat} {G : PG} {M T : PH} {K : PV → PS → Prop} {l0 l1 : Int} : pm_Run d 189 21 [.inr (.inr (.inl l0)), .inr (.inl l1), PU] [] (G, M, T) K ↔ pm_Run d 189 22 [.inr (.inr (.inl l0)), .inr (.inl l1), PU] [.inl 0] (G, M, T) K := by
  refine (px_go (by decide +kernel : pm_fe 189 21 = some (.iconst 0, 1)) rfl).trans ?_
  exact Iff.rfl
theorem b189_22 {d : Nat} {G : PG} {M T : PH} {K : PV → PS → Prop} {l0 l1 s0 : Int} (h1 : s0 = 0 ∨ s0 = 1) : pm_Run d 189 22 [.inr (.inr (.inl l0)), .inr (.inl l1), PU] [.inl s0] (G, M, T) K ↔ K (.inl s0) (G, M, T) := by
  refine (px_rz (by decide +kernel)).trans ((and_iff_right h1).trans ?_)
  exact Iff.rfl
-- X12_must must(I)V
theorem en190 {d : Nat} {a p0 : Int} {S : PS} {K : PV → PS → Prop} : pm_Call (d + 1) 190 [.inr (.inr (.inl a)), .inl p0] S K ↔ pm_Run d 190 0 [.inr (.inr (.inl a)), .inl p0] [] S K := pm_Call_s.trans (and_iff_right (show 2 ≤ pm_ml 190 from by decide +kernel))
theorem b190_0 {d : Nat} {G : PG} {M T : PH} {K : PV → PS → Prop} {l0 l1 : Int} (h1 : pm_ob G l0 12) : pm_Run d 190 0 [.inr (.inr (.inl l0)), .inl l1] [] (G, M, T) K ↔ pm_Call d 186 [.inr (.inr (.inl l0))] (G, M, T) (fun r S1 => pm_Run d 190 4 [.inr (.inr (.inl l0)), .inl l1] (pm_push r []) S1 K) := by
  refine (px_go (by decide +kernel : pm_fe 190 0 = some (.aload_n 0, 1)) rfl).trans ?_
  refine (px_v0 (idx := 262) (m' := 186) (ci := 12) (by decide +kernel)).trans ((and_iff_right ⟨h1, (by simp [pm_wl_n, pm_wl_c, pm_w] : pm_wl [] ≤ 8)⟩).trans ?_)
  exact Iff.rfl
theorem b190_4 {d : Nat} {G : PG} {M T : PH} {K : PV → PS → Prop} {l0 l1 : Int} (h1 : pm_ob G l0 12) : pm_Run d 190 4 [.inr (.inr (.inl l0)), .inl l1] [] (G, M, T) K ↔ pm_Call d 188 [.inr (.inr (.inl l0)), .inl l1] (G, M, T) (fun r S1 => pm_Run d 190 9 [.inr (.inr (.inl l0)), .inl l1] (pm_push r []) S1 K) := by
  refine (px_go (by decide +kernel : pm_fe 190 4 = some (.aload_n 0, 1)) rfl).trans ?_
  refine (px_go (by decide +kernel : pm_fe 190 5 = some (.iload_n 1, 1)) rfl).trans ?_
  refine (px_v1 (idx := 265) (m' := 188) (ci := 12) (by decide +kernel)).trans ((and_iff_right ⟨h1, (by simp [pm_wl_n, pm_wl_c, pm_w] : pm_wl [] ≤ 8)⟩).trans ?_)
  exact Iff.rfl
theorem b190_9 {d : Nat} {G : PG} {M T : PH} {K : PV → PS → Prop} {l0 l1 s0 : Int} : pm_Run d 190 9 [.inr (.inr (.inl l0)), .inl l1] [.inl s0] (G, M, T) K ↔ if pm_sg s0 ≠ 0 then pm_Run d 190 21 [.inr (.inr (.inl l0)), .inl l1] [] (G, M, T) K else pm_Run d 190 12 [.inr (.inr (.inl l0)), .inl l1] [] (G, M, T) K := by
  refine (px_if_ne (off := 12) (tgt := 21) (by decide +kernel)).trans ?_
  exact Iff.rfl
theorem b190_12 {d : Nat} {G : PG} {M T : PH} {K : PV → PS → Prop} {l0 l1 : Int} (h1 : pm_ob G l0 12) : pm_Run d 190 12 [.inr (.inr (.inl l0)), .inl l1] [] (G, M, T) K ↔ pm_Call d 183 [.inr (.inr (.inl l0)), .inl 1, .inl (M l0.toNat 4)] (G, M, T) (fun r S1 => pm_Run d 190 21 [.inr (.inr (.inl l0)), .inl l1] (pm_push r []) S1 K) := by
  refine (px_go (by decide +kernel : pm_fe 190 12 = some (.aload_n 0, 1)) rfl).trans ?_
  refine (px_go (by decide +kernel : pm_fe 190 13 = some (.iconst 1, 1)) rfl).trans ?_
  refine (px_go (by decide +kernel : pm_fe 190 14 = some (.aload_n 0, 1)) rfl).trans ?_
  refine (px_get0 (idx := 23) (ci := 12) (k := 4) (by decide +kernel)).trans ((and_iff_right h1).trans ?_)
  refine (px_v2 (idx := 251) (m' := 183) (ci := 12) (by decide +kernel)).trans ((and_iff_right ⟨h1, (by simp [pm_wl_n, pm_wl_c, pm_w] : pm_wl [] ≤ 8)⟩).trans ?_)
  exact Iff.rfl
theorem b190_21 {d : Nat} {G : PG} {M T : PH} {K : PV → PS → Prop} {l0 l1 : Int} (h1 : pm_ob G l0 12) : pm_Run d 190 21 [.inr (.inr (.inl l0)), .inl l1] [] (G, M, T) K ↔ if pm_sg (M l0.toNat 8) ≠ 0 then pm_Run d 190 32 [.inr (.inr (.inl l0)), .inl l1] [] (G, M, T) K else pm_Run d 190 28 [.inr (.inr (.inl l0)), .inl l1] [] (G, M, T) K := by
  refine (px_go (by decide +kernel : pm_fe 190 21 = some (.aload_n 0, 1)) rfl).trans ?_
  refine (px_get0 (idx := 36) (ci := 12) (k := 8) (by decide +kernel)).trans ((and_iff_right h1).trans ?_)
  refine (px_if_ne (off := 7) (tgt := 32) (by decide +kernel)).trans ?_
  exact Iff.rfl
theorem b190_28 {d : Nat} {G : PG} {M T : PH} {K : PV → PS → Prop} {l0 l1 : Int} (h1 : pm_ob G l0 12) : pm_Run d 190 28 [.inr (.inr (.inl l0)), .inl l1] [] (G, M, T) K ↔ pm_Call d 187 [.inr (.inr (.inl l0))] (G, M, T) (fun r S1 => pm_Run d 190 32 [.inr (.inr (.inl l0)), .inl l1] (pm_push r []) S1 K) := by
  refine (px_go (by decide +kernel : pm_fe 190 28 = some (.aload_n 0, 1)) rfl).trans ?_
  refine (px_v0 (idx := 268) (m' := 187) (ci := 12) (by decide +kernel)).trans ((and_iff_right ⟨h1, (by simp [pm_wl_n, pm_wl_c, pm_w] : pm_wl [] ≤ 8)⟩).trans ?_)
  exact Iff.rfl
theorem b190_32 {d : Nat} {G : PG} {M T : PH} {K : PV → PS → Prop} {l0 l1 : Int} : pm_Run d 190 32 [.inr (.inr (.inl l0)), .inl l1] [] (G, M, T) K ↔ K PU (G, M, T) := by
  refine (px_rv (by decide +kernel)).trans ?_
  exact Iff.rfl
-- X12_isOwn isOwn(J)Z
theorem en191 {d : Nat} {a p0 : Int} {S : PS} {K : PV → PS → Prop} : pm_Call (d + 1) 191 [.inr (.inr (.inl a)), .inr (.inl p0)] S K ↔ pm_Run d 191 0 [.inr (.inr (.inl a)), .inr (.inl p0), PU] [] S K := pm_Call_s.trans (and_iff_right (show 3 ≤ pm_ml 191 from by decide +kernel))
theorem b191_0 {d : Nat} {G : PG} {M T : PH} {K : PV → PS → Prop} {l0 l1 : Int} : pm_Run d 191 0 [.inr (.inr (.inl l0)), .inr (.inl l1), PU] [] (G, M, T) K ↔ if pm_sg (pm_cmp l1 7562593) = 0 then pm_Run d 191 40 [.inr (.inr (.inl l0)), .inr (.inl l1), PU] [] (G, M, T) K else pm_Run d 191 8 [.inr (.inr (.inl l0)), .inr (.inl l1), PU] [] (G, M, T) K := by
  refine (px_go (by decide +kernel : pm_fe 191 0 = some (.lload_n 1, 1)) rfl).trans ?_
  refine (px_ldcL (idx := 271) (x := 7562593) (by decide +kernel)).trans ?_
  refine (px_go (by decide +kernel : pm_fe 191 4 = some (.lcmp, 1)) rfl).trans ?_
  refine (px_if_eq (off := 35) (tgt := 40) (by decide +kernel)).trans ?_
  exact Iff.rfl
theorem b191_8 {d : Nat} {G : PG} {M T : PH} {K : PV → PS → Prop} {l0 l1 : Int} : pm_Run d 191 8 [.inr (.inr (.inl l0)), .inr (.inl l1), PU] [] (G, M, T) K ↔ if pm_sg (pm_cmp l1 1836019566) = 0 then pm_Run d 191 40 [.inr (.inr (.inl l0)), .inr (.inl l1), PU] [] (G, M, T) K else pm_Run d 191 16 [.inr (.inr (.inl l0)), .inr (.inl l1), PU] [] (G, M, T) K := by
  refine (px_go (by decide +kernel : pm_fe 191 8 = some (.lload_n 1, 1)) rfl).trans ?_
  refine (px_ldcL (idx := 273) (x := 1836019566) (by decide +kernel)).trans ?_
  refine (px_go (by decide +kernel : pm_fe 191 12 = some (.lcmp, 1)) rfl).trans ?_
  refine (px_if_eq (off := 27) (tgt := 40) (by decide +kernel)).trans ?_
  exact Iff.rfl
theorem b191_16 {d : Nat} {G : PG} {M T : PH} {K : PV → PS → Prop} {l0 l1 : Int} : pm_Run d 191 16 [.inr (.inr (.inl l0)), .inr (.inl l1), PU] [] (G, M, T) K ↔ if pm_sg (pm_cmp l1 24948) = 0 then pm_Run d 191 40 [.inr (.inr (.inl l0)), .inr (.inl l1), PU] [] (G, M, T) K else pm_Run d 191 24 [.inr (.inr (.inl l0)), .inr (.inl l1), PU] [] (G, M, T) K := by
  refine (px_go (by decide +kernel : pm_fe 191 16 = some (.lload_n 1, 1)) rfl).trans ?_
  refine (px_ldcL (idx := 275) (x := 24948) (by decide +kernel)).trans ?_
  refine (px_go (by decide +kernel : pm_fe 191 20 = some (.lcmp, 1)) rfl).trans ?_
  refine (px_if_eq (off := 19) (tgt := 40) (by decide +kernel)).trans ?_
  exact Iff.rfl
theorem b191_24 {d : Nat} {G : PG} {M T : PH} {K : PV → PS → Prop} {l0 l1 : Int} : pm_Run d 191 24 [.inr (.inr (.inl l0)), .inr (.inl l1), PU] [] (G, M, T) K ↔ if pm_sg (pm_cmp l1 1735353715) = 0 then pm_Run d 191 40 [.inr (.inr (.inl l0)), .inr (.inl l1), PU] [] (G, M, T) K else pm_Run d 191 32 [.inr (.inr (.inl l0)), .inr (.inl l1), PU] [] (G, M, T) K := by
  refine (px_go (by decide +kernel : pm_fe 191 24 = some (.lload_n 1, 1)) rfl).trans ?_
  refine (px_ldcL (idx := 277) (x := 1735353715) (by decide +kernel)).trans ?_
  refine (px_go (by decide +kernel : pm_fe 191 28 = some (.lcmp, 1)) rfl).trans ?_
  refine (px_if_eq (off := 11) (tgt := 40) (by decide +kernel)).trans ?_
  exact Iff.rfl
theorem b191_32 {d : Nat} {G : PG} {M T : PH} {K : PV → PS → Prop} {l0 l1 : Int} : pm_Run d 191 32 [.inr (.inr (.inl l0)), .inr (.inl l1), PU] [] (G, M, T) K ↔ if pm_sg (pm_cmp l1 127978976601458) ≠ 0 then pm_Run d 191 42 [.inr (.inr (.inl l0)), .inr (.inl l1), PU] [] (G, M, T) K else pm_Run d 191 40 [.inr (.inr (.inl l0)), .inr (.inl l1), PU] [] (G, M, T) K := by
  refine (px_go (by decide +kernel : pm_fe 191 32 = some (.lload_n 1, 1)) rfl).trans ?_
  refine (px_ldcL (idx := 279) (x := 127978976601458) (by decide +kernel)).trans ?_
  refine (px_go (by decide +kernel : pm_fe 191 36 = some (.lcmp, 1)) rfl).trans ?_
  refine (px_if_ne (off := 5) (tgt := 42) (by decide +kernel)).trans ?_
  exact Iff.rfl
theorem b191_40 {d : Nat} {G : PG} {M T : PH} {K : PV → PS → Prop} {l0 l1 : Int} : pm_Run d 191 40 [.inr (.inr (.inl l0)), .inr (.inl l1), PU] [] (G, M, T) K ↔ K (.inl 1) (G, M, T) := by
  refine (px_go (by decide +kernel : pm_fe 191 40 = some (.iconst 1, 1)) rfl).trans ?_
  refine (px_rz (by decide +kernel)).trans ((and_iff_right (by decide : (1 : Int) = (0 : Int) ∨ (1 : Int) = (1 : Int))).trans ?_)
  exact Iff.rfl
theorem b191_42 {d : Nat} {G : PG} {M T : PH} {K : PV → PS → Prop} {l0 l1 : Int} : pm_Run d 191 42 [.inr (.inr (.inl l0)), .inr (.inl l1), PU] [] (G, M, T) K ↔ if pm_sg (pm_cmp l1 114767740170098) = 0 then pm_Run d 191 82 [.inr (.inr (.inl l0)), .inr (.inl l1), PU] [] (G, M, T) K else pm_Run d 191 50 [.inr (.inr (.inl l0)), .inr (.inl l1), PU] [] (G, M, T) K := by
  refine (px_go (by decide +kernel : pm_fe 191 42 = some (.lload_n 1, 1)) rfl).trans ?_
  refine (px_ldcL (idx := 281) (x := 114767740170098) (by decide +kernel)).trans ?_
  refine (px_go (by decide +kernel : pm_fe 191 46 = some (.lcmp, 1)) rfl).trans ?_
  refine (px_if_eq (off := 35) (tgt := 82) (by decide +kernel)).trans ?_
  exact Iff.rfl
theorem b191_50 {d : Nat} {G : PG} {M T : PH} {K : PV → PS → Prop} {l0 l1 : Int} : pm_Run d 191 50 [.inr (.inr (.inl l0)), .inr (.inl l1), PU] [] (G, M, T) K ↔ if pm_sg (pm_cmp l1 483006772069) = 0 then pm_Run d 191 82 [.inr (.inr (.inl l0)), .inr (.inl l1), PU] [] (G, M, T) K else pm_Run d 191 58 [.inr (.inr (.inl l0)), .inr (.inl l1), PU] [] (G, M, T) K := by
  refine (px_go (by decide +kernel : pm_fe 191 50 = some (.lload_n 1, 1)) rfl).trans ?_
  refine (px_ldcL (idx := 283) (x := 483006772069) (by decide +kernel)).trans ?_
  refine (px_go (by decide +kernel : pm_fe 191 54 = some (.lcmp, 1)) rfl).trans ?_
  refine (px_if_eq (off := 27) (tgt := 82) (by decide +kernel)).trans ?_
  exact Iff.rfl
theorem b191_58 {d : Nat} {G : PG} {M T : PH} {K : PV → PS → Prop} {l0 l1 : Int} : pm_Run d 191 58 [.inr (.inr (.inl l0)), .inr (.inl l1), PU] [] (G, M, T) K ↔ if pm_sg (pm_cmp l1 431198598248) = 0 then pm_Run d 191 82 [.inr (.inr (.inl l0)), .inr (.inl l1), PU] [] (G, M, T) K else pm_Run d 191 66 [.inr (.inr (.inl l0)), .inr (.inl l1), PU] [] (G, M, T) K := by
  refine (px_go (by decide +kernel : pm_fe 191 58 = some (.lload_n 1, 1)) rfl).trans ?_
  refine (px_ldcL (idx := 285) (x := 431198598248) (by decide +kernel)).trans ?_
  refine (px_go (by decide +kernel : pm_fe 191 62 = some (.lcmp, 1)) rfl).trans ?_
  refine (px_if_eq (off := 19) (tgt := 82) (by decide +kernel)).trans ?_
  exact Iff.rfl
theorem b191_66 {d : Nat} {G : PG} {M T : PH} {K : PV → PS → Prop} {l0 l1 : Int} : pm_Run d 191 66 [.inr (.inr (.inl l0)), .inr (.inl l1), PU] [] (G, M, T) K ↔ if pm_sg (pm_cmp l1 1885436275) = 0 then pm_Run d 191 82 [.inr (.inr (.inl l0)), .inr (.inl l1), PU] [] (G, M, T) K else pm_Run d 191 74 [.inr (.inr (.inl l0)), .inr (.inl l1), PU] [] (G, M, T) K := by
  refine (px_go (by decide +kernel : pm_fe 191 66 = some (.lload_n 1, 1)) rfl).trans ?_
  refine (px_ldcL (idx := 287) (x := 1885436275) (by decide +kernel)).trans ?_
  refine (px_go (by decide +kernel : pm_fe 191 70 = some (.lcmp, 1)) rfl).trans ?_
  refine (px_if_eq (off := 11) (tgt := 82) (by decide +kernel)).trans ?_
  exact Iff.rfl
theorem b191_74 {d : Nat} {G : PG} {M T : PH} {K : PV → PS → Prop} {l0 l1 : Int} : pm_Run d 191 74 [.inr (.inr (.inl l0)), .inr (.inl l1), PU] [] (G, M, T) K ↔ if pm_sg (pm_cmp l1 1870095731) ≠ 0 then pm_Run d 191 84 [.inr (.inr (.inl l0)), .inr (.inl l1), PU] [] (G, M, T) K else pm_Run d 191 82 [.inr (.inr (.inl l0)), .inr (.inl l1), PU] [] (G, M, T) K := by
  refine (px_go (by decide +kernel : pm_fe 191 74 = some (.lload_n 1, 1)) rfl).trans ?_
  refine (px_ldcL (idx := 289) (x := 1870095731) (by decide +kernel)).trans ?_
  refine (px_go (by decide +kernel : pm_fe 191 78 = some (.lcmp, 1)) rfl).trans ?_
  refine (px_if_ne (off := 5) (tgt := 84) (by decide +kernel)).trans ?_
  exact Iff.rfl
theorem b191_82 {d : Nat} {G : PG} {M T : PH} {K : PV → PS → Prop} {l0 l1 : Int} : pm_Run d 191 82 [.inr (.inr (.inl l0)), .inr (.inl l1), PU] [] (G, M, T) K ↔ K (.inl 1) (G, M, T) := by
  refine (px_go (by decide +kernel : pm_fe 191 82 = some (.iconst 1, 1)) rfl).trans ?_
  refine (px_rz (by decide +kernel)).trans ((and_iff_right (by decide : (1 : Int) = (0 : Int) ∨ (1 : Int) = (1 : Int))).trans ?_)
  exact Iff.rfl
theorem b191_84 {d : Nat} {G : PG} {M T : PH} {K : PV → PS → Prop} {l0 l1 : Int} : pm_Run d 191 84 [.inr (.inr (.inl l0)), .inr (.inl l1), PU] [] (G, M, T) K ↔ if pm_sg (pm_cmp l1 109317142704997) = 0 then pm_Run d 191 124 [.inr (.inr (.inl l0)), .inr (.inl l1), PU] [] (G, M, T) K else pm_Run d 191 92 [.inr (.inr (.inl l0)), .inr (.inl l1), PU] [] (G, M, T) K := by
  refine (px_go (by decide +kernel : pm_fe 191 84 = some (.lload_n 1, 1)) rfl).trans ?_
  refine (px_ldcL (idx := 291) (x := 109317142704997) (by decide +kernel)).trans ?_
  refine (px_go (by decide +kernel : pm_fe 191 88 = some (.lcmp, 1)) rfl).trans ?_
  refine (px_if_eq (off := 35) (tgt := 124) (by decide +kernel)).trans ?_
  exact Iff.rfl
theorem b191_92 {d : Nat} {G : PG} {M T : PH} {K : PV → PS → Prop} {l0 l1 : Int} : pm_Run d 191 92 [.inr (.inr (.inl l0)), .inr (.inl l1), PU] [] (G, M, T) K ↔ if pm_sg (pm_cmp l1 1886743660) = 0 then pm_Run d 191 124 [.inr (.inr (.inl l0)), .inr (.inl l1), PU] [] (G, M, T) K else pm_Run d 191 100 [.inr (.inr (.inl l0)), .inr (.inl l1), PU] [] (G, M, T) K := by
  refine (px_go (by decide +kernel : pm_fe 191 92 = some (.lload_n 1, 1)) rfl).trans ?_
  refine (px_ldcL (idx := 293) (x := 1886743660) (by decide +kernel)).trans ?_
  refine (px_go (by decide +kernel : pm_fe 191 96 = some (.lcmp, 1)) rfl).trans ?_
  refine (px_if_eq (off := 27) (tgt := 124) (by decide +kernel)).trans ?_
  exact Iff.rfl
theorem b191_100 {d : Nat} {G : PG} {M T : PH} {K : PV → PS → Prop} {l0 l1 : Int} : pm_Run d 191 100 [.inr (.inr (.inl l0)), .inr (.inl l1), PU] [] (G, M, T) K ↔ if pm_sg (pm_cmp l1 435426586227) = 0 then pm_Run d 191 124 [.inr (.inr (.inl l0)), .inr (.inl l1), PU] [] (G, M, T) K else pm_Run d 191 108 [.inr (.inr (.inl l0)), .inr (.inl l1), PU] [] (G, M, T) K := by
  refine (px_go (by decide +kernel : pm_fe 191 100 = some (.lload_n 1, 1)) rfl).trans ?_
  refine (px_ldcL (idx := 295) (x := 435426586227) (by decide +kernel)).trans ?_
  refine (px_go (by decide +kernel : pm_fe 191 104 = some (.lcmp, 1)) rfl).trans ?_
  refine (px_if_eq (off := 19) (tgt := 124) (by decide +kernel)).trans ?_
  exact Iff.rfl
theorem b191_108 {d : Nat} {G : PG} {M T : PH} {K : PV → PS → Prop} {l0 l1 : Int} : pm_Run d 191 108 [.inr (.inr (.inl l0)), .inr (.inl l1), PU] [] (G, M, T) K ↔ if pm_sg (pm_cmp l1 465558725996) = 0 then pm_Run d 191 124 [.inr (.inr (.inl l0)), .inr (.inl l1), PU] [] (G, M, T) K else pm_Run d 191 116 [.inr (.inr (.inl l0)), .inr (.inl l1), PU] [] (G, M, T) K := by
  refine (px_go (by decide +kernel : pm_fe 191 108 = some (.lload_n 1, 1)) rfl).trans ?_
  refine (px_ldcL (idx := 297) (x := 465558725996) (by decide +kernel)).trans ?_
  refine (px_go (by decide +kernel : pm_fe 191 112 = some (.lcmp, 1)) rfl).trans ?_
  refine (px_if_eq (off := 11) (tgt := 124) (by decide +kernel)).trans ?_
  exact Iff.rfl
theorem b191_116 {d : Nat} {G : PG} {M T : PH} {K : PV → PS → Prop} {l0 l1 : Int} : pm_Run d 191 116 [.inr (.inr (.inl l0)), .inr (.inl l1), PU] [] (G, M, T) K ↔ if pm_sg (pm_cmp l1 1937075307) ≠ 0 then pm_Run d 191 126 [.inr (.inr (.inl l0)), .inr (.inl l1), PU] [] (G, M, T) K else pm_Run d 191 124 [.inr (.inr (.inl l0)), .inr (.inl l1), PU] [] (G, M, T) K := by
  refine (px_go (by decide +kernel : pm_fe 191 116 = some (.lload_n 1, 1)) rfl).trans ?_
  refine (px_ldcL (idx := 299) (x := 1937075307) (by decide +kernel)).trans ?_
  refine (px_go (by decide +kernel : pm_fe 191 120 = some (.lcmp, 1)) rfl).trans ?_
  refine (px_if_ne (off := 5) (tgt := 126) (by decide +kernel)).trans ?_
  exact Iff.rfl
theorem b191_124 {d : Nat} {G : PG} {M T : PH} {K : PV → PS → Prop} {l0 l1 : Int} : pm_Run d 191 124 [.inr (.inr (.inl l0)), .inr (.inl l1), PU] [] (G, M, T) K ↔ K (.inl 1) (G, M, T) := by
  refine (px_go (by decide +kernel : pm_fe 191 124 = some (.iconst 1, 1)) rfl).trans ?_
  refine (px_rz (by decide +kernel)).trans ((and_iff_right (by decide : (1 : Int) = (0 : Int) ∨ (1 : Int) = (1 : Int))).trans ?_)
  exact Iff.rfl
theorem b191_126 {d : Nat} {G : PG} {M T : PH} {K : PV → PS → Prop} {l0 l1 : Int} : pm_Run d 191 126 [.inr (.inr (.inl l0)), .inr (.inl l1), PU] [] (G, M, T) K ↔ if pm_sg (pm_cmp l1 114784769370228) = 0 then pm_Run d 191 166 [.inr (.inr (.inl l0)), .inr (.inl l1), PU] [] (G, M, T) K else pm_Run d 191 134 [.inr (.inr (.inl l0)), .inr (.inl l1), PU] [] (G, M, T) K := by
  refine (px_go (by decide +kernel : pm_fe 191 126 = some (.lload_n 1, 1)) rfl).trans ?_
  refine (px_ldcL (idx := 301) (x := 114784769370228) (by decide +kernel)).trans ?_
  refine (px_go (by decide +kernel : pm_fe 191 130 = some (.lcmp, 1)) rfl).trans ?_
  refine (px_if_eq (off := 35) (tgt := 166) (by decide +kernel)).trans ?_
  exact Iff.rfl
theorem b191_134 {d : Nat} {G : PG} {M T : PH} {K : PV → PS → Prop} {l0 l1 : Int} : pm_Run d 191 134 [.inr (.inr (.inl l0)), .inr (.inl l1), PU] [] (G, M, T) K ↔ if pm_sg (pm_cmp l1 1885432164) = 0 then pm_Run d 191 166 [.inr (.inr (.inl l0)), .inr (.inl l1), PU] [] (G, M, T) K else pm_Run d 191 142 [.inr (.inr (.inl l0)), .inr (.inl l1), PU] [] (G, M, T) K := by
  refine (px_go (by decide +kernel : pm_fe 191 134 = some (.lload_n 1, 1)) rfl).trans ?_
  refine (px_ldcL (idx := 303) (x := 1885432164) (by decide +kernel)).trans ?_
  refine (px_go (by decide +kernel : pm_fe 191 138 = some (.lcmp, 1)) rfl).trans ?_
  refine (px_if_eq (off := 27) (tgt := 166) (by decide +kernel)).trans ?_
  exact Iff.rfl
theorem b191_142 {d : Nat} {G : PG} {M T : PH} {K : PV → PS → Prop} {l0 l1 : Int} : pm_Run d 191 142 [.inr (.inr (.inl l0)), .inr (.inl l1), PU] [] (G, M, T) K ↔ if pm_sg (pm_cmp l1 6583653) = 0 then pm_Run d 191 166 [.inr (.inr (.inl l0)), .inr (.inl l1), PU] [] (G, M, T) K else pm_Run d 191 150 [.inr (.inr (.inl l0)), .inr (.inl l1), PU] [] (G, M, T) K := by
  refine (px_go (by decide +kernel : pm_fe 191 142 = some (.lload_n 1, 1)) rfl).trans ?_
  refine (px_ldcL (idx := 305) (x := 6583653) (by decide +kernel)).trans ?_
  refine (px_go (by decide +kernel : pm_fe 191 146 = some (.lcmp, 1)) rfl).trans ?_
  refine (px_if_eq (off := 19) (tgt := 166) (by decide +kernel)).trans ?_
  exact Iff.rfl
theorem b191_150 {d : Nat} {G : PG} {M T : PH} {K : PV → PS → Prop} {l0 l1 : Int} : pm_Run d 191 150 [.inr (.inr (.inl l0)), .inr (.inl l1), PU] [] (G, M, T) K ↔ if pm_sg (pm_cmp l1 6709618) = 0 then pm_Run d 191 166 [.inr (.inr (.inl l0)), .inr (.inl l1), PU] [] (G, M, T) K else pm_Run d 191 158 [.inr (.inr (.inl l0)), .inr (.inl l1), PU] [] (G, M, T) K := by
  refine (px_go (by decide +kernel : pm_fe 191 150 = some (.lload_n 1, 1)) rfl).trans ?_
  refine (px_ldcL (idx := 307) (x := 6709618) (by decide +kernel)).trans ?_
  refine (px_go (by decide +kernel : pm_fe 191 154 = some (.lcmp, 1)) rfl).trans ?_
  refine (px_if_eq (off := 11) (tgt := 166) (by decide +kernel)).trans ?_
  exact Iff.rfl
theorem b191_158 {d : Nat} {G : PG} {M T : PH} {K : PV → PS → Prop} {l0 l1 : Int} : pm_Run d 191 158 [.inr (.inr (.inl l0)), .inr (.inl l1), PU] [] (G, M, T) K ↔ if pm_sg (pm_cmp l1 495891278707) ≠ 0 then pm_Run d 191 168 [.inr (.inr (.inl l0)), .inr (.inl l1), PU] [] (G, M, T) K else pm_Run d 191 166 [.inr (.inr (.inl l0)), .inr (.inl l1), PU] [] (G, M, T) K := by
  refine (px_go (by decide +kernel : pm_fe 191 158 = some (.lload_n 1, 1)) rfl).trans ?_
  refine (px_ldcL (idx := 309) (x := 495891278707) (by decide +kernel)).trans ?_
  refine (px_go (by decide +kernel : pm_fe 191 162 = some (.lcmp, 1)) rfl).trans ?_
  refine (px_if_ne (off := 5) (tgt := 168) (by decide +kernel)).trans ?_
  exact Iff.rfl
theorem b191_166 {d : Nat} {G : PG} {M T : PH} {K : PV → PS → Prop} {l0 l1 : Int} : pm_Run d 191 166 [.inr (.inr (.inl l0)), .inr (.inl l1), PU] [] (G, M, T) K ↔ K (.inl 1) (G, M, T) := by
  refine (px_go (by decide +kernel : pm_fe 191 166 = some (.iconst 1, 1)) rfl).trans ?_
  refine (px_rz (by decide +kernel)).trans ((and_iff_right (by decide : (1 : Int) = (0 : Int) ∨ (1 : Int) = (1 : Int))).trans ?_)
  exact Iff.rfl
theorem b191_168 {d : Nat} {G : PG} {M T : PH} {K : PV → PS → Prop} {l0 l1 : Int} : pm_Run d 191 168 [.inr (.inr (.inl l0)), .inr (.inl l1), PU] [] (G, M, T) K ↔ if pm_sg (pm_cmp l1 491395637612) = 0 then pm_Run d 191 208 [.inr (.inr (.inl l0)), .inr (.inl l1), PU] [] (G, M, T) K else pm_Run d 191 176 [.inr (.inr (.inl l0)), .inr (.inl l1), PU] [] (G, M, T) K := by
  refine (px_go (by decide +kernel : pm_fe 191 168 = some (.lload_n 1, 1)) rfl).trans ?_
  refine (px_ldcL (idx := 311) (x := 491395637612) (by decide +kernel)).trans ?_
  refine (px_go (by decide +kernel : pm_fe 191 172 = some (.lcmp, 1)) rfl).trans ?_
  refine (px_if_eq (off := 35) (tgt := 208) (by decide +kernel)).trans ?_
  exact Iff.rfl
theorem b191_176 {d : Nat} {G : PG} {M T : PH} {K : PV → PS → Prop} {l0 l1 : Int} : pm_Run d 191 176 [.inr (.inr (.inl l0)), .inr (.inl l1), PU] [] (G, M, T) K ↔ if pm_sg (pm_cmp l1 1752135026) = 0 then pm_Run d 191 208 [.inr (.inr (.inl l0)), .inr (.inl l1), PU] [] (G, M, T) K else pm_Run d 191 184 [.inr (.inr (.inl l0)), .inr (.inl l1), PU] [] (G, M, T) K := by
  refine (px_go (by decide +kernel : pm_fe 191 176 = some (.lload_n 1, 1)) rfl).trans ?_
  refine (px_ldcL (idx := 313) (x := 1752135026) (by decide +kernel)).trans ?_
  refine (px_go (by decide +kernel : pm_fe 191 180 = some (.lcmp, 1)) rfl).trans ?_
  refine (px_if_eq (off := 27) (tgt := 208) (by decide +kernel)).trans ?_
  exact Iff.rfl
theorem b191_184 {d : Nat} {G : PG} {M T : PH} {K : PV → PS → Prop} {l0 l1 : Int} : pm_Run d 191 184 [.inr (.inr (.inl l0)), .inr (.inl l1), PU] [] (G, M, T) K ↔ if pm_sg (pm_cmp l1 482854658917) = 0 then pm_Run d 191 208 [.inr (.inr (.inl l0)), .inr (.inl l1), PU] [] (G, M, T) K else pm_Run d 191 192 [.inr (.inr (.inl l0)), .inr (.inl l1), PU] [] (G, M, T) K := by
  refine (px_go (by decide +kernel : pm_fe 191 184 = some (.lload_n 1, 1)) rfl).trans ?_
  refine (px_ldcL (idx := 315) (x := 482854658917) (by decide +kernel)).trans ?_
  refine (px_go (by decide +kernel : pm_fe 191 188 = some (.lcmp, 1)) rfl).trans ?_
  refine (px_if_eq (off := 19) (tgt := 208) (by decide +kernel)).trans ?_
  exact Iff.rfl
theorem b191_192 {d : Nat} {G : PG} {M T : PH} {K : PV → PS → Prop} {l0 l1 : Int} : pm_Run d 191 192 [.inr (.inr (.inl l0)), .inr (.inl l1), PU] [] (G, M, T) K ↔ if pm_sg (pm_cmp l1 28530) = 0 then pm_Run d 191 208 [.inr (.inr (.inl l0)), .inr (.inl l1), PU] [] (G, M, T) K else pm_Run d 191 200 [.inr (.inr (.inl l0)), .inr (.inl l1), PU] [] (G, M, T) K := by
  refine (px_go (by decide +kernel : pm_fe 191 192 = some (.lload_n 1, 1)) rfl).trans ?_
  refine (px_ldcL (idx := 317) (x := 28530) (by decide +kernel)).trans ?_
  refine (px_go (by decide +kernel : pm_fe 191 196 = some (.lcmp, 1)) rfl).trans ?_
  refine (px_if_eq (off := 11) (tgt := 208) (by decide +kernel)).trans ?_
  exact Iff.rfl
theorem b191_200 {d : Nat} {G : PG} {M T : PH} {K : PV → PS → Prop} {l0 l1 : Int} : pm_Run d 191 200 [.inr (.inr (.inl l0)), .inr (.inl l1), PU] [] (G, M, T) K ↔ if pm_sg (pm_cmp l1 6385252) ≠ 0 then pm_Run d 191 210 [.inr (.inr (.inl l0)), .inr (.inl l1), PU] [] (G, M, T) K else pm_Run d 191 208 [.inr (.inr (.inl l0)), .inr (.inl l1), PU] [] (G, M, T) K := by
  refine (px_go (by decide +kernel : pm_fe 191 200 = some (.lload_n 1, 1)) rfl).trans ?_
  refine (px_ldcL (idx := 319) (x := 6385252) (by decide +kernel)).trans ?_
  refine (px_go (by decide +kernel : pm_fe 191 204 = some (.lcmp, 1)) rfl).trans ?_
  refine (px_if_ne (off := 5) (tgt := 210) (by decide +kernel)).trans ?_
  exact Iff.rfl
theorem b191_208 {d : Nat} {G : PG} {M T : PH} {K : PV → PS → Prop} {l0 l1 : Int} : pm_Run d 191 208 [.inr (.inr (.inl l0)), .inr (.inl l1), PU] [] (G, M, T) K ↔ K (.inl 1) (G, M, T) := by
  refine (px_go (by decide +kernel : pm_fe 191 208 = some (.iconst 1, 1)) rfl).trans ?_
  refine (px_rz (by decide +kernel)).trans ((and_iff_right (by decide : (1 : Int) = (0 : Int) ∨ (1 : Int) = (1 : Int))).trans ?_)
  exact Iff.rfl
theorem b191_210 {d : Nat} {G : PG} {M T : PH} {K : PV → PS → Prop} {l0 l1 : Int} : pm_Run d 191 210 [.inr (.inr (.inl l0)), .inr (.inl l1), PU] [] (G, M, T) K ↔ if pm_sg (pm_cmp l1 7237492) = 0 then pm_Run d 191 242 [.inr (.inr (.inl l0)), .inr (.inl l1), PU] [] (G, M, T) K else pm_Run d 191 218 [.inr (.inr (.inl l0)), .inr (.inl l1), PU] [] (G, M, T) K := by
  refine (px_go (by decide +kernel : pm_fe 191 210 = some (.lload_n 1, 1)) rfl).trans ?_
  refine (px_ldcL (idx := 321) (x := 7237492) (by decide +kernel)).trans ?_
  refine (px_go (by decide +kernel : pm_fe 191 214 = some (.lcmp, 1)) rfl).trans ?_
  refine (px_if_eq (off := 27) (tgt := 242) (by decide +kernel)).trans ?_
  exact Iff.rfl
theorem b191_218 {d : Nat} {G : PG} {M T : PH} {K : PV → PS → Prop} {l0 l1 : Int} : pm_Run d 191 218 [.inr (.inr (.inl l0)), .inr (.inl l1), PU] [] (G, M, T) K ↔ if pm_sg (pm_cmp l1 6384748) = 0 then pm_Run d 191 242 [.inr (.inr (.inl l0)), .inr (.inl l1), PU] [] (G, M, T) K else pm_Run d 191 226 [.inr (.inr (.inl l0)), .inr (.inl l1), PU] [] (G, M, T) K := by
  refine (px_go (by decide +kernel : pm_fe 191 218 = some (.lload_n 1, 1)) rfl).trans ?_
  refine (px_ldcL (idx := 323) (x := 6384748) (by decide +kernel)).trans ?_
  refine (px_go (by decide +kernel : pm_fe 191 222 = some (.lcmp, 1)) rfl).trans ?_
  refine (px_if_eq (off := 19) (tgt := 242) (by decide +kernel)).trans ?_
  exact Iff.rfl
theorem b191_226 {d : Nat} {G : PG} {M T : PH} {K : PV → PS → Prop} {l0 l1 : Int} : pm_Run d 191 226 [.inr (.inr (.inl l0)), .inr (.inl l1), PU] [] (G, M, T) K ↔ if pm_sg (pm_cmp l1 7170414) = 0 then pm_Run d 191 242 [.inr (.inr (.inl l0)), .inr (.inl l1), PU] [] (G, M, T) K else pm_Run d 191 234 [.inr (.inr (.inl l0)), .inr (.inl l1), PU] [] (G, M, T) K := by
  refine (px_go (by decide +kernel : pm_fe 191 226 = some (.lload_n 1, 1)) rfl).trans ?_
  refine (px_ldcL (idx := 325) (x := 7170414) (by decide +kernel)).trans ?_
  refine (px_go (by decide +kernel : pm_fe 191 230 = some (.lcmp, 1)) rfl).trans ?_
  refine (px_if_eq (off := 11) (tgt := 242) (by decide +kernel)).trans ?_
  exact Iff.rfl
theorem b191_234 {d : Nat} {G : PG} {M T : PH} {K : PV → PS → Prop} {l0 l1 : Int} : pm_Run d 191 234 [.inr (.inr (.inl l0)), .inr (.inl l1), PU] [] (G, M, T) K ↔ if pm_sg (pm_cmp l1 7168376) ≠ 0 then pm_Run d 191 244 [.inr (.inr (.inl l0)), .inr (.inl l1), PU] [] (G, M, T) K else pm_Run d 191 242 [.inr (.inr (.inl l0)), .inr (.inl l1), PU] [] (G, M, T) K := by
  refine (px_go (by decide +kernel : pm_fe 191 234 = some (.lload_n 1, 1)) rfl).trans ?_
  refine (px_ldcL (idx := 327) (x := 7168376) (by decide +kernel)).trans ?_
  refine (px_go (by decide +kernel : pm_fe 191 238 = some (.lcmp, 1)) rfl).trans ?_
  refine (px_if_ne (off := 5) (tgt := 244) (by decide +kernel)).trans ?_
  exact Iff.rfl
theorem b191_242 {d : Nat} {G : PG} {M T : PH} {K : PV → PS → Prop} {l0 l1 : Int} : pm_Run d 191 242 [.inr (.inr (.inl l0)), .inr (.inl l1), PU] [] (G, M, T) K ↔ K (.inl 1) (G, M, T) := by
  refine (px_go (by decide +kernel : pm_fe 191 242 = some (.iconst 1, 1)) rfl).trans ?_
  refine (px_rz (by decide +kernel)).trans ((and_iff_right (by decide : (1 : Int) = (0 : Int) ∨ (1 : Int) = (1 : Int))).trans ?_)
  exact Iff.rfl
theorem b191_244 {d : Nat} {G : PG} {M T : PH} {K : PV → PS → Prop} {l0 l1 : Int} : pm_Run d 191 244 [.inr (.inr (.inl l0)), .inr (.inl l1), PU] [] (G, M, T) K ↔ K (.inl 0) (G, M, T) := by
  refine (px_go (by decide +kernel : pm_fe 191 244 = some (.iconst 0, 1)) rfl).trans ?_
  refine (px_rz (by decide +kernel)).trans ((and_iff_right (by decide : (0 : Int) = (0 : Int) ∨ (0 : Int) = (1 : Int))).trans ?_)
  exact Iff.rfl
-- X12_manyOf manyOf(II)I
theorem en192 {d : Nat} {a p0 p1 : Int} {S : PS} {K : PV → PS → Prop} : pm_Call (d + 1) 192 [.inr (.inr (.inl a)), .inl p0, .inl p1] S K ↔ pm_Run d 192 0 [.inr (.inr (.inl a)), .inl p0, .inl p1] [] S K := pm_Call_s.trans (and_iff_right (show 3 ≤ pm_ml 192 from by decide +kernel))
theorem b192_0 {d : Nat} {G : PG} {M T : PH} {K : PV → PS → Prop} {l0 l1 l2 : Int} : pm_Run d 192 0 [.inr (.inr (.inl l0)), .inl l1, .inl l2] [] (G, M, T) K ↔ if pm_sg l2 ≠ 0 then pm_Run d 192 13 [.inr (.inr (.inl l0)), .inl l1, .inl l2] [] (G, M, T) K else pm_Run d 192 4 [.inr (.inr (.inl l0)), .inl l1, .inl l2] [] (G, M, T) K := by
  refine (px_go (by decide +kernel : pm_fe 192 0 = some (.iload_n 2, 1)) rfl).trans ?_
  refine (px_if_ne (off := 12) (tgt := 13) (by decide +kernel)).trans ?_
  exact Iff.rfl
theorem b192_4 {d : Nat} {G : PG} {M T : PH} {K : PV → PS → Prop} {l0 l1 l2 : Int} (h1 : pm_ob G l0 12) (h2 : pm_ar G (T l0.toNat 15) 100 l1) : pm_Run d 192 4 [.inr (.inr (.inl l0)), .inl l1, .inl l2] [] (G, M, T) K ↔ pm_Run d 192 19 [.inr (.inr (.inl l0)), .inl l1, .inl l2] [.inl (M (T l0.toNat 15).toNat (pm_sg l1).toNat)] (G, M, T) K := by
  refine (px_go (by decide +kernel : pm_fe 192 4 = some (.aload_n 0, 1)) rfl).trans ?_
  refine (px_get2 (idx := 57) (ci := 12) (k := 15) (by decide +kernel)).trans ((and_iff_right h1).trans ?_)
  refine (px_go (by decide +kernel : pm_fe 192 8 = some (.iload_n 1, 1)) rfl).trans ?_
  refine (px_iaload (by decide +kernel) h2).trans ?_
  refine (px_goto (off := 9) (tgt := 19) (by decide +kernel)).trans ?_
  exact Iff.rfl
theorem b192_13 {d : Nat} {G : PG} {M T : PH} {K : PV → PS → Prop} {l0 l1 l2 : Int} (h1 : pm_ob G l0 12) (h2 : pm_ar G (T l0.toNat 19) 100 l1) : pm_Run d 192 13 [.inr (.inr (.inl l0)), .inl l1, .inl l2] [] (G, M, T) K ↔ pm_Run d 192 19 [.inr (.inr (.inl l0)), .inl l1, .inl l2] [.inl (M (T l0.toNat 19).toNat (pm_sg l1).toNat)] (G, M, T) K := by
  refine (px_go (by decide +kernel : pm_fe 192 13 = some (.aload_n 0, 1)) rfl).trans ?_
  refine (px_get2 (idx := 69) (ci := 12) (k := 19) (by decide +kernel)).trans ((and_iff_right h1).trans ?_)
  refine (px_go (by decide +kernel : pm_fe 192 17 = some (.iload_n 1, 1)) rfl).trans ?_
  refine (px_iaload (by decide +kernel) h2).trans ?_
  exact Iff.rfl
theorem b192_19 {d : Nat} {G : PG} {M T : PH} {K : PV → PS → Prop} {l0 l1 l2 s0 : Int} : pm_Run d 192 19 [.inr (.inr (.inl l0)), .inl l1, .inl l2] [.inl s0] (G, M, T) K ↔ K (.inl s0) (G, M, T) := by
  refine (px_ri (by decide +kernel)).trans ?_
  exact Iff.rfl
-- X12_nameOf nameOf(III)J
theorem en193 {d : Nat} {a p0 p1 p2 : Int} {S : PS} {K : PV → PS → Prop} : pm_Call (d + 1) 193 [.inr (.inr (.inl a)), .inl p0, .inl p1, .inl p2] S K ↔ pm_Run d 193 0 [.inr (.inr (.inl a)), .inl p0, .inl p1, .inl p2] [] S K := pm_Call_s.trans (and_iff_right (show 4 ≤ pm_ml 193 from by decide +kernel))
theorem b193_0 {d : Nat} {G : PG} {M T : PH} {K : PV → PS → Prop} {l0 l1 l2 l3 : Int} : pm_Run d 193 0 [.inr (.inr (.inl l0)), .inl l1, .inl l2, .inl l3] [] (G, M, T) K ↔ if pm_sg l2 ≠ 0 then pm_Run d 193 17 [.inr (.inr (.inl l0)), .inl l1, .inl l2, .inl l3] [] (G, M, T) K else pm_Run d 193 4 [.inr (.inr (.inl l0)), .inl l1, .inl l2, .inl l3] [] (G, M, T) K := by
  refine (px_go (by decide +kernel : pm_fe 193 0 = some (.iload_n 2, 1)) rfl).trans ?_
  refine (px_if_ne (off := 16) (tgt := 17) (by decide +kernel)).trans ?_
  exact Iff.rfl
theorem b193_4 {d : Nat} {G : PG} {M T : PH} {K : PV → PS → Prop} {l0 l1 l2 l3 : Int} (h1 : pm_ob G l0 12) (h2 : pm_ar G (T l0.toNat 39) 103 ((3 * l1) + l3)) : pm_Run d 193 4 [.inr (.inr (.inl l0)), .inl l1, .inl l2, .inl l3] [] (G, M, T) K ↔ pm_Run d 193 28 [.inr (.inr (.inl l0)), .inl l1, .inl l2, .inl l3] [.inr (.inl (M (T l0.toNat 39).toNat (pm_sg ((3 * l1) + l3)).toNat))] (G, M, T) K := by
  refine (px_go (by decide +kernel : pm_fe 193 4 = some (.aload_n 0, 1)) rfl).trans ?_
  refine (px_get2 (idx := 129) (ci := 12) (k := 39) (by decide +kernel)).trans ((and_iff_right h1).trans ?_)
  refine (px_go (by decide +kernel : pm_fe 193 8 = some (.iconst 3, 1)) rfl).trans ?_
  refine (px_go (by decide +kernel : pm_fe 193 9 = some (.iload_n 1, 1)) rfl).trans ?_
  refine (px_go (by decide +kernel : pm_fe 193 10 = some (.imul, 1)) rfl).trans ?_
  refine (px_go (by decide +kernel : pm_fe 193 11 = some (.iload_n 3, 1)) rfl).trans ?_
  refine (px_go (by decide +kernel : pm_fe 193 12 = some (.iadd, 1)) rfl).trans ?_
  refine (px_laload (by decide +kernel)).trans ((and_iff_right h2).trans ?_)
  refine (px_goto (off := 14) (tgt := 28) (by decide +kernel)).trans ?_
  exact Iff.rfl
theorem b193_17 {d : Nat} {G : PG} {M T : PH} {K : PV → PS → Prop} {l0 l1 l2 l3 : Int} (h1 : pm_ob G l0 12) (h2 : pm_ar G (T l0.toNat 40) 103 ((8 * l1) + l3)) : pm_Run d 193 17 [.inr (.inr (.inl l0)), .inl l1, .inl l2, .inl l3] [] (G, M, T) K ↔ pm_Run d 193 28 [.inr (.inr (.inl l0)), .inl l1, .inl l2, .inl l3] [.inr (.inl (M (T l0.toNat 40).toNat (pm_sg ((8 * l1) + l3)).toNat))] (G, M, T) K := by
  refine (px_go (by decide +kernel : pm_fe 193 17 = some (.aload_n 0, 1)) rfl).trans ?_
  refine (px_get2 (idx := 133) (ci := 12) (k := 40) (by decide +kernel)).trans ((and_iff_right h1).trans ?_)
  refine (px_go (by decide +kernel : pm_fe 193 21 = some (.bipush 8, 2)) rfl).trans ?_
  refine (px_go (by decide +kernel : pm_fe 193 23 = some (.iload_n 1, 1)) rfl).trans ?_
  refine (px_go (by decide +kernel : pm_fe 193 24 = some (.imul, 1)) rfl).trans ?_
  refine (px_go (by decide +kernel : pm_fe 193 25 = some (.iload_n 3, 1)) rfl).trans ?_
  refine (px_go (by decide +kernel : pm_fe 193 26 = some (.iadd, 1)) rfl).trans ?_
  refine (px_laload (by decide +kernel)).trans ((and_iff_right h2).trans ?_)
  exact Iff.rfl
theorem b193_28 {d : Nat} {G : PG} {M T : PH} {K : PV → PS → Prop} {l0 l1 l2 l3 s0 : Int} : pm_Run d 193 28 [.inr (.inr (.inl l0)), .inl l1, .inl l2, .inl l3] [.inr (.inl s0)] (G, M, T) K ↔ K (.inr (.inl s0)) (G, M, T) := by
  refine (px_rl (by decide +kernel)).trans ?_
  exact Iff.rfl
-- X12_named named(IJ)I
theorem en194 {d : Nat} {a p0 p1 : Int} {S : PS} {K : PV → PS → Prop} : pm_Call (d + 1) 194 [.inr (.inr (.inl a)), .inl p0, .inr (.inl p1)] S K ↔ pm_Run d 194 0 [.inr (.inr (.inl a)), .inl p0, .inr (.inl p1), PU, PU] [] S K := pm_Call_s.trans (and_iff_right (show 4 ≤ pm_ml 194 from by decide +kernel))
theorem b194_0 {d : Nat} {G : PG} {M T : PH} {K : PV → PS → Prop} {l0 l1 l2 : Int} : pm_Run d 194 0 [.inr (.inr (.inl l0)), .inl l1, .inr (.inl l2), PU, PU] [] (G, M, T) K ↔ pm_Run d 194 3 [.inr (.inr (.inl l0)), .inl l1, .inr (.inl l2), PU, .inl 0] [] (G, M, T) K := by
  refine (px_go (by decide +kernel : pm_fe 194 0 = some (.iconst 0, 1)) rfl).trans ?_
  refine (px_go (by decide +kernel : pm_fe 194 1 = some (.istore 4, 2)) rfl).trans ?_
  exact Iff.rfl
theorem b194_3 {d : Nat} {G : PG} {M T : PH} {K : PV → PS → Prop} {l0 l1 l2 l4 : Int} (h1 : pm_ob G l0 12) : pm_Run d 194 3 [.inr (.inr (.inl l0)), .inl l1, .inr (.inl l2), PU, .inl l4] [] (G, M, T) K ↔ pm_Call d 192 [.inr (.inr (.inl l0)), .inl (M l0.toNat 42), .inl l1] (G, M, T) (fun r S1 => pm_Run d 194 14 [.inr (.inr (.inl l0)), .inl l1, .inr (.inl l2), PU, .inl l4] (pm_push r [.inl l4]) S1 K) := by
  refine (px_go (by decide +kernel : pm_fe 194 3 = some (.iload 4, 2)) rfl).trans ?_
  refine (px_go (by decide +kernel : pm_fe 194 5 = some (.aload_n 0, 1)) rfl).trans ?_
  refine (px_go (by decide +kernel : pm_fe 194 6 = some (.aload_n 0, 1)) rfl).trans ?_
  refine (px_get0 (idx := 139) (ci := 12) (k := 42) (by decide +kernel)).trans ((and_iff_right h1).trans ?_)
  refine (px_go (by decide +kernel : pm_fe 194 10 = some (.iload_n 1, 1)) rfl).trans ?_
  refine (px_v2 (idx := 329) (m' := 192) (ci := 12) (by decide +kernel)).trans ((and_iff_right ⟨h1, (by simp [pm_wl_n, pm_wl_c, pm_w] : pm_wl [.inl l4] ≤ 8)⟩).trans ?_)
  exact Iff.rfl
theorem b194_14 {d : Nat} {G : PG} {M T : PH} {K : PV → PS → Prop} {l0 l1 l2 l4 s0 s1 : Int} : pm_Run d 194 14 [.inr (.inr (.inl l0)), .inl l1, .inr (.inl l2), PU, .inl l4] [.inl s0, .inl s1] (G, M, T) K ↔ if pm_sg s0 ≤ pm_sg s1 then pm_Run d 194 42 [.inr (.inr (.inl l0)), .inl l1, .inr (.inl l2), PU, .inl l4] [] (G, M, T) K else pm_Run d 194 17 [.inr (.inr (.inl l0)), .inl l1, .inr (.inl l2), PU, .inl l4] [] (G, M, T) K := by
  refine (px_ic_ge (off := 28) (tgt := 42) (by decide +kernel)).trans ?_
  exact Iff.rfl
theorem b194_17 {d : Nat} {G : PG} {M T : PH} {K : PV → PS → Prop} {l0 l1 l2 l4 : Int} (h1 : pm_ob G l0 12) : pm_Run d 194 17 [.inr (.inr (.inl l0)), .inl l1, .inr (.inl l2), PU, .inl l4] [] (G, M, T) K ↔ pm_Call d 193 [.inr (.inr (.inl l0)), .inl (M l0.toNat 42), .inl l1, .inl l4] (G, M, T) (fun r S1 => pm_Run d 194 28 [.inr (.inr (.inl l0)), .inl l1, .inr (.inl l2), PU, .inl l4] (pm_push r []) S1 K) := by
  refine (px_go (by decide +kernel : pm_fe 194 17 = some (.aload_n 0, 1)) rfl).trans ?_
  refine (px_go (by decide +kernel : pm_fe 194 18 = some (.aload_n 0, 1)) rfl).trans ?_
  refine (px_get0 (idx := 139) (ci := 12) (k := 42) (by decide +kernel)).trans ((and_iff_right h1).trans ?_)
  refine (px_go (by decide +kernel : pm_fe 194 22 = some (.iload_n 1, 1)) rfl).trans ?_
  refine (px_go (by decide +kernel : pm_fe 194 23 = some (.iload 4, 2)) rfl).trans ?_
  refine (px_v3 (idx := 333) (m' := 193) (ci := 12) (by decide +kernel)).trans ((and_iff_right ⟨h1, (by simp [pm_wl_n, pm_wl_c, pm_w] : pm_wl [] ≤ 8)⟩).trans ?_)
  exact Iff.rfl
theorem b194_28 {d : Nat} {G : PG} {M T : PH} {K : PV → PS → Prop} {l0 l1 l2 l4 s0 : Int} : pm_Run d 194 28 [.inr (.inr (.inl l0)), .inl l1, .inr (.inl l2), PU, .inl l4] [.inr (.inl s0)] (G, M, T) K ↔ if pm_sg (pm_cmp s0 l2) ≠ 0 then pm_Run d 194 36 [.inr (.inr (.inl l0)), .inl l1, .inr (.inl l2), PU, .inl l4] [] (G, M, T) K else pm_Run d 194 33 [.inr (.inr (.inl l0)), .inl l1, .inr (.inl l2), PU, .inl l4] [] (G, M, T) K := by
  refine (px_go (by decide +kernel : pm_fe 194 28 = some (.lload_n 2, 1)) rfl).trans ?_
  refine (px_go (by decide +kernel : pm_fe 194 29 = some (.lcmp, 1)) rfl).trans ?_
  refine (px_if_ne (off := 6) (tgt := 36) (by decide +kernel)).trans ?_
  exact Iff.rfl
theorem b194_33 {d : Nat} {G : PG} {M T : PH} {K : PV → PS → Prop} {l0 l1 l2 l4 : Int} : pm_Run d 194 33 [.inr (.inr (.inl l0)), .inl l1, .inr (.inl l2), PU, .inl l4] [] (G, M, T) K ↔ K (.inl l4) (G, M, T) := by
  refine (px_go (by decide +kernel : pm_fe 194 33 = some (.iload 4, 2)) rfl).trans ?_
  refine (px_ri (by decide +kernel)).trans ?_
  exact Iff.rfl
theorem b194_36 {d : Nat} {G : PG} {M T : PH} {K : PV → PS → Prop} {l0 l1 l2 l4 : Int} : pm_Run d 194 36 [.inr (.inr (.inl l0)), .inl l1, .inr (.inl l2), PU, .inl l4] [] (G, M, T) K ↔ pm_Run d 194 3 [.inr (.inr (.inl l0)), .inl l1, .inr (.inl l2), PU, .inl (l4 + 1)] [] (G, M, T) K := by
  refine (px_go (by decide +kernel : pm_fe 194 36 = some (.iinc 4 1, 3)) rfl).trans ?_
  refine (px_goto (off := (-36)) (tgt := 3) (by decide +kernel)).trans ?_
  exact Iff.rfl
theorem b194_42 {d : Nat} {G : PG} {M T : PH} {K : PV → PS → Prop} {l0 l1 l2 l4 : Int} : pm_Run d 194 42 [.inr (.inr (.inl l0)), .inl l1, .inr (.inl l2), PU, .inl l4] [] (G, M, T) K ↔ K (.inl (-1)) (G, M, T) := by
  refine (px_go (by decide +kernel : pm_fe 194 42 = some (.iconst (-1), 1)) rfl).trans ?_
  refine (px_ri (by decide +kernel)).trans ?_
  exact Iff.rfl
-- X12_lookedAt lookedAt(II)I
theorem en195 {d : Nat} {a p0 p1 : Int} {S : PS} {K : PV → PS → Prop} : pm_Call (d + 1) 195 [.inr (.inr (.inl a)), .inl p0, .inl p1] S K ↔ pm_Run d 195 0 [.inr (.inr (.inl a)), .inl p0, .inl p1] [] S K := pm_Call_s.trans (and_iff_right (show 3 ≤ pm_ml 195 from by decide +kernel))
theorem b195_0 {d : Nat} {G : PG} {M T : PH} {K : PV → PS → Prop} {l0 l1 l2 : Int} (h1 : pm_ob G l0 12) : pm_Run d 195 0 [.inr (.inr (.inl l0)), .inl l1, .inl l2] [] (G, M, T) K ↔ pm_Call d 186 [.inr (.inr (.inl l0))] (G, M, T) (fun r S1 => pm_Run d 195 4 [.inr (.inr (.inl l0)), .inl l1, .inl l2] (pm_push r []) S1 K) := by
  refine (px_go (by decide +kernel : pm_fe 195 0 = some (.aload_n 0, 1)) rfl).trans ?_
  refine (px_v0 (idx := 262) (m' := 186) (ci := 12) (by decide +kernel)).trans ((and_iff_right ⟨h1, (by simp [pm_wl_n, pm_wl_c, pm_w] : pm_wl [] ≤ 8)⟩).trans ?_)
  exact Iff.rfl
theorem b195_4 {d : Nat} {G : PG} {M T : PH} {K : PV → PS → Prop} {l0 l1 l2 : Int} (h1 : pm_ob G l0 12) : pm_Run d 195 4 [.inr (.inr (.inl l0)), .inl l1, .inl l2] [] (G, M, T) K ↔ if pm_sg (M l0.toNat 8) ≤ 0 then pm_Run d 195 13 [.inr (.inr (.inl l0)), .inl l1, .inl l2] [] (G, M, T) K else pm_Run d 195 11 [.inr (.inr (.inl l0)), .inl l1, .inl l2] [] (G, M, T) K := by
  refine (px_go (by decide +kernel : pm_fe 195 4 = some (.aload_n 0, 1)) rfl).trans ?_
  refine (px_get0 (idx := 36) (ci := 12) (k := 8) (by decide +kernel)).trans ((and_iff_right h1).trans ?_)
  refine (px_if_le (off := 5) (tgt := 13) (by decide +kernel)).trans ?_
  exact Iff.rfl
theorem b195_11 {d : Nat} {G : PG} {M T : PH} {K : PV → PS → Prop} {l0 l1 l2 : Int} : pm_Run d 195 11 [.inr (.inr (.inl l0)), .inl l1, .inl l2] [] (G, M, T) K ↔ K (.inl 0) (G, M, T) := by
  refine (px_go (by decide +kernel : pm_fe 195 11 = some (.iconst 0, 1)) rfl).trans ?_
  refine (px_ri (by decide +kernel)).trans ?_
  exact Iff.rfl
theorem b195_13 {d : Nat} {G : PG} {M T : PH} {K : PV → PS → Prop} {l0 l1 l2 : Int} (h1 : pm_ob G l0 12) : pm_Run d 195 13 [.inr (.inr (.inl l0)), .inl l1, .inl l2] [] (G, M, T) K ↔ if pm_sg (M l0.toNat 3) = pm_sg 2 then pm_Run d 195 30 [.inr (.inr (.inl l0)), .inl l1, .inl l2] [] (G, M, T) K else pm_Run d 195 21 [.inr (.inr (.inl l0)), .inl l1, .inl l2] [] (G, M, T) K := by
  refine (px_go (by decide +kernel : pm_fe 195 13 = some (.aload_n 0, 1)) rfl).trans ?_
  refine (px_get0 (idx := 20) (ci := 12) (k := 3) (by decide +kernel)).trans ((and_iff_right h1).trans ?_)
  refine (px_go (by decide +kernel : pm_fe 195 17 = some (.iconst 2, 1)) rfl).trans ?_
  refine (px_ic_eq (off := 12) (tgt := 30) (by decide +kernel)).trans ?_
  exact Iff.rfl
theorem b195_21 {d : Nat} {G : PG} {M T : PH} {K : PV → PS → Prop} {l0 l1 l2 : Int} (h1 : pm_ob G l0 12) : pm_Run d 195 21 [.inr (.inr (.inl l0)), .inl l1, .inl l2] [] (G, M, T) K ↔ pm_Call d 183 [.inr (.inr (.inl l0)), .inl 1, .inl (M l0.toNat 4)] (G, M, T) (fun r S1 => pm_Run d 195 30 [.inr (.inr (.inl l0)), .inl l1, .inl l2] (pm_push r []) S1 K) := by
  refine (px_go (by decide +kernel : pm_fe 195 21 = some (.aload_n 0, 1)) rfl).trans ?_
  refine (px_go (by decide +kernel : pm_fe 195 22 = some (.iconst 1, 1)) rfl).trans ?_
  refine (px_go (by decide +kernel : pm_fe 195 23 = some (.aload_n 0, 1)) rfl).trans ?_
  refine (px_get0 (idx := 23) (ci := 12) (k := 4) (by decide +kernel)).trans ((and_iff_right h1).trans ?_)
  refine (px_v2 (idx := 251) (m' := 183) (ci := 12) (by decide +kernel)).trans ((and_iff_right ⟨h1, (by simp [pm_wl_n, pm_wl_c, pm_w] : pm_wl [] ≤ 8)⟩).trans ?_)
  exact Iff.rfl
theorem b195_30 {d : Nat} {G : PG} {M T : PH} {K : PV → PS → Prop} {l0 l1 l2 : Int} (h1 : pm_ob G l0 12) : pm_Run d 195 30 [.inr (.inr (.inl l0)), .inl l1, .inl l2] [] (G, M, T) K ↔ if pm_sg (M l0.toNat 8) ≠ 0 then pm_Run d 195 58 [.inr (.inr (.inl l0)), .inl l1, .inl l2] [] (G, M, T) K else pm_Run d 195 37 [.inr (.inr (.inl l0)), .inl l1, .inl l2] [] (G, M, T) K := by
  refine (px_go (by decide +kernel : pm_fe 195 30 = some (.aload_n 0, 1)) rfl).trans ?_
  refine (px_get0 (idx := 36) (ci := 12) (k := 8) (by decide +kernel)).trans ((and_iff_right h1).trans ?_)
  refine (px_if_ne (off := 24) (tgt := 58) (by decide +kernel)).trans ?_
  exact Iff.rfl
theorem b195_37 {d : Nat} {G : PG} {M T : PH} {K : PV → PS → Prop} {l0 l1 l2 : Int} (h1 : pm_ob G l0 12) : pm_Run d 195 37 [.inr (.inr (.inl l0)), .inl l1, .inl l2] [] (G, M, T) K ↔ pm_Call d 179 [.inl (M l0.toNat 6), .inl l1, .inl l2] (G, M, T) (fun r S1 => pm_Run d 195 46 [.inr (.inr (.inl l0)), .inl l1, .inl l2] (pm_push r []) S1 K) := by
  refine (px_go (by decide +kernel : pm_fe 195 37 = some (.aload_n 0, 1)) rfl).trans ?_
  refine (px_get0 (idx := 29) (ci := 12) (k := 6) (by decide +kernel)).trans ((and_iff_right h1).trans ?_)
  refine (px_go (by decide +kernel : pm_fe 195 41 = some (.iload_n 1, 1)) rfl).trans ?_
  refine (px_go (by decide +kernel : pm_fe 195 42 = some (.iload_n 2, 1)) rfl).trans ?_
  refine (px_s3 (idx := 337) (m' := 179) (nest := 0) (by decide +kernel)).trans ((and_iff_right (by simp [pm_wl_n, pm_wl_c, pm_w] : pm_wl [] ≤ 8)).trans ?_)
  exact Iff.rfl
theorem b195_46 {d : Nat} {G : PG} {M T : PH} {K : PV → PS → Prop} {l0 l1 l2 s0 : Int} : pm_Run d 195 46 [.inr (.inr (.inl l0)), .inl l1, .inl l2] [.inl s0] (G, M, T) K ↔ if pm_sg s0 ≠ 0 then pm_Run d 195 58 [.inr (.inr (.inl l0)), .inl l1, .inl l2] [] (G, M, T) K else pm_Run d 195 49 [.inr (.inr (.inl l0)), .inl l1, .inl l2] [] (G, M, T) K := by
  refine (px_if_ne (off := 12) (tgt := 58) (by decide +kernel)).trans ?_
  exact Iff.rfl
theorem b195_49 {d : Nat} {G : PG} {M T : PH} {K : PV → PS → Prop} {l0 l1 l2 : Int} (h1 : pm_ob G l0 12) : pm_Run d 195 49 [.inr (.inr (.inl l0)), .inl l1, .inl l2] [] (G, M, T) K ↔ pm_Call d 183 [.inr (.inr (.inl l0)), .inl 4, .inl (M l0.toNat 4)] (G, M, T) (fun r S1 => pm_Run d 195 58 [.inr (.inr (.inl l0)), .inl l1, .inl l2] (pm_push r []) S1 K) := by
  refine (px_go (by decide +kernel : pm_fe 195 49 = some (.aload_n 0, 1)) rfl).trans ?_
  refine (px_go (by decide +kernel : pm_fe 195 50 = some (.iconst 4, 1)) rfl).trans ?_
  refine (px_go (by decide +kernel : pm_fe 195 51 = some (.aload_n 0, 1)) rfl).trans ?_
  refine (px_get0 (idx := 23) (ci := 12) (k := 4) (by decide +kernel)).trans ((and_iff_right h1).trans ?_)
  refine (px_v2 (idx := 251) (m' := 183) (ci := 12) (by decide +kernel)).trans ((and_iff_right ⟨h1, (by simp [pm_wl_n, pm_wl_c, pm_w] : pm_wl [] ≤ 8)⟩).trans ?_)
  exact Iff.rfl
theorem b195_58 {d : Nat} {G : PG} {M T : PH} {K : PV → PS → Prop} {l0 l1 l2 : Int} (h1 : pm_ob G l0 12) : pm_Run d 195 58 [.inr (.inr (.inl l0)), .inl l1, .inl l2] [] (G, M, T) K ↔ if pm_sg (M l0.toNat 8) ≤ 0 then pm_Run d 195 69 [.inr (.inr (.inl l0)), .inl l1, .inl l2] [] (G, M, T) K else pm_Run d 195 65 [.inr (.inr (.inl l0)), .inl l1, .inl l2] [] (G, M, T) K := by
  refine (px_go (by decide +kernel : pm_fe 195 58 = some (.aload_n 0, 1)) rfl).trans ?_
  refine (px_get0 (idx := 36) (ci := 12) (k := 8) (by decide +kernel)).trans ((and_iff_right h1).trans ?_)
  refine (px_if_le (off := 7) (tgt := 69) (by decide +kernel)).trans ?_
  exact Iff.rfl
theorem b195_65 {d : Nat} {G : PG} {M T : PH} {K : PV → PS → Prop} {l0 l1 l2 : Int} : pm_Run d 195 65 [.inr (.inr (.inl l0)), .inl l1, .inl l2] [] (G, M, T) K ↔ pm_Run d 195 73 [.inr (.inr (.inl l0)), .inl l1, .inl l2] [.inl 0] (G, M, T) K := by
  refine (px_go (by decide +kernel : pm_fe 195 65 = some (.iconst 0, 1)) rfl).trans ?_
  refine (px_goto (off := 7) (tgt := 73) (by decide +kernel)).trans ?_
  exact Iff.rfl
theorem b195_69 {d : Nat} {G : PG} {M T : PH} {K : PV → PS → Prop} {l0 l1 l2 : Int} (h1 : pm_ob G l0 12) : pm_Run d 195 69 [.inr (.inr (.inl l0)), .inl l1, .inl l2] [] (G, M, T) K ↔ pm_Run d 195 73 [.inr (.inr (.inl l0)), .inl l1, .inl l2] [.inl (M l0.toNat 6)] (G, M, T) K := by
  refine (px_go (by decide +kernel : pm_fe 195 69 = some (.aload_n 0, 1)) rfl).trans ?_
  refine (px_get0 (idx := 29) (ci := 12) (k := 6) (by decide +kernel)).trans ((and_iff_right h1).trans ?_)
  exact Iff.rfl
theorem b195_73 {d : Nat} {G : PG} {M T : PH} {K : PV → PS → Prop} {l0 l1 l2 s0 : Int} : pm_Run d 195 73 [.inr (.inr (.inl l0)), .inl l1, .inl l2] [.inl s0] (G, M, T) K ↔ K (.inl s0) (G, M, T) := by
  refine (px_ri (by decide +kernel)).trans ?_
  exact Iff.rfl
-- X12_number number(II)I
theorem en196 {d : Nat} {a p0 p1 : Int} {S : PS} {K : PV → PS → Prop} : pm_Call (d + 1) 196 [.inr (.inr (.inl a)), .inl p0, .inl p1] S K ↔ pm_Run d 196 0 [.inr (.inr (.inl a)), .inl p0, .inl p1, PU] [] S K := pm_Call_s.trans (and_iff_right (show 3 ≤ pm_ml 196 from by decide +kernel))
theorem b196_0 {d : Nat} {G : PG} {M T : PH} {K : PV → PS → Prop} {l0 l1 l2 : Int} (h1 : pm_ob G l0 12) : pm_Run d 196 0 [.inr (.inr (.inl l0)), .inl l1, .inl l2, PU] [] (G, M, T) K ↔ pm_Call d 195 [.inr (.inr (.inl l0)), .inl l1, .inl l2] (G, M, T) (fun r S1 => pm_Run d 196 6 [.inr (.inr (.inl l0)), .inl l1, .inl l2, PU] (pm_push r []) S1 K) := by
  refine (px_go (by decide +kernel : pm_fe 196 0 = some (.aload_n 0, 1)) rfl).trans ?_
  refine (px_go (by decide +kernel : pm_fe 196 1 = some (.iload_n 1, 1)) rfl).trans ?_
  refine (px_go (by decide +kernel : pm_fe 196 2 = some (.iload_n 2, 1)) rfl).trans ?_
  refine (px_v2 (idx := 341) (m' := 195) (ci := 12) (by decide +kernel)).trans ((and_iff_right ⟨h1, (by simp [pm_wl_n, pm_wl_c, pm_w] : pm_wl [] ≤ 8)⟩).trans ?_)
  exact Iff.rfl
theorem b196_6 {d : Nat} {G : PG} {M T : PH} {K : PV → PS → Prop} {l0 l1 l2 s0 : Int} (h1 : pm_ob G l0 12) : pm_Run d 196 6 [.inr (.inr (.inl l0)), .inl l1, .inl l2, PU] [.inl s0] (G, M, T) K ↔ if pm_sg (M l0.toNat 8) ≠ 0 then pm_Run d 196 18 [.inr (.inr (.inl l0)), .inl l1, .inl l2, .inl s0] [] (G, M, T) K else pm_Run d 196 14 [.inr (.inr (.inl l0)), .inl l1, .inl l2, .inl s0] [] (G, M, T) K := by
  refine (px_go (by decide +kernel : pm_fe 196 6 = some (.istore_n 3, 1)) rfl).trans ?_
  refine (px_go (by decide +kernel : pm_fe 196 7 = some (.aload_n 0, 1)) rfl).trans ?_
  refine (px_get0 (idx := 36) (ci := 12) (k := 8) (by decide +kernel)).trans ((and_iff_right h1).trans ?_)
  refine (px_if_ne (off := 7) (tgt := 18) (by decide +kernel)).trans ?_
  exact Iff.rfl
theorem b196_14 {d : Nat} {G : PG} {M T : PH} {K : PV → PS → Prop} {l0 l1 l2 l3 : Int} (h1 : pm_ob G l0 12) : pm_Run d 196 14 [.inr (.inr (.inl l0)), .inl l1, .inl l2, .inl l3] [] (G, M, T) K ↔ pm_Call d 187 [.inr (.inr (.inl l0))] (G, M, T) (fun r S1 => pm_Run d 196 18 [.inr (.inr (.inl l0)), .inl l1, .inl l2, .inl l3] (pm_push r []) S1 K) := by
  refine (px_go (by decide +kernel : pm_fe 196 14 = some (.aload_n 0, 1)) rfl).trans ?_
  refine (px_v0 (idx := 268) (m' := 187) (ci := 12) (by decide +kernel)).trans ((and_iff_right ⟨h1, (by simp [pm_wl_n, pm_wl_c, pm_w] : pm_wl [] ≤ 8)⟩).trans ?_)
  exact Iff.rfl
theorem b196_18 {d : Nat} {G : PG} {M T : PH} {K : PV → PS → Prop} {l0 l1 l2 l3 : Int} : pm_Run d 196 18 [.inr (.inr (.inl l0)), .inl l1, .inl l2, .inl l3] [] (G, M, T) K ↔ K (.inl l3) (G, M, T) := by
  refine (px_go (by decide +kernel : pm_fe 196 18 = some (.iload_n 3, 1)) rfl).trans ?_
  refine (px_ri (by decide +kernel)).trans ?_
  exact Iff.rfl
-- X12_add add(II)V
theorem en197 {d : Nat} {a p0 p1 : Int} {S : PS} {K : PV → PS → Prop} : pm_Call (d + 1) 197 [.inr (.inr (.inl a)), .inl p0, .inl p1] S K ↔ pm_Run d 197 0 [.inr (.inr (.inl a)), .inl p0, .inl p1] [] S K := pm_Call_s.trans (and_iff_right (show 3 ≤ pm_ml 197 from by decide +kernel))
theorem b197_0 {d : Nat} {G : PG} {M T : PH} {K : PV → PS → Prop} {l0 l1 l2 : Int} (h1 : pm_ob G l0 12) (h2 : pm_ar G (T l0.toNat 37) 100 ((1600 * (M l0.toNat 42)) + (M l0.toNat 41))) (h3 : pm_ar G (T l0.toNat 38) 100 ((1600 * ((pm_sa M (T l0.toNat 37).toNat (pm_up (M (T l0.toNat 37).toNat) (pm_sg ((1600 * (M l0.toNat 42)) + (M l0.toNat 41))).toNat l1)) l0.toNat 42)) + ((pm_sa M (T l0.toNat 37).toNat (pm_up (M (T l0.toNat 37).toNat) (pm_sg ((1600 * (M l0.toNat 42)) + (M l0.toNat 41))).toNat l1)) l0.toNat 41))) : pm_Run d 197 0 [.inr (.inr (.inl l0)), .inl l1, .inl l2] [] (G, M, T) K ↔ pm_Run d 197 38 [.inr (.inr (.inl l0)), .inl l1, .inl l2] [] (G, pm_sa (pm_sa M (T l0.toNat 37).toNat (pm_up (M (T l0.toNat 37).toNat) (pm_sg ((1600 * (M l0.toNat 42)) + (M l0.toNat 41))).toNat l1)) (T l0.toNat 38).toNat (pm_up ((pm_sa M (T l0.toNat 37).toNat (pm_up (M (T l0.toNat 37).toNat) (pm_sg ((1600 * (M l0.toNat 42)) + (M l0.toNat 41))).toNat l1)) (T l0.toNat 38).toNat) (pm_sg ((1600 * ((pm_sa M (T l0.toNat 37).toNat (pm_up (M (T l0.toNat 37).toNat) (pm_sg ((1600 * (M l0.toNat 42)) + (M l0.toNat 41))).toNat l1)) l0.toNat 42)) + ((pm_sa M (T l0.toNat 37).toNat (pm_up (M (T l0.toNat 37).toNat) (pm_sg ((1600 * (M l0.toNat 42)) + (M l0.toNat 41))).toNat l1)) l0.toNat 41))).toNat l2), T) K := by
  refine (px_go (by decide +kernel : pm_fe 197 0 = some (.aload_n 0, 1)) rfl).trans ?_
  refine (px_get2 (idx := 123) (ci := 12) (k := 37) (by decide +kernel)).trans ((and_iff_right h1).trans ?_)
  refine (px_go (by decide +kernel : pm_fe 197 4 = some (.sipush 1600, 3)) rfl).trans ?_
  refine (px_go (by decide +kernel : pm_fe 197 7 = some (.aload_n 0, 1)) rfl).trans ?_
  refine (px_get0 (idx := 139) (ci := 12) (k := 42) (by decide +kernel)).trans ((and_iff_right h1).trans ?_)
  refine (px_go (by decide +kernel : pm_fe 197 11 = some (.imul, 1)) rfl).trans ?_
  refine (px_go (by decide +kernel : pm_fe 197 12 = some (.aload_n 0, 1)) rfl).trans ?_
  refine (px_get0 (idx := 136) (ci := 12) (k := 41) (by decide +kernel)).trans ((and_iff_right h1).trans ?_)
  refine (px_go (by decide +kernel : pm_fe 197 16 = some (.iadd, 1)) rfl).trans ?_
  refine (px_go (by decide +kernel : pm_fe 197 17 = some (.iload_n 1, 1)) rfl).trans ?_
  refine (px_iastore (by decide +kernel)).trans ((and_iff_right h2).trans ?_)
  refine (px_go (by decide +kernel : pm_fe 197 19 = some (.aload_n 0, 1)) rfl).trans ?_
  refine (px_get2 (idx := 126) (ci := 12) (k := 38) (by decide +kernel)).trans ((and_iff_right h1).trans ?_)
  refine (px_go (by decide +kernel : pm_fe 197 23 = some (.sipush 1600, 3)) rfl).trans ?_
  refine (px_go (by decide +kernel : pm_fe 197 26 = some (.aload_n 0, 1)) rfl).trans ?_
  refine (px_get0 (idx := 139) (ci := 12) (k := 42) (by decide +kernel)).trans ((and_iff_right h1).trans ?_)
  refine (px_go (by decide +kernel : pm_fe 197 30 = some (.imul, 1)) rfl).trans ?_
  refine (px_go (by decide +kernel : pm_fe 197 31 = some (.aload_n 0, 1)) rfl).trans ?_
  refine (px_get0 (idx := 136) (ci := 12) (k := 41) (by decide +kernel)).trans ((and_iff_right h1).trans ?_)
  refine (px_go (by decide +kernel : pm_fe 197 35 = some (.iadd, 1)) rfl).trans ?_
  refine (px_go (by decide +kernel : pm_fe 197 36 = some (.iload_n 2, 1)) rfl).trans ?_
  refine (px_iastore (by decide +kernel)).trans ((and_iff_right h3).trans ?_)
  exact Iff.rfl
theorem b197_38 {d : Nat} {G : PG} {M T : PH} {K : PV → PS → Prop} {l0 l1 l2 : Int} (h1 : pm_ob G l0 12) : pm_Run d 197 38 [.inr (.inr (.inl l0)), .inl l1, .inl l2] [] (G, M, T) K ↔ K PU (G, pm_sa M l0.toNat (pm_up (M l0.toNat) 41 ((M l0.toNat 41) + 1)), T) := by
  refine (px_go (by decide +kernel : pm_fe 197 38 = some (.aload_n 0, 1)) rfl).trans ?_
  refine (px_go (by decide +kernel : pm_fe 197 39 = some (.dup, 1)) rfl).trans ?_
  refine (px_get0 (idx := 136) (ci := 12) (k := 41) (by decide +kernel)).trans ((and_iff_right h1).trans ?_)
  refine (px_go (by decide +kernel : pm_fe 197 43 = some (.iconst 1, 1)) rfl).trans ?_
  refine (px_go (by decide +kernel : pm_fe 197 44 = some (.iadd, 1)) rfl).trans ?_
  refine (px_put0 (idx := 136) (ci := 12) (k := 41) (by decide +kernel)).trans ((and_iff_right h1).trans ?_)
  refine (px_rv (by decide +kernel)).trans ?_
  exact Iff.rfl
-- X12_rank rank(I)I
theorem en198 {d : Nat} {p0 : Int} {S : PS} {K : PV → PS → Prop} : pm_Call (d + 1) 198 [.inl p0] S K ↔ pm_Run d 198 0 [.inl p0] [] S K := pm_Call_s.trans (and_iff_right (show 1 ≤ pm_ml 198 from by decide +kernel))
theorem b198_0 {d : Nat} {G : PG} {M T : PH} {K : PV → PS → Prop} {l0 : Int} : pm_Run d 198 0 [.inl l0] [] (G, M, T) K ↔ if pm_sg l0 ≠ pm_sg 21 then pm_Run d 198 10 [.inl l0] [] (G, M, T) K else pm_Run d 198 6 [.inl l0] [] (G, M, T) K := by
  refine (px_go (by decide +kernel : pm_fe 198 0 = some (.iload_n 0, 1)) rfl).trans ?_
  refine (px_go (by decide +kernel : pm_fe 198 1 = some (.bipush 21, 2)) rfl).trans ?_
  refine (px_ic_ne (off := 7) (tgt := 10) (by decide +kernel)).trans ?_
  exact Iff.rfl
theorem b198_6 {d : Nat} {G : PG} {M T : PH} {K : PV → PS → Prop} {l0 : Int} : pm_Run d 198 6 [.inl l0] [] (G, M, T) K ↔ pm_Run d 198 70 [.inl l0] [.inl 1] (G, M, T) K := by
  refine (px_go (by decide +kernel : pm_fe 198 6 = some (.iconst 1, 1)) rfl).trans ?_
  refine (px_goto (off := 63) (tgt := 70) (by decide +kernel)).trans ?_
  exact Iff.rfl
theorem b198_10 {d : Nat} {G : PG} {M T : PH} {K : PV → PS → Prop} {l0 : Int} : pm_Run d 198 10 [.inl l0] [] (G, M, T) K ↔ if pm_sg l0 ≠ pm_sg 20 then pm_Run d 198 20 [.inl l0] [] (G, M, T) K else pm_Run d 198 16 [.inl l0] [] (G, M, T) K := by
  refine (px_go (by decide +kernel : pm_fe 198 10 = some (.iload_n 0, 1)) rfl).trans ?_
  refine (px_go (by decide +kernel : pm_fe 198 11 = some (.bipush 20, 2)) rfl).trans ?_
  refine (px_ic_ne (off := 7) (tgt := 20) (by decide +kernel)).trans ?_
  exact Iff.rfl
theorem b198_16 {d : Nat} {G : PG} {M T : PH} {K : PV → PS → Prop} {l0 : Int} : pm_Run d 198 16 [.inl l0] [] (G, M, T) K ↔ pm_Run d 198 70 [.inl l0] [.inl 2] (G, M, T) K := by
  refine (px_go (by decide +kernel : pm_fe 198 16 = some (.iconst 2, 1)) rfl).trans ?_
  refine (px_goto (off := 53) (tgt := 70) (by decide +kernel)).trans ?_
  exact Iff.rfl
theorem b198_20 {d : Nat} {G : PG} {M T : PH} {K : PV → PS → Prop} {l0 : Int} : pm_Run d 198 20 [.inl l0] [] (G, M, T) K ↔ if pm_sg l0 ≠ pm_sg 22 then pm_Run d 198 30 [.inl l0] [] (G, M, T) K else pm_Run d 198 26 [.inl l0] [] (G, M, T) K := by
  refine (px_go (by decide +kernel : pm_fe 198 20 = some (.iload_n 0, 1)) rfl).trans ?_
  refine (px_go (by decide +kernel : pm_fe 198 21 = some (.bipush 22, 2)) rfl).trans ?_
  refine (px_ic_ne (off := 7) (tgt := 30) (by decide +kernel)).trans ?_
  exact Iff.rfl
theorem b198_26 {d : Nat} {G : PG} {M T : PH} {K : PV → PS → Prop} {l0 : Int} : pm_Run d 198 26 [.inl l0] [] (G, M, T) K ↔ pm_Run d 198 70 [.inl l0] [.inl 3] (G, M, T) K := by
  refine (px_go (by decide +kernel : pm_fe 198 26 = some (.iconst 3, 1)) rfl).trans ?_
  refine (px_goto (off := 43) (tgt := 70) (by decide +kernel)).trans ?_
  exact Iff.rfl
theorem b198_30 {d : Nat} {G : PG} {M T : PH} {K : PV → PS → Prop} {l0 : Int} : pm_Run d 198 30 [.inl l0] [] (G, M, T) K ↔ if pm_sg l0 = pm_sg 17 then pm_Run d 198 48 [.inl l0] [] (G, M, T) K else pm_Run d 198 36 [.inl l0] [] (G, M, T) K := by
  refine (px_go (by decide +kernel : pm_fe 198 30 = some (.iload_n 0, 1)) rfl).trans ?_
  refine (px_go (by decide +kernel : pm_fe 198 31 = some (.bipush 17, 2)) rfl).trans ?_
  refine (px_ic_eq (off := 15) (tgt := 48) (by decide +kernel)).trans ?_
  exact Iff.rfl
theorem b198_36 {d : Nat} {G : PG} {M T : PH} {K : PV → PS → Prop} {l0 : Int} : pm_Run d 198 36 [.inl l0] [] (G, M, T) K ↔ if pm_sg l0 = pm_sg 18 then pm_Run d 198 48 [.inl l0] [] (G, M, T) K else pm_Run d 198 42 [.inl l0] [] (G, M, T) K := by
  refine (px_go (by decide +kernel : pm_fe 198 36 = some (.iload_n 0, 1)) rfl).trans ?_
  refine (px_go (by decide +kernel : pm_fe 198 37 = some (.bipush 18, 2)) rfl).trans ?_
  refine (px_ic_eq (off := 9) (tgt := 48) (by decide +kernel)).trans ?_
  exact Iff.rfl
theorem b198_42 {d : Nat} {G : PG} {M T : PH} {K : PV → PS → Prop} {l0 : Int} : pm_Run d 198 42 [.inl l0] [] (G, M, T) K ↔ if pm_sg l0 ≠ pm_sg 19 then pm_Run d 198 52 [.inl l0] [] (G, M, T) K else pm_Run d 198 48 [.inl l0] [] (G, M, T) K := by
  refine (px_go (by decide +kernel : pm_fe 198 42 = some (.iload_n 0, 1)) rfl).trans ?_
  refine (px_go (by decide +kernel : pm_fe 198 43 = some (.bipush 19, 2)) rfl).trans ?_
  refine (px_ic_ne (off := 7) (tgt := 52) (by decide +kernel)).trans ?_
  exact Iff.rfl
theorem b198_48 {d : Nat} {G : PG} {M T : PH} {K : PV → PS → Prop} {l0 : Int} : pm_Run d 198 48 [.inl l0] [] (G, M, T) K ↔ pm_Run d 198 70 [.inl l0] [.inl 4] (G, M, T) K := by
  refine (px_go (by decide +kernel : pm_fe 198 48 = some (.iconst 4, 1)) rfl).trans ?_
  refine (px_goto (off := 21) (tgt := 70) (by decide +kernel)).trans ?_
  exact Iff.rfl
theorem b198_52 {d : Nat} {G : PG} {M T : PH} {K : PV → PS → Prop} {l0 : Int} : pm_Run d 198 52 [.inl l0] [] (G, M, T) K ↔ if pm_sg l0 = pm_sg 10 then pm_Run d 198 64 [.inl l0] [] (G, M, T) K else pm_Run d 198 58 [.inl l0] [] (G, M, T) K := by
  refine (px_go (by decide +kernel : pm_fe 198 52 = some (.iload_n 0, 1)) rfl).trans ?_
  refine (px_go (by decide +kernel : pm_fe 198 53 = some (.bipush 10, 2)) rfl).trans ?_
  refine (px_ic_eq (off := 9) (tgt := 64) (by decide +kernel)).trans ?_
  exact Iff.rfl
theorem b198_58 {d : Nat} {G : PG} {M T : PH} {K : PV → PS → Prop} {l0 : Int} : pm_Run d 198 58 [.inl l0] [] (G, M, T) K ↔ if pm_sg l0 ≠ pm_sg 11 then pm_Run d 198 68 [.inl l0] [] (G, M, T) K else pm_Run d 198 64 [.inl l0] [] (G, M, T) K := by
  refine (px_go (by decide +kernel : pm_fe 198 58 = some (.iload_n 0, 1)) rfl).trans ?_
  refine (px_go (by decide +kernel : pm_fe 198 59 = some (.bipush 11, 2)) rfl).trans ?_
  refine (px_ic_ne (off := 7) (tgt := 68) (by decide +kernel)).trans ?_
  exact Iff.rfl
theorem b198_64 {d : Nat} {G : PG} {M T : PH} {K : PV → PS → Prop} {l0 : Int} : pm_Run d 198 64 [.inl l0] [] (G, M, T) K ↔ pm_Run d 198 70 [.inl l0] [.inl 5] (G, M, T) K := by
  refine (px_go (by decide +kernel : pm_fe 198 64 = some (.iconst 5, 1)) rfl).trans ?_
  refine (px_goto (off := 5) (tgt := 70) (by decide +kernel)).trans ?_
  exact Iff.rfl
theorem b198_68 {d : Nat} {G : PG} {M T : PH} {K : PV → PS → Prop} {l0 : Int} : pm_Run d 198 68 [.inl l0] [] (G, M, T) K ↔ pm_Run d 198 70 [.inl l0] [.inl 6] (G, M, T) K := by
  refine (px_go (by decide +kernel : pm_fe 198 68 = some (.bipush 6, 2)) rfl).trans ?_
  exact Iff.rfl
theorem b198_70 {d : Nat} {G : PG} {M T : PH} {K : PV → PS → Prop} {l0 s0 : Int} : pm_Run d 198 70 [.inl l0] [.inl s0] (G, M, T) K ↔ K (.inl s0) (G, M, T) := by
  refine (px_ri (by decide +kernel)).trans ?_
  exact Iff.rfl
-- X12_joins joins(I)V
theorem en199 {d : Nat} {a p0 : Int} {S : PS} {K : PV → PS → Prop} : pm_Call (d + 1) 199 [.inr (.inr (.inl a)), .inl p0] S K ↔ pm_Run d 199 0 [.inr (.inr (.inl a)), .inl p0] [] S K := pm_Call_s.trans (and_iff_right (show 2 ≤ pm_ml 199 from by decide +kernel))
theorem b199_0 {d : Nat} {G : PG} {M T : PH} {K : PV → PS → Prop} {l0 l1 : Int} (h1 : pm_ob G l0 12) (h2 : pm_ar G (T l0.toNat 47) 100 ((M l0.toNat 48) - 1)) : pm_Run d 199 0 [.inr (.inr (.inl l0)), .inl l1] [] (G, M, T) K ↔ if pm_sg (M l0.toNat 51) ≤ pm_sg (M (T l0.toNat 47).toNat (pm_sg ((M l0.toNat 48) - 1)).toNat) then pm_Run d 199 87 [.inr (.inr (.inl l0)), .inl l1] [] (G, M, T) K else pm_Run d 199 18 [.inr (.inr (.inl l0)), .inl l1] [] (G, M, T) K := by
  refine (px_go (by decide +kernel : pm_fe 199 0 = some (.aload_n 0, 1)) rfl).trans ?_
  refine (px_get0 (idx := 167) (ci := 12) (k := 51) (by decide +kernel)).trans ((and_iff_right h1).trans ?_)
  refine (px_go (by decide +kernel : pm_fe 199 4 = some (.aload_n 0, 1)) rfl).trans ?_
  refine (px_get2 (idx := 155) (ci := 12) (k := 47) (by decide +kernel)).trans ((and_iff_right h1).trans ?_)
  refine (px_go (by decide +kernel : pm_fe 199 8 = some (.aload_n 0, 1)) rfl).trans ?_
  refine (px_get0 (idx := 158) (ci := 12) (k := 48) (by decide +kernel)).trans ((and_iff_right h1).trans ?_)
  refine (px_go (by decide +kernel : pm_fe 199 12 = some (.iconst 1, 1)) rfl).trans ?_
  refine (px_go (by decide +kernel : pm_fe 199 13 = some (.isub, 1)) rfl).trans ?_
  refine (px_iaload (by decide +kernel) h2).trans ?_
  refine (px_ic_le (off := 72) (tgt := 87) (by decide +kernel)).trans ?_
  exact Iff.rfl
theorem b199_18 {d : Nat} {G : PG} {M T : PH} {K : PV → PS → Prop} {l0 l1 : Int} (h1 : pm_ob G l0 12) (h2 : pm_ar G (T l0.toNat 50) 100 ((M l0.toNat 51) - 1)) : pm_Run d 199 18 [.inr (.inr (.inl l0)), .inl l1] [] (G, M, T) K ↔ pm_Call d 198 [.inl (M (T l0.toNat 50).toNat (pm_sg ((M l0.toNat 51) - 1)).toNat)] (G, M, T) (fun r S1 => pm_Run d 199 32 [.inr (.inr (.inl l0)), .inl l1] (pm_push r []) S1 K) := by
  refine (px_go (by decide +kernel : pm_fe 199 18 = some (.aload_n 0, 1)) rfl).trans ?_
  refine (px_get2 (idx := 164) (ci := 12) (k := 50) (by decide +kernel)).trans ((and_iff_right h1).trans ?_)
  refine (px_go (by decide +kernel : pm_fe 199 22 = some (.aload_n 0, 1)) rfl).trans ?_
  refine (px_get0 (idx := 167) (ci := 12) (k := 51) (by decide +kernel)).trans ((and_iff_right h1).trans ?_)
  refine (px_go (by decide +kernel : pm_fe 199 26 = some (.iconst 1, 1)) rfl).trans ?_
  refine (px_go (by decide +kernel : pm_fe 199 27 = some (.isub, 1)) rfl).trans ?_
  refine (px_iaload (by decide +kernel) h2).trans ?_
  refine (px_s1 (idx := 344) (m' := 198) (nest := 0) (by decide +kernel)).trans ((and_iff_right (by simp [pm_wl_n, pm_wl_c, pm_w] : pm_wl [] ≤ 8)).trans ?_)
  exact Iff.rfl
theorem b199_32 {d : Nat} {G : PG} {M T : PH} {K : PV → PS → Prop} {l0 l1 s0 : Int} : pm_Run d 199 32 [.inr (.inr (.inl l0)), .inl l1] [.inl s0] (G, M, T) K ↔ if pm_sg s0 < pm_sg l1 then pm_Run d 199 87 [.inr (.inr (.inl l0)), .inl l1] [] (G, M, T) K else pm_Run d 199 36 [.inr (.inr (.inl l0)), .inl l1] [] (G, M, T) K := by
  refine (px_go (by decide +kernel : pm_fe 199 32 = some (.iload_n 1, 1)) rfl).trans ?_
  refine (px_ic_lt (off := 54) (tgt := 87) (by decide +kernel)).trans ?_
  exact Iff.rfl
theorem b199_36 {d : Nat} {G : PG} {M T : PH} {K : PV → PS → Prop} {l0 l1 : Int} (h1 : pm_ob G l0 12) (h2 : pm_ar G (T l0.toNat 50) 100 ((pm_sa M l0.toNat (pm_up (M l0.toNat) 51 ((M l0.toNat 51) - 1))) l0.toNat 51)) : pm_Run d 199 36 [.inr (.inr (.inl l0)), .inl l1] [] (G, M, T) K ↔ pm_Call d 197 [.inr (.inr (.inl l0)), .inl ((pm_sa M l0.toNat (pm_up (M l0.toNat) 51 ((M l0.toNat 51) - 1))) (T l0.toNat 50).toNat (pm_sg ((pm_sa M l0.toNat (pm_up (M l0.toNat) 51 ((M l0.toNat 51) - 1))) l0.toNat 51)).toNat), .inl 0] (G, pm_sa M l0.toNat (pm_up (M l0.toNat) 51 ((M l0.toNat 51) - 1)), T) (fun r S1 => pm_Run d 199 60 [.inr (.inr (.inl l0)), .inl l1] (pm_push r []) S1 K) := by
  refine (px_go (by decide +kernel : pm_fe 199 36 = some (.aload_n 0, 1)) rfl).trans ?_
  refine (px_go (by decide +kernel : pm_fe 199 37 = some (.dup, 1)) rfl).trans ?_
  refine (px_get0 (idx := 167) (ci := 12) (k := 51) (by decide +kernel)).trans ((and_iff_right h1).trans ?_)
  refine (px_go (by decide +kernel : pm_fe 199 41 = some (.iconst 1, 1)) rfl).trans ?_
  refine (px_go (by decide +kernel : pm_fe 199 42 = some (.isub, 1)) rfl).trans ?_
  refine (px_put0 (idx := 167) (ci := 12) (k := 51) (by decide +kernel)).trans ((and_iff_right h1).trans ?_)
  refine (px_go (by decide +kernel : pm_fe 199 46 = some (.aload_n 0, 1)) rfl).trans ?_
  refine (px_go (by decide +kernel : pm_fe 199 47 = some (.aload_n 0, 1)) rfl).trans ?_
  refine (px_get2 (idx := 164) (ci := 12) (k := 50) (by decide +kernel)).trans ((and_iff_right h1).trans ?_)
  refine (px_go (by decide +kernel : pm_fe 199 51 = some (.aload_n 0, 1)) rfl).trans ?_
  refine (px_get0 (idx := 167) (ci := 12) (k := 51) (by decide +kernel)).trans ((and_iff_right h1).trans ?_)
  refine (px_iaload (by decide +kernel) h2).trans ?_
  refine (px_go (by decide +kernel : pm_fe 199 56 = some (.iconst 0, 1)) rfl).trans ?_
  refine (px_v2 (idx := 347) (m' := 197) (ci := 12) (by decide +kernel)).trans ((and_iff_right ⟨h1, (by simp [pm_wl_n, pm_wl_c, pm_w] : pm_wl [] ≤ 8)⟩).trans ?_)
  exact Iff.rfl
theorem b199_60 {d : Nat} {G : PG} {M T : PH} {K : PV → PS → Prop} {l0 l1 : Int} (h1 : pm_ob G l0 12) (h2 : pm_ar G (T l0.toNat 50) 100 (M l0.toNat 51)) : pm_Run d 199 60 [.inr (.inr (.inl l0)), .inl l1] [] (G, M, T) K ↔ if pm_sg (M (T l0.toNat 50).toNat (pm_sg (M l0.toNat 51)).toNat) ≠ pm_sg 22 then pm_Run d 199 0 [.inr (.inr (.inl l0)), .inl l1] [] (G, M, T) K else pm_Run d 199 74 [.inr (.inr (.inl l0)), .inl l1] [] (G, M, T) K := by
  refine (px_go (by decide +kernel : pm_fe 199 60 = some (.aload_n 0, 1)) rfl).trans ?_
  refine (px_get2 (idx := 164) (ci := 12) (k := 50) (by decide +kernel)).trans ((and_iff_right h1).trans ?_)
  refine (px_go (by decide +kernel : pm_fe 199 64 = some (.aload_n 0, 1)) rfl).trans ?_
  refine (px_get0 (idx := 167) (ci := 12) (k := 51) (by decide +kernel)).trans ((and_iff_right h1).trans ?_)
  refine (px_iaload (by decide +kernel) h2).trans ?_
  refine (px_go (by decide +kernel : pm_fe 199 69 = some (.bipush 22, 2)) rfl).trans ?_
  refine (px_ic_ne (off := (-71)) (tgt := 0) (by decide +kernel)).trans ?_
  exact Iff.rfl
theorem b199_74 {d : Nat} {G : PG} {M T : PH} {K : PV → PS → Prop} {l0 l1 : Int} (h1 : pm_ob G l0 12) : pm_Run d 199 74 [.inr (.inr (.inl l0)), .inl l1] [] (G, M, T) K ↔ pm_Run d 199 0 [.inr (.inr (.inl l0)), .inl l1] [] (G, pm_sa M l0.toNat (pm_up (M l0.toNat) 49 ((M l0.toNat 49) - 1)), T) K := by
  refine (px_go (by decide +kernel : pm_fe 199 74 = some (.aload_n 0, 1)) rfl).trans ?_
  refine (px_go (by decide +kernel : pm_fe 199 75 = some (.dup, 1)) rfl).trans ?_
  refine (px_get0 (idx := 161) (ci := 12) (k := 49) (by decide +kernel)).trans ((and_iff_right h1).trans ?_)
  refine (px_go (by decide +kernel : pm_fe 199 79 = some (.iconst 1, 1)) rfl).trans ?_
  refine (px_go (by decide +kernel : pm_fe 199 80 = some (.isub, 1)) rfl).trans ?_
  refine (px_put0 (idx := 161) (ci := 12) (k := 49) (by decide +kernel)).trans ((and_iff_right h1).trans ?_)
  refine (px_goto (off := (-84)) (tgt := 0) (by decide +kernel)).trans ?_
  exact Iff.rfl
theorem b199_87 {d : Nat} {G : PG} {M T : PH} {K : PV → PS → Prop} {l0 l1 : Int} : pm_Run d 199 87 [.inr (.inr (.inl l0)), .inl l1] [] (G, M, T) K ↔ K PU (G, M, T) := by
  refine (px_rv (by decide +kernel)).trans ?_
  exact Iff.rfl
-- X12_holdsBack holdsBack(I)V
theorem en200 {d : Nat} {a p0 : Int} {S : PS} {K : PV → PS → Prop} : pm_Call (d + 1) 200 [.inr (.inr (.inl a)), .inl p0] S K ↔ pm_Run d 200 0 [.inr (.inr (.inl a)), .inl p0] [] S K := pm_Call_s.trans (and_iff_right (show 2 ≤ pm_ml 200 from by decide +kernel))
theorem b200_0 {d : Nat} {G : PG} {M T : PH} {K : PV → PS → Prop} {l0 l1 : Int} (h1 : pm_ob G l0 12) (h2 : pm_ar G (T l0.toNat 50) 100 (M l0.toNat 51)) : pm_Run d 200 0 [.inr (.inr (.inl l0)), .inl l1] [] (G, M, T) K ↔ pm_Run d 200 20 [.inr (.inr (.inl l0)), .inl l1] [] (G, pm_sa (pm_sa M (T l0.toNat 50).toNat (pm_up (M (T l0.toNat 50).toNat) (pm_sg (M l0.toNat 51)).toNat l1)) l0.toNat (pm_up ((pm_sa M (T l0.toNat 50).toNat (pm_up (M (T l0.toNat 50).toNat) (pm_sg (M l0.toNat 51)).toNat l1)) l0.toNat) 51 (((pm_sa M (T l0.toNat 50).toNat (pm_up (M (T l0.toNat 50).toNat) (pm_sg (M l0.toNat 51)).toNat l1)) l0.toNat 51) + 1)), T) K := by
  refine (px_go (by decide +kernel : pm_fe 200 0 = some (.aload_n 0, 1)) rfl).trans ?_
  refine (px_get2 (idx := 164) (ci := 12) (k := 50) (by decide +kernel)).trans ((and_iff_right h1).trans ?_)
  refine (px_go (by decide +kernel : pm_fe 200 4 = some (.aload_n 0, 1)) rfl).trans ?_
  refine (px_get0 (idx := 167) (ci := 12) (k := 51) (by decide +kernel)).trans ((and_iff_right h1).trans ?_)
  refine (px_go (by decide +kernel : pm_fe 200 8 = some (.iload_n 1, 1)) rfl).trans ?_
  refine (px_iastore (by decide +kernel)).trans ((and_iff_right h2).trans ?_)
  refine (px_go (by decide +kernel : pm_fe 200 10 = some (.aload_n 0, 1)) rfl).trans ?_
  refine (px_go (by decide +kernel : pm_fe 200 11 = some (.dup, 1)) rfl).trans ?_
  refine (px_get0 (idx := 167) (ci := 12) (k := 51) (by decide +kernel)).trans ((and_iff_right h1).trans ?_)
  refine (px_go (by decide +kernel : pm_fe 200 15 = some (.iconst 1, 1)) rfl).trans ?_
  refine (px_go (by decide +kernel : pm_fe 200 16 = some (.iadd, 1)) rfl).trans ?_
  refine (px_put0 (idx := 167) (ci := 12) (k := 51) (by decide +kernel)).trans ((and_iff_right h1).trans ?_)
  exact Iff.rfl
theorem b200_20 {d : Nat} {G : PG} {M T : PH} {K : PV → PS → Prop} {l0 l1 : Int} : pm_Run d 200 20 [.inr (.inr (.inl l0)), .inl l1] [] (G, M, T) K ↔ K PU (G, M, T) := by
  refine (px_rv (by decide +kernel)).trans ?_
  exact Iff.rfl
-- X12_pushes pushes(I)V
theorem en201 {d : Nat} {a p0 : Int} {S : PS} {K : PV → PS → Prop} : pm_Call (d + 1) 201 [.inr (.inr (.inl a)), .inl p0] S K ↔ pm_Run d 201 0 [.inr (.inr (.inl a)), .inl p0] [] S K := pm_Call_s.trans (and_iff_right (show 2 ≤ pm_ml 201 from by decide +kernel))
theorem b201_0 {d : Nat} {G : PG} {M T : PH} {K : PV → PS → Prop} {l0 l1 : Int} (h1 : pm_ob G l0 12) (h2 : pm_ar G (T l0.toNat 43) 100 (M l0.toNat 48)) (h3 : pm_ar G (T l0.toNat 44) 100 ((pm_sa M (T l0.toNat 43).toNat (pm_up (M (T l0.toNat 43).toNat) (pm_sg (M l0.toNat 48)).toNat l1)) l0.toNat 48)) : pm_Run d 201 0 [.inr (.inr (.inl l0)), .inl l1] [] (G, M, T) K ↔ pm_Run d 201 20 [.inr (.inr (.inl l0)), .inl l1] [] (G, pm_sa (pm_sa M (T l0.toNat 43).toNat (pm_up (M (T l0.toNat 43).toNat) (pm_sg (M l0.toNat 48)).toNat l1)) (T l0.toNat 44).toNat (pm_up ((pm_sa M (T l0.toNat 43).toNat (pm_up (M (T l0.toNat 43).toNat) (pm_sg (M l0.toNat 48)).toNat l1)) (T l0.toNat 44).toNat) (pm_sg ((pm_sa M (T l0.toNat 43).toNat (pm_up (M (T l0.toNat 43).toNat) (pm_sg (M l0.toNat 48)).toNat l1)) l0.toNat 48)).toNat 0), T) K := by
  refine (px_go (by decide +kernel : pm_fe 201 0 = some (.aload_n 0, 1)) rfl).trans ?_
  refine (px_get2 (idx := 142) (ci := 12) (k := 43) (by decide +kernel)).trans ((and_iff_right h1).trans ?_)
  refine (px_go (by decide +kernel : pm_fe 201 4 = some (.aload_n 0, 1)) rfl).trans ?_
  refine (px_get0 (idx := 158) (ci := 12) (k := 48) (by decide +kernel)).trans ((and_iff_right h1).trans ?_)
  refine (px_go (by decide +kernel : pm_fe 201 8 = some (.iload_n 1, 1)) rfl).trans ?_
  refine (px_iastore (by decide +kernel)).trans ((and_iff_right h2).trans ?_)
  refine (px_go (by decide +kernel : pm_fe 201 10 = some (.aload_n 0, 1)) rfl).trans ?_
  refine (px_get2 (idx := 145) (ci := 12) (k := 44) (by decide +kernel)).trans ((and_iff_right h1).trans ?_)
  refine (px_go (by decide +kernel : pm_fe 201 14 = some (.aload_n 0, 1)) rfl).trans ?_
  refine (px_get0 (idx := 158) (ci := 12) (k := 48) (by decide +kernel)).trans ((and_iff_right h1).trans ?_)
  refine (px_go (by decide +kernel : pm_fe 201 18 = some (.iconst 0, 1)) rfl).trans ?_
  refine (px_iastore (by decide +kernel)).trans ((and_iff_right h3).trans ?_)
  exact Iff.rfl
theorem b201_20 {d : Nat} {G : PG} {M T : PH} {K : PV → PS → Prop} {l0 l1 : Int} (h1 : pm_ob G l0 12) (h2 : pm_ar G (T l0.toNat 45) 102 (M l0.toNat 48)) (h3 : pm_ar G (T l0.toNat 47) 100 ((pm_sa M (T l0.toNat 45).toNat (pm_up (M (T l0.toNat 45).toNat) (pm_sg (M l0.toNat 48)).toNat 1)) l0.toNat 48)) : pm_Run d 201 20 [.inr (.inr (.inl l0)), .inl l1] [] (G, M, T) K ↔ pm_Run d 201 43 [.inr (.inr (.inl l0)), .inl l1] [] (G, pm_sa (pm_sa M (T l0.toNat 45).toNat (pm_up (M (T l0.toNat 45).toNat) (pm_sg (M l0.toNat 48)).toNat 1)) (T l0.toNat 47).toNat (pm_up ((pm_sa M (T l0.toNat 45).toNat (pm_up (M (T l0.toNat 45).toNat) (pm_sg (M l0.toNat 48)).toNat 1)) (T l0.toNat 47).toNat) (pm_sg ((pm_sa M (T l0.toNat 45).toNat (pm_up (M (T l0.toNat 45).toNat) (pm_sg (M l0.toNat 48)).toNat 1)) l0.toNat 48)).toNat ((pm_sa M (T l0.toNat 45).toNat (pm_up (M (T l0.toNat 45).toNat) (pm_sg (M l0.toNat 48)).toNat 1)) l0.toNat 51)), T) K := by
  refine (px_go (by decide +kernel : pm_fe 201 20 = some (.aload_n 0, 1)) rfl).trans ?_
  refine (px_get2 (idx := 148) (ci := 12) (k := 45) (by decide +kernel)).trans ((and_iff_right h1).trans ?_)
  refine (px_go (by decide +kernel : pm_fe 201 24 = some (.aload_n 0, 1)) rfl).trans ?_
  refine (px_get0 (idx := 158) (ci := 12) (k := 48) (by decide +kernel)).trans ((and_iff_right h1).trans ?_)
  refine (px_go (by decide +kernel : pm_fe 201 28 = some (.iconst 1, 1)) rfl).trans ?_
  refine (px_zastore (by decide +kernel) h2 (by decide : (1 : Int) = (0 : Int) ∨ (1 : Int) = (1 : Int))).trans ?_
  refine (px_go (by decide +kernel : pm_fe 201 30 = some (.aload_n 0, 1)) rfl).trans ?_
  refine (px_get2 (idx := 155) (ci := 12) (k := 47) (by decide +kernel)).trans ((and_iff_right h1).trans ?_)
  refine (px_go (by decide +kernel : pm_fe 201 34 = some (.aload_n 0, 1)) rfl).trans ?_
  refine (px_get0 (idx := 158) (ci := 12) (k := 48) (by decide +kernel)).trans ((and_iff_right h1).trans ?_)
  refine (px_go (by decide +kernel : pm_fe 201 38 = some (.aload_n 0, 1)) rfl).trans ?_
  refine (px_get0 (idx := 167) (ci := 12) (k := 51) (by decide +kernel)).trans ((and_iff_right h1).trans ?_)
  refine (px_iastore (by decide +kernel)).trans ((and_iff_right h3).trans ?_)
  exact Iff.rfl
theorem b201_43 {d : Nat} {G : PG} {M T : PH} {K : PV → PS → Prop} {l0 l1 : Int} (h1 : pm_ob G l0 12) : pm_Run d 201 43 [.inr (.inr (.inl l0)), .inl l1] [] (G, M, T) K ↔ K PU (G, pm_sa M l0.toNat (pm_up (M l0.toNat) 48 ((M l0.toNat 48) + 1)), T) := by
  refine (px_go (by decide +kernel : pm_fe 201 43 = some (.aload_n 0, 1)) rfl).trans ?_
  refine (px_go (by decide +kernel : pm_fe 201 44 = some (.dup, 1)) rfl).trans ?_
  refine (px_get0 (idx := 158) (ci := 12) (k := 48) (by decide +kernel)).trans ((and_iff_right h1).trans ?_)
  refine (px_go (by decide +kernel : pm_fe 201 48 = some (.iconst 1, 1)) rfl).trans ?_
  refine (px_go (by decide +kernel : pm_fe 201 49 = some (.iadd, 1)) rfl).trans ?_
  refine (px_put0 (idx := 158) (ci := 12) (k := 48) (by decide +kernel)).trans ((and_iff_right h1).trans ?_)
  refine (px_rv (by decide +kernel)).trans ?_
  exact Iff.rfl
-- X12_opens opens(I)V
theorem en202 {d : Nat} {a p0 : Int} {S : PS} {K : PV → PS → Prop} : pm_Call (d + 1) 202 [.inr (.inr (.inl a)), .inl p0] S K ↔ pm_Run d 202 0 [.inr (.inr (.inl a)), .inl p0] [] S K := pm_Call_s.trans (and_iff_right (show 2 ≤ pm_ml 202 from by decide +kernel))
theorem b202_0 {d : Nat} {G : PG} {M T : PH} {K : PV → PS → Prop} {l0 l1 : Int} (h1 : pm_ob G l0 12) : pm_Run d 202 0 [.inr (.inr (.inl l0)), .inl l1] [] (G, M, T) K ↔ if pm_sg (M l0.toNat 49) ≠ pm_sg 7 then pm_Run d 202 18 [.inr (.inr (.inl l0)), .inl l1] [] (G, M, T) K else pm_Run d 202 9 [.inr (.inr (.inl l0)), .inl l1] [] (G, M, T) K := by
  refine (px_go (by decide +kernel : pm_fe 202 0 = some (.aload_n 0, 1)) rfl).trans ?_
  refine (px_get0 (idx := 161) (ci := 12) (k := 49) (by decide +kernel)).trans ((and_iff_right h1).trans ?_)
  refine (px_go (by decide +kernel : pm_fe 202 4 = some (.bipush 7, 2)) rfl).trans ?_
  refine (px_ic_ne (off := 12) (tgt := 18) (by decide +kernel)).trans ?_
  exact Iff.rfl
theorem b202_9 {d : Nat} {G : PG} {M T : PH} {K : PV → PS → Prop} {l0 l1 : Int} (h1 : pm_ob G l0 12) : pm_Run d 202 9 [.inr (.inr (.inl l0)), .inl l1] [] (G, M, T) K ↔ pm_Call d 183 [.inr (.inr (.inl l0)), .inl 5, .inl (M l0.toNat 4)] (G, M, T) (fun r S1 => pm_Run d 202 18 [.inr (.inr (.inl l0)), .inl l1] (pm_push r []) S1 K) := by
  refine (px_go (by decide +kernel : pm_fe 202 9 = some (.aload_n 0, 1)) rfl).trans ?_
  refine (px_go (by decide +kernel : pm_fe 202 10 = some (.iconst 5, 1)) rfl).trans ?_
  refine (px_go (by decide +kernel : pm_fe 202 11 = some (.aload_n 0, 1)) rfl).trans ?_
  refine (px_get0 (idx := 23) (ci := 12) (k := 4) (by decide +kernel)).trans ((and_iff_right h1).trans ?_)
  refine (px_v2 (idx := 251) (m' := 183) (ci := 12) (by decide +kernel)).trans ((and_iff_right ⟨h1, (by simp [pm_wl_n, pm_wl_c, pm_w] : pm_wl [] ≤ 8)⟩).trans ?_)
  exact Iff.rfl
theorem b202_18 {d : Nat} {G : PG} {M T : PH} {K : PV → PS → Prop} {l0 l1 : Int} (h1 : pm_ob G l0 12) : pm_Run d 202 18 [.inr (.inr (.inl l0)), .inl l1] [] (G, M, T) K ↔ if pm_sg (M l0.toNat 8) ≤ 0 then pm_Run d 202 26 [.inr (.inr (.inl l0)), .inl l1] [] (G, M, T) K else pm_Run d 202 25 [.inr (.inr (.inl l0)), .inl l1] [] (G, M, T) K := by
  refine (px_go (by decide +kernel : pm_fe 202 18 = some (.aload_n 0, 1)) rfl).trans ?_
  refine (px_get0 (idx := 36) (ci := 12) (k := 8) (by decide +kernel)).trans ((and_iff_right h1).trans ?_)
  refine (px_if_le (off := 4) (tgt := 26) (by decide +kernel)).trans ?_
  exact Iff.rfl
theorem b202_25 {d : Nat} {G : PG} {M T : PH} {K : PV → PS → Prop} {l0 l1 : Int} : pm_Run d 202 25 [.inr (.inr (.inl l0)), .inl l1] [] (G, M, T) K ↔ K PU (G, M, T) := by
  refine (px_rv (by decide +kernel)).trans ?_
  exact Iff.rfl
theorem b202_26 {d : Nat} {G : PG} {M T : PH} {K : PV → PS → Prop} {l0 l1 : Int} (h1 : pm_ob G l0 12) : pm_Run d 202 26 [.inr (.inr (.inl l0)), .inl l1] [] (G, M, T) K ↔ pm_Call d 187 [.inr (.inr (.inl l0))] (G, pm_sa M l0.toNat (pm_up (M l0.toNat) 49 ((M l0.toNat 49) + 1)), T) (fun r S1 => pm_Run d 202 40 [.inr (.inr (.inl l0)), .inl l1] (pm_push r []) S1 K) := by
  refine (px_go (by decide +kernel : pm_fe 202 26 = some (.aload_n 0, 1)) rfl).trans ?_
  refine (px_go (by decide +kernel : pm_fe 202 27 = some (.dup, 1)) rfl).trans ?_
  refine (px_get0 (idx := 161) (ci := 12) (k := 49) (by decide +kernel)).trans ((and_iff_right h1).trans ?_)
  refine (px_go (by decide +kernel : pm_fe 202 31 = some (.iconst 1, 1)) rfl).trans ?_
  refine (px_go (by decide +kernel : pm_fe 202 32 = some (.iadd, 1)) rfl).trans ?_
  refine (px_put0 (idx := 161) (ci := 12) (k := 49) (by decide +kernel)).trans ((and_iff_right h1).trans ?_)
  refine (px_go (by decide +kernel : pm_fe 202 36 = some (.aload_n 0, 1)) rfl).trans ?_
  refine (px_v0 (idx := 268) (m' := 187) (ci := 12) (by decide +kernel)).trans ((and_iff_right ⟨h1, (by simp [pm_wl_n, pm_wl_c, pm_w] : pm_wl [] ≤ 8)⟩).trans ?_)
  exact Iff.rfl
theorem b202_40 {d : Nat} {G : PG} {M T : PH} {K : PV → PS → Prop} {l0 l1 : Int} (h1 : pm_ob G l0 12) : pm_Run d 202 40 [.inr (.inr (.inl l0)), .inl l1] [] (G, M, T) K ↔ pm_Call d 201 [.inr (.inr (.inl l0)), .inl l1] (G, M, T) (fun r S1 => pm_Run d 202 45 [.inr (.inr (.inl l0)), .inl l1] (pm_push r []) S1 K) := by
  refine (px_go (by decide +kernel : pm_fe 202 40 = some (.aload_n 0, 1)) rfl).trans ?_
  refine (px_go (by decide +kernel : pm_fe 202 41 = some (.iload_n 1, 1)) rfl).trans ?_
  refine (px_v1 (idx := 350) (m' := 201) (ci := 12) (by decide +kernel)).trans ((and_iff_right ⟨h1, (by simp [pm_wl_n, pm_wl_c, pm_w] : pm_wl [] ≤ 8)⟩).trans ?_)
  exact Iff.rfl
theorem b202_45 {d : Nat} {G : PG} {M T : PH} {K : PV → PS → Prop} {l0 l1 : Int} : pm_Run d 202 45 [.inr (.inr (.inl l0)), .inl l1] [] (G, M, T) K ↔ K PU (G, M, T) := by
  refine (px_rv (by decide +kernel)).trans ?_
  exact Iff.rfl
-- X12_isTest isTest(I)Z
theorem en203 {d : Nat} {p0 : Int} {S : PS} {K : PV → PS → Prop} : pm_Call (d + 1) 203 [.inl p0] S K ↔ pm_Run d 203 0 [.inl p0] [] S K := pm_Call_s.trans (and_iff_right (show 1 ≤ pm_ml 203 from by decide +kernel))
theorem b203_0 {d : Nat} {G : PG} {M T : PH} {K : PV → PS → Prop} {l0 : Int} : pm_Run d 203 0 [.inl l0] [] (G, M, T) K ↔ if pm_sg l0 = pm_sg 1 then pm_Run d 203 10 [.inl l0] [] (G, M, T) K else pm_Run d 203 5 [.inl l0] [] (G, M, T) K := by
  refine (px_go (by decide +kernel : pm_fe 203 0 = some (.iload_n 0, 1)) rfl).trans ?_
  refine (px_go (by decide +kernel : pm_fe 203 1 = some (.iconst 1, 1)) rfl).trans ?_
  refine (px_ic_eq (off := 8) (tgt := 10) (by decide +kernel)).trans ?_
  exact Iff.rfl
theorem b203_5 {d : Nat} {G : PG} {M T : PH} {K : PV → PS → Prop} {l0 : Int} : pm_Run d 203 5 [.inl l0] [] (G, M, T) K ↔ if pm_sg l0 ≠ pm_sg 5 then pm_Run d 203 14 [.inl l0] [] (G, M, T) K else pm_Run d 203 10 [.inl l0] [] (G, M, T) K := by
  refine (px_go (by decide +kernel : pm_fe 203 5 = some (.iload_n 0, 1)) rfl).trans ?_
  refine (px_go (by decide +kernel : pm_fe 203 6 = some (.iconst 5, 1)) rfl).trans ?_
  refine (px_ic_ne (off := 7) (tgt := 14) (by decide +kernel)).trans ?_
  exact Iff.rfl
theorem b203_10 {d : Nat} {G : PG} {M T : PH} {K : PV → PS → Prop} {l0 : Int} : pm_Run d 203 10 [.inl l0] [] (G, M, T) K ↔ pm_Run d 203 15 [.inl l0] [.inl 1] (G, M, T) K := by
  refine (px_go (by decide +kernel : pm_fe 203 10 = some (.iconst 1, 1)) rfl).trans ?_
  refine (px_goto (off := 4) (tgt := 15) (by decide +kernel)).trans ?_
  exact Iff.rfl
theorem b203_14 {d : Nat} {G : PG} {M T : PH} {K : PV → PS → Prop} {l0 : Int} : pm_Run d 203 14 [.inl l0] [] (G, M, T) K ↔ pm_Run d 203 15 [.inl l0] [.inl 0] (G, M, T) K := by
  refine (px_go (by decide +kernel : pm_fe 203 14 = some (.iconst 0, 1)) rfl).trans ?_
  exact Iff.rfl
theorem b203_15 {d : Nat} {G : PG} {M T : PH} {K : PV → PS → Prop} {l0 s0 : Int} (h1 : s0 = 0 ∨ s0 = 1) : pm_Run d 203 15 [.inl l0] [.inl s0] (G, M, T) K ↔ K (.inl s0) (G, M, T) := by
  refine (px_rz (by decide +kernel)).trans ((and_iff_right h1).trans ?_)
  exact Iff.rfl
-- X12_operand operand()Z
theorem en204 {d : Nat} {a : Int} {S : PS} {K : PV → PS → Prop} : pm_Call (d + 1) 204 [.inr (.inr (.inl a))] S K ↔ pm_Run d 204 0 [.inr (.inr (.inl a)), PU, PU, PU] [] S K := pm_Call_s.trans (and_iff_right (show 1 ≤ pm_ml 204 from by decide +kernel))
theorem b204_0 {d : Nat} {G : PG} {M T : PH} {K : PV → PS → Prop} {l0 : Int} (h1 : pm_ob G l0 12) : pm_Run d 204 0 [.inr (.inr (.inl l0)), PU, PU, PU] [] (G, M, T) K ↔ pm_Call d 186 [.inr (.inr (.inl l0))] (G, M, T) (fun r S1 => pm_Run d 204 4 [.inr (.inr (.inl l0)), PU, PU, PU] (pm_push r []) S1 K) := by
  refine (px_go (by decide +kernel : pm_fe 204 0 = some (.aload_n 0, 1)) rfl).trans ?_
  refine (px_v0 (idx := 262) (m' := 186) (ci := 12) (by decide +kernel)).trans ((and_iff_right ⟨h1, (by simp [pm_wl_n, pm_wl_c, pm_w] : pm_wl [] ≤ 8)⟩).trans ?_)
  exact Iff.rfl
theorem b204_4 {d : Nat} {G : PG} {M T : PH} {K : PV → PS → Prop} {l0 : Int} (h1 : pm_ob G l0 12) : pm_Run d 204 4 [.inr (.inr (.inl l0)), PU, PU, PU] [] (G, M, T) K ↔ if pm_sg (M l0.toNat 8) ≤ 0 then pm_Run d 204 13 [.inr (.inr (.inl l0)), PU, PU, PU] [] (G, M, T) K else pm_Run d 204 11 [.inr (.inr (.inl l0)), PU, PU, PU] [] (G, M, T) K := by
  refine (px_go (by decide +kernel : pm_fe 204 4 = some (.aload_n 0, 1)) rfl).trans ?_
  refine (px_get0 (idx := 36) (ci := 12) (k := 8) (by decide +kernel)).trans ((and_iff_right h1).trans ?_)
  refine (px_if_le (off := 5) (tgt := 13) (by decide +kernel)).trans ?_
  exact Iff.rfl
theorem b204_11 {d : Nat} {G : PG} {M T : PH} {K : PV → PS → Prop} {l0 : Int} : pm_Run d 204 11 [.inr (.inr (.inl l0)), PU, PU, PU] [] (G, M, T) K ↔ K (.inl 1) (G, M, T) := by
  refine (px_go (by decide +kernel : pm_fe 204 11 = some (.iconst 1, 1)) rfl).trans ?_
  refine (px_rz (by decide +kernel)).trans ((and_iff_right (by decide : (1 : Int) = (0 : Int) ∨ (1 : Int) = (1 : Int))).trans ?_)
  exact Iff.rfl
theorem b204_13 {d : Nat} {G : PG} {M T : PH} {K : PV → PS → Prop} {l0 : Int} (h1 : pm_ob G l0 12) (h2 : pm_ar G (T l0.toNat 43) 100 ((M l0.toNat 48) - 1)) : pm_Run d 204 13 [.inr (.inr (.inl l0)), PU, PU, PU] [] (G, M, T) K ↔ pm_Call d 203 [.inl (M (T l0.toNat 43).toNat (pm_sg ((M l0.toNat 48) - 1)).toNat)] (G, M, T) (fun r S1 => pm_Run d 204 29 [.inr (.inr (.inl l0)), .inl ((M l0.toNat 48) - 1), PU, PU] (pm_push r []) S1 K) := by
  refine (px_go (by decide +kernel : pm_fe 204 13 = some (.aload_n 0, 1)) rfl).trans ?_
  refine (px_get0 (idx := 158) (ci := 12) (k := 48) (by decide +kernel)).trans ((and_iff_right h1).trans ?_)
  refine (px_go (by decide +kernel : pm_fe 204 17 = some (.iconst 1, 1)) rfl).trans ?_
  refine (px_go (by decide +kernel : pm_fe 204 18 = some (.isub, 1)) rfl).trans ?_
  refine (px_go (by decide +kernel : pm_fe 204 19 = some (.istore_n 1, 1)) rfl).trans ?_
  refine (px_go (by decide +kernel : pm_fe 204 20 = some (.aload_n 0, 1)) rfl).trans ?_
  refine (px_get2 (idx := 142) (ci := 12) (k := 43) (by decide +kernel)).trans ((and_iff_right h1).trans ?_)
  refine (px_go (by decide +kernel : pm_fe 204 24 = some (.iload_n 1, 1)) rfl).trans ?_
  refine (px_iaload (by decide +kernel) h2).trans ?_
  refine (px_s1 (idx := 353) (m' := 203) (nest := 0) (by decide +kernel)).trans ((and_iff_right (by simp [pm_wl_n, pm_wl_c, pm_w] : pm_wl [] ≤ 8)).trans ?_)
  exact Iff.rfl
theorem b204_29 {d : Nat} {G : PG} {M T : PH} {K : PV → PS → Prop} {l0 l1 s0 : Int} : pm_Run d 204 29 [.inr (.inr (.inl l0)), .inl l1, PU, PU] [.inl s0] (G, M, T) K ↔ if pm_sg s0 = 0 then pm_Run d 204 45 [.inr (.inr (.inl l0)), .inl l1, PU, PU] [] (G, M, T) K else pm_Run d 204 32 [.inr (.inr (.inl l0)), .inl l1, PU, PU] [] (G, M, T) K := by
  refine (px_if_eq (off := 16) (tgt := 45) (by decide +kernel)).trans ?_
  exact Iff.rfl
theorem b204_32 {d : Nat} {G : PG} {M T : PH} {K : PV → PS → Prop} {l0 l1 : Int} (h1 : pm_ob G l0 12) (h2 : pm_ar G (T l0.toNat 45) 101 l1 ∨ pm_ar G (T l0.toNat 45) 102 l1) : pm_Run d 204 32 [.inr (.inr (.inl l0)), .inl l1, PU, PU] [] (G, M, T) K ↔ if pm_sg (M (T l0.toNat 45).toNat (pm_sg l1).toNat) = 0 then pm_Run d 204 45 [.inr (.inr (.inl l0)), .inl l1, PU, PU] [] (G, M, T) K else pm_Run d 204 41 [.inr (.inr (.inl l0)), .inl l1, PU, PU] [] (G, M, T) K := by
  refine (px_go (by decide +kernel : pm_fe 204 32 = some (.aload_n 0, 1)) rfl).trans ?_
  refine (px_get2 (idx := 148) (ci := 12) (k := 45) (by decide +kernel)).trans ((and_iff_right h1).trans ?_)
  refine (px_go (by decide +kernel : pm_fe 204 36 = some (.iload_n 1, 1)) rfl).trans ?_
  refine (px_baload (by decide +kernel)).trans ((and_iff_right h2).trans ?_)
  refine (px_if_eq (off := 7) (tgt := 45) (by decide +kernel)).trans ?_
  exact Iff.rfl
theorem b204_41 {d : Nat} {G : PG} {M T : PH} {K : PV → PS → Prop} {l0 l1 : Int} : pm_Run d 204 41 [.inr (.inr (.inl l0)), .inl l1, PU, PU] [] (G, M, T) K ↔ pm_Run d 204 46 [.inr (.inr (.inl l0)), .inl l1, PU, PU] [.inl 1] (G, M, T) K := by
  refine (px_go (by decide +kernel : pm_fe 204 41 = some (.iconst 1, 1)) rfl).trans ?_
  refine (px_goto (off := 4) (tgt := 46) (by decide +kernel)).trans ?_
  exact Iff.rfl
theorem b204_45 {d : Nat} {G : PG} {M T : PH} {K : PV → PS → Prop} {l0 l1 : Int} : pm_Run d 204 45 [.inr (.inr (.inl l0)), .inl l1, PU, PU] [] (G, M, T) K ↔ pm_Run d 204 46 [.inr (.inr (.inl l0)), .inl l1, PU, PU] [.inl 0] (G, M, T) K := by
  refine (px_go (by decide +kernel : pm_fe 204 45 = some (.iconst 0, 1)) rfl).trans ?_
  exact Iff.rfl
theorem b204_46 {d : Nat} {G : PG} {M T : PH} {K : PV → PS → Prop} {l0 l1 s0 : Int} : pm_Run d 204 46 [.inr (.inr (.inl l0)), .inl l1, PU, PU] [.inl s0] (G, M, T) K ↔ if pm_sg s0 = 0 then pm_Run d 204 110 [.inr (.inr (.inl l0)), .inl l1, .inl s0, PU] [] (G, M, T) K else pm_Run d 204 51 [.inr (.inr (.inl l0)), .inl l1, .inl s0, PU] [] (G, M, T) K := by
  refine (px_go (by decide +kernel : pm_fe 204 46 = some (.istore_n 2, 1)) rfl).trans ?_
  refine (px_go (by decide +kernel : pm_fe 204 47 = some (.iload_n 2, 1)) rfl).trans ?_
  refine (px_if_eq (off := 62) (tgt := 110) (by decide +kernel)).trans ?_
  exact Iff.rfl
theorem b204_51 {d : Nat} {G : PG} {M T : PH} {K : PV → PS → Prop} {l0 l1 l2 : Int} (h1 : pm_ob G l0 12) : pm_Run d 204 51 [.inr (.inr (.inl l0)), .inl l1, .inl l2, PU] [] (G, M, T) K ↔ pm_Call d 189 [.inr (.inr (.inl l0)), .inr (.inl 7237492)] (G, M, T) (fun r S1 => pm_Run d 204 58 [.inr (.inr (.inl l0)), .inl l1, .inl l2, PU] (pm_push r []) S1 K) := by
  refine (px_go (by decide +kernel : pm_fe 204 51 = some (.aload_n 0, 1)) rfl).trans ?_
  refine (px_ldcL (idx := 321) (x := 7237492) (by decide +kernel)).trans ?_
  refine (px_v1 (idx := 356) (m' := 189) (ci := 12) (by decide +kernel)).trans ((and_iff_right ⟨h1, (by simp [pm_wl_n, pm_wl_c, pm_w] : pm_wl [] ≤ 8)⟩).trans ?_)
  exact Iff.rfl
theorem b204_58 {d : Nat} {G : PG} {M T : PH} {K : PV → PS → Prop} {l0 l1 l2 s0 : Int} : pm_Run d 204 58 [.inr (.inr (.inl l0)), .inl l1, .inl l2, PU] [.inl s0] (G, M, T) K ↔ if pm_sg s0 = 0 then pm_Run d 204 110 [.inr (.inr (.inl l0)), .inl l1, .inl l2, PU] [] (G, M, T) K else pm_Run d 204 61 [.inr (.inr (.inl l0)), .inl l1, .inl l2, PU] [] (G, M, T) K := by
  refine (px_if_eq (off := 52) (tgt := 110) (by decide +kernel)).trans ?_
  exact Iff.rfl
theorem b204_61 {d : Nat} {G : PG} {M T : PH} {K : PV → PS → Prop} {l0 l1 l2 : Int} (h1 : pm_ob G l0 12) : pm_Run d 204 61 [.inr (.inr (.inl l0)), .inl l1, .inl l2, PU] [] (G, M, T) K ↔ if pm_sg (M l0.toNat 49) ≠ pm_sg 7 then pm_Run d 204 79 [.inr (.inr (.inl l0)), .inl l1, .inl l2, PU] [] (G, M, T) K else pm_Run d 204 70 [.inr (.inr (.inl l0)), .inl l1, .inl l2, PU] [] (G, M, T) K := by
  refine (px_go (by decide +kernel : pm_fe 204 61 = some (.aload_n 0, 1)) rfl).trans ?_
  refine (px_get0 (idx := 161) (ci := 12) (k := 49) (by decide +kernel)).trans ((and_iff_right h1).trans ?_)
  refine (px_go (by decide +kernel : pm_fe 204 65 = some (.bipush 7, 2)) rfl).trans ?_
  refine (px_ic_ne (off := 12) (tgt := 79) (by decide +kernel)).trans ?_
  exact Iff.rfl
theorem b204_70 {d : Nat} {G : PG} {M T : PH} {K : PV → PS → Prop} {l0 l1 l2 : Int} (h1 : pm_ob G l0 12) : pm_Run d 204 70 [.inr (.inr (.inl l0)), .inl l1, .inl l2, PU] [] (G, M, T) K ↔ pm_Call d 183 [.inr (.inr (.inl l0)), .inl 5, .inl (M l0.toNat 4)] (G, M, T) (fun r S1 => pm_Run d 204 79 [.inr (.inr (.inl l0)), .inl l1, .inl l2, PU] (pm_push r []) S1 K) := by
  refine (px_go (by decide +kernel : pm_fe 204 70 = some (.aload_n 0, 1)) rfl).trans ?_
  refine (px_go (by decide +kernel : pm_fe 204 71 = some (.iconst 5, 1)) rfl).trans ?_
  refine (px_go (by decide +kernel : pm_fe 204 72 = some (.aload_n 0, 1)) rfl).trans ?_
  refine (px_get0 (idx := 23) (ci := 12) (k := 4) (by decide +kernel)).trans ((and_iff_right h1).trans ?_)
  refine (px_v2 (idx := 251) (m' := 183) (ci := 12) (by decide +kernel)).trans ((and_iff_right ⟨h1, (by simp [pm_wl_n, pm_wl_c, pm_w] : pm_wl [] ≤ 8)⟩).trans ?_)
  exact Iff.rfl
theorem b204_79 {d : Nat} {G : PG} {M T : PH} {K : PV → PS → Prop} {l0 l1 l2 : Int} (h1 : pm_ob G l0 12) : pm_Run d 204 79 [.inr (.inr (.inl l0)), .inl l1, .inl l2, PU] [] (G, M, T) K ↔ if pm_sg (M l0.toNat 8) ≤ 0 then pm_Run d 204 88 [.inr (.inr (.inl l0)), .inl l1, .inl l2, PU] [] (G, M, T) K else pm_Run d 204 86 [.inr (.inr (.inl l0)), .inl l1, .inl l2, PU] [] (G, M, T) K := by
  refine (px_go (by decide +kernel : pm_fe 204 79 = some (.aload_n 0, 1)) rfl).trans ?_
  refine (px_get0 (idx := 36) (ci := 12) (k := 8) (by decide +kernel)).trans ((and_iff_right h1).trans ?_)
  refine (px_if_le (off := 5) (tgt := 88) (by decide +kernel)).trans ?_
  exact Iff.rfl
theorem b204_86 {d : Nat} {G : PG} {M T : PH} {K : PV → PS → Prop} {l0 l1 l2 : Int} : pm_Run d 204 86 [.inr (.inr (.inl l0)), .inl l1, .inl l2, PU] [] (G, M, T) K ↔ K (.inl 1) (G, M, T) := by
  refine (px_go (by decide +kernel : pm_fe 204 86 = some (.iconst 1, 1)) rfl).trans ?_
  refine (px_rz (by decide +kernel)).trans ((and_iff_right (by decide : (1 : Int) = (0 : Int) ∨ (1 : Int) = (1 : Int))).trans ?_)
  exact Iff.rfl
theorem b204_88 {d : Nat} {G : PG} {M T : PH} {K : PV → PS → Prop} {l0 l1 l2 : Int} (h1 : pm_ob G l0 12) : pm_Run d 204 88 [.inr (.inr (.inl l0)), .inl l1, .inl l2, PU] [] (G, M, T) K ↔ pm_Call d 200 [.inr (.inr (.inl l0)), .inl 22] (G, pm_sa M l0.toNat (pm_up (M l0.toNat) 49 ((M l0.toNat 49) + 1)), T) (fun r S1 => pm_Run d 204 104 [.inr (.inr (.inl l0)), .inl l1, .inl l2, PU] (pm_push r []) S1 K) := by
  refine (px_go (by decide +kernel : pm_fe 204 88 = some (.aload_n 0, 1)) rfl).trans ?_
  refine (px_go (by decide +kernel : pm_fe 204 89 = some (.dup, 1)) rfl).trans ?_
  refine (px_get0 (idx := 161) (ci := 12) (k := 49) (by decide +kernel)).trans ((and_iff_right h1).trans ?_)
  refine (px_go (by decide +kernel : pm_fe 204 93 = some (.iconst 1, 1)) rfl).trans ?_
  refine (px_go (by decide +kernel : pm_fe 204 94 = some (.iadd, 1)) rfl).trans ?_
  refine (px_put0 (idx := 161) (ci := 12) (k := 49) (by decide +kernel)).trans ((and_iff_right h1).trans ?_)
  refine (px_go (by decide +kernel : pm_fe 204 98 = some (.aload_n 0, 1)) rfl).trans ?_
  refine (px_go (by decide +kernel : pm_fe 204 99 = some (.bipush 22, 2)) rfl).trans ?_
  refine (px_v1 (idx := 360) (m' := 200) (ci := 12) (by decide +kernel)).trans ((and_iff_right ⟨h1, (by simp [pm_wl_n, pm_wl_c, pm_w] : pm_wl [] ≤ 8)⟩).trans ?_)
  exact Iff.rfl
theorem b204_104 {d : Nat} {G : PG} {M T : PH} {K : PV → PS → Prop} {l0 l1 l2 : Int} (h1 : pm_ob G l0 12) : pm_Run d 204 104 [.inr (.inr (.inl l0)), .inl l1, .inl l2, PU] [] (G, M, T) K ↔ pm_Call d 187 [.inr (.inr (.inl l0))] (G, M, T) (fun r S1 => pm_Run d 204 108 [.inr (.inr (.inl l0)), .inl l1, .inl l2, PU] (pm_push r []) S1 K) := by
  refine (px_go (by decide +kernel : pm_fe 204 104 = some (.aload_n 0, 1)) rfl).trans ?_
  refine (px_v0 (idx := 268) (m' := 187) (ci := 12) (by decide +kernel)).trans ((and_iff_right ⟨h1, (by simp [pm_wl_n, pm_wl_c, pm_w] : pm_wl [] ≤ 8)⟩).trans ?_)
  exact Iff.rfl
theorem b204_108 {d : Nat} {G : PG} {M T : PH} {K : PV → PS → Prop} {l0 l1 l2 : Int} : pm_Run d 204 108 [.inr (.inr (.inl l0)), .inl l1, .inl l2, PU] [] (G, M, T) K ↔ K (.inl 0) (G, M, T) := by
  refine (px_go (by decide +kernel : pm_fe 204 108 = some (.iconst 0, 1)) rfl).trans ?_
  refine (px_rz (by decide +kernel)).trans ((and_iff_right (by decide : (0 : Int) = (0 : Int) ∨ (0 : Int) = (1 : Int))).trans ?_)
  exact Iff.rfl
theorem b204_110 {d : Nat} {G : PG} {M T : PH} {K : PV → PS → Prop} {l0 l1 l2 : Int} (h1 : pm_ob G l0 12) (h2 : pm_ar G (T l0.toNat 45) 102 l1) : pm_Run d 204 110 [.inr (.inr (.inl l0)), .inl l1, .inl l2, PU] [] (G, M, T) K ↔ if pm_sg l2 = 0 then pm_Run d 204 137 [.inr (.inr (.inl l0)), .inl l1, .inl l2, PU] [] (G, pm_sa M (T l0.toNat 45).toNat (pm_up (M (T l0.toNat 45).toNat) (pm_sg l1).toNat 0), T) K else pm_Run d 204 121 [.inr (.inr (.inl l0)), .inl l1, .inl l2, PU] [] (G, pm_sa M (T l0.toNat 45).toNat (pm_up (M (T l0.toNat 45).toNat) (pm_sg l1).toNat 0), T) K := by
  refine (px_go (by decide +kernel : pm_fe 204 110 = some (.aload_n 0, 1)) rfl).trans ?_
  refine (px_get2 (idx := 148) (ci := 12) (k := 45) (by decide +kernel)).trans ((and_iff_right h1).trans ?_)
  refine (px_go (by decide +kernel : pm_fe 204 114 = some (.iload_n 1, 1)) rfl).trans ?_
  refine (px_go (by decide +kernel : pm_fe 204 115 = some (.iconst 0, 1)) rfl).trans ?_
  refine (px_zastore (by decide +kernel) h2 (by decide : (0 : Int) = (0 : Int) ∨ (0 : Int) = (1 : Int))).trans ?_
  refine (px_go (by decide +kernel : pm_fe 204 117 = some (.iload_n 2, 1)) rfl).trans ?_
  refine (px_if_eq (off := 19) (tgt := 137) (by decide +kernel)).trans ?_
  exact Iff.rfl
theorem b204_121 {d : Nat} {G : PG} {M T : PH} {K : PV → PS → Prop} {l0 l1 l2 : Int} (h1 : pm_ob G l0 12) : pm_Run d 204 121 [.inr (.inr (.inl l0)), .inl l1, .inl l2, PU] [] (G, M, T) K ↔ pm_Call d 188 [.inr (.inr (.inl l0)), .inl 91] (G, M, T) (fun r S1 => pm_Run d 204 127 [.inr (.inr (.inl l0)), .inl l1, .inl l2, PU] (pm_push r []) S1 K) := by
  refine (px_go (by decide +kernel : pm_fe 204 121 = some (.aload_n 0, 1)) rfl).trans ?_
  refine (px_go (by decide +kernel : pm_fe 204 122 = some (.bipush 91, 2)) rfl).trans ?_
  refine (px_v1 (idx := 265) (m' := 188) (ci := 12) (by decide +kernel)).trans ((and_iff_right ⟨h1, (by simp [pm_wl_n, pm_wl_c, pm_w] : pm_wl [] ≤ 8)⟩).trans ?_)
  exact Iff.rfl
theorem b204_127 {d : Nat} {G : PG} {M T : PH} {K : PV → PS → Prop} {l0 l1 l2 s0 : Int} : pm_Run d 204 127 [.inr (.inr (.inl l0)), .inl l1, .inl l2, PU] [.inl s0] (G, M, T) K ↔ if pm_sg s0 = 0 then pm_Run d 204 137 [.inr (.inr (.inl l0)), .inl l1, .inl l2, PU] [] (G, M, T) K else pm_Run d 204 130 [.inr (.inr (.inl l0)), .inl l1, .inl l2, PU] [] (G, M, T) K := by
  refine (px_if_eq (off := 10) (tgt := 137) (by decide +kernel)).trans ?_
  exact Iff.rfl
theorem b204_130 {d : Nat} {G : PG} {M T : PH} {K : PV → PS → Prop} {l0 l1 l2 : Int} (h1 : pm_ob G l0 12) : pm_Run d 204 130 [.inr (.inr (.inl l0)), .inl l1, .inl l2, PU] [] (G, M, T) K ↔ pm_Call d 202 [.inr (.inr (.inl l0)), .inl 5] (G, M, T) (fun r S1 => pm_Run d 204 135 [.inr (.inr (.inl l0)), .inl l1, .inl l2, PU] (pm_push r []) S1 K) := by
  refine (px_go (by decide +kernel : pm_fe 204 130 = some (.aload_n 0, 1)) rfl).trans ?_
  refine (px_go (by decide +kernel : pm_fe 204 131 = some (.iconst 5, 1)) rfl).trans ?_
  refine (px_v1 (idx := 363) (m' := 202) (ci := 12) (by decide +kernel)).trans ((and_iff_right ⟨h1, (by simp [pm_wl_n, pm_wl_c, pm_w] : pm_wl [] ≤ 8)⟩).trans ?_)
  exact Iff.rfl
theorem b204_135 {d : Nat} {G : PG} {M T : PH} {K : PV → PS → Prop} {l0 l1 l2 : Int} : pm_Run d 204 135 [.inr (.inr (.inl l0)), .inl l1, .inl l2, PU] [] (G, M, T) K ↔ K (.inl 0) (G, M, T) := by
  refine (px_go (by decide +kernel : pm_fe 204 135 = some (.iconst 0, 1)) rfl).trans ?_
  refine (px_rz (by decide +kernel)).trans ((and_iff_right (by decide : (0 : Int) = (0 : Int) ∨ (0 : Int) = (1 : Int))).trans ?_)
  exact Iff.rfl
theorem b204_137 {d : Nat} {G : PG} {M T : PH} {K : PV → PS → Prop} {l0 l1 l2 : Int} : pm_Run d 204 137 [.inr (.inr (.inl l0)), .inl l1, .inl l2, PU] [] (G, M, T) K ↔ if pm_sg l2 = 0 then pm_Run d 204 171 [.inr (.inr (.inl l0)), .inl l1, .inl l2, PU] [] (G, M, T) K else pm_Run d 204 141 [.inr (.inr (.inl l0)), .inl l1, .inl l2, PU] [] (G, M, T) K := by
  refine (px_go (by decide +kernel : pm_fe 204 137 = some (.iload_n 2, 1)) rfl).trans ?_
  refine (px_if_eq (off := 33) (tgt := 171) (by decide +kernel)).trans ?_
  exact Iff.rfl
theorem b204_141 {d : Nat} {G : PG} {M T : PH} {K : PV → PS → Prop} {l0 l1 l2 : Int} (h1 : pm_ob G l0 12) : pm_Run d 204 141 [.inr (.inr (.inl l0)), .inl l1, .inl l2, PU] [] (G, M, T) K ↔ pm_Call d 189 [.inr (.inr (.inl l0)), .inr (.inl 6384748)] (G, M, T) (fun r S1 => pm_Run d 204 148 [.inr (.inr (.inl l0)), .inl l1, .inl l2, PU] (pm_push r []) S1 K) := by
  refine (px_go (by decide +kernel : pm_fe 204 141 = some (.aload_n 0, 1)) rfl).trans ?_
  refine (px_ldcL (idx := 323) (x := 6384748) (by decide +kernel)).trans ?_
  refine (px_v1 (idx := 356) (m' := 189) (ci := 12) (by decide +kernel)).trans ((and_iff_right ⟨h1, (by simp [pm_wl_n, pm_wl_c, pm_w] : pm_wl [] ≤ 8)⟩).trans ?_)
  exact Iff.rfl
theorem b204_148 {d : Nat} {G : PG} {M T : PH} {K : PV → PS → Prop} {l0 l1 l2 s0 : Int} : pm_Run d 204 148 [.inr (.inr (.inl l0)), .inl l1, .inl l2, PU] [.inl s0] (G, M, T) K ↔ if pm_sg s0 = 0 then pm_Run d 204 171 [.inr (.inr (.inl l0)), .inl l1, .inl l2, PU] [] (G, M, T) K else pm_Run d 204 151 [.inr (.inr (.inl l0)), .inl l1, .inl l2, PU] [] (G, M, T) K := by
  refine (px_if_eq (off := 23) (tgt := 171) (by decide +kernel)).trans ?_
  exact Iff.rfl
theorem b204_151 {d : Nat} {G : PG} {M T : PH} {K : PV → PS → Prop} {l0 l1 l2 : Int} (h1 : pm_ob G l0 12) : pm_Run d 204 151 [.inr (.inr (.inl l0)), .inl l1, .inl l2, PU] [] (G, M, T) K ↔ pm_Call d 197 [.inr (.inr (.inl l0)), .inl 30, .inl 0] (G, M, T) (fun r S1 => pm_Run d 204 158 [.inr (.inr (.inl l0)), .inl l1, .inl l2, PU] (pm_push r []) S1 K) := by
  refine (px_go (by decide +kernel : pm_fe 204 151 = some (.aload_n 0, 1)) rfl).trans ?_
  refine (px_go (by decide +kernel : pm_fe 204 152 = some (.bipush 30, 2)) rfl).trans ?_
  refine (px_go (by decide +kernel : pm_fe 204 154 = some (.iconst 0, 1)) rfl).trans ?_
  refine (px_v2 (idx := 347) (m' := 197) (ci := 12) (by decide +kernel)).trans ((and_iff_right ⟨h1, (by simp [pm_wl_n, pm_wl_c, pm_w] : pm_wl [] ≤ 8)⟩).trans ?_)
  exact Iff.rfl
theorem b204_158 {d : Nat} {G : PG} {M T : PH} {K : PV → PS → Prop} {l0 l1 l2 : Int} (h1 : pm_ob G l0 12) (h2 : pm_ar G (T l0.toNat 44) 100 l1) : pm_Run d 204 158 [.inr (.inr (.inl l0)), .inl l1, .inl l2, PU] [] (G, M, T) K ↔ pm_Call d 187 [.inr (.inr (.inl l0))] (G, pm_sa M (T l0.toNat 44).toNat (pm_up (M (T l0.toNat 44).toNat) (pm_sg l1).toNat 2), T) (fun r S1 => pm_Run d 204 169 [.inr (.inr (.inl l0)), .inl l1, .inl l2, PU] (pm_push r []) S1 K) := by
  refine (px_go (by decide +kernel : pm_fe 204 158 = some (.aload_n 0, 1)) rfl).trans ?_
  refine (px_get2 (idx := 145) (ci := 12) (k := 44) (by decide +kernel)).trans ((and_iff_right h1).trans ?_)
  refine (px_go (by decide +kernel : pm_fe 204 162 = some (.iload_n 1, 1)) rfl).trans ?_
  refine (px_go (by decide +kernel : pm_fe 204 163 = some (.iconst 2, 1)) rfl).trans ?_
  refine (px_iastore (by decide +kernel)).trans ((and_iff_right h2).trans ?_)
  refine (px_go (by decide +kernel : pm_fe 204 165 = some (.aload_n 0, 1)) rfl).trans ?_
  refine (px_v0 (idx := 268) (m' := 187) (ci := 12) (by decide +kernel)).trans ((and_iff_right ⟨h1, (by simp [pm_wl_n, pm_wl_c, pm_w] : pm_wl [] ≤ 8)⟩).trans ?_)
  exact Iff.rfl
theorem b204_169 {d : Nat} {G : PG} {M T : PH} {K : PV → PS → Prop} {l0 l1 l2 : Int} : pm_Run d 204 169 [.inr (.inr (.inl l0)), .inl l1, .inl l2, PU] [] (G, M, T) K ↔ K (.inl 1) (G, M, T) := by
  refine (px_go (by decide +kernel : pm_fe 204 169 = some (.iconst 1, 1)) rfl).trans ?_
  refine (px_rz (by decide +kernel)).trans ((and_iff_right (by decide : (1 : Int) = (0 : Int) ∨ (1 : Int) = (1 : Int))).trans ?_)
  exact Iff.rfl
theorem b204_171 {d : Nat} {G : PG} {M T : PH} {K : PV → PS → Prop} {l0 l1 l2 : Int} (h1 : pm_ob G l0 12) : pm_Run d 204 171 [.inr (.inr (.inl l0)), .inl l1, .inl l2, PU] [] (G, M, T) K ↔ pm_Call d 188 [.inr (.inr (.inl l0)), .inl 40] (G, M, T) (fun r S1 => pm_Run d 204 177 [.inr (.inr (.inl l0)), .inl l1, .inl l2, PU] (pm_push r []) S1 K) := by
  refine (px_go (by decide +kernel : pm_fe 204 171 = some (.aload_n 0, 1)) rfl).trans ?_
  refine (px_go (by decide +kernel : pm_fe 204 172 = some (.bipush 40, 2)) rfl).trans ?_
  refine (px_v1 (idx := 265) (m' := 188) (ci := 12) (by decide +kernel)).trans ((and_iff_right ⟨h1, (by simp [pm_wl_n, pm_wl_c, pm_w] : pm_wl [] ≤ 8)⟩).trans ?_)
  exact Iff.rfl
theorem b204_177 {d : Nat} {G : PG} {M T : PH} {K : PV → PS → Prop} {l0 l1 l2 s0 : Int} : pm_Run d 204 177 [.inr (.inr (.inl l0)), .inl l1, .inl l2, PU] [.inl s0] (G, M, T) K ↔ if pm_sg s0 = 0 then pm_Run d 204 187 [.inr (.inr (.inl l0)), .inl l1, .inl l2, PU] [] (G, M, T) K else pm_Run d 204 180 [.inr (.inr (.inl l0)), .inl l1, .inl l2, PU] [] (G, M, T) K := by
  refine (px_if_eq (off := 10) (tgt := 187) (by decide +kernel)).trans ?_
  exact Iff.rfl
theorem b204_180 {d : Nat} {G : PG} {M T : PH} {K : PV → PS → Prop} {l0 l1 l2 : Int} (h1 : pm_ob G l0 12) : pm_Run d 204 180 [.inr (.inr (.inl l0)), .inl l1, .inl l2, PU] [] (G, M, T) K ↔ pm_Call d 202 [.inr (.inr (.inl l0)), .inl 2] (G, M, T) (fun r S1 => pm_Run d 204 185 [.inr (.inr (.inl l0)), .inl l1, .inl l2, PU] (pm_push r []) S1 K) := by
  refine (px_go (by decide +kernel : pm_fe 204 180 = some (.aload_n 0, 1)) rfl).trans ?_
  refine (px_go (by decide +kernel : pm_fe 204 181 = some (.iconst 2, 1)) rfl).trans ?_
  refine (px_v1 (idx := 363) (m' := 202) (ci := 12) (by decide +kernel)).trans ((and_iff_right ⟨h1, (by simp [pm_wl_n, pm_wl_c, pm_w] : pm_wl [] ≤ 8)⟩).trans ?_)
  exact Iff.rfl
theorem b204_185 {d : Nat} {G : PG} {M T : PH} {K : PV → PS → Prop} {l0 l1 l2 : Int} : pm_Run d 204 185 [.inr (.inr (.inl l0)), .inl l1, .inl l2, PU] [] (G, M, T) K ↔ K (.inl 0) (G, M, T) := by
  refine (px_go (by decide +kernel : pm_fe 204 185 = some (.iconst 0, 1)) rfl).trans ?_
  refine (px_rz (by decide +kernel)).trans ((and_iff_right (by decide : (0 : Int) = (0 : Int) ∨ (0 : Int) = (1 : Int))).trans ?_)
  exact Iff.rfl
theorem b204_187 {d : Nat} {G : PG} {M T : PH} {K : PV → PS → Prop} {l0 l1 l2 : Int} (h1 : pm_ob G l0 12) : pm_Run d 204 187 [.inr (.inr (.inl l0)), .inl l1, .inl l2, PU] [] (G, M, T) K ↔ pm_Call d 189 [.inr (.inr (.inl l0)), .inr (.inl 7170414)] (G, M, T) (fun r S1 => pm_Run d 204 194 [.inr (.inr (.inl l0)), .inl l1, .inl l2, PU] (pm_push r []) S1 K) := by
  refine (px_go (by decide +kernel : pm_fe 204 187 = some (.aload_n 0, 1)) rfl).trans ?_
  refine (px_ldcL (idx := 325) (x := 7170414) (by decide +kernel)).trans ?_
  refine (px_v1 (idx := 356) (m' := 189) (ci := 12) (by decide +kernel)).trans ((and_iff_right ⟨h1, (by simp [pm_wl_n, pm_wl_c, pm_w] : pm_wl [] ≤ 8)⟩).trans ?_)
  exact Iff.rfl
theorem b204_194 {d : Nat} {G : PG} {M T : PH} {K : PV → PS → Prop} {l0 l1 l2 s0 : Int} : pm_Run d 204 194 [.inr (.inr (.inl l0)), .inl l1, .inl l2, PU] [.inl s0] (G, M, T) K ↔ if pm_sg s0 ≠ 0 then pm_Run d 204 207 [.inr (.inr (.inl l0)), .inl l1, .inl l2, PU] [] (G, M, T) K else pm_Run d 204 197 [.inr (.inr (.inl l0)), .inl l1, .inl l2, PU] [] (G, M, T) K := by
  refine (px_if_ne (off := 13) (tgt := 207) (by decide +kernel)).trans ?_
  exact Iff.rfl
theorem b204_197 {d : Nat} {G : PG} {M T : PH} {K : PV → PS → Prop} {l0 l1 l2 : Int} (h1 : pm_ob G l0 12) : pm_Run d 204 197 [.inr (.inr (.inl l0)), .inl l1, .inl l2, PU] [] (G, M, T) K ↔ pm_Call d 189 [.inr (.inr (.inl l0)), .inr (.inl 7168376)] (G, M, T) (fun r S1 => pm_Run d 204 204 [.inr (.inr (.inl l0)), .inl l1, .inl l2, PU] (pm_push r []) S1 K) := by
  refine (px_go (by decide +kernel : pm_fe 204 197 = some (.aload_n 0, 1)) rfl).trans ?_
  refine (px_ldcL (idx := 327) (x := 7168376) (by decide +kernel)).trans ?_
  refine (px_v1 (idx := 356) (m' := 189) (ci := 12) (by decide +kernel)).trans ((and_iff_right ⟨h1, (by simp [pm_wl_n, pm_wl_c, pm_w] : pm_wl [] ≤ 8)⟩).trans ?_)
  exact Iff.rfl
theorem b204_204 {d : Nat} {G : PG} {M T : PH} {K : PV → PS → Prop} {l0 l1 l2 s0 : Int} : pm_Run d 204 204 [.inr (.inr (.inl l0)), .inl l1, .inl l2, PU] [.inl s0] (G, M, T) K ↔ if pm_sg s0 = 0 then pm_Run d 204 277 [.inr (.inr (.inl l0)), .inl l1, .inl l2, PU] [] (G, M, T) K else pm_Run d 204 207 [.inr (.inr (.inl l0)), .inl l1, .inl l2, PU] [] (G, M, T) K := by
  refine (px_if_eq (off := 73) (tgt := 277) (by decide +kernel)).trans ?_
  exact Iff.rfl
theorem b204_207 {d : Nat} {G : PG} {M T : PH} {K : PV → PS → Prop} {l0 l1 l2 : Int} (h1 : pm_ob G l0 12) : pm_Run d 204 207 [.inr (.inr (.inl l0)), .inl l1, .inl l2, PU] [] (G, M, T) K ↔ pm_Call d 189 [.inr (.inr (.inl l0)), .inr (.inl 7170414)] (G, M, T) (fun r S1 => pm_Run d 204 214 [.inr (.inr (.inl l0)), .inl l1, .inl l2, PU] (pm_push r []) S1 K) := by
  refine (px_go (by decide +kernel : pm_fe 204 207 = some (.aload_n 0, 1)) rfl).trans ?_
  refine (px_ldcL (idx := 325) (x := 7170414) (by decide +kernel)).trans ?_
  refine (px_v1 (idx := 356) (m' := 189) (ci := 12) (by decide +kernel)).trans ((and_iff_right ⟨h1, (by simp [pm_wl_n, pm_wl_c, pm_w] : pm_wl [] ≤ 8)⟩).trans ?_)
  exact Iff.rfl
theorem b204_214 {d : Nat} {G : PG} {M T : PH} {K : PV → PS → Prop} {l0 l1 l2 s0 : Int} : pm_Run d 204 214 [.inr (.inr (.inl l0)), .inl l1, .inl l2, PU] [.inl s0] (G, M, T) K ↔ if pm_sg s0 = 0 then pm_Run d 204 222 [.inr (.inr (.inl l0)), .inl l1, .inl l2, PU] [] (G, M, T) K else pm_Run d 204 217 [.inr (.inr (.inl l0)), .inl l1, .inl l2, PU] [] (G, M, T) K := by
  refine (px_if_eq (off := 8) (tgt := 222) (by decide +kernel)).trans ?_
  exact Iff.rfl
theorem b204_217 {d : Nat} {G : PG} {M T : PH} {K : PV → PS → Prop} {l0 l1 l2 : Int} : pm_Run d 204 217 [.inr (.inr (.inl l0)), .inl l1, .inl l2, PU] [] (G, M, T) K ↔ pm_Run d 204 224 [.inr (.inr (.inl l0)), .inl l1, .inl l2, PU] [.inl 15] (G, M, T) K := by
  refine (px_go (by decide +kernel : pm_fe 204 217 = some (.bipush 15, 2)) rfl).trans ?_
  refine (px_goto (off := 5) (tgt := 224) (by decide +kernel)).trans ?_
  exact Iff.rfl
theorem b204_222 {d : Nat} {G : PG} {M T : PH} {K : PV → PS → Prop} {l0 l1 l2 : Int} : pm_Run d 204 222 [.inr (.inr (.inl l0)), .inl l1, .inl l2, PU] [] (G, M, T) K ↔ pm_Run d 204 224 [.inr (.inr (.inl l0)), .inl l1, .inl l2, PU] [.inl 16] (G, M, T) K := by
  refine (px_go (by decide +kernel : pm_fe 204 222 = some (.bipush 16, 2)) rfl).trans ?_
  exact Iff.rfl
theorem b204_224 {d : Nat} {G : PG} {M T : PH} {K : PV → PS → Prop} {l0 l1 l2 s0 : Int} (h1 : pm_ob G l0 12) : pm_Run d 204 224 [.inr (.inr (.inl l0)), .inl l1, .inl l2, PU] [.inl s0] (G, M, T) K ↔ pm_Call d 187 [.inr (.inr (.inl l0))] (G, M, T) (fun r S1 => pm_Run d 204 229 [.inr (.inr (.inl l0)), .inl l1, .inl l2, .inl s0] (pm_push r []) S1 K) := by
  refine (px_go (by decide +kernel : pm_fe 204 224 = some (.istore_n 3, 1)) rfl).trans ?_
  refine (px_go (by decide +kernel : pm_fe 204 225 = some (.aload_n 0, 1)) rfl).trans ?_
  refine (px_v0 (idx := 268) (m' := 187) (ci := 12) (by decide +kernel)).trans ((and_iff_right ⟨h1, (by simp [pm_wl_n, pm_wl_c, pm_w] : pm_wl [] ≤ 8)⟩).trans ?_)
  exact Iff.rfl
theorem b204_229 {d : Nat} {G : PG} {M T : PH} {K : PV → PS → Prop} {l0 l1 l2 l3 : Int} (h1 : pm_ob G l0 12) : pm_Run d 204 229 [.inr (.inr (.inl l0)), .inl l1, .inl l2, .inl l3] [] (G, M, T) K ↔ pm_Call d 186 [.inr (.inr (.inl l0))] (G, M, T) (fun r S1 => pm_Run d 204 233 [.inr (.inr (.inl l0)), .inl l1, .inl l2, .inl l3] (pm_push r []) S1 K) := by
  refine (px_go (by decide +kernel : pm_fe 204 229 = some (.aload_n 0, 1)) rfl).trans ?_
  refine (px_v0 (idx := 262) (m' := 186) (ci := 12) (by decide +kernel)).trans ((and_iff_right ⟨h1, (by simp [pm_wl_n, pm_wl_c, pm_w] : pm_wl [] ≤ 8)⟩).trans ?_)
  exact Iff.rfl
theorem b204_233 {d : Nat} {G : PG} {M T : PH} {K : PV → PS → Prop} {l0 l1 l2 l3 : Int} (h1 : pm_ob G l0 12) : pm_Run d 204 233 [.inr (.inr (.inl l0)), .inl l1, .inl l2, .inl l3] [] (G, M, T) K ↔ pm_Call d 188 [.inr (.inr (.inl l0)), .inl 40] (G, M, T) (fun r S1 => pm_Run d 204 239 [.inr (.inr (.inl l0)), .inl l1, .inl l2, .inl l3] (pm_push r []) S1 K) := by
  refine (px_go (by decide +kernel : pm_fe 204 233 = some (.aload_n 0, 1)) rfl).trans ?_
  refine (px_go (by decide +kernel : pm_fe 204 234 = some (.bipush 40, 2)) rfl).trans ?_
  refine (px_v1 (idx := 265) (m' := 188) (ci := 12) (by decide +kernel)).trans ((and_iff_right ⟨h1, (by simp [pm_wl_n, pm_wl_c, pm_w] : pm_wl [] ≤ 8)⟩).trans ?_)
  exact Iff.rfl
theorem b204_239 {d : Nat} {G : PG} {M T : PH} {K : PV → PS → Prop} {l0 l1 l2 l3 s0 : Int} : pm_Run d 204 239 [.inr (.inr (.inl l0)), .inl l1, .inl l2, .inl l3] [.inl s0] (G, M, T) K ↔ if pm_sg s0 ≠ 0 then pm_Run d 204 251 [.inr (.inr (.inl l0)), .inl l1, .inl l2, .inl l3] [] (G, M, T) K else pm_Run d 204 242 [.inr (.inr (.inl l0)), .inl l1, .inl l2, .inl l3] [] (G, M, T) K := by
  refine (px_if_ne (off := 12) (tgt := 251) (by decide +kernel)).trans ?_
  exact Iff.rfl
theorem b204_242 {d : Nat} {G : PG} {M T : PH} {K : PV → PS → Prop} {l0 l1 l2 l3 : Int} (h1 : pm_ob G l0 12) : pm_Run d 204 242 [.inr (.inr (.inl l0)), .inl l1, .inl l2, .inl l3] [] (G, M, T) K ↔ pm_Call d 183 [.inr (.inr (.inl l0)), .inl 1, .inl (M l0.toNat 4)] (G, M, T) (fun r S1 => pm_Run d 204 251 [.inr (.inr (.inl l0)), .inl l1, .inl l2, .inl l3] (pm_push r []) S1 K) := by
  refine (px_go (by decide +kernel : pm_fe 204 242 = some (.aload_n 0, 1)) rfl).trans ?_
  refine (px_go (by decide +kernel : pm_fe 204 243 = some (.iconst 1, 1)) rfl).trans ?_
  refine (px_go (by decide +kernel : pm_fe 204 244 = some (.aload_n 0, 1)) rfl).trans ?_
  refine (px_get0 (idx := 23) (ci := 12) (k := 4) (by decide +kernel)).trans ((and_iff_right h1).trans ?_)
  refine (px_v2 (idx := 251) (m' := 183) (ci := 12) (by decide +kernel)).trans ((and_iff_right ⟨h1, (by simp [pm_wl_n, pm_wl_c, pm_w] : pm_wl [] ≤ 8)⟩).trans ?_)
  exact Iff.rfl
theorem b204_251 {d : Nat} {G : PG} {M T : PH} {K : PV → PS → Prop} {l0 l1 l2 l3 : Int} (h1 : pm_ob G l0 12) : pm_Run d 204 251 [.inr (.inr (.inl l0)), .inl l1, .inl l2, .inl l3] [] (G, M, T) K ↔ pm_Call d 202 [.inr (.inr (.inl l0)), .inl 3] (G, M, T) (fun r S1 => pm_Run d 204 256 [.inr (.inr (.inl l0)), .inl l1, .inl l2, .inl l3] (pm_push r []) S1 K) := by
  refine (px_go (by decide +kernel : pm_fe 204 251 = some (.aload_n 0, 1)) rfl).trans ?_
  refine (px_go (by decide +kernel : pm_fe 204 252 = some (.iconst 3, 1)) rfl).trans ?_
  refine (px_v1 (idx := 363) (m' := 202) (ci := 12) (by decide +kernel)).trans ((and_iff_right ⟨h1, (by simp [pm_wl_n, pm_wl_c, pm_w] : pm_wl [] ≤ 8)⟩).trans ?_)
  exact Iff.rfl
theorem b204_256 {d : Nat} {G : PG} {M T : PH} {K : PV → PS → Prop} {l0 l1 l2 l3 : Int} (h1 : pm_ob G l0 12) : pm_Run d 204 256 [.inr (.inr (.inl l0)), .inl l1, .inl l2, .inl l3] [] (G, M, T) K ↔ if pm_sg (M l0.toNat 8) ≠ 0 then pm_Run d 204 275 [.inr (.inr (.inl l0)), .inl l1, .inl l2, .inl l3] [] (G, M, T) K else pm_Run d 204 263 [.inr (.inr (.inl l0)), .inl l1, .inl l2, .inl l3] [] (G, M, T) K := by
  refine (px_go (by decide +kernel : pm_fe 204 256 = some (.aload_n 0, 1)) rfl).trans ?_
  refine (px_get0 (idx := 36) (ci := 12) (k := 8) (by decide +kernel)).trans ((and_iff_right h1).trans ?_)
  refine (px_if_ne (off := 15) (tgt := 275) (by decide +kernel)).trans ?_
  exact Iff.rfl
theorem b204_263 {d : Nat} {G : PG} {M T : PH} {K : PV → PS → Prop} {l0 l1 l2 l3 : Int} (h1 : pm_ob G l0 12) (h2 : pm_ar G (T l0.toNat 46) 100 ((M l0.toNat 48) - 1)) : pm_Run d 204 263 [.inr (.inr (.inl l0)), .inl l1, .inl l2, .inl l3] [] (G, M, T) K ↔ pm_Run d 204 275 [.inr (.inr (.inl l0)), .inl l1, .inl l2, .inl l3] [] (G, pm_sa M (T l0.toNat 46).toNat (pm_up (M (T l0.toNat 46).toNat) (pm_sg ((M l0.toNat 48) - 1)).toNat l3), T) K := by
  refine (px_go (by decide +kernel : pm_fe 204 263 = some (.aload_n 0, 1)) rfl).trans ?_
  refine (px_get2 (idx := 152) (ci := 12) (k := 46) (by decide +kernel)).trans ((and_iff_right h1).trans ?_)
  refine (px_go (by decide +kernel : pm_fe 204 267 = some (.aload_n 0, 1)) rfl).trans ?_
  refine (px_get0 (idx := 158) (ci := 12) (k := 48) (by decide +kernel)).trans ((and_iff_right h1).trans ?_)
  refine (px_go (by decide +kernel : pm_fe 204 271 = some (.iconst 1, 1)) rfl).trans ?_
  refine (px_go (by decide +kernel : pm_fe 204 272 = some (.isub, 1)) rfl).trans ?_
  refine (px_go (by decide +kernel : pm_fe 204 273 = some (.iload_n 3, 1)) rfl).trans ?_
  refine (px_iastore (by decide +kernel)).trans ((and_iff_right h2).trans ?_)
  exact Iff.rfl
theorem b204_275 {d : Nat} {G : PG} {M T : PH} {K : PV → PS → Prop} {l0 l1 l2 l3 : Int} : pm_Run d 204 275 [.inr (.inr (.inl l0)), .inl l1, .inl l2, .inl l3] [] (G, M, T) K ↔ K (.inl 0) (G, M, T) := by
  refine (px_go (by decide +kernel : pm_fe 204 275 = some (.iconst 0, 1)) rfl).trans ?_
  refine (px_rz (by decide +kernel)).trans ((and_iff_right (by decide : (0 : Int) = (0 : Int) ∨ (0 : Int) = (1 : Int))).trans ?_)
  exact Iff.rfl
theorem b204_277 {d : Nat} {G : PG} {M T : PH} {K : PV → PS → Prop} {l0 l1 l2 : Int} (h1 : pm_ob G l0 12) : pm_Run d 204 277 [.inr (.inr (.inl l0)), .inl l1, .inl l2, PU] [] (G, M, T) K ↔ if pm_sg (M l0.toNat 3) ≠ pm_sg 2 then pm_Run d 204 289 [.inr (.inr (.inl l0)), .inl l1, .inl l2, PU] [] (G, M, T) K else pm_Run d 204 285 [.inr (.inr (.inl l0)), .inl l1, .inl l2, PU] [] (G, M, T) K := by
  refine (px_go (by decide +kernel : pm_fe 204 277 = some (.aload_n 0, 1)) rfl).trans ?_
  refine (px_get0 (idx := 20) (ci := 12) (k := 3) (by decide +kernel)).trans ((and_iff_right h1).trans ?_)
  refine (px_go (by decide +kernel : pm_fe 204 281 = some (.iconst 2, 1)) rfl).trans ?_
  refine (px_ic_ne (off := 7) (tgt := 289) (by decide +kernel)).trans ?_
  exact Iff.rfl
theorem b204_285 {d : Nat} {G : PG} {M T : PH} {K : PV → PS → Prop} {l0 l1 l2 : Int} : pm_Run d 204 285 [.inr (.inr (.inl l0)), .inl l1, .inl l2, PU] [] (G, M, T) K ↔ pm_Run d 204 450 [.inr (.inr (.inl l0)), .inl l1, .inl l2, PU] [.inl 0] (G, M, T) K := by
  refine (px_go (by decide +kernel : pm_fe 204 285 = some (.iconst 0, 1)) rfl).trans ?_
  refine (px_goto (off := 164) (tgt := 450) (by decide +kernel)).trans ?_
  exact Iff.rfl
theorem b204_289 {d : Nat} {G : PG} {M T : PH} {K : PV → PS → Prop} {l0 l1 l2 : Int} (h1 : pm_ob G l0 12) : pm_Run d 204 289 [.inr (.inr (.inl l0)), .inl l1, .inl l2, PU] [] (G, M, T) K ↔ pm_Call d 189 [.inr (.inr (.inl l0)), .inr (.inl 114784769370228)] (G, M, T) (fun r S1 => pm_Run d 204 296 [.inr (.inr (.inl l0)), .inl l1, .inl l2, PU] (pm_push r []) S1 K) := by
  refine (px_go (by decide +kernel : pm_fe 204 289 = some (.aload_n 0, 1)) rfl).trans ?_
  refine (px_ldcL (idx := 301) (x := 114784769370228) (by decide +kernel)).trans ?_
  refine (px_v1 (idx := 356) (m' := 189) (ci := 12) (by decide +kernel)).trans ((and_iff_right ⟨h1, (by simp [pm_wl_n, pm_wl_c, pm_w] : pm_wl [] ≤ 8)⟩).trans ?_)
  exact Iff.rfl
theorem b204_296 {d : Nat} {G : PG} {M T : PH} {K : PV → PS → Prop} {l0 l1 l2 s0 : Int} : pm_Run d 204 296 [.inr (.inr (.inl l0)), .inl l1, .inl l2, PU] [.inl s0] (G, M, T) K ↔ if pm_sg s0 = 0 then pm_Run d 204 303 [.inr (.inr (.inl l0)), .inl l1, .inl l2, PU] [] (G, M, T) K else pm_Run d 204 299 [.inr (.inr (.inl l0)), .inl l1, .inl l2, PU] [] (G, M, T) K := by
  refine (px_if_eq (off := 7) (tgt := 303) (by decide +kernel)).trans ?_
  exact Iff.rfl
theorem b204_299 {d : Nat} {G : PG} {M T : PH} {K : PV → PS → Prop} {l0 l1 l2 : Int} : pm_Run d 204 299 [.inr (.inr (.inl l0)), .inl l1, .inl l2, PU] [] (G, M, T) K ↔ pm_Run d 204 450 [.inr (.inr (.inl l0)), .inl l1, .inl l2, PU] [.inl 1] (G, M, T) K := by
  refine (px_go (by decide +kernel : pm_fe 204 299 = some (.iconst 1, 1)) rfl).trans ?_
  refine (px_goto (off := 150) (tgt := 450) (by decide +kernel)).trans ?_
  exact Iff.rfl
theorem b204_303 {d : Nat} {G : PG} {M T : PH} {K : PV → PS → Prop} {l0 l1 l2 : Int} (h1 : pm_ob G l0 12) : pm_Run d 204 303 [.inr (.inr (.inl l0)), .inl l1, .inl l2, PU] [] (G, M, T) K ↔ pm_Call d 189 [.inr (.inr (.inl l0)), .inr (.inl 431198598248)] (G, M, T) (fun r S1 => pm_Run d 204 310 [.inr (.inr (.inl l0)), .inl l1, .inl l2, PU] (pm_push r []) S1 K) := by
  refine (px_go (by decide +kernel : pm_fe 204 303 = some (.aload_n 0, 1)) rfl).trans ?_
  refine (px_ldcL (idx := 285) (x := 431198598248) (by decide +kernel)).trans ?_
  refine (px_v1 (idx := 356) (m' := 189) (ci := 12) (by decide +kernel)).trans ((and_iff_right ⟨h1, (by simp [pm_wl_n, pm_wl_c, pm_w] : pm_wl [] ≤ 8)⟩).trans ?_)
  exact Iff.rfl
theorem b204_310 {d : Nat} {G : PG} {M T : PH} {K : PV → PS → Prop} {l0 l1 l2 s0 : Int} : pm_Run d 204 310 [.inr (.inr (.inl l0)), .inl l1, .inl l2, PU] [.inl s0] (G, M, T) K ↔ if pm_sg s0 = 0 then pm_Run d 204 317 [.inr (.inr (.inl l0)), .inl l1, .inl l2, PU] [] (G, M, T) K else pm_Run d 204 313 [.inr (.inr (.inl l0)), .inl l1, .inl l2, PU] [] (G, M, T) K := by
  refine (px_if_eq (off := 7) (tgt := 317) (by decide +kernel)).trans ?_
  exact Iff.rfl
theorem b204_313 {d : Nat} {G : PG} {M T : PH} {K : PV → PS → Prop} {l0 l1 l2 : Int} : pm_Run d 204 313 [.inr (.inr (.inl l0)), .inl l1, .inl l2, PU] [] (G, M, T) K ↔ pm_Run d 204 450 [.inr (.inr (.inl l0)), .inl l1, .inl l2, PU] [.inl 2] (G, M, T) K := by
  refine (px_go (by decide +kernel : pm_fe 204 313 = some (.iconst 2, 1)) rfl).trans ?_
  refine (px_goto (off := 136) (tgt := 450) (by decide +kernel)).trans ?_
  exact Iff.rfl
theorem b204_317 {d : Nat} {G : PG} {M T : PH} {K : PV → PS → Prop} {l0 l1 l2 : Int} (h1 : pm_ob G l0 12) : pm_Run d 204 317 [.inr (.inr (.inl l0)), .inl l1, .inl l2, PU] [] (G, M, T) K ↔ pm_Call d 189 [.inr (.inr (.inl l0)), .inr (.inl 483006772069)] (G, M, T) (fun r S1 => pm_Run d 204 324 [.inr (.inr (.inl l0)), .inl l1, .inl l2, PU] (pm_push r []) S1 K) := by
  refine (px_go (by decide +kernel : pm_fe 204 317 = some (.aload_n 0, 1)) rfl).trans ?_
  refine (px_ldcL (idx := 283) (x := 483006772069) (by decide +kernel)).trans ?_
  refine (px_v1 (idx := 356) (m' := 189) (ci := 12) (by decide +kernel)).trans ((and_iff_right ⟨h1, (by simp [pm_wl_n, pm_wl_c, pm_w] : pm_wl [] ≤ 8)⟩).trans ?_)
  exact Iff.rfl
theorem b204_324 {d : Nat} {G : PG} {M T : PH} {K : PV → PS → Prop} {l0 l1 l2 s0 : Int} : pm_Run d 204 324 [.inr (.inr (.inl l0)), .inl l1, .inl l2, PU] [.inl s0] (G, M, T) K ↔ if pm_sg s0 = 0 then pm_Run d 204 331 [.inr (.inr (.inl l0)), .inl l1, .inl l2, PU] [] (G, M, T) K else pm_Run d 204 327 [.inr (.inr (.inl l0)), .inl l1, .inl l2, PU] [] (G, M, T) K := by
  refine (px_if_eq (off := 7) (tgt := 331) (by decide +kernel)).trans ?_
  exact Iff.rfl
theorem b204_327 {d : Nat} {G : PG} {M T : PH} {K : PV → PS → Prop} {l0 l1 l2 : Int} : pm_Run d 204 327 [.inr (.inr (.inl l0)), .inl l1, .inl l2, PU] [] (G, M, T) K ↔ pm_Run d 204 450 [.inr (.inr (.inl l0)), .inl l1, .inl l2, PU] [.inl 3] (G, M, T) K := by
  refine (px_go (by decide +kernel : pm_fe 204 327 = some (.iconst 3, 1)) rfl).trans ?_
  refine (px_goto (off := 122) (tgt := 450) (by decide +kernel)).trans ?_
  exact Iff.rfl
theorem b204_331 {d : Nat} {G : PG} {M T : PH} {K : PV → PS → Prop} {l0 l1 l2 : Int} (h1 : pm_ob G l0 12) : pm_Run d 204 331 [.inr (.inr (.inl l0)), .inl l1, .inl l2, PU] [] (G, M, T) K ↔ pm_Call d 189 [.inr (.inr (.inl l0)), .inr (.inl 1885432164)] (G, M, T) (fun r S1 => pm_Run d 204 338 [.inr (.inr (.inl l0)), .inl l1, .inl l2, PU] (pm_push r []) S1 K) := by
  refine (px_go (by decide +kernel : pm_fe 204 331 = some (.aload_n 0, 1)) rfl).trans ?_
  refine (px_ldcL (idx := 303) (x := 1885432164) (by decide +kernel)).trans ?_
  refine (px_v1 (idx := 356) (m' := 189) (ci := 12) (by decide +kernel)).trans ((and_iff_right ⟨h1, (by simp [pm_wl_n, pm_wl_c, pm_w] : pm_wl [] ≤ 8)⟩).trans ?_)
  exact Iff.rfl
theorem b204_338 {d : Nat} {G : PG} {M T : PH} {K : PV → PS → Prop} {l0 l1 l2 s0 : Int} : pm_Run d 204 338 [.inr (.inr (.inl l0)), .inl l1, .inl l2, PU] [.inl s0] (G, M, T) K ↔ if pm_sg s0 = 0 then pm_Run d 204 345 [.inr (.inr (.inl l0)), .inl l1, .inl l2, PU] [] (G, M, T) K else pm_Run d 204 341 [.inr (.inr (.inl l0)), .inl l1, .inl l2, PU] [] (G, M, T) K := by
  refine (px_if_eq (off := 7) (tgt := 345) (by decide +kernel)).trans ?_
  exact Iff.rfl
theorem b204_341 {d : Nat} {G : PG} {M T : PH} {K : PV → PS → Prop} {l0 l1 l2 : Int} : pm_Run d 204 341 [.inr (.inr (.inl l0)), .inl l1, .inl l2, PU] [] (G, M, T) K ↔ pm_Run d 204 450 [.inr (.inr (.inl l0)), .inl l1, .inl l2, PU] [.inl 4] (G, M, T) K := by
  refine (px_go (by decide +kernel : pm_fe 204 341 = some (.iconst 4, 1)) rfl).trans ?_
  refine (px_goto (off := 108) (tgt := 450) (by decide +kernel)).trans ?_
  exact Iff.rfl
theorem b204_345 {d : Nat} {G : PG} {M T : PH} {K : PV → PS → Prop} {l0 l1 l2 : Int} (h1 : pm_ob G l0 12) : pm_Run d 204 345 [.inr (.inr (.inl l0)), .inl l1, .inl l2, PU] [] (G, M, T) K ↔ pm_Call d 189 [.inr (.inr (.inl l0)), .inr (.inl 6583653)] (G, M, T) (fun r S1 => pm_Run d 204 352 [.inr (.inr (.inl l0)), .inl l1, .inl l2, PU] (pm_push r []) S1 K) := by
  refine (px_go (by decide +kernel : pm_fe 204 345 = some (.aload_n 0, 1)) rfl).trans ?_
  refine (px_ldcL (idx := 305) (x := 6583653) (by decide +kernel)).trans ?_
  refine (px_v1 (idx := 356) (m' := 189) (ci := 12) (by decide +kernel)).trans ((and_iff_right ⟨h1, (by simp [pm_wl_n, pm_wl_c, pm_w] : pm_wl [] ≤ 8)⟩).trans ?_)
  exact Iff.rfl
theorem b204_352 {d : Nat} {G : PG} {M T : PH} {K : PV → PS → Prop} {l0 l1 l2 s0 : Int} : pm_Run d 204 352 [.inr (.inr (.inl l0)), .inl l1, .inl l2, PU] [.inl s0] (G, M, T) K ↔ if pm_sg s0 = 0 then pm_Run d 204 359 [.inr (.inr (.inl l0)), .inl l1, .inl l2, PU] [] (G, M, T) K else pm_Run d 204 355 [.inr (.inr (.inl l0)), .inl l1, .inl l2, PU] [] (G, M, T) K := by
  refine (px_if_eq (off := 7) (tgt := 359) (by decide +kernel)).trans ?_
  exact Iff.rfl
theorem b204_355 {d : Nat} {G : PG} {M T : PH} {K : PV → PS → Prop} {l0 l1 l2 : Int} : pm_Run d 204 355 [.inr (.inr (.inl l0)), .inl l1, .inl l2, PU] [] (G, M, T) K ↔ pm_Run d 204 450 [.inr (.inr (.inl l0)), .inl l1, .inl l2, PU] [.inl 5] (G, M, T) K := by
  refine (px_go (by decide +kernel : pm_fe 204 355 = some (.iconst 5, 1)) rfl).trans ?_
  refine (px_goto (off := 94) (tgt := 450) (by decide +kernel)).trans ?_
  exact Iff.rfl
theorem b204_359 {d : Nat} {G : PG} {M T : PH} {K : PV → PS → Prop} {l0 l1 l2 : Int} (h1 : pm_ob G l0 12) : pm_Run d 204 359 [.inr (.inr (.inl l0)), .inl l1, .inl l2, PU] [] (G, M, T) K ↔ pm_Call d 189 [.inr (.inr (.inl l0)), .inr (.inl 6709618)] (G, M, T) (fun r S1 => pm_Run d 204 366 [.inr (.inr (.inl l0)), .inl l1, .inl l2, PU] (pm_push r []) S1 K) := by
  refine (px_go (by decide +kernel : pm_fe 204 359 = some (.aload_n 0, 1)) rfl).trans ?_
  refine (px_ldcL (idx := 307) (x := 6709618) (by decide +kernel)).trans ?_
  refine (px_v1 (idx := 356) (m' := 189) (ci := 12) (by decide +kernel)).trans ((and_iff_right ⟨h1, (by simp [pm_wl_n, pm_wl_c, pm_w] : pm_wl [] ≤ 8)⟩).trans ?_)
  exact Iff.rfl
theorem b204_366 {d : Nat} {G : PG} {M T : PH} {K : PV → PS → Prop} {l0 l1 l2 s0 : Int} : pm_Run d 204 366 [.inr (.inr (.inl l0)), .inl l1, .inl l2, PU] [.inl s0] (G, M, T) K ↔ if pm_sg s0 = 0 then pm_Run d 204 374 [.inr (.inr (.inl l0)), .inl l1, .inl l2, PU] [] (G, M, T) K else pm_Run d 204 369 [.inr (.inr (.inl l0)), .inl l1, .inl l2, PU] [] (G, M, T) K := by
  refine (px_if_eq (off := 8) (tgt := 374) (by decide +kernel)).trans ?_
  exact Iff.rfl
theorem b204_369 {d : Nat} {G : PG} {M T : PH} {K : PV → PS → Prop} {l0 l1 l2 : Int} : pm_Run d 204 369 [.inr (.inr (.inl l0)), .inl l1, .inl l2, PU] [] (G, M, T) K ↔ pm_Run d 204 450 [.inr (.inr (.inl l0)), .inl l1, .inl l2, PU] [.inl 6] (G, M, T) K := by
  refine (px_go (by decide +kernel : pm_fe 204 369 = some (.bipush 6, 2)) rfl).trans ?_
  refine (px_goto (off := 79) (tgt := 450) (by decide +kernel)).trans ?_
  exact Iff.rfl
theorem b204_374 {d : Nat} {G : PG} {M T : PH} {K : PV → PS → Prop} {l0 l1 l2 : Int} (h1 : pm_ob G l0 12) : pm_Run d 204 374 [.inr (.inr (.inl l0)), .inl l1, .inl l2, PU] [] (G, M, T) K ↔ pm_Call d 189 [.inr (.inr (.inl l0)), .inr (.inl 127978976601458)] (G, M, T) (fun r S1 => pm_Run d 204 381 [.inr (.inr (.inl l0)), .inl l1, .inl l2, PU] (pm_push r []) S1 K) := by
  refine (px_go (by decide +kernel : pm_fe 204 374 = some (.aload_n 0, 1)) rfl).trans ?_
  refine (px_ldcL (idx := 279) (x := 127978976601458) (by decide +kernel)).trans ?_
  refine (px_v1 (idx := 356) (m' := 189) (ci := 12) (by decide +kernel)).trans ((and_iff_right ⟨h1, (by simp [pm_wl_n, pm_wl_c, pm_w] : pm_wl [] ≤ 8)⟩).trans ?_)
  exact Iff.rfl
theorem b204_381 {d : Nat} {G : PG} {M T : PH} {K : PV → PS → Prop} {l0 l1 l2 s0 : Int} : pm_Run d 204 381 [.inr (.inr (.inl l0)), .inl l1, .inl l2, PU] [.inl s0] (G, M, T) K ↔ if pm_sg s0 = 0 then pm_Run d 204 389 [.inr (.inr (.inl l0)), .inl l1, .inl l2, PU] [] (G, M, T) K else pm_Run d 204 384 [.inr (.inr (.inl l0)), .inl l1, .inl l2, PU] [] (G, M, T) K := by
  refine (px_if_eq (off := 8) (tgt := 389) (by decide +kernel)).trans ?_
  exact Iff.rfl
theorem b204_384 {d : Nat} {G : PG} {M T : PH} {K : PV → PS → Prop} {l0 l1 l2 : Int} : pm_Run d 204 384 [.inr (.inr (.inl l0)), .inl l1, .inl l2, PU] [] (G, M, T) K ↔ pm_Run d 204 450 [.inr (.inr (.inl l0)), .inl l1, .inl l2, PU] [.inl 7] (G, M, T) K := by
  refine (px_go (by decide +kernel : pm_fe 204 384 = some (.bipush 7, 2)) rfl).trans ?_
  refine (px_goto (off := 64) (tgt := 450) (by decide +kernel)).trans ?_
  exact Iff.rfl
theorem b204_389 {d : Nat} {G : PG} {M T : PH} {K : PV → PS → Prop} {l0 l1 l2 : Int} (h1 : pm_ob G l0 12) : pm_Run d 204 389 [.inr (.inr (.inl l0)), .inl l1, .inl l2, PU] [] (G, M, T) K ↔ pm_Call d 189 [.inr (.inr (.inl l0)), .inr (.inl 495891278707)] (G, M, T) (fun r S1 => pm_Run d 204 396 [.inr (.inr (.inl l0)), .inl l1, .inl l2, PU] (pm_push r []) S1 K) := by
  refine (px_go (by decide +kernel : pm_fe 204 389 = some (.aload_n 0, 1)) rfl).trans ?_
  refine (px_ldcL (idx := 309) (x := 495891278707) (by decide +kernel)).trans ?_
  refine (px_v1 (idx := 356) (m' := 189) (ci := 12) (by decide +kernel)).trans ((and_iff_right ⟨h1, (by simp [pm_wl_n, pm_wl_c, pm_w] : pm_wl [] ≤ 8)⟩).trans ?_)
  exact Iff.rfl
theorem b204_396 {d : Nat} {G : PG} {M T : PH} {K : PV → PS → Prop} {l0 l1 l2 s0 : Int} : pm_Run d 204 396 [.inr (.inr (.inl l0)), .inl l1, .inl l2, PU] [.inl s0] (G, M, T) K ↔ if pm_sg s0 = 0 then pm_Run d 204 404 [.inr (.inr (.inl l0)), .inl l1, .inl l2, PU] [] (G, M, T) K else pm_Run d 204 399 [.inr (.inr (.inl l0)), .inl l1, .inl l2, PU] [] (G, M, T) K := by
  refine (px_if_eq (off := 8) (tgt := 404) (by decide +kernel)).trans ?_
  exact Iff.rfl
theorem b204_399 {d : Nat} {G : PG} {M T : PH} {K : PV → PS → Prop} {l0 l1 l2 : Int} : pm_Run d 204 399 [.inr (.inr (.inl l0)), .inl l1, .inl l2, PU] [] (G, M, T) K ↔ pm_Run d 204 450 [.inr (.inr (.inl l0)), .inl l1, .inl l2, PU] [.inl 8] (G, M, T) K := by
  refine (px_go (by decide +kernel : pm_fe 204 399 = some (.bipush 8, 2)) rfl).trans ?_
  refine (px_goto (off := 49) (tgt := 450) (by decide +kernel)).trans ?_
  exact Iff.rfl
theorem b204_404 {d : Nat} {G : PG} {M T : PH} {K : PV → PS → Prop} {l0 l1 l2 : Int} (h1 : pm_ob G l0 12) : pm_Run d 204 404 [.inr (.inr (.inl l0)), .inl l1, .inl l2, PU] [] (G, M, T) K ↔ pm_Call d 189 [.inr (.inr (.inl l0)), .inr (.inl 491395637612)] (G, M, T) (fun r S1 => pm_Run d 204 411 [.inr (.inr (.inl l0)), .inl l1, .inl l2, PU] (pm_push r []) S1 K) := by
  refine (px_go (by decide +kernel : pm_fe 204 404 = some (.aload_n 0, 1)) rfl).trans ?_
  refine (px_ldcL (idx := 311) (x := 491395637612) (by decide +kernel)).trans ?_
  refine (px_v1 (idx := 356) (m' := 189) (ci := 12) (by decide +kernel)).trans ((and_iff_right ⟨h1, (by simp [pm_wl_n, pm_wl_c, pm_w] : pm_wl [] ≤ 8)⟩).trans ?_)
  exact Iff.rfl
theorem b204_411 {d : Nat} {G : PG} {M T : PH} {K : PV → PS → Prop} {l0 l1 l2 s0 : Int} : pm_Run d 204 411 [.inr (.inr (.inl l0)), .inl l1, .inl l2, PU] [.inl s0] (G, M, T) K ↔ if pm_sg s0 = 0 then pm_Run d 204 419 [.inr (.inr (.inl l0)), .inl l1, .inl l2, PU] [] (G, M, T) K else pm_Run d 204 414 [.inr (.inr (.inl l0)), .inl l1, .inl l2, PU] [] (G, M, T) K := by
  refine (px_if_eq (off := 8) (tgt := 419) (by decide +kernel)).trans ?_
  exact Iff.rfl
theorem b204_414 {d : Nat} {G : PG} {M T : PH} {K : PV → PS → Prop} {l0 l1 l2 : Int} : pm_Run d 204 414 [.inr (.inr (.inl l0)), .inl l1, .inl l2, PU] [] (G, M, T) K ↔ pm_Run d 204 450 [.inr (.inr (.inl l0)), .inl l1, .inl l2, PU] [.inl 9] (G, M, T) K := by
  refine (px_go (by decide +kernel : pm_fe 204 414 = some (.bipush 9, 2)) rfl).trans ?_
  refine (px_goto (off := 34) (tgt := 450) (by decide +kernel)).trans ?_
  exact Iff.rfl
theorem b204_419 {d : Nat} {G : PG} {M T : PH} {K : PV → PS → Prop} {l0 l1 l2 : Int} (h1 : pm_ob G l0 12) : pm_Run d 204 419 [.inr (.inr (.inl l0)), .inl l1, .inl l2, PU] [] (G, M, T) K ↔ pm_Call d 189 [.inr (.inr (.inl l0)), .inr (.inl 1752135026)] (G, M, T) (fun r S1 => pm_Run d 204 426 [.inr (.inr (.inl l0)), .inl l1, .inl l2, PU] (pm_push r []) S1 K) := by
  refine (px_go (by decide +kernel : pm_fe 204 419 = some (.aload_n 0, 1)) rfl).trans ?_
  refine (px_ldcL (idx := 313) (x := 1752135026) (by decide +kernel)).trans ?_
  refine (px_v1 (idx := 356) (m' := 189) (ci := 12) (by decide +kernel)).trans ((and_iff_right ⟨h1, (by simp [pm_wl_n, pm_wl_c, pm_w] : pm_wl [] ≤ 8)⟩).trans ?_)
  exact Iff.rfl
theorem b204_426 {d : Nat} {G : PG} {M T : PH} {K : PV → PS → Prop} {l0 l1 l2 s0 : Int} : pm_Run d 204 426 [.inr (.inr (.inl l0)), .inl l1, .inl l2, PU] [.inl s0] (G, M, T) K ↔ if pm_sg s0 = 0 then pm_Run d 204 434 [.inr (.inr (.inl l0)), .inl l1, .inl l2, PU] [] (G, M, T) K else pm_Run d 204 429 [.inr (.inr (.inl l0)), .inl l1, .inl l2, PU] [] (G, M, T) K := by
  refine (px_if_eq (off := 8) (tgt := 434) (by decide +kernel)).trans ?_
  exact Iff.rfl
theorem b204_429 {d : Nat} {G : PG} {M T : PH} {K : PV → PS → Prop} {l0 l1 l2 : Int} : pm_Run d 204 429 [.inr (.inr (.inl l0)), .inl l1, .inl l2, PU] [] (G, M, T) K ↔ pm_Run d 204 450 [.inr (.inr (.inl l0)), .inl l1, .inl l2, PU] [.inl 31] (G, M, T) K := by
  refine (px_go (by decide +kernel : pm_fe 204 429 = some (.bipush 31, 2)) rfl).trans ?_
  refine (px_goto (off := 19) (tgt := 450) (by decide +kernel)).trans ?_
  exact Iff.rfl
theorem b204_434 {d : Nat} {G : PG} {M T : PH} {K : PV → PS → Prop} {l0 l1 l2 : Int} (h1 : pm_ob G l0 12) : pm_Run d 204 434 [.inr (.inr (.inl l0)), .inl l1, .inl l2, PU] [] (G, M, T) K ↔ pm_Call d 189 [.inr (.inr (.inl l0)), .inr (.inl 482854658917)] (G, M, T) (fun r S1 => pm_Run d 204 441 [.inr (.inr (.inl l0)), .inl l1, .inl l2, PU] (pm_push r []) S1 K) := by
  refine (px_go (by decide +kernel : pm_fe 204 434 = some (.aload_n 0, 1)) rfl).trans ?_
  refine (px_ldcL (idx := 315) (x := 482854658917) (by decide +kernel)).trans ?_
  refine (px_v1 (idx := 356) (m' := 189) (ci := 12) (by decide +kernel)).trans ((and_iff_right ⟨h1, (by simp [pm_wl_n, pm_wl_c, pm_w] : pm_wl [] ≤ 8)⟩).trans ?_)
  exact Iff.rfl
theorem b204_441 {d : Nat} {G : PG} {M T : PH} {K : PV → PS → Prop} {l0 l1 l2 s0 : Int} : pm_Run d 204 441 [.inr (.inr (.inl l0)), .inl l1, .inl l2, PU] [.inl s0] (G, M, T) K ↔ if pm_sg s0 = 0 then pm_Run d 204 449 [.inr (.inr (.inl l0)), .inl l1, .inl l2, PU] [] (G, M, T) K else pm_Run d 204 444 [.inr (.inr (.inl l0)), .inl l1, .inl l2, PU] [] (G, M, T) K := by
  refine (px_if_eq (off := 8) (tgt := 449) (by decide +kernel)).trans ?_
  exact Iff.rfl
theorem b204_444 {d : Nat} {G : PG} {M T : PH} {K : PV → PS → Prop} {l0 l1 l2 : Int} : pm_Run d 204 444 [.inr (.inr (.inl l0)), .inl l1, .inl l2, PU] [] (G, M, T) K ↔ pm_Run d 204 450 [.inr (.inr (.inl l0)), .inl l1, .inl l2, PU] [.inl 32] (G, M, T) K := by
  refine (px_go (by decide +kernel : pm_fe 204 444 = some (.bipush 32, 2)) rfl).trans ?_
  refine (px_goto (off := 4) (tgt := 450) (by decide +kernel)).trans ?_
  exact Iff.rfl
theorem b204_449 {d : Nat} {G : PG} {M T : PH} {K : PV → PS → Prop} {l0 l1 l2 : Int} : pm_Run d 204 449 [.inr (.inr (.inl l0)), .inl l1, .inl l2, PU] [] (G, M, T) K ↔ pm_Run d 204 450 [.inr (.inr (.inl l0)), .inl l1, .inl l2, PU] [.inl (-1)] (G, M, T) K := by
  refine (px_go (by decide +kernel : pm_fe 204 449 = some (.iconst (-1), 1)) rfl).trans ?_
  exact Iff.rfl
theorem b204_450 {d : Nat} {G : PG} {M T : PH} {K : PV → PS → Prop} {l0 l1 l2 s0 : Int} : pm_Run d 204 450 [.inr (.inr (.inl l0)), .inl l1, .inl l2, PU] [.inl s0] (G, M, T) K ↔ if pm_sg s0 ≠ pm_sg (-1) then pm_Run d 204 465 [.inr (.inr (.inl l0)), .inl l1, .inl l2, .inl s0] [] (G, M, T) K else pm_Run d 204 456 [.inr (.inr (.inl l0)), .inl l1, .inl l2, .inl s0] [] (G, M, T) K := by
  refine (px_go (by decide +kernel : pm_fe 204 450 = some (.istore_n 3, 1)) rfl).trans ?_
  refine (px_go (by decide +kernel : pm_fe 204 451 = some (.iload_n 3, 1)) rfl).trans ?_
  refine (px_go (by decide +kernel : pm_fe 204 452 = some (.iconst (-1), 1)) rfl).trans ?_
  refine (px_ic_ne (off := 12) (tgt := 465) (by decide +kernel)).trans ?_
  exact Iff.rfl
theorem b204_456 {d : Nat} {G : PG} {M T : PH} {K : PV → PS → Prop} {l0 l1 l2 l3 : Int} (h1 : pm_ob G l0 12) : pm_Run d 204 456 [.inr (.inr (.inl l0)), .inl l1, .inl l2, .inl l3] [] (G, M, T) K ↔ pm_Call d 183 [.inr (.inr (.inl l0)), .inl 1, .inl (M l0.toNat 4)] (G, M, T) (fun r S1 => pm_Run d 204 465 [.inr (.inr (.inl l0)), .inl l1, .inl l2, .inl l3] (pm_push r []) S1 K) := by
  refine (px_go (by decide +kernel : pm_fe 204 456 = some (.aload_n 0, 1)) rfl).trans ?_
  refine (px_go (by decide +kernel : pm_fe 204 457 = some (.iconst 1, 1)) rfl).trans ?_
  refine (px_go (by decide +kernel : pm_fe 204 458 = some (.aload_n 0, 1)) rfl).trans ?_
  refine (px_get0 (idx := 23) (ci := 12) (k := 4) (by decide +kernel)).trans ((and_iff_right h1).trans ?_)
  refine (px_v2 (idx := 251) (m' := 183) (ci := 12) (by decide +kernel)).trans ((and_iff_right ⟨h1, (by simp [pm_wl_n, pm_wl_c, pm_w] : pm_wl [] ≤ 8)⟩).trans ?_)
  exact Iff.rfl
theorem b204_465 {d : Nat} {G : PG} {M T : PH} {K : PV → PS → Prop} {l0 l1 l2 l3 : Int} (h1 : pm_ob G l0 12) : pm_Run d 204 465 [.inr (.inr (.inl l0)), .inl l1, .inl l2, .inl l3] [] (G, M, T) K ↔ if pm_sg (M l0.toNat 8) ≤ 0 then pm_Run d 204 474 [.inr (.inr (.inl l0)), .inl l1, .inl l2, .inl l3] [] (G, M, T) K else pm_Run d 204 472 [.inr (.inr (.inl l0)), .inl l1, .inl l2, .inl l3] [] (G, M, T) K := by
  refine (px_go (by decide +kernel : pm_fe 204 465 = some (.aload_n 0, 1)) rfl).trans ?_
  refine (px_get0 (idx := 36) (ci := 12) (k := 8) (by decide +kernel)).trans ((and_iff_right h1).trans ?_)
  refine (px_if_le (off := 5) (tgt := 474) (by decide +kernel)).trans ?_
  exact Iff.rfl
theorem b204_472 {d : Nat} {G : PG} {M T : PH} {K : PV → PS → Prop} {l0 l1 l2 l3 : Int} : pm_Run d 204 472 [.inr (.inr (.inl l0)), .inl l1, .inl l2, .inl l3] [] (G, M, T) K ↔ K (.inl 1) (G, M, T) := by
  refine (px_go (by decide +kernel : pm_fe 204 472 = some (.iconst 1, 1)) rfl).trans ?_
  refine (px_rz (by decide +kernel)).trans ((and_iff_right (by decide : (1 : Int) = (0 : Int) ∨ (1 : Int) = (1 : Int))).trans ?_)
  exact Iff.rfl
theorem b204_474 {d : Nat} {G : PG} {M T : PH} {K : PV → PS → Prop} {l0 l1 l2 l3 : Int} (h1 : pm_ob G l0 12) : pm_Run d 204 474 [.inr (.inr (.inl l0)), .inl l1, .inl l2, .inl l3] [] (G, M, T) K ↔ pm_Call d 197 [.inr (.inr (.inl l0)), .inl l3, .inl (M l0.toNat 6)] (G, M, T) (fun r S1 => pm_Run d 204 483 [.inr (.inr (.inl l0)), .inl l1, .inl l2, .inl l3] (pm_push r []) S1 K) := by
  refine (px_go (by decide +kernel : pm_fe 204 474 = some (.aload_n 0, 1)) rfl).trans ?_
  refine (px_go (by decide +kernel : pm_fe 204 475 = some (.iload_n 3, 1)) rfl).trans ?_
  refine (px_go (by decide +kernel : pm_fe 204 476 = some (.aload_n 0, 1)) rfl).trans ?_
  refine (px_get0 (idx := 29) (ci := 12) (k := 6) (by decide +kernel)).trans ((and_iff_right h1).trans ?_)
  refine (px_v2 (idx := 347) (m' := 197) (ci := 12) (by decide +kernel)).trans ((and_iff_right ⟨h1, (by simp [pm_wl_n, pm_wl_c, pm_w] : pm_wl [] ≤ 8)⟩).trans ?_)
  exact Iff.rfl
theorem b204_483 {d : Nat} {G : PG} {M T : PH} {K : PV → PS → Prop} {l0 l1 l2 l3 : Int} (h1 : pm_ob G l0 12) : pm_Run d 204 483 [.inr (.inr (.inl l0)), .inl l1, .inl l2, .inl l3] [] (G, M, T) K ↔ pm_Call d 187 [.inr (.inr (.inl l0))] (G, M, T) (fun r S1 => pm_Run d 204 487 [.inr (.inr (.inl l0)), .inl l1, .inl l2, .inl l3] (pm_push r []) S1 K) := by
  refine (px_go (by decide +kernel : pm_fe 204 483 = some (.aload_n 0, 1)) rfl).trans ?_
  refine (px_v0 (idx := 268) (m' := 187) (ci := 12) (by decide +kernel)).trans ((and_iff_right ⟨h1, (by simp [pm_wl_n, pm_wl_c, pm_w] : pm_wl [] ≤ 8)⟩).trans ?_)
  exact Iff.rfl
theorem b204_487 {d : Nat} {G : PG} {M T : PH} {K : PV → PS → Prop} {l0 l1 l2 l3 : Int} : pm_Run d 204 487 [.inr (.inr (.inl l0)), .inl l1, .inl l2, .inl l3] [] (G, M, T) K ↔ K (.inl 1) (G, M, T) := by
  refine (px_go (by decide +kernel : pm_fe 204 487 = some (.iconst 1, 1)) rfl).trans ?_
  refine (px_rz (by decide +kernel)).trans ((and_iff_right (by decide : (1 : Int) = (0 : Int) ∨ (1 : Int) = (1 : Int))).trans ?_)
  exact Iff.rfl
