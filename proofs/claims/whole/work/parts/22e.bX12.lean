-- X12_rest rest(I)I
theorem en291 {d : Nat} {a p0 : Int} {S : PS} {K : PV → PS → Prop} : pm_Call (d + 1) 291 [.inr (.inr (.inl a)), .inl p0] S K ↔ pm_Run d 291 0 [.inr (.inr (.inl a)), .inl p0, PU, PU, PU] [] S K := pm_Call_s.trans (and_iff_right (show 2 ≤ pm_ml 291 from by decide +kernel))
theorem b291_0 {d : Nat} {G : PG} {M T : PH} {K : PV → PS → Prop} {l0 l1 : Int} (h1 : pm_ob G l0 12) : pm_Run d 291 0 [.inr (.inr (.inl l0)), .inl l1, PU, PU, PU] [] (G, M, T) K ↔ pm_Call d 226 [.inr (.inr (.inl l0))] (G, M, T) (fun r S1 => pm_Run d 291 4 [.inr (.inr (.inl l0)), .inl l1, PU, PU, PU] (pm_push r []) S1 K) := by
  refine (px_go (by decide +kernel : pm_fe 291 0 = some (.aload_n 0, 1)) rfl).trans ?_
  refine (px_v0 (idx := 523) (m' := 226) (ci := 12) (by decide +kernel)).trans ((and_iff_right ⟨h1, (by simp [pm_wl_n, pm_wl_c, pm_w] : pm_wl [] ≤ 8)⟩).trans ?_)
  exact Iff.rfl
theorem b291_4 {d : Nat} {G : PG} {M T : PH} {K : PV → PS → Prop} {l0 l1 s0 : Int} : pm_Run d 291 4 [.inr (.inr (.inl l0)), .inl l1, PU, PU, PU] [.inl s0] (G, M, T) K ↔ if pm_sg s0 = 0 then pm_Run d 291 38 [.inr (.inr (.inl l0)), .inl l1, PU, PU, PU] [] (G, M, T) K else pm_Run d 291 7 [.inr (.inr (.inl l0)), .inl l1, PU, PU, PU] [] (G, M, T) K := by
  refine (px_if_eq (off := 34) (tgt := 38) (by decide +kernel)).trans ?_
  exact Iff.rfl
theorem b291_7 {d : Nat} {G : PG} {M T : PH} {K : PV → PS → Prop} {l0 l1 : Int} : pm_Run d 291 7 [.inr (.inr (.inl l0)), .inl l1, PU, PU, PU] [] (G, M, T) K ↔ if pm_sg l1 = pm_sg (-1) then pm_Run d 291 40 [.inr (.inr (.inl l0)), .inl l1, PU, PU, PU] [] (G, M, T) K else pm_Run d 291 12 [.inr (.inr (.inl l0)), .inl l1, PU, PU, PU] [] (G, M, T) K := by
  refine (px_go (by decide +kernel : pm_fe 291 7 = some (.iload_n 1, 1)) rfl).trans ?_
  refine (px_go (by decide +kernel : pm_fe 291 8 = some (.iconst (-1), 1)) rfl).trans ?_
  refine (px_ic_eq (off := 31) (tgt := 40) (by decide +kernel)).trans ?_
  exact Iff.rfl
theorem b291_12 {d : Nat} {G : PG} {M T : PH} {K : PV → PS → Prop} {l0 l1 : Int} : pm_Run d 291 12 [.inr (.inr (.inl l0)), .inl l1, PU, PU, PU] [] (G, M, T) K ↔ if pm_sg l1 < 0 then pm_Run d 291 38 [.inr (.inr (.inl l0)), .inl l1, PU, PU, PU] [] (G, M, T) K else pm_Run d 291 16 [.inr (.inr (.inl l0)), .inl l1, PU, PU, PU] [] (G, M, T) K := by
  refine (px_go (by decide +kernel : pm_fe 291 12 = some (.iload_n 1, 1)) rfl).trans ?_
  refine (px_if_lt (off := 25) (tgt := 38) (by decide +kernel)).trans ?_
  exact Iff.rfl
theorem b291_16 {d : Nat} {G : PG} {M T : PH} {K : PV → PS → Prop} {l0 l1 : Int} (h1 : pm_ob G l0 12) : pm_Run d 291 16 [.inr (.inr (.inl l0)), .inl l1, PU, PU, PU] [] (G, M, T) K ↔ pm_Call d 229 [.inr (.inr (.inl l0)), .inl (pm_div l1 10)] (G, M, T) (fun r S1 => pm_Run d 291 24 [.inr (.inr (.inl l0)), .inl l1, PU, PU, PU] (pm_push r []) S1 K) := by
  refine (px_go (by decide +kernel : pm_fe 291 16 = some (.aload_n 0, 1)) rfl).trans ?_
  refine (px_go (by decide +kernel : pm_fe 291 17 = some (.iload_n 1, 1)) rfl).trans ?_
  refine (px_go (by decide +kernel : pm_fe 291 18 = some (.bipush 10, 2)) rfl).trans ?_
  refine (px_idiv (by decide +kernel)).trans ((and_iff_right (by decide : pm_sg (10 : Int) ≠ (0 : Int))).trans ?_)
  refine (px_v1 (idx := 544) (m' := 229) (ci := 12) (by decide +kernel)).trans ((and_iff_right ⟨h1, (by simp [pm_wl_n, pm_wl_c, pm_w] : pm_wl [] ≤ 8)⟩).trans ?_)
  exact Iff.rfl
theorem b291_24 {d : Nat} {G : PG} {M T : PH} {K : PV → PS → Prop} {l0 l1 s0 : Int} : pm_Run d 291 24 [.inr (.inr (.inl l0)), .inl l1, PU, PU, PU] [.inl s0] (G, M, T) K ↔ if pm_sg s0 = 0 then pm_Run d 291 38 [.inr (.inr (.inl l0)), .inl l1, PU, PU, PU] [] (G, M, T) K else pm_Run d 291 27 [.inr (.inr (.inl l0)), .inl l1, PU, PU, PU] [] (G, M, T) K := by
  refine (px_if_eq (off := 14) (tgt := 38) (by decide +kernel)).trans ?_
  exact Iff.rfl
theorem b291_27 {d : Nat} {G : PG} {M T : PH} {K : PV → PS → Prop} {l0 l1 : Int} (h1 : pm_ob G l0 12) : pm_Run d 291 27 [.inr (.inr (.inl l0)), .inl l1, PU, PU, PU] [] (G, M, T) K ↔ pm_Call d 228 [.inr (.inr (.inl l0)), .inl (pm_rem l1 10)] (G, M, T) (fun r S1 => pm_Run d 291 35 [.inr (.inr (.inl l0)), .inl l1, PU, PU, PU] (pm_push r []) S1 K) := by
  refine (px_go (by decide +kernel : pm_fe 291 27 = some (.aload_n 0, 1)) rfl).trans ?_
  refine (px_go (by decide +kernel : pm_fe 291 28 = some (.iload_n 1, 1)) rfl).trans ?_
  refine (px_go (by decide +kernel : pm_fe 291 29 = some (.bipush 10, 2)) rfl).trans ?_
  refine (px_irem (by decide +kernel)).trans ((and_iff_right (by decide : pm_sg (10 : Int) ≠ (0 : Int))).trans ?_)
  refine (px_v1 (idx := 535) (m' := 228) (ci := 12) (by decide +kernel)).trans ((and_iff_right ⟨h1, (by simp [pm_wl_n, pm_wl_c, pm_w] : pm_wl [] ≤ 8)⟩).trans ?_)
  exact Iff.rfl
theorem b291_35 {d : Nat} {G : PG} {M T : PH} {K : PV → PS → Prop} {l0 l1 s0 : Int} : pm_Run d 291 35 [.inr (.inr (.inl l0)), .inl l1, PU, PU, PU] [.inl s0] (G, M, T) K ↔ if pm_sg s0 ≠ 0 then pm_Run d 291 40 [.inr (.inr (.inl l0)), .inl l1, PU, PU, PU] [] (G, M, T) K else pm_Run d 291 38 [.inr (.inr (.inl l0)), .inl l1, PU, PU, PU] [] (G, M, T) K := by
  refine (px_if_ne (off := 5) (tgt := 40) (by decide +kernel)).trans ?_
  exact Iff.rfl
theorem b291_38 {d : Nat} {G : PG} {M T : PH} {K : PV → PS → Prop} {l0 l1 : Int} : pm_Run d 291 38 [.inr (.inr (.inl l0)), .inl l1, PU, PU, PU] [] (G, M, T) K ↔ K (.inl (-1)) (G, M, T) := by
  refine (px_go (by decide +kernel : pm_fe 291 38 = some (.iconst (-1), 1)) rfl).trans ?_
  refine (px_ri (by decide +kernel)).trans ?_
  exact Iff.rfl
theorem b291_40 {d : Nat} {G : PG} {M T : PH} {K : PV → PS → Prop} {l0 l1 : Int} (h1 : pm_ob G l0 12) : pm_Run d 291 40 [.inr (.inr (.inl l0)), .inl l1, PU, PU, PU] [] (G, M, T) K ↔ pm_Call d 232 [.inr (.inr (.inl l0)), .inl 1, .inl 0] (G, M, T) (fun r S1 => pm_Run d 291 46 [.inr (.inr (.inl l0)), .inl l1, PU, PU, PU] (pm_push r []) S1 K) := by
  refine (px_go (by decide +kernel : pm_fe 291 40 = some (.aload_n 0, 1)) rfl).trans ?_
  refine (px_go (by decide +kernel : pm_fe 291 41 = some (.iconst 1, 1)) rfl).trans ?_
  refine (px_go (by decide +kernel : pm_fe 291 42 = some (.iconst 0, 1)) rfl).trans ?_
  refine (px_v2 (idx := 445) (m' := 232) (ci := 12) (by decide +kernel)).trans ((and_iff_right ⟨h1, (by simp [pm_wl_n, pm_wl_c, pm_w] : pm_wl [] ≤ 8)⟩).trans ?_)
  exact Iff.rfl
theorem b291_46 {d : Nat} {G : PG} {M T : PH} {K : PV → PS → Prop} {l0 l1 : Int} : pm_Run d 291 46 [.inr (.inr (.inl l0)), .inl l1, PU, PU, PU] [] (G, M, T) K ↔ pm_Run d 291 50 [.inr (.inr (.inl l0)), .inl l1, .inl 0, .inl 1, PU] [] (G, M, T) K := by
  refine (px_go (by decide +kernel : pm_fe 291 46 = some (.iconst 0, 1)) rfl).trans ?_
  refine (px_go (by decide +kernel : pm_fe 291 47 = some (.istore_n 2, 1)) rfl).trans ?_
  refine (px_go (by decide +kernel : pm_fe 291 48 = some (.iconst 1, 1)) rfl).trans ?_
  refine (px_go (by decide +kernel : pm_fe 291 49 = some (.istore_n 3, 1)) rfl).trans ?_
  exact Iff.rfl
theorem b291_50 {d : Nat} {G : PG} {M T : PH} {K : PV → PS → Prop} {l0 l1 l2 l3 : Int} {l4 : PV} : pm_Run d 291 50 [.inr (.inr (.inl l0)), .inl l1, .inl l2, .inl l3, l4] [] (G, M, T) K ↔ if pm_sg l3 = 0 then pm_Run d 291 110 [.inr (.inr (.inl l0)), .inl l1, .inl l2, .inl l3, l4] [] (G, M, T) K else pm_Run d 291 54 [.inr (.inr (.inl l0)), .inl l1, .inl l2, .inl l3, l4] [] (G, M, T) K := by
  refine (px_go (by decide +kernel : pm_fe 291 50 = some (.iload_n 3, 1)) rfl).trans ?_
  refine (px_if_eq (off := 59) (tgt := 110) (by decide +kernel)).trans ?_
  exact Iff.rfl
theorem b291_54 {d : Nat} {G : PG} {M T : PH} {K : PV → PS → Prop} {l0 l1 l2 l3 : Int} {l4 : PV} : pm_Run d 291 54 [.inr (.inr (.inl l0)), .inl l1, .inl l2, .inl l3, l4] [] (G, M, T) K ↔ if pm_sg 12 ≤ pm_sg l2 then pm_Run d 291 110 [.inr (.inr (.inl l0)), .inl l1, .inl l2, .inl l3, l4] [] (G, M, T) K else pm_Run d 291 60 [.inr (.inr (.inl l0)), .inl l1, .inl l2, .inl l3, l4] [] (G, M, T) K := by
  refine (px_go (by decide +kernel : pm_fe 291 54 = some (.iload_n 2, 1)) rfl).trans ?_
  refine (px_go (by decide +kernel : pm_fe 291 55 = some (.bipush 12, 2)) rfl).trans ?_
  refine (px_ic_ge (off := 53) (tgt := 110) (by decide +kernel)).trans ?_
  exact Iff.rfl
theorem b291_60 {d : Nat} {G : PG} {M T : PH} {K : PV → PS → Prop} {l0 l1 l2 l3 : Int} {l4 : PV} : pm_Run d 291 60 [.inr (.inr (.inl l0)), .inl l1, .inl l2, .inl l3, l4] [] (G, M, T) K ↔ pm_Run d 291 68 [.inr (.inr (.inl l0)), .inl l1, .inl (l2 + 1), .inl 0, .inl 0] [] (G, M, T) K := by
  refine (px_go (by decide +kernel : pm_fe 291 60 = some (.iinc 2 1, 3)) rfl).trans ?_
  refine (px_go (by decide +kernel : pm_fe 291 63 = some (.iconst 0, 1)) rfl).trans ?_
  refine (px_go (by decide +kernel : pm_fe 291 64 = some (.istore_n 3, 1)) rfl).trans ?_
  refine (px_go (by decide +kernel : pm_fe 291 65 = some (.iconst 0, 1)) rfl).trans ?_
  refine (px_go (by decide +kernel : pm_fe 291 66 = some (.istore 4, 2)) rfl).trans ?_
  exact Iff.rfl
theorem b291_68 {d : Nat} {G : PG} {M T : PH} {K : PV → PS → Prop} {l0 l1 l2 l3 l4 : Int} (h1 : pm_ob G l0 12) (h2 : pm_ar G (T l0.toNat 19) 100 (M l0.toNat 13)) : pm_Run d 291 68 [.inr (.inr (.inl l0)), .inl l1, .inl l2, .inl l3, .inl l4] [] (G, M, T) K ↔ if pm_sg (M (T l0.toNat 19).toNat (pm_sg (M l0.toNat 13)).toNat) ≤ pm_sg l4 then pm_Run d 291 107 [.inr (.inr (.inl l0)), .inl l1, .inl l2, .inl l3, .inl l4] [] (G, M, T) K else pm_Run d 291 82 [.inr (.inr (.inl l0)), .inl l1, .inl l2, .inl l3, .inl l4] [] (G, M, T) K := by
  refine (px_go (by decide +kernel : pm_fe 291 68 = some (.iload 4, 2)) rfl).trans ?_
  refine (px_go (by decide +kernel : pm_fe 291 70 = some (.aload_n 0, 1)) rfl).trans ?_
  refine (px_get2 (idx := 69) (ci := 12) (k := 19) (by decide +kernel)).trans ((and_iff_right h1).trans ?_)
  refine (px_go (by decide +kernel : pm_fe 291 74 = some (.aload_n 0, 1)) rfl).trans ?_
  refine (px_get0 (idx := 51) (ci := 12) (k := 13) (by decide +kernel)).trans ((and_iff_right h1).trans ?_)
  refine (px_iaload (by decide +kernel) h2).trans ?_
  refine (px_ic_ge (off := 28) (tgt := 107) (by decide +kernel)).trans ?_
  exact Iff.rfl
theorem b291_82 {d : Nat} {G : PG} {M T : PH} {K : PV → PS → Prop} {l0 l1 l2 l3 l4 : Int} (h1 : pm_ob G l0 12) : pm_Run d 291 82 [.inr (.inr (.inl l0)), .inl l1, .inl l2, .inl l3, .inl l4] [] (G, M, T) K ↔ pm_Call d 290 [.inr (.inr (.inl l0)), .inl l4] (G, M, T) (fun r S1 => pm_Run d 291 88 [.inr (.inr (.inl l0)), .inl l1, .inl l2, .inl l3, .inl l4] (pm_push r []) S1 K) := by
  refine (px_go (by decide +kernel : pm_fe 291 82 = some (.aload_n 0, 1)) rfl).trans ?_
  refine (px_go (by decide +kernel : pm_fe 291 83 = some (.iload 4, 2)) rfl).trans ?_
  refine (px_v1 (idx := 602) (m' := 290) (ci := 12) (by decide +kernel)).trans ((and_iff_right ⟨h1, (by simp [pm_wl_n, pm_wl_c, pm_w] : pm_wl [] ≤ 8)⟩).trans ?_)
  exact Iff.rfl
theorem b291_88 {d : Nat} {G : PG} {M T : PH} {K : PV → PS → Prop} {l0 l1 l2 l3 l4 s0 : Int} : pm_Run d 291 88 [.inr (.inr (.inl l0)), .inl l1, .inl l2, .inl l3, .inl l4] [.inl s0] (G, M, T) K ↔ if pm_sg s0 ≠ 0 then pm_Run d 291 95 [.inr (.inr (.inl l0)), .inl l1, .inl l2, .inl l3, .inl l4] [] (G, M, T) K else pm_Run d 291 91 [.inr (.inr (.inl l0)), .inl l1, .inl l2, .inl l3, .inl l4] [] (G, M, T) K := by
  refine (px_if_ne (off := 7) (tgt := 95) (by decide +kernel)).trans ?_
  exact Iff.rfl
theorem b291_91 {d : Nat} {G : PG} {M T : PH} {K : PV → PS → Prop} {l0 l1 l2 l3 l4 : Int} : pm_Run d 291 91 [.inr (.inr (.inl l0)), .inl l1, .inl l2, .inl l3, .inl l4] [] (G, M, T) K ↔ if pm_sg l3 = 0 then pm_Run d 291 99 [.inr (.inr (.inl l0)), .inl l1, .inl l2, .inl l3, .inl l4] [] (G, M, T) K else pm_Run d 291 95 [.inr (.inr (.inl l0)), .inl l1, .inl l2, .inl l3, .inl l4] [] (G, M, T) K := by
  refine (px_go (by decide +kernel : pm_fe 291 91 = some (.iload_n 3, 1)) rfl).trans ?_
  refine (px_if_eq (off := 7) (tgt := 99) (by decide +kernel)).trans ?_
  exact Iff.rfl
theorem b291_95 {d : Nat} {G : PG} {M T : PH} {K : PV → PS → Prop} {l0 l1 l2 l3 l4 : Int} : pm_Run d 291 95 [.inr (.inr (.inl l0)), .inl l1, .inl l2, .inl l3, .inl l4] [] (G, M, T) K ↔ pm_Run d 291 100 [.inr (.inr (.inl l0)), .inl l1, .inl l2, .inl l3, .inl l4] [.inl 1] (G, M, T) K := by
  refine (px_go (by decide +kernel : pm_fe 291 95 = some (.iconst 1, 1)) rfl).trans ?_
  refine (px_goto (off := 4) (tgt := 100) (by decide +kernel)).trans ?_
  exact Iff.rfl
theorem b291_99 {d : Nat} {G : PG} {M T : PH} {K : PV → PS → Prop} {l0 l1 l2 l3 l4 : Int} : pm_Run d 291 99 [.inr (.inr (.inl l0)), .inl l1, .inl l2, .inl l3, .inl l4] [] (G, M, T) K ↔ pm_Run d 291 100 [.inr (.inr (.inl l0)), .inl l1, .inl l2, .inl l3, .inl l4] [.inl 0] (G, M, T) K := by
  refine (px_go (by decide +kernel : pm_fe 291 99 = some (.iconst 0, 1)) rfl).trans ?_
  exact Iff.rfl
theorem b291_100 {d : Nat} {G : PG} {M T : PH} {K : PV → PS → Prop} {l0 l1 l2 l3 l4 s0 : Int} : pm_Run d 291 100 [.inr (.inr (.inl l0)), .inl l1, .inl l2, .inl l3, .inl l4] [.inl s0] (G, M, T) K ↔ pm_Run d 291 68 [.inr (.inr (.inl l0)), .inl l1, .inl l2, .inl s0, .inl (l4 + 1)] [] (G, M, T) K := by
  refine (px_go (by decide +kernel : pm_fe 291 100 = some (.istore_n 3, 1)) rfl).trans ?_
  refine (px_go (by decide +kernel : pm_fe 291 101 = some (.iinc 4 1, 3)) rfl).trans ?_
  refine (px_goto (off := (-36)) (tgt := 68) (by decide +kernel)).trans ?_
  exact Iff.rfl
theorem b291_107 {d : Nat} {G : PG} {M T : PH} {K : PV → PS → Prop} {l0 l1 l2 l3 l4 : Int} : pm_Run d 291 107 [.inr (.inr (.inl l0)), .inl l1, .inl l2, .inl l3, .inl l4] [] (G, M, T) K ↔ pm_Run d 291 50 [.inr (.inr (.inl l0)), .inl l1, .inl l2, .inl l3, .inl l4] [] (G, M, T) K := by
  refine (px_goto (off := (-57)) (tgt := 50) (by decide +kernel)).trans ?_
  exact Iff.rfl
theorem b291_110 {d : Nat} {G : PG} {M T : PH} {K : PV → PS → Prop} {l0 l1 l2 l3 : Int} {l4 : PV} : pm_Run d 291 110 [.inr (.inr (.inl l0)), .inl l1, .inl l2, .inl l3, l4] [] (G, M, T) K ↔ if pm_sg l1 ≠ pm_sg (-1) then pm_Run d 291 128 [.inr (.inr (.inl l0)), .inl l1, .inl l2, .inl l3, l4] [] (G, M, T) K else pm_Run d 291 115 [.inr (.inr (.inl l0)), .inl l1, .inl l2, .inl l3, l4] [] (G, M, T) K := by
  refine (px_go (by decide +kernel : pm_fe 291 110 = some (.iload_n 1, 1)) rfl).trans ?_
  refine (px_go (by decide +kernel : pm_fe 291 111 = some (.iconst (-1), 1)) rfl).trans ?_
  refine (px_ic_ne (off := 16) (tgt := 128) (by decide +kernel)).trans ?_
  exact Iff.rfl
theorem b291_115 {d : Nat} {G : PG} {M T : PH} {K : PV → PS → Prop} {l0 l1 l2 l3 : Int} {l4 : PV} : pm_Run d 291 115 [.inr (.inr (.inl l0)), .inl l1, .inl l2, .inl l3, l4] [] (G, M, T) K ↔ if pm_sg l3 = 0 then pm_Run d 291 124 [.inr (.inr (.inl l0)), .inl l1, .inl l2, .inl l3, l4] [] (G, M, T) K else pm_Run d 291 119 [.inr (.inr (.inl l0)), .inl l1, .inl l2, .inl l3, l4] [] (G, M, T) K := by
  refine (px_go (by decide +kernel : pm_fe 291 115 = some (.iload_n 3, 1)) rfl).trans ?_
  refine (px_if_eq (off := 8) (tgt := 124) (by decide +kernel)).trans ?_
  exact Iff.rfl
theorem b291_119 {d : Nat} {G : PG} {M T : PH} {K : PV → PS → Prop} {l0 l1 l2 l3 : Int} {l4 : PV} : pm_Run d 291 119 [.inr (.inr (.inl l0)), .inl l1, .inl l2, .inl l3, l4] [] (G, M, T) K ↔ pm_Run d 291 147 [.inr (.inr (.inl l0)), .inl l1, .inl l2, .inl l3, l4] [.inl 13] (G, M, T) K := by
  refine (px_go (by decide +kernel : pm_fe 291 119 = some (.bipush 13, 2)) rfl).trans ?_
  refine (px_goto (off := 26) (tgt := 147) (by decide +kernel)).trans ?_
  exact Iff.rfl
theorem b291_124 {d : Nat} {G : PG} {M T : PH} {K : PV → PS → Prop} {l0 l1 l2 l3 : Int} {l4 : PV} : pm_Run d 291 124 [.inr (.inr (.inl l0)), .inl l1, .inl l2, .inl l3, l4] [] (G, M, T) K ↔ pm_Run d 291 147 [.inr (.inr (.inl l0)), .inl l1, .inl l2, .inl l3, l4] [.inl l2] (G, M, T) K := by
  refine (px_go (by decide +kernel : pm_fe 291 124 = some (.iload_n 2, 1)) rfl).trans ?_
  refine (px_goto (off := 22) (tgt := 147) (by decide +kernel)).trans ?_
  exact Iff.rfl
theorem b291_128 {d : Nat} {G : PG} {M T : PH} {K : PV → PS → Prop} {l0 l1 l2 l3 : Int} {l4 : PV} (h1 : pm_ob G l0 12) (h2 : pm_ar G (T l0.toNat 58) 100 ((24 + (3 * (pm_div l1 10))) + (pm_rem l1 10))) : pm_Run d 291 128 [.inr (.inr (.inl l0)), .inl l1, .inl l2, .inl l3, l4] [] (G, M, T) K ↔ pm_Run d 291 147 [.inr (.inr (.inl l0)), .inl l1, .inl l2, .inl l3, l4] [.inl (M (T l0.toNat 58).toNat (pm_sg ((24 + (3 * (pm_div l1 10))) + (pm_rem l1 10))).toNat)] (G, M, T) K := by
  refine (px_go (by decide +kernel : pm_fe 291 128 = some (.aload_n 0, 1)) rfl).trans ?_
  refine (px_get2 (idx := 189) (ci := 12) (k := 58) (by decide +kernel)).trans ((and_iff_right h1).trans ?_)
  refine (px_go (by decide +kernel : pm_fe 291 132 = some (.bipush 24, 2)) rfl).trans ?_
  refine (px_go (by decide +kernel : pm_fe 291 134 = some (.iconst 3, 1)) rfl).trans ?_
  refine (px_go (by decide +kernel : pm_fe 291 135 = some (.iload_n 1, 1)) rfl).trans ?_
  refine (px_go (by decide +kernel : pm_fe 291 136 = some (.bipush 10, 2)) rfl).trans ?_
  refine (px_idiv (by decide +kernel)).trans ((and_iff_right (by decide : pm_sg (10 : Int) ≠ (0 : Int))).trans ?_)
  refine (px_go (by decide +kernel : pm_fe 291 139 = some (.imul, 1)) rfl).trans ?_
  refine (px_go (by decide +kernel : pm_fe 291 140 = some (.iadd, 1)) rfl).trans ?_
  refine (px_go (by decide +kernel : pm_fe 291 141 = some (.iload_n 1, 1)) rfl).trans ?_
  refine (px_go (by decide +kernel : pm_fe 291 142 = some (.bipush 10, 2)) rfl).trans ?_
  refine (px_irem (by decide +kernel)).trans ((and_iff_right (by decide : pm_sg (10 : Int) ≠ (0 : Int))).trans ?_)
  refine (px_go (by decide +kernel : pm_fe 291 145 = some (.iadd, 1)) rfl).trans ?_
  refine (px_iaload (by decide +kernel) h2).trans ?_
  exact Iff.rfl
theorem b291_147 {d : Nat} {G : PG} {M T : PH} {K : PV → PS → Prop} {l0 l1 l2 l3 s0 : Int} {l4 : PV} : pm_Run d 291 147 [.inr (.inr (.inl l0)), .inl l1, .inl l2, .inl l3, l4] [.inl s0] (G, M, T) K ↔ K (.inl s0) (G, M, T) := by
  refine (px_ri (by decide +kernel)).trans ?_
  exact Iff.rfl
-- X12_looksAhead looksAhead()V
theorem en292 {d : Nat} {a : Int} {S : PS} {K : PV → PS → Prop} : pm_Call (d + 1) 292 [.inr (.inr (.inl a))] S K ↔ pm_Run d 292 0 [.inr (.inr (.inl a)), PU, PU] [] S K := pm_Call_s.trans (and_iff_right (show 1 ≤ pm_ml 292 from by decide +kernel))
theorem b292_0 {d : Nat} {G : PG} {M T : PH} {K : PV → PS → Prop} {l0 : Int} (h1 : pm_ob G l0 12) : pm_Run d 292 0 [.inr (.inr (.inl l0)), PU, PU] [] (G, M, T) K ↔ pm_Call d 232 [.inr (.inr (.inl l0)), .inl 1, .inl 0] (G, M, T) (fun r S1 => pm_Run d 292 6 [.inr (.inr (.inl l0)), PU, PU] (pm_push r []) S1 K) := by
  refine (px_go (by decide +kernel : pm_fe 292 0 = some (.aload_n 0, 1)) rfl).trans ?_
  refine (px_go (by decide +kernel : pm_fe 292 1 = some (.iconst 1, 1)) rfl).trans ?_
  refine (px_go (by decide +kernel : pm_fe 292 2 = some (.iconst 0, 1)) rfl).trans ?_
  refine (px_v2 (idx := 445) (m' := 232) (ci := 12) (by decide +kernel)).trans ((and_iff_right ⟨h1, (by simp [pm_wl_n, pm_wl_c, pm_w] : pm_wl [] ≤ 8)⟩).trans ?_)
  exact Iff.rfl
theorem b292_6 {d : Nat} {G : PG} {M T : PH} {K : PV → PS → Prop} {l0 : Int} : pm_Run d 292 6 [.inr (.inr (.inl l0)), PU, PU] [] (G, M, T) K ↔ pm_Run d 292 8 [.inr (.inr (.inl l0)), .inl 0, PU] [] (G, M, T) K := by
  refine (px_go (by decide +kernel : pm_fe 292 6 = some (.iconst 0, 1)) rfl).trans ?_
  refine (px_go (by decide +kernel : pm_fe 292 7 = some (.istore_n 1, 1)) rfl).trans ?_
  exact Iff.rfl
theorem b292_8 {d : Nat} {G : PG} {M T : PH} {K : PV → PS → Prop} {l0 l1 : Int} {l2 : PV} (h1 : pm_ob G l0 12) : pm_Run d 292 8 [.inr (.inr (.inl l0)), .inl l1, l2] [] (G, M, T) K ↔ pm_Call d 258 [.inr (.inr (.inl l0))] (G, M, T) (fun r S1 => pm_Run d 292 13 [.inr (.inr (.inl l0)), .inl l1, l2] (pm_push r [.inl l1]) S1 K) := by
  refine (px_go (by decide +kernel : pm_fe 292 8 = some (.iload_n 1, 1)) rfl).trans ?_
  refine (px_go (by decide +kernel : pm_fe 292 9 = some (.aload_n 0, 1)) rfl).trans ?_
  refine (px_v0 (idx := 526) (m' := 258) (ci := 12) (by decide +kernel)).trans ((and_iff_right ⟨h1, (by simp [pm_wl_n, pm_wl_c, pm_w] : pm_wl [.inl l1] ≤ 8)⟩).trans ?_)
  exact Iff.rfl
theorem b292_13 {d : Nat} {G : PG} {M T : PH} {K : PV → PS → Prop} {l0 l1 s0 s1 : Int} {l2 : PV} : pm_Run d 292 13 [.inr (.inr (.inl l0)), .inl l1, l2] [.inl s0, .inl s1] (G, M, T) K ↔ if pm_sg s0 < pm_sg s1 then pm_Run d 292 70 [.inr (.inr (.inl l0)), .inl l1, l2] [] (G, M, T) K else pm_Run d 292 16 [.inr (.inr (.inl l0)), .inl l1, l2] [] (G, M, T) K := by
  refine (px_ic_gt (off := 57) (tgt := 70) (by decide +kernel)).trans ?_
  exact Iff.rfl
theorem b292_16 {d : Nat} {G : PG} {M T : PH} {K : PV → PS → Prop} {l0 l1 : Int} {l2 : PV} (h1 : pm_ob G l0 12) : pm_Run d 292 16 [.inr (.inr (.inl l0)), .inl l1, l2] [] (G, M, T) K ↔ pm_Call d 255 [.inr (.inr (.inl l0)), .inl 1] (G, M, T) (fun r S1 => pm_Run d 292 21 [.inr (.inr (.inl l0)), .inl l1, l2] (pm_push r []) S1 K) := by
  refine (px_go (by decide +kernel : pm_fe 292 16 = some (.aload_n 0, 1)) rfl).trans ?_
  refine (px_go (by decide +kernel : pm_fe 292 17 = some (.iconst 1, 1)) rfl).trans ?_
  refine (px_v1 (idx := 513) (m' := 255) (ci := 12) (by decide +kernel)).trans ((and_iff_right ⟨h1, (by simp [pm_wl_n, pm_wl_c, pm_w] : pm_wl [] ≤ 8)⟩).trans ?_)
  exact Iff.rfl
theorem b292_21 {d : Nat} {G : PG} {M T : PH} {K : PV → PS → Prop} {l0 l1 : Int} {l2 : PV} : pm_Run d 292 21 [.inr (.inr (.inl l0)), .inl l1, l2] [] (G, M, T) K ↔ pm_Run d 292 23 [.inr (.inr (.inl l0)), .inl l1, .inl 0] [] (G, M, T) K := by
  refine (px_go (by decide +kernel : pm_fe 292 21 = some (.iconst 0, 1)) rfl).trans ?_
  refine (px_go (by decide +kernel : pm_fe 292 22 = some (.istore_n 2, 1)) rfl).trans ?_
  exact Iff.rfl
theorem b292_23 {d : Nat} {G : PG} {M T : PH} {K : PV → PS → Prop} {l0 l1 l2 : Int} (h1 : pm_ob G l0 12) (h2 : pm_ar G (T l0.toNat 14) 100 (M l0.toNat 13)) : pm_Run d 292 23 [.inr (.inr (.inl l0)), .inl l1, .inl l2] [] (G, M, T) K ↔ if pm_sg (M (T l0.toNat 14).toNat (pm_sg (M l0.toNat 13)).toNat) ≤ pm_sg l2 then pm_Run d 292 59 [.inr (.inr (.inl l0)), .inl l1, .inl l2] [] (G, M, T) K else pm_Run d 292 36 [.inr (.inr (.inl l0)), .inl l1, .inl l2] [] (G, M, T) K := by
  refine (px_go (by decide +kernel : pm_fe 292 23 = some (.iload_n 2, 1)) rfl).trans ?_
  refine (px_go (by decide +kernel : pm_fe 292 24 = some (.aload_n 0, 1)) rfl).trans ?_
  refine (px_get2 (idx := 54) (ci := 12) (k := 14) (by decide +kernel)).trans ((and_iff_right h1).trans ?_)
  refine (px_go (by decide +kernel : pm_fe 292 28 = some (.aload_n 0, 1)) rfl).trans ?_
  refine (px_get0 (idx := 51) (ci := 12) (k := 13) (by decide +kernel)).trans ((and_iff_right h1).trans ?_)
  refine (px_iaload (by decide +kernel) h2).trans ?_
  refine (px_ic_ge (off := 26) (tgt := 59) (by decide +kernel)).trans ?_
  exact Iff.rfl
theorem b292_36 {d : Nat} {G : PG} {M T : PH} {K : PV → PS → Prop} {l0 l1 l2 : Int} (h1 : pm_ob G l0 12) (h2 : pm_ar G (T l0.toNat 68) 100 l2) (h3 : pm_ar G (T l0.toNat 70) 100 ((24 * l1) + l2)) : pm_Run d 292 36 [.inr (.inr (.inl l0)), .inl l1, .inl l2] [] (G, M, T) K ↔ pm_Run d 292 23 [.inr (.inr (.inl l0)), .inl l1, .inl (l2 + 1)] [] (G, pm_sa M (T l0.toNat 70).toNat (pm_up (M (T l0.toNat 70).toNat) (pm_sg ((24 * l1) + l2)).toNat (M (T l0.toNat 68).toNat (pm_sg l2).toNat)), T) K := by
  refine (px_go (by decide +kernel : pm_fe 292 36 = some (.aload_n 0, 1)) rfl).trans ?_
  refine (px_get2 (idx := 225) (ci := 12) (k := 70) (by decide +kernel)).trans ((and_iff_right h1).trans ?_)
  refine (px_go (by decide +kernel : pm_fe 292 40 = some (.bipush 24, 2)) rfl).trans ?_
  refine (px_go (by decide +kernel : pm_fe 292 42 = some (.iload_n 1, 1)) rfl).trans ?_
  refine (px_go (by decide +kernel : pm_fe 292 43 = some (.imul, 1)) rfl).trans ?_
  refine (px_go (by decide +kernel : pm_fe 292 44 = some (.iload_n 2, 1)) rfl).trans ?_
  refine (px_go (by decide +kernel : pm_fe 292 45 = some (.iadd, 1)) rfl).trans ?_
  refine (px_go (by decide +kernel : pm_fe 292 46 = some (.aload_n 0, 1)) rfl).trans ?_
  refine (px_get2 (idx := 219) (ci := 12) (k := 68) (by decide +kernel)).trans ((and_iff_right h1).trans ?_)
  refine (px_go (by decide +kernel : pm_fe 292 50 = some (.iload_n 2, 1)) rfl).trans ?_
  refine (px_iaload (by decide +kernel) h2).trans ?_
  refine (px_iastore (by decide +kernel)).trans ((and_iff_right h3).trans ?_)
  refine (px_go (by decide +kernel : pm_fe 292 53 = some (.iinc 2 1, 3)) rfl).trans ?_
  refine (px_goto (off := (-33)) (tgt := 23) (by decide +kernel)).trans ?_
  exact Iff.rfl
theorem b292_59 {d : Nat} {G : PG} {M T : PH} {K : PV → PS → Prop} {l0 l1 l2 : Int} (h1 : pm_ob G l0 12) : pm_Run d 292 59 [.inr (.inr (.inl l0)), .inl l1, .inl l2] [] (G, M, T) K ↔ pm_Call d 257 [.inr (.inr (.inl l0)), .inl 1] (G, M, T) (fun r S1 => pm_Run d 292 64 [.inr (.inr (.inl l0)), .inl l1, .inl l2] (pm_push r []) S1 K) := by
  refine (px_go (by decide +kernel : pm_fe 292 59 = some (.aload_n 0, 1)) rfl).trans ?_
  refine (px_go (by decide +kernel : pm_fe 292 60 = some (.iconst 1, 1)) rfl).trans ?_
  refine (px_v1 (idx := 530) (m' := 257) (ci := 12) (by decide +kernel)).trans ((and_iff_right ⟨h1, (by simp [pm_wl_n, pm_wl_c, pm_w] : pm_wl [] ≤ 8)⟩).trans ?_)
  exact Iff.rfl
theorem b292_64 {d : Nat} {G : PG} {M T : PH} {K : PV → PS → Prop} {l0 l1 l2 : Int} : pm_Run d 292 64 [.inr (.inr (.inl l0)), .inl l1, .inl l2] [] (G, M, T) K ↔ pm_Run d 292 8 [.inr (.inr (.inl l0)), .inl (l1 + 1), .inl l2] [] (G, M, T) K := by
  refine (px_go (by decide +kernel : pm_fe 292 64 = some (.iinc 1 1, 3)) rfl).trans ?_
  refine (px_goto (off := (-59)) (tgt := 8) (by decide +kernel)).trans ?_
  exact Iff.rfl
theorem b292_70 {d : Nat} {G : PG} {M T : PH} {K : PV → PS → Prop} {l0 l1 : Int} {l2 : PV} : pm_Run d 292 70 [.inr (.inr (.inl l0)), .inl l1, l2] [] (G, M, T) K ↔ K PU (G, M, T) := by
  refine (px_rv (by decide +kernel)).trans ?_
  exact Iff.rfl
-- X12_there there(IIII)I
theorem en293 {d : Nat} {a p0 p1 p2 p3 : Int} {S : PS} {K : PV → PS → Prop} : pm_Call (d + 1) 293 [.inr (.inr (.inl a)), .inl p0, .inl p1, .inl p2, .inl p3] S K ↔ pm_Run d 293 0 [.inr (.inr (.inl a)), .inl p0, .inl p1, .inl p2, .inl p3, PU, PU, PU, PU, PU, PU] [] S K := pm_Call_s.trans (and_iff_right (show 5 ≤ pm_ml 293 from by decide +kernel))
theorem b293_0 {d : Nat} {G : PG} {M T : PH} {K : PV → PS → Prop} {l0 l1 l2 l3 l4 : Int} (h1 : pm_ob G l0 12) (h2 : pm_ar G (T l0.toNat 70) 100 ((24 * l4) + l1)) : pm_Run d 293 0 [.inr (.inr (.inl l0)), .inl l1, .inl l2, .inl l3, .inl l4, PU, PU, PU, PU, PU, PU] [] (G, M, T) K ↔ if pm_sg l3 ≤ pm_sg (M (T l0.toNat 70).toNat (pm_sg ((24 * l4) + l1)).toNat) then pm_Run d 293 18 [.inr (.inr (.inl l0)), .inl l1, .inl l2, .inl l3, .inl l4, PU, PU, PU, PU, PU, PU] [] (G, M, T) K else pm_Run d 293 16 [.inr (.inr (.inl l0)), .inl l1, .inl l2, .inl l3, .inl l4, PU, PU, PU, PU, PU, PU] [] (G, M, T) K := by
  refine (px_go (by decide +kernel : pm_fe 293 0 = some (.aload_n 0, 1)) rfl).trans ?_
  refine (px_get2 (idx := 225) (ci := 12) (k := 70) (by decide +kernel)).trans ((and_iff_right h1).trans ?_)
  refine (px_go (by decide +kernel : pm_fe 293 4 = some (.bipush 24, 2)) rfl).trans ?_
  refine (px_go (by decide +kernel : pm_fe 293 6 = some (.iload 4, 2)) rfl).trans ?_
  refine (px_go (by decide +kernel : pm_fe 293 8 = some (.imul, 1)) rfl).trans ?_
  refine (px_go (by decide +kernel : pm_fe 293 9 = some (.iload_n 1, 1)) rfl).trans ?_
  refine (px_go (by decide +kernel : pm_fe 293 10 = some (.iadd, 1)) rfl).trans ?_
  refine (px_iaload (by decide +kernel) h2).trans ?_
  refine (px_go (by decide +kernel : pm_fe 293 12 = some (.iload_n 3, 1)) rfl).trans ?_
  refine (px_ic_ge (off := 5) (tgt := 18) (by decide +kernel)).trans ?_
  exact Iff.rfl
theorem b293_16 {d : Nat} {G : PG} {M T : PH} {K : PV → PS → Prop} {l0 l1 l2 l3 l4 : Int} : pm_Run d 293 16 [.inr (.inr (.inl l0)), .inl l1, .inl l2, .inl l3, .inl l4, PU, PU, PU, PU, PU, PU] [] (G, M, T) K ↔ K (.inl (-1)) (G, M, T) := by
  refine (px_go (by decide +kernel : pm_fe 293 16 = some (.iconst (-1), 1)) rfl).trans ?_
  refine (px_ri (by decide +kernel)).trans ?_
  exact Iff.rfl
theorem b293_18 {d : Nat} {G : PG} {M T : PH} {K : PV → PS → Prop} {l0 l1 l2 l3 l4 : Int} (h1 : pm_ob G l0 12) (h2 : pm_ar G (T l0.toNat 14) 100 (M l0.toNat 13)) : pm_Run d 293 18 [.inr (.inr (.inl l0)), .inl l1, .inl l2, .inl l3, .inl l4, PU, PU, PU, PU, PU, PU] [] (G, M, T) K ↔ pm_Run d 293 38 [.inr (.inr (.inl l0)), .inl l1, .inl l2, .inl l3, .inl l4, .inl (pm_shl 1 l1), .inl (M (T l0.toNat 14).toNat (pm_sg (M l0.toNat 13)).toNat), .inl l4, PU, PU, PU] [] (G, M, T) K := by
  refine (px_go (by decide +kernel : pm_fe 293 18 = some (.iconst 1, 1)) rfl).trans ?_
  refine (px_go (by decide +kernel : pm_fe 293 19 = some (.iload_n 1, 1)) rfl).trans ?_
  refine (px_go (by decide +kernel : pm_fe 293 20 = some (.ishl, 1)) rfl).trans ?_
  refine (px_go (by decide +kernel : pm_fe 293 21 = some (.istore 5, 2)) rfl).trans ?_
  refine (px_go (by decide +kernel : pm_fe 293 23 = some (.aload_n 0, 1)) rfl).trans ?_
  refine (px_get2 (idx := 54) (ci := 12) (k := 14) (by decide +kernel)).trans ((and_iff_right h1).trans ?_)
  refine (px_go (by decide +kernel : pm_fe 293 27 = some (.aload_n 0, 1)) rfl).trans ?_
  refine (px_get0 (idx := 51) (ci := 12) (k := 13) (by decide +kernel)).trans ((and_iff_right h1).trans ?_)
  refine (px_iaload (by decide +kernel) h2).trans ?_
  refine (px_go (by decide +kernel : pm_fe 293 32 = some (.istore 6, 2)) rfl).trans ?_
  refine (px_go (by decide +kernel : pm_fe 293 34 = some (.iload 4, 2)) rfl).trans ?_
  refine (px_go (by decide +kernel : pm_fe 293 36 = some (.istore 7, 2)) rfl).trans ?_
  exact Iff.rfl
theorem b293_38 {d : Nat} {G : PG} {M T : PH} {K : PV → PS → Prop} {l0 l1 l2 l3 l4 l5 l6 l7 : Int} {l8 l9 l10 : PV} (h1 : pm_ob G l0 12) : pm_Run d 293 38 [.inr (.inr (.inl l0)), .inl l1, .inl l2, .inl l3, .inl l4, .inl l5, .inl l6, .inl l7, l8, l9, l10] [] (G, M, T) K ↔ pm_Call d 258 [.inr (.inr (.inl l0))] (G, M, T) (fun r S1 => pm_Run d 293 44 [.inr (.inr (.inl l0)), .inl l1, .inl l2, .inl l3, .inl l4, .inl l5, .inl l6, .inl l7, l8, l9, l10] (pm_push r [.inl l7]) S1 K) := by
  refine (px_go (by decide +kernel : pm_fe 293 38 = some (.iload 7, 2)) rfl).trans ?_
  refine (px_go (by decide +kernel : pm_fe 293 40 = some (.aload_n 0, 1)) rfl).trans ?_
  refine (px_v0 (idx := 526) (m' := 258) (ci := 12) (by decide +kernel)).trans ((and_iff_right ⟨h1, (by simp [pm_wl_n, pm_wl_c, pm_w] : pm_wl [.inl l7] ≤ 8)⟩).trans ?_)
  exact Iff.rfl
theorem b293_44 {d : Nat} {G : PG} {M T : PH} {K : PV → PS → Prop} {l0 l1 l2 l3 l4 l5 l6 l7 s0 s1 : Int} {l8 l9 l10 : PV} : pm_Run d 293 44 [.inr (.inr (.inl l0)), .inl l1, .inl l2, .inl l3, .inl l4, .inl l5, .inl l6, .inl l7, l8, l9, l10] [.inl s0, .inl s1] (G, M, T) K ↔ if pm_sg s0 < pm_sg s1 then pm_Run d 293 188 [.inr (.inr (.inl l0)), .inl l1, .inl l2, .inl l3, .inl l4, .inl l5, .inl l6, .inl l7, l8, l9, l10] [] (G, M, T) K else pm_Run d 293 47 [.inr (.inr (.inl l0)), .inl l1, .inl l2, .inl l3, .inl l4, .inl l5, .inl l6, .inl l7, l8, l9, l10] [] (G, M, T) K := by
  refine (px_ic_gt (off := 144) (tgt := 188) (by decide +kernel)).trans ?_
  exact Iff.rfl
theorem b293_47 {d : Nat} {G : PG} {M T : PH} {K : PV → PS → Prop} {l0 l1 l2 l3 l4 l5 l6 l7 : Int} {l8 l9 l10 : PV} : pm_Run d 293 47 [.inr (.inr (.inl l0)), .inl l1, .inl l2, .inl l3, .inl l4, .inl l5, .inl l6, .inl l7, l8, l9, l10] [] (G, M, T) K ↔ if pm_sg (pm_and (pm_shr l5 l2) 1) ≠ pm_sg 1 then pm_Run d 293 60 [.inr (.inr (.inl l0)), .inl l1, .inl l2, .inl l3, .inl l4, .inl l5, .inl l6, .inl l7, l8, l9, l10] [] (G, M, T) K else pm_Run d 293 57 [.inr (.inr (.inl l0)), .inl l1, .inl l2, .inl l3, .inl l4, .inl l5, .inl l6, .inl l7, l8, l9, l10] [] (G, M, T) K := by
  refine (px_go (by decide +kernel : pm_fe 293 47 = some (.iload 5, 2)) rfl).trans ?_
  refine (px_go (by decide +kernel : pm_fe 293 49 = some (.iload_n 2, 1)) rfl).trans ?_
  refine (px_go (by decide +kernel : pm_fe 293 50 = some (.ishr, 1)) rfl).trans ?_
  refine (px_go (by decide +kernel : pm_fe 293 51 = some (.iconst 1, 1)) rfl).trans ?_
  refine (px_go (by decide +kernel : pm_fe 293 52 = some (.iand, 1)) rfl).trans ?_
  refine (px_go (by decide +kernel : pm_fe 293 53 = some (.iconst 1, 1)) rfl).trans ?_
  refine (px_ic_ne (off := 6) (tgt := 60) (by decide +kernel)).trans ?_
  exact Iff.rfl
theorem b293_57 {d : Nat} {G : PG} {M T : PH} {K : PV → PS → Prop} {l0 l1 l2 l3 l4 l5 l6 l7 : Int} {l8 l9 l10 : PV} : pm_Run d 293 57 [.inr (.inr (.inl l0)), .inl l1, .inl l2, .inl l3, .inl l4, .inl l5, .inl l6, .inl l7, l8, l9, l10] [] (G, M, T) K ↔ K (.inl l7) (G, M, T) := by
  refine (px_go (by decide +kernel : pm_fe 293 57 = some (.iload 7, 2)) rfl).trans ?_
  refine (px_ri (by decide +kernel)).trans ?_
  exact Iff.rfl
theorem b293_60 {d : Nat} {G : PG} {M T : PH} {K : PV → PS → Prop} {l0 l1 l2 l3 l4 l5 l6 l7 : Int} {l8 l9 l10 : PV} : pm_Run d 293 60 [.inr (.inr (.inl l0)), .inl l1, .inl l2, .inl l3, .inl l4, .inl l5, .inl l6, .inl l7, l8, l9, l10] [] (G, M, T) K ↔ pm_Run d 293 66 [.inr (.inr (.inl l0)), .inl l1, .inl l2, .inl l3, .inl l4, .inl l5, .inl l6, .inl l7, .inl 0, .inl 0, l10] [] (G, M, T) K := by
  refine (px_go (by decide +kernel : pm_fe 293 60 = some (.iconst 0, 1)) rfl).trans ?_
  refine (px_go (by decide +kernel : pm_fe 293 61 = some (.istore 8, 2)) rfl).trans ?_
  refine (px_go (by decide +kernel : pm_fe 293 63 = some (.iconst 0, 1)) rfl).trans ?_
  refine (px_go (by decide +kernel : pm_fe 293 64 = some (.istore 9, 2)) rfl).trans ?_
  exact Iff.rfl
theorem b293_66 {d : Nat} {G : PG} {M T : PH} {K : PV → PS → Prop} {l0 l1 l2 l3 l4 l5 l6 l7 l8 l9 : Int} {l10 : PV} : pm_Run d 293 66 [.inr (.inr (.inl l0)), .inl l1, .inl l2, .inl l3, .inl l4, .inl l5, .inl l6, .inl l7, .inl l8, .inl l9, l10] [] (G, M, T) K ↔ if pm_sg l6 ≤ pm_sg l9 then pm_Run d 293 178 [.inr (.inr (.inl l0)), .inl l1, .inl l2, .inl l3, .inl l4, .inl l5, .inl l6, .inl l7, .inl l8, .inl l9, l10] [] (G, M, T) K else pm_Run d 293 73 [.inr (.inr (.inl l0)), .inl l1, .inl l2, .inl l3, .inl l4, .inl l5, .inl l6, .inl l7, .inl l8, .inl l9, l10] [] (G, M, T) K := by
  refine (px_go (by decide +kernel : pm_fe 293 66 = some (.iload 9, 2)) rfl).trans ?_
  refine (px_go (by decide +kernel : pm_fe 293 68 = some (.iload 6, 2)) rfl).trans ?_
  refine (px_ic_ge (off := 108) (tgt := 178) (by decide +kernel)).trans ?_
  exact Iff.rfl
theorem b293_73 {d : Nat} {G : PG} {M T : PH} {K : PV → PS → Prop} {l0 l1 l2 l3 l4 l5 l6 l7 l8 l9 : Int} {l10 : PV} (h1 : pm_ob G l0 12) : pm_Run d 293 73 [.inr (.inr (.inl l0)), .inl l1, .inl l2, .inl l3, .inl l4, .inl l5, .inl l6, .inl l7, .inl l8, .inl l9, l10] [] (G, M, T) K ↔ pm_Call d 258 [.inr (.inr (.inl l0))] (G, M, T) (fun r S1 => pm_Run d 293 79 [.inr (.inr (.inl l0)), .inl l1, .inl l2, .inl l3, .inl l4, .inl l5, .inl l6, .inl l7, .inl l8, .inl l9, l10] (pm_push r [.inl l7]) S1 K) := by
  refine (px_go (by decide +kernel : pm_fe 293 73 = some (.iload 7, 2)) rfl).trans ?_
  refine (px_go (by decide +kernel : pm_fe 293 75 = some (.aload_n 0, 1)) rfl).trans ?_
  refine (px_v0 (idx := 526) (m' := 258) (ci := 12) (by decide +kernel)).trans ((and_iff_right ⟨h1, (by simp [pm_wl_n, pm_wl_c, pm_w] : pm_wl [.inl l7] ≤ 8)⟩).trans ?_)
  exact Iff.rfl
theorem b293_79 {d : Nat} {G : PG} {M T : PH} {K : PV → PS → Prop} {l0 l1 l2 l3 l4 l5 l6 l7 l8 l9 s0 s1 : Int} {l10 : PV} : pm_Run d 293 79 [.inr (.inr (.inl l0)), .inl l1, .inl l2, .inl l3, .inl l4, .inl l5, .inl l6, .inl l7, .inl l8, .inl l9, l10] [.inl s0, .inl s1] (G, M, T) K ↔ if pm_sg s0 ≤ pm_sg s1 then pm_Run d 293 178 [.inr (.inr (.inl l0)), .inl l1, .inl l2, .inl l3, .inl l4, .inl l5, .inl l6, .inl l7, .inl l8, .inl l9, l10] [] (G, M, T) K else pm_Run d 293 82 [.inr (.inr (.inl l0)), .inl l1, .inl l2, .inl l3, .inl l4, .inl l5, .inl l6, .inl l7, .inl l8, .inl l9, l10] [] (G, M, T) K := by
  refine (px_ic_ge (off := 99) (tgt := 178) (by decide +kernel)).trans ?_
  exact Iff.rfl
theorem b293_82 {d : Nat} {G : PG} {M T : PH} {K : PV → PS → Prop} {l0 l1 l2 l3 l4 l5 l6 l7 l8 l9 : Int} {l10 : PV} : pm_Run d 293 82 [.inr (.inr (.inl l0)), .inl l1, .inl l2, .inl l3, .inl l4, .inl l5, .inl l6, .inl l7, .inl l8, .inl l9, l10] [] (G, M, T) K ↔ if pm_sg (pm_and (pm_shr l5 l9) 1) = pm_sg 1 then pm_Run d 293 128 [.inr (.inr (.inl l0)), .inl l1, .inl l2, .inl l3, .inl l4, .inl l5, .inl l6, .inl l7, .inl l8, .inl l9, l10] [] (G, M, T) K else pm_Run d 293 93 [.inr (.inr (.inl l0)), .inl l1, .inl l2, .inl l3, .inl l4, .inl l5, .inl l6, .inl l7, .inl l8, .inl l9, l10] [] (G, M, T) K := by
  refine (px_go (by decide +kernel : pm_fe 293 82 = some (.iload 5, 2)) rfl).trans ?_
  refine (px_go (by decide +kernel : pm_fe 293 84 = some (.iload 9, 2)) rfl).trans ?_
  refine (px_go (by decide +kernel : pm_fe 293 86 = some (.ishr, 1)) rfl).trans ?_
  refine (px_go (by decide +kernel : pm_fe 293 87 = some (.iconst 1, 1)) rfl).trans ?_
  refine (px_go (by decide +kernel : pm_fe 293 88 = some (.iand, 1)) rfl).trans ?_
  refine (px_go (by decide +kernel : pm_fe 293 89 = some (.iconst 1, 1)) rfl).trans ?_
  refine (px_ic_eq (off := 38) (tgt := 128) (by decide +kernel)).trans ?_
  exact Iff.rfl
theorem b293_93 {d : Nat} {G : PG} {M T : PH} {K : PV → PS → Prop} {l0 l1 l2 l3 l4 l5 l6 l7 l8 l9 : Int} {l10 : PV} (h1 : pm_sg l6 ≠ 0) : pm_Run d 293 93 [.inr (.inr (.inl l0)), .inl l1, .inl l2, .inl l3, .inl l4, .inl l5, .inl l6, .inl l7, .inl l8, .inl l9, l10] [] (G, M, T) K ↔ if pm_sg (pm_and (pm_shr l5 (pm_rem (l9 + 1) l6)) 1) = pm_sg 1 then pm_Run d 293 128 [.inr (.inr (.inl l0)), .inl l1, .inl l2, .inl l3, .inl l4, .inl l5, .inl l6, .inl l7, .inl l8, .inl l9, l10] [] (G, M, T) K else pm_Run d 293 109 [.inr (.inr (.inl l0)), .inl l1, .inl l2, .inl l3, .inl l4, .inl l5, .inl l6, .inl l7, .inl l8, .inl l9, l10] [] (G, M, T) K := by
  refine (px_go (by decide +kernel : pm_fe 293 93 = some (.iload 5, 2)) rfl).trans ?_
  refine (px_go (by decide +kernel : pm_fe 293 95 = some (.iload 9, 2)) rfl).trans ?_
  refine (px_go (by decide +kernel : pm_fe 293 97 = some (.iconst 1, 1)) rfl).trans ?_
  refine (px_go (by decide +kernel : pm_fe 293 98 = some (.iadd, 1)) rfl).trans ?_
  refine (px_go (by decide +kernel : pm_fe 293 99 = some (.iload 6, 2)) rfl).trans ?_
  refine (px_irem (by decide +kernel)).trans ((and_iff_right h1).trans ?_)
  refine (px_go (by decide +kernel : pm_fe 293 102 = some (.ishr, 1)) rfl).trans ?_
  refine (px_go (by decide +kernel : pm_fe 293 103 = some (.iconst 1, 1)) rfl).trans ?_
  refine (px_go (by decide +kernel : pm_fe 293 104 = some (.iand, 1)) rfl).trans ?_
  refine (px_go (by decide +kernel : pm_fe 293 105 = some (.iconst 1, 1)) rfl).trans ?_
  refine (px_ic_eq (off := 22) (tgt := 128) (by decide +kernel)).trans ?_
  exact Iff.rfl
theorem b293_109 {d : Nat} {G : PG} {M T : PH} {K : PV → PS → Prop} {l0 l1 l2 l3 l4 l5 l6 l7 l8 l9 : Int} {l10 : PV} (h1 : pm_sg l6 ≠ 0) : pm_Run d 293 109 [.inr (.inr (.inl l0)), .inl l1, .inl l2, .inl l3, .inl l4, .inl l5, .inl l6, .inl l7, .inl l8, .inl l9, l10] [] (G, M, T) K ↔ if pm_sg (pm_and (pm_shr l5 (pm_rem ((l9 + l6) - 1) l6)) 1) ≠ pm_sg 1 then pm_Run d 293 132 [.inr (.inr (.inl l0)), .inl l1, .inl l2, .inl l3, .inl l4, .inl l5, .inl l6, .inl l7, .inl l8, .inl l9, l10] [] (G, M, T) K else pm_Run d 293 128 [.inr (.inr (.inl l0)), .inl l1, .inl l2, .inl l3, .inl l4, .inl l5, .inl l6, .inl l7, .inl l8, .inl l9, l10] [] (G, M, T) K := by
  refine (px_go (by decide +kernel : pm_fe 293 109 = some (.iload 5, 2)) rfl).trans ?_
  refine (px_go (by decide +kernel : pm_fe 293 111 = some (.iload 9, 2)) rfl).trans ?_
  refine (px_go (by decide +kernel : pm_fe 293 113 = some (.iload 6, 2)) rfl).trans ?_
  refine (px_go (by decide +kernel : pm_fe 293 115 = some (.iadd, 1)) rfl).trans ?_
  refine (px_go (by decide +kernel : pm_fe 293 116 = some (.iconst 1, 1)) rfl).trans ?_
  refine (px_go (by decide +kernel : pm_fe 293 117 = some (.isub, 1)) rfl).trans ?_
  refine (px_go (by decide +kernel : pm_fe 293 118 = some (.iload 6, 2)) rfl).trans ?_
  refine (px_irem (by decide +kernel)).trans ((and_iff_right h1).trans ?_)
  refine (px_go (by decide +kernel : pm_fe 293 121 = some (.ishr, 1)) rfl).trans ?_
  refine (px_go (by decide +kernel : pm_fe 293 122 = some (.iconst 1, 1)) rfl).trans ?_
  refine (px_go (by decide +kernel : pm_fe 293 123 = some (.iand, 1)) rfl).trans ?_
  refine (px_go (by decide +kernel : pm_fe 293 124 = some (.iconst 1, 1)) rfl).trans ?_
  refine (px_ic_ne (off := 7) (tgt := 132) (by decide +kernel)).trans ?_
  exact Iff.rfl
theorem b293_128 {d : Nat} {G : PG} {M T : PH} {K : PV → PS → Prop} {l0 l1 l2 l3 l4 l5 l6 l7 l8 l9 : Int} {l10 : PV} : pm_Run d 293 128 [.inr (.inr (.inl l0)), .inl l1, .inl l2, .inl l3, .inl l4, .inl l5, .inl l6, .inl l7, .inl l8, .inl l9, l10] [] (G, M, T) K ↔ pm_Run d 293 133 [.inr (.inr (.inl l0)), .inl l1, .inl l2, .inl l3, .inl l4, .inl l5, .inl l6, .inl l7, .inl l8, .inl l9, l10] [.inl 1] (G, M, T) K := by
  refine (px_go (by decide +kernel : pm_fe 293 128 = some (.iconst 1, 1)) rfl).trans ?_
  refine (px_goto (off := 4) (tgt := 133) (by decide +kernel)).trans ?_
  exact Iff.rfl
theorem b293_132 {d : Nat} {G : PG} {M T : PH} {K : PV → PS → Prop} {l0 l1 l2 l3 l4 l5 l6 l7 l8 l9 : Int} {l10 : PV} : pm_Run d 293 132 [.inr (.inr (.inl l0)), .inl l1, .inl l2, .inl l3, .inl l4, .inl l5, .inl l6, .inl l7, .inl l8, .inl l9, l10] [] (G, M, T) K ↔ pm_Run d 293 133 [.inr (.inr (.inl l0)), .inl l1, .inl l2, .inl l3, .inl l4, .inl l5, .inl l6, .inl l7, .inl l8, .inl l9, l10] [.inl 0] (G, M, T) K := by
  refine (px_go (by decide +kernel : pm_fe 293 132 = some (.iconst 0, 1)) rfl).trans ?_
  exact Iff.rfl
theorem b293_133 {d : Nat} {G : PG} {M T : PH} {K : PV → PS → Prop} {l0 l1 l2 l3 l4 l5 l6 l7 l8 l9 s0 : Int} {l10 : PV} : pm_Run d 293 133 [.inr (.inr (.inl l0)), .inl l1, .inl l2, .inl l3, .inl l4, .inl l5, .inl l6, .inl l7, .inl l8, .inl l9, l10] [.inl s0] (G, M, T) K ↔ if pm_sg s0 = 0 then pm_Run d 293 168 [.inr (.inr (.inl l0)), .inl l1, .inl l2, .inl l3, .inl l4, .inl l5, .inl l6, .inl l7, .inl l8, .inl l9, .inl s0] [.inl l8] (G, M, T) K else pm_Run d 293 142 [.inr (.inr (.inl l0)), .inl l1, .inl l2, .inl l3, .inl l4, .inl l5, .inl l6, .inl l7, .inl l8, .inl l9, .inl s0] [.inl l8] (G, M, T) K := by
  refine (px_go (by decide +kernel : pm_fe 293 133 = some (.istore 10, 2)) rfl).trans ?_
  refine (px_go (by decide +kernel : pm_fe 293 135 = some (.iload 8, 2)) rfl).trans ?_
  refine (px_go (by decide +kernel : pm_fe 293 137 = some (.iload 10, 2)) rfl).trans ?_
  refine (px_if_eq (off := 29) (tgt := 168) (by decide +kernel)).trans ?_
  exact Iff.rfl
theorem b293_142 {d : Nat} {G : PG} {M T : PH} {K : PV → PS → Prop} {l0 l1 l2 l3 l4 l5 l6 l7 l8 l9 l10 s0 : Int} (h1 : pm_ob G l0 12) (h2 : pm_ar G (T l0.toNat 70) 100 ((24 * (l7 + 1)) + l9)) : pm_Run d 293 142 [.inr (.inr (.inl l0)), .inl l1, .inl l2, .inl l3, .inl l4, .inl l5, .inl l6, .inl l7, .inl l8, .inl l9, .inl l10] [.inl s0] (G, M, T) K ↔ if pm_sg (M (T l0.toNat 70).toNat (pm_sg ((24 * (l7 + 1)) + l9)).toNat) < pm_sg l3 then pm_Run d 293 168 [.inr (.inr (.inl l0)), .inl l1, .inl l2, .inl l3, .inl l4, .inl l5, .inl l6, .inl l7, .inl l8, .inl l9, .inl l10] [.inl s0] (G, M, T) K else pm_Run d 293 161 [.inr (.inr (.inl l0)), .inl l1, .inl l2, .inl l3, .inl l4, .inl l5, .inl l6, .inl l7, .inl l8, .inl l9, .inl l10] [.inl s0] (G, M, T) K := by
  refine (px_go (by decide +kernel : pm_fe 293 142 = some (.aload_n 0, 1)) rfl).trans ?_
  refine (px_get2 (idx := 225) (ci := 12) (k := 70) (by decide +kernel)).trans ((and_iff_right h1).trans ?_)
  refine (px_go (by decide +kernel : pm_fe 293 146 = some (.bipush 24, 2)) rfl).trans ?_
  refine (px_go (by decide +kernel : pm_fe 293 148 = some (.iload 7, 2)) rfl).trans ?_
  refine (px_go (by decide +kernel : pm_fe 293 150 = some (.iconst 1, 1)) rfl).trans ?_
  refine (px_go (by decide +kernel : pm_fe 293 151 = some (.iadd, 1)) rfl).trans ?_
  refine (px_go (by decide +kernel : pm_fe 293 152 = some (.imul, 1)) rfl).trans ?_
  refine (px_go (by decide +kernel : pm_fe 293 153 = some (.iload 9, 2)) rfl).trans ?_
  refine (px_go (by decide +kernel : pm_fe 293 155 = some (.iadd, 1)) rfl).trans ?_
  refine (px_iaload (by decide +kernel) h2).trans ?_
  refine (px_go (by decide +kernel : pm_fe 293 157 = some (.iload_n 3, 1)) rfl).trans ?_
  refine (px_ic_lt (off := 10) (tgt := 168) (by decide +kernel)).trans ?_
  exact Iff.rfl
theorem b293_161 {d : Nat} {G : PG} {M T : PH} {K : PV → PS → Prop} {l0 l1 l2 l3 l4 l5 l6 l7 l8 l9 l10 s0 : Int} : pm_Run d 293 161 [.inr (.inr (.inl l0)), .inl l1, .inl l2, .inl l3, .inl l4, .inl l5, .inl l6, .inl l7, .inl l8, .inl l9, .inl l10] [.inl s0] (G, M, T) K ↔ pm_Run d 293 169 [.inr (.inr (.inl l0)), .inl l1, .inl l2, .inl l3, .inl l4, .inl l5, .inl l6, .inl l7, .inl l8, .inl l9, .inl l10] [.inl (pm_shl 1 l9), .inl s0] (G, M, T) K := by
  refine (px_go (by decide +kernel : pm_fe 293 161 = some (.iconst 1, 1)) rfl).trans ?_
  refine (px_go (by decide +kernel : pm_fe 293 162 = some (.iload 9, 2)) rfl).trans ?_
  refine (px_go (by decide +kernel : pm_fe 293 164 = some (.ishl, 1)) rfl).trans ?_
  refine (px_goto (off := 4) (tgt := 169) (by decide +kernel)).trans ?_
  exact Iff.rfl
theorem b293_168 {d : Nat} {G : PG} {M T : PH} {K : PV → PS → Prop} {l0 l1 l2 l3 l4 l5 l6 l7 l8 l9 l10 s0 : Int} : pm_Run d 293 168 [.inr (.inr (.inl l0)), .inl l1, .inl l2, .inl l3, .inl l4, .inl l5, .inl l6, .inl l7, .inl l8, .inl l9, .inl l10] [.inl s0] (G, M, T) K ↔ pm_Run d 293 169 [.inr (.inr (.inl l0)), .inl l1, .inl l2, .inl l3, .inl l4, .inl l5, .inl l6, .inl l7, .inl l8, .inl l9, .inl l10] [.inl 0, .inl s0] (G, M, T) K := by
  refine (px_go (by decide +kernel : pm_fe 293 168 = some (.iconst 0, 1)) rfl).trans ?_
  exact Iff.rfl
theorem b293_169 {d : Nat} {G : PG} {M T : PH} {K : PV → PS → Prop} {l0 l1 l2 l3 l4 l5 l6 l7 l8 l9 l10 s0 s1 : Int} : pm_Run d 293 169 [.inr (.inr (.inl l0)), .inl l1, .inl l2, .inl l3, .inl l4, .inl l5, .inl l6, .inl l7, .inl l8, .inl l9, .inl l10] [.inl s0, .inl s1] (G, M, T) K ↔ pm_Run d 293 66 [.inr (.inr (.inl l0)), .inl l1, .inl l2, .inl l3, .inl l4, .inl l5, .inl l6, .inl l7, .inl (pm_or s1 s0), .inl (l9 + 1), .inl l10] [] (G, M, T) K := by
  refine (px_go (by decide +kernel : pm_fe 293 169 = some (.ior, 1)) rfl).trans ?_
  refine (px_go (by decide +kernel : pm_fe 293 170 = some (.istore 8, 2)) rfl).trans ?_
  refine (px_go (by decide +kernel : pm_fe 293 172 = some (.iinc 9 1, 3)) rfl).trans ?_
  refine (px_goto (off := (-109)) (tgt := 66) (by decide +kernel)).trans ?_
  exact Iff.rfl
theorem b293_178 {d : Nat} {G : PG} {M T : PH} {K : PV → PS → Prop} {l0 l1 l2 l3 l4 l5 l6 l7 l8 l9 : Int} {l10 : PV} : pm_Run d 293 178 [.inr (.inr (.inl l0)), .inl l1, .inl l2, .inl l3, .inl l4, .inl l5, .inl l6, .inl l7, .inl l8, .inl l9, l10] [] (G, M, T) K ↔ pm_Run d 293 38 [.inr (.inr (.inl l0)), .inl l1, .inl l2, .inl l3, .inl l4, .inl l8, .inl l6, .inl (l7 + 1), .inl l8, .inl l9, l10] [] (G, M, T) K := by
  refine (px_go (by decide +kernel : pm_fe 293 178 = some (.iload 8, 2)) rfl).trans ?_
  refine (px_go (by decide +kernel : pm_fe 293 180 = some (.istore 5, 2)) rfl).trans ?_
  refine (px_go (by decide +kernel : pm_fe 293 182 = some (.iinc 7 1, 3)) rfl).trans ?_
  refine (px_goto (off := (-147)) (tgt := 38) (by decide +kernel)).trans ?_
  exact Iff.rfl
theorem b293_188 {d : Nat} {G : PG} {M T : PH} {K : PV → PS → Prop} {l0 l1 l2 l3 l4 l5 l6 l7 : Int} {l8 l9 l10 : PV} : pm_Run d 293 188 [.inr (.inr (.inl l0)), .inl l1, .inl l2, .inl l3, .inl l4, .inl l5, .inl l6, .inl l7, l8, l9, l10] [] (G, M, T) K ↔ K (.inl (-1)) (G, M, T) := by
  refine (px_go (by decide +kernel : pm_fe 293 188 = some (.iconst (-1), 1)) rfl).trans ?_
  refine (px_ri (by decide +kernel)).trans ?_
  exact Iff.rfl
-- X12_across across(III)I
theorem en294 {d : Nat} {a p0 p1 p2 : Int} {S : PS} {K : PV → PS → Prop} : pm_Call (d + 1) 294 [.inr (.inr (.inl a)), .inl p0, .inl p1, .inl p2] S K ↔ pm_Run d 294 0 [.inr (.inr (.inl a)), .inl p0, .inl p1, .inl p2] [] S K := pm_Call_s.trans (and_iff_right (show 4 ≤ pm_ml 294 from by decide +kernel))
theorem b294_0 {d : Nat} {G : PG} {M T : PH} {K : PV → PS → Prop} {l0 l1 l2 l3 : Int} (h1 : pm_ob G l0 12) : pm_Run d 294 0 [.inr (.inr (.inl l0)), .inl l1, .inl l2, .inl l3] [] (G, M, T) K ↔ pm_Call d 229 [.inr (.inr (.inl l0)), .inl l1] (G, M, T) (fun r S1 => pm_Run d 294 5 [.inr (.inr (.inl l0)), .inl l1, .inl l2, .inl l3] (pm_push r []) S1 K) := by
  refine (px_go (by decide +kernel : pm_fe 294 0 = some (.aload_n 0, 1)) rfl).trans ?_
  refine (px_go (by decide +kernel : pm_fe 294 1 = some (.iload_n 1, 1)) rfl).trans ?_
  refine (px_v1 (idx := 544) (m' := 229) (ci := 12) (by decide +kernel)).trans ((and_iff_right ⟨h1, (by simp [pm_wl_n, pm_wl_c, pm_w] : pm_wl [] ≤ 8)⟩).trans ?_)
  exact Iff.rfl
theorem b294_5 {d : Nat} {G : PG} {M T : PH} {K : PV → PS → Prop} {l0 l1 l2 l3 s0 : Int} : pm_Run d 294 5 [.inr (.inr (.inl l0)), .inl l1, .inl l2, .inl l3] [.inl s0] (G, M, T) K ↔ if pm_sg s0 = 0 then pm_Run d 294 26 [.inr (.inr (.inl l0)), .inl l1, .inl l2, .inl l3] [] (G, M, T) K else pm_Run d 294 8 [.inr (.inr (.inl l0)), .inl l1, .inl l2, .inl l3] [] (G, M, T) K := by
  refine (px_if_eq (off := 21) (tgt := 26) (by decide +kernel)).trans ?_
  exact Iff.rfl
theorem b294_8 {d : Nat} {G : PG} {M T : PH} {K : PV → PS → Prop} {l0 l1 l2 l3 : Int} (h1 : pm_ob G l0 12) : pm_Run d 294 8 [.inr (.inr (.inl l0)), .inl l1, .inl l2, .inl l3] [] (G, M, T) K ↔ pm_Call d 229 [.inr (.inr (.inl l0)), .inl l2] (G, M, T) (fun r S1 => pm_Run d 294 13 [.inr (.inr (.inl l0)), .inl l1, .inl l2, .inl l3] (pm_push r []) S1 K) := by
  refine (px_go (by decide +kernel : pm_fe 294 8 = some (.aload_n 0, 1)) rfl).trans ?_
  refine (px_go (by decide +kernel : pm_fe 294 9 = some (.iload_n 2, 1)) rfl).trans ?_
  refine (px_v1 (idx := 544) (m' := 229) (ci := 12) (by decide +kernel)).trans ((and_iff_right ⟨h1, (by simp [pm_wl_n, pm_wl_c, pm_w] : pm_wl [] ≤ 8)⟩).trans ?_)
  exact Iff.rfl
theorem b294_13 {d : Nat} {G : PG} {M T : PH} {K : PV → PS → Prop} {l0 l1 l2 l3 s0 : Int} : pm_Run d 294 13 [.inr (.inr (.inl l0)), .inl l1, .inl l2, .inl l3] [.inl s0] (G, M, T) K ↔ if pm_sg s0 = 0 then pm_Run d 294 26 [.inr (.inr (.inl l0)), .inl l1, .inl l2, .inl l3] [] (G, M, T) K else pm_Run d 294 16 [.inr (.inr (.inl l0)), .inl l1, .inl l2, .inl l3] [] (G, M, T) K := by
  refine (px_if_eq (off := 13) (tgt := 26) (by decide +kernel)).trans ?_
  exact Iff.rfl
theorem b294_16 {d : Nat} {G : PG} {M T : PH} {K : PV → PS → Prop} {l0 l1 l2 l3 : Int} : pm_Run d 294 16 [.inr (.inr (.inl l0)), .inl l1, .inl l2, .inl l3] [] (G, M, T) K ↔ pm_Call d 179 [.inl l3, .inl 0, .inl 99] (G, M, T) (fun r S1 => pm_Run d 294 23 [.inr (.inr (.inl l0)), .inl l1, .inl l2, .inl l3] (pm_push r []) S1 K) := by
  refine (px_go (by decide +kernel : pm_fe 294 16 = some (.iload_n 3, 1)) rfl).trans ?_
  refine (px_go (by decide +kernel : pm_fe 294 17 = some (.iconst 0, 1)) rfl).trans ?_
  refine (px_go (by decide +kernel : pm_fe 294 18 = some (.bipush 99, 2)) rfl).trans ?_
  refine (px_s3 (idx := 337) (m' := 179) (nest := 0) (by decide +kernel)).trans ((and_iff_right (by simp [pm_wl_n, pm_wl_c, pm_w] : pm_wl [] ≤ 8)).trans ?_)
  exact Iff.rfl
theorem b294_23 {d : Nat} {G : PG} {M T : PH} {K : PV → PS → Prop} {l0 l1 l2 l3 s0 : Int} : pm_Run d 294 23 [.inr (.inr (.inl l0)), .inl l1, .inl l2, .inl l3] [.inl s0] (G, M, T) K ↔ if pm_sg s0 ≠ 0 then pm_Run d 294 28 [.inr (.inr (.inl l0)), .inl l1, .inl l2, .inl l3] [] (G, M, T) K else pm_Run d 294 26 [.inr (.inr (.inl l0)), .inl l1, .inl l2, .inl l3] [] (G, M, T) K := by
  refine (px_if_ne (off := 5) (tgt := 28) (by decide +kernel)).trans ?_
  exact Iff.rfl
theorem b294_26 {d : Nat} {G : PG} {M T : PH} {K : PV → PS → Prop} {l0 l1 l2 l3 : Int} : pm_Run d 294 26 [.inr (.inr (.inl l0)), .inl l1, .inl l2, .inl l3] [] (G, M, T) K ↔ K (.inl (-1)) (G, M, T) := by
  refine (px_go (by decide +kernel : pm_fe 294 26 = some (.iconst (-1), 1)) rfl).trans ?_
  refine (px_ri (by decide +kernel)).trans ?_
  exact Iff.rfl
theorem b294_28 {d : Nat} {G : PG} {M T : PH} {K : PV → PS → Prop} {l0 l1 l2 l3 : Int} (h1 : pm_ob G l0 12) : pm_Run d 294 28 [.inr (.inr (.inl l0)), .inl l1, .inl l2, .inl l3] [] (G, M, T) K ↔ pm_Call d 292 [.inr (.inr (.inl l0))] (G, M, T) (fun r S1 => pm_Run d 294 32 [.inr (.inr (.inl l0)), .inl l1, .inl l2, .inl l3] (pm_push r []) S1 K) := by
  refine (px_go (by decide +kernel : pm_fe 294 28 = some (.aload_n 0, 1)) rfl).trans ?_
  refine (px_v0 (idx := 605) (m' := 292) (ci := 12) (by decide +kernel)).trans ((and_iff_right ⟨h1, (by simp [pm_wl_n, pm_wl_c, pm_w] : pm_wl [] ≤ 8)⟩).trans ?_)
  exact Iff.rfl
theorem b294_32 {d : Nat} {G : PG} {M T : PH} {K : PV → PS → Prop} {l0 l1 l2 l3 : Int} (h1 : pm_ob G l0 12) : pm_Run d 294 32 [.inr (.inr (.inl l0)), .inl l1, .inl l2, .inl l3] [] (G, M, T) K ↔ pm_Call d 230 [.inr (.inr (.inl l0)), .inl l1] (G, M, T) (fun r S1 => pm_Run d 294 38 [.inr (.inr (.inl l0)), .inl l1, .inl l2, .inl l3] (pm_push r [.inr (.inr (.inl l0))]) S1 K) := by
  refine (px_go (by decide +kernel : pm_fe 294 32 = some (.aload_n 0, 1)) rfl).trans ?_
  refine (px_go (by decide +kernel : pm_fe 294 33 = some (.aload_n 0, 1)) rfl).trans ?_
  refine (px_go (by decide +kernel : pm_fe 294 34 = some (.iload_n 1, 1)) rfl).trans ?_
  refine (px_v1 (idx := 503) (m' := 230) (ci := 12) (by decide +kernel)).trans ((and_iff_right ⟨h1, (by simp [pm_wl_n, pm_wl_c, pm_w] : pm_wl [.inr (.inr (.inl l0))] ≤ 8)⟩).trans ?_)
  exact Iff.rfl
theorem b294_38 {d : Nat} {G : PG} {M T : PH} {K : PV → PS → Prop} {l0 l1 l2 l3 s0 s1 : Int} (h1 : pm_ob G l0 12) : pm_Run d 294 38 [.inr (.inr (.inl l0)), .inl l1, .inl l2, .inl l3] [.inl s0, .inr (.inr (.inl s1))] (G, M, T) K ↔ pm_Call d 230 [.inr (.inr (.inl l0)), .inl l2] (G, M, T) (fun r S1 => pm_Run d 294 43 [.inr (.inr (.inl l0)), .inl l1, .inl l2, .inl l3] (pm_push r [.inl s0, .inr (.inr (.inl s1))]) S1 K) := by
  refine (px_go (by decide +kernel : pm_fe 294 38 = some (.aload_n 0, 1)) rfl).trans ?_
  refine (px_go (by decide +kernel : pm_fe 294 39 = some (.iload_n 2, 1)) rfl).trans ?_
  refine (px_v1 (idx := 503) (m' := 230) (ci := 12) (by decide +kernel)).trans ((and_iff_right ⟨h1, (by simp [pm_wl_n, pm_wl_c, pm_w] : pm_wl [.inl s0, .inr (.inr (.inl s1))] ≤ 8)⟩).trans ?_)
  exact Iff.rfl
theorem b294_43 {d : Nat} {G : PG} {M T : PH} {K : PV → PS → Prop} {l0 l1 l2 l3 s0 s1 s2 : Int} (h1 : pm_ob G s2 12) : pm_Run d 294 43 [.inr (.inr (.inl l0)), .inl l1, .inl l2, .inl l3] [.inl s0, .inl s1, .inr (.inr (.inl s2))] (G, M, T) K ↔ pm_Call d 293 [.inr (.inr (.inl s2)), .inl s1, .inl s0, .inl l3, .inl 0] (G, M, T) (fun r S1 => pm_Run d 294 48 [.inr (.inr (.inl l0)), .inl l1, .inl l2, .inl l3] (pm_push r []) S1 K) := by
  refine (px_go (by decide +kernel : pm_fe 294 43 = some (.iload_n 3, 1)) rfl).trans ?_
  refine (px_go (by decide +kernel : pm_fe 294 44 = some (.iconst 0, 1)) rfl).trans ?_
  refine (px_v4 (idx := 608) (m' := 293) (ci := 12) (by decide +kernel)).trans ((and_iff_right ⟨h1, (by simp [pm_wl_n, pm_wl_c, pm_w] : pm_wl [] ≤ 8)⟩).trans ?_)
  exact Iff.rfl
theorem b294_48 {d : Nat} {G : PG} {M T : PH} {K : PV → PS → Prop} {l0 l1 l2 l3 s0 : Int} : pm_Run d 294 48 [.inr (.inr (.inl l0)), .inl l1, .inl l2, .inl l3] [.inl s0] (G, M, T) K ↔ K (.inl s0) (G, M, T) := by
  refine (px_ri (by decide +kernel)).trans ?_
  exact Iff.rfl
-- X12_latest latest(III)I
theorem en295 {d : Nat} {a p0 p1 p2 : Int} {S : PS} {K : PV → PS → Prop} : pm_Call (d + 1) 295 [.inr (.inr (.inl a)), .inl p0, .inl p1, .inl p2] S K ↔ pm_Run d 295 0 [.inr (.inr (.inl a)), .inl p0, .inl p1, .inl p2, PU] [] S K := pm_Call_s.trans (and_iff_right (show 4 ≤ pm_ml 295 from by decide +kernel))
theorem b295_0 {d : Nat} {G : PG} {M T : PH} {K : PV → PS → Prop} {l0 l1 l2 l3 : Int} (h1 : pm_ob G l0 12) : pm_Run d 295 0 [.inr (.inr (.inl l0)), .inl l1, .inl l2, .inl l3, PU] [] (G, M, T) K ↔ pm_Call d 229 [.inr (.inr (.inl l0)), .inl l1] (G, M, T) (fun r S1 => pm_Run d 295 5 [.inr (.inr (.inl l0)), .inl l1, .inl l2, .inl l3, PU] (pm_push r []) S1 K) := by
  refine (px_go (by decide +kernel : pm_fe 295 0 = some (.aload_n 0, 1)) rfl).trans ?_
  refine (px_go (by decide +kernel : pm_fe 295 1 = some (.iload_n 1, 1)) rfl).trans ?_
  refine (px_v1 (idx := 544) (m' := 229) (ci := 12) (by decide +kernel)).trans ((and_iff_right ⟨h1, (by simp [pm_wl_n, pm_wl_c, pm_w] : pm_wl [] ≤ 8)⟩).trans ?_)
  exact Iff.rfl
theorem b295_5 {d : Nat} {G : PG} {M T : PH} {K : PV → PS → Prop} {l0 l1 l2 l3 s0 : Int} : pm_Run d 295 5 [.inr (.inr (.inl l0)), .inl l1, .inl l2, .inl l3, PU] [.inl s0] (G, M, T) K ↔ if pm_sg s0 = 0 then pm_Run d 295 26 [.inr (.inr (.inl l0)), .inl l1, .inl l2, .inl l3, PU] [] (G, M, T) K else pm_Run d 295 8 [.inr (.inr (.inl l0)), .inl l1, .inl l2, .inl l3, PU] [] (G, M, T) K := by
  refine (px_if_eq (off := 21) (tgt := 26) (by decide +kernel)).trans ?_
  exact Iff.rfl
theorem b295_8 {d : Nat} {G : PG} {M T : PH} {K : PV → PS → Prop} {l0 l1 l2 l3 : Int} (h1 : pm_ob G l0 12) : pm_Run d 295 8 [.inr (.inr (.inl l0)), .inl l1, .inl l2, .inl l3, PU] [] (G, M, T) K ↔ pm_Call d 229 [.inr (.inr (.inl l0)), .inl l2] (G, M, T) (fun r S1 => pm_Run d 295 13 [.inr (.inr (.inl l0)), .inl l1, .inl l2, .inl l3, PU] (pm_push r []) S1 K) := by
  refine (px_go (by decide +kernel : pm_fe 295 8 = some (.aload_n 0, 1)) rfl).trans ?_
  refine (px_go (by decide +kernel : pm_fe 295 9 = some (.iload_n 2, 1)) rfl).trans ?_
  refine (px_v1 (idx := 544) (m' := 229) (ci := 12) (by decide +kernel)).trans ((and_iff_right ⟨h1, (by simp [pm_wl_n, pm_wl_c, pm_w] : pm_wl [] ≤ 8)⟩).trans ?_)
  exact Iff.rfl
theorem b295_13 {d : Nat} {G : PG} {M T : PH} {K : PV → PS → Prop} {l0 l1 l2 l3 s0 : Int} : pm_Run d 295 13 [.inr (.inr (.inl l0)), .inl l1, .inl l2, .inl l3, PU] [.inl s0] (G, M, T) K ↔ if pm_sg s0 = 0 then pm_Run d 295 26 [.inr (.inr (.inl l0)), .inl l1, .inl l2, .inl l3, PU] [] (G, M, T) K else pm_Run d 295 16 [.inr (.inr (.inl l0)), .inl l1, .inl l2, .inl l3, PU] [] (G, M, T) K := by
  refine (px_if_eq (off := 13) (tgt := 26) (by decide +kernel)).trans ?_
  exact Iff.rfl
theorem b295_16 {d : Nat} {G : PG} {M T : PH} {K : PV → PS → Prop} {l0 l1 l2 l3 : Int} : pm_Run d 295 16 [.inr (.inr (.inl l0)), .inl l1, .inl l2, .inl l3, PU] [] (G, M, T) K ↔ pm_Call d 179 [.inl l3, .inl 0, .inl 99] (G, M, T) (fun r S1 => pm_Run d 295 23 [.inr (.inr (.inl l0)), .inl l1, .inl l2, .inl l3, PU] (pm_push r []) S1 K) := by
  refine (px_go (by decide +kernel : pm_fe 295 16 = some (.iload_n 3, 1)) rfl).trans ?_
  refine (px_go (by decide +kernel : pm_fe 295 17 = some (.iconst 0, 1)) rfl).trans ?_
  refine (px_go (by decide +kernel : pm_fe 295 18 = some (.bipush 99, 2)) rfl).trans ?_
  refine (px_s3 (idx := 337) (m' := 179) (nest := 0) (by decide +kernel)).trans ((and_iff_right (by simp [pm_wl_n, pm_wl_c, pm_w] : pm_wl [] ≤ 8)).trans ?_)
  exact Iff.rfl
theorem b295_23 {d : Nat} {G : PG} {M T : PH} {K : PV → PS → Prop} {l0 l1 l2 l3 s0 : Int} : pm_Run d 295 23 [.inr (.inr (.inl l0)), .inl l1, .inl l2, .inl l3, PU] [.inl s0] (G, M, T) K ↔ if pm_sg s0 ≠ 0 then pm_Run d 295 28 [.inr (.inr (.inl l0)), .inl l1, .inl l2, .inl l3, PU] [] (G, M, T) K else pm_Run d 295 26 [.inr (.inr (.inl l0)), .inl l1, .inl l2, .inl l3, PU] [] (G, M, T) K := by
  refine (px_if_ne (off := 5) (tgt := 28) (by decide +kernel)).trans ?_
  exact Iff.rfl
theorem b295_26 {d : Nat} {G : PG} {M T : PH} {K : PV → PS → Prop} {l0 l1 l2 l3 : Int} : pm_Run d 295 26 [.inr (.inr (.inl l0)), .inl l1, .inl l2, .inl l3, PU] [] (G, M, T) K ↔ K (.inl (-1)) (G, M, T) := by
  refine (px_go (by decide +kernel : pm_fe 295 26 = some (.iconst (-1), 1)) rfl).trans ?_
  refine (px_ri (by decide +kernel)).trans ?_
  exact Iff.rfl
theorem b295_28 {d : Nat} {G : PG} {M T : PH} {K : PV → PS → Prop} {l0 l1 l2 l3 : Int} (h1 : pm_ob G l0 12) : pm_Run d 295 28 [.inr (.inr (.inl l0)), .inl l1, .inl l2, .inl l3, PU] [] (G, M, T) K ↔ pm_Call d 292 [.inr (.inr (.inl l0))] (G, M, T) (fun r S1 => pm_Run d 295 32 [.inr (.inr (.inl l0)), .inl l1, .inl l2, .inl l3, PU] (pm_push r []) S1 K) := by
  refine (px_go (by decide +kernel : pm_fe 295 28 = some (.aload_n 0, 1)) rfl).trans ?_
  refine (px_v0 (idx := 605) (m' := 292) (ci := 12) (by decide +kernel)).trans ((and_iff_right ⟨h1, (by simp [pm_wl_n, pm_wl_c, pm_w] : pm_wl [] ≤ 8)⟩).trans ?_)
  exact Iff.rfl
theorem b295_32 {d : Nat} {G : PG} {M T : PH} {K : PV → PS → Prop} {l0 l1 l2 l3 : Int} (h1 : pm_ob G l0 12) : pm_Run d 295 32 [.inr (.inr (.inl l0)), .inl l1, .inl l2, .inl l3, PU] [] (G, M, T) K ↔ pm_Call d 258 [.inr (.inr (.inl l0))] (G, M, T) (fun r S1 => pm_Run d 295 36 [.inr (.inr (.inl l0)), .inl l1, .inl l2, .inl l3, PU] (pm_push r []) S1 K) := by
  refine (px_go (by decide +kernel : pm_fe 295 32 = some (.aload_n 0, 1)) rfl).trans ?_
  refine (px_v0 (idx := 526) (m' := 258) (ci := 12) (by decide +kernel)).trans ((and_iff_right ⟨h1, (by simp [pm_wl_n, pm_wl_c, pm_w] : pm_wl [] ≤ 8)⟩).trans ?_)
  exact Iff.rfl
theorem b295_36 {d : Nat} {G : PG} {M T : PH} {K : PV → PS → Prop} {l0 l1 l2 l3 s0 : Int} : pm_Run d 295 36 [.inr (.inr (.inl l0)), .inl l1, .inl l2, .inl l3, PU] [.inl s0] (G, M, T) K ↔ pm_Run d 295 38 [.inr (.inr (.inl l0)), .inl l1, .inl l2, .inl l3, .inl s0] [] (G, M, T) K := by
  refine (px_go (by decide +kernel : pm_fe 295 36 = some (.istore 4, 2)) rfl).trans ?_
  exact Iff.rfl
theorem b295_38 {d : Nat} {G : PG} {M T : PH} {K : PV → PS → Prop} {l0 l1 l2 l3 l4 : Int} : pm_Run d 295 38 [.inr (.inr (.inl l0)), .inl l1, .inl l2, .inl l3, .inl l4] [] (G, M, T) K ↔ if pm_sg l4 < 0 then pm_Run d 295 73 [.inr (.inr (.inl l0)), .inl l1, .inl l2, .inl l3, .inl l4] [] (G, M, T) K else pm_Run d 295 43 [.inr (.inr (.inl l0)), .inl l1, .inl l2, .inl l3, .inl l4] [] (G, M, T) K := by
  refine (px_go (by decide +kernel : pm_fe 295 38 = some (.iload 4, 2)) rfl).trans ?_
  refine (px_if_lt (off := 33) (tgt := 73) (by decide +kernel)).trans ?_
  exact Iff.rfl
theorem b295_43 {d : Nat} {G : PG} {M T : PH} {K : PV → PS → Prop} {l0 l1 l2 l3 l4 : Int} (h1 : pm_ob G l0 12) : pm_Run d 295 43 [.inr (.inr (.inl l0)), .inl l1, .inl l2, .inl l3, .inl l4] [] (G, M, T) K ↔ pm_Call d 230 [.inr (.inr (.inl l0)), .inl l1] (G, M, T) (fun r S1 => pm_Run d 295 49 [.inr (.inr (.inl l0)), .inl l1, .inl l2, .inl l3, .inl l4] (pm_push r [.inr (.inr (.inl l0))]) S1 K) := by
  refine (px_go (by decide +kernel : pm_fe 295 43 = some (.aload_n 0, 1)) rfl).trans ?_
  refine (px_go (by decide +kernel : pm_fe 295 44 = some (.aload_n 0, 1)) rfl).trans ?_
  refine (px_go (by decide +kernel : pm_fe 295 45 = some (.iload_n 1, 1)) rfl).trans ?_
  refine (px_v1 (idx := 503) (m' := 230) (ci := 12) (by decide +kernel)).trans ((and_iff_right ⟨h1, (by simp [pm_wl_n, pm_wl_c, pm_w] : pm_wl [.inr (.inr (.inl l0))] ≤ 8)⟩).trans ?_)
  exact Iff.rfl
theorem b295_49 {d : Nat} {G : PG} {M T : PH} {K : PV → PS → Prop} {l0 l1 l2 l3 l4 s0 s1 : Int} (h1 : pm_ob G l0 12) : pm_Run d 295 49 [.inr (.inr (.inl l0)), .inl l1, .inl l2, .inl l3, .inl l4] [.inl s0, .inr (.inr (.inl s1))] (G, M, T) K ↔ pm_Call d 230 [.inr (.inr (.inl l0)), .inl l2] (G, M, T) (fun r S1 => pm_Run d 295 54 [.inr (.inr (.inl l0)), .inl l1, .inl l2, .inl l3, .inl l4] (pm_push r [.inl s0, .inr (.inr (.inl s1))]) S1 K) := by
  refine (px_go (by decide +kernel : pm_fe 295 49 = some (.aload_n 0, 1)) rfl).trans ?_
  refine (px_go (by decide +kernel : pm_fe 295 50 = some (.iload_n 2, 1)) rfl).trans ?_
  refine (px_v1 (idx := 503) (m' := 230) (ci := 12) (by decide +kernel)).trans ((and_iff_right ⟨h1, (by simp [pm_wl_n, pm_wl_c, pm_w] : pm_wl [.inl s0, .inr (.inr (.inl s1))] ≤ 8)⟩).trans ?_)
  exact Iff.rfl
theorem b295_54 {d : Nat} {G : PG} {M T : PH} {K : PV → PS → Prop} {l0 l1 l2 l3 l4 s0 s1 s2 : Int} (h1 : pm_ob G s2 12) : pm_Run d 295 54 [.inr (.inr (.inl l0)), .inl l1, .inl l2, .inl l3, .inl l4] [.inl s0, .inl s1, .inr (.inr (.inl s2))] (G, M, T) K ↔ pm_Call d 293 [.inr (.inr (.inl s2)), .inl s1, .inl s0, .inl l3, .inl l4] (G, M, T) (fun r S1 => pm_Run d 295 60 [.inr (.inr (.inl l0)), .inl l1, .inl l2, .inl l3, .inl l4] (pm_push r []) S1 K) := by
  refine (px_go (by decide +kernel : pm_fe 295 54 = some (.iload_n 3, 1)) rfl).trans ?_
  refine (px_go (by decide +kernel : pm_fe 295 55 = some (.iload 4, 2)) rfl).trans ?_
  refine (px_v4 (idx := 608) (m' := 293) (ci := 12) (by decide +kernel)).trans ((and_iff_right ⟨h1, (by simp [pm_wl_n, pm_wl_c, pm_w] : pm_wl [] ≤ 8)⟩).trans ?_)
  exact Iff.rfl
theorem b295_60 {d : Nat} {G : PG} {M T : PH} {K : PV → PS → Prop} {l0 l1 l2 l3 l4 s0 : Int} : pm_Run d 295 60 [.inr (.inr (.inl l0)), .inl l1, .inl l2, .inl l3, .inl l4] [.inl s0] (G, M, T) K ↔ if pm_sg s0 = pm_sg (-1) then pm_Run d 295 67 [.inr (.inr (.inl l0)), .inl l1, .inl l2, .inl l3, .inl l4] [] (G, M, T) K else pm_Run d 295 64 [.inr (.inr (.inl l0)), .inl l1, .inl l2, .inl l3, .inl l4] [] (G, M, T) K := by
  refine (px_go (by decide +kernel : pm_fe 295 60 = some (.iconst (-1), 1)) rfl).trans ?_
  refine (px_ic_eq (off := 6) (tgt := 67) (by decide +kernel)).trans ?_
  exact Iff.rfl
theorem b295_64 {d : Nat} {G : PG} {M T : PH} {K : PV → PS → Prop} {l0 l1 l2 l3 l4 : Int} : pm_Run d 295 64 [.inr (.inr (.inl l0)), .inl l1, .inl l2, .inl l3, .inl l4] [] (G, M, T) K ↔ K (.inl l4) (G, M, T) := by
  refine (px_go (by decide +kernel : pm_fe 295 64 = some (.iload 4, 2)) rfl).trans ?_
  refine (px_ri (by decide +kernel)).trans ?_
  exact Iff.rfl
theorem b295_67 {d : Nat} {G : PG} {M T : PH} {K : PV → PS → Prop} {l0 l1 l2 l3 l4 : Int} : pm_Run d 295 67 [.inr (.inr (.inl l0)), .inl l1, .inl l2, .inl l3, .inl l4] [] (G, M, T) K ↔ pm_Run d 295 38 [.inr (.inr (.inl l0)), .inl l1, .inl l2, .inl l3, .inl (l4 + (-1))] [] (G, M, T) K := by
  refine (px_go (by decide +kernel : pm_fe 295 67 = some (.iinc 4 (-1), 3)) rfl).trans ?_
  refine (px_goto (off := (-32)) (tgt := 38) (by decide +kernel)).trans ?_
  exact Iff.rfl
theorem b295_73 {d : Nat} {G : PG} {M T : PH} {K : PV → PS → Prop} {l0 l1 l2 l3 l4 : Int} : pm_Run d 295 73 [.inr (.inr (.inl l0)), .inl l1, .inl l2, .inl l3, .inl l4] [] (G, M, T) K ↔ K (.inl (-1)) (G, M, T) := by
  refine (px_go (by decide +kernel : pm_fe 295 73 = some (.iconst (-1), 1)) rfl).trans ?_
  refine (px_ri (by decide +kernel)).trans ?_
  exact Iff.rfl
-- X12_meet meet(I)I
theorem en296 {d : Nat} {a p0 : Int} {S : PS} {K : PV → PS → Prop} : pm_Call (d + 1) 296 [.inr (.inr (.inl a)), .inl p0] S K ↔ pm_Run d 296 0 [.inr (.inr (.inl a)), .inl p0, PU, PU, PU, PU] [] S K := pm_Call_s.trans (and_iff_right (show 2 ≤ pm_ml 296 from by decide +kernel))
theorem b296_0 {d : Nat} {G : PG} {M T : PH} {K : PV → PS → Prop} {l0 l1 : Int} : pm_Run d 296 0 [.inr (.inr (.inl l0)), .inl l1, PU, PU, PU, PU] [] (G, M, T) K ↔ pm_Call d 179 [.inl l1, .inl 0, .inl 1] (G, M, T) (fun r S1 => pm_Run d 296 6 [.inr (.inr (.inl l0)), .inl l1, PU, PU, PU, PU] (pm_push r []) S1 K) := by
  refine (px_go (by decide +kernel : pm_fe 296 0 = some (.iload_n 1, 1)) rfl).trans ?_
  refine (px_go (by decide +kernel : pm_fe 296 1 = some (.iconst 0, 1)) rfl).trans ?_
  refine (px_go (by decide +kernel : pm_fe 296 2 = some (.iconst 1, 1)) rfl).trans ?_
  refine (px_s3 (idx := 337) (m' := 179) (nest := 0) (by decide +kernel)).trans ((and_iff_right (by simp [pm_wl_n, pm_wl_c, pm_w] : pm_wl [] ≤ 8)).trans ?_)
  exact Iff.rfl
theorem b296_6 {d : Nat} {G : PG} {M T : PH} {K : PV → PS → Prop} {l0 l1 s0 : Int} : pm_Run d 296 6 [.inr (.inr (.inl l0)), .inl l1, PU, PU, PU, PU] [.inl s0] (G, M, T) K ↔ if pm_sg s0 = 0 then pm_Run d 296 21 [.inr (.inr (.inl l0)), .inl l1, PU, PU, PU, PU] [] (G, M, T) K else pm_Run d 296 9 [.inr (.inr (.inl l0)), .inl l1, PU, PU, PU, PU] [] (G, M, T) K := by
  refine (px_if_eq (off := 15) (tgt := 21) (by decide +kernel)).trans ?_
  exact Iff.rfl
theorem b296_9 {d : Nat} {G : PG} {M T : PH} {K : PV → PS → Prop} {l0 l1 : Int} (h1 : pm_ob G l0 12) (h2 : pm_ar G (T l0.toNat 15) 100 (M l0.toNat 13)) : pm_Run d 296 9 [.inr (.inr (.inl l0)), .inl l1, PU, PU, PU, PU] [] (G, M, T) K ↔ if pm_sg (M (T l0.toNat 15).toNat (pm_sg (M l0.toNat 13)).toNat) ≠ 0 then pm_Run d 296 23 [.inr (.inr (.inl l0)), .inl l1, PU, PU, PU, PU] [] (G, M, T) K else pm_Run d 296 21 [.inr (.inr (.inl l0)), .inl l1, PU, PU, PU, PU] [] (G, M, T) K := by
  refine (px_go (by decide +kernel : pm_fe 296 9 = some (.aload_n 0, 1)) rfl).trans ?_
  refine (px_get2 (idx := 57) (ci := 12) (k := 15) (by decide +kernel)).trans ((and_iff_right h1).trans ?_)
  refine (px_go (by decide +kernel : pm_fe 296 13 = some (.aload_n 0, 1)) rfl).trans ?_
  refine (px_get0 (idx := 51) (ci := 12) (k := 13) (by decide +kernel)).trans ((and_iff_right h1).trans ?_)
  refine (px_iaload (by decide +kernel) h2).trans ?_
  refine (px_if_ne (off := 5) (tgt := 23) (by decide +kernel)).trans ?_
  exact Iff.rfl
theorem b296_21 {d : Nat} {G : PG} {M T : PH} {K : PV → PS → Prop} {l0 l1 : Int} : pm_Run d 296 21 [.inr (.inr (.inl l0)), .inl l1, PU, PU, PU, PU] [] (G, M, T) K ↔ K (.inl (-1)) (G, M, T) := by
  refine (px_go (by decide +kernel : pm_fe 296 21 = some (.iconst (-1), 1)) rfl).trans ?_
  refine (px_ri (by decide +kernel)).trans ?_
  exact Iff.rfl
theorem b296_23 {d : Nat} {G : PG} {M T : PH} {K : PV → PS → Prop} {l0 l1 : Int} : pm_Run d 296 23 [.inr (.inr (.inl l0)), .inl l1, PU, PU, PU, PU] [] (G, M, T) K ↔ pm_Run d 296 25 [.inr (.inr (.inl l0)), .inl l1, .inl 0, PU, PU, PU] [] (G, M, T) K := by
  refine (px_go (by decide +kernel : pm_fe 296 23 = some (.iconst 0, 1)) rfl).trans ?_
  refine (px_go (by decide +kernel : pm_fe 296 24 = some (.istore_n 2, 1)) rfl).trans ?_
  exact Iff.rfl
theorem b296_25 {d : Nat} {G : PG} {M T : PH} {K : PV → PS → Prop} {l0 l1 l2 : Int} {l3 l4 l5 : PV} : pm_Run d 296 25 [.inr (.inr (.inl l0)), .inl l1, .inl l2, l3, l4, l5] [] (G, M, T) K ↔ if pm_sg 9999 < pm_sg l2 then pm_Run d 296 166 [.inr (.inr (.inl l0)), .inl l1, .inl l2, l3, l4, l5] [] (G, M, T) K else pm_Run d 296 32 [.inr (.inr (.inl l0)), .inl l1, .inl l2, l3, l4, l5] [] (G, M, T) K := by
  refine (px_go (by decide +kernel : pm_fe 296 25 = some (.iload_n 2, 1)) rfl).trans ?_
  refine (px_go (by decide +kernel : pm_fe 296 26 = some (.sipush 9999, 3)) rfl).trans ?_
  refine (px_ic_gt (off := 137) (tgt := 166) (by decide +kernel)).trans ?_
  exact Iff.rfl
theorem b296_32 {d : Nat} {G : PG} {M T : PH} {K : PV → PS → Prop} {l0 l1 l2 : Int} {l3 l4 l5 : PV} (h1 : pm_ob G l0 12) (h2 : pm_ar G (T l0.toNat 55) 100 0) (h3 : pm_ar G (T l0.toNat 17) 100 (3 * (M l0.toNat 13))) (h4 : pm_ar G (T l0.toNat 14) 100 (M l0.toNat 13)) (h5 : pm_sg (M (T l0.toNat 14).toNat (pm_sg (M l0.toNat 13)).toNat) ≠ 0) : pm_Run d 296 32 [.inr (.inr (.inl l0)), .inl l1, .inl l2, l3, l4, l5] [] (G, M, T) K ↔ pm_Run d 296 69 [.inr (.inr (.inl l0)), .inl l1, .inl l2, .inl 1, .inl (pm_rem ((M (T l0.toNat 55).toNat (pm_sg 0).toNat) + ((M (T l0.toNat 17).toNat (pm_sg (3 * (M l0.toNat 13))).toNat) * l2)) (M (T l0.toNat 14).toNat (pm_sg (M l0.toNat 13)).toNat)), .inl 1] [] (G, M, T) K := by
  refine (px_go (by decide +kernel : pm_fe 296 32 = some (.iconst 1, 1)) rfl).trans ?_
  refine (px_go (by decide +kernel : pm_fe 296 33 = some (.istore_n 3, 1)) rfl).trans ?_
  refine (px_go (by decide +kernel : pm_fe 296 34 = some (.aload_n 0, 1)) rfl).trans ?_
  refine (px_get2 (idx := 180) (ci := 12) (k := 55) (by decide +kernel)).trans ((and_iff_right h1).trans ?_)
  refine (px_go (by decide +kernel : pm_fe 296 38 = some (.iconst 0, 1)) rfl).trans ?_
  refine (px_iaload (by decide +kernel) h2).trans ?_
  refine (px_go (by decide +kernel : pm_fe 296 40 = some (.aload_n 0, 1)) rfl).trans ?_
  refine (px_get2 (idx := 63) (ci := 12) (k := 17) (by decide +kernel)).trans ((and_iff_right h1).trans ?_)
  refine (px_go (by decide +kernel : pm_fe 296 44 = some (.iconst 3, 1)) rfl).trans ?_
  refine (px_go (by decide +kernel : pm_fe 296 45 = some (.aload_n 0, 1)) rfl).trans ?_
  refine (px_get0 (idx := 51) (ci := 12) (k := 13) (by decide +kernel)).trans ((and_iff_right h1).trans ?_)
  refine (px_go (by decide +kernel : pm_fe 296 49 = some (.imul, 1)) rfl).trans ?_
  refine (px_iaload (by decide +kernel) h3).trans ?_
  refine (px_go (by decide +kernel : pm_fe 296 51 = some (.iload_n 2, 1)) rfl).trans ?_
  refine (px_go (by decide +kernel : pm_fe 296 52 = some (.imul, 1)) rfl).trans ?_
  refine (px_go (by decide +kernel : pm_fe 296 53 = some (.iadd, 1)) rfl).trans ?_
  refine (px_go (by decide +kernel : pm_fe 296 54 = some (.aload_n 0, 1)) rfl).trans ?_
  refine (px_get2 (idx := 54) (ci := 12) (k := 14) (by decide +kernel)).trans ((and_iff_right h1).trans ?_)
  refine (px_go (by decide +kernel : pm_fe 296 58 = some (.aload_n 0, 1)) rfl).trans ?_
  refine (px_get0 (idx := 51) (ci := 12) (k := 13) (by decide +kernel)).trans ((and_iff_right h1).trans ?_)
  refine (px_iaload (by decide +kernel) h4).trans ?_
  refine (px_irem (by decide +kernel)).trans ((and_iff_right h5).trans ?_)
  refine (px_go (by decide +kernel : pm_fe 296 64 = some (.istore 4, 2)) rfl).trans ?_
  refine (px_go (by decide +kernel : pm_fe 296 66 = some (.iconst 1, 1)) rfl).trans ?_
  refine (px_go (by decide +kernel : pm_fe 296 67 = some (.istore 5, 2)) rfl).trans ?_
  exact Iff.rfl
theorem b296_69 {d : Nat} {G : PG} {M T : PH} {K : PV → PS → Prop} {l0 l1 l2 l3 l4 l5 : Int} (h1 : pm_ob G l0 12) (h2 : pm_ar G (T l0.toNat 15) 100 (M l0.toNat 13)) : pm_Run d 296 69 [.inr (.inr (.inl l0)), .inl l1, .inl l2, .inl l3, .inl l4, .inl l5] [] (G, M, T) K ↔ if pm_sg (M (T l0.toNat 15).toNat (pm_sg (M l0.toNat 13)).toNat) ≤ pm_sg l5 then pm_Run d 296 138 [.inr (.inr (.inl l0)), .inl l1, .inl l2, .inl l3, .inl l4, .inl l5] [] (G, M, T) K else pm_Run d 296 83 [.inr (.inr (.inl l0)), .inl l1, .inl l2, .inl l3, .inl l4, .inl l5] [] (G, M, T) K := by
  refine (px_go (by decide +kernel : pm_fe 296 69 = some (.iload 5, 2)) rfl).trans ?_
  refine (px_go (by decide +kernel : pm_fe 296 71 = some (.aload_n 0, 1)) rfl).trans ?_
  refine (px_get2 (idx := 57) (ci := 12) (k := 15) (by decide +kernel)).trans ((and_iff_right h1).trans ?_)
  refine (px_go (by decide +kernel : pm_fe 296 75 = some (.aload_n 0, 1)) rfl).trans ?_
  refine (px_get0 (idx := 51) (ci := 12) (k := 13) (by decide +kernel)).trans ((and_iff_right h1).trans ?_)
  refine (px_iaload (by decide +kernel) h2).trans ?_
  refine (px_ic_ge (off := 58) (tgt := 138) (by decide +kernel)).trans ?_
  exact Iff.rfl
theorem b296_83 {d : Nat} {G : PG} {M T : PH} {K : PV → PS → Prop} {l0 l1 l2 l3 l4 l5 : Int} : pm_Run d 296 83 [.inr (.inr (.inl l0)), .inl l1, .inl l2, .inl l3, .inl l4, .inl l5] [] (G, M, T) K ↔ if pm_sg l3 = 0 then pm_Run d 296 130 [.inr (.inr (.inl l0)), .inl l1, .inl l2, .inl l3, .inl l4, .inl l5] [] (G, M, T) K else pm_Run d 296 87 [.inr (.inr (.inl l0)), .inl l1, .inl l2, .inl l3, .inl l4, .inl l5] [] (G, M, T) K := by
  refine (px_go (by decide +kernel : pm_fe 296 83 = some (.iload_n 3, 1)) rfl).trans ?_
  refine (px_if_eq (off := 46) (tgt := 130) (by decide +kernel)).trans ?_
  exact Iff.rfl
theorem b296_87 {d : Nat} {G : PG} {M T : PH} {K : PV → PS → Prop} {l0 l1 l2 l3 l4 l5 : Int} (h1 : pm_ob G l0 12) (h2 : pm_ar G (T l0.toNat 55) 100 l5) (h3 : pm_ar G (T l0.toNat 17) 100 ((3 * (M l0.toNat 13)) + l5)) (h4 : pm_ar G (T l0.toNat 14) 100 (M l0.toNat 13)) (h5 : pm_sg (M (T l0.toNat 14).toNat (pm_sg (M l0.toNat 13)).toNat) ≠ 0) : pm_Run d 296 87 [.inr (.inr (.inl l0)), .inl l1, .inl l2, .inl l3, .inl l4, .inl l5] [] (G, M, T) K ↔ if pm_sg (pm_rem ((M (T l0.toNat 55).toNat (pm_sg l5).toNat) + ((M (T l0.toNat 17).toNat (pm_sg ((3 * (M l0.toNat 13)) + l5)).toNat) * l2)) (M (T l0.toNat 14).toNat (pm_sg (M l0.toNat 13)).toNat)) ≠ pm_sg l4 then pm_Run d 296 130 [.inr (.inr (.inl l0)), .inl l1, .inl l2, .inl l3, .inl l4, .inl l5] [] (G, M, T) K else pm_Run d 296 126 [.inr (.inr (.inl l0)), .inl l1, .inl l2, .inl l3, .inl l4, .inl l5] [] (G, M, T) K := by
  refine (px_go (by decide +kernel : pm_fe 296 87 = some (.aload_n 0, 1)) rfl).trans ?_
  refine (px_get2 (idx := 180) (ci := 12) (k := 55) (by decide +kernel)).trans ((and_iff_right h1).trans ?_)
  refine (px_go (by decide +kernel : pm_fe 296 91 = some (.iload 5, 2)) rfl).trans ?_
  refine (px_iaload (by decide +kernel) h2).trans ?_
  refine (px_go (by decide +kernel : pm_fe 296 94 = some (.aload_n 0, 1)) rfl).trans ?_
  refine (px_get2 (idx := 63) (ci := 12) (k := 17) (by decide +kernel)).trans ((and_iff_right h1).trans ?_)
  refine (px_go (by decide +kernel : pm_fe 296 98 = some (.iconst 3, 1)) rfl).trans ?_
  refine (px_go (by decide +kernel : pm_fe 296 99 = some (.aload_n 0, 1)) rfl).trans ?_
  refine (px_get0 (idx := 51) (ci := 12) (k := 13) (by decide +kernel)).trans ((and_iff_right h1).trans ?_)
  refine (px_go (by decide +kernel : pm_fe 296 103 = some (.imul, 1)) rfl).trans ?_
  refine (px_go (by decide +kernel : pm_fe 296 104 = some (.iload 5, 2)) rfl).trans ?_
  refine (px_go (by decide +kernel : pm_fe 296 106 = some (.iadd, 1)) rfl).trans ?_
  refine (px_iaload (by decide +kernel) h3).trans ?_
  refine (px_go (by decide +kernel : pm_fe 296 108 = some (.iload_n 2, 1)) rfl).trans ?_
  refine (px_go (by decide +kernel : pm_fe 296 109 = some (.imul, 1)) rfl).trans ?_
  refine (px_go (by decide +kernel : pm_fe 296 110 = some (.iadd, 1)) rfl).trans ?_
  refine (px_go (by decide +kernel : pm_fe 296 111 = some (.aload_n 0, 1)) rfl).trans ?_
  refine (px_get2 (idx := 54) (ci := 12) (k := 14) (by decide +kernel)).trans ((and_iff_right h1).trans ?_)
  refine (px_go (by decide +kernel : pm_fe 296 115 = some (.aload_n 0, 1)) rfl).trans ?_
  refine (px_get0 (idx := 51) (ci := 12) (k := 13) (by decide +kernel)).trans ((and_iff_right h1).trans ?_)
  refine (px_iaload (by decide +kernel) h4).trans ?_
  refine (px_irem (by decide +kernel)).trans ((and_iff_right h5).trans ?_)
  refine (px_go (by decide +kernel : pm_fe 296 121 = some (.iload 4, 2)) rfl).trans ?_
  refine (px_ic_ne (off := 7) (tgt := 130) (by decide +kernel)).trans ?_
  exact Iff.rfl
theorem b296_126 {d : Nat} {G : PG} {M T : PH} {K : PV → PS → Prop} {l0 l1 l2 l3 l4 l5 : Int} : pm_Run d 296 126 [.inr (.inr (.inl l0)), .inl l1, .inl l2, .inl l3, .inl l4, .inl l5] [] (G, M, T) K ↔ pm_Run d 296 131 [.inr (.inr (.inl l0)), .inl l1, .inl l2, .inl l3, .inl l4, .inl l5] [.inl 1] (G, M, T) K := by
  refine (px_go (by decide +kernel : pm_fe 296 126 = some (.iconst 1, 1)) rfl).trans ?_
  refine (px_goto (off := 4) (tgt := 131) (by decide +kernel)).trans ?_
  exact Iff.rfl
theorem b296_130 {d : Nat} {G : PG} {M T : PH} {K : PV → PS → Prop} {l0 l1 l2 l3 l4 l5 : Int} : pm_Run d 296 130 [.inr (.inr (.inl l0)), .inl l1, .inl l2, .inl l3, .inl l4, .inl l5] [] (G, M, T) K ↔ pm_Run d 296 131 [.inr (.inr (.inl l0)), .inl l1, .inl l2, .inl l3, .inl l4, .inl l5] [.inl 0] (G, M, T) K := by
  refine (px_go (by decide +kernel : pm_fe 296 130 = some (.iconst 0, 1)) rfl).trans ?_
  exact Iff.rfl
theorem b296_131 {d : Nat} {G : PG} {M T : PH} {K : PV → PS → Prop} {l0 l1 l2 l3 l4 l5 s0 : Int} : pm_Run d 296 131 [.inr (.inr (.inl l0)), .inl l1, .inl l2, .inl l3, .inl l4, .inl l5] [.inl s0] (G, M, T) K ↔ pm_Run d 296 69 [.inr (.inr (.inl l0)), .inl l1, .inl l2, .inl s0, .inl l4, .inl (l5 + 1)] [] (G, M, T) K := by
  refine (px_go (by decide +kernel : pm_fe 296 131 = some (.istore_n 3, 1)) rfl).trans ?_
  refine (px_go (by decide +kernel : pm_fe 296 132 = some (.iinc 5 1, 3)) rfl).trans ?_
  refine (px_goto (off := (-66)) (tgt := 69) (by decide +kernel)).trans ?_
  exact Iff.rfl
theorem b296_138 {d : Nat} {G : PG} {M T : PH} {K : PV → PS → Prop} {l0 l1 l2 l3 l4 l5 : Int} : pm_Run d 296 138 [.inr (.inr (.inl l0)), .inl l1, .inl l2, .inl l3, .inl l4, .inl l5] [] (G, M, T) K ↔ if pm_sg l3 = 0 then pm_Run d 296 160 [.inr (.inr (.inl l0)), .inl l1, .inl l2, .inl l3, .inl l4, .inl l5] [] (G, M, T) K else pm_Run d 296 142 [.inr (.inr (.inl l0)), .inl l1, .inl l2, .inl l3, .inl l4, .inl l5] [] (G, M, T) K := by
  refine (px_go (by decide +kernel : pm_fe 296 138 = some (.iload_n 3, 1)) rfl).trans ?_
  refine (px_if_eq (off := 21) (tgt := 160) (by decide +kernel)).trans ?_
  exact Iff.rfl
theorem b296_142 {d : Nat} {G : PG} {M T : PH} {K : PV → PS → Prop} {l0 l1 l2 l3 l4 l5 : Int} : pm_Run d 296 142 [.inr (.inr (.inl l0)), .inl l1, .inl l2, .inl l3, .inl l4, .inl l5] [] (G, M, T) K ↔ if pm_sg l1 ≠ 0 then pm_Run d 296 157 [.inr (.inr (.inl l0)), .inl l1, .inl l2, .inl l3, .inl l4, .inl l5] [] (G, M, T) K else pm_Run d 296 146 [.inr (.inr (.inl l0)), .inl l1, .inl l2, .inl l3, .inl l4, .inl l5] [] (G, M, T) K := by
  refine (px_go (by decide +kernel : pm_fe 296 142 = some (.iload_n 1, 1)) rfl).trans ?_
  refine (px_if_ne (off := 14) (tgt := 157) (by decide +kernel)).trans ?_
  exact Iff.rfl
theorem b296_146 {d : Nat} {G : PG} {M T : PH} {K : PV → PS → Prop} {l0 l1 l2 l3 l4 l5 : Int} (h1 : pm_ob G l0 12) (h2 : pm_ar G (T l0.toNat 54) 100 0) : pm_Run d 296 146 [.inr (.inr (.inl l0)), .inl l1, .inl l2, .inl l3, .inl l4, .inl l5] [] (G, M, T) K ↔ pm_Run d 296 159 [.inr (.inr (.inl l0)), .inl l1, .inl l2, .inl l3, .inl l4, .inl l5] [.inl ((M (T l0.toNat 54).toNat (pm_sg 0).toNat) + l2)] (G, M, T) K := by
  refine (px_go (by decide +kernel : pm_fe 296 146 = some (.aload_n 0, 1)) rfl).trans ?_
  refine (px_get2 (idx := 177) (ci := 12) (k := 54) (by decide +kernel)).trans ((and_iff_right h1).trans ?_)
  refine (px_go (by decide +kernel : pm_fe 296 150 = some (.iconst 0, 1)) rfl).trans ?_
  refine (px_iaload (by decide +kernel) h2).trans ?_
  refine (px_go (by decide +kernel : pm_fe 296 152 = some (.iload_n 2, 1)) rfl).trans ?_
  refine (px_go (by decide +kernel : pm_fe 296 153 = some (.iadd, 1)) rfl).trans ?_
  refine (px_goto (off := 5) (tgt := 159) (by decide +kernel)).trans ?_
  exact Iff.rfl
theorem b296_157 {d : Nat} {G : PG} {M T : PH} {K : PV → PS → Prop} {l0 l1 l2 l3 l4 l5 : Int} : pm_Run d 296 157 [.inr (.inr (.inl l0)), .inl l1, .inl l2, .inl l3, .inl l4, .inl l5] [] (G, M, T) K ↔ pm_Run d 296 159 [.inr (.inr (.inl l0)), .inl l1, .inl l2, .inl l3, .inl l4, .inl l5] [.inl l4] (G, M, T) K := by
  refine (px_go (by decide +kernel : pm_fe 296 157 = some (.iload 4, 2)) rfl).trans ?_
  exact Iff.rfl
theorem b296_159 {d : Nat} {G : PG} {M T : PH} {K : PV → PS → Prop} {l0 l1 l2 l3 l4 l5 s0 : Int} : pm_Run d 296 159 [.inr (.inr (.inl l0)), .inl l1, .inl l2, .inl l3, .inl l4, .inl l5] [.inl s0] (G, M, T) K ↔ K (.inl s0) (G, M, T) := by
  refine (px_ri (by decide +kernel)).trans ?_
  exact Iff.rfl
theorem b296_160 {d : Nat} {G : PG} {M T : PH} {K : PV → PS → Prop} {l0 l1 l2 l3 l4 l5 : Int} : pm_Run d 296 160 [.inr (.inr (.inl l0)), .inl l1, .inl l2, .inl l3, .inl l4, .inl l5] [] (G, M, T) K ↔ pm_Run d 296 25 [.inr (.inr (.inl l0)), .inl l1, .inl (l2 + 1), .inl l3, .inl l4, .inl l5] [] (G, M, T) K := by
  refine (px_go (by decide +kernel : pm_fe 296 160 = some (.iinc 2 1, 3)) rfl).trans ?_
  refine (px_goto (off := (-138)) (tgt := 25) (by decide +kernel)).trans ?_
  exact Iff.rfl
theorem b296_166 {d : Nat} {G : PG} {M T : PH} {K : PV → PS → Prop} {l0 l1 l2 : Int} {l3 l4 l5 : PV} : pm_Run d 296 166 [.inr (.inr (.inl l0)), .inl l1, .inl l2, l3, l4, l5] [] (G, M, T) K ↔ K (.inl (-1)) (G, M, T) := by
  refine (px_go (by decide +kernel : pm_fe 296 166 = some (.iconst (-1), 1)) rfl).trans ?_
  refine (px_ri (by decide +kernel)).trans ?_
  exact Iff.rfl
-- X12_see see()I
theorem en297 {d : Nat} {a : Int} {S : PS} {K : PV → PS → Prop} : pm_Call (d + 1) 297 [.inr (.inr (.inl a))] S K ↔ pm_Run d 297 0 [.inr (.inr (.inl a)), PU, PU, PU] [] S K := pm_Call_s.trans (and_iff_right (show 1 ≤ pm_ml 297 from by decide +kernel))
theorem b297_0 {d : Nat} {G : PG} {M T : PH} {K : PV → PS → Prop} {l0 : Int} (h1 : pm_ob G l0 12) : pm_Run d 297 0 [.inr (.inr (.inl l0)), PU, PU, PU] [] (G, M, T) K ↔ if pm_sg (M l0.toNat 1) ≤ 0 then pm_Run d 297 30 [.inr (.inr (.inl l0)), .inl (M l0.toNat 1), PU, PU] [] (G, pm_sa M l0.toNat (pm_up (M l0.toNat) 1 0), T) K else pm_Run d 297 14 [.inr (.inr (.inl l0)), .inl (M l0.toNat 1), PU, PU] [] (G, pm_sa M l0.toNat (pm_up (M l0.toNat) 1 0), T) K := by
  refine (px_go (by decide +kernel : pm_fe 297 0 = some (.aload_n 0, 1)) rfl).trans ?_
  refine (px_get0 (idx := 13) (ci := 12) (k := 1) (by decide +kernel)).trans ((and_iff_right h1).trans ?_)
  refine (px_go (by decide +kernel : pm_fe 297 4 = some (.istore_n 1, 1)) rfl).trans ?_
  refine (px_go (by decide +kernel : pm_fe 297 5 = some (.aload_n 0, 1)) rfl).trans ?_
  refine (px_go (by decide +kernel : pm_fe 297 6 = some (.iconst 0, 1)) rfl).trans ?_
  refine (px_put0 (idx := 13) (ci := 12) (k := 1) (by decide +kernel)).trans ((and_iff_right h1).trans ?_)
  refine (px_go (by decide +kernel : pm_fe 297 10 = some (.iload_n 1, 1)) rfl).trans ?_
  refine (px_if_le (off := 19) (tgt := 30) (by decide +kernel)).trans ?_
  exact Iff.rfl
theorem b297_14 {d : Nat} {G : PG} {M T : PH} {K : PV → PS → Prop} {l0 l1 : Int} : pm_Run d 297 14 [.inr (.inr (.inl l0)), .inl l1, PU, PU] [] (G, M, T) K ↔ if pm_sg (pm_rem l1 3) ≠ 0 then pm_Run d 297 30 [.inr (.inr (.inl l0)), .inl l1, PU, PU] [] (G, M, T) K else pm_Run d 297 20 [.inr (.inr (.inl l0)), .inl l1, PU, PU] [] (G, M, T) K := by
  refine (px_go (by decide +kernel : pm_fe 297 14 = some (.iload_n 1, 1)) rfl).trans ?_
  refine (px_go (by decide +kernel : pm_fe 297 15 = some (.iconst 3, 1)) rfl).trans ?_
  refine (px_irem (by decide +kernel)).trans ((and_iff_right (by decide : pm_sg (3 : Int) ≠ (0 : Int))).trans ?_)
  refine (px_if_ne (off := 13) (tgt := 30) (by decide +kernel)).trans ?_
  exact Iff.rfl
theorem b297_20 {d : Nat} {G : PG} {M T : PH} {K : PV → PS → Prop} {l0 l1 : Int} : pm_Run d 297 20 [.inr (.inr (.inl l0)), .inl l1, PU, PU] [] (G, M, T) K ↔ if pm_sg 60 < pm_sg l1 then pm_Run d 297 30 [.inr (.inr (.inl l0)), .inl l1, PU, PU] [] (G, M, T) K else pm_Run d 297 26 [.inr (.inr (.inl l0)), .inl l1, PU, PU] [] (G, M, T) K := by
  refine (px_go (by decide +kernel : pm_fe 297 20 = some (.iload_n 1, 1)) rfl).trans ?_
  refine (px_go (by decide +kernel : pm_fe 297 21 = some (.bipush 60, 2)) rfl).trans ?_
  refine (px_ic_gt (off := 7) (tgt := 30) (by decide +kernel)).trans ?_
  exact Iff.rfl
theorem b297_26 {d : Nat} {G : PG} {M T : PH} {K : PV → PS → Prop} {l0 l1 : Int} : pm_Run d 297 26 [.inr (.inr (.inl l0)), .inl l1, PU, PU] [] (G, M, T) K ↔ pm_Run d 297 31 [.inr (.inr (.inl l0)), .inl l1, PU, PU] [.inl 1] (G, M, T) K := by
  refine (px_go (by decide +kernel : pm_fe 297 26 = some (.iconst 1, 1)) rfl).trans ?_
  refine (px_goto (off := 4) (tgt := 31) (by decide +kernel)).trans ?_
  exact Iff.rfl
theorem b297_30 {d : Nat} {G : PG} {M T : PH} {K : PV → PS → Prop} {l0 l1 : Int} : pm_Run d 297 30 [.inr (.inr (.inl l0)), .inl l1, PU, PU] [] (G, M, T) K ↔ pm_Run d 297 31 [.inr (.inr (.inl l0)), .inl l1, PU, PU] [.inl 0] (G, M, T) K := by
  refine (px_go (by decide +kernel : pm_fe 297 30 = some (.iconst 0, 1)) rfl).trans ?_
  exact Iff.rfl
theorem b297_31 {d : Nat} {G : PG} {M T : PH} {K : PV → PS → Prop} {l0 l1 s0 : Int} : pm_Run d 297 31 [.inr (.inr (.inl l0)), .inl l1, PU, PU] [.inl s0] (G, M, T) K ↔ pm_Run d 297 34 [.inr (.inr (.inl l0)), .inl l1, .inl s0, .inl 0] [] (G, M, T) K := by
  refine (px_go (by decide +kernel : pm_fe 297 31 = some (.istore_n 2, 1)) rfl).trans ?_
  refine (px_go (by decide +kernel : pm_fe 297 32 = some (.iconst 0, 1)) rfl).trans ?_
  refine (px_go (by decide +kernel : pm_fe 297 33 = some (.istore_n 3, 1)) rfl).trans ?_
  exact Iff.rfl
theorem b297_34 {d : Nat} {G : PG} {M T : PH} {K : PV → PS → Prop} {l0 l1 l2 l3 : Int} : pm_Run d 297 34 [.inr (.inr (.inl l0)), .inl l1, .inl l2, .inl l3] [] (G, M, T) K ↔ if pm_sg l1 ≤ pm_sg l3 then pm_Run d 297 60 [.inr (.inr (.inl l0)), .inl l1, .inl l2, .inl l3] [] (G, M, T) K else pm_Run d 297 39 [.inr (.inr (.inl l0)), .inl l1, .inl l2, .inl l3] [] (G, M, T) K := by
  refine (px_go (by decide +kernel : pm_fe 297 34 = some (.iload_n 3, 1)) rfl).trans ?_
  refine (px_go (by decide +kernel : pm_fe 297 35 = some (.iload_n 1, 1)) rfl).trans ?_
  refine (px_ic_ge (off := 24) (tgt := 60) (by decide +kernel)).trans ?_
  exact Iff.rfl
theorem b297_39 {d : Nat} {G : PG} {M T : PH} {K : PV → PS → Prop} {l0 l1 l2 l3 : Int} : pm_Run d 297 39 [.inr (.inr (.inl l0)), .inl l1, .inl l2, .inl l3] [] (G, M, T) K ↔ if pm_sg l2 = 0 then pm_Run d 297 60 [.inr (.inr (.inl l0)), .inl l1, .inl l2, .inl l3] [] (G, M, T) K else pm_Run d 297 43 [.inr (.inr (.inl l0)), .inl l1, .inl l2, .inl l3] [] (G, M, T) K := by
  refine (px_go (by decide +kernel : pm_fe 297 39 = some (.iload_n 2, 1)) rfl).trans ?_
  refine (px_if_eq (off := 20) (tgt := 60) (by decide +kernel)).trans ?_
  exact Iff.rfl
theorem b297_43 {d : Nat} {G : PG} {M T : PH} {K : PV → PS → Prop} {l0 l1 l2 l3 : Int} (h1 : pm_ob G l0 12) (h2 : pm_ar G (T l0.toNat 0) 100 l3) : pm_Run d 297 43 [.inr (.inr (.inl l0)), .inl l1, .inl l2, .inl l3] [] (G, M, T) K ↔ pm_Call d 227 [.inr (.inr (.inl l0)), .inl (M (T l0.toNat 0).toNat (pm_sg l3).toNat)] (G, M, T) (fun r S1 => pm_Run d 297 53 [.inr (.inr (.inl l0)), .inl l1, .inl l2, .inl l3] (pm_push r []) S1 K) := by
  refine (px_go (by decide +kernel : pm_fe 297 43 = some (.aload_n 0, 1)) rfl).trans ?_
  refine (px_go (by decide +kernel : pm_fe 297 44 = some (.aload_n 0, 1)) rfl).trans ?_
  refine (px_get2 (idx := 7) (ci := 12) (k := 0) (by decide +kernel)).trans ((and_iff_right h1).trans ?_)
  refine (px_go (by decide +kernel : pm_fe 297 48 = some (.iload_n 3, 1)) rfl).trans ?_
  refine (px_iaload (by decide +kernel) h2).trans ?_
  refine (px_v1 (idx := 556) (m' := 227) (ci := 12) (by decide +kernel)).trans ((and_iff_right ⟨h1, (by simp [pm_wl_n, pm_wl_c, pm_w] : pm_wl [] ≤ 8)⟩).trans ?_)
  exact Iff.rfl
theorem b297_53 {d : Nat} {G : PG} {M T : PH} {K : PV → PS → Prop} {l0 l1 l2 l3 s0 : Int} : pm_Run d 297 53 [.inr (.inr (.inl l0)), .inl l1, .inl l2, .inl l3] [.inl s0] (G, M, T) K ↔ pm_Run d 297 34 [.inr (.inr (.inl l0)), .inl l1, .inl s0, .inl (l3 + 3)] [] (G, M, T) K := by
  refine (px_go (by decide +kernel : pm_fe 297 53 = some (.istore_n 2, 1)) rfl).trans ?_
  refine (px_go (by decide +kernel : pm_fe 297 54 = some (.iinc 3 3, 3)) rfl).trans ?_
  refine (px_goto (off := (-23)) (tgt := 34) (by decide +kernel)).trans ?_
  exact Iff.rfl
theorem b297_60 {d : Nat} {G : PG} {M T : PH} {K : PV → PS → Prop} {l0 l1 l2 l3 : Int} : pm_Run d 297 60 [.inr (.inr (.inl l0)), .inl l1, .inl l2, .inl l3] [] (G, M, T) K ↔ if pm_sg l2 ≠ 0 then pm_Run d 297 70 [.inr (.inr (.inl l0)), .inl l1, .inl l2, .inl l3] [] (G, M, T) K else pm_Run d 297 64 [.inr (.inr (.inl l0)), .inl l1, .inl l2, .inl l3] [] (G, M, T) K := by
  refine (px_go (by decide +kernel : pm_fe 297 60 = some (.iload_n 2, 1)) rfl).trans ?_
  refine (px_if_ne (off := 9) (tgt := 70) (by decide +kernel)).trans ?_
  exact Iff.rfl
theorem b297_64 {d : Nat} {G : PG} {M T : PH} {K : PV → PS → Prop} {l0 l1 l2 l3 : Int} (h1 : pm_ob G l0 12) : pm_Run d 297 64 [.inr (.inr (.inl l0)), .inl l1, .inl l2, .inl l3] [] (G, M, T) K ↔ pm_Call d 224 [.inr (.inr (.inl l0)), .inl 5] (G, M, T) (fun r S1 => pm_Run d 297 69 [.inr (.inr (.inl l0)), .inl l1, .inl l2, .inl l3] (pm_push r []) S1 K) := by
  refine (px_go (by decide +kernel : pm_fe 297 64 = some (.aload_n 0, 1)) rfl).trans ?_
  refine (px_go (by decide +kernel : pm_fe 297 65 = some (.iconst 5, 1)) rfl).trans ?_
  refine (px_v1 (idx := 243) (m' := 224) (ci := 12) (by decide +kernel)).trans ((and_iff_right ⟨h1, (by simp [pm_wl_n, pm_wl_c, pm_w] : pm_wl [] ≤ 8)⟩).trans ?_)
  exact Iff.rfl
theorem b297_69 {d : Nat} {G : PG} {M T : PH} {K : PV → PS → Prop} {l0 l1 l2 l3 s0 : Int} : pm_Run d 297 69 [.inr (.inr (.inl l0)), .inl l1, .inl l2, .inl l3] [.inl s0] (G, M, T) K ↔ K (.inl s0) (G, M, T) := by
  refine (px_ri (by decide +kernel)).trans ?_
  exact Iff.rfl
theorem b297_70 {d : Nat} {G : PG} {M T : PH} {K : PV → PS → Prop} {l0 l1 l2 l3 : Int} (h1 : pm_ob G l0 12) : pm_Run d 297 70 [.inr (.inr (.inl l0)), .inl l1, .inl l2, .inl l3] [] (G, M, T) K ↔ pm_Run d 297 79 [.inr (.inr (.inl l0)), .inl l1, .inl l2, .inl 0] [] (G, pm_sa M l0.toNat (pm_up (M l0.toNat) 71 (pm_div l1 3)), T) K := by
  refine (px_go (by decide +kernel : pm_fe 297 70 = some (.aload_n 0, 1)) rfl).trans ?_
  refine (px_go (by decide +kernel : pm_fe 297 71 = some (.iload_n 1, 1)) rfl).trans ?_
  refine (px_go (by decide +kernel : pm_fe 297 72 = some (.iconst 3, 1)) rfl).trans ?_
  refine (px_idiv (by decide +kernel)).trans ((and_iff_right (by decide : pm_sg (3 : Int) ≠ (0 : Int))).trans ?_)
  refine (px_put0 (idx := 228) (ci := 12) (k := 71) (by decide +kernel)).trans ((and_iff_right h1).trans ?_)
  refine (px_go (by decide +kernel : pm_fe 297 77 = some (.iconst 0, 1)) rfl).trans ?_
  refine (px_go (by decide +kernel : pm_fe 297 78 = some (.istore_n 3, 1)) rfl).trans ?_
  exact Iff.rfl
theorem b297_79 {d : Nat} {G : PG} {M T : PH} {K : PV → PS → Prop} {l0 l1 l2 l3 : Int} (h1 : pm_ob G l0 12) : pm_Run d 297 79 [.inr (.inr (.inl l0)), .inl l1, .inl l2, .inl l3] [] (G, M, T) K ↔ if pm_sg (M l0.toNat 71) ≤ pm_sg l3 then pm_Run d 297 141 [.inr (.inr (.inl l0)), .inl l1, .inl l2, .inl l3] [] (G, M, T) K else pm_Run d 297 87 [.inr (.inr (.inl l0)), .inl l1, .inl l2, .inl l3] [] (G, M, T) K := by
  refine (px_go (by decide +kernel : pm_fe 297 79 = some (.iload_n 3, 1)) rfl).trans ?_
  refine (px_go (by decide +kernel : pm_fe 297 80 = some (.aload_n 0, 1)) rfl).trans ?_
  refine (px_get0 (idx := 228) (ci := 12) (k := 71) (by decide +kernel)).trans ((and_iff_right h1).trans ?_)
  refine (px_ic_ge (off := 57) (tgt := 141) (by decide +kernel)).trans ?_
  exact Iff.rfl
theorem b297_87 {d : Nat} {G : PG} {M T : PH} {K : PV → PS → Prop} {l0 l1 l2 l3 : Int} (h1 : pm_ob G l0 12) (h2 : pm_ar G (T l0.toNat 0) 100 (3 * l3)) (h3 : pm_ar G (T l0.toNat 72) 100 l3) (h4 : pm_ar G (T l0.toNat 0) 100 ((3 * l3) + 1)) (h5 : pm_ar G (T l0.toNat 0) 100 ((3 * l3) + 2)) (h6 : pm_ar G (T l0.toNat 73) 100 l3) : pm_Run d 297 87 [.inr (.inr (.inl l0)), .inl l1, .inl l2, .inl l3] [] (G, M, T) K ↔ pm_Run d 297 135 [.inr (.inr (.inl l0)), .inl l1, .inl l2, .inl l3] [] (G, pm_sa (pm_sa M (T l0.toNat 72).toNat (pm_up (M (T l0.toNat 72).toNat) (pm_sg l3).toNat (M (T l0.toNat 0).toNat (pm_sg (3 * l3)).toNat))) (T l0.toNat 73).toNat (pm_up ((pm_sa M (T l0.toNat 72).toNat (pm_up (M (T l0.toNat 72).toNat) (pm_sg l3).toNat (M (T l0.toNat 0).toNat (pm_sg (3 * l3)).toNat))) (T l0.toNat 73).toNat) (pm_sg l3).toNat ((pm_or (pm_shl ((pm_sa M (T l0.toNat 72).toNat (pm_up (M (T l0.toNat 72).toNat) (pm_sg l3).toNat (M (T l0.toNat 0).toNat (pm_sg (3 * l3)).toNat))) (T l0.toNat 0).toNat (pm_sg ((3 * l3) + 1)).toNat) 8) ((pm_sa M (T l0.toNat 72).toNat (pm_up (M (T l0.toNat 72).toNat) (pm_sg l3).toNat (M (T l0.toNat 0).toNat (pm_sg (3 * l3)).toNat))) (T l0.toNat 0).toNat (pm_sg ((3 * l3) + 2)).toNat)) - 1000)), T) K := by
  refine (px_go (by decide +kernel : pm_fe 297 87 = some (.aload_n 0, 1)) rfl).trans ?_
  refine (px_get2 (idx := 231) (ci := 12) (k := 72) (by decide +kernel)).trans ((and_iff_right h1).trans ?_)
  refine (px_go (by decide +kernel : pm_fe 297 91 = some (.iload_n 3, 1)) rfl).trans ?_
  refine (px_go (by decide +kernel : pm_fe 297 92 = some (.aload_n 0, 1)) rfl).trans ?_
  refine (px_get2 (idx := 7) (ci := 12) (k := 0) (by decide +kernel)).trans ((and_iff_right h1).trans ?_)
  refine (px_go (by decide +kernel : pm_fe 297 96 = some (.iconst 3, 1)) rfl).trans ?_
  refine (px_go (by decide +kernel : pm_fe 297 97 = some (.iload_n 3, 1)) rfl).trans ?_
  refine (px_go (by decide +kernel : pm_fe 297 98 = some (.imul, 1)) rfl).trans ?_
  refine (px_iaload (by decide +kernel) h2).trans ?_
  refine (px_iastore (by decide +kernel)).trans ((and_iff_right h3).trans ?_)
  refine (px_go (by decide +kernel : pm_fe 297 101 = some (.aload_n 0, 1)) rfl).trans ?_
  refine (px_get2 (idx := 234) (ci := 12) (k := 73) (by decide +kernel)).trans ((and_iff_right h1).trans ?_)
  refine (px_go (by decide +kernel : pm_fe 297 105 = some (.iload_n 3, 1)) rfl).trans ?_
  refine (px_go (by decide +kernel : pm_fe 297 106 = some (.aload_n 0, 1)) rfl).trans ?_
  refine (px_get2 (idx := 7) (ci := 12) (k := 0) (by decide +kernel)).trans ((and_iff_right h1).trans ?_)
  refine (px_go (by decide +kernel : pm_fe 297 110 = some (.iconst 3, 1)) rfl).trans ?_
  refine (px_go (by decide +kernel : pm_fe 297 111 = some (.iload_n 3, 1)) rfl).trans ?_
  refine (px_go (by decide +kernel : pm_fe 297 112 = some (.imul, 1)) rfl).trans ?_
  refine (px_go (by decide +kernel : pm_fe 297 113 = some (.iconst 1, 1)) rfl).trans ?_
  refine (px_go (by decide +kernel : pm_fe 297 114 = some (.iadd, 1)) rfl).trans ?_
  refine (px_iaload (by decide +kernel) h4).trans ?_
  refine (px_go (by decide +kernel : pm_fe 297 116 = some (.bipush 8, 2)) rfl).trans ?_
  refine (px_go (by decide +kernel : pm_fe 297 118 = some (.ishl, 1)) rfl).trans ?_
  refine (px_go (by decide +kernel : pm_fe 297 119 = some (.aload_n 0, 1)) rfl).trans ?_
  refine (px_get2 (idx := 7) (ci := 12) (k := 0) (by decide +kernel)).trans ((and_iff_right h1).trans ?_)
  refine (px_go (by decide +kernel : pm_fe 297 123 = some (.iconst 3, 1)) rfl).trans ?_
  refine (px_go (by decide +kernel : pm_fe 297 124 = some (.iload_n 3, 1)) rfl).trans ?_
  refine (px_go (by decide +kernel : pm_fe 297 125 = some (.imul, 1)) rfl).trans ?_
  refine (px_go (by decide +kernel : pm_fe 297 126 = some (.iconst 2, 1)) rfl).trans ?_
  refine (px_go (by decide +kernel : pm_fe 297 127 = some (.iadd, 1)) rfl).trans ?_
  refine (px_iaload (by decide +kernel) h5).trans ?_
  refine (px_go (by decide +kernel : pm_fe 297 129 = some (.ior, 1)) rfl).trans ?_
  refine (px_go (by decide +kernel : pm_fe 297 130 = some (.sipush 1000, 3)) rfl).trans ?_
  refine (px_go (by decide +kernel : pm_fe 297 133 = some (.isub, 1)) rfl).trans ?_
  refine (px_iastore (by decide +kernel)).trans ((and_iff_right h6).trans ?_)
  exact Iff.rfl
theorem b297_135 {d : Nat} {G : PG} {M T : PH} {K : PV → PS → Prop} {l0 l1 l2 l3 : Int} : pm_Run d 297 135 [.inr (.inr (.inl l0)), .inl l1, .inl l2, .inl l3] [] (G, M, T) K ↔ pm_Run d 297 79 [.inr (.inr (.inl l0)), .inl l1, .inl l2, .inl (l3 + 1)] [] (G, M, T) K := by
  refine (px_go (by decide +kernel : pm_fe 297 135 = some (.iinc 3 1, 3)) rfl).trans ?_
  refine (px_goto (off := (-59)) (tgt := 79) (by decide +kernel)).trans ?_
  exact Iff.rfl
theorem b297_141 {d : Nat} {G : PG} {M T : PH} {K : PV → PS → Prop} {l0 l1 l2 l3 : Int} (h1 : pm_ob G l0 12) : pm_Run d 297 141 [.inr (.inr (.inl l0)), .inl l1, .inl l2, .inl l3] [] (G, M, T) K ↔ K (.inl (M l0.toNat 71)) (G, M, T) := by
  refine (px_go (by decide +kernel : pm_fe 297 141 = some (.aload_n 0, 1)) rfl).trans ?_
  refine (px_get0 (idx := 228) (ci := 12) (k := 71) (by decide +kernel)).trans ((and_iff_right h1).trans ?_)
  refine (px_ri (by decide +kernel)).trans ?_
  exact Iff.rfl
-- X12_isAsSeen isAsSeen()Z
theorem en298 {d : Nat} {a : Int} {S : PS} {K : PV → PS → Prop} : pm_Call (d + 1) 298 [.inr (.inr (.inl a))] S K ↔ pm_Run d 298 0 [.inr (.inr (.inl a)), PU] [] S K := pm_Call_s.trans (and_iff_right (show 1 ≤ pm_ml 298 from by decide +kernel))
theorem b298_0 {d : Nat} {G : PG} {M T : PH} {K : PV → PS → Prop} {l0 : Int} : pm_Run d 298 0 [.inr (.inr (.inl l0)), PU] [] (G, M, T) K ↔ pm_Run d 298 2 [.inr (.inr (.inl l0)), .inl 0] [] (G, M, T) K := by
  refine (px_go (by decide +kernel : pm_fe 298 0 = some (.iconst 0, 1)) rfl).trans ?_
  refine (px_go (by decide +kernel : pm_fe 298 1 = some (.istore_n 1, 1)) rfl).trans ?_
  exact Iff.rfl
theorem b298_2 {d : Nat} {G : PG} {M T : PH} {K : PV → PS → Prop} {l0 l1 : Int} (h1 : pm_ob G l0 12) : pm_Run d 298 2 [.inr (.inr (.inl l0)), .inl l1] [] (G, M, T) K ↔ if pm_sg (M l0.toNat 71) ≤ pm_sg l1 then pm_Run d 298 38 [.inr (.inr (.inl l0)), .inl l1] [] (G, M, T) K else pm_Run d 298 10 [.inr (.inr (.inl l0)), .inl l1] [] (G, M, T) K := by
  refine (px_go (by decide +kernel : pm_fe 298 2 = some (.iload_n 1, 1)) rfl).trans ?_
  refine (px_go (by decide +kernel : pm_fe 298 3 = some (.aload_n 0, 1)) rfl).trans ?_
  refine (px_get0 (idx := 228) (ci := 12) (k := 71) (by decide +kernel)).trans ((and_iff_right h1).trans ?_)
  refine (px_ic_ge (off := 31) (tgt := 38) (by decide +kernel)).trans ?_
  exact Iff.rfl
theorem b298_10 {d : Nat} {G : PG} {M T : PH} {K : PV → PS → Prop} {l0 l1 : Int} (h1 : pm_ob G l0 12) (h2 : pm_ar G (T l0.toNat 72) 100 l1) (h3 : pm_ar G (T l0.toNat 68) 100 (M (T l0.toNat 72).toNat (pm_sg l1).toNat)) (h4 : pm_ar G (T l0.toNat 73) 100 l1) : pm_Run d 298 10 [.inr (.inr (.inl l0)), .inl l1] [] (G, M, T) K ↔ if pm_sg (M (T l0.toNat 68).toNat (pm_sg (M (T l0.toNat 72).toNat (pm_sg l1).toNat)).toNat) = pm_sg (M (T l0.toNat 73).toNat (pm_sg l1).toNat) then pm_Run d 298 32 [.inr (.inr (.inl l0)), .inl l1] [] (G, M, T) K else pm_Run d 298 30 [.inr (.inr (.inl l0)), .inl l1] [] (G, M, T) K := by
  refine (px_go (by decide +kernel : pm_fe 298 10 = some (.aload_n 0, 1)) rfl).trans ?_
  refine (px_get2 (idx := 219) (ci := 12) (k := 68) (by decide +kernel)).trans ((and_iff_right h1).trans ?_)
  refine (px_go (by decide +kernel : pm_fe 298 14 = some (.aload_n 0, 1)) rfl).trans ?_
  refine (px_get2 (idx := 231) (ci := 12) (k := 72) (by decide +kernel)).trans ((and_iff_right h1).trans ?_)
  refine (px_go (by decide +kernel : pm_fe 298 18 = some (.iload_n 1, 1)) rfl).trans ?_
  refine (px_iaload (by decide +kernel) h2).trans ?_
  refine (px_iaload (by decide +kernel) h3).trans ?_
  refine (px_go (by decide +kernel : pm_fe 298 21 = some (.aload_n 0, 1)) rfl).trans ?_
  refine (px_get2 (idx := 234) (ci := 12) (k := 73) (by decide +kernel)).trans ((and_iff_right h1).trans ?_)
  refine (px_go (by decide +kernel : pm_fe 298 25 = some (.iload_n 1, 1)) rfl).trans ?_
  refine (px_iaload (by decide +kernel) h4).trans ?_
  refine (px_ic_eq (off := 5) (tgt := 32) (by decide +kernel)).trans ?_
  exact Iff.rfl
theorem b298_30 {d : Nat} {G : PG} {M T : PH} {K : PV → PS → Prop} {l0 l1 : Int} : pm_Run d 298 30 [.inr (.inr (.inl l0)), .inl l1] [] (G, M, T) K ↔ K (.inl 0) (G, M, T) := by
  refine (px_go (by decide +kernel : pm_fe 298 30 = some (.iconst 0, 1)) rfl).trans ?_
  refine (px_rz (by decide +kernel)).trans ((and_iff_right (by decide : (0 : Int) = (0 : Int) ∨ (0 : Int) = (1 : Int))).trans ?_)
  exact Iff.rfl
theorem b298_32 {d : Nat} {G : PG} {M T : PH} {K : PV → PS → Prop} {l0 l1 : Int} : pm_Run d 298 32 [.inr (.inr (.inl l0)), .inl l1] [] (G, M, T) K ↔ pm_Run d 298 2 [.inr (.inr (.inl l0)), .inl (l1 + 1)] [] (G, M, T) K := by
  refine (px_go (by decide +kernel : pm_fe 298 32 = some (.iinc 1 1, 3)) rfl).trans ?_
  refine (px_goto (off := (-33)) (tgt := 2) (by decide +kernel)).trans ?_
  exact Iff.rfl
theorem b298_38 {d : Nat} {G : PG} {M T : PH} {K : PV → PS → Prop} {l0 l1 : Int} : pm_Run d 298 38 [.inr (.inr (.inl l0)), .inl l1] [] (G, M, T) K ↔ K (.inl 1) (G, M, T) := by
  refine (px_go (by decide +kernel : pm_fe 298 38 = some (.iconst 1, 1)) rfl).trans ?_
  refine (px_rz (by decide +kernel)).trans ((and_iff_right (by decide : (1 : Int) = (0 : Int) ∨ (1 : Int) = (1 : Int))).trans ?_)
  exact Iff.rfl
-- X12_payers payers(I)I
theorem en299 {d : Nat} {a p0 : Int} {S : PS} {K : PV → PS → Prop} : pm_Call (d + 1) 299 [.inr (.inr (.inl a)), .inl p0] S K ↔ pm_Run d 299 0 [.inr (.inr (.inl a)), .inl p0, PU, PU, PU, PU, PU] [] S K := pm_Call_s.trans (and_iff_right (show 2 ≤ pm_ml 299 from by decide +kernel))
theorem b299_0 {d : Nat} {G : PG} {M T : PH} {K : PV → PS → Prop} {l0 l1 : Int} (h1 : pm_ob G l0 12) : pm_Run d 299 0 [.inr (.inr (.inl l0)), .inl l1, PU, PU, PU, PU, PU] [] (G, M, T) K ↔ if pm_sg (M l0.toNat 71) = 0 then pm_Run d 299 16 [.inr (.inr (.inl l0)), .inl l1, PU, PU, PU, PU, PU] [] (G, M, T) K else pm_Run d 299 7 [.inr (.inr (.inl l0)), .inl l1, PU, PU, PU, PU, PU] [] (G, M, T) K := by
  refine (px_go (by decide +kernel : pm_fe 299 0 = some (.aload_n 0, 1)) rfl).trans ?_
  refine (px_get0 (idx := 228) (ci := 12) (k := 71) (by decide +kernel)).trans ((and_iff_right h1).trans ?_)
  refine (px_if_eq (off := 12) (tgt := 16) (by decide +kernel)).trans ?_
  exact Iff.rfl
theorem b299_7 {d : Nat} {G : PG} {M T : PH} {K : PV → PS → Prop} {l0 l1 : Int} : pm_Run d 299 7 [.inr (.inr (.inl l0)), .inl l1, PU, PU, PU, PU, PU] [] (G, M, T) K ↔ pm_Call d 179 [.inl l1, .inl 0, .inl 2] (G, M, T) (fun r S1 => pm_Run d 299 13 [.inr (.inr (.inl l0)), .inl l1, PU, PU, PU, PU, PU] (pm_push r []) S1 K) := by
  refine (px_go (by decide +kernel : pm_fe 299 7 = some (.iload_n 1, 1)) rfl).trans ?_
  refine (px_go (by decide +kernel : pm_fe 299 8 = some (.iconst 0, 1)) rfl).trans ?_
  refine (px_go (by decide +kernel : pm_fe 299 9 = some (.iconst 2, 1)) rfl).trans ?_
  refine (px_s3 (idx := 337) (m' := 179) (nest := 0) (by decide +kernel)).trans ((and_iff_right (by simp [pm_wl_n, pm_wl_c, pm_w] : pm_wl [] ≤ 8)).trans ?_)
  exact Iff.rfl
theorem b299_13 {d : Nat} {G : PG} {M T : PH} {K : PV → PS → Prop} {l0 l1 s0 : Int} : pm_Run d 299 13 [.inr (.inr (.inl l0)), .inl l1, PU, PU, PU, PU, PU] [.inl s0] (G, M, T) K ↔ if pm_sg s0 ≠ 0 then pm_Run d 299 18 [.inr (.inr (.inl l0)), .inl l1, PU, PU, PU, PU, PU] [] (G, M, T) K else pm_Run d 299 16 [.inr (.inr (.inl l0)), .inl l1, PU, PU, PU, PU, PU] [] (G, M, T) K := by
  refine (px_if_ne (off := 5) (tgt := 18) (by decide +kernel)).trans ?_
  exact Iff.rfl
theorem b299_16 {d : Nat} {G : PG} {M T : PH} {K : PV → PS → Prop} {l0 l1 : Int} : pm_Run d 299 16 [.inr (.inr (.inl l0)), .inl l1, PU, PU, PU, PU, PU] [] (G, M, T) K ↔ K (.inl (-1)) (G, M, T) := by
  refine (px_go (by decide +kernel : pm_fe 299 16 = some (.iconst (-1), 1)) rfl).trans ?_
  refine (px_ri (by decide +kernel)).trans ?_
  exact Iff.rfl
theorem b299_18 {d : Nat} {G : PG} {M T : PH} {K : PV → PS → Prop} {l0 l1 : Int} (h1 : pm_ob G l0 12) (h2 : pm_ar G (T l0.toNat 19) 100 (M l0.toNat 13)) : pm_Run d 299 18 [.inr (.inr (.inl l0)), .inl l1, PU, PU, PU, PU, PU] [] (G, M, T) K ↔ pm_Run d 299 40 [.inr (.inr (.inl l0)), .inl l1, .inl 0, .inl ((pm_shl 1 (M (T l0.toNat 19).toNat (pm_sg (M l0.toNat 13)).toNat)) - 1), .inl 0, .inl 0, PU] [] (G, M, T) K := by
  refine (px_go (by decide +kernel : pm_fe 299 18 = some (.iconst 0, 1)) rfl).trans ?_
  refine (px_go (by decide +kernel : pm_fe 299 19 = some (.istore_n 2, 1)) rfl).trans ?_
  refine (px_go (by decide +kernel : pm_fe 299 20 = some (.iconst 1, 1)) rfl).trans ?_
  refine (px_go (by decide +kernel : pm_fe 299 21 = some (.aload_n 0, 1)) rfl).trans ?_
  refine (px_get2 (idx := 69) (ci := 12) (k := 19) (by decide +kernel)).trans ((and_iff_right h1).trans ?_)
  refine (px_go (by decide +kernel : pm_fe 299 25 = some (.aload_n 0, 1)) rfl).trans ?_
  refine (px_get0 (idx := 51) (ci := 12) (k := 13) (by decide +kernel)).trans ((and_iff_right h1).trans ?_)
  refine (px_iaload (by decide +kernel) h2).trans ?_
  refine (px_go (by decide +kernel : pm_fe 299 30 = some (.ishl, 1)) rfl).trans ?_
  refine (px_go (by decide +kernel : pm_fe 299 31 = some (.iconst 1, 1)) rfl).trans ?_
  refine (px_go (by decide +kernel : pm_fe 299 32 = some (.isub, 1)) rfl).trans ?_
  refine (px_go (by decide +kernel : pm_fe 299 33 = some (.istore_n 3, 1)) rfl).trans ?_
  refine (px_go (by decide +kernel : pm_fe 299 34 = some (.iconst 0, 1)) rfl).trans ?_
  refine (px_go (by decide +kernel : pm_fe 299 35 = some (.istore 4, 2)) rfl).trans ?_
  refine (px_go (by decide +kernel : pm_fe 299 37 = some (.iconst 0, 1)) rfl).trans ?_
  refine (px_go (by decide +kernel : pm_fe 299 38 = some (.istore 5, 2)) rfl).trans ?_
  exact Iff.rfl
theorem b299_40 {d : Nat} {G : PG} {M T : PH} {K : PV → PS → Prop} {l0 l1 l2 l3 l4 l5 : Int} {l6 : PV} (h1 : pm_ob G l0 12) (h2 : pm_ar G (T l0.toNat 19) 100 (M l0.toNat 13)) : pm_Run d 299 40 [.inr (.inr (.inl l0)), .inl l1, .inl l2, .inl l3, .inl l4, .inl l5, l6] [] (G, M, T) K ↔ if pm_sg (pm_shl 1 (M (T l0.toNat 19).toNat (pm_sg (M l0.toNat 13)).toNat)) ≤ pm_sg l5 then pm_Run d 299 141 [.inr (.inr (.inl l0)), .inl l1, .inl l2, .inl l3, .inl l4, .inl l5, l6] [] (G, M, T) K else pm_Run d 299 56 [.inr (.inr (.inl l0)), .inl l1, .inl l2, .inl l3, .inl l4, .inl l5, l6] [] (G, M, T) K := by
  refine (px_go (by decide +kernel : pm_fe 299 40 = some (.iload 5, 2)) rfl).trans ?_
  refine (px_go (by decide +kernel : pm_fe 299 42 = some (.iconst 1, 1)) rfl).trans ?_
  refine (px_go (by decide +kernel : pm_fe 299 43 = some (.aload_n 0, 1)) rfl).trans ?_
  refine (px_get2 (idx := 69) (ci := 12) (k := 19) (by decide +kernel)).trans ((and_iff_right h1).trans ?_)
  refine (px_go (by decide +kernel : pm_fe 299 47 = some (.aload_n 0, 1)) rfl).trans ?_
  refine (px_get0 (idx := 51) (ci := 12) (k := 13) (by decide +kernel)).trans ((and_iff_right h1).trans ?_)
  refine (px_iaload (by decide +kernel) h2).trans ?_
  refine (px_go (by decide +kernel : pm_fe 299 52 = some (.ishl, 1)) rfl).trans ?_
  refine (px_ic_ge (off := 88) (tgt := 141) (by decide +kernel)).trans ?_
  exact Iff.rfl
theorem b299_56 {d : Nat} {G : PG} {M T : PH} {K : PV → PS → Prop} {l0 l1 l2 l3 l4 l5 : Int} {l6 : PV} (h1 : pm_ob G l0 12) : pm_Run d 299 56 [.inr (.inr (.inl l0)), .inl l1, .inl l2, .inl l3, .inl l4, .inl l5, l6] [] (G, M, T) K ↔ pm_Call d 232 [.inr (.inr (.inl l0)), .inl 1, .inl 0] (G, M, T) (fun r S1 => pm_Run d 299 62 [.inr (.inr (.inl l0)), .inl l1, .inl l2, .inl l3, .inl l4, .inl l5, l6] (pm_push r []) S1 K) := by
  refine (px_go (by decide +kernel : pm_fe 299 56 = some (.aload_n 0, 1)) rfl).trans ?_
  refine (px_go (by decide +kernel : pm_fe 299 57 = some (.iconst 1, 1)) rfl).trans ?_
  refine (px_go (by decide +kernel : pm_fe 299 58 = some (.iconst 0, 1)) rfl).trans ?_
  refine (px_v2 (idx := 445) (m' := 232) (ci := 12) (by decide +kernel)).trans ((and_iff_right ⟨h1, (by simp [pm_wl_n, pm_wl_c, pm_w] : pm_wl [] ≤ 8)⟩).trans ?_)
  exact Iff.rfl
theorem b299_62 {d : Nat} {G : PG} {M T : PH} {K : PV → PS → Prop} {l0 l1 l2 l3 l4 l5 : Int} {l6 : PV} : pm_Run d 299 62 [.inr (.inr (.inl l0)), .inl l1, .inl l2, .inl l3, .inl l4, .inl l5, l6] [] (G, M, T) K ↔ pm_Run d 299 65 [.inr (.inr (.inl l0)), .inl l1, .inl l2, .inl l3, .inl l4, .inl l5, .inl 0] [] (G, M, T) K := by
  refine (px_go (by decide +kernel : pm_fe 299 62 = some (.iconst 0, 1)) rfl).trans ?_
  refine (px_go (by decide +kernel : pm_fe 299 63 = some (.istore 6, 2)) rfl).trans ?_
  exact Iff.rfl
theorem b299_65 {d : Nat} {G : PG} {M T : PH} {K : PV → PS → Prop} {l0 l1 l2 l3 l4 l5 l6 : Int} (h1 : pm_ob G l0 12) (h2 : pm_ar G (T l0.toNat 19) 100 (M l0.toNat 13)) : pm_Run d 299 65 [.inr (.inr (.inl l0)), .inl l1, .inl l2, .inl l3, .inl l4, .inl l5, .inl l6] [] (G, M, T) K ↔ if pm_sg (M (T l0.toNat 19).toNat (pm_sg (M l0.toNat 13)).toNat) ≤ pm_sg l6 then pm_Run d 299 105 [.inr (.inr (.inl l0)), .inl l1, .inl l2, .inl l3, .inl l4, .inl l5, .inl l6] [] (G, M, T) K else pm_Run d 299 79 [.inr (.inr (.inl l0)), .inl l1, .inl l2, .inl l3, .inl l4, .inl l5, .inl l6] [] (G, M, T) K := by
  refine (px_go (by decide +kernel : pm_fe 299 65 = some (.iload 6, 2)) rfl).trans ?_
  refine (px_go (by decide +kernel : pm_fe 299 67 = some (.aload_n 0, 1)) rfl).trans ?_
  refine (px_get2 (idx := 69) (ci := 12) (k := 19) (by decide +kernel)).trans ((and_iff_right h1).trans ?_)
  refine (px_go (by decide +kernel : pm_fe 299 71 = some (.aload_n 0, 1)) rfl).trans ?_
  refine (px_get0 (idx := 51) (ci := 12) (k := 13) (by decide +kernel)).trans ((and_iff_right h1).trans ?_)
  refine (px_iaload (by decide +kernel) h2).trans ?_
  refine (px_ic_ge (off := 29) (tgt := 105) (by decide +kernel)).trans ?_
  exact Iff.rfl
theorem b299_79 {d : Nat} {G : PG} {M T : PH} {K : PV → PS → Prop} {l0 l1 l2 l3 l4 l5 l6 : Int} : pm_Run d 299 79 [.inr (.inr (.inl l0)), .inl l1, .inl l2, .inl l3, .inl l4, .inl l5, .inl l6] [] (G, M, T) K ↔ if pm_sg (pm_and (pm_shr l5 l6) 1) ≠ 0 then pm_Run d 299 99 [.inr (.inr (.inl l0)), .inl l1, .inl l2, .inl l3, .inl l4, .inl l5, .inl l6] [] (G, M, T) K else pm_Run d 299 89 [.inr (.inr (.inl l0)), .inl l1, .inl l2, .inl l3, .inl l4, .inl l5, .inl l6] [] (G, M, T) K := by
  refine (px_go (by decide +kernel : pm_fe 299 79 = some (.iload 5, 2)) rfl).trans ?_
  refine (px_go (by decide +kernel : pm_fe 299 81 = some (.iload 6, 2)) rfl).trans ?_
  refine (px_go (by decide +kernel : pm_fe 299 83 = some (.ishr, 1)) rfl).trans ?_
  refine (px_go (by decide +kernel : pm_fe 299 84 = some (.iconst 1, 1)) rfl).trans ?_
  refine (px_go (by decide +kernel : pm_fe 299 85 = some (.iand, 1)) rfl).trans ?_
  refine (px_if_ne (off := 13) (tgt := 99) (by decide +kernel)).trans ?_
  exact Iff.rfl
theorem b299_89 {d : Nat} {G : PG} {M T : PH} {K : PV → PS → Prop} {l0 l1 l2 l3 l4 l5 l6 : Int} (h1 : pm_ob G l0 12) : pm_Run d 299 89 [.inr (.inr (.inl l0)), .inl l1, .inl l2, .inl l3, .inl l4, .inl l5, .inl l6] [] (G, M, T) K ↔ pm_Call d 284 [.inr (.inr (.inl l0)), .inl 1, .inl l6, .inl 0, .inl 1] (G, M, T) (fun r S1 => pm_Run d 299 98 [.inr (.inr (.inl l0)), .inl l1, .inl l2, .inl l3, .inl l4, .inl l5, .inl l6] (pm_push r []) S1 K) := by
  refine (px_go (by decide +kernel : pm_fe 299 89 = some (.aload_n 0, 1)) rfl).trans ?_
  refine (px_go (by decide +kernel : pm_fe 299 90 = some (.iconst 1, 1)) rfl).trans ?_
  refine (px_go (by decide +kernel : pm_fe 299 91 = some (.iload 6, 2)) rfl).trans ?_
  refine (px_go (by decide +kernel : pm_fe 299 93 = some (.iconst 0, 1)) rfl).trans ?_
  refine (px_go (by decide +kernel : pm_fe 299 94 = some (.iconst 1, 1)) rfl).trans ?_
  refine (px_v4 (idx := 589) (m' := 284) (ci := 12) (by decide +kernel)).trans ((and_iff_right ⟨h1, (by simp [pm_wl_n, pm_wl_c, pm_w] : pm_wl [] ≤ 8)⟩).trans ?_)
  exact Iff.rfl
theorem b299_98 {d : Nat} {G : PG} {M T : PH} {K : PV → PS → Prop} {l0 l1 l2 l3 l4 l5 l6 s0 : Int} : pm_Run d 299 98 [.inr (.inr (.inl l0)), .inl l1, .inl l2, .inl l3, .inl l4, .inl l5, .inl l6] [.inl s0] (G, M, T) K ↔ pm_Run d 299 99 [.inr (.inr (.inl l0)), .inl l1, .inl l2, .inl l3, .inl l4, .inl l5, .inl l6] [] (G, M, T) K := by
  refine (px_go (by decide +kernel : pm_fe 299 98 = some (.pop, 1)) rfl).trans ?_
  exact Iff.rfl
theorem b299_99 {d : Nat} {G : PG} {M T : PH} {K : PV → PS → Prop} {l0 l1 l2 l3 l4 l5 l6 : Int} : pm_Run d 299 99 [.inr (.inr (.inl l0)), .inl l1, .inl l2, .inl l3, .inl l4, .inl l5, .inl l6] [] (G, M, T) K ↔ pm_Run d 299 65 [.inr (.inr (.inl l0)), .inl l1, .inl l2, .inl l3, .inl l4, .inl l5, .inl (l6 + 1)] [] (G, M, T) K := by
  refine (px_go (by decide +kernel : pm_fe 299 99 = some (.iinc 6 1, 3)) rfl).trans ?_
  refine (px_goto (off := (-37)) (tgt := 65) (by decide +kernel)).trans ?_
  exact Iff.rfl
theorem b299_105 {d : Nat} {G : PG} {M T : PH} {K : PV → PS → Prop} {l0 l1 l2 l3 l4 l5 l6 : Int} (h1 : pm_ob G l0 12) : pm_Run d 299 105 [.inr (.inr (.inl l0)), .inl l1, .inl l2, .inl l3, .inl l4, .inl l5, .inl l6] [] (G, M, T) K ↔ pm_Call d 255 [.inr (.inr (.inl l0)), .inl 1] (G, M, T) (fun r S1 => pm_Run d 299 110 [.inr (.inr (.inl l0)), .inl l1, .inl l2, .inl l3, .inl l4, .inl l5, .inl l6] (pm_push r []) S1 K) := by
  refine (px_go (by decide +kernel : pm_fe 299 105 = some (.aload_n 0, 1)) rfl).trans ?_
  refine (px_go (by decide +kernel : pm_fe 299 106 = some (.iconst 1, 1)) rfl).trans ?_
  refine (px_v1 (idx := 513) (m' := 255) (ci := 12) (by decide +kernel)).trans ((and_iff_right ⟨h1, (by simp [pm_wl_n, pm_wl_c, pm_w] : pm_wl [] ≤ 8)⟩).trans ?_)
  exact Iff.rfl
theorem b299_110 {d : Nat} {G : PG} {M T : PH} {K : PV → PS → Prop} {l0 l1 l2 l3 l4 l5 l6 : Int} (h1 : pm_ob G l0 12) : pm_Run d 299 110 [.inr (.inr (.inl l0)), .inl l1, .inl l2, .inl l3, .inl l4, .inl l5, .inl l6] [] (G, M, T) K ↔ pm_Call d 298 [.inr (.inr (.inl l0))] (G, M, T) (fun r S1 => pm_Run d 299 114 [.inr (.inr (.inl l0)), .inl l1, .inl l2, .inl l3, .inl l4, .inl l5, .inl l6] (pm_push r []) S1 K) := by
  refine (px_go (by decide +kernel : pm_fe 299 110 = some (.aload_n 0, 1)) rfl).trans ?_
  refine (px_v0 (idx := 611) (m' := 298) (ci := 12) (by decide +kernel)).trans ((and_iff_right ⟨h1, (by simp [pm_wl_n, pm_wl_c, pm_w] : pm_wl [] ≤ 8)⟩).trans ?_)
  exact Iff.rfl
theorem b299_114 {d : Nat} {G : PG} {M T : PH} {K : PV → PS → Prop} {l0 l1 l2 l3 l4 l5 l6 s0 : Int} : pm_Run d 299 114 [.inr (.inr (.inl l0)), .inl l1, .inl l2, .inl l3, .inl l4, .inl l5, .inl l6] [.inl s0] (G, M, T) K ↔ if pm_sg s0 ≠ 0 then pm_Run d 299 120 [.inr (.inr (.inl l0)), .inl l1, .inl l2, .inl l3, .inl l4, .inl l5, .inl l6] [] (G, M, T) K else pm_Run d 299 117 [.inr (.inr (.inl l0)), .inl l1, .inl l2, .inl l3, .inl l4, .inl l5, .inl l6] [] (G, M, T) K := by
  refine (px_if_ne (off := 6) (tgt := 120) (by decide +kernel)).trans ?_
  exact Iff.rfl
theorem b299_117 {d : Nat} {G : PG} {M T : PH} {K : PV → PS → Prop} {l0 l1 l2 l3 l4 l5 l6 : Int} : pm_Run d 299 117 [.inr (.inr (.inl l0)), .inl l1, .inl l2, .inl l3, .inl l4, .inl l5, .inl l6] [] (G, M, T) K ↔ pm_Run d 299 135 [.inr (.inr (.inl l0)), .inl l1, .inl l2, .inl l3, .inl l4, .inl l5, .inl l6] [] (G, M, T) K := by
  refine (px_goto (off := 18) (tgt := 135) (by decide +kernel)).trans ?_
  exact Iff.rfl
theorem b299_120 {d : Nat} {G : PG} {M T : PH} {K : PV → PS → Prop} {l0 l1 l2 l3 l4 l5 l6 : Int} : pm_Run d 299 120 [.inr (.inr (.inl l0)), .inl l1, .inl l2, .inl l3, .inl l4, .inl l5, .inl l6] [] (G, M, T) K ↔ pm_Run d 299 135 [.inr (.inr (.inl l0)), .inl l1, .inl (l2 + 1), .inl (pm_and l3 l5), .inl (pm_or l4 l5), .inl l5, .inl l6] [] (G, M, T) K := by
  refine (px_go (by decide +kernel : pm_fe 299 120 = some (.iinc 2 1, 3)) rfl).trans ?_
  refine (px_go (by decide +kernel : pm_fe 299 123 = some (.iload_n 3, 1)) rfl).trans ?_
  refine (px_go (by decide +kernel : pm_fe 299 124 = some (.iload 5, 2)) rfl).trans ?_
  refine (px_go (by decide +kernel : pm_fe 299 126 = some (.iand, 1)) rfl).trans ?_
  refine (px_go (by decide +kernel : pm_fe 299 127 = some (.istore_n 3, 1)) rfl).trans ?_
  refine (px_go (by decide +kernel : pm_fe 299 128 = some (.iload 4, 2)) rfl).trans ?_
  refine (px_go (by decide +kernel : pm_fe 299 130 = some (.iload 5, 2)) rfl).trans ?_
  refine (px_go (by decide +kernel : pm_fe 299 132 = some (.ior, 1)) rfl).trans ?_
  refine (px_go (by decide +kernel : pm_fe 299 133 = some (.istore 4, 2)) rfl).trans ?_
  exact Iff.rfl
theorem b299_135 {d : Nat} {G : PG} {M T : PH} {K : PV → PS → Prop} {l0 l1 l2 l3 l4 l5 l6 : Int} : pm_Run d 299 135 [.inr (.inr (.inl l0)), .inl l1, .inl l2, .inl l3, .inl l4, .inl l5, .inl l6] [] (G, M, T) K ↔ pm_Run d 299 40 [.inr (.inr (.inl l0)), .inl l1, .inl l2, .inl l3, .inl l4, .inl (l5 + 1), .inl l6] [] (G, M, T) K := by
  refine (px_go (by decide +kernel : pm_fe 299 135 = some (.iinc 5 1, 3)) rfl).trans ?_
  refine (px_goto (off := (-98)) (tgt := 40) (by decide +kernel)).trans ?_
  exact Iff.rfl
theorem b299_141 {d : Nat} {G : PG} {M T : PH} {K : PV → PS → Prop} {l0 l1 l2 l3 l4 l5 : Int} {l6 : PV} : pm_Run d 299 141 [.inr (.inr (.inl l0)), .inl l1, .inl l2, .inl l3, .inl l4, .inl l5, l6] [] (G, M, T) K ↔ if pm_sg l1 ≠ 0 then pm_Run d 299 149 [.inr (.inr (.inl l0)), .inl l1, .inl l2, .inl l3, .inl l4, .inl l5, l6] [] (G, M, T) K else pm_Run d 299 145 [.inr (.inr (.inl l0)), .inl l1, .inl l2, .inl l3, .inl l4, .inl l5, l6] [] (G, M, T) K := by
  refine (px_go (by decide +kernel : pm_fe 299 141 = some (.iload_n 1, 1)) rfl).trans ?_
  refine (px_if_ne (off := 7) (tgt := 149) (by decide +kernel)).trans ?_
  exact Iff.rfl
theorem b299_145 {d : Nat} {G : PG} {M T : PH} {K : PV → PS → Prop} {l0 l1 l2 l3 l4 l5 : Int} {l6 : PV} : pm_Run d 299 145 [.inr (.inr (.inl l0)), .inl l1, .inl l2, .inl l3, .inl l4, .inl l5, l6] [] (G, M, T) K ↔ pm_Run d 299 168 [.inr (.inr (.inl l0)), .inl l1, .inl l2, .inl l3, .inl l4, .inl l5, l6] [.inl l2] (G, M, T) K := by
  refine (px_go (by decide +kernel : pm_fe 299 145 = some (.iload_n 2, 1)) rfl).trans ?_
  refine (px_goto (off := 22) (tgt := 168) (by decide +kernel)).trans ?_
  exact Iff.rfl
theorem b299_149 {d : Nat} {G : PG} {M T : PH} {K : PV → PS → Prop} {l0 l1 l2 l3 l4 l5 : Int} {l6 : PV} : pm_Run d 299 149 [.inr (.inr (.inl l0)), .inl l1, .inl l2, .inl l3, .inl l4, .inl l5, l6] [] (G, M, T) K ↔ if pm_sg l1 ≠ pm_sg 1 then pm_Run d 299 166 [.inr (.inr (.inl l0)), .inl l1, .inl l2, .inl l3, .inl l4, .inl l5, l6] [] (G, M, T) K else pm_Run d 299 154 [.inr (.inr (.inl l0)), .inl l1, .inl l2, .inl l3, .inl l4, .inl l5, l6] [] (G, M, T) K := by
  refine (px_go (by decide +kernel : pm_fe 299 149 = some (.iload_n 1, 1)) rfl).trans ?_
  refine (px_go (by decide +kernel : pm_fe 299 150 = some (.iconst 1, 1)) rfl).trans ?_
  refine (px_ic_ne (off := 15) (tgt := 166) (by decide +kernel)).trans ?_
  exact Iff.rfl
theorem b299_154 {d : Nat} {G : PG} {M T : PH} {K : PV → PS → Prop} {l0 l1 l2 l3 l4 l5 : Int} {l6 : PV} : pm_Run d 299 154 [.inr (.inr (.inl l0)), .inl l1, .inl l2, .inl l3, .inl l4, .inl l5, l6] [] (G, M, T) K ↔ if pm_sg l2 ≠ 0 then pm_Run d 299 162 [.inr (.inr (.inl l0)), .inl l1, .inl l2, .inl l3, .inl l4, .inl l5, l6] [] (G, M, T) K else pm_Run d 299 158 [.inr (.inr (.inl l0)), .inl l1, .inl l2, .inl l3, .inl l4, .inl l5, l6] [] (G, M, T) K := by
  refine (px_go (by decide +kernel : pm_fe 299 154 = some (.iload_n 2, 1)) rfl).trans ?_
  refine (px_if_ne (off := 7) (tgt := 162) (by decide +kernel)).trans ?_
  exact Iff.rfl
theorem b299_158 {d : Nat} {G : PG} {M T : PH} {K : PV → PS → Prop} {l0 l1 l2 l3 l4 l5 : Int} {l6 : PV} : pm_Run d 299 158 [.inr (.inr (.inl l0)), .inl l1, .inl l2, .inl l3, .inl l4, .inl l5, l6] [] (G, M, T) K ↔ pm_Run d 299 168 [.inr (.inr (.inl l0)), .inl l1, .inl l2, .inl l3, .inl l4, .inl l5, l6] [.inl 0] (G, M, T) K := by
  refine (px_go (by decide +kernel : pm_fe 299 158 = some (.iconst 0, 1)) rfl).trans ?_
  refine (px_goto (off := 9) (tgt := 168) (by decide +kernel)).trans ?_
  exact Iff.rfl
theorem b299_162 {d : Nat} {G : PG} {M T : PH} {K : PV → PS → Prop} {l0 l1 l2 l3 l4 l5 : Int} {l6 : PV} : pm_Run d 299 162 [.inr (.inr (.inl l0)), .inl l1, .inl l2, .inl l3, .inl l4, .inl l5, l6] [] (G, M, T) K ↔ pm_Run d 299 168 [.inr (.inr (.inl l0)), .inl l1, .inl l2, .inl l3, .inl l4, .inl l5, l6] [.inl l3] (G, M, T) K := by
  refine (px_go (by decide +kernel : pm_fe 299 162 = some (.iload_n 3, 1)) rfl).trans ?_
  refine (px_goto (off := 5) (tgt := 168) (by decide +kernel)).trans ?_
  exact Iff.rfl
theorem b299_166 {d : Nat} {G : PG} {M T : PH} {K : PV → PS → Prop} {l0 l1 l2 l3 l4 l5 : Int} {l6 : PV} : pm_Run d 299 166 [.inr (.inr (.inl l0)), .inl l1, .inl l2, .inl l3, .inl l4, .inl l5, l6] [] (G, M, T) K ↔ pm_Run d 299 168 [.inr (.inr (.inl l0)), .inl l1, .inl l2, .inl l3, .inl l4, .inl l5, l6] [.inl l4] (G, M, T) K := by
  refine (px_go (by decide +kernel : pm_fe 299 166 = some (.iload 4, 2)) rfl).trans ?_
  exact Iff.rfl
theorem b299_168 {d : Nat} {G : PG} {M T : PH} {K : PV → PS → Prop} {l0 l1 l2 l3 l4 l5 s0 : Int} {l6 : PV} : pm_Run d 299 168 [.inr (.inr (.inl l0)), .inl l1, .inl l2, .inl l3, .inl l4, .inl l5, l6] [.inl s0] (G, M, T) K ↔ K (.inl s0) (G, M, T) := by
  refine (px_ri (by decide +kernel)).trans ?_
  exact Iff.rfl
-- X12_writes writes(I)V
theorem en300 {d : Nat} {a p0 : Int} {S : PS} {K : PV → PS → Prop} : pm_Call (d + 1) 300 [.inr (.inr (.inl a)), .inl p0] S K ↔ pm_Run d 300 0 [.inr (.inr (.inl a)), .inl p0] [] S K := pm_Call_s.trans (and_iff_right (show 2 ≤ pm_ml 300 from by decide +kernel))
theorem b300_0 {d : Nat} {G : PG} {M T : PH} {K : PV → PS → Prop} {l0 l1 : Int} (h1 : pm_ob G l0 12) (h2 : pm_ar G (T l0.toNat 74) 100 (M l0.toNat 75)) : pm_Run d 300 0 [.inr (.inr (.inl l0)), .inl l1] [] (G, M, T) K ↔ pm_Run d 300 24 [.inr (.inr (.inl l0)), .inl l1] [] (G, pm_sa (pm_sa M (T l0.toNat 74).toNat (pm_up (M (T l0.toNat 74).toNat) (pm_sg (M l0.toNat 75)).toNat (pm_and l1 255))) l0.toNat (pm_up ((pm_sa M (T l0.toNat 74).toNat (pm_up (M (T l0.toNat 74).toNat) (pm_sg (M l0.toNat 75)).toNat (pm_and l1 255))) l0.toNat) 75 (((pm_sa M (T l0.toNat 74).toNat (pm_up (M (T l0.toNat 74).toNat) (pm_sg (M l0.toNat 75)).toNat (pm_and l1 255))) l0.toNat 75) + 1)), T) K := by
  refine (px_go (by decide +kernel : pm_fe 300 0 = some (.aload_n 0, 1)) rfl).trans ?_
  refine (px_get2 (idx := 237) (ci := 12) (k := 74) (by decide +kernel)).trans ((and_iff_right h1).trans ?_)
  refine (px_go (by decide +kernel : pm_fe 300 4 = some (.aload_n 0, 1)) rfl).trans ?_
  refine (px_get0 (idx := 240) (ci := 12) (k := 75) (by decide +kernel)).trans ((and_iff_right h1).trans ?_)
  refine (px_go (by decide +kernel : pm_fe 300 8 = some (.iload_n 1, 1)) rfl).trans ?_
  refine (px_go (by decide +kernel : pm_fe 300 9 = some (.sipush 255, 3)) rfl).trans ?_
  refine (px_go (by decide +kernel : pm_fe 300 12 = some (.iand, 1)) rfl).trans ?_
  refine (px_iastore (by decide +kernel)).trans ((and_iff_right h2).trans ?_)
  refine (px_go (by decide +kernel : pm_fe 300 14 = some (.aload_n 0, 1)) rfl).trans ?_
  refine (px_go (by decide +kernel : pm_fe 300 15 = some (.dup, 1)) rfl).trans ?_
  refine (px_get0 (idx := 240) (ci := 12) (k := 75) (by decide +kernel)).trans ((and_iff_right h1).trans ?_)
  refine (px_go (by decide +kernel : pm_fe 300 19 = some (.iconst 1, 1)) rfl).trans ?_
  refine (px_go (by decide +kernel : pm_fe 300 20 = some (.iadd, 1)) rfl).trans ?_
  refine (px_put0 (idx := 240) (ci := 12) (k := 75) (by decide +kernel)).trans ((and_iff_right h1).trans ?_)
  exact Iff.rfl
theorem b300_24 {d : Nat} {G : PG} {M T : PH} {K : PV → PS → Prop} {l0 l1 : Int} : pm_Run d 300 24 [.inr (.inr (.inl l0)), .inl l1] [] (G, M, T) K ↔ K PU (G, M, T) := by
  refine (px_rv (by decide +kernel)).trans ?_
  exact Iff.rfl
-- X12_writesTwo writesTwo(I)V
theorem en301 {d : Nat} {a p0 : Int} {S : PS} {K : PV → PS → Prop} : pm_Call (d + 1) 301 [.inr (.inr (.inl a)), .inl p0] S K ↔ pm_Run d 301 0 [.inr (.inr (.inl a)), .inl p0] [] S K := pm_Call_s.trans (and_iff_right (show 2 ≤ pm_ml 301 from by decide +kernel))
theorem b301_0 {d : Nat} {G : PG} {M T : PH} {K : PV → PS → Prop} {l0 l1 : Int} (h1 : pm_ob G l0 12) : pm_Run d 301 0 [.inr (.inr (.inl l0)), .inl l1] [] (G, M, T) K ↔ pm_Call d 300 [.inr (.inr (.inl l0)), .inl (pm_shr l1 8)] (G, M, T) (fun r S1 => pm_Run d 301 8 [.inr (.inr (.inl l0)), .inl l1] (pm_push r []) S1 K) := by
  refine (px_go (by decide +kernel : pm_fe 301 0 = some (.aload_n 0, 1)) rfl).trans ?_
  refine (px_go (by decide +kernel : pm_fe 301 1 = some (.iload_n 1, 1)) rfl).trans ?_
  refine (px_go (by decide +kernel : pm_fe 301 2 = some (.bipush 8, 2)) rfl).trans ?_
  refine (px_go (by decide +kernel : pm_fe 301 4 = some (.ishr, 1)) rfl).trans ?_
  refine (px_v1 (idx := 614) (m' := 300) (ci := 12) (by decide +kernel)).trans ((and_iff_right ⟨h1, (by simp [pm_wl_n, pm_wl_c, pm_w] : pm_wl [] ≤ 8)⟩).trans ?_)
  exact Iff.rfl
theorem b301_8 {d : Nat} {G : PG} {M T : PH} {K : PV → PS → Prop} {l0 l1 : Int} (h1 : pm_ob G l0 12) : pm_Run d 301 8 [.inr (.inr (.inl l0)), .inl l1] [] (G, M, T) K ↔ pm_Call d 300 [.inr (.inr (.inl l0)), .inl l1] (G, M, T) (fun r S1 => pm_Run d 301 13 [.inr (.inr (.inl l0)), .inl l1] (pm_push r []) S1 K) := by
  refine (px_go (by decide +kernel : pm_fe 301 8 = some (.aload_n 0, 1)) rfl).trans ?_
  refine (px_go (by decide +kernel : pm_fe 301 9 = some (.iload_n 1, 1)) rfl).trans ?_
  refine (px_v1 (idx := 614) (m' := 300) (ci := 12) (by decide +kernel)).trans ((and_iff_right ⟨h1, (by simp [pm_wl_n, pm_wl_c, pm_w] : pm_wl [] ≤ 8)⟩).trans ?_)
  exact Iff.rfl
theorem b301_13 {d : Nat} {G : PG} {M T : PH} {K : PV → PS → Prop} {l0 l1 : Int} : pm_Run d 301 13 [.inr (.inr (.inl l0)), .inl l1] [] (G, M, T) K ↔ K PU (G, M, T) := by
  refine (px_rv (by decide +kernel)).trans ?_
  exact Iff.rfl
-- X12_image image()I
theorem en302 {d : Nat} {a : Int} {S : PS} {K : PV → PS → Prop} : pm_Call (d + 1) 302 [.inr (.inr (.inl a))] S K ↔ pm_Run d 302 0 [.inr (.inr (.inl a)), PU, PU] [] S K := pm_Call_s.trans (and_iff_right (show 1 ≤ pm_ml 302 from by decide +kernel))
theorem b302_0 {d : Nat} {G : PG} {M T : PH} {K : PV → PS → Prop} {l0 : Int} (h1 : pm_ob G l0 12) (h2 : pm_ar G (T l0.toNat 54) 100 0) : pm_Run d 302 0 [.inr (.inr (.inl l0)), PU, PU] [] (G, M, T) K ↔ pm_Call d 301 [.inr (.inr (.inl l0)), .inl ((pm_sa M l0.toNat (pm_up (M l0.toNat) 75 0)) (T l0.toNat 54).toNat (pm_sg 0).toNat)] (G, pm_sa M l0.toNat (pm_up (M l0.toNat) 75 0), T) (fun r S1 => pm_Run d 302 15 [.inr (.inr (.inl l0)), PU, PU] (pm_push r []) S1 K) := by
  refine (px_go (by decide +kernel : pm_fe 302 0 = some (.aload_n 0, 1)) rfl).trans ?_
  refine (px_go (by decide +kernel : pm_fe 302 1 = some (.iconst 0, 1)) rfl).trans ?_
  refine (px_put0 (idx := 240) (ci := 12) (k := 75) (by decide +kernel)).trans ((and_iff_right h1).trans ?_)
  refine (px_go (by decide +kernel : pm_fe 302 5 = some (.aload_n 0, 1)) rfl).trans ?_
  refine (px_go (by decide +kernel : pm_fe 302 6 = some (.aload_n 0, 1)) rfl).trans ?_
  refine (px_get2 (idx := 177) (ci := 12) (k := 54) (by decide +kernel)).trans ((and_iff_right h1).trans ?_)
  refine (px_go (by decide +kernel : pm_fe 302 10 = some (.iconst 0, 1)) rfl).trans ?_
  refine (px_iaload (by decide +kernel) h2).trans ?_
  refine (px_v1 (idx := 617) (m' := 301) (ci := 12) (by decide +kernel)).trans ((and_iff_right ⟨h1, (by simp [pm_wl_n, pm_wl_c, pm_w] : pm_wl [] ≤ 8)⟩).trans ?_)
  exact Iff.rfl
theorem b302_15 {d : Nat} {G : PG} {M T : PH} {K : PV → PS → Prop} {l0 : Int} : pm_Run d 302 15 [.inr (.inr (.inl l0)), PU, PU] [] (G, M, T) K ↔ pm_Run d 302 17 [.inr (.inr (.inl l0)), .inl 0, PU] [] (G, M, T) K := by
  refine (px_go (by decide +kernel : pm_fe 302 15 = some (.iconst 0, 1)) rfl).trans ?_
  refine (px_go (by decide +kernel : pm_fe 302 16 = some (.istore_n 1, 1)) rfl).trans ?_
  exact Iff.rfl
theorem b302_17 {d : Nat} {G : PG} {M T : PH} {K : PV → PS → Prop} {l0 l1 : Int} (h1 : pm_ob G l0 12) (h2 : pm_ar G (T l0.toNat 15) 100 (M l0.toNat 13)) : pm_Run d 302 17 [.inr (.inr (.inl l0)), .inl l1, PU] [] (G, M, T) K ↔ if pm_sg (M (T l0.toNat 15).toNat (pm_sg (M l0.toNat 13)).toNat) ≤ pm_sg l1 then pm_Run d 302 56 [.inr (.inr (.inl l0)), .inl l1, PU] [] (G, M, T) K else pm_Run d 302 30 [.inr (.inr (.inl l0)), .inl l1, PU] [] (G, M, T) K := by
  refine (px_go (by decide +kernel : pm_fe 302 17 = some (.iload_n 1, 1)) rfl).trans ?_
  refine (px_go (by decide +kernel : pm_fe 302 18 = some (.aload_n 0, 1)) rfl).trans ?_
  refine (px_get2 (idx := 57) (ci := 12) (k := 15) (by decide +kernel)).trans ((and_iff_right h1).trans ?_)
  refine (px_go (by decide +kernel : pm_fe 302 22 = some (.aload_n 0, 1)) rfl).trans ?_
  refine (px_get0 (idx := 51) (ci := 12) (k := 13) (by decide +kernel)).trans ((and_iff_right h1).trans ?_)
  refine (px_iaload (by decide +kernel) h2).trans ?_
  refine (px_ic_ge (off := 29) (tgt := 56) (by decide +kernel)).trans ?_
  exact Iff.rfl
theorem b302_30 {d : Nat} {G : PG} {M T : PH} {K : PV → PS → Prop} {l0 l1 : Int} (h1 : pm_ob G l0 12) (h2 : pm_ar G (T l0.toNat 55) 100 l1) : pm_Run d 302 30 [.inr (.inr (.inl l0)), .inl l1, PU] [] (G, M, T) K ↔ pm_Call d 300 [.inr (.inr (.inl l0)), .inl (M (T l0.toNat 55).toNat (pm_sg l1).toNat)] (G, M, T) (fun r S1 => pm_Run d 302 40 [.inr (.inr (.inl l0)), .inl l1, PU] (pm_push r []) S1 K) := by
  refine (px_go (by decide +kernel : pm_fe 302 30 = some (.aload_n 0, 1)) rfl).trans ?_
  refine (px_go (by decide +kernel : pm_fe 302 31 = some (.aload_n 0, 1)) rfl).trans ?_
  refine (px_get2 (idx := 180) (ci := 12) (k := 55) (by decide +kernel)).trans ((and_iff_right h1).trans ?_)
  refine (px_go (by decide +kernel : pm_fe 302 35 = some (.iload_n 1, 1)) rfl).trans ?_
  refine (px_iaload (by decide +kernel) h2).trans ?_
  refine (px_v1 (idx := 614) (m' := 300) (ci := 12) (by decide +kernel)).trans ((and_iff_right ⟨h1, (by simp [pm_wl_n, pm_wl_c, pm_w] : pm_wl [] ≤ 8)⟩).trans ?_)
  exact Iff.rfl
theorem b302_40 {d : Nat} {G : PG} {M T : PH} {K : PV → PS → Prop} {l0 l1 : Int} (h1 : pm_ob G l0 12) (h2 : pm_ar G (T l0.toNat 56) 100 l1) : pm_Run d 302 40 [.inr (.inr (.inl l0)), .inl l1, PU] [] (G, M, T) K ↔ pm_Call d 300 [.inr (.inr (.inl l0)), .inl (M (T l0.toNat 56).toNat (pm_sg l1).toNat)] (G, M, T) (fun r S1 => pm_Run d 302 50 [.inr (.inr (.inl l0)), .inl l1, PU] (pm_push r []) S1 K) := by
  refine (px_go (by decide +kernel : pm_fe 302 40 = some (.aload_n 0, 1)) rfl).trans ?_
  refine (px_go (by decide +kernel : pm_fe 302 41 = some (.aload_n 0, 1)) rfl).trans ?_
  refine (px_get2 (idx := 183) (ci := 12) (k := 56) (by decide +kernel)).trans ((and_iff_right h1).trans ?_)
  refine (px_go (by decide +kernel : pm_fe 302 45 = some (.iload_n 1, 1)) rfl).trans ?_
  refine (px_iaload (by decide +kernel) h2).trans ?_
  refine (px_v1 (idx := 614) (m' := 300) (ci := 12) (by decide +kernel)).trans ((and_iff_right ⟨h1, (by simp [pm_wl_n, pm_wl_c, pm_w] : pm_wl [] ≤ 8)⟩).trans ?_)
  exact Iff.rfl
theorem b302_50 {d : Nat} {G : PG} {M T : PH} {K : PV → PS → Prop} {l0 l1 : Int} : pm_Run d 302 50 [.inr (.inr (.inl l0)), .inl l1, PU] [] (G, M, T) K ↔ pm_Run d 302 17 [.inr (.inr (.inl l0)), .inl (l1 + 1), PU] [] (G, M, T) K := by
  refine (px_go (by decide +kernel : pm_fe 302 50 = some (.iinc 1 1, 3)) rfl).trans ?_
  refine (px_goto (off := (-36)) (tgt := 17) (by decide +kernel)).trans ?_
  exact Iff.rfl
theorem b302_56 {d : Nat} {G : PG} {M T : PH} {K : PV → PS → Prop} {l0 l1 : Int} : pm_Run d 302 56 [.inr (.inr (.inl l0)), .inl l1, PU] [] (G, M, T) K ↔ pm_Run d 302 58 [.inr (.inr (.inl l0)), .inl 0, PU] [] (G, M, T) K := by
  refine (px_go (by decide +kernel : pm_fe 302 56 = some (.iconst 0, 1)) rfl).trans ?_
  refine (px_go (by decide +kernel : pm_fe 302 57 = some (.istore_n 1, 1)) rfl).trans ?_
  exact Iff.rfl
theorem b302_58 {d : Nat} {G : PG} {M T : PH} {K : PV → PS → Prop} {l0 l1 : Int} {l2 : PV} (h1 : pm_ob G l0 12) (h2 : pm_ar G (T l0.toNat 19) 100 (M l0.toNat 13)) : pm_Run d 302 58 [.inr (.inr (.inl l0)), .inl l1, l2] [] (G, M, T) K ↔ if pm_sg (M (T l0.toNat 19).toNat (pm_sg (M l0.toNat 13)).toNat) ≤ pm_sg l1 then pm_Run d 302 136 [.inr (.inr (.inl l0)), .inl l1, l2] [] (G, M, T) K else pm_Run d 302 71 [.inr (.inr (.inl l0)), .inl l1, l2] [] (G, M, T) K := by
  refine (px_go (by decide +kernel : pm_fe 302 58 = some (.iload_n 1, 1)) rfl).trans ?_
  refine (px_go (by decide +kernel : pm_fe 302 59 = some (.aload_n 0, 1)) rfl).trans ?_
  refine (px_get2 (idx := 69) (ci := 12) (k := 19) (by decide +kernel)).trans ((and_iff_right h1).trans ?_)
  refine (px_go (by decide +kernel : pm_fe 302 63 = some (.aload_n 0, 1)) rfl).trans ?_
  refine (px_get0 (idx := 51) (ci := 12) (k := 13) (by decide +kernel)).trans ((and_iff_right h1).trans ?_)
  refine (px_iaload (by decide +kernel) h2).trans ?_
  refine (px_ic_ge (off := 68) (tgt := 136) (by decide +kernel)).trans ?_
  exact Iff.rfl
theorem b302_71 {d : Nat} {G : PG} {M T : PH} {K : PV → PS → Prop} {l0 l1 : Int} {l2 : PV} (h1 : pm_ob G l0 12) (h2 : pm_ar G (T l0.toNat 57) 100 l1) : pm_Run d 302 71 [.inr (.inr (.inl l0)), .inl l1, l2] [] (G, M, T) K ↔ pm_Call d 301 [.inr (.inr (.inl l0)), .inl (M (T l0.toNat 57).toNat (pm_sg l1).toNat)] (G, M, T) (fun r S1 => pm_Run d 302 81 [.inr (.inr (.inl l0)), .inl l1, l2] (pm_push r []) S1 K) := by
  refine (px_go (by decide +kernel : pm_fe 302 71 = some (.aload_n 0, 1)) rfl).trans ?_
  refine (px_go (by decide +kernel : pm_fe 302 72 = some (.aload_n 0, 1)) rfl).trans ?_
  refine (px_get2 (idx := 186) (ci := 12) (k := 57) (by decide +kernel)).trans ((and_iff_right h1).trans ?_)
  refine (px_go (by decide +kernel : pm_fe 302 76 = some (.iload_n 1, 1)) rfl).trans ?_
  refine (px_iaload (by decide +kernel) h2).trans ?_
  refine (px_v1 (idx := 617) (m' := 301) (ci := 12) (by decide +kernel)).trans ((and_iff_right ⟨h1, (by simp [pm_wl_n, pm_wl_c, pm_w] : pm_wl [] ≤ 8)⟩).trans ?_)
  exact Iff.rfl
theorem b302_81 {d : Nat} {G : PG} {M T : PH} {K : PV → PS → Prop} {l0 l1 : Int} {l2 : PV} : pm_Run d 302 81 [.inr (.inr (.inl l0)), .inl l1, l2] [] (G, M, T) K ↔ pm_Run d 302 83 [.inr (.inr (.inl l0)), .inl l1, .inl 0] [] (G, M, T) K := by
  refine (px_go (by decide +kernel : pm_fe 302 81 = some (.iconst 0, 1)) rfl).trans ?_
  refine (px_go (by decide +kernel : pm_fe 302 82 = some (.istore_n 2, 1)) rfl).trans ?_
  exact Iff.rfl
theorem b302_83 {d : Nat} {G : PG} {M T : PH} {K : PV → PS → Prop} {l0 l1 l2 : Int} (h1 : pm_ob G l0 12) (h2 : pm_ar G (T l0.toNat 15) 100 (M l0.toNat 13)) : pm_Run d 302 83 [.inr (.inr (.inl l0)), .inl l1, .inl l2] [] (G, M, T) K ↔ if pm_sg (M (T l0.toNat 15).toNat (pm_sg (M l0.toNat 13)).toNat) ≤ pm_sg l2 then pm_Run d 302 130 [.inr (.inr (.inl l0)), .inl l1, .inl l2] [] (G, M, T) K else pm_Run d 302 96 [.inr (.inr (.inl l0)), .inl l1, .inl l2] [] (G, M, T) K := by
  refine (px_go (by decide +kernel : pm_fe 302 83 = some (.iload_n 2, 1)) rfl).trans ?_
  refine (px_go (by decide +kernel : pm_fe 302 84 = some (.aload_n 0, 1)) rfl).trans ?_
  refine (px_get2 (idx := 57) (ci := 12) (k := 15) (by decide +kernel)).trans ((and_iff_right h1).trans ?_)
  refine (px_go (by decide +kernel : pm_fe 302 88 = some (.aload_n 0, 1)) rfl).trans ?_
  refine (px_get0 (idx := 51) (ci := 12) (k := 13) (by decide +kernel)).trans ((and_iff_right h1).trans ?_)
  refine (px_iaload (by decide +kernel) h2).trans ?_
  refine (px_ic_ge (off := 37) (tgt := 130) (by decide +kernel)).trans ?_
  exact Iff.rfl
theorem b302_96 {d : Nat} {G : PG} {M T : PH} {K : PV → PS → Prop} {l0 l1 l2 : Int} (h1 : pm_ob G l0 12) (h2 : pm_ar G (T l0.toNat 58) 100 ((3 * l1) + l2)) : pm_Run d 302 96 [.inr (.inr (.inl l0)), .inl l1, .inl l2] [] (G, M, T) K ↔ pm_Call d 300 [.inr (.inr (.inl l0)), .inl (M (T l0.toNat 58).toNat (pm_sg ((3 * l1) + l2)).toNat)] (G, M, T) (fun r S1 => pm_Run d 302 110 [.inr (.inr (.inl l0)), .inl l1, .inl l2] (pm_push r []) S1 K) := by
  refine (px_go (by decide +kernel : pm_fe 302 96 = some (.aload_n 0, 1)) rfl).trans ?_
  refine (px_go (by decide +kernel : pm_fe 302 97 = some (.aload_n 0, 1)) rfl).trans ?_
  refine (px_get2 (idx := 189) (ci := 12) (k := 58) (by decide +kernel)).trans ((and_iff_right h1).trans ?_)
  refine (px_go (by decide +kernel : pm_fe 302 101 = some (.iconst 3, 1)) rfl).trans ?_
  refine (px_go (by decide +kernel : pm_fe 302 102 = some (.iload_n 1, 1)) rfl).trans ?_
  refine (px_go (by decide +kernel : pm_fe 302 103 = some (.imul, 1)) rfl).trans ?_
  refine (px_go (by decide +kernel : pm_fe 302 104 = some (.iload_n 2, 1)) rfl).trans ?_
  refine (px_go (by decide +kernel : pm_fe 302 105 = some (.iadd, 1)) rfl).trans ?_
  refine (px_iaload (by decide +kernel) h2).trans ?_
  refine (px_v1 (idx := 614) (m' := 300) (ci := 12) (by decide +kernel)).trans ((and_iff_right ⟨h1, (by simp [pm_wl_n, pm_wl_c, pm_w] : pm_wl [] ≤ 8)⟩).trans ?_)
  exact Iff.rfl
theorem b302_110 {d : Nat} {G : PG} {M T : PH} {K : PV → PS → Prop} {l0 l1 l2 : Int} (h1 : pm_ob G l0 12) (h2 : pm_ar G (T l0.toNat 59) 100 ((3 * l1) + l2)) : pm_Run d 302 110 [.inr (.inr (.inl l0)), .inl l1, .inl l2] [] (G, M, T) K ↔ pm_Call d 301 [.inr (.inr (.inl l0)), .inl (M (T l0.toNat 59).toNat (pm_sg ((3 * l1) + l2)).toNat)] (G, M, T) (fun r S1 => pm_Run d 302 124 [.inr (.inr (.inl l0)), .inl l1, .inl l2] (pm_push r []) S1 K) := by
  refine (px_go (by decide +kernel : pm_fe 302 110 = some (.aload_n 0, 1)) rfl).trans ?_
  refine (px_go (by decide +kernel : pm_fe 302 111 = some (.aload_n 0, 1)) rfl).trans ?_
  refine (px_get2 (idx := 192) (ci := 12) (k := 59) (by decide +kernel)).trans ((and_iff_right h1).trans ?_)
  refine (px_go (by decide +kernel : pm_fe 302 115 = some (.iconst 3, 1)) rfl).trans ?_
  refine (px_go (by decide +kernel : pm_fe 302 116 = some (.iload_n 1, 1)) rfl).trans ?_
  refine (px_go (by decide +kernel : pm_fe 302 117 = some (.imul, 1)) rfl).trans ?_
  refine (px_go (by decide +kernel : pm_fe 302 118 = some (.iload_n 2, 1)) rfl).trans ?_
  refine (px_go (by decide +kernel : pm_fe 302 119 = some (.iadd, 1)) rfl).trans ?_
  refine (px_iaload (by decide +kernel) h2).trans ?_
  refine (px_v1 (idx := 617) (m' := 301) (ci := 12) (by decide +kernel)).trans ((and_iff_right ⟨h1, (by simp [pm_wl_n, pm_wl_c, pm_w] : pm_wl [] ≤ 8)⟩).trans ?_)
  exact Iff.rfl
theorem b302_124 {d : Nat} {G : PG} {M T : PH} {K : PV → PS → Prop} {l0 l1 l2 : Int} : pm_Run d 302 124 [.inr (.inr (.inl l0)), .inl l1, .inl l2] [] (G, M, T) K ↔ pm_Run d 302 83 [.inr (.inr (.inl l0)), .inl l1, .inl (l2 + 1)] [] (G, M, T) K := by
  refine (px_go (by decide +kernel : pm_fe 302 124 = some (.iinc 2 1, 3)) rfl).trans ?_
  refine (px_goto (off := (-44)) (tgt := 83) (by decide +kernel)).trans ?_
  exact Iff.rfl
theorem b302_130 {d : Nat} {G : PG} {M T : PH} {K : PV → PS → Prop} {l0 l1 l2 : Int} : pm_Run d 302 130 [.inr (.inr (.inl l0)), .inl l1, .inl l2] [] (G, M, T) K ↔ pm_Run d 302 58 [.inr (.inr (.inl l0)), .inl (l1 + 1), .inl l2] [] (G, M, T) K := by
  refine (px_go (by decide +kernel : pm_fe 302 130 = some (.iinc 1 1, 3)) rfl).trans ?_
  refine (px_goto (off := (-75)) (tgt := 58) (by decide +kernel)).trans ?_
  exact Iff.rfl
theorem b302_136 {d : Nat} {G : PG} {M T : PH} {K : PV → PS → Prop} {l0 l1 : Int} {l2 : PV} : pm_Run d 302 136 [.inr (.inr (.inl l0)), .inl l1, l2] [] (G, M, T) K ↔ pm_Run d 302 141 [.inr (.inr (.inl l0)), .inl 89, .inl 0] [] (G, M, T) K := by
  refine (px_go (by decide +kernel : pm_fe 302 136 = some (.bipush 89, 2)) rfl).trans ?_
  refine (px_go (by decide +kernel : pm_fe 302 138 = some (.istore_n 1, 1)) rfl).trans ?_
  refine (px_go (by decide +kernel : pm_fe 302 139 = some (.iconst 0, 1)) rfl).trans ?_
  refine (px_go (by decide +kernel : pm_fe 302 140 = some (.istore_n 2, 1)) rfl).trans ?_
  exact Iff.rfl
theorem b302_141 {d : Nat} {G : PG} {M T : PH} {K : PV → PS → Prop} {l0 l1 l2 : Int} (h1 : pm_ob G l0 12) : pm_Run d 302 141 [.inr (.inr (.inl l0)), .inl l1, .inl l2] [] (G, M, T) K ↔ if pm_sg (M l0.toNat 75) ≤ pm_sg l2 then pm_Run d 302 170 [.inr (.inr (.inl l0)), .inl l1, .inl l2] [] (G, M, T) K else pm_Run d 302 149 [.inr (.inr (.inl l0)), .inl l1, .inl l2] [] (G, M, T) K := by
  refine (px_go (by decide +kernel : pm_fe 302 141 = some (.iload_n 2, 1)) rfl).trans ?_
  refine (px_go (by decide +kernel : pm_fe 302 142 = some (.aload_n 0, 1)) rfl).trans ?_
  refine (px_get0 (idx := 240) (ci := 12) (k := 75) (by decide +kernel)).trans ((and_iff_right h1).trans ?_)
  refine (px_ic_ge (off := 24) (tgt := 170) (by decide +kernel)).trans ?_
  exact Iff.rfl
theorem b302_149 {d : Nat} {G : PG} {M T : PH} {K : PV → PS → Prop} {l0 l1 l2 : Int} (h1 : pm_ob G l0 12) (h2 : pm_ar G (T l0.toNat 74) 100 l2) : pm_Run d 302 149 [.inr (.inr (.inl l0)), .inl l1, .inl l2] [] (G, M, T) K ↔ pm_Run d 302 141 [.inr (.inr (.inl l0)), .inl (pm_rem ((5 * l1) + (M (T l0.toNat 74).toNat (pm_sg l2).toNat)) 251), .inl (l2 + 1)] [] (G, M, T) K := by
  refine (px_go (by decide +kernel : pm_fe 302 149 = some (.iconst 5, 1)) rfl).trans ?_
  refine (px_go (by decide +kernel : pm_fe 302 150 = some (.iload_n 1, 1)) rfl).trans ?_
  refine (px_go (by decide +kernel : pm_fe 302 151 = some (.imul, 1)) rfl).trans ?_
  refine (px_go (by decide +kernel : pm_fe 302 152 = some (.aload_n 0, 1)) rfl).trans ?_
  refine (px_get2 (idx := 237) (ci := 12) (k := 74) (by decide +kernel)).trans ((and_iff_right h1).trans ?_)
  refine (px_go (by decide +kernel : pm_fe 302 156 = some (.iload_n 2, 1)) rfl).trans ?_
  refine (px_iaload (by decide +kernel) h2).trans ?_
  refine (px_go (by decide +kernel : pm_fe 302 158 = some (.iadd, 1)) rfl).trans ?_
  refine (px_go (by decide +kernel : pm_fe 302 159 = some (.sipush 251, 3)) rfl).trans ?_
  refine (px_irem (by decide +kernel)).trans ((and_iff_right (by decide : pm_sg (251 : Int) ≠ (0 : Int))).trans ?_)
  refine (px_go (by decide +kernel : pm_fe 302 163 = some (.istore_n 1, 1)) rfl).trans ?_
  refine (px_go (by decide +kernel : pm_fe 302 164 = some (.iinc 2 1, 3)) rfl).trans ?_
  refine (px_goto (off := (-26)) (tgt := 141) (by decide +kernel)).trans ?_
  exact Iff.rfl
theorem b302_170 {d : Nat} {G : PG} {M T : PH} {K : PV → PS → Prop} {l0 l1 l2 : Int} (h1 : pm_ob G l0 12) : pm_Run d 302 170 [.inr (.inr (.inl l0)), .inl l1, .inl l2] [] (G, M, T) K ↔ pm_Call d 300 [.inr (.inr (.inl l0)), .inl l1] (G, M, T) (fun r S1 => pm_Run d 302 175 [.inr (.inr (.inl l0)), .inl l1, .inl l2] (pm_push r []) S1 K) := by
  refine (px_go (by decide +kernel : pm_fe 302 170 = some (.aload_n 0, 1)) rfl).trans ?_
  refine (px_go (by decide +kernel : pm_fe 302 171 = some (.iload_n 1, 1)) rfl).trans ?_
  refine (px_v1 (idx := 614) (m' := 300) (ci := 12) (by decide +kernel)).trans ((and_iff_right ⟨h1, (by simp [pm_wl_n, pm_wl_c, pm_w] : pm_wl [] ≤ 8)⟩).trans ?_)
  exact Iff.rfl
theorem b302_175 {d : Nat} {G : PG} {M T : PH} {K : PV → PS → Prop} {l0 l1 l2 : Int} (h1 : pm_ob G l0 12) : pm_Run d 302 175 [.inr (.inr (.inl l0)), .inl l1, .inl l2] [] (G, M, T) K ↔ K (.inl (M l0.toNat 75)) (G, M, T) := by
  refine (px_go (by decide +kernel : pm_fe 302 175 = some (.aload_n 0, 1)) rfl).trans ?_
  refine (px_get0 (idx := 240) (ci := 12) (k := 75) (by decide +kernel)).trans ((and_iff_right h1).trans ?_)
  refine (px_ri (by decide +kernel)).trans ?_
  exact Iff.rfl
-- X12_octet octet(I)I
theorem en303 {d : Nat} {a p0 : Int} {S : PS} {K : PV → PS → Prop} : pm_Call (d + 1) 303 [.inr (.inr (.inl a)), .inl p0] S K ↔ pm_Run d 303 0 [.inr (.inr (.inl a)), .inl p0] [] S K := pm_Call_s.trans (and_iff_right (show 2 ≤ pm_ml 303 from by decide +kernel))
theorem b303_0 {d : Nat} {G : PG} {M T : PH} {K : PV → PS → Prop} {l0 l1 : Int} (h1 : pm_ob G l0 12) : pm_Run d 303 0 [.inr (.inr (.inl l0)), .inl l1] [] (G, M, T) K ↔ pm_Call d 179 [.inl l1, .inl 0, .inl ((M l0.toNat 75) - 1)] (G, M, T) (fun r S1 => pm_Run d 303 11 [.inr (.inr (.inl l0)), .inl l1] (pm_push r []) S1 K) := by
  refine (px_go (by decide +kernel : pm_fe 303 0 = some (.iload_n 1, 1)) rfl).trans ?_
  refine (px_go (by decide +kernel : pm_fe 303 1 = some (.iconst 0, 1)) rfl).trans ?_
  refine (px_go (by decide +kernel : pm_fe 303 2 = some (.aload_n 0, 1)) rfl).trans ?_
  refine (px_get0 (idx := 240) (ci := 12) (k := 75) (by decide +kernel)).trans ((and_iff_right h1).trans ?_)
  refine (px_go (by decide +kernel : pm_fe 303 6 = some (.iconst 1, 1)) rfl).trans ?_
  refine (px_go (by decide +kernel : pm_fe 303 7 = some (.isub, 1)) rfl).trans ?_
  refine (px_s3 (idx := 337) (m' := 179) (nest := 0) (by decide +kernel)).trans ((and_iff_right (by simp [pm_wl_n, pm_wl_c, pm_w] : pm_wl [] ≤ 8)).trans ?_)
  exact Iff.rfl
theorem b303_11 {d : Nat} {G : PG} {M T : PH} {K : PV → PS → Prop} {l0 l1 s0 : Int} : pm_Run d 303 11 [.inr (.inr (.inl l0)), .inl l1] [.inl s0] (G, M, T) K ↔ if pm_sg s0 = 0 then pm_Run d 303 23 [.inr (.inr (.inl l0)), .inl l1] [] (G, M, T) K else pm_Run d 303 14 [.inr (.inr (.inl l0)), .inl l1] [] (G, M, T) K := by
  refine (px_if_eq (off := 12) (tgt := 23) (by decide +kernel)).trans ?_
  exact Iff.rfl
theorem b303_14 {d : Nat} {G : PG} {M T : PH} {K : PV → PS → Prop} {l0 l1 : Int} (h1 : pm_ob G l0 12) (h2 : pm_ar G (T l0.toNat 74) 100 l1) : pm_Run d 303 14 [.inr (.inr (.inl l0)), .inl l1] [] (G, M, T) K ↔ pm_Run d 303 24 [.inr (.inr (.inl l0)), .inl l1] [.inl (M (T l0.toNat 74).toNat (pm_sg l1).toNat)] (G, M, T) K := by
  refine (px_go (by decide +kernel : pm_fe 303 14 = some (.aload_n 0, 1)) rfl).trans ?_
  refine (px_get2 (idx := 237) (ci := 12) (k := 74) (by decide +kernel)).trans ((and_iff_right h1).trans ?_)
  refine (px_go (by decide +kernel : pm_fe 303 18 = some (.iload_n 1, 1)) rfl).trans ?_
  refine (px_iaload (by decide +kernel) h2).trans ?_
  refine (px_goto (off := 4) (tgt := 24) (by decide +kernel)).trans ?_
  exact Iff.rfl
theorem b303_23 {d : Nat} {G : PG} {M T : PH} {K : PV → PS → Prop} {l0 l1 : Int} : pm_Run d 303 23 [.inr (.inr (.inl l0)), .inl l1] [] (G, M, T) K ↔ pm_Run d 303 24 [.inr (.inr (.inl l0)), .inl l1] [.inl (-1)] (G, M, T) K := by
  refine (px_go (by decide +kernel : pm_fe 303 23 = some (.iconst (-1), 1)) rfl).trans ?_
  exact Iff.rfl
theorem b303_24 {d : Nat} {G : PG} {M T : PH} {K : PV → PS → Prop} {l0 l1 s0 : Int} : pm_Run d 303 24 [.inr (.inr (.inl l0)), .inl l1] [.inl s0] (G, M, T) K ↔ K (.inl s0) (G, M, T) := by
  refine (px_ri (by decide +kernel)).trans ?_
  exact Iff.rfl
-- X12_twoBytes twoBytes(I)I
theorem en304 {d : Nat} {a p0 : Int} {S : PS} {K : PV → PS → Prop} : pm_Call (d + 1) 304 [.inr (.inr (.inl a)), .inl p0] S K ↔ pm_Run d 304 0 [.inr (.inr (.inl a)), .inl p0] [] S K := pm_Call_s.trans (and_iff_right (show 2 ≤ pm_ml 304 from by decide +kernel))
theorem b304_0 {d : Nat} {G : PG} {M T : PH} {K : PV → PS → Prop} {l0 l1 : Int} (h1 : pm_ob G l0 12) (h2 : pm_ar G (T l0.toNat 0) 100 l1) (h3 : pm_ar G (T l0.toNat 0) 100 (l1 + 1)) : pm_Run d 304 0 [.inr (.inr (.inl l0)), .inl l1] [] (G, M, T) K ↔ K (.inl (pm_or (pm_shl (M (T l0.toNat 0).toNat (pm_sg l1).toNat) 8) (M (T l0.toNat 0).toNat (pm_sg (l1 + 1)).toNat))) (G, M, T) := by
  refine (px_go (by decide +kernel : pm_fe 304 0 = some (.aload_n 0, 1)) rfl).trans ?_
  refine (px_get2 (idx := 7) (ci := 12) (k := 0) (by decide +kernel)).trans ((and_iff_right h1).trans ?_)
  refine (px_go (by decide +kernel : pm_fe 304 4 = some (.iload_n 1, 1)) rfl).trans ?_
  refine (px_iaload (by decide +kernel) h2).trans ?_
  refine (px_go (by decide +kernel : pm_fe 304 6 = some (.bipush 8, 2)) rfl).trans ?_
  refine (px_go (by decide +kernel : pm_fe 304 8 = some (.ishl, 1)) rfl).trans ?_
  refine (px_go (by decide +kernel : pm_fe 304 9 = some (.aload_n 0, 1)) rfl).trans ?_
  refine (px_get2 (idx := 7) (ci := 12) (k := 0) (by decide +kernel)).trans ((and_iff_right h1).trans ?_)
  refine (px_go (by decide +kernel : pm_fe 304 13 = some (.iload_n 1, 1)) rfl).trans ?_
  refine (px_go (by decide +kernel : pm_fe 304 14 = some (.iconst 1, 1)) rfl).trans ?_
  refine (px_go (by decide +kernel : pm_fe 304 15 = some (.iadd, 1)) rfl).trans ?_
  refine (px_iaload (by decide +kernel) h3).trans ?_
  refine (px_go (by decide +kernel : pm_fe 304 17 = some (.ior, 1)) rfl).trans ?_
  refine (px_ri (by decide +kernel)).trans ?_
  exact Iff.rfl
-- X12_comesOn comesOn(I)Z
theorem en305 {d : Nat} {a p0 : Int} {S : PS} {K : PV → PS → Prop} : pm_Call (d + 1) 305 [.inr (.inr (.inl a)), .inl p0] S K ↔ pm_Run d 305 0 [.inr (.inr (.inl a)), .inl p0, PU, PU, PU, PU, PU, PU, PU] [] S K := pm_Call_s.trans (and_iff_right (show 2 ≤ pm_ml 305 from by decide +kernel))
theorem b305_0 {d : Nat} {G : PG} {M T : PH} {K : PV → PS → Prop} {l0 l1 : Int} (h1 : pm_ob G l0 12) (h2 : pm_ar G (T l0.toNat 15) 100 (M l0.toNat 13)) : pm_Run d 305 0 [.inr (.inr (.inl l0)), .inl l1, PU, PU, PU, PU, PU, PU, PU] [] (G, M, T) K ↔ pm_Call d 226 [.inr (.inr (.inl l0))] (G, M, T) (fun r S1 => pm_Run d 305 32 [.inr (.inr (.inl l0)), .inl l1, .inl (2 + (2 * (M (T l0.toNat 15).toNat (pm_sg (M l0.toNat 13)).toNat))), .inl (2 + (3 * (M (T l0.toNat 15).toNat (pm_sg (M l0.toNat 13)).toNat))), PU, PU, PU, PU, PU] (pm_push r []) S1 K) := by
  refine (px_go (by decide +kernel : pm_fe 305 0 = some (.iconst 2, 1)) rfl).trans ?_
  refine (px_go (by decide +kernel : pm_fe 305 1 = some (.iconst 2, 1)) rfl).trans ?_
  refine (px_go (by decide +kernel : pm_fe 305 2 = some (.aload_n 0, 1)) rfl).trans ?_
  refine (px_get2 (idx := 57) (ci := 12) (k := 15) (by decide +kernel)).trans ((and_iff_right h1).trans ?_)
  refine (px_go (by decide +kernel : pm_fe 305 6 = some (.aload_n 0, 1)) rfl).trans ?_
  refine (px_get0 (idx := 51) (ci := 12) (k := 13) (by decide +kernel)).trans ((and_iff_right h1).trans ?_)
  refine (px_iaload (by decide +kernel) h2).trans ?_
  refine (px_go (by decide +kernel : pm_fe 305 11 = some (.imul, 1)) rfl).trans ?_
  refine (px_go (by decide +kernel : pm_fe 305 12 = some (.iadd, 1)) rfl).trans ?_
  refine (px_go (by decide +kernel : pm_fe 305 13 = some (.istore_n 2, 1)) rfl).trans ?_
  refine (px_go (by decide +kernel : pm_fe 305 14 = some (.iconst 2, 1)) rfl).trans ?_
  refine (px_go (by decide +kernel : pm_fe 305 15 = some (.iconst 3, 1)) rfl).trans ?_
  refine (px_go (by decide +kernel : pm_fe 305 16 = some (.aload_n 0, 1)) rfl).trans ?_
  refine (px_get2 (idx := 57) (ci := 12) (k := 15) (by decide +kernel)).trans ((and_iff_right h1).trans ?_)
  refine (px_go (by decide +kernel : pm_fe 305 20 = some (.aload_n 0, 1)) rfl).trans ?_
  refine (px_get0 (idx := 51) (ci := 12) (k := 13) (by decide +kernel)).trans ((and_iff_right h1).trans ?_)
  refine (px_iaload (by decide +kernel) h2).trans ?_
  refine (px_go (by decide +kernel : pm_fe 305 25 = some (.imul, 1)) rfl).trans ?_
  refine (px_go (by decide +kernel : pm_fe 305 26 = some (.iadd, 1)) rfl).trans ?_
  refine (px_go (by decide +kernel : pm_fe 305 27 = some (.istore_n 3, 1)) rfl).trans ?_
  refine (px_go (by decide +kernel : pm_fe 305 28 = some (.aload_n 0, 1)) rfl).trans ?_
  refine (px_v0 (idx := 523) (m' := 226) (ci := 12) (by decide +kernel)).trans ((and_iff_right ⟨h1, (by simp [pm_wl_n, pm_wl_c, pm_w] : pm_wl [] ≤ 8)⟩).trans ?_)
  exact Iff.rfl
theorem b305_32 {d : Nat} {G : PG} {M T : PH} {K : PV → PS → Prop} {l0 l1 l2 l3 s0 : Int} : pm_Run d 305 32 [.inr (.inr (.inl l0)), .inl l1, .inl l2, .inl l3, PU, PU, PU, PU, PU] [.inl s0] (G, M, T) K ↔ if pm_sg s0 = 0 then pm_Run d 305 65 [.inr (.inr (.inl l0)), .inl l1, .inl l2, .inl l3, PU, PU, PU, PU, PU] [] (G, M, T) K else pm_Run d 305 35 [.inr (.inr (.inl l0)), .inl l1, .inl l2, .inl l3, PU, PU, PU, PU, PU] [] (G, M, T) K := by
  refine (px_if_eq (off := 33) (tgt := 65) (by decide +kernel)).trans ?_
  exact Iff.rfl
theorem b305_35 {d : Nat} {G : PG} {M T : PH} {K : PV → PS → Prop} {l0 l1 l2 l3 : Int} (h1 : pm_ob G l0 12) (h2 : pm_ar G (T l0.toNat 19) 100 (M l0.toNat 13)) : pm_Run d 305 35 [.inr (.inr (.inl l0)), .inl l1, .inl l2, .inl l3, PU, PU, PU, PU, PU] [] (G, M, T) K ↔ if pm_sg l1 ≠ pm_sg ((l2 + (l3 * (M (T l0.toNat 19).toNat (pm_sg (M l0.toNat 13)).toNat))) + 1) then pm_Run d 305 65 [.inr (.inr (.inl l0)), .inl l1, .inl l2, .inl l3, PU, PU, PU, PU, PU] [] (G, M, T) K else pm_Run d 305 54 [.inr (.inr (.inl l0)), .inl l1, .inl l2, .inl l3, PU, PU, PU, PU, PU] [] (G, M, T) K := by
  refine (px_go (by decide +kernel : pm_fe 305 35 = some (.iload_n 1, 1)) rfl).trans ?_
  refine (px_go (by decide +kernel : pm_fe 305 36 = some (.iload_n 2, 1)) rfl).trans ?_
  refine (px_go (by decide +kernel : pm_fe 305 37 = some (.iload_n 3, 1)) rfl).trans ?_
  refine (px_go (by decide +kernel : pm_fe 305 38 = some (.aload_n 0, 1)) rfl).trans ?_
  refine (px_get2 (idx := 69) (ci := 12) (k := 19) (by decide +kernel)).trans ((and_iff_right h1).trans ?_)
  refine (px_go (by decide +kernel : pm_fe 305 42 = some (.aload_n 0, 1)) rfl).trans ?_
  refine (px_get0 (idx := 51) (ci := 12) (k := 13) (by decide +kernel)).trans ((and_iff_right h1).trans ?_)
  refine (px_iaload (by decide +kernel) h2).trans ?_
  refine (px_go (by decide +kernel : pm_fe 305 47 = some (.imul, 1)) rfl).trans ?_
  refine (px_go (by decide +kernel : pm_fe 305 48 = some (.iadd, 1)) rfl).trans ?_
  refine (px_go (by decide +kernel : pm_fe 305 49 = some (.iconst 1, 1)) rfl).trans ?_
  refine (px_go (by decide +kernel : pm_fe 305 50 = some (.iadd, 1)) rfl).trans ?_
  refine (px_ic_ne (off := 14) (tgt := 65) (by decide +kernel)).trans ?_
  exact Iff.rfl
theorem b305_54 {d : Nat} {G : PG} {M T : PH} {K : PV → PS → Prop} {l0 l1 l2 l3 : Int} (h1 : pm_ob G l0 12) : pm_Run d 305 54 [.inr (.inr (.inl l0)), .inl l1, .inl l2, .inl l3, PU, PU, PU, PU, PU] [] (G, M, T) K ↔ pm_Call d 304 [.inr (.inr (.inl l0)), .inl 0] (G, M, T) (fun r S1 => pm_Run d 305 59 [.inr (.inr (.inl l0)), .inl l1, .inl l2, .inl l3, PU, PU, PU, PU, PU] (pm_push r []) S1 K) := by
  refine (px_go (by decide +kernel : pm_fe 305 54 = some (.aload_n 0, 1)) rfl).trans ?_
  refine (px_go (by decide +kernel : pm_fe 305 55 = some (.iconst 0, 1)) rfl).trans ?_
  refine (px_v1 (idx := 620) (m' := 304) (ci := 12) (by decide +kernel)).trans ((and_iff_right ⟨h1, (by simp [pm_wl_n, pm_wl_c, pm_w] : pm_wl [] ≤ 8)⟩).trans ?_)
  exact Iff.rfl
theorem b305_59 {d : Nat} {G : PG} {M T : PH} {K : PV → PS → Prop} {l0 l1 l2 l3 s0 : Int} : pm_Run d 305 59 [.inr (.inr (.inl l0)), .inl l1, .inl l2, .inl l3, PU, PU, PU, PU, PU] [.inl s0] (G, M, T) K ↔ if pm_sg s0 ≤ pm_sg 9999 then pm_Run d 305 67 [.inr (.inr (.inl l0)), .inl l1, .inl l2, .inl l3, PU, PU, PU, PU, PU] [] (G, M, T) K else pm_Run d 305 65 [.inr (.inr (.inl l0)), .inl l1, .inl l2, .inl l3, PU, PU, PU, PU, PU] [] (G, M, T) K := by
  refine (px_go (by decide +kernel : pm_fe 305 59 = some (.sipush 9999, 3)) rfl).trans ?_
  refine (px_ic_le (off := 5) (tgt := 67) (by decide +kernel)).trans ?_
  exact Iff.rfl
theorem b305_65 {d : Nat} {G : PG} {M T : PH} {K : PV → PS → Prop} {l0 l1 l2 l3 : Int} : pm_Run d 305 65 [.inr (.inr (.inl l0)), .inl l1, .inl l2, .inl l3, PU, PU, PU, PU, PU] [] (G, M, T) K ↔ K (.inl 0) (G, M, T) := by
  refine (px_go (by decide +kernel : pm_fe 305 65 = some (.iconst 0, 1)) rfl).trans ?_
  refine (px_rz (by decide +kernel)).trans ((and_iff_right (by decide : (0 : Int) = (0 : Int) ∨ (0 : Int) = (1 : Int))).trans ?_)
  exact Iff.rfl
theorem b305_67 {d : Nat} {G : PG} {M T : PH} {K : PV → PS → Prop} {l0 l1 l2 l3 : Int} : pm_Run d 305 67 [.inr (.inr (.inl l0)), .inl l1, .inl l2, .inl l3, PU, PU, PU, PU, PU] [] (G, M, T) K ↔ pm_Run d 305 74 [.inr (.inr (.inl l0)), .inl l1, .inl l2, .inl l3, .inl 89, .inl 0, PU, PU, PU] [] (G, M, T) K := by
  refine (px_go (by decide +kernel : pm_fe 305 67 = some (.bipush 89, 2)) rfl).trans ?_
  refine (px_go (by decide +kernel : pm_fe 305 69 = some (.istore 4, 2)) rfl).trans ?_
  refine (px_go (by decide +kernel : pm_fe 305 71 = some (.iconst 0, 1)) rfl).trans ?_
  refine (px_go (by decide +kernel : pm_fe 305 72 = some (.istore 5, 2)) rfl).trans ?_
  exact Iff.rfl
theorem b305_74 {d : Nat} {G : PG} {M T : PH} {K : PV → PS → Prop} {l0 l1 l2 l3 l4 l5 : Int} : pm_Run d 305 74 [.inr (.inr (.inl l0)), .inl l1, .inl l2, .inl l3, .inl l4, .inl l5, PU, PU, PU] [] (G, M, T) K ↔ if pm_sg (l1 - 1) ≤ pm_sg l5 then pm_Run d 305 106 [.inr (.inr (.inl l0)), .inl l1, .inl l2, .inl l3, .inl l4, .inl l5, PU, PU, PU] [] (G, M, T) K else pm_Run d 305 82 [.inr (.inr (.inl l0)), .inl l1, .inl l2, .inl l3, .inl l4, .inl l5, PU, PU, PU] [] (G, M, T) K := by
  refine (px_go (by decide +kernel : pm_fe 305 74 = some (.iload 5, 2)) rfl).trans ?_
  refine (px_go (by decide +kernel : pm_fe 305 76 = some (.iload_n 1, 1)) rfl).trans ?_
  refine (px_go (by decide +kernel : pm_fe 305 77 = some (.iconst 1, 1)) rfl).trans ?_
  refine (px_go (by decide +kernel : pm_fe 305 78 = some (.isub, 1)) rfl).trans ?_
  refine (px_ic_ge (off := 27) (tgt := 106) (by decide +kernel)).trans ?_
  exact Iff.rfl
theorem b305_82 {d : Nat} {G : PG} {M T : PH} {K : PV → PS → Prop} {l0 l1 l2 l3 l4 l5 : Int} (h1 : pm_ob G l0 12) (h2 : pm_ar G (T l0.toNat 0) 100 l5) : pm_Run d 305 82 [.inr (.inr (.inl l0)), .inl l1, .inl l2, .inl l3, .inl l4, .inl l5, PU, PU, PU] [] (G, M, T) K ↔ pm_Run d 305 74 [.inr (.inr (.inl l0)), .inl l1, .inl l2, .inl l3, .inl (pm_rem ((5 * l4) + (M (T l0.toNat 0).toNat (pm_sg l5).toNat)) 251), .inl (l5 + 1), PU, PU, PU] [] (G, M, T) K := by
  refine (px_go (by decide +kernel : pm_fe 305 82 = some (.iconst 5, 1)) rfl).trans ?_
  refine (px_go (by decide +kernel : pm_fe 305 83 = some (.iload 4, 2)) rfl).trans ?_
  refine (px_go (by decide +kernel : pm_fe 305 85 = some (.imul, 1)) rfl).trans ?_
  refine (px_go (by decide +kernel : pm_fe 305 86 = some (.aload_n 0, 1)) rfl).trans ?_
  refine (px_get2 (idx := 7) (ci := 12) (k := 0) (by decide +kernel)).trans ((and_iff_right h1).trans ?_)
  refine (px_go (by decide +kernel : pm_fe 305 90 = some (.iload 5, 2)) rfl).trans ?_
  refine (px_iaload (by decide +kernel) h2).trans ?_
  refine (px_go (by decide +kernel : pm_fe 305 93 = some (.iadd, 1)) rfl).trans ?_
  refine (px_go (by decide +kernel : pm_fe 305 94 = some (.sipush 251, 3)) rfl).trans ?_
  refine (px_irem (by decide +kernel)).trans ((and_iff_right (by decide : pm_sg (251 : Int) ≠ (0 : Int))).trans ?_)
  refine (px_go (by decide +kernel : pm_fe 305 98 = some (.istore 4, 2)) rfl).trans ?_
  refine (px_go (by decide +kernel : pm_fe 305 100 = some (.iinc 5 1, 3)) rfl).trans ?_
  refine (px_goto (off := (-29)) (tgt := 74) (by decide +kernel)).trans ?_
  exact Iff.rfl
theorem b305_106 {d : Nat} {G : PG} {M T : PH} {K : PV → PS → Prop} {l0 l1 l2 l3 l4 l5 : Int} (h1 : pm_ob G l0 12) (h2 : pm_ar G (T l0.toNat 0) 100 (l1 - 1)) : pm_Run d 305 106 [.inr (.inr (.inl l0)), .inl l1, .inl l2, .inl l3, .inl l4, .inl l5, PU, PU, PU] [] (G, M, T) K ↔ if pm_sg (M (T l0.toNat 0).toNat (pm_sg (l1 - 1)).toNat) = pm_sg l4 then pm_Run d 305 121 [.inr (.inr (.inl l0)), .inl l1, .inl l2, .inl l3, .inl l4, .inl l5, PU, PU, PU] [] (G, M, T) K else pm_Run d 305 119 [.inr (.inr (.inl l0)), .inl l1, .inl l2, .inl l3, .inl l4, .inl l5, PU, PU, PU] [] (G, M, T) K := by
  refine (px_go (by decide +kernel : pm_fe 305 106 = some (.aload_n 0, 1)) rfl).trans ?_
  refine (px_get2 (idx := 7) (ci := 12) (k := 0) (by decide +kernel)).trans ((and_iff_right h1).trans ?_)
  refine (px_go (by decide +kernel : pm_fe 305 110 = some (.iload_n 1, 1)) rfl).trans ?_
  refine (px_go (by decide +kernel : pm_fe 305 111 = some (.iconst 1, 1)) rfl).trans ?_
  refine (px_go (by decide +kernel : pm_fe 305 112 = some (.isub, 1)) rfl).trans ?_
  refine (px_iaload (by decide +kernel) h2).trans ?_
  refine (px_go (by decide +kernel : pm_fe 305 114 = some (.iload 4, 2)) rfl).trans ?_
  refine (px_ic_eq (off := 5) (tgt := 121) (by decide +kernel)).trans ?_
  exact Iff.rfl
theorem b305_119 {d : Nat} {G : PG} {M T : PH} {K : PV → PS → Prop} {l0 l1 l2 l3 l4 l5 : Int} : pm_Run d 305 119 [.inr (.inr (.inl l0)), .inl l1, .inl l2, .inl l3, .inl l4, .inl l5, PU, PU, PU] [] (G, M, T) K ↔ K (.inl 0) (G, M, T) := by
  refine (px_go (by decide +kernel : pm_fe 305 119 = some (.iconst 0, 1)) rfl).trans ?_
  refine (px_rz (by decide +kernel)).trans ((and_iff_right (by decide : (0 : Int) = (0 : Int) ∨ (0 : Int) = (1 : Int))).trans ?_)
  exact Iff.rfl
theorem b305_121 {d : Nat} {G : PG} {M T : PH} {K : PV → PS → Prop} {l0 l1 l2 l3 l4 l5 : Int} (h1 : pm_ob G l0 12) : pm_Run d 305 121 [.inr (.inr (.inl l0)), .inl l1, .inl l2, .inl l3, .inl l4, .inl l5, PU, PU, PU] [] (G, M, T) K ↔ pm_Call d 232 [.inr (.inr (.inl l0)), .inl 1, .inl 0] (G, M, T) (fun r S1 => pm_Run d 305 127 [.inr (.inr (.inl l0)), .inl l1, .inl l2, .inl l3, .inl l4, .inl l5, PU, PU, PU] (pm_push r []) S1 K) := by
  refine (px_go (by decide +kernel : pm_fe 305 121 = some (.aload_n 0, 1)) rfl).trans ?_
  refine (px_go (by decide +kernel : pm_fe 305 122 = some (.iconst 1, 1)) rfl).trans ?_
  refine (px_go (by decide +kernel : pm_fe 305 123 = some (.iconst 0, 1)) rfl).trans ?_
  refine (px_v2 (idx := 445) (m' := 232) (ci := 12) (by decide +kernel)).trans ((and_iff_right ⟨h1, (by simp [pm_wl_n, pm_wl_c, pm_w] : pm_wl [] ≤ 8)⟩).trans ?_)
  exact Iff.rfl
theorem b305_127 {d : Nat} {G : PG} {M T : PH} {K : PV → PS → Prop} {l0 l1 l2 l3 l4 l5 : Int} (h1 : pm_ob G l0 12) : pm_Run d 305 127 [.inr (.inr (.inl l0)), .inl l1, .inl l2, .inl l3, .inl l4, .inl l5, PU, PU, PU] [] (G, M, T) K ↔ pm_Call d 304 [.inr (.inr (.inl l0)), .inl 0] (G, M, T) (fun r S1 => pm_Run d 305 137 [.inr (.inr (.inl l0)), .inl l1, .inl l2, .inl l3, .inl l4, .inl l5, PU, PU, PU] (pm_push r [.inl 1, .inr (.inr (.inl (T l0.toNat 54)))]) S1 K) := by
  refine (px_go (by decide +kernel : pm_fe 305 127 = some (.aload_n 0, 1)) rfl).trans ?_
  refine (px_get2 (idx := 177) (ci := 12) (k := 54) (by decide +kernel)).trans ((and_iff_right h1).trans ?_)
  refine (px_go (by decide +kernel : pm_fe 305 131 = some (.iconst 1, 1)) rfl).trans ?_
  refine (px_go (by decide +kernel : pm_fe 305 132 = some (.aload_n 0, 1)) rfl).trans ?_
  refine (px_go (by decide +kernel : pm_fe 305 133 = some (.iconst 0, 1)) rfl).trans ?_
  refine (px_v1 (idx := 620) (m' := 304) (ci := 12) (by decide +kernel)).trans ((and_iff_right ⟨h1, (by simp [pm_wl_n, pm_wl_c, pm_w] : pm_wl [.inl 1, .inr (.inr (.inl (T l0.toNat 54)))] ≤ 8)⟩).trans ?_)
  exact Iff.rfl
theorem b305_137 {d : Nat} {G : PG} {M T : PH} {K : PV → PS → Prop} {l0 l1 l2 l3 l4 l5 s0 s1 s2 : Int} (h1 : pm_ar G s2 100 s1) : pm_Run d 305 137 [.inr (.inr (.inl l0)), .inl l1, .inl l2, .inl l3, .inl l4, .inl l5, PU, PU, PU] [.inl s0, .inl s1, .inr (.inr (.inl s2))] (G, M, T) K ↔ pm_Run d 305 141 [.inr (.inr (.inl l0)), .inl l1, .inl l2, .inl l3, .inl l4, .inl 0, PU, PU, PU] [] (G, pm_sa M s2.toNat (pm_up (M s2.toNat) (pm_sg s1).toNat s0), T) K := by
  refine (px_iastore (by decide +kernel)).trans ((and_iff_right h1).trans ?_)
  refine (px_go (by decide +kernel : pm_fe 305 138 = some (.iconst 0, 1)) rfl).trans ?_
  refine (px_go (by decide +kernel : pm_fe 305 139 = some (.istore 5, 2)) rfl).trans ?_
  exact Iff.rfl
theorem b305_141 {d : Nat} {G : PG} {M T : PH} {K : PV → PS → Prop} {l0 l1 l2 l3 l4 l5 : Int} (h1 : pm_ob G l0 12) (h2 : pm_ar G (T l0.toNat 15) 100 (M l0.toNat 13)) : pm_Run d 305 141 [.inr (.inr (.inl l0)), .inl l1, .inl l2, .inl l3, .inl l4, .inl l5, PU, PU, PU] [] (G, M, T) K ↔ if pm_sg (M (T l0.toNat 15).toNat (pm_sg (M l0.toNat 13)).toNat) ≤ pm_sg l5 then pm_Run d 305 237 [.inr (.inr (.inl l0)), .inl l1, .inl l2, .inl l3, .inl l4, .inl l5, PU, PU, PU] [] (G, M, T) K else pm_Run d 305 155 [.inr (.inr (.inl l0)), .inl l1, .inl l2, .inl l3, .inl l4, .inl l5, PU, PU, PU] [] (G, M, T) K := by
  refine (px_go (by decide +kernel : pm_fe 305 141 = some (.iload 5, 2)) rfl).trans ?_
  refine (px_go (by decide +kernel : pm_fe 305 143 = some (.aload_n 0, 1)) rfl).trans ?_
  refine (px_get2 (idx := 57) (ci := 12) (k := 15) (by decide +kernel)).trans ((and_iff_right h1).trans ?_)
  refine (px_go (by decide +kernel : pm_fe 305 147 = some (.aload_n 0, 1)) rfl).trans ?_
  refine (px_get0 (idx := 51) (ci := 12) (k := 13) (by decide +kernel)).trans ((and_iff_right h1).trans ?_)
  refine (px_iaload (by decide +kernel) h2).trans ?_
  refine (px_ic_ge (off := 85) (tgt := 237) (by decide +kernel)).trans ?_
  exact Iff.rfl
theorem b305_155 {d : Nat} {G : PG} {M T : PH} {K : PV → PS → Prop} {l0 l1 l2 l3 l4 l5 : Int} (h1 : pm_ob G l0 12) (h2 : pm_ar G (T l0.toNat 0) 100 (2 + (2 * l5))) (h3 : pm_ar G (T l0.toNat 55) 100 (3 + l5)) (h4 : pm_ar G (T l0.toNat 0) 100 (3 + (2 * l5))) (h5 : pm_ar G (T l0.toNat 56) 100 (3 + l5)) : pm_Run d 305 155 [.inr (.inr (.inl l0)), .inl l1, .inl l2, .inl l3, .inl l4, .inl l5, PU, PU, PU] [] (G, M, T) K ↔ pm_Run d 305 195 [.inr (.inr (.inl l0)), .inl l1, .inl l2, .inl l3, .inl l4, .inl l5, PU, PU, PU] [] (G, pm_sa (pm_sa M (T l0.toNat 55).toNat (pm_up (M (T l0.toNat 55).toNat) (pm_sg (3 + l5)).toNat (M (T l0.toNat 0).toNat (pm_sg (2 + (2 * l5))).toNat))) (T l0.toNat 56).toNat (pm_up ((pm_sa M (T l0.toNat 55).toNat (pm_up (M (T l0.toNat 55).toNat) (pm_sg (3 + l5)).toNat (M (T l0.toNat 0).toNat (pm_sg (2 + (2 * l5))).toNat))) (T l0.toNat 56).toNat) (pm_sg (3 + l5)).toNat ((pm_sa M (T l0.toNat 55).toNat (pm_up (M (T l0.toNat 55).toNat) (pm_sg (3 + l5)).toNat (M (T l0.toNat 0).toNat (pm_sg (2 + (2 * l5))).toNat))) (T l0.toNat 0).toNat (pm_sg (3 + (2 * l5))).toNat)), T) K := by
  refine (px_go (by decide +kernel : pm_fe 305 155 = some (.aload_n 0, 1)) rfl).trans ?_
  refine (px_get2 (idx := 180) (ci := 12) (k := 55) (by decide +kernel)).trans ((and_iff_right h1).trans ?_)
  refine (px_go (by decide +kernel : pm_fe 305 159 = some (.iconst 3, 1)) rfl).trans ?_
  refine (px_go (by decide +kernel : pm_fe 305 160 = some (.iload 5, 2)) rfl).trans ?_
  refine (px_go (by decide +kernel : pm_fe 305 162 = some (.iadd, 1)) rfl).trans ?_
  refine (px_go (by decide +kernel : pm_fe 305 163 = some (.aload_n 0, 1)) rfl).trans ?_
  refine (px_get2 (idx := 7) (ci := 12) (k := 0) (by decide +kernel)).trans ((and_iff_right h1).trans ?_)
  refine (px_go (by decide +kernel : pm_fe 305 167 = some (.iconst 2, 1)) rfl).trans ?_
  refine (px_go (by decide +kernel : pm_fe 305 168 = some (.iconst 2, 1)) rfl).trans ?_
  refine (px_go (by decide +kernel : pm_fe 305 169 = some (.iload 5, 2)) rfl).trans ?_
  refine (px_go (by decide +kernel : pm_fe 305 171 = some (.imul, 1)) rfl).trans ?_
  refine (px_go (by decide +kernel : pm_fe 305 172 = some (.iadd, 1)) rfl).trans ?_
  refine (px_iaload (by decide +kernel) h2).trans ?_
  refine (px_iastore (by decide +kernel)).trans ((and_iff_right h3).trans ?_)
  refine (px_go (by decide +kernel : pm_fe 305 175 = some (.aload_n 0, 1)) rfl).trans ?_
  refine (px_get2 (idx := 183) (ci := 12) (k := 56) (by decide +kernel)).trans ((and_iff_right h1).trans ?_)
  refine (px_go (by decide +kernel : pm_fe 305 179 = some (.iconst 3, 1)) rfl).trans ?_
  refine (px_go (by decide +kernel : pm_fe 305 180 = some (.iload 5, 2)) rfl).trans ?_
  refine (px_go (by decide +kernel : pm_fe 305 182 = some (.iadd, 1)) rfl).trans ?_
  refine (px_go (by decide +kernel : pm_fe 305 183 = some (.aload_n 0, 1)) rfl).trans ?_
  refine (px_get2 (idx := 7) (ci := 12) (k := 0) (by decide +kernel)).trans ((and_iff_right h1).trans ?_)
  refine (px_go (by decide +kernel : pm_fe 305 187 = some (.iconst 3, 1)) rfl).trans ?_
  refine (px_go (by decide +kernel : pm_fe 305 188 = some (.iconst 2, 1)) rfl).trans ?_
  refine (px_go (by decide +kernel : pm_fe 305 189 = some (.iload 5, 2)) rfl).trans ?_
  refine (px_go (by decide +kernel : pm_fe 305 191 = some (.imul, 1)) rfl).trans ?_
  refine (px_go (by decide +kernel : pm_fe 305 192 = some (.iadd, 1)) rfl).trans ?_
  refine (px_iaload (by decide +kernel) h4).trans ?_
  refine (px_iastore (by decide +kernel)).trans ((and_iff_right h5).trans ?_)
  exact Iff.rfl
theorem b305_195 {d : Nat} {G : PG} {M T : PH} {K : PV → PS → Prop} {l0 l1 l2 l3 l4 l5 : Int} (h1 : pm_ob G l0 12) (h2 : pm_ar G (T l0.toNat 0) 100 (2 + (2 * l5))) : pm_Run d 305 195 [.inr (.inr (.inl l0)), .inl l1, .inl l2, .inl l3, .inl l4, .inl l5, PU, PU, PU] [] (G, M, T) K ↔ pm_Call d 227 [.inr (.inr (.inl l0)), .inl (M (T l0.toNat 0).toNat (pm_sg (2 + (2 * l5))).toNat)] (G, M, T) (fun r S1 => pm_Run d 305 210 [.inr (.inr (.inl l0)), .inl l1, .inl l2, .inl l3, .inl l4, .inl l5, PU, PU, PU] (pm_push r []) S1 K) := by
  refine (px_go (by decide +kernel : pm_fe 305 195 = some (.aload_n 0, 1)) rfl).trans ?_
  refine (px_go (by decide +kernel : pm_fe 305 196 = some (.aload_n 0, 1)) rfl).trans ?_
  refine (px_get2 (idx := 7) (ci := 12) (k := 0) (by decide +kernel)).trans ((and_iff_right h1).trans ?_)
  refine (px_go (by decide +kernel : pm_fe 305 200 = some (.iconst 2, 1)) rfl).trans ?_
  refine (px_go (by decide +kernel : pm_fe 305 201 = some (.iconst 2, 1)) rfl).trans ?_
  refine (px_go (by decide +kernel : pm_fe 305 202 = some (.iload 5, 2)) rfl).trans ?_
  refine (px_go (by decide +kernel : pm_fe 305 204 = some (.imul, 1)) rfl).trans ?_
  refine (px_go (by decide +kernel : pm_fe 305 205 = some (.iadd, 1)) rfl).trans ?_
  refine (px_iaload (by decide +kernel) h2).trans ?_
  refine (px_v1 (idx := 556) (m' := 227) (ci := 12) (by decide +kernel)).trans ((and_iff_right ⟨h1, (by simp [pm_wl_n, pm_wl_c, pm_w] : pm_wl [] ≤ 8)⟩).trans ?_)
  exact Iff.rfl
theorem b305_210 {d : Nat} {G : PG} {M T : PH} {K : PV → PS → Prop} {l0 l1 l2 l3 l4 l5 s0 : Int} : pm_Run d 305 210 [.inr (.inr (.inl l0)), .inl l1, .inl l2, .inl l3, .inl l4, .inl l5, PU, PU, PU] [.inl s0] (G, M, T) K ↔ if pm_sg s0 = 0 then pm_Run d 305 229 [.inr (.inr (.inl l0)), .inl l1, .inl l2, .inl l3, .inl l4, .inl l5, PU, PU, PU] [] (G, M, T) K else pm_Run d 305 213 [.inr (.inr (.inl l0)), .inl l1, .inl l2, .inl l3, .inl l4, .inl l5, PU, PU, PU] [] (G, M, T) K := by
  refine (px_if_eq (off := 19) (tgt := 229) (by decide +kernel)).trans ?_
  exact Iff.rfl
theorem b305_213 {d : Nat} {G : PG} {M T : PH} {K : PV → PS → Prop} {l0 l1 l2 l3 l4 l5 : Int} (h1 : pm_ob G l0 12) (h2 : pm_ar G (T l0.toNat 0) 100 (3 + (2 * l5))) : pm_Run d 305 213 [.inr (.inr (.inl l0)), .inl l1, .inl l2, .inl l3, .inl l4, .inl l5, PU, PU, PU] [] (G, M, T) K ↔ if pm_sg (M (T l0.toNat 0).toNat (pm_sg (3 + (2 * l5))).toNat) ≤ pm_sg 9 then pm_Run d 305 231 [.inr (.inr (.inl l0)), .inl l1, .inl l2, .inl l3, .inl l4, .inl l5, PU, PU, PU] [] (G, M, T) K else pm_Run d 305 229 [.inr (.inr (.inl l0)), .inl l1, .inl l2, .inl l3, .inl l4, .inl l5, PU, PU, PU] [] (G, M, T) K := by
  refine (px_go (by decide +kernel : pm_fe 305 213 = some (.aload_n 0, 1)) rfl).trans ?_
  refine (px_get2 (idx := 7) (ci := 12) (k := 0) (by decide +kernel)).trans ((and_iff_right h1).trans ?_)
  refine (px_go (by decide +kernel : pm_fe 305 217 = some (.iconst 3, 1)) rfl).trans ?_
  refine (px_go (by decide +kernel : pm_fe 305 218 = some (.iconst 2, 1)) rfl).trans ?_
  refine (px_go (by decide +kernel : pm_fe 305 219 = some (.iload 5, 2)) rfl).trans ?_
  refine (px_go (by decide +kernel : pm_fe 305 221 = some (.imul, 1)) rfl).trans ?_
  refine (px_go (by decide +kernel : pm_fe 305 222 = some (.iadd, 1)) rfl).trans ?_
  refine (px_iaload (by decide +kernel) h2).trans ?_
  refine (px_go (by decide +kernel : pm_fe 305 224 = some (.bipush 9, 2)) rfl).trans ?_
  refine (px_ic_le (off := 5) (tgt := 231) (by decide +kernel)).trans ?_
  exact Iff.rfl
theorem b305_229 {d : Nat} {G : PG} {M T : PH} {K : PV → PS → Prop} {l0 l1 l2 l3 l4 l5 : Int} : pm_Run d 305 229 [.inr (.inr (.inl l0)), .inl l1, .inl l2, .inl l3, .inl l4, .inl l5, PU, PU, PU] [] (G, M, T) K ↔ K (.inl 0) (G, M, T) := by
  refine (px_go (by decide +kernel : pm_fe 305 229 = some (.iconst 0, 1)) rfl).trans ?_
  refine (px_rz (by decide +kernel)).trans ((and_iff_right (by decide : (0 : Int) = (0 : Int) ∨ (0 : Int) = (1 : Int))).trans ?_)
  exact Iff.rfl
theorem b305_231 {d : Nat} {G : PG} {M T : PH} {K : PV → PS → Prop} {l0 l1 l2 l3 l4 l5 : Int} : pm_Run d 305 231 [.inr (.inr (.inl l0)), .inl l1, .inl l2, .inl l3, .inl l4, .inl l5, PU, PU, PU] [] (G, M, T) K ↔ pm_Run d 305 141 [.inr (.inr (.inl l0)), .inl l1, .inl l2, .inl l3, .inl l4, .inl (l5 + 1), PU, PU, PU] [] (G, M, T) K := by
  refine (px_go (by decide +kernel : pm_fe 305 231 = some (.iinc 5 1, 3)) rfl).trans ?_
  refine (px_goto (off := (-93)) (tgt := 141) (by decide +kernel)).trans ?_
  exact Iff.rfl
theorem b305_237 {d : Nat} {G : PG} {M T : PH} {K : PV → PS → Prop} {l0 l1 l2 l3 l4 l5 : Int} : pm_Run d 305 237 [.inr (.inr (.inl l0)), .inl l1, .inl l2, .inl l3, .inl l4, .inl l5, PU, PU, PU] [] (G, M, T) K ↔ pm_Run d 305 240 [.inr (.inr (.inl l0)), .inl l1, .inl l2, .inl l3, .inl l4, .inl 0, PU, PU, PU] [] (G, M, T) K := by
  refine (px_go (by decide +kernel : pm_fe 305 237 = some (.iconst 0, 1)) rfl).trans ?_
  refine (px_go (by decide +kernel : pm_fe 305 238 = some (.istore 5, 2)) rfl).trans ?_
  exact Iff.rfl
theorem b305_240 {d : Nat} {G : PG} {M T : PH} {K : PV → PS → Prop} {l0 l1 l2 l3 l4 l5 : Int} {l6 l7 l8 : PV} (h1 : pm_ob G l0 12) (h2 : pm_ar G (T l0.toNat 19) 100 (M l0.toNat 13)) : pm_Run d 305 240 [.inr (.inr (.inl l0)), .inl l1, .inl l2, .inl l3, .inl l4, .inl l5, l6, l7, l8] [] (G, M, T) K ↔ if pm_sg (M (T l0.toNat 19).toNat (pm_sg (M l0.toNat 13)).toNat) ≤ pm_sg l5 then pm_Run d 305 405 [.inr (.inr (.inl l0)), .inl l1, .inl l2, .inl l3, .inl l4, .inl l5, l6, l7, l8] [] (G, M, T) K else pm_Run d 305 254 [.inr (.inr (.inl l0)), .inl l1, .inl l2, .inl l3, .inl l4, .inl l5, l6, l7, l8] [] (G, M, T) K := by
  refine (px_go (by decide +kernel : pm_fe 305 240 = some (.iload 5, 2)) rfl).trans ?_
  refine (px_go (by decide +kernel : pm_fe 305 242 = some (.aload_n 0, 1)) rfl).trans ?_
  refine (px_get2 (idx := 69) (ci := 12) (k := 19) (by decide +kernel)).trans ((and_iff_right h1).trans ?_)
  refine (px_go (by decide +kernel : pm_fe 305 246 = some (.aload_n 0, 1)) rfl).trans ?_
  refine (px_get0 (idx := 51) (ci := 12) (k := 13) (by decide +kernel)).trans ((and_iff_right h1).trans ?_)
  refine (px_iaload (by decide +kernel) h2).trans ?_
  refine (px_ic_ge (off := 154) (tgt := 405) (by decide +kernel)).trans ?_
  exact Iff.rfl
theorem b305_254 {d : Nat} {G : PG} {M T : PH} {K : PV → PS → Prop} {l0 l1 l2 l3 l4 l5 : Int} {l6 l7 l8 : PV} (h1 : pm_ob G l0 12) : pm_Run d 305 254 [.inr (.inr (.inl l0)), .inl l1, .inl l2, .inl l3, .inl l4, .inl l5, l6, l7, l8] [] (G, M, T) K ↔ pm_Call d 304 [.inr (.inr (.inl l0)), .inl (l2 + (l3 * l5))] (G, M, T) (fun r S1 => pm_Run d 305 277 [.inr (.inr (.inl l0)), .inl l1, .inl l2, .inl l3, .inl l4, .inl l5, .inl (l2 + (l3 * l5)), l7, l8] (pm_push r [.inl (8 + l5), .inr (.inr (.inl (T l0.toNat 57)))]) S1 K) := by
  refine (px_go (by decide +kernel : pm_fe 305 254 = some (.iload_n 2, 1)) rfl).trans ?_
  refine (px_go (by decide +kernel : pm_fe 305 255 = some (.iload_n 3, 1)) rfl).trans ?_
  refine (px_go (by decide +kernel : pm_fe 305 256 = some (.iload 5, 2)) rfl).trans ?_
  refine (px_go (by decide +kernel : pm_fe 305 258 = some (.imul, 1)) rfl).trans ?_
  refine (px_go (by decide +kernel : pm_fe 305 259 = some (.iadd, 1)) rfl).trans ?_
  refine (px_go (by decide +kernel : pm_fe 305 260 = some (.istore 6, 2)) rfl).trans ?_
  refine (px_go (by decide +kernel : pm_fe 305 262 = some (.aload_n 0, 1)) rfl).trans ?_
  refine (px_get2 (idx := 186) (ci := 12) (k := 57) (by decide +kernel)).trans ((and_iff_right h1).trans ?_)
  refine (px_go (by decide +kernel : pm_fe 305 266 = some (.bipush 8, 2)) rfl).trans ?_
  refine (px_go (by decide +kernel : pm_fe 305 268 = some (.iload 5, 2)) rfl).trans ?_
  refine (px_go (by decide +kernel : pm_fe 305 270 = some (.iadd, 1)) rfl).trans ?_
  refine (px_go (by decide +kernel : pm_fe 305 271 = some (.aload_n 0, 1)) rfl).trans ?_
  refine (px_go (by decide +kernel : pm_fe 305 272 = some (.iload 6, 2)) rfl).trans ?_
  refine (px_v1 (idx := 620) (m' := 304) (ci := 12) (by decide +kernel)).trans ((and_iff_right ⟨h1, (by simp [pm_wl_n, pm_wl_c, pm_w] : pm_wl [.inl (8 + l5), .inr (.inr (.inl (T l0.toNat 57)))] ≤ 8)⟩).trans ?_)
  exact Iff.rfl
theorem b305_277 {d : Nat} {G : PG} {M T : PH} {K : PV → PS → Prop} {l0 l1 l2 l3 l4 l5 l6 s0 s1 s2 : Int} {l7 l8 : PV} (h1 : pm_ar G s2 100 s1) (h2 : pm_ob G l0 12) : pm_Run d 305 277 [.inr (.inr (.inl l0)), .inl l1, .inl l2, .inl l3, .inl l4, .inl l5, .inl l6, l7, l8] [.inl s0, .inl s1, .inr (.inr (.inl s2))] (G, M, T) K ↔ pm_Call d 304 [.inr (.inr (.inl l0)), .inl l6] (G, pm_sa M s2.toNat (pm_up (M s2.toNat) (pm_sg s1).toNat s0), T) (fun r S1 => pm_Run d 305 284 [.inr (.inr (.inl l0)), .inl l1, .inl l2, .inl l3, .inl l4, .inl l5, .inl l6, l7, l8] (pm_push r []) S1 K) := by
  refine (px_iastore (by decide +kernel)).trans ((and_iff_right h1).trans ?_)
  refine (px_go (by decide +kernel : pm_fe 305 278 = some (.aload_n 0, 1)) rfl).trans ?_
  refine (px_go (by decide +kernel : pm_fe 305 279 = some (.iload 6, 2)) rfl).trans ?_
  refine (px_v1 (idx := 620) (m' := 304) (ci := 12) (by decide +kernel)).trans ((and_iff_right ⟨h2, (by simp [pm_wl_n, pm_wl_c, pm_w] : pm_wl [] ≤ 8)⟩).trans ?_)
  exact Iff.rfl
theorem b305_284 {d : Nat} {G : PG} {M T : PH} {K : PV → PS → Prop} {l0 l1 l2 l3 l4 l5 l6 s0 : Int} {l7 l8 : PV} : pm_Run d 305 284 [.inr (.inr (.inl l0)), .inl l1, .inl l2, .inl l3, .inl l4, .inl l5, .inl l6, l7, l8] [.inl s0] (G, M, T) K ↔ if pm_sg s0 ≤ pm_sg 9999 then pm_Run d 305 292 [.inr (.inr (.inl l0)), .inl l1, .inl l2, .inl l3, .inl l4, .inl l5, .inl l6, l7, l8] [] (G, M, T) K else pm_Run d 305 290 [.inr (.inr (.inl l0)), .inl l1, .inl l2, .inl l3, .inl l4, .inl l5, .inl l6, l7, l8] [] (G, M, T) K := by
  refine (px_go (by decide +kernel : pm_fe 305 284 = some (.sipush 9999, 3)) rfl).trans ?_
  refine (px_ic_le (off := 5) (tgt := 292) (by decide +kernel)).trans ?_
  exact Iff.rfl
theorem b305_290 {d : Nat} {G : PG} {M T : PH} {K : PV → PS → Prop} {l0 l1 l2 l3 l4 l5 l6 : Int} {l7 l8 : PV} : pm_Run d 305 290 [.inr (.inr (.inl l0)), .inl l1, .inl l2, .inl l3, .inl l4, .inl l5, .inl l6, l7, l8] [] (G, M, T) K ↔ K (.inl 0) (G, M, T) := by
  refine (px_go (by decide +kernel : pm_fe 305 290 = some (.iconst 0, 1)) rfl).trans ?_
  refine (px_rz (by decide +kernel)).trans ((and_iff_right (by decide : (0 : Int) = (0 : Int) ∨ (0 : Int) = (1 : Int))).trans ?_)
  exact Iff.rfl
theorem b305_292 {d : Nat} {G : PG} {M T : PH} {K : PV → PS → Prop} {l0 l1 l2 l3 l4 l5 l6 : Int} {l7 l8 : PV} : pm_Run d 305 292 [.inr (.inr (.inl l0)), .inl l1, .inl l2, .inl l3, .inl l4, .inl l5, .inl l6, l7, l8] [] (G, M, T) K ↔ pm_Run d 305 295 [.inr (.inr (.inl l0)), .inl l1, .inl l2, .inl l3, .inl l4, .inl l5, .inl l6, .inl 0, l8] [] (G, M, T) K := by
  refine (px_go (by decide +kernel : pm_fe 305 292 = some (.iconst 0, 1)) rfl).trans ?_
  refine (px_go (by decide +kernel : pm_fe 305 293 = some (.istore 7, 2)) rfl).trans ?_
  exact Iff.rfl
theorem b305_295 {d : Nat} {G : PG} {M T : PH} {K : PV → PS → Prop} {l0 l1 l2 l3 l4 l5 l6 l7 : Int} {l8 : PV} (h1 : pm_ob G l0 12) (h2 : pm_ar G (T l0.toNat 15) 100 (M l0.toNat 13)) : pm_Run d 305 295 [.inr (.inr (.inl l0)), .inl l1, .inl l2, .inl l3, .inl l4, .inl l5, .inl l6, .inl l7, l8] [] (G, M, T) K ↔ if pm_sg (M (T l0.toNat 15).toNat (pm_sg (M l0.toNat 13)).toNat) ≤ pm_sg l7 then pm_Run d 305 399 [.inr (.inr (.inl l0)), .inl l1, .inl l2, .inl l3, .inl l4, .inl l5, .inl l6, .inl l7, l8] [] (G, M, T) K else pm_Run d 305 309 [.inr (.inr (.inl l0)), .inl l1, .inl l2, .inl l3, .inl l4, .inl l5, .inl l6, .inl l7, l8] [] (G, M, T) K := by
  refine (px_go (by decide +kernel : pm_fe 305 295 = some (.iload 7, 2)) rfl).trans ?_
  refine (px_go (by decide +kernel : pm_fe 305 297 = some (.aload_n 0, 1)) rfl).trans ?_
  refine (px_get2 (idx := 57) (ci := 12) (k := 15) (by decide +kernel)).trans ((and_iff_right h1).trans ?_)
  refine (px_go (by decide +kernel : pm_fe 305 301 = some (.aload_n 0, 1)) rfl).trans ?_
  refine (px_get0 (idx := 51) (ci := 12) (k := 13) (by decide +kernel)).trans ((and_iff_right h1).trans ?_)
  refine (px_iaload (by decide +kernel) h2).trans ?_
  refine (px_ic_ge (off := 93) (tgt := 399) (by decide +kernel)).trans ?_
  exact Iff.rfl
theorem b305_309 {d : Nat} {G : PG} {M T : PH} {K : PV → PS → Prop} {l0 l1 l2 l3 l4 l5 l6 l7 : Int} {l8 : PV} (h1 : pm_ob G l0 12) (h2 : pm_ar G (T l0.toNat 0) 100 ((l6 + 2) + (3 * l7))) (h3 : pm_ar G (T l0.toNat 58) 100 ((24 + (3 * l5)) + l7)) : pm_Run d 305 309 [.inr (.inr (.inl l0)), .inl l1, .inl l2, .inl l3, .inl l4, .inl l5, .inl l6, .inl l7, l8] [] (G, M, T) K ↔ pm_Call d 304 [.inr (.inr (.inl l0)), .inl (((l6 + 2) + (3 * l7)) + 1)] (G, pm_sa M (T l0.toNat 58).toNat (pm_up (M (T l0.toNat 58).toNat) (pm_sg ((24 + (3 * l5)) + l7)).toNat (M (T l0.toNat 0).toNat (pm_sg ((l6 + 2) + (3 * l7))).toNat)), T) (fun r S1 => pm_Run d 305 364 [.inr (.inr (.inl l0)), .inl l1, .inl l2, .inl l3, .inl l4, .inl l5, .inl l6, .inl l7, .inl ((l6 + 2) + (3 * l7))] (pm_push r [.inl ((24 + (3 * l5)) + l7), .inr (.inr (.inl (T l0.toNat 59)))]) S1 K) := by
  refine (px_go (by decide +kernel : pm_fe 305 309 = some (.iload 6, 2)) rfl).trans ?_
  refine (px_go (by decide +kernel : pm_fe 305 311 = some (.iconst 2, 1)) rfl).trans ?_
  refine (px_go (by decide +kernel : pm_fe 305 312 = some (.iadd, 1)) rfl).trans ?_
  refine (px_go (by decide +kernel : pm_fe 305 313 = some (.iconst 3, 1)) rfl).trans ?_
  refine (px_go (by decide +kernel : pm_fe 305 314 = some (.iload 7, 2)) rfl).trans ?_
  refine (px_go (by decide +kernel : pm_fe 305 316 = some (.imul, 1)) rfl).trans ?_
  refine (px_go (by decide +kernel : pm_fe 305 317 = some (.iadd, 1)) rfl).trans ?_
  refine (px_go (by decide +kernel : pm_fe 305 318 = some (.istore 8, 2)) rfl).trans ?_
  refine (px_go (by decide +kernel : pm_fe 305 320 = some (.aload_n 0, 1)) rfl).trans ?_
  refine (px_get2 (idx := 189) (ci := 12) (k := 58) (by decide +kernel)).trans ((and_iff_right h1).trans ?_)
  refine (px_go (by decide +kernel : pm_fe 305 324 = some (.bipush 24, 2)) rfl).trans ?_
  refine (px_go (by decide +kernel : pm_fe 305 326 = some (.iconst 3, 1)) rfl).trans ?_
  refine (px_go (by decide +kernel : pm_fe 305 327 = some (.iload 5, 2)) rfl).trans ?_
  refine (px_go (by decide +kernel : pm_fe 305 329 = some (.imul, 1)) rfl).trans ?_
  refine (px_go (by decide +kernel : pm_fe 305 330 = some (.iadd, 1)) rfl).trans ?_
  refine (px_go (by decide +kernel : pm_fe 305 331 = some (.iload 7, 2)) rfl).trans ?_
  refine (px_go (by decide +kernel : pm_fe 305 333 = some (.iadd, 1)) rfl).trans ?_
  refine (px_go (by decide +kernel : pm_fe 305 334 = some (.aload_n 0, 1)) rfl).trans ?_
  refine (px_get2 (idx := 7) (ci := 12) (k := 0) (by decide +kernel)).trans ((and_iff_right h1).trans ?_)
  refine (px_go (by decide +kernel : pm_fe 305 338 = some (.iload 8, 2)) rfl).trans ?_
  refine (px_iaload (by decide +kernel) h2).trans ?_
  refine (px_iastore (by decide +kernel)).trans ((and_iff_right h3).trans ?_)
  refine (px_go (by decide +kernel : pm_fe 305 342 = some (.aload_n 0, 1)) rfl).trans ?_
  refine (px_get2 (idx := 192) (ci := 12) (k := 59) (by decide +kernel)).trans ((and_iff_right h1).trans ?_)
  refine (px_go (by decide +kernel : pm_fe 305 346 = some (.bipush 24, 2)) rfl).trans ?_
  refine (px_go (by decide +kernel : pm_fe 305 348 = some (.iconst 3, 1)) rfl).trans ?_
  refine (px_go (by decide +kernel : pm_fe 305 349 = some (.iload 5, 2)) rfl).trans ?_
  refine (px_go (by decide +kernel : pm_fe 305 351 = some (.imul, 1)) rfl).trans ?_
  refine (px_go (by decide +kernel : pm_fe 305 352 = some (.iadd, 1)) rfl).trans ?_
  refine (px_go (by decide +kernel : pm_fe 305 353 = some (.iload 7, 2)) rfl).trans ?_
  refine (px_go (by decide +kernel : pm_fe 305 355 = some (.iadd, 1)) rfl).trans ?_
  refine (px_go (by decide +kernel : pm_fe 305 356 = some (.aload_n 0, 1)) rfl).trans ?_
  refine (px_go (by decide +kernel : pm_fe 305 357 = some (.iload 8, 2)) rfl).trans ?_
  refine (px_go (by decide +kernel : pm_fe 305 359 = some (.iconst 1, 1)) rfl).trans ?_
  refine (px_go (by decide +kernel : pm_fe 305 360 = some (.iadd, 1)) rfl).trans ?_
  refine (px_v1 (idx := 620) (m' := 304) (ci := 12) (by decide +kernel)).trans ((and_iff_right ⟨h1, (by simp [pm_wl_n, pm_wl_c, pm_w] : pm_wl [.inl ((24 + (3 * l5)) + l7), .inr (.inr (.inl (T l0.toNat 59)))] ≤ 8)⟩).trans ?_)
  exact Iff.rfl
theorem b305_364 {d : Nat} {G : PG} {M T : PH} {K : PV → PS → Prop} {l0 l1 l2 l3 l4 l5 l6 l7 l8 s0 s1 s2 : Int} (h1 : pm_ar G s2 100 s1) (h2 : pm_ob G l0 12) (h3 : pm_ar G (T l0.toNat 0) 100 l8) : pm_Run d 305 364 [.inr (.inr (.inl l0)), .inl l1, .inl l2, .inl l3, .inl l4, .inl l5, .inl l6, .inl l7, .inl l8] [.inl s0, .inl s1, .inr (.inr (.inl s2))] (G, M, T) K ↔ if pm_sg 20 < pm_sg ((pm_sa M s2.toNat (pm_up (M s2.toNat) (pm_sg s1).toNat s0)) (T l0.toNat 0).toNat (pm_sg l8).toNat) then pm_Run d 305 391 [.inr (.inr (.inl l0)), .inl l1, .inl l2, .inl l3, .inl l4, .inl l5, .inl l6, .inl l7, .inl l8] [] (G, pm_sa M s2.toNat (pm_up (M s2.toNat) (pm_sg s1).toNat s0), T) K else pm_Run d 305 377 [.inr (.inr (.inl l0)), .inl l1, .inl l2, .inl l3, .inl l4, .inl l5, .inl l6, .inl l7, .inl l8] [] (G, pm_sa M s2.toNat (pm_up (M s2.toNat) (pm_sg s1).toNat s0), T) K := by
  refine (px_iastore (by decide +kernel)).trans ((and_iff_right h1).trans ?_)
  refine (px_go (by decide +kernel : pm_fe 305 365 = some (.aload_n 0, 1)) rfl).trans ?_
  refine (px_get2 (idx := 7) (ci := 12) (k := 0) (by decide +kernel)).trans ((and_iff_right h2).trans ?_)
  refine (px_go (by decide +kernel : pm_fe 305 369 = some (.iload 8, 2)) rfl).trans ?_
  refine (px_iaload (by decide +kernel) h3).trans ?_
  refine (px_go (by decide +kernel : pm_fe 305 372 = some (.bipush 20, 2)) rfl).trans ?_
  refine (px_ic_gt (off := 17) (tgt := 391) (by decide +kernel)).trans ?_
  exact Iff.rfl
theorem b305_377 {d : Nat} {G : PG} {M T : PH} {K : PV → PS → Prop} {l0 l1 l2 l3 l4 l5 l6 l7 l8 : Int} (h1 : pm_ob G l0 12) : pm_Run d 305 377 [.inr (.inr (.inl l0)), .inl l1, .inl l2, .inl l3, .inl l4, .inl l5, .inl l6, .inl l7, .inl l8] [] (G, M, T) K ↔ pm_Call d 304 [.inr (.inr (.inl l0)), .inl (l8 + 1)] (G, M, T) (fun r S1 => pm_Run d 305 385 [.inr (.inr (.inl l0)), .inl l1, .inl l2, .inl l3, .inl l4, .inl l5, .inl l6, .inl l7, .inl l8] (pm_push r []) S1 K) := by
  refine (px_go (by decide +kernel : pm_fe 305 377 = some (.aload_n 0, 1)) rfl).trans ?_
  refine (px_go (by decide +kernel : pm_fe 305 378 = some (.iload 8, 2)) rfl).trans ?_
  refine (px_go (by decide +kernel : pm_fe 305 380 = some (.iconst 1, 1)) rfl).trans ?_
  refine (px_go (by decide +kernel : pm_fe 305 381 = some (.iadd, 1)) rfl).trans ?_
  refine (px_v1 (idx := 620) (m' := 304) (ci := 12) (by decide +kernel)).trans ((and_iff_right ⟨h1, (by simp [pm_wl_n, pm_wl_c, pm_w] : pm_wl [] ≤ 8)⟩).trans ?_)
  exact Iff.rfl
theorem b305_385 {d : Nat} {G : PG} {M T : PH} {K : PV → PS → Prop} {l0 l1 l2 l3 l4 l5 l6 l7 l8 s0 : Int} : pm_Run d 305 385 [.inr (.inr (.inl l0)), .inl l1, .inl l2, .inl l3, .inl l4, .inl l5, .inl l6, .inl l7, .inl l8] [.inl s0] (G, M, T) K ↔ if pm_sg s0 ≤ pm_sg 9999 then pm_Run d 305 393 [.inr (.inr (.inl l0)), .inl l1, .inl l2, .inl l3, .inl l4, .inl l5, .inl l6, .inl l7, .inl l8] [] (G, M, T) K else pm_Run d 305 391 [.inr (.inr (.inl l0)), .inl l1, .inl l2, .inl l3, .inl l4, .inl l5, .inl l6, .inl l7, .inl l8] [] (G, M, T) K := by
  refine (px_go (by decide +kernel : pm_fe 305 385 = some (.sipush 9999, 3)) rfl).trans ?_
  refine (px_ic_le (off := 5) (tgt := 393) (by decide +kernel)).trans ?_
  exact Iff.rfl
theorem b305_391 {d : Nat} {G : PG} {M T : PH} {K : PV → PS → Prop} {l0 l1 l2 l3 l4 l5 l6 l7 l8 : Int} : pm_Run d 305 391 [.inr (.inr (.inl l0)), .inl l1, .inl l2, .inl l3, .inl l4, .inl l5, .inl l6, .inl l7, .inl l8] [] (G, M, T) K ↔ K (.inl 0) (G, M, T) := by
  refine (px_go (by decide +kernel : pm_fe 305 391 = some (.iconst 0, 1)) rfl).trans ?_
  refine (px_rz (by decide +kernel)).trans ((and_iff_right (by decide : (0 : Int) = (0 : Int) ∨ (0 : Int) = (1 : Int))).trans ?_)
  exact Iff.rfl
theorem b305_393 {d : Nat} {G : PG} {M T : PH} {K : PV → PS → Prop} {l0 l1 l2 l3 l4 l5 l6 l7 l8 : Int} : pm_Run d 305 393 [.inr (.inr (.inl l0)), .inl l1, .inl l2, .inl l3, .inl l4, .inl l5, .inl l6, .inl l7, .inl l8] [] (G, M, T) K ↔ pm_Run d 305 295 [.inr (.inr (.inl l0)), .inl l1, .inl l2, .inl l3, .inl l4, .inl l5, .inl l6, .inl (l7 + 1), .inl l8] [] (G, M, T) K := by
  refine (px_go (by decide +kernel : pm_fe 305 393 = some (.iinc 7 1, 3)) rfl).trans ?_
  refine (px_goto (off := (-101)) (tgt := 295) (by decide +kernel)).trans ?_
  exact Iff.rfl
theorem b305_399 {d : Nat} {G : PG} {M T : PH} {K : PV → PS → Prop} {l0 l1 l2 l3 l4 l5 l6 l7 : Int} {l8 : PV} : pm_Run d 305 399 [.inr (.inr (.inl l0)), .inl l1, .inl l2, .inl l3, .inl l4, .inl l5, .inl l6, .inl l7, l8] [] (G, M, T) K ↔ pm_Run d 305 240 [.inr (.inr (.inl l0)), .inl l1, .inl l2, .inl l3, .inl l4, .inl (l5 + 1), .inl l6, .inl l7, l8] [] (G, M, T) K := by
  refine (px_go (by decide +kernel : pm_fe 305 399 = some (.iinc 5 1, 3)) rfl).trans ?_
  refine (px_goto (off := (-162)) (tgt := 240) (by decide +kernel)).trans ?_
  exact Iff.rfl
theorem b305_405 {d : Nat} {G : PG} {M T : PH} {K : PV → PS → Prop} {l0 l1 l2 l3 l4 l5 : Int} {l6 l7 l8 : PV} : pm_Run d 305 405 [.inr (.inr (.inl l0)), .inl l1, .inl l2, .inl l3, .inl l4, .inl l5, l6, l7, l8] [] (G, M, T) K ↔ K (.inl 1) (G, M, T) := by
  refine (px_go (by decide +kernel : pm_fe 305 405 = some (.iconst 1, 1)) rfl).trans ?_
  refine (px_rz (by decide +kernel)).trans ((and_iff_right (by decide : (1 : Int) = (0 : Int) ∨ (1 : Int) = (1 : Int))).trans ?_)
  exact Iff.rfl
-- X12_on on()Z
theorem en306 {d : Nat} {a : Int} {S : PS} {K : PV → PS → Prop} : pm_Call (d + 1) 306 [.inr (.inr (.inl a))] S K ↔ pm_Run d 306 0 [.inr (.inr (.inl a)), PU] [] S K := pm_Call_s.trans (and_iff_right (show 1 ≤ pm_ml 306 from by decide +kernel))
theorem b306_0 {d : Nat} {G : PG} {M T : PH} {K : PV → PS → Prop} {l0 : Int} (h1 : pm_ob G l0 12) : pm_Run d 306 0 [.inr (.inr (.inl l0)), PU] [] (G, M, T) K ↔ pm_Call d 305 [.inr (.inr (.inl l0)), .inl (M l0.toNat 1)] (G, pm_sa M l0.toNat (pm_up (M l0.toNat) 1 0), T) (fun r S1 => pm_Run d 306 15 [.inr (.inr (.inl l0)), .inl (M l0.toNat 1)] (pm_push r []) S1 K) := by
  refine (px_go (by decide +kernel : pm_fe 306 0 = some (.aload_n 0, 1)) rfl).trans ?_
  refine (px_get0 (idx := 13) (ci := 12) (k := 1) (by decide +kernel)).trans ((and_iff_right h1).trans ?_)
  refine (px_go (by decide +kernel : pm_fe 306 4 = some (.istore_n 1, 1)) rfl).trans ?_
  refine (px_go (by decide +kernel : pm_fe 306 5 = some (.aload_n 0, 1)) rfl).trans ?_
  refine (px_go (by decide +kernel : pm_fe 306 6 = some (.iconst 0, 1)) rfl).trans ?_
  refine (px_put0 (idx := 13) (ci := 12) (k := 1) (by decide +kernel)).trans ((and_iff_right h1).trans ?_)
  refine (px_go (by decide +kernel : pm_fe 306 10 = some (.aload_n 0, 1)) rfl).trans ?_
  refine (px_go (by decide +kernel : pm_fe 306 11 = some (.iload_n 1, 1)) rfl).trans ?_
  refine (px_v1 (idx := 623) (m' := 305) (ci := 12) (by decide +kernel)).trans ((and_iff_right ⟨h1, (by simp [pm_wl_n, pm_wl_c, pm_w] : pm_wl [] ≤ 8)⟩).trans ?_)
  exact Iff.rfl
theorem b306_15 {d : Nat} {G : PG} {M T : PH} {K : PV → PS → Prop} {l0 l1 s0 : Int} : pm_Run d 306 15 [.inr (.inr (.inl l0)), .inl l1] [.inl s0] (G, M, T) K ↔ if pm_sg s0 ≠ 0 then pm_Run d 306 32 [.inr (.inr (.inl l0)), .inl l1] [] (G, M, T) K else pm_Run d 306 18 [.inr (.inr (.inl l0)), .inl l1] [] (G, M, T) K := by
  refine (px_if_ne (off := 17) (tgt := 32) (by decide +kernel)).trans ?_
  exact Iff.rfl
theorem b306_18 {d : Nat} {G : PG} {M T : PH} {K : PV → PS → Prop} {l0 l1 : Int} (h1 : pm_ob G l0 12) : pm_Run d 306 18 [.inr (.inr (.inl l0)), .inl l1] [] (G, M, T) K ↔ pm_Call d 224 [.inr (.inr (.inl l0)), .inl 5] (G, M, T) (fun r S1 => pm_Run d 306 23 [.inr (.inr (.inl l0)), .inl l1] (pm_push r []) S1 K) := by
  refine (px_go (by decide +kernel : pm_fe 306 18 = some (.aload_n 0, 1)) rfl).trans ?_
  refine (px_go (by decide +kernel : pm_fe 306 19 = some (.iconst 5, 1)) rfl).trans ?_
  refine (px_v1 (idx := 243) (m' := 224) (ci := 12) (by decide +kernel)).trans ((and_iff_right ⟨h1, (by simp [pm_wl_n, pm_wl_c, pm_w] : pm_wl [] ≤ 8)⟩).trans ?_)
  exact Iff.rfl
theorem b306_23 {d : Nat} {G : PG} {M T : PH} {K : PV → PS → Prop} {l0 l1 s0 : Int} : pm_Run d 306 23 [.inr (.inr (.inl l0)), .inl l1] [.inl s0] (G, M, T) K ↔ if pm_sg s0 < 0 then pm_Run d 306 30 [.inr (.inr (.inl l0)), .inl l1] [] (G, M, T) K else pm_Run d 306 26 [.inr (.inr (.inl l0)), .inl l1] [] (G, M, T) K := by
  refine (px_if_lt (off := 7) (tgt := 30) (by decide +kernel)).trans ?_
  exact Iff.rfl
theorem b306_26 {d : Nat} {G : PG} {M T : PH} {K : PV → PS → Prop} {l0 l1 : Int} : pm_Run d 306 26 [.inr (.inr (.inl l0)), .inl l1] [] (G, M, T) K ↔ pm_Run d 306 31 [.inr (.inr (.inl l0)), .inl l1] [.inl 1] (G, M, T) K := by
  refine (px_go (by decide +kernel : pm_fe 306 26 = some (.iconst 1, 1)) rfl).trans ?_
  refine (px_goto (off := 4) (tgt := 31) (by decide +kernel)).trans ?_
  exact Iff.rfl
theorem b306_30 {d : Nat} {G : PG} {M T : PH} {K : PV → PS → Prop} {l0 l1 : Int} : pm_Run d 306 30 [.inr (.inr (.inl l0)), .inl l1] [] (G, M, T) K ↔ pm_Run d 306 31 [.inr (.inr (.inl l0)), .inl l1] [.inl 0] (G, M, T) K := by
  refine (px_go (by decide +kernel : pm_fe 306 30 = some (.iconst 0, 1)) rfl).trans ?_
  exact Iff.rfl
theorem b306_31 {d : Nat} {G : PG} {M T : PH} {K : PV → PS → Prop} {l0 l1 s0 : Int} (h1 : s0 = 0 ∨ s0 = 1) : pm_Run d 306 31 [.inr (.inr (.inl l0)), .inl l1] [.inl s0] (G, M, T) K ↔ K (.inl s0) (G, M, T) := by
  refine (px_rz (by decide +kernel)).trans ((and_iff_right h1).trans ?_)
  exact Iff.rfl
theorem b306_32 {d : Nat} {G : PG} {M T : PH} {K : PV → PS → Prop} {l0 l1 : Int} (h1 : pm_ob G l0 12) : pm_Run d 306 32 [.inr (.inr (.inl l0)), .inl l1] [] (G, M, T) K ↔ pm_Call d 232 [.inr (.inr (.inl l0)), .inl 0, .inl 1] (G, M, T) (fun r S1 => pm_Run d 306 38 [.inr (.inr (.inl l0)), .inl l1] (pm_push r []) S1 K) := by
  refine (px_go (by decide +kernel : pm_fe 306 32 = some (.aload_n 0, 1)) rfl).trans ?_
  refine (px_go (by decide +kernel : pm_fe 306 33 = some (.iconst 0, 1)) rfl).trans ?_
  refine (px_go (by decide +kernel : pm_fe 306 34 = some (.iconst 1, 1)) rfl).trans ?_
  refine (px_v2 (idx := 445) (m' := 232) (ci := 12) (by decide +kernel)).trans ((and_iff_right ⟨h1, (by simp [pm_wl_n, pm_wl_c, pm_w] : pm_wl [] ≤ 8)⟩).trans ?_)
  exact Iff.rfl
theorem b306_38 {d : Nat} {G : PG} {M T : PH} {K : PV → PS → Prop} {l0 l1 : Int} (h1 : pm_ob G l0 12) : pm_Run d 306 38 [.inr (.inr (.inl l0)), .inl l1] [] (G, M, T) K ↔ K (.inl 1) (G, pm_sa M l0.toNat (pm_up (M l0.toNat) 61 0), T) := by
  refine (px_go (by decide +kernel : pm_fe 306 38 = some (.aload_n 0, 1)) rfl).trans ?_
  refine (px_go (by decide +kernel : pm_fe 306 39 = some (.iconst 0, 1)) rfl).trans ?_
  refine (px_put0 (idx := 198) (ci := 12) (k := 61) (by decide +kernel)).trans ((and_iff_right h1).trans ?_)
  refine (px_go (by decide +kernel : pm_fe 306 43 = some (.iconst 1, 1)) rfl).trans ?_
  refine (px_rz (by decide +kernel)).trans ((and_iff_right (by decide : (1 : Int) = (0 : Int) ∨ (1 : Int) = (1 : Int))).trans ?_)
  exact Iff.rfl
