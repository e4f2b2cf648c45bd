-- X12_goesOn goesOn()Z
theorem en205 {d : Nat} {a : Int} {S : PS} {K : PV → PS → Prop} : pm_Call (d + 1) 205 [.inr (.inr (.inl a))] S K ↔ pm_Run d 205 0 [.inr (.inr (.inl a)), PU, PU, PU, PU] [] S K := pm_Call_s.trans (and_iff_right (show 1 ≤ pm_ml 205 from by decide +kernel))
theorem b205_0 {d : Nat} {G : PG} {M T : PH} {K : PV → PS → Prop} {l0 : Int} (h1 : pm_ob G l0 12) : pm_Run d 205 0 [.inr (.inr (.inl l0)), PU, PU, PU, PU] [] (G, M, T) K ↔ pm_Call d 186 [.inr (.inr (.inl l0))] (G, M, T) (fun r S1 => pm_Run d 205 4 [.inr (.inr (.inl l0)), PU, PU, PU, PU] (pm_push r []) S1 K) := by
  refine (px_go (by decide +kernel : pm_fe 205 0 = some (.aload_n 0, 1)) rfl).trans ?_
  refine (px_v0 (idx := 262) (m' := 186) (ci := 12) (by decide +kernel)).trans ((and_iff_right ⟨h1, (by simp [pm_wl_n, pm_wl_c, pm_w] : pm_wl [] ≤ 8)⟩).trans ?_)
  exact Iff.rfl
theorem b205_4 {d : Nat} {G : PG} {M T : PH} {K : PV → PS → Prop} {l0 : Int} (h1 : pm_ob G l0 12) : pm_Run d 205 4 [.inr (.inr (.inl l0)), PU, PU, PU, PU] [] (G, M, T) K ↔ if pm_sg (M l0.toNat 8) ≤ 0 then pm_Run d 205 13 [.inr (.inr (.inl l0)), PU, PU, PU, PU] [] (G, M, T) K else pm_Run d 205 11 [.inr (.inr (.inl l0)), PU, PU, PU, PU] [] (G, M, T) K := by
  refine (px_go (by decide +kernel : pm_fe 205 4 = some (.aload_n 0, 1)) rfl).trans ?_
  refine (px_get0 (idx := 36) (ci := 12) (k := 8) (by decide +kernel)).trans ((and_iff_right h1).trans ?_)
  refine (px_if_le (off := 5) (tgt := 13) (by decide +kernel)).trans ?_
  exact Iff.rfl
theorem b205_11 {d : Nat} {G : PG} {M T : PH} {K : PV → PS → Prop} {l0 : Int} : pm_Run d 205 11 [.inr (.inr (.inl l0)), PU, PU, PU, PU] [] (G, M, T) K ↔ K (.inl 0) (G, M, T) := by
  refine (px_go (by decide +kernel : pm_fe 205 11 = some (.iconst 0, 1)) rfl).trans ?_
  refine (px_rz (by decide +kernel)).trans ((and_iff_right (by decide : (0 : Int) = (0 : Int) ∨ (0 : Int) = (1 : Int))).trans ?_)
  exact Iff.rfl
theorem b205_13 {d : Nat} {G : PG} {M T : PH} {K : PV → PS → Prop} {l0 : Int} (h1 : pm_ob G l0 12) (h2 : pm_ar G (T l0.toNat 43) 100 ((M l0.toNat 48) - 1)) : pm_Run d 205 13 [.inr (.inr (.inl l0)), PU, PU, PU, PU] [] (G, M, T) K ↔ pm_Call d 203 [.inl (M (T l0.toNat 43).toNat (pm_sg ((M l0.toNat 48) - 1)).toNat)] (G, M, T) (fun r S1 => pm_Run d 205 31 [.inr (.inr (.inl l0)), .inl ((M l0.toNat 48) - 1), .inl (M (T l0.toNat 43).toNat (pm_sg ((M l0.toNat 48) - 1)).toNat), PU, PU] (pm_push r []) S1 K) := by
  refine (px_go (by decide +kernel : pm_fe 205 13 = some (.aload_n 0, 1)) rfl).trans ?_
  refine (px_get0 (idx := 158) (ci := 12) (k := 48) (by decide +kernel)).trans ((and_iff_right h1).trans ?_)
  refine (px_go (by decide +kernel : pm_fe 205 17 = some (.iconst 1, 1)) rfl).trans ?_
  refine (px_go (by decide +kernel : pm_fe 205 18 = some (.isub, 1)) rfl).trans ?_
  refine (px_go (by decide +kernel : pm_fe 205 19 = some (.istore_n 1, 1)) rfl).trans ?_
  refine (px_go (by decide +kernel : pm_fe 205 20 = some (.aload_n 0, 1)) rfl).trans ?_
  refine (px_get2 (idx := 142) (ci := 12) (k := 43) (by decide +kernel)).trans ((and_iff_right h1).trans ?_)
  refine (px_go (by decide +kernel : pm_fe 205 24 = some (.iload_n 1, 1)) rfl).trans ?_
  refine (px_iaload (by decide +kernel) h2).trans ?_
  refine (px_go (by decide +kernel : pm_fe 205 26 = some (.istore_n 2, 1)) rfl).trans ?_
  refine (px_go (by decide +kernel : pm_fe 205 27 = some (.iload_n 2, 1)) rfl).trans ?_
  refine (px_s1 (idx := 353) (m' := 203) (nest := 0) (by decide +kernel)).trans ((and_iff_right (by simp [pm_wl_n, pm_wl_c, pm_w] : pm_wl [] ≤ 8)).trans ?_)
  exact Iff.rfl
theorem b205_31 {d : Nat} {G : PG} {M T : PH} {K : PV → PS → Prop} {l0 l1 l2 s0 : Int} (h1 : pm_ob G l0 12) (h2 : pm_ar G (T l0.toNat 44) 100 l1) : pm_Run d 205 31 [.inr (.inr (.inl l0)), .inl l1, .inl l2, PU, PU] [.inl s0] (G, M, T) K ↔ if pm_sg 2 ≤ pm_sg (M (T l0.toNat 44).toNat (pm_sg l1).toNat) then pm_Run d 205 188 [.inr (.inr (.inl l0)), .inl l1, .inl l2, .inl s0, PU] [] (G, M, T) K else pm_Run d 205 42 [.inr (.inr (.inl l0)), .inl l1, .inl l2, .inl s0, PU] [] (G, M, T) K := by
  refine (px_go (by decide +kernel : pm_fe 205 31 = some (.istore_n 3, 1)) rfl).trans ?_
  refine (px_go (by decide +kernel : pm_fe 205 32 = some (.aload_n 0, 1)) rfl).trans ?_
  refine (px_get2 (idx := 145) (ci := 12) (k := 44) (by decide +kernel)).trans ((and_iff_right h1).trans ?_)
  refine (px_go (by decide +kernel : pm_fe 205 36 = some (.iload_n 1, 1)) rfl).trans ?_
  refine (px_iaload (by decide +kernel) h2).trans ?_
  refine (px_go (by decide +kernel : pm_fe 205 38 = some (.iconst 2, 1)) rfl).trans ?_
  refine (px_ic_ge (off := 149) (tgt := 188) (by decide +kernel)).trans ?_
  exact Iff.rfl
theorem b205_42 {d : Nat} {G : PG} {M T : PH} {K : PV → PS → Prop} {l0 l1 l2 l3 : Int} (h1 : pm_ob G l0 12) : pm_Run d 205 42 [.inr (.inr (.inl l0)), .inl l1, .inl l2, .inl l3, PU] [] (G, M, T) K ↔ pm_Call d 188 [.inr (.inr (.inl l0)), .inl 43] (G, M, T) (fun r S1 => pm_Run d 205 48 [.inr (.inr (.inl l0)), .inl l1, .inl l2, .inl l3, PU] (pm_push r []) S1 K) := by
  refine (px_go (by decide +kernel : pm_fe 205 42 = some (.aload_n 0, 1)) rfl).trans ?_
  refine (px_go (by decide +kernel : pm_fe 205 43 = some (.bipush 43, 2)) rfl).trans ?_
  refine (px_v1 (idx := 265) (m' := 188) (ci := 12) (by decide +kernel)).trans ((and_iff_right ⟨h1, (by simp [pm_wl_n, pm_wl_c, pm_w] : pm_wl [] ≤ 8)⟩).trans ?_)
  exact Iff.rfl
theorem b205_48 {d : Nat} {G : PG} {M T : PH} {K : PV → PS → Prop} {l0 l1 l2 l3 s0 : Int} : pm_Run d 205 48 [.inr (.inr (.inl l0)), .inl l1, .inl l2, .inl l3, PU] [.inl s0] (G, M, T) K ↔ if pm_sg s0 ≠ 0 then pm_Run d 205 87 [.inr (.inr (.inl l0)), .inl l1, .inl l2, .inl l3, PU] [] (G, M, T) K else pm_Run d 205 51 [.inr (.inr (.inl l0)), .inl l1, .inl l2, .inl l3, PU] [] (G, M, T) K := by
  refine (px_if_ne (off := 39) (tgt := 87) (by decide +kernel)).trans ?_
  exact Iff.rfl
theorem b205_51 {d : Nat} {G : PG} {M T : PH} {K : PV → PS → Prop} {l0 l1 l2 l3 : Int} (h1 : pm_ob G l0 12) : pm_Run d 205 51 [.inr (.inr (.inl l0)), .inl l1, .inl l2, .inl l3, PU] [] (G, M, T) K ↔ pm_Call d 188 [.inr (.inr (.inl l0)), .inl 45] (G, M, T) (fun r S1 => pm_Run d 205 57 [.inr (.inr (.inl l0)), .inl l1, .inl l2, .inl l3, PU] (pm_push r []) S1 K) := by
  refine (px_go (by decide +kernel : pm_fe 205 51 = some (.aload_n 0, 1)) rfl).trans ?_
  refine (px_go (by decide +kernel : pm_fe 205 52 = some (.bipush 45, 2)) rfl).trans ?_
  refine (px_v1 (idx := 265) (m' := 188) (ci := 12) (by decide +kernel)).trans ((and_iff_right ⟨h1, (by simp [pm_wl_n, pm_wl_c, pm_w] : pm_wl [] ≤ 8)⟩).trans ?_)
  exact Iff.rfl
theorem b205_57 {d : Nat} {G : PG} {M T : PH} {K : PV → PS → Prop} {l0 l1 l2 l3 s0 : Int} : pm_Run d 205 57 [.inr (.inr (.inl l0)), .inl l1, .inl l2, .inl l3, PU] [.inl s0] (G, M, T) K ↔ if pm_sg s0 ≠ 0 then pm_Run d 205 87 [.inr (.inr (.inl l0)), .inl l1, .inl l2, .inl l3, PU] [] (G, M, T) K else pm_Run d 205 60 [.inr (.inr (.inl l0)), .inl l1, .inl l2, .inl l3, PU] [] (G, M, T) K := by
  refine (px_if_ne (off := 30) (tgt := 87) (by decide +kernel)).trans ?_
  exact Iff.rfl
theorem b205_60 {d : Nat} {G : PG} {M T : PH} {K : PV → PS → Prop} {l0 l1 l2 l3 : Int} (h1 : pm_ob G l0 12) : pm_Run d 205 60 [.inr (.inr (.inl l0)), .inl l1, .inl l2, .inl l3, PU] [] (G, M, T) K ↔ pm_Call d 188 [.inr (.inr (.inl l0)), .inl 42] (G, M, T) (fun r S1 => pm_Run d 205 66 [.inr (.inr (.inl l0)), .inl l1, .inl l2, .inl l3, PU] (pm_push r []) S1 K) := by
  refine (px_go (by decide +kernel : pm_fe 205 60 = some (.aload_n 0, 1)) rfl).trans ?_
  refine (px_go (by decide +kernel : pm_fe 205 61 = some (.bipush 42, 2)) rfl).trans ?_
  refine (px_v1 (idx := 265) (m' := 188) (ci := 12) (by decide +kernel)).trans ((and_iff_right ⟨h1, (by simp [pm_wl_n, pm_wl_c, pm_w] : pm_wl [] ≤ 8)⟩).trans ?_)
  exact Iff.rfl
theorem b205_66 {d : Nat} {G : PG} {M T : PH} {K : PV → PS → Prop} {l0 l1 l2 l3 s0 : Int} : pm_Run d 205 66 [.inr (.inr (.inl l0)), .inl l1, .inl l2, .inl l3, PU] [.inl s0] (G, M, T) K ↔ if pm_sg s0 ≠ 0 then pm_Run d 205 87 [.inr (.inr (.inl l0)), .inl l1, .inl l2, .inl l3, PU] [] (G, M, T) K else pm_Run d 205 69 [.inr (.inr (.inl l0)), .inl l1, .inl l2, .inl l3, PU] [] (G, M, T) K := by
  refine (px_if_ne (off := 21) (tgt := 87) (by decide +kernel)).trans ?_
  exact Iff.rfl
theorem b205_69 {d : Nat} {G : PG} {M T : PH} {K : PV → PS → Prop} {l0 l1 l2 l3 : Int} (h1 : pm_ob G l0 12) : pm_Run d 205 69 [.inr (.inr (.inl l0)), .inl l1, .inl l2, .inl l3, PU] [] (G, M, T) K ↔ pm_Call d 188 [.inr (.inr (.inl l0)), .inl 47] (G, M, T) (fun r S1 => pm_Run d 205 75 [.inr (.inr (.inl l0)), .inl l1, .inl l2, .inl l3, PU] (pm_push r []) S1 K) := by
  refine (px_go (by decide +kernel : pm_fe 205 69 = some (.aload_n 0, 1)) rfl).trans ?_
  refine (px_go (by decide +kernel : pm_fe 205 70 = some (.bipush 47, 2)) rfl).trans ?_
  refine (px_v1 (idx := 265) (m' := 188) (ci := 12) (by decide +kernel)).trans ((and_iff_right ⟨h1, (by simp [pm_wl_n, pm_wl_c, pm_w] : pm_wl [] ≤ 8)⟩).trans ?_)
  exact Iff.rfl
theorem b205_75 {d : Nat} {G : PG} {M T : PH} {K : PV → PS → Prop} {l0 l1 l2 l3 s0 : Int} : pm_Run d 205 75 [.inr (.inr (.inl l0)), .inl l1, .inl l2, .inl l3, PU] [.inl s0] (G, M, T) K ↔ if pm_sg s0 ≠ 0 then pm_Run d 205 87 [.inr (.inr (.inl l0)), .inl l1, .inl l2, .inl l3, PU] [] (G, M, T) K else pm_Run d 205 78 [.inr (.inr (.inl l0)), .inl l1, .inl l2, .inl l3, PU] [] (G, M, T) K := by
  refine (px_if_ne (off := 12) (tgt := 87) (by decide +kernel)).trans ?_
  exact Iff.rfl
theorem b205_78 {d : Nat} {G : PG} {M T : PH} {K : PV → PS → Prop} {l0 l1 l2 l3 : Int} (h1 : pm_ob G l0 12) : pm_Run d 205 78 [.inr (.inr (.inl l0)), .inl l1, .inl l2, .inl l3, PU] [] (G, M, T) K ↔ pm_Call d 188 [.inr (.inr (.inl l0)), .inl 37] (G, M, T) (fun r S1 => pm_Run d 205 84 [.inr (.inr (.inl l0)), .inl l1, .inl l2, .inl l3, PU] (pm_push r []) S1 K) := by
  refine (px_go (by decide +kernel : pm_fe 205 78 = some (.aload_n 0, 1)) rfl).trans ?_
  refine (px_go (by decide +kernel : pm_fe 205 79 = some (.bipush 37, 2)) rfl).trans ?_
  refine (px_v1 (idx := 265) (m' := 188) (ci := 12) (by decide +kernel)).trans ((and_iff_right ⟨h1, (by simp [pm_wl_n, pm_wl_c, pm_w] : pm_wl [] ≤ 8)⟩).trans ?_)
  exact Iff.rfl
theorem b205_84 {d : Nat} {G : PG} {M T : PH} {K : PV → PS → Prop} {l0 l1 l2 l3 s0 : Int} : pm_Run d 205 84 [.inr (.inr (.inl l0)), .inl l1, .inl l2, .inl l3, PU] [.inl s0] (G, M, T) K ↔ if pm_sg s0 = 0 then pm_Run d 205 188 [.inr (.inr (.inl l0)), .inl l1, .inl l2, .inl l3, PU] [] (G, M, T) K else pm_Run d 205 87 [.inr (.inr (.inl l0)), .inl l1, .inl l2, .inl l3, PU] [] (G, M, T) K := by
  refine (px_if_eq (off := 104) (tgt := 188) (by decide +kernel)).trans ?_
  exact Iff.rfl
theorem b205_87 {d : Nat} {G : PG} {M T : PH} {K : PV → PS → Prop} {l0 l1 l2 l3 : Int} (h1 : pm_ob G l0 12) : pm_Run d 205 87 [.inr (.inr (.inl l0)), .inl l1, .inl l2, .inl l3, PU] [] (G, M, T) K ↔ pm_Call d 188 [.inr (.inr (.inl l0)), .inl 43] (G, M, T) (fun r S1 => pm_Run d 205 94 [.inr (.inr (.inl l0)), .inl l1, .inl l2, .inl l3, PU] (pm_push r [.inr (.inr (.inl l0))]) S1 K) := by
  refine (px_go (by decide +kernel : pm_fe 205 87 = some (.aload_n 0, 1)) rfl).trans ?_
  refine (px_go (by decide +kernel : pm_fe 205 88 = some (.aload_n 0, 1)) rfl).trans ?_
  refine (px_go (by decide +kernel : pm_fe 205 89 = some (.bipush 43, 2)) rfl).trans ?_
  refine (px_v1 (idx := 265) (m' := 188) (ci := 12) (by decide +kernel)).trans ((and_iff_right ⟨h1, (by simp [pm_wl_n, pm_wl_c, pm_w] : pm_wl [.inr (.inr (.inl l0))] ≤ 8)⟩).trans ?_)
  exact Iff.rfl
theorem b205_94 {d : Nat} {G : PG} {M T : PH} {K : PV → PS → Prop} {l0 l1 l2 l3 s0 s1 : Int} : pm_Run d 205 94 [.inr (.inr (.inl l0)), .inl l1, .inl l2, .inl l3, PU] [.inl s0, .inr (.inr (.inl s1))] (G, M, T) K ↔ if pm_sg s0 ≠ 0 then pm_Run d 205 106 [.inr (.inr (.inl l0)), .inl l1, .inl l2, .inl l3, PU] [.inr (.inr (.inl s1))] (G, M, T) K else pm_Run d 205 97 [.inr (.inr (.inl l0)), .inl l1, .inl l2, .inl l3, PU] [.inr (.inr (.inl s1))] (G, M, T) K := by
  refine (px_if_ne (off := 12) (tgt := 106) (by decide +kernel)).trans ?_
  exact Iff.rfl
theorem b205_97 {d : Nat} {G : PG} {M T : PH} {K : PV → PS → Prop} {l0 l1 l2 l3 s0 : Int} (h1 : pm_ob G l0 12) : pm_Run d 205 97 [.inr (.inr (.inl l0)), .inl l1, .inl l2, .inl l3, PU] [.inr (.inr (.inl s0))] (G, M, T) K ↔ pm_Call d 188 [.inr (.inr (.inl l0)), .inl 45] (G, M, T) (fun r S1 => pm_Run d 205 103 [.inr (.inr (.inl l0)), .inl l1, .inl l2, .inl l3, PU] (pm_push r [.inr (.inr (.inl s0))]) S1 K) := by
  refine (px_go (by decide +kernel : pm_fe 205 97 = some (.aload_n 0, 1)) rfl).trans ?_
  refine (px_go (by decide +kernel : pm_fe 205 98 = some (.bipush 45, 2)) rfl).trans ?_
  refine (px_v1 (idx := 265) (m' := 188) (ci := 12) (by decide +kernel)).trans ((and_iff_right ⟨h1, (by simp [pm_wl_n, pm_wl_c, pm_w] : pm_wl [.inr (.inr (.inl s0))] ≤ 8)⟩).trans ?_)
  exact Iff.rfl
theorem b205_103 {d : Nat} {G : PG} {M T : PH} {K : PV → PS → Prop} {l0 l1 l2 l3 s0 s1 : Int} : pm_Run d 205 103 [.inr (.inr (.inl l0)), .inl l1, .inl l2, .inl l3, PU] [.inl s0, .inr (.inr (.inl s1))] (G, M, T) K ↔ if pm_sg s0 = 0 then pm_Run d 205 110 [.inr (.inr (.inl l0)), .inl l1, .inl l2, .inl l3, PU] [.inr (.inr (.inl s1))] (G, M, T) K else pm_Run d 205 106 [.inr (.inr (.inl l0)), .inl l1, .inl l2, .inl l3, PU] [.inr (.inr (.inl s1))] (G, M, T) K := by
  refine (px_if_eq (off := 7) (tgt := 110) (by decide +kernel)).trans ?_
  exact Iff.rfl
theorem b205_106 {d : Nat} {G : PG} {M T : PH} {K : PV → PS → Prop} {l0 l1 l2 l3 s0 : Int} : pm_Run d 205 106 [.inr (.inr (.inl l0)), .inl l1, .inl l2, .inl l3, PU] [.inr (.inr (.inl s0))] (G, M, T) K ↔ pm_Run d 205 112 [.inr (.inr (.inl l0)), .inl l1, .inl l2, .inl l3, PU] [.inl 5, .inr (.inr (.inl s0))] (G, M, T) K := by
  refine (px_go (by decide +kernel : pm_fe 205 106 = some (.iconst 5, 1)) rfl).trans ?_
  refine (px_goto (off := 5) (tgt := 112) (by decide +kernel)).trans ?_
  exact Iff.rfl
theorem b205_110 {d : Nat} {G : PG} {M T : PH} {K : PV → PS → Prop} {l0 l1 l2 l3 s0 : Int} : pm_Run d 205 110 [.inr (.inr (.inl l0)), .inl l1, .inl l2, .inl l3, PU] [.inr (.inr (.inl s0))] (G, M, T) K ↔ pm_Run d 205 112 [.inr (.inr (.inl l0)), .inl l1, .inl l2, .inl l3, PU] [.inl 6, .inr (.inr (.inl s0))] (G, M, T) K := by
  refine (px_go (by decide +kernel : pm_fe 205 110 = some (.bipush 6, 2)) rfl).trans ?_
  exact Iff.rfl
theorem b205_112 {d : Nat} {G : PG} {M T : PH} {K : PV → PS → Prop} {l0 l1 l2 l3 s0 s1 : Int} (h1 : pm_ob G s1 12) : pm_Run d 205 112 [.inr (.inr (.inl l0)), .inl l1, .inl l2, .inl l3, PU] [.inl s0, .inr (.inr (.inl s1))] (G, M, T) K ↔ pm_Call d 199 [.inr (.inr (.inl s1)), .inl s0] (G, M, T) (fun r S1 => pm_Run d 205 115 [.inr (.inr (.inl l0)), .inl l1, .inl l2, .inl l3, PU] (pm_push r []) S1 K) := by
  refine (px_v1 (idx := 366) (m' := 199) (ci := 12) (by decide +kernel)).trans ((and_iff_right ⟨h1, (by simp [pm_wl_n, pm_wl_c, pm_w] : pm_wl [] ≤ 8)⟩).trans ?_)
  exact Iff.rfl
theorem b205_115 {d : Nat} {G : PG} {M T : PH} {K : PV → PS → Prop} {l0 l1 l2 l3 : Int} (h1 : pm_ob G l0 12) : pm_Run d 205 115 [.inr (.inr (.inl l0)), .inl l1, .inl l2, .inl l3, PU] [] (G, M, T) K ↔ pm_Call d 188 [.inr (.inr (.inl l0)), .inl 43] (G, M, T) (fun r S1 => pm_Run d 205 122 [.inr (.inr (.inl l0)), .inl l1, .inl l2, .inl l3, PU] (pm_push r [.inr (.inr (.inl l0))]) S1 K) := by
  refine (px_go (by decide +kernel : pm_fe 205 115 = some (.aload_n 0, 1)) rfl).trans ?_
  refine (px_go (by decide +kernel : pm_fe 205 116 = some (.aload_n 0, 1)) rfl).trans ?_
  refine (px_go (by decide +kernel : pm_fe 205 117 = some (.bipush 43, 2)) rfl).trans ?_
  refine (px_v1 (idx := 265) (m' := 188) (ci := 12) (by decide +kernel)).trans ((and_iff_right ⟨h1, (by simp [pm_wl_n, pm_wl_c, pm_w] : pm_wl [.inr (.inr (.inl l0))] ≤ 8)⟩).trans ?_)
  exact Iff.rfl
theorem b205_122 {d : Nat} {G : PG} {M T : PH} {K : PV → PS → Prop} {l0 l1 l2 l3 s0 s1 : Int} : pm_Run d 205 122 [.inr (.inr (.inl l0)), .inl l1, .inl l2, .inl l3, PU] [.inl s0, .inr (.inr (.inl s1))] (G, M, T) K ↔ if pm_sg s0 = 0 then pm_Run d 205 130 [.inr (.inr (.inl l0)), .inl l1, .inl l2, .inl l3, PU] [.inr (.inr (.inl s1))] (G, M, T) K else pm_Run d 205 125 [.inr (.inr (.inl l0)), .inl l1, .inl l2, .inl l3, PU] [.inr (.inr (.inl s1))] (G, M, T) K := by
  refine (px_if_eq (off := 8) (tgt := 130) (by decide +kernel)).trans ?_
  exact Iff.rfl
theorem b205_125 {d : Nat} {G : PG} {M T : PH} {K : PV → PS → Prop} {l0 l1 l2 l3 s0 : Int} : pm_Run d 205 125 [.inr (.inr (.inl l0)), .inl l1, .inl l2, .inl l3, PU] [.inr (.inr (.inl s0))] (G, M, T) K ↔ pm_Run d 205 174 [.inr (.inr (.inl l0)), .inl l1, .inl l2, .inl l3, PU] [.inl 10, .inr (.inr (.inl s0))] (G, M, T) K := by
  refine (px_go (by decide +kernel : pm_fe 205 125 = some (.bipush 10, 2)) rfl).trans ?_
  refine (px_goto (off := 47) (tgt := 174) (by decide +kernel)).trans ?_
  exact Iff.rfl
theorem b205_130 {d : Nat} {G : PG} {M T : PH} {K : PV → PS → Prop} {l0 l1 l2 l3 s0 : Int} (h1 : pm_ob G l0 12) : pm_Run d 205 130 [.inr (.inr (.inl l0)), .inl l1, .inl l2, .inl l3, PU] [.inr (.inr (.inl s0))] (G, M, T) K ↔ pm_Call d 188 [.inr (.inr (.inl l0)), .inl 45] (G, M, T) (fun r S1 => pm_Run d 205 136 [.inr (.inr (.inl l0)), .inl l1, .inl l2, .inl l3, PU] (pm_push r [.inr (.inr (.inl s0))]) S1 K) := by
  refine (px_go (by decide +kernel : pm_fe 205 130 = some (.aload_n 0, 1)) rfl).trans ?_
  refine (px_go (by decide +kernel : pm_fe 205 131 = some (.bipush 45, 2)) rfl).trans ?_
  refine (px_v1 (idx := 265) (m' := 188) (ci := 12) (by decide +kernel)).trans ((and_iff_right ⟨h1, (by simp [pm_wl_n, pm_wl_c, pm_w] : pm_wl [.inr (.inr (.inl s0))] ≤ 8)⟩).trans ?_)
  exact Iff.rfl
theorem b205_136 {d : Nat} {G : PG} {M T : PH} {K : PV → PS → Prop} {l0 l1 l2 l3 s0 s1 : Int} : pm_Run d 205 136 [.inr (.inr (.inl l0)), .inl l1, .inl l2, .inl l3, PU] [.inl s0, .inr (.inr (.inl s1))] (G, M, T) K ↔ if pm_sg s0 = 0 then pm_Run d 205 144 [.inr (.inr (.inl l0)), .inl l1, .inl l2, .inl l3, PU] [.inr (.inr (.inl s1))] (G, M, T) K else pm_Run d 205 139 [.inr (.inr (.inl l0)), .inl l1, .inl l2, .inl l3, PU] [.inr (.inr (.inl s1))] (G, M, T) K := by
  refine (px_if_eq (off := 8) (tgt := 144) (by decide +kernel)).trans ?_
  exact Iff.rfl
theorem b205_139 {d : Nat} {G : PG} {M T : PH} {K : PV → PS → Prop} {l0 l1 l2 l3 s0 : Int} : pm_Run d 205 139 [.inr (.inr (.inl l0)), .inl l1, .inl l2, .inl l3, PU] [.inr (.inr (.inl s0))] (G, M, T) K ↔ pm_Run d 205 174 [.inr (.inr (.inl l0)), .inl l1, .inl l2, .inl l3, PU] [.inl 11, .inr (.inr (.inl s0))] (G, M, T) K := by
  refine (px_go (by decide +kernel : pm_fe 205 139 = some (.bipush 11, 2)) rfl).trans ?_
  refine (px_goto (off := 33) (tgt := 174) (by decide +kernel)).trans ?_
  exact Iff.rfl
theorem b205_144 {d : Nat} {G : PG} {M T : PH} {K : PV → PS → Prop} {l0 l1 l2 l3 s0 : Int} (h1 : pm_ob G l0 12) : pm_Run d 205 144 [.inr (.inr (.inl l0)), .inl l1, .inl l2, .inl l3, PU] [.inr (.inr (.inl s0))] (G, M, T) K ↔ pm_Call d 188 [.inr (.inr (.inl l0)), .inl 42] (G, M, T) (fun r S1 => pm_Run d 205 150 [.inr (.inr (.inl l0)), .inl l1, .inl l2, .inl l3, PU] (pm_push r [.inr (.inr (.inl s0))]) S1 K) := by
  refine (px_go (by decide +kernel : pm_fe 205 144 = some (.aload_n 0, 1)) rfl).trans ?_
  refine (px_go (by decide +kernel : pm_fe 205 145 = some (.bipush 42, 2)) rfl).trans ?_
  refine (px_v1 (idx := 265) (m' := 188) (ci := 12) (by decide +kernel)).trans ((and_iff_right ⟨h1, (by simp [pm_wl_n, pm_wl_c, pm_w] : pm_wl [.inr (.inr (.inl s0))] ≤ 8)⟩).trans ?_)
  exact Iff.rfl
theorem b205_150 {d : Nat} {G : PG} {M T : PH} {K : PV → PS → Prop} {l0 l1 l2 l3 s0 s1 : Int} : pm_Run d 205 150 [.inr (.inr (.inl l0)), .inl l1, .inl l2, .inl l3, PU] [.inl s0, .inr (.inr (.inl s1))] (G, M, T) K ↔ if pm_sg s0 = 0 then pm_Run d 205 158 [.inr (.inr (.inl l0)), .inl l1, .inl l2, .inl l3, PU] [.inr (.inr (.inl s1))] (G, M, T) K else pm_Run d 205 153 [.inr (.inr (.inl l0)), .inl l1, .inl l2, .inl l3, PU] [.inr (.inr (.inl s1))] (G, M, T) K := by
  refine (px_if_eq (off := 8) (tgt := 158) (by decide +kernel)).trans ?_
  exact Iff.rfl
theorem b205_153 {d : Nat} {G : PG} {M T : PH} {K : PV → PS → Prop} {l0 l1 l2 l3 s0 : Int} : pm_Run d 205 153 [.inr (.inr (.inl l0)), .inl l1, .inl l2, .inl l3, PU] [.inr (.inr (.inl s0))] (G, M, T) K ↔ pm_Run d 205 174 [.inr (.inr (.inl l0)), .inl l1, .inl l2, .inl l3, PU] [.inl 12, .inr (.inr (.inl s0))] (G, M, T) K := by
  refine (px_go (by decide +kernel : pm_fe 205 153 = some (.bipush 12, 2)) rfl).trans ?_
  refine (px_goto (off := 19) (tgt := 174) (by decide +kernel)).trans ?_
  exact Iff.rfl
theorem b205_158 {d : Nat} {G : PG} {M T : PH} {K : PV → PS → Prop} {l0 l1 l2 l3 s0 : Int} (h1 : pm_ob G l0 12) : pm_Run d 205 158 [.inr (.inr (.inl l0)), .inl l1, .inl l2, .inl l3, PU] [.inr (.inr (.inl s0))] (G, M, T) K ↔ pm_Call d 188 [.inr (.inr (.inl l0)), .inl 47] (G, M, T) (fun r S1 => pm_Run d 205 164 [.inr (.inr (.inl l0)), .inl l1, .inl l2, .inl l3, PU] (pm_push r [.inr (.inr (.inl s0))]) S1 K) := by
  refine (px_go (by decide +kernel : pm_fe 205 158 = some (.aload_n 0, 1)) rfl).trans ?_
  refine (px_go (by decide +kernel : pm_fe 205 159 = some (.bipush 47, 2)) rfl).trans ?_
  refine (px_v1 (idx := 265) (m' := 188) (ci := 12) (by decide +kernel)).trans ((and_iff_right ⟨h1, (by simp [pm_wl_n, pm_wl_c, pm_w] : pm_wl [.inr (.inr (.inl s0))] ≤ 8)⟩).trans ?_)
  exact Iff.rfl
theorem b205_164 {d : Nat} {G : PG} {M T : PH} {K : PV → PS → Prop} {l0 l1 l2 l3 s0 s1 : Int} : pm_Run d 205 164 [.inr (.inr (.inl l0)), .inl l1, .inl l2, .inl l3, PU] [.inl s0, .inr (.inr (.inl s1))] (G, M, T) K ↔ if pm_sg s0 = 0 then pm_Run d 205 172 [.inr (.inr (.inl l0)), .inl l1, .inl l2, .inl l3, PU] [.inr (.inr (.inl s1))] (G, M, T) K else pm_Run d 205 167 [.inr (.inr (.inl l0)), .inl l1, .inl l2, .inl l3, PU] [.inr (.inr (.inl s1))] (G, M, T) K := by
  refine (px_if_eq (off := 8) (tgt := 172) (by decide +kernel)).trans ?_
  exact Iff.rfl
theorem b205_167 {d : Nat} {G : PG} {M T : PH} {K : PV → PS → Prop} {l0 l1 l2 l3 s0 : Int} : pm_Run d 205 167 [.inr (.inr (.inl l0)), .inl l1, .inl l2, .inl l3, PU] [.inr (.inr (.inl s0))] (G, M, T) K ↔ pm_Run d 205 174 [.inr (.inr (.inl l0)), .inl l1, .inl l2, .inl l3, PU] [.inl 13, .inr (.inr (.inl s0))] (G, M, T) K := by
  refine (px_go (by decide +kernel : pm_fe 205 167 = some (.bipush 13, 2)) rfl).trans ?_
  refine (px_goto (off := 5) (tgt := 174) (by decide +kernel)).trans ?_
  exact Iff.rfl
theorem b205_172 {d : Nat} {G : PG} {M T : PH} {K : PV → PS → Prop} {l0 l1 l2 l3 s0 : Int} : pm_Run d 205 172 [.inr (.inr (.inl l0)), .inl l1, .inl l2, .inl l3, PU] [.inr (.inr (.inl s0))] (G, M, T) K ↔ pm_Run d 205 174 [.inr (.inr (.inl l0)), .inl l1, .inl l2, .inl l3, PU] [.inl 14, .inr (.inr (.inl s0))] (G, M, T) K := by
  refine (px_go (by decide +kernel : pm_fe 205 172 = some (.bipush 14, 2)) rfl).trans ?_
  exact Iff.rfl
theorem b205_174 {d : Nat} {G : PG} {M T : PH} {K : PV → PS → Prop} {l0 l1 l2 l3 s0 s1 : Int} (h1 : pm_ob G s1 12) : pm_Run d 205 174 [.inr (.inr (.inl l0)), .inl l1, .inl l2, .inl l3, PU] [.inl s0, .inr (.inr (.inl s1))] (G, M, T) K ↔ pm_Call d 200 [.inr (.inr (.inl s1)), .inl s0] (G, M, T) (fun r S1 => pm_Run d 205 177 [.inr (.inr (.inl l0)), .inl l1, .inl l2, .inl l3, PU] (pm_push r []) S1 K) := by
  refine (px_v1 (idx := 360) (m' := 200) (ci := 12) (by decide +kernel)).trans ((and_iff_right ⟨h1, (by simp [pm_wl_n, pm_wl_c, pm_w] : pm_wl [] ≤ 8)⟩).trans ?_)
  exact Iff.rfl
theorem b205_177 {d : Nat} {G : PG} {M T : PH} {K : PV → PS → Prop} {l0 l1 l2 l3 : Int} (h1 : pm_ob G l0 12) : pm_Run d 205 177 [.inr (.inr (.inl l0)), .inl l1, .inl l2, .inl l3, PU] [] (G, M, T) K ↔ pm_Call d 187 [.inr (.inr (.inl l0))] (G, M, T) (fun r S1 => pm_Run d 205 181 [.inr (.inr (.inl l0)), .inl l1, .inl l2, .inl l3, PU] (pm_push r []) S1 K) := by
  refine (px_go (by decide +kernel : pm_fe 205 177 = some (.aload_n 0, 1)) rfl).trans ?_
  refine (px_v0 (idx := 268) (m' := 187) (ci := 12) (by decide +kernel)).trans ((and_iff_right ⟨h1, (by simp [pm_wl_n, pm_wl_c, pm_w] : pm_wl [] ≤ 8)⟩).trans ?_)
  exact Iff.rfl
theorem b205_181 {d : Nat} {G : PG} {M T : PH} {K : PV → PS → Prop} {l0 l1 l2 l3 : Int} (h1 : pm_ob G l0 12) : pm_Run d 205 181 [.inr (.inr (.inl l0)), .inl l1, .inl l2, .inl l3, PU] [] (G, M, T) K ↔ K (.inl 1) (G, pm_sa M l0.toNat (pm_up (M l0.toNat) 52 0), T) := by
  refine (px_go (by decide +kernel : pm_fe 205 181 = some (.aload_n 0, 1)) rfl).trans ?_
  refine (px_go (by decide +kernel : pm_fe 205 182 = some (.iconst 0, 1)) rfl).trans ?_
  refine (px_put3 (idx := 170) (ci := 12) (k := 52) (by decide +kernel)).trans ((and_iff_right ⟨h1, (by decide : (0 : Int) = (0 : Int) ∨ (0 : Int) = (1 : Int))⟩).trans ?_)
  refine (px_go (by decide +kernel : pm_fe 205 186 = some (.iconst 1, 1)) rfl).trans ?_
  refine (px_rz (by decide +kernel)).trans ((and_iff_right (by decide : (1 : Int) = (0 : Int) ∨ (1 : Int) = (1 : Int))).trans ?_)
  exact Iff.rfl
theorem b205_188 {d : Nat} {G : PG} {M T : PH} {K : PV → PS → Prop} {l0 l1 l2 l3 : Int} : pm_Run d 205 188 [.inr (.inr (.inl l0)), .inl l1, .inl l2, .inl l3, PU] [] (G, M, T) K ↔ if pm_sg l3 = 0 then pm_Run d 205 285 [.inr (.inr (.inl l0)), .inl l1, .inl l2, .inl l3, PU] [] (G, M, T) K else pm_Run d 205 192 [.inr (.inr (.inl l0)), .inl l1, .inl l2, .inl l3, PU] [] (G, M, T) K := by
  refine (px_go (by decide +kernel : pm_fe 205 188 = some (.iload_n 3, 1)) rfl).trans ?_
  refine (px_if_eq (off := 96) (tgt := 285) (by decide +kernel)).trans ?_
  exact Iff.rfl
theorem b205_192 {d : Nat} {G : PG} {M T : PH} {K : PV → PS → Prop} {l0 l1 l2 l3 : Int} (h1 : pm_ob G l0 12) (h2 : pm_ar G (T l0.toNat 44) 100 l1) : pm_Run d 205 192 [.inr (.inr (.inl l0)), .inl l1, .inl l2, .inl l3, PU] [] (G, M, T) K ↔ if pm_sg (M (T l0.toNat 44).toNat (pm_sg l1).toNat) ≠ 0 then pm_Run d 205 285 [.inr (.inr (.inl l0)), .inl l1, .inl l2, .inl l3, PU] [] (G, M, T) K else pm_Run d 205 201 [.inr (.inr (.inl l0)), .inl l1, .inl l2, .inl l3, PU] [] (G, M, T) K := by
  refine (px_go (by decide +kernel : pm_fe 205 192 = some (.aload_n 0, 1)) rfl).trans ?_
  refine (px_get2 (idx := 145) (ci := 12) (k := 44) (by decide +kernel)).trans ((and_iff_right h1).trans ?_)
  refine (px_go (by decide +kernel : pm_fe 205 196 = some (.iload_n 1, 1)) rfl).trans ?_
  refine (px_iaload (by decide +kernel) h2).trans ?_
  refine (px_if_ne (off := 87) (tgt := 285) (by decide +kernel)).trans ?_
  exact Iff.rfl
theorem b205_201 {d : Nat} {G : PG} {M T : PH} {K : PV → PS → Prop} {l0 l1 l2 l3 : Int} (h1 : pm_ob G l0 12) : pm_Run d 205 201 [.inr (.inr (.inl l0)), .inl l1, .inl l2, .inl l3, PU] [] (G, M, T) K ↔ pm_Call d 188 [.inr (.inr (.inl l0)), .inl 60] (G, M, T) (fun r S1 => pm_Run d 205 207 [.inr (.inr (.inl l0)), .inl l1, .inl l2, .inl l3, PU] (pm_push r []) S1 K) := by
  refine (px_go (by decide +kernel : pm_fe 205 201 = some (.aload_n 0, 1)) rfl).trans ?_
  refine (px_go (by decide +kernel : pm_fe 205 202 = some (.bipush 60, 2)) rfl).trans ?_
  refine (px_v1 (idx := 265) (m' := 188) (ci := 12) (by decide +kernel)).trans ((and_iff_right ⟨h1, (by simp [pm_wl_n, pm_wl_c, pm_w] : pm_wl [] ≤ 8)⟩).trans ?_)
  exact Iff.rfl
theorem b205_207 {d : Nat} {G : PG} {M T : PH} {K : PV → PS → Prop} {l0 l1 l2 l3 s0 : Int} : pm_Run d 205 207 [.inr (.inr (.inl l0)), .inl l1, .inl l2, .inl l3, PU] [.inl s0] (G, M, T) K ↔ if pm_sg s0 ≠ 0 then pm_Run d 205 228 [.inr (.inr (.inl l0)), .inl l1, .inl l2, .inl l3, PU] [] (G, M, T) K else pm_Run d 205 210 [.inr (.inr (.inl l0)), .inl l1, .inl l2, .inl l3, PU] [] (G, M, T) K := by
  refine (px_if_ne (off := 21) (tgt := 228) (by decide +kernel)).trans ?_
  exact Iff.rfl
theorem b205_210 {d : Nat} {G : PG} {M T : PH} {K : PV → PS → Prop} {l0 l1 l2 l3 : Int} (h1 : pm_ob G l0 12) : pm_Run d 205 210 [.inr (.inr (.inl l0)), .inl l1, .inl l2, .inl l3, PU] [] (G, M, T) K ↔ pm_Call d 188 [.inr (.inr (.inl l0)), .inl 62] (G, M, T) (fun r S1 => pm_Run d 205 216 [.inr (.inr (.inl l0)), .inl l1, .inl l2, .inl l3, PU] (pm_push r []) S1 K) := by
  refine (px_go (by decide +kernel : pm_fe 205 210 = some (.aload_n 0, 1)) rfl).trans ?_
  refine (px_go (by decide +kernel : pm_fe 205 211 = some (.bipush 62, 2)) rfl).trans ?_
  refine (px_v1 (idx := 265) (m' := 188) (ci := 12) (by decide +kernel)).trans ((and_iff_right ⟨h1, (by simp [pm_wl_n, pm_wl_c, pm_w] : pm_wl [] ≤ 8)⟩).trans ?_)
  exact Iff.rfl
theorem b205_216 {d : Nat} {G : PG} {M T : PH} {K : PV → PS → Prop} {l0 l1 l2 l3 s0 : Int} : pm_Run d 205 216 [.inr (.inr (.inl l0)), .inl l1, .inl l2, .inl l3, PU] [.inl s0] (G, M, T) K ↔ if pm_sg s0 ≠ 0 then pm_Run d 205 228 [.inr (.inr (.inl l0)), .inl l1, .inl l2, .inl l3, PU] [] (G, M, T) K else pm_Run d 205 219 [.inr (.inr (.inl l0)), .inl l1, .inl l2, .inl l3, PU] [] (G, M, T) K := by
  refine (px_if_ne (off := 12) (tgt := 228) (by decide +kernel)).trans ?_
  exact Iff.rfl
theorem b205_219 {d : Nat} {G : PG} {M T : PH} {K : PV → PS → Prop} {l0 l1 l2 l3 : Int} (h1 : pm_ob G l0 12) : pm_Run d 205 219 [.inr (.inr (.inl l0)), .inl l1, .inl l2, .inl l3, PU] [] (G, M, T) K ↔ pm_Call d 188 [.inr (.inr (.inl l0)), .inl 61] (G, M, T) (fun r S1 => pm_Run d 205 225 [.inr (.inr (.inl l0)), .inl l1, .inl l2, .inl l3, PU] (pm_push r []) S1 K) := by
  refine (px_go (by decide +kernel : pm_fe 205 219 = some (.aload_n 0, 1)) rfl).trans ?_
  refine (px_go (by decide +kernel : pm_fe 205 220 = some (.bipush 61, 2)) rfl).trans ?_
  refine (px_v1 (idx := 265) (m' := 188) (ci := 12) (by decide +kernel)).trans ((and_iff_right ⟨h1, (by simp [pm_wl_n, pm_wl_c, pm_w] : pm_wl [] ≤ 8)⟩).trans ?_)
  exact Iff.rfl
theorem b205_225 {d : Nat} {G : PG} {M T : PH} {K : PV → PS → Prop} {l0 l1 l2 l3 s0 : Int} : pm_Run d 205 225 [.inr (.inr (.inl l0)), .inl l1, .inl l2, .inl l3, PU] [.inl s0] (G, M, T) K ↔ if pm_sg s0 = 0 then pm_Run d 205 285 [.inr (.inr (.inl l0)), .inl l1, .inl l2, .inl l3, PU] [] (G, M, T) K else pm_Run d 205 228 [.inr (.inr (.inl l0)), .inl l1, .inl l2, .inl l3, PU] [] (G, M, T) K := by
  refine (px_if_eq (off := 60) (tgt := 285) (by decide +kernel)).trans ?_
  exact Iff.rfl
theorem b205_228 {d : Nat} {G : PG} {M T : PH} {K : PV → PS → Prop} {l0 l1 l2 l3 : Int} (h1 : pm_ob G l0 12) : pm_Run d 205 228 [.inr (.inr (.inl l0)), .inl l1, .inl l2, .inl l3, PU] [] (G, M, T) K ↔ pm_Call d 199 [.inr (.inr (.inl l0)), .inl 5] (G, M, T) (fun r S1 => pm_Run d 205 233 [.inr (.inr (.inl l0)), .inl l1, .inl l2, .inl l3, PU] (pm_push r []) S1 K) := by
  refine (px_go (by decide +kernel : pm_fe 205 228 = some (.aload_n 0, 1)) rfl).trans ?_
  refine (px_go (by decide +kernel : pm_fe 205 229 = some (.iconst 5, 1)) rfl).trans ?_
  refine (px_v1 (idx := 366) (m' := 199) (ci := 12) (by decide +kernel)).trans ((and_iff_right ⟨h1, (by simp [pm_wl_n, pm_wl_c, pm_w] : pm_wl [] ≤ 8)⟩).trans ?_)
  exact Iff.rfl
theorem b205_233 {d : Nat} {G : PG} {M T : PH} {K : PV → PS → Prop} {l0 l1 l2 l3 : Int} (h1 : pm_ob G l0 12) : pm_Run d 205 233 [.inr (.inr (.inl l0)), .inl l1, .inl l2, .inl l3, PU] [] (G, M, T) K ↔ pm_Call d 188 [.inr (.inr (.inl l0)), .inl 60] (G, M, T) (fun r S1 => pm_Run d 205 240 [.inr (.inr (.inl l0)), .inl l1, .inl l2, .inl l3, PU] (pm_push r [.inr (.inr (.inl l0))]) S1 K) := by
  refine (px_go (by decide +kernel : pm_fe 205 233 = some (.aload_n 0, 1)) rfl).trans ?_
  refine (px_go (by decide +kernel : pm_fe 205 234 = some (.aload_n 0, 1)) rfl).trans ?_
  refine (px_go (by decide +kernel : pm_fe 205 235 = some (.bipush 60, 2)) rfl).trans ?_
  refine (px_v1 (idx := 265) (m' := 188) (ci := 12) (by decide +kernel)).trans ((and_iff_right ⟨h1, (by simp [pm_wl_n, pm_wl_c, pm_w] : pm_wl [.inr (.inr (.inl l0))] ≤ 8)⟩).trans ?_)
  exact Iff.rfl
theorem b205_240 {d : Nat} {G : PG} {M T : PH} {K : PV → PS → Prop} {l0 l1 l2 l3 s0 s1 : Int} : pm_Run d 205 240 [.inr (.inr (.inl l0)), .inl l1, .inl l2, .inl l3, PU] [.inl s0, .inr (.inr (.inl s1))] (G, M, T) K ↔ if pm_sg s0 = 0 then pm_Run d 205 248 [.inr (.inr (.inl l0)), .inl l1, .inl l2, .inl l3, PU] [.inr (.inr (.inl s1))] (G, M, T) K else pm_Run d 205 243 [.inr (.inr (.inl l0)), .inl l1, .inl l2, .inl l3, PU] [.inr (.inr (.inl s1))] (G, M, T) K := by
  refine (px_if_eq (off := 8) (tgt := 248) (by decide +kernel)).trans ?_
  exact Iff.rfl
theorem b205_243 {d : Nat} {G : PG} {M T : PH} {K : PV → PS → Prop} {l0 l1 l2 l3 s0 : Int} : pm_Run d 205 243 [.inr (.inr (.inl l0)), .inl l1, .inl l2, .inl l3, PU] [.inr (.inr (.inl s0))] (G, M, T) K ↔ pm_Run d 205 264 [.inr (.inr (.inl l0)), .inl l1, .inl l2, .inl l3, PU] [.inl 17, .inr (.inr (.inl s0))] (G, M, T) K := by
  refine (px_go (by decide +kernel : pm_fe 205 243 = some (.bipush 17, 2)) rfl).trans ?_
  refine (px_goto (off := 19) (tgt := 264) (by decide +kernel)).trans ?_
  exact Iff.rfl
theorem b205_248 {d : Nat} {G : PG} {M T : PH} {K : PV → PS → Prop} {l0 l1 l2 l3 s0 : Int} (h1 : pm_ob G l0 12) : pm_Run d 205 248 [.inr (.inr (.inl l0)), .inl l1, .inl l2, .inl l3, PU] [.inr (.inr (.inl s0))] (G, M, T) K ↔ pm_Call d 188 [.inr (.inr (.inl l0)), .inl 62] (G, M, T) (fun r S1 => pm_Run d 205 254 [.inr (.inr (.inl l0)), .inl l1, .inl l2, .inl l3, PU] (pm_push r [.inr (.inr (.inl s0))]) S1 K) := by
  refine (px_go (by decide +kernel : pm_fe 205 248 = some (.aload_n 0, 1)) rfl).trans ?_
  refine (px_go (by decide +kernel : pm_fe 205 249 = some (.bipush 62, 2)) rfl).trans ?_
  refine (px_v1 (idx := 265) (m' := 188) (ci := 12) (by decide +kernel)).trans ((and_iff_right ⟨h1, (by simp [pm_wl_n, pm_wl_c, pm_w] : pm_wl [.inr (.inr (.inl s0))] ≤ 8)⟩).trans ?_)
  exact Iff.rfl
theorem b205_254 {d : Nat} {G : PG} {M T : PH} {K : PV → PS → Prop} {l0 l1 l2 l3 s0 s1 : Int} : pm_Run d 205 254 [.inr (.inr (.inl l0)), .inl l1, .inl l2, .inl l3, PU] [.inl s0, .inr (.inr (.inl s1))] (G, M, T) K ↔ if pm_sg s0 = 0 then pm_Run d 205 262 [.inr (.inr (.inl l0)), .inl l1, .inl l2, .inl l3, PU] [.inr (.inr (.inl s1))] (G, M, T) K else pm_Run d 205 257 [.inr (.inr (.inl l0)), .inl l1, .inl l2, .inl l3, PU] [.inr (.inr (.inl s1))] (G, M, T) K := by
  refine (px_if_eq (off := 8) (tgt := 262) (by decide +kernel)).trans ?_
  exact Iff.rfl
theorem b205_257 {d : Nat} {G : PG} {M T : PH} {K : PV → PS → Prop} {l0 l1 l2 l3 s0 : Int} : pm_Run d 205 257 [.inr (.inr (.inl l0)), .inl l1, .inl l2, .inl l3, PU] [.inr (.inr (.inl s0))] (G, M, T) K ↔ pm_Run d 205 264 [.inr (.inr (.inl l0)), .inl l1, .inl l2, .inl l3, PU] [.inl 18, .inr (.inr (.inl s0))] (G, M, T) K := by
  refine (px_go (by decide +kernel : pm_fe 205 257 = some (.bipush 18, 2)) rfl).trans ?_
  refine (px_goto (off := 5) (tgt := 264) (by decide +kernel)).trans ?_
  exact Iff.rfl
theorem b205_262 {d : Nat} {G : PG} {M T : PH} {K : PV → PS → Prop} {l0 l1 l2 l3 s0 : Int} : pm_Run d 205 262 [.inr (.inr (.inl l0)), .inl l1, .inl l2, .inl l3, PU] [.inr (.inr (.inl s0))] (G, M, T) K ↔ pm_Run d 205 264 [.inr (.inr (.inl l0)), .inl l1, .inl l2, .inl l3, PU] [.inl 19, .inr (.inr (.inl s0))] (G, M, T) K := by
  refine (px_go (by decide +kernel : pm_fe 205 262 = some (.bipush 19, 2)) rfl).trans ?_
  exact Iff.rfl
theorem b205_264 {d : Nat} {G : PG} {M T : PH} {K : PV → PS → Prop} {l0 l1 l2 l3 s0 s1 : Int} (h1 : pm_ob G s1 12) : pm_Run d 205 264 [.inr (.inr (.inl l0)), .inl l1, .inl l2, .inl l3, PU] [.inl s0, .inr (.inr (.inl s1))] (G, M, T) K ↔ pm_Call d 200 [.inr (.inr (.inl s1)), .inl s0] (G, M, T) (fun r S1 => pm_Run d 205 267 [.inr (.inr (.inl l0)), .inl l1, .inl l2, .inl l3, PU] (pm_push r []) S1 K) := by
  refine (px_v1 (idx := 360) (m' := 200) (ci := 12) (by decide +kernel)).trans ((and_iff_right ⟨h1, (by simp [pm_wl_n, pm_wl_c, pm_w] : pm_wl [] ≤ 8)⟩).trans ?_)
  exact Iff.rfl
theorem b205_267 {d : Nat} {G : PG} {M T : PH} {K : PV → PS → Prop} {l0 l1 l2 l3 : Int} (h1 : pm_ob G l0 12) (h2 : pm_ar G (T l0.toNat 44) 100 l1) : pm_Run d 205 267 [.inr (.inr (.inl l0)), .inl l1, .inl l2, .inl l3, PU] [] (G, M, T) K ↔ pm_Call d 187 [.inr (.inr (.inl l0))] (G, pm_sa M (T l0.toNat 44).toNat (pm_up (M (T l0.toNat 44).toNat) (pm_sg l1).toNat 1), T) (fun r S1 => pm_Run d 205 278 [.inr (.inr (.inl l0)), .inl l1, .inl l2, .inl l3, PU] (pm_push r []) S1 K) := by
  refine (px_go (by decide +kernel : pm_fe 205 267 = some (.aload_n 0, 1)) rfl).trans ?_
  refine (px_get2 (idx := 145) (ci := 12) (k := 44) (by decide +kernel)).trans ((and_iff_right h1).trans ?_)
  refine (px_go (by decide +kernel : pm_fe 205 271 = some (.iload_n 1, 1)) rfl).trans ?_
  refine (px_go (by decide +kernel : pm_fe 205 272 = some (.iconst 1, 1)) rfl).trans ?_
  refine (px_iastore (by decide +kernel)).trans ((and_iff_right h2).trans ?_)
  refine (px_go (by decide +kernel : pm_fe 205 274 = some (.aload_n 0, 1)) rfl).trans ?_
  refine (px_v0 (idx := 268) (m' := 187) (ci := 12) (by decide +kernel)).trans ((and_iff_right ⟨h1, (by simp [pm_wl_n, pm_wl_c, pm_w] : pm_wl [] ≤ 8)⟩).trans ?_)
  exact Iff.rfl
theorem b205_278 {d : Nat} {G : PG} {M T : PH} {K : PV → PS → Prop} {l0 l1 l2 l3 : Int} (h1 : pm_ob G l0 12) : pm_Run d 205 278 [.inr (.inr (.inl l0)), .inl l1, .inl l2, .inl l3, PU] [] (G, M, T) K ↔ K (.inl 1) (G, pm_sa M l0.toNat (pm_up (M l0.toNat) 52 0), T) := by
  refine (px_go (by decide +kernel : pm_fe 205 278 = some (.aload_n 0, 1)) rfl).trans ?_
  refine (px_go (by decide +kernel : pm_fe 205 279 = some (.iconst 0, 1)) rfl).trans ?_
  refine (px_put3 (idx := 170) (ci := 12) (k := 52) (by decide +kernel)).trans ((and_iff_right ⟨h1, (by decide : (0 : Int) = (0 : Int) ∨ (0 : Int) = (1 : Int))⟩).trans ?_)
  refine (px_go (by decide +kernel : pm_fe 205 283 = some (.iconst 1, 1)) rfl).trans ?_
  refine (px_rz (by decide +kernel)).trans ((and_iff_right (by decide : (1 : Int) = (0 : Int) ∨ (1 : Int) = (1 : Int))).trans ?_)
  exact Iff.rfl
theorem b205_285 {d : Nat} {G : PG} {M T : PH} {K : PV → PS → Prop} {l0 l1 l2 l3 : Int} : pm_Run d 205 285 [.inr (.inr (.inl l0)), .inl l1, .inl l2, .inl l3, PU] [] (G, M, T) K ↔ if pm_sg l3 = 0 then pm_Run d 205 400 [.inr (.inr (.inl l0)), .inl l1, .inl l2, .inl l3, PU] [] (G, M, T) K else pm_Run d 205 289 [.inr (.inr (.inl l0)), .inl l1, .inl l2, .inl l3, PU] [] (G, M, T) K := by
  refine (px_go (by decide +kernel : pm_fe 205 285 = some (.iload_n 3, 1)) rfl).trans ?_
  refine (px_if_eq (off := 114) (tgt := 400) (by decide +kernel)).trans ?_
  exact Iff.rfl
theorem b205_289 {d : Nat} {G : PG} {M T : PH} {K : PV → PS → Prop} {l0 l1 l2 l3 : Int} (h1 : pm_ob G l0 12) : pm_Run d 205 289 [.inr (.inr (.inl l0)), .inl l1, .inl l2, .inl l3, PU] [] (G, M, T) K ↔ pm_Call d 189 [.inr (.inr (.inl l0)), .inr (.inl 6385252)] (G, M, T) (fun r S1 => pm_Run d 205 296 [.inr (.inr (.inl l0)), .inl l1, .inl l2, .inl l3, PU] (pm_push r []) S1 K) := by
  refine (px_go (by decide +kernel : pm_fe 205 289 = some (.aload_n 0, 1)) rfl).trans ?_
  refine (px_ldcL (idx := 319) (x := 6385252) (by decide +kernel)).trans ?_
  refine (px_v1 (idx := 356) (m' := 189) (ci := 12) (by decide +kernel)).trans ((and_iff_right ⟨h1, (by simp [pm_wl_n, pm_wl_c, pm_w] : pm_wl [] ≤ 8)⟩).trans ?_)
  exact Iff.rfl
theorem b205_296 {d : Nat} {G : PG} {M T : PH} {K : PV → PS → Prop} {l0 l1 l2 l3 s0 : Int} : pm_Run d 205 296 [.inr (.inr (.inl l0)), .inl l1, .inl l2, .inl l3, PU] [.inl s0] (G, M, T) K ↔ if pm_sg s0 ≠ 0 then pm_Run d 205 309 [.inr (.inr (.inl l0)), .inl l1, .inl l2, .inl l3, PU] [] (G, M, T) K else pm_Run d 205 299 [.inr (.inr (.inl l0)), .inl l1, .inl l2, .inl l3, PU] [] (G, M, T) K := by
  refine (px_if_ne (off := 13) (tgt := 309) (by decide +kernel)).trans ?_
  exact Iff.rfl
theorem b205_299 {d : Nat} {G : PG} {M T : PH} {K : PV → PS → Prop} {l0 l1 l2 l3 : Int} (h1 : pm_ob G l0 12) : pm_Run d 205 299 [.inr (.inr (.inl l0)), .inl l1, .inl l2, .inl l3, PU] [] (G, M, T) K ↔ pm_Call d 189 [.inr (.inr (.inl l0)), .inr (.inl 28530)] (G, M, T) (fun r S1 => pm_Run d 205 306 [.inr (.inr (.inl l0)), .inl l1, .inl l2, .inl l3, PU] (pm_push r []) S1 K) := by
  refine (px_go (by decide +kernel : pm_fe 205 299 = some (.aload_n 0, 1)) rfl).trans ?_
  refine (px_ldcL (idx := 317) (x := 28530) (by decide +kernel)).trans ?_
  refine (px_v1 (idx := 356) (m' := 189) (ci := 12) (by decide +kernel)).trans ((and_iff_right ⟨h1, (by simp [pm_wl_n, pm_wl_c, pm_w] : pm_wl [] ≤ 8)⟩).trans ?_)
  exact Iff.rfl
theorem b205_306 {d : Nat} {G : PG} {M T : PH} {K : PV → PS → Prop} {l0 l1 l2 l3 s0 : Int} : pm_Run d 205 306 [.inr (.inr (.inl l0)), .inl l1, .inl l2, .inl l3, PU] [.inl s0] (G, M, T) K ↔ if pm_sg s0 = 0 then pm_Run d 205 400 [.inr (.inr (.inl l0)), .inl l1, .inl l2, .inl l3, PU] [] (G, M, T) K else pm_Run d 205 309 [.inr (.inr (.inl l0)), .inl l1, .inl l2, .inl l3, PU] [] (G, M, T) K := by
  refine (px_if_eq (off := 94) (tgt := 400) (by decide +kernel)).trans ?_
  exact Iff.rfl
theorem b205_309 {d : Nat} {G : PG} {M T : PH} {K : PV → PS → Prop} {l0 l1 l2 l3 : Int} (h1 : pm_ob G l0 12) (h2 : pm_ar G (T l0.toNat 44) 100 l1) : pm_Run d 205 309 [.inr (.inr (.inl l0)), .inl l1, .inl l2, .inl l3, PU] [] (G, M, T) K ↔ if pm_sg (M (T l0.toNat 44).toNat (pm_sg l1).toNat) ≠ 0 then pm_Run d 205 327 [.inr (.inr (.inl l0)), .inl l1, .inl l2, .inl l3, PU] [] (G, M, T) K else pm_Run d 205 318 [.inr (.inr (.inl l0)), .inl l1, .inl l2, .inl l3, PU] [] (G, M, T) K := by
  refine (px_go (by decide +kernel : pm_fe 205 309 = some (.aload_n 0, 1)) rfl).trans ?_
  refine (px_get2 (idx := 145) (ci := 12) (k := 44) (by decide +kernel)).trans ((and_iff_right h1).trans ?_)
  refine (px_go (by decide +kernel : pm_fe 205 313 = some (.iload_n 1, 1)) rfl).trans ?_
  refine (px_iaload (by decide +kernel) h2).trans ?_
  refine (px_if_ne (off := 12) (tgt := 327) (by decide +kernel)).trans ?_
  exact Iff.rfl
theorem b205_318 {d : Nat} {G : PG} {M T : PH} {K : PV → PS → Prop} {l0 l1 l2 l3 : Int} (h1 : pm_ob G l0 12) : pm_Run d 205 318 [.inr (.inr (.inl l0)), .inl l1, .inl l2, .inl l3, PU] [] (G, M, T) K ↔ pm_Call d 183 [.inr (.inr (.inl l0)), .inl 1, .inl (M l0.toNat 4)] (G, M, T) (fun r S1 => pm_Run d 205 327 [.inr (.inr (.inl l0)), .inl l1, .inl l2, .inl l3, PU] (pm_push r []) S1 K) := by
  refine (px_go (by decide +kernel : pm_fe 205 318 = some (.aload_n 0, 1)) rfl).trans ?_
  refine (px_go (by decide +kernel : pm_fe 205 319 = some (.iconst 1, 1)) rfl).trans ?_
  refine (px_go (by decide +kernel : pm_fe 205 320 = some (.aload_n 0, 1)) rfl).trans ?_
  refine (px_get0 (idx := 23) (ci := 12) (k := 4) (by decide +kernel)).trans ((and_iff_right h1).trans ?_)
  refine (px_v2 (idx := 251) (m' := 183) (ci := 12) (by decide +kernel)).trans ((and_iff_right ⟨h1, (by simp [pm_wl_n, pm_wl_c, pm_w] : pm_wl [] ≤ 8)⟩).trans ?_)
  exact Iff.rfl
theorem b205_327 {d : Nat} {G : PG} {M T : PH} {K : PV → PS → Prop} {l0 l1 l2 l3 : Int} (h1 : pm_ob G l0 12) : pm_Run d 205 327 [.inr (.inr (.inl l0)), .inl l1, .inl l2, .inl l3, PU] [] (G, M, T) K ↔ if pm_sg (M l0.toNat 8) ≤ 0 then pm_Run d 205 336 [.inr (.inr (.inl l0)), .inl l1, .inl l2, .inl l3, PU] [] (G, M, T) K else pm_Run d 205 334 [.inr (.inr (.inl l0)), .inl l1, .inl l2, .inl l3, PU] [] (G, M, T) K := by
  refine (px_go (by decide +kernel : pm_fe 205 327 = some (.aload_n 0, 1)) rfl).trans ?_
  refine (px_get0 (idx := 36) (ci := 12) (k := 8) (by decide +kernel)).trans ((and_iff_right h1).trans ?_)
  refine (px_if_le (off := 5) (tgt := 336) (by decide +kernel)).trans ?_
  exact Iff.rfl
theorem b205_334 {d : Nat} {G : PG} {M T : PH} {K : PV → PS → Prop} {l0 l1 l2 l3 : Int} : pm_Run d 205 334 [.inr (.inr (.inl l0)), .inl l1, .inl l2, .inl l3, PU] [] (G, M, T) K ↔ K (.inl 0) (G, M, T) := by
  refine (px_go (by decide +kernel : pm_fe 205 334 = some (.iconst 0, 1)) rfl).trans ?_
  refine (px_rz (by decide +kernel)).trans ((and_iff_right (by decide : (0 : Int) = (0 : Int) ∨ (0 : Int) = (1 : Int))).trans ?_)
  exact Iff.rfl
theorem b205_336 {d : Nat} {G : PG} {M T : PH} {K : PV → PS → Prop} {l0 l1 l2 l3 : Int} (h1 : pm_ob G l0 12) : pm_Run d 205 336 [.inr (.inr (.inl l0)), .inl l1, .inl l2, .inl l3, PU] [] (G, M, T) K ↔ pm_Call d 189 [.inr (.inr (.inl l0)), .inr (.inl 6385252)] (G, M, T) (fun r S1 => pm_Run d 205 343 [.inr (.inr (.inl l0)), .inl l1, .inl l2, .inl l3, PU] (pm_push r []) S1 K) := by
  refine (px_go (by decide +kernel : pm_fe 205 336 = some (.aload_n 0, 1)) rfl).trans ?_
  refine (px_ldcL (idx := 319) (x := 6385252) (by decide +kernel)).trans ?_
  refine (px_v1 (idx := 356) (m' := 189) (ci := 12) (by decide +kernel)).trans ((and_iff_right ⟨h1, (by simp [pm_wl_n, pm_wl_c, pm_w] : pm_wl [] ≤ 8)⟩).trans ?_)
  exact Iff.rfl
theorem b205_343 {d : Nat} {G : PG} {M T : PH} {K : PV → PS → Prop} {l0 l1 l2 l3 s0 : Int} : pm_Run d 205 343 [.inr (.inr (.inl l0)), .inl l1, .inl l2, .inl l3, PU] [.inl s0] (G, M, T) K ↔ if pm_sg s0 = 0 then pm_Run d 205 355 [.inr (.inr (.inl l0)), .inl l1, .inl l2, .inl l3, .inl s0] [.inr (.inr (.inl l0))] (G, M, T) K else pm_Run d 205 351 [.inr (.inr (.inl l0)), .inl l1, .inl l2, .inl l3, .inl s0] [.inr (.inr (.inl l0))] (G, M, T) K := by
  refine (px_go (by decide +kernel : pm_fe 205 343 = some (.istore 4, 2)) rfl).trans ?_
  refine (px_go (by decide +kernel : pm_fe 205 345 = some (.aload_n 0, 1)) rfl).trans ?_
  refine (px_go (by decide +kernel : pm_fe 205 346 = some (.iload 4, 2)) rfl).trans ?_
  refine (px_if_eq (off := 7) (tgt := 355) (by decide +kernel)).trans ?_
  exact Iff.rfl
theorem b205_351 {d : Nat} {G : PG} {M T : PH} {K : PV → PS → Prop} {l0 l1 l2 l3 l4 s0 : Int} : pm_Run d 205 351 [.inr (.inr (.inl l0)), .inl l1, .inl l2, .inl l3, .inl l4] [.inr (.inr (.inl s0))] (G, M, T) K ↔ pm_Run d 205 356 [.inr (.inr (.inl l0)), .inl l1, .inl l2, .inl l3, .inl l4] [.inl 2, .inr (.inr (.inl s0))] (G, M, T) K := by
  refine (px_go (by decide +kernel : pm_fe 205 351 = some (.iconst 2, 1)) rfl).trans ?_
  refine (px_goto (off := 4) (tgt := 356) (by decide +kernel)).trans ?_
  exact Iff.rfl
theorem b205_355 {d : Nat} {G : PG} {M T : PH} {K : PV → PS → Prop} {l0 l1 l2 l3 l4 s0 : Int} : pm_Run d 205 355 [.inr (.inr (.inl l0)), .inl l1, .inl l2, .inl l3, .inl l4] [.inr (.inr (.inl s0))] (G, M, T) K ↔ pm_Run d 205 356 [.inr (.inr (.inl l0)), .inl l1, .inl l2, .inl l3, .inl l4] [.inl 1, .inr (.inr (.inl s0))] (G, M, T) K := by
  refine (px_go (by decide +kernel : pm_fe 205 355 = some (.iconst 1, 1)) rfl).trans ?_
  exact Iff.rfl
theorem b205_356 {d : Nat} {G : PG} {M T : PH} {K : PV → PS → Prop} {l0 l1 l2 l3 l4 s0 s1 : Int} (h1 : pm_ob G s1 12) : pm_Run d 205 356 [.inr (.inr (.inl l0)), .inl l1, .inl l2, .inl l3, .inl l4] [.inl s0, .inr (.inr (.inl s1))] (G, M, T) K ↔ pm_Call d 199 [.inr (.inr (.inl s1)), .inl s0] (G, M, T) (fun r S1 => pm_Run d 205 359 [.inr (.inr (.inl l0)), .inl l1, .inl l2, .inl l3, .inl l4] (pm_push r []) S1 K) := by
  refine (px_v1 (idx := 366) (m' := 199) (ci := 12) (by decide +kernel)).trans ((and_iff_right ⟨h1, (by simp [pm_wl_n, pm_wl_c, pm_w] : pm_wl [] ≤ 8)⟩).trans ?_)
  exact Iff.rfl
theorem b205_359 {d : Nat} {G : PG} {M T : PH} {K : PV → PS → Prop} {l0 l1 l2 l3 l4 : Int} : pm_Run d 205 359 [.inr (.inr (.inl l0)), .inl l1, .inl l2, .inl l3, .inl l4] [] (G, M, T) K ↔ if pm_sg l4 = 0 then pm_Run d 205 370 [.inr (.inr (.inl l0)), .inl l1, .inl l2, .inl l3, .inl l4] [.inr (.inr (.inl l0))] (G, M, T) K else pm_Run d 205 365 [.inr (.inr (.inl l0)), .inl l1, .inl l2, .inl l3, .inl l4] [.inr (.inr (.inl l0))] (G, M, T) K := by
  refine (px_go (by decide +kernel : pm_fe 205 359 = some (.aload_n 0, 1)) rfl).trans ?_
  refine (px_go (by decide +kernel : pm_fe 205 360 = some (.iload 4, 2)) rfl).trans ?_
  refine (px_if_eq (off := 8) (tgt := 370) (by decide +kernel)).trans ?_
  exact Iff.rfl
theorem b205_365 {d : Nat} {G : PG} {M T : PH} {K : PV → PS → Prop} {l0 l1 l2 l3 l4 s0 : Int} : pm_Run d 205 365 [.inr (.inr (.inl l0)), .inl l1, .inl l2, .inl l3, .inl l4] [.inr (.inr (.inl s0))] (G, M, T) K ↔ pm_Run d 205 372 [.inr (.inr (.inl l0)), .inl l1, .inl l2, .inl l3, .inl l4] [.inl 20, .inr (.inr (.inl s0))] (G, M, T) K := by
  refine (px_go (by decide +kernel : pm_fe 205 365 = some (.bipush 20, 2)) rfl).trans ?_
  refine (px_goto (off := 5) (tgt := 372) (by decide +kernel)).trans ?_
  exact Iff.rfl
theorem b205_370 {d : Nat} {G : PG} {M T : PH} {K : PV → PS → Prop} {l0 l1 l2 l3 l4 s0 : Int} : pm_Run d 205 370 [.inr (.inr (.inl l0)), .inl l1, .inl l2, .inl l3, .inl l4] [.inr (.inr (.inl s0))] (G, M, T) K ↔ pm_Run d 205 372 [.inr (.inr (.inl l0)), .inl l1, .inl l2, .inl l3, .inl l4] [.inl 21, .inr (.inr (.inl s0))] (G, M, T) K := by
  refine (px_go (by decide +kernel : pm_fe 205 370 = some (.bipush 21, 2)) rfl).trans ?_
  exact Iff.rfl
theorem b205_372 {d : Nat} {G : PG} {M T : PH} {K : PV → PS → Prop} {l0 l1 l2 l3 l4 s0 s1 : Int} (h1 : pm_ob G s1 12) : pm_Run d 205 372 [.inr (.inr (.inl l0)), .inl l1, .inl l2, .inl l3, .inl l4] [.inl s0, .inr (.inr (.inl s1))] (G, M, T) K ↔ pm_Call d 200 [.inr (.inr (.inl s1)), .inl s0] (G, M, T) (fun r S1 => pm_Run d 205 375 [.inr (.inr (.inl l0)), .inl l1, .inl l2, .inl l3, .inl l4] (pm_push r []) S1 K) := by
  refine (px_v1 (idx := 360) (m' := 200) (ci := 12) (by decide +kernel)).trans ((and_iff_right ⟨h1, (by simp [pm_wl_n, pm_wl_c, pm_w] : pm_wl [] ≤ 8)⟩).trans ?_)
  exact Iff.rfl
theorem b205_375 {d : Nat} {G : PG} {M T : PH} {K : PV → PS → Prop} {l0 l1 l2 l3 l4 : Int} (h1 : pm_ob G l0 12) (h2 : pm_ar G (T l0.toNat 44) 100 l1) (h3 : pm_ar G (T l0.toNat 45) 102 l1) : pm_Run d 205 375 [.inr (.inr (.inl l0)), .inl l1, .inl l2, .inl l3, .inl l4] [] (G, M, T) K ↔ pm_Run d 205 389 [.inr (.inr (.inl l0)), .inl l1, .inl l2, .inl l3, .inl l4] [] (G, pm_sa (pm_sa M (T l0.toNat 44).toNat (pm_up (M (T l0.toNat 44).toNat) (pm_sg l1).toNat 0)) (T l0.toNat 45).toNat (pm_up ((pm_sa M (T l0.toNat 44).toNat (pm_up (M (T l0.toNat 44).toNat) (pm_sg l1).toNat 0)) (T l0.toNat 45).toNat) (pm_sg l1).toNat 1), T) K := by
  refine (px_go (by decide +kernel : pm_fe 205 375 = some (.aload_n 0, 1)) rfl).trans ?_
  refine (px_get2 (idx := 145) (ci := 12) (k := 44) (by decide +kernel)).trans ((and_iff_right h1).trans ?_)
  refine (px_go (by decide +kernel : pm_fe 205 379 = some (.iload_n 1, 1)) rfl).trans ?_
  refine (px_go (by decide +kernel : pm_fe 205 380 = some (.iconst 0, 1)) rfl).trans ?_
  refine (px_iastore (by decide +kernel)).trans ((and_iff_right h2).trans ?_)
  refine (px_go (by decide +kernel : pm_fe 205 382 = some (.aload_n 0, 1)) rfl).trans ?_
  refine (px_get2 (idx := 148) (ci := 12) (k := 45) (by decide +kernel)).trans ((and_iff_right h1).trans ?_)
  refine (px_go (by decide +kernel : pm_fe 205 386 = some (.iload_n 1, 1)) rfl).trans ?_
  refine (px_go (by decide +kernel : pm_fe 205 387 = some (.iconst 1, 1)) rfl).trans ?_
  refine (px_zastore (by decide +kernel) h3 (by decide : (1 : Int) = (0 : Int) ∨ (1 : Int) = (1 : Int))).trans ?_
  exact Iff.rfl
theorem b205_389 {d : Nat} {G : PG} {M T : PH} {K : PV → PS → Prop} {l0 l1 l2 l3 l4 : Int} (h1 : pm_ob G l0 12) : pm_Run d 205 389 [.inr (.inr (.inl l0)), .inl l1, .inl l2, .inl l3, .inl l4] [] (G, M, T) K ↔ pm_Call d 187 [.inr (.inr (.inl l0))] (G, M, T) (fun r S1 => pm_Run d 205 393 [.inr (.inr (.inl l0)), .inl l1, .inl l2, .inl l3, .inl l4] (pm_push r []) S1 K) := by
  refine (px_go (by decide +kernel : pm_fe 205 389 = some (.aload_n 0, 1)) rfl).trans ?_
  refine (px_v0 (idx := 268) (m' := 187) (ci := 12) (by decide +kernel)).trans ((and_iff_right ⟨h1, (by simp [pm_wl_n, pm_wl_c, pm_w] : pm_wl [] ≤ 8)⟩).trans ?_)
  exact Iff.rfl
theorem b205_393 {d : Nat} {G : PG} {M T : PH} {K : PV → PS → Prop} {l0 l1 l2 l3 l4 : Int} (h1 : pm_ob G l0 12) : pm_Run d 205 393 [.inr (.inr (.inl l0)), .inl l1, .inl l2, .inl l3, .inl l4] [] (G, M, T) K ↔ K (.inl 1) (G, pm_sa M l0.toNat (pm_up (M l0.toNat) 52 0), T) := by
  refine (px_go (by decide +kernel : pm_fe 205 393 = some (.aload_n 0, 1)) rfl).trans ?_
  refine (px_go (by decide +kernel : pm_fe 205 394 = some (.iconst 0, 1)) rfl).trans ?_
  refine (px_put3 (idx := 170) (ci := 12) (k := 52) (by decide +kernel)).trans ((and_iff_right ⟨h1, (by decide : (0 : Int) = (0 : Int) ∨ (0 : Int) = (1 : Int))⟩).trans ?_)
  refine (px_go (by decide +kernel : pm_fe 205 398 = some (.iconst 1, 1)) rfl).trans ?_
  refine (px_rz (by decide +kernel)).trans ((and_iff_right (by decide : (1 : Int) = (0 : Int) ∨ (1 : Int) = (1 : Int))).trans ?_)
  exact Iff.rfl
theorem b205_400 {d : Nat} {G : PG} {M T : PH} {K : PV → PS → Prop} {l0 l1 l2 l3 : Int} : pm_Run d 205 400 [.inr (.inr (.inl l0)), .inl l1, .inl l2, .inl l3, PU] [] (G, M, T) K ↔ if pm_sg l3 = 0 then pm_Run d 205 422 [.inr (.inr (.inl l0)), .inl l1, .inl l2, .inl l3, PU] [] (G, M, T) K else pm_Run d 205 404 [.inr (.inr (.inl l0)), .inl l1, .inl l2, .inl l3, PU] [] (G, M, T) K := by
  refine (px_go (by decide +kernel : pm_fe 205 400 = some (.iload_n 3, 1)) rfl).trans ?_
  refine (px_if_eq (off := 21) (tgt := 422) (by decide +kernel)).trans ?_
  exact Iff.rfl
theorem b205_404 {d : Nat} {G : PG} {M T : PH} {K : PV → PS → Prop} {l0 l1 l2 l3 : Int} (h1 : pm_ob G l0 12) (h2 : pm_ar G (T l0.toNat 44) 100 l1) : pm_Run d 205 404 [.inr (.inr (.inl l0)), .inl l1, .inl l2, .inl l3, PU] [] (G, M, T) K ↔ if pm_sg (M (T l0.toNat 44).toNat (pm_sg l1).toNat) ≠ 0 then pm_Run d 205 422 [.inr (.inr (.inl l0)), .inl l1, .inl l2, .inl l3, PU] [] (G, M, T) K else pm_Run d 205 413 [.inr (.inr (.inl l0)), .inl l1, .inl l2, .inl l3, PU] [] (G, M, T) K := by
  refine (px_go (by decide +kernel : pm_fe 205 404 = some (.aload_n 0, 1)) rfl).trans ?_
  refine (px_get2 (idx := 145) (ci := 12) (k := 44) (by decide +kernel)).trans ((and_iff_right h1).trans ?_)
  refine (px_go (by decide +kernel : pm_fe 205 408 = some (.iload_n 1, 1)) rfl).trans ?_
  refine (px_iaload (by decide +kernel) h2).trans ?_
  refine (px_if_ne (off := 12) (tgt := 422) (by decide +kernel)).trans ?_
  exact Iff.rfl
theorem b205_413 {d : Nat} {G : PG} {M T : PH} {K : PV → PS → Prop} {l0 l1 l2 l3 : Int} (h1 : pm_ob G l0 12) : pm_Run d 205 413 [.inr (.inr (.inl l0)), .inl l1, .inl l2, .inl l3, PU] [] (G, M, T) K ↔ pm_Call d 183 [.inr (.inr (.inl l0)), .inl 1, .inl (M l0.toNat 4)] (G, M, T) (fun r S1 => pm_Run d 205 422 [.inr (.inr (.inl l0)), .inl l1, .inl l2, .inl l3, PU] (pm_push r []) S1 K) := by
  refine (px_go (by decide +kernel : pm_fe 205 413 = some (.aload_n 0, 1)) rfl).trans ?_
  refine (px_go (by decide +kernel : pm_fe 205 414 = some (.iconst 1, 1)) rfl).trans ?_
  refine (px_go (by decide +kernel : pm_fe 205 415 = some (.aload_n 0, 1)) rfl).trans ?_
  refine (px_get0 (idx := 23) (ci := 12) (k := 4) (by decide +kernel)).trans ((and_iff_right h1).trans ?_)
  refine (px_v2 (idx := 251) (m' := 183) (ci := 12) (by decide +kernel)).trans ((and_iff_right ⟨h1, (by simp [pm_wl_n, pm_wl_c, pm_w] : pm_wl [] ≤ 8)⟩).trans ?_)
  exact Iff.rfl
theorem b205_422 {d : Nat} {G : PG} {M T : PH} {K : PV → PS → Prop} {l0 l1 l2 l3 : Int} : pm_Run d 205 422 [.inr (.inr (.inl l0)), .inl l1, .inl l2, .inl l3, PU] [] (G, M, T) K ↔ if pm_sg 2 ≤ pm_sg l2 then pm_Run d 205 441 [.inr (.inr (.inl l0)), .inl l1, .inl l2, .inl l3, PU] [] (G, M, T) K else pm_Run d 205 427 [.inr (.inr (.inl l0)), .inl l1, .inl l2, .inl l3, PU] [] (G, M, T) K := by
  refine (px_go (by decide +kernel : pm_fe 205 422 = some (.iload_n 2, 1)) rfl).trans ?_
  refine (px_go (by decide +kernel : pm_fe 205 423 = some (.iconst 2, 1)) rfl).trans ?_
  refine (px_ic_ge (off := 17) (tgt := 441) (by decide +kernel)).trans ?_
  exact Iff.rfl
theorem b205_427 {d : Nat} {G : PG} {M T : PH} {K : PV → PS → Prop} {l0 l1 l2 l3 : Int} (h1 : pm_ob G l0 12) : pm_Run d 205 427 [.inr (.inr (.inl l0)), .inl l1, .inl l2, .inl l3, PU] [] (G, M, T) K ↔ if pm_sg (M l0.toNat 8) ≠ 0 then pm_Run d 205 439 [.inr (.inr (.inl l0)), .inl l1, .inl l2, .inl l3, PU] [] (G, M, T) K else pm_Run d 205 434 [.inr (.inr (.inl l0)), .inl l1, .inl l2, .inl l3, PU] [] (G, M, T) K := by
  refine (px_go (by decide +kernel : pm_fe 205 427 = some (.aload_n 0, 1)) rfl).trans ?_
  refine (px_get0 (idx := 36) (ci := 12) (k := 8) (by decide +kernel)).trans ((and_iff_right h1).trans ?_)
  refine (px_if_ne (off := 8) (tgt := 439) (by decide +kernel)).trans ?_
  exact Iff.rfl
theorem b205_434 {d : Nat} {G : PG} {M T : PH} {K : PV → PS → Prop} {l0 l1 l2 l3 : Int} (h1 : pm_ob G l0 12) : pm_Run d 205 434 [.inr (.inr (.inl l0)), .inl l1, .inl l2, .inl l3, PU] [] (G, M, T) K ↔ pm_Call d 199 [.inr (.inr (.inl l0)), .inl 1] (G, M, T) (fun r S1 => pm_Run d 205 439 [.inr (.inr (.inl l0)), .inl l1, .inl l2, .inl l3, PU] (pm_push r []) S1 K) := by
  refine (px_go (by decide +kernel : pm_fe 205 434 = some (.aload_n 0, 1)) rfl).trans ?_
  refine (px_go (by decide +kernel : pm_fe 205 435 = some (.iconst 1, 1)) rfl).trans ?_
  refine (px_v1 (idx := 366) (m' := 199) (ci := 12) (by decide +kernel)).trans ((and_iff_right ⟨h1, (by simp [pm_wl_n, pm_wl_c, pm_w] : pm_wl [] ≤ 8)⟩).trans ?_)
  exact Iff.rfl
theorem b205_439 {d : Nat} {G : PG} {M T : PH} {K : PV → PS → Prop} {l0 l1 l2 l3 : Int} : pm_Run d 205 439 [.inr (.inr (.inl l0)), .inl l1, .inl l2, .inl l3, PU] [] (G, M, T) K ↔ K (.inl 0) (G, M, T) := by
  refine (px_go (by decide +kernel : pm_fe 205 439 = some (.iconst 0, 1)) rfl).trans ?_
  refine (px_rz (by decide +kernel)).trans ((and_iff_right (by decide : (0 : Int) = (0 : Int) ∨ (0 : Int) = (1 : Int))).trans ?_)
  exact Iff.rfl
theorem b205_441 {d : Nat} {G : PG} {M T : PH} {K : PV → PS → Prop} {l0 l1 l2 l3 : Int} : pm_Run d 205 441 [.inr (.inr (.inl l0)), .inl l1, .inl l2, .inl l3, PU] [] (G, M, T) K ↔ if pm_sg l2 ≠ pm_sg 3 then pm_Run d 205 496 [.inr (.inr (.inl l0)), .inl l1, .inl l2, .inl l3, PU] [] (G, M, T) K else pm_Run d 205 446 [.inr (.inr (.inl l0)), .inl l1, .inl l2, .inl l3, PU] [] (G, M, T) K := by
  refine (px_go (by decide +kernel : pm_fe 205 441 = some (.iload_n 2, 1)) rfl).trans ?_
  refine (px_go (by decide +kernel : pm_fe 205 442 = some (.iconst 3, 1)) rfl).trans ?_
  refine (px_ic_ne (off := 53) (tgt := 496) (by decide +kernel)).trans ?_
  exact Iff.rfl
theorem b205_446 {d : Nat} {G : PG} {M T : PH} {K : PV → PS → Prop} {l0 l1 l2 l3 : Int} (h1 : pm_ob G l0 12) : pm_Run d 205 446 [.inr (.inr (.inl l0)), .inl l1, .inl l2, .inl l3, PU] [] (G, M, T) K ↔ pm_Call d 188 [.inr (.inr (.inl l0)), .inl 44] (G, M, T) (fun r S1 => pm_Run d 205 452 [.inr (.inr (.inl l0)), .inl l1, .inl l2, .inl l3, PU] (pm_push r []) S1 K) := by
  refine (px_go (by decide +kernel : pm_fe 205 446 = some (.aload_n 0, 1)) rfl).trans ?_
  refine (px_go (by decide +kernel : pm_fe 205 447 = some (.bipush 44, 2)) rfl).trans ?_
  refine (px_v1 (idx := 265) (m' := 188) (ci := 12) (by decide +kernel)).trans ((and_iff_right ⟨h1, (by simp [pm_wl_n, pm_wl_c, pm_w] : pm_wl [] ≤ 8)⟩).trans ?_)
  exact Iff.rfl
theorem b205_452 {d : Nat} {G : PG} {M T : PH} {K : PV → PS → Prop} {l0 l1 l2 l3 s0 : Int} : pm_Run d 205 452 [.inr (.inr (.inl l0)), .inl l1, .inl l2, .inl l3, PU] [.inl s0] (G, M, T) K ↔ if pm_sg s0 ≠ 0 then pm_Run d 205 464 [.inr (.inr (.inl l0)), .inl l1, .inl l2, .inl l3, PU] [] (G, M, T) K else pm_Run d 205 455 [.inr (.inr (.inl l0)), .inl l1, .inl l2, .inl l3, PU] [] (G, M, T) K := by
  refine (px_if_ne (off := 12) (tgt := 464) (by decide +kernel)).trans ?_
  exact Iff.rfl
theorem b205_455 {d : Nat} {G : PG} {M T : PH} {K : PV → PS → Prop} {l0 l1 l2 l3 : Int} (h1 : pm_ob G l0 12) : pm_Run d 205 455 [.inr (.inr (.inl l0)), .inl l1, .inl l2, .inl l3, PU] [] (G, M, T) K ↔ pm_Call d 183 [.inr (.inr (.inl l0)), .inl 1, .inl (M l0.toNat 4)] (G, M, T) (fun r S1 => pm_Run d 205 464 [.inr (.inr (.inl l0)), .inl l1, .inl l2, .inl l3, PU] (pm_push r []) S1 K) := by
  refine (px_go (by decide +kernel : pm_fe 205 455 = some (.aload_n 0, 1)) rfl).trans ?_
  refine (px_go (by decide +kernel : pm_fe 205 456 = some (.iconst 1, 1)) rfl).trans ?_
  refine (px_go (by decide +kernel : pm_fe 205 457 = some (.aload_n 0, 1)) rfl).trans ?_
  refine (px_get0 (idx := 23) (ci := 12) (k := 4) (by decide +kernel)).trans ((and_iff_right h1).trans ?_)
  refine (px_v2 (idx := 251) (m' := 183) (ci := 12) (by decide +kernel)).trans ((and_iff_right ⟨h1, (by simp [pm_wl_n, pm_wl_c, pm_w] : pm_wl [] ≤ 8)⟩).trans ?_)
  exact Iff.rfl
theorem b205_464 {d : Nat} {G : PG} {M T : PH} {K : PV → PS → Prop} {l0 l1 l2 l3 : Int} (h1 : pm_ob G l0 12) : pm_Run d 205 464 [.inr (.inr (.inl l0)), .inl l1, .inl l2, .inl l3, PU] [] (G, M, T) K ↔ if pm_sg (M l0.toNat 8) ≤ 0 then pm_Run d 205 473 [.inr (.inr (.inl l0)), .inl l1, .inl l2, .inl l3, PU] [] (G, M, T) K else pm_Run d 205 471 [.inr (.inr (.inl l0)), .inl l1, .inl l2, .inl l3, PU] [] (G, M, T) K := by
  refine (px_go (by decide +kernel : pm_fe 205 464 = some (.aload_n 0, 1)) rfl).trans ?_
  refine (px_get0 (idx := 36) (ci := 12) (k := 8) (by decide +kernel)).trans ((and_iff_right h1).trans ?_)
  refine (px_if_le (off := 5) (tgt := 473) (by decide +kernel)).trans ?_
  exact Iff.rfl
theorem b205_471 {d : Nat} {G : PG} {M T : PH} {K : PV → PS → Prop} {l0 l1 l2 l3 : Int} : pm_Run d 205 471 [.inr (.inr (.inl l0)), .inl l1, .inl l2, .inl l3, PU] [] (G, M, T) K ↔ K (.inl 0) (G, M, T) := by
  refine (px_go (by decide +kernel : pm_fe 205 471 = some (.iconst 0, 1)) rfl).trans ?_
  refine (px_rz (by decide +kernel)).trans ((and_iff_right (by decide : (0 : Int) = (0 : Int) ∨ (0 : Int) = (1 : Int))).trans ?_)
  exact Iff.rfl
theorem b205_473 {d : Nat} {G : PG} {M T : PH} {K : PV → PS → Prop} {l0 l1 l2 l3 : Int} (h1 : pm_ob G l0 12) : pm_Run d 205 473 [.inr (.inr (.inl l0)), .inl l1, .inl l2, .inl l3, PU] [] (G, M, T) K ↔ pm_Call d 199 [.inr (.inr (.inl l0)), .inl 1] (G, M, T) (fun r S1 => pm_Run d 205 478 [.inr (.inr (.inl l0)), .inl l1, .inl l2, .inl l3, PU] (pm_push r []) S1 K) := by
  refine (px_go (by decide +kernel : pm_fe 205 473 = some (.aload_n 0, 1)) rfl).trans ?_
  refine (px_go (by decide +kernel : pm_fe 205 474 = some (.iconst 1, 1)) rfl).trans ?_
  refine (px_v1 (idx := 366) (m' := 199) (ci := 12) (by decide +kernel)).trans ((and_iff_right ⟨h1, (by simp [pm_wl_n, pm_wl_c, pm_w] : pm_wl [] ≤ 8)⟩).trans ?_)
  exact Iff.rfl
theorem b205_478 {d : Nat} {G : PG} {M T : PH} {K : PV → PS → Prop} {l0 l1 l2 l3 : Int} (h1 : pm_ob G l0 12) (h2 : pm_ar G (T l0.toNat 43) 100 l1) : pm_Run d 205 478 [.inr (.inr (.inl l0)), .inl l1, .inl l2, .inl l3, PU] [] (G, M, T) K ↔ pm_Call d 187 [.inr (.inr (.inl l0))] (G, pm_sa M (T l0.toNat 43).toNat (pm_up (M (T l0.toNat 43).toNat) (pm_sg l1).toNat 4), T) (fun r S1 => pm_Run d 205 489 [.inr (.inr (.inl l0)), .inl l1, .inl l2, .inl l3, PU] (pm_push r []) S1 K) := by
  refine (px_go (by decide +kernel : pm_fe 205 478 = some (.aload_n 0, 1)) rfl).trans ?_
  refine (px_get2 (idx := 142) (ci := 12) (k := 43) (by decide +kernel)).trans ((and_iff_right h1).trans ?_)
  refine (px_go (by decide +kernel : pm_fe 205 482 = some (.iload_n 1, 1)) rfl).trans ?_
  refine (px_go (by decide +kernel : pm_fe 205 483 = some (.iconst 4, 1)) rfl).trans ?_
  refine (px_iastore (by decide +kernel)).trans ((and_iff_right h2).trans ?_)
  refine (px_go (by decide +kernel : pm_fe 205 485 = some (.aload_n 0, 1)) rfl).trans ?_
  refine (px_v0 (idx := 268) (m' := 187) (ci := 12) (by decide +kernel)).trans ((and_iff_right ⟨h1, (by simp [pm_wl_n, pm_wl_c, pm_w] : pm_wl [] ≤ 8)⟩).trans ?_)
  exact Iff.rfl
theorem b205_489 {d : Nat} {G : PG} {M T : PH} {K : PV → PS → Prop} {l0 l1 l2 l3 : Int} (h1 : pm_ob G l0 12) : pm_Run d 205 489 [.inr (.inr (.inl l0)), .inl l1, .inl l2, .inl l3, PU] [] (G, M, T) K ↔ K (.inl 1) (G, pm_sa M l0.toNat (pm_up (M l0.toNat) 52 0), T) := by
  refine (px_go (by decide +kernel : pm_fe 205 489 = some (.aload_n 0, 1)) rfl).trans ?_
  refine (px_go (by decide +kernel : pm_fe 205 490 = some (.iconst 0, 1)) rfl).trans ?_
  refine (px_put3 (idx := 170) (ci := 12) (k := 52) (by decide +kernel)).trans ((and_iff_right ⟨h1, (by decide : (0 : Int) = (0 : Int) ∨ (0 : Int) = (1 : Int))⟩).trans ?_)
  refine (px_go (by decide +kernel : pm_fe 205 494 = some (.iconst 1, 1)) rfl).trans ?_
  refine (px_rz (by decide +kernel)).trans ((and_iff_right (by decide : (1 : Int) = (0 : Int) ∨ (1 : Int) = (1 : Int))).trans ?_)
  exact Iff.rfl
theorem b205_496 {d : Nat} {G : PG} {M T : PH} {K : PV → PS → Prop} {l0 l1 l2 l3 : Int} : pm_Run d 205 496 [.inr (.inr (.inl l0)), .inl l1, .inl l2, .inl l3, PU] [] (G, M, T) K ↔ if pm_sg l2 ≠ pm_sg 5 then pm_Run d 205 507 [.inr (.inr (.inl l0)), .inl l1, .inl l2, .inl l3, PU] [.inr (.inr (.inl l0))] (G, M, T) K else pm_Run d 205 502 [.inr (.inr (.inl l0)), .inl l1, .inl l2, .inl l3, PU] [.inr (.inr (.inl l0))] (G, M, T) K := by
  refine (px_go (by decide +kernel : pm_fe 205 496 = some (.aload_n 0, 1)) rfl).trans ?_
  refine (px_go (by decide +kernel : pm_fe 205 497 = some (.iload_n 2, 1)) rfl).trans ?_
  refine (px_go (by decide +kernel : pm_fe 205 498 = some (.iconst 5, 1)) rfl).trans ?_
  refine (px_ic_ne (off := 8) (tgt := 507) (by decide +kernel)).trans ?_
  exact Iff.rfl
theorem b205_502 {d : Nat} {G : PG} {M T : PH} {K : PV → PS → Prop} {l0 l1 l2 l3 s0 : Int} : pm_Run d 205 502 [.inr (.inr (.inl l0)), .inl l1, .inl l2, .inl l3, PU] [.inr (.inr (.inl s0))] (G, M, T) K ↔ pm_Run d 205 509 [.inr (.inr (.inl l0)), .inl l1, .inl l2, .inl l3, PU] [.inl 93, .inr (.inr (.inl s0))] (G, M, T) K := by
  refine (px_go (by decide +kernel : pm_fe 205 502 = some (.bipush 93, 2)) rfl).trans ?_
  refine (px_goto (off := 5) (tgt := 509) (by decide +kernel)).trans ?_
  exact Iff.rfl
theorem b205_507 {d : Nat} {G : PG} {M T : PH} {K : PV → PS → Prop} {l0 l1 l2 l3 s0 : Int} : pm_Run d 205 507 [.inr (.inr (.inl l0)), .inl l1, .inl l2, .inl l3, PU] [.inr (.inr (.inl s0))] (G, M, T) K ↔ pm_Run d 205 509 [.inr (.inr (.inl l0)), .inl l1, .inl l2, .inl l3, PU] [.inl 41, .inr (.inr (.inl s0))] (G, M, T) K := by
  refine (px_go (by decide +kernel : pm_fe 205 507 = some (.bipush 41, 2)) rfl).trans ?_
  exact Iff.rfl
theorem b205_509 {d : Nat} {G : PG} {M T : PH} {K : PV → PS → Prop} {l0 l1 l2 l3 s0 s1 : Int} (h1 : pm_ob G s1 12) : pm_Run d 205 509 [.inr (.inr (.inl l0)), .inl l1, .inl l2, .inl l3, PU] [.inl s0, .inr (.inr (.inl s1))] (G, M, T) K ↔ pm_Call d 188 [.inr (.inr (.inl s1)), .inl s0] (G, M, T) (fun r S1 => pm_Run d 205 512 [.inr (.inr (.inl l0)), .inl l1, .inl l2, .inl l3, PU] (pm_push r []) S1 K) := by
  refine (px_v1 (idx := 265) (m' := 188) (ci := 12) (by decide +kernel)).trans ((and_iff_right ⟨h1, (by simp [pm_wl_n, pm_wl_c, pm_w] : pm_wl [] ≤ 8)⟩).trans ?_)
  exact Iff.rfl
theorem b205_512 {d : Nat} {G : PG} {M T : PH} {K : PV → PS → Prop} {l0 l1 l2 l3 s0 : Int} : pm_Run d 205 512 [.inr (.inr (.inl l0)), .inl l1, .inl l2, .inl l3, PU] [.inl s0] (G, M, T) K ↔ if pm_sg s0 ≠ 0 then pm_Run d 205 524 [.inr (.inr (.inl l0)), .inl l1, .inl l2, .inl l3, PU] [] (G, M, T) K else pm_Run d 205 515 [.inr (.inr (.inl l0)), .inl l1, .inl l2, .inl l3, PU] [] (G, M, T) K := by
  refine (px_if_ne (off := 12) (tgt := 524) (by decide +kernel)).trans ?_
  exact Iff.rfl
theorem b205_515 {d : Nat} {G : PG} {M T : PH} {K : PV → PS → Prop} {l0 l1 l2 l3 : Int} (h1 : pm_ob G l0 12) : pm_Run d 205 515 [.inr (.inr (.inl l0)), .inl l1, .inl l2, .inl l3, PU] [] (G, M, T) K ↔ pm_Call d 183 [.inr (.inr (.inl l0)), .inl 1, .inl (M l0.toNat 4)] (G, M, T) (fun r S1 => pm_Run d 205 524 [.inr (.inr (.inl l0)), .inl l1, .inl l2, .inl l3, PU] (pm_push r []) S1 K) := by
  refine (px_go (by decide +kernel : pm_fe 205 515 = some (.aload_n 0, 1)) rfl).trans ?_
  refine (px_go (by decide +kernel : pm_fe 205 516 = some (.iconst 1, 1)) rfl).trans ?_
  refine (px_go (by decide +kernel : pm_fe 205 517 = some (.aload_n 0, 1)) rfl).trans ?_
  refine (px_get0 (idx := 23) (ci := 12) (k := 4) (by decide +kernel)).trans ((and_iff_right h1).trans ?_)
  refine (px_v2 (idx := 251) (m' := 183) (ci := 12) (by decide +kernel)).trans ((and_iff_right ⟨h1, (by simp [pm_wl_n, pm_wl_c, pm_w] : pm_wl [] ≤ 8)⟩).trans ?_)
  exact Iff.rfl
theorem b205_524 {d : Nat} {G : PG} {M T : PH} {K : PV → PS → Prop} {l0 l1 l2 l3 : Int} (h1 : pm_ob G l0 12) : pm_Run d 205 524 [.inr (.inr (.inl l0)), .inl l1, .inl l2, .inl l3, PU] [] (G, M, T) K ↔ if pm_sg (M l0.toNat 8) ≤ 0 then pm_Run d 205 533 [.inr (.inr (.inl l0)), .inl l1, .inl l2, .inl l3, PU] [] (G, M, T) K else pm_Run d 205 531 [.inr (.inr (.inl l0)), .inl l1, .inl l2, .inl l3, PU] [] (G, M, T) K := by
  refine (px_go (by decide +kernel : pm_fe 205 524 = some (.aload_n 0, 1)) rfl).trans ?_
  refine (px_get0 (idx := 36) (ci := 12) (k := 8) (by decide +kernel)).trans ((and_iff_right h1).trans ?_)
  refine (px_if_le (off := 5) (tgt := 533) (by decide +kernel)).trans ?_
  exact Iff.rfl
theorem b205_531 {d : Nat} {G : PG} {M T : PH} {K : PV → PS → Prop} {l0 l1 l2 l3 : Int} : pm_Run d 205 531 [.inr (.inr (.inl l0)), .inl l1, .inl l2, .inl l3, PU] [] (G, M, T) K ↔ K (.inl 0) (G, M, T) := by
  refine (px_go (by decide +kernel : pm_fe 205 531 = some (.iconst 0, 1)) rfl).trans ?_
  refine (px_rz (by decide +kernel)).trans ((and_iff_right (by decide : (0 : Int) = (0 : Int) ∨ (0 : Int) = (1 : Int))).trans ?_)
  exact Iff.rfl
theorem b205_533 {d : Nat} {G : PG} {M T : PH} {K : PV → PS → Prop} {l0 l1 l2 l3 : Int} (h1 : pm_ob G l0 12) : pm_Run d 205 533 [.inr (.inr (.inl l0)), .inl l1, .inl l2, .inl l3, PU] [] (G, M, T) K ↔ pm_Call d 199 [.inr (.inr (.inl l0)), .inl 1] (G, M, T) (fun r S1 => pm_Run d 205 538 [.inr (.inr (.inl l0)), .inl l1, .inl l2, .inl l3, PU] (pm_push r []) S1 K) := by
  refine (px_go (by decide +kernel : pm_fe 205 533 = some (.aload_n 0, 1)) rfl).trans ?_
  refine (px_go (by decide +kernel : pm_fe 205 534 = some (.iconst 1, 1)) rfl).trans ?_
  refine (px_v1 (idx := 366) (m' := 199) (ci := 12) (by decide +kernel)).trans ((and_iff_right ⟨h1, (by simp [pm_wl_n, pm_wl_c, pm_w] : pm_wl [] ≤ 8)⟩).trans ?_)
  exact Iff.rfl
theorem b205_538 {d : Nat} {G : PG} {M T : PH} {K : PV → PS → Prop} {l0 l1 l2 l3 : Int} (h1 : pm_ob G l0 12) : pm_Run d 205 538 [.inr (.inr (.inl l0)), .inl l1, .inl l2, .inl l3, PU] [] (G, M, T) K ↔ pm_Run d 205 558 [.inr (.inr (.inl l0)), .inl l1, .inl l2, .inl l3, PU] [] (G, pm_sa (pm_sa M l0.toNat (pm_up (M l0.toNat) 48 ((M l0.toNat 48) - 1))) l0.toNat (pm_up ((pm_sa M l0.toNat (pm_up (M l0.toNat) 48 ((M l0.toNat 48) - 1))) l0.toNat) 49 (((pm_sa M l0.toNat (pm_up (M l0.toNat) 48 ((M l0.toNat 48) - 1))) l0.toNat 49) - 1)), T) K := by
  refine (px_go (by decide +kernel : pm_fe 205 538 = some (.aload_n 0, 1)) rfl).trans ?_
  refine (px_go (by decide +kernel : pm_fe 205 539 = some (.dup, 1)) rfl).trans ?_
  refine (px_get0 (idx := 158) (ci := 12) (k := 48) (by decide +kernel)).trans ((and_iff_right h1).trans ?_)
  refine (px_go (by decide +kernel : pm_fe 205 543 = some (.iconst 1, 1)) rfl).trans ?_
  refine (px_go (by decide +kernel : pm_fe 205 544 = some (.isub, 1)) rfl).trans ?_
  refine (px_put0 (idx := 158) (ci := 12) (k := 48) (by decide +kernel)).trans ((and_iff_right h1).trans ?_)
  refine (px_go (by decide +kernel : pm_fe 205 548 = some (.aload_n 0, 1)) rfl).trans ?_
  refine (px_go (by decide +kernel : pm_fe 205 549 = some (.dup, 1)) rfl).trans ?_
  refine (px_get0 (idx := 161) (ci := 12) (k := 49) (by decide +kernel)).trans ((and_iff_right h1).trans ?_)
  refine (px_go (by decide +kernel : pm_fe 205 553 = some (.iconst 1, 1)) rfl).trans ?_
  refine (px_go (by decide +kernel : pm_fe 205 554 = some (.isub, 1)) rfl).trans ?_
  refine (px_put0 (idx := 161) (ci := 12) (k := 49) (by decide +kernel)).trans ((and_iff_right h1).trans ?_)
  exact Iff.rfl
theorem b205_558 {d : Nat} {G : PG} {M T : PH} {K : PV → PS → Prop} {l0 l1 l2 l3 : Int} : pm_Run d 205 558 [.inr (.inr (.inl l0)), .inl l1, .inl l2, .inl l3, PU] [] (G, M, T) K ↔ if pm_sg l2 ≠ pm_sg 4 then pm_Run d 205 574 [.inr (.inr (.inl l0)), .inl l1, .inl l2, .inl l3, PU] [] (G, M, T) K else pm_Run d 205 563 [.inr (.inr (.inl l0)), .inl l1, .inl l2, .inl l3, PU] [] (G, M, T) K := by
  refine (px_go (by decide +kernel : pm_fe 205 558 = some (.iload_n 2, 1)) rfl).trans ?_
  refine (px_go (by decide +kernel : pm_fe 205 559 = some (.iconst 4, 1)) rfl).trans ?_
  refine (px_ic_ne (off := 14) (tgt := 574) (by decide +kernel)).trans ?_
  exact Iff.rfl
theorem b205_563 {d : Nat} {G : PG} {M T : PH} {K : PV → PS → Prop} {l0 l1 l2 l3 : Int} (h1 : pm_ob G l0 12) (h2 : pm_ar G (T l0.toNat 46) 100 l1) : pm_Run d 205 563 [.inr (.inr (.inl l0)), .inl l1, .inl l2, .inl l3, PU] [] (G, M, T) K ↔ pm_Call d 197 [.inr (.inr (.inl l0)), .inl (M (T l0.toNat 46).toNat (pm_sg l1).toNat), .inl 0] (G, M, T) (fun r S1 => pm_Run d 205 574 [.inr (.inr (.inl l0)), .inl l1, .inl l2, .inl l3, PU] (pm_push r []) S1 K) := by
  refine (px_go (by decide +kernel : pm_fe 205 563 = some (.aload_n 0, 1)) rfl).trans ?_
  refine (px_go (by decide +kernel : pm_fe 205 564 = some (.aload_n 0, 1)) rfl).trans ?_
  refine (px_get2 (idx := 152) (ci := 12) (k := 46) (by decide +kernel)).trans ((and_iff_right h1).trans ?_)
  refine (px_go (by decide +kernel : pm_fe 205 568 = some (.iload_n 1, 1)) rfl).trans ?_
  refine (px_iaload (by decide +kernel) h2).trans ?_
  refine (px_go (by decide +kernel : pm_fe 205 570 = some (.iconst 0, 1)) rfl).trans ?_
  refine (px_v2 (idx := 347) (m' := 197) (ci := 12) (by decide +kernel)).trans ((and_iff_right ⟨h1, (by simp [pm_wl_n, pm_wl_c, pm_w] : pm_wl [] ≤ 8)⟩).trans ?_)
  exact Iff.rfl
theorem b205_574 {d : Nat} {G : PG} {M T : PH} {K : PV → PS → Prop} {l0 l1 l2 l3 : Int} : pm_Run d 205 574 [.inr (.inr (.inl l0)), .inl l1, .inl l2, .inl l3, PU] [] (G, M, T) K ↔ if pm_sg l2 ≠ pm_sg 5 then pm_Run d 205 591 [.inr (.inr (.inl l0)), .inl l1, .inl l2, .inl l3, PU] [] (G, M, T) K else pm_Run d 205 579 [.inr (.inr (.inl l0)), .inl l1, .inl l2, .inl l3, PU] [] (G, M, T) K := by
  refine (px_go (by decide +kernel : pm_fe 205 574 = some (.iload_n 2, 1)) rfl).trans ?_
  refine (px_go (by decide +kernel : pm_fe 205 575 = some (.iconst 5, 1)) rfl).trans ?_
  refine (px_ic_ne (off := 15) (tgt := 591) (by decide +kernel)).trans ?_
  exact Iff.rfl
theorem b205_579 {d : Nat} {G : PG} {M T : PH} {K : PV → PS → Prop} {l0 l1 l2 l3 : Int} (h1 : pm_ob G l0 12) (h2 : pm_ar G (T l0.toNat 44) 100 ((M l0.toNat 48) - 1)) : pm_Run d 205 579 [.inr (.inr (.inl l0)), .inl l1, .inl l2, .inl l3, PU] [] (G, M, T) K ↔ pm_Run d 205 591 [.inr (.inr (.inl l0)), .inl l1, .inl l2, .inl l3, PU] [] (G, pm_sa M (T l0.toNat 44).toNat (pm_up (M (T l0.toNat 44).toNat) (pm_sg ((M l0.toNat 48) - 1)).toNat 2), T) K := by
  refine (px_go (by decide +kernel : pm_fe 205 579 = some (.aload_n 0, 1)) rfl).trans ?_
  refine (px_get2 (idx := 145) (ci := 12) (k := 44) (by decide +kernel)).trans ((and_iff_right h1).trans ?_)
  refine (px_go (by decide +kernel : pm_fe 205 583 = some (.aload_n 0, 1)) rfl).trans ?_
  refine (px_get0 (idx := 158) (ci := 12) (k := 48) (by decide +kernel)).trans ((and_iff_right h1).trans ?_)
  refine (px_go (by decide +kernel : pm_fe 205 587 = some (.iconst 1, 1)) rfl).trans ?_
  refine (px_go (by decide +kernel : pm_fe 205 588 = some (.isub, 1)) rfl).trans ?_
  refine (px_go (by decide +kernel : pm_fe 205 589 = some (.iconst 2, 1)) rfl).trans ?_
  refine (px_iastore (by decide +kernel)).trans ((and_iff_right h2).trans ?_)
  exact Iff.rfl
theorem b205_591 {d : Nat} {G : PG} {M T : PH} {K : PV → PS → Prop} {l0 l1 l2 l3 : Int} (h1 : pm_ob G l0 12) : pm_Run d 205 591 [.inr (.inr (.inl l0)), .inl l1, .inl l2, .inl l3, PU] [] (G, M, T) K ↔ pm_Call d 187 [.inr (.inr (.inl l0))] (G, M, T) (fun r S1 => pm_Run d 205 595 [.inr (.inr (.inl l0)), .inl l1, .inl l2, .inl l3, PU] (pm_push r []) S1 K) := by
  refine (px_go (by decide +kernel : pm_fe 205 591 = some (.aload_n 0, 1)) rfl).trans ?_
  refine (px_v0 (idx := 268) (m' := 187) (ci := 12) (by decide +kernel)).trans ((and_iff_right ⟨h1, (by simp [pm_wl_n, pm_wl_c, pm_w] : pm_wl [] ≤ 8)⟩).trans ?_)
  exact Iff.rfl
theorem b205_595 {d : Nat} {G : PG} {M T : PH} {K : PV → PS → Prop} {l0 l1 l2 l3 : Int} : pm_Run d 205 595 [.inr (.inr (.inl l0)), .inl l1, .inl l2, .inl l3, PU] [] (G, M, T) K ↔ K (.inl 1) (G, M, T) := by
  refine (px_go (by decide +kernel : pm_fe 205 595 = some (.iconst 1, 1)) rfl).trans ?_
  refine (px_rz (by decide +kernel)).trans ((and_iff_right (by decide : (1 : Int) = (0 : Int) ∨ (1 : Int) = (1 : Int))).trans ?_)
  exact Iff.rfl
-- X12_reads reads(Z)V
theorem en206 {d : Nat} {a p0 : Int} {S : PS} {K : PV → PS → Prop} : pm_Call (d + 1) 206 [.inr (.inr (.inl a)), .inl p0] S K ↔ pm_Run d 206 0 [.inr (.inr (.inl a)), .inl p0, PU] [] S K := pm_Call_s.trans (and_iff_right (show 2 ≤ pm_ml 206 from by decide +kernel))
theorem b206_0 {d : Nat} {G : PG} {M T : PH} {K : PV → PS → Prop} {l0 l1 : Int} (h1 : pm_ob G l0 12) : pm_Run d 206 0 [.inr (.inr (.inl l0)), .inl l1, PU] [] (G, M, T) K ↔ if pm_sg (M l0.toNat 8) ≤ 0 then pm_Run d 206 8 [.inr (.inr (.inl l0)), .inl l1, PU] [] (G, M, T) K else pm_Run d 206 7 [.inr (.inr (.inl l0)), .inl l1, PU] [] (G, M, T) K := by
  refine (px_go (by decide +kernel : pm_fe 206 0 = some (.aload_n 0, 1)) rfl).trans ?_
  refine (px_get0 (idx := 36) (ci := 12) (k := 8) (by decide +kernel)).trans ((and_iff_right h1).trans ?_)
  refine (px_if_le (off := 4) (tgt := 8) (by decide +kernel)).trans ?_
  exact Iff.rfl
theorem b206_7 {d : Nat} {G : PG} {M T : PH} {K : PV → PS → Prop} {l0 l1 : Int} : pm_Run d 206 7 [.inr (.inr (.inl l0)), .inl l1, PU] [] (G, M, T) K ↔ K PU (G, M, T) := by
  refine (px_rv (by decide +kernel)).trans ?_
  exact Iff.rfl
theorem b206_8 {d : Nat} {G : PG} {M T : PH} {K : PV → PS → Prop} {l0 l1 : Int} (h1 : pm_ob G l0 12) : pm_Run d 206 8 [.inr (.inr (.inl l0)), .inl l1, PU] [] (G, M, T) K ↔ pm_Run d 206 23 [.inr (.inr (.inl l0)), .inl l1, PU] [] (G, pm_sa (pm_sa (pm_sa M l0.toNat (pm_up (M l0.toNat) 48 0)) l0.toNat (pm_up ((pm_sa M l0.toNat (pm_up (M l0.toNat) 48 0)) l0.toNat) 49 0)) l0.toNat (pm_up ((pm_sa (pm_sa M l0.toNat (pm_up (M l0.toNat) 48 0)) l0.toNat (pm_up ((pm_sa M l0.toNat (pm_up (M l0.toNat) 48 0)) l0.toNat) 49 0)) l0.toNat) 51 0), T) K := by
  refine (px_go (by decide +kernel : pm_fe 206 8 = some (.aload_n 0, 1)) rfl).trans ?_
  refine (px_go (by decide +kernel : pm_fe 206 9 = some (.iconst 0, 1)) rfl).trans ?_
  refine (px_put0 (idx := 158) (ci := 12) (k := 48) (by decide +kernel)).trans ((and_iff_right h1).trans ?_)
  refine (px_go (by decide +kernel : pm_fe 206 13 = some (.aload_n 0, 1)) rfl).trans ?_
  refine (px_go (by decide +kernel : pm_fe 206 14 = some (.iconst 0, 1)) rfl).trans ?_
  refine (px_put0 (idx := 161) (ci := 12) (k := 49) (by decide +kernel)).trans ((and_iff_right h1).trans ?_)
  refine (px_go (by decide +kernel : pm_fe 206 18 = some (.aload_n 0, 1)) rfl).trans ?_
  refine (px_go (by decide +kernel : pm_fe 206 19 = some (.iconst 0, 1)) rfl).trans ?_
  refine (px_put0 (idx := 167) (ci := 12) (k := 51) (by decide +kernel)).trans ((and_iff_right h1).trans ?_)
  exact Iff.rfl
theorem b206_23 {d : Nat} {G : PG} {M T : PH} {K : PV → PS → Prop} {l0 l1 : Int} (h1 : pm_ob G l0 12) : pm_Run d 206 23 [.inr (.inr (.inl l0)), .inl l1, PU] [] (G, M, T) K ↔ if pm_sg l1 = 0 then pm_Run d 206 37 [.inr (.inr (.inl l0)), .inl l1, PU] [.inr (.inr (.inl l0))] (G, pm_sa M l0.toNat (pm_up (M l0.toNat) 52 0), T) K else pm_Run d 206 33 [.inr (.inr (.inl l0)), .inl l1, PU] [.inr (.inr (.inl l0))] (G, pm_sa M l0.toNat (pm_up (M l0.toNat) 52 0), T) K := by
  refine (px_go (by decide +kernel : pm_fe 206 23 = some (.aload_n 0, 1)) rfl).trans ?_
  refine (px_go (by decide +kernel : pm_fe 206 24 = some (.iconst 0, 1)) rfl).trans ?_
  refine (px_put3 (idx := 170) (ci := 12) (k := 52) (by decide +kernel)).trans ((and_iff_right ⟨h1, (by decide : (0 : Int) = (0 : Int) ∨ (0 : Int) = (1 : Int))⟩).trans ?_)
  refine (px_go (by decide +kernel : pm_fe 206 28 = some (.aload_n 0, 1)) rfl).trans ?_
  refine (px_go (by decide +kernel : pm_fe 206 29 = some (.iload_n 1, 1)) rfl).trans ?_
  refine (px_if_eq (off := 7) (tgt := 37) (by decide +kernel)).trans ?_
  exact Iff.rfl
theorem b206_33 {d : Nat} {G : PG} {M T : PH} {K : PV → PS → Prop} {l0 l1 s0 : Int} : pm_Run d 206 33 [.inr (.inr (.inl l0)), .inl l1, PU] [.inr (.inr (.inl s0))] (G, M, T) K ↔ pm_Run d 206 38 [.inr (.inr (.inl l0)), .inl l1, PU] [.inl 1, .inr (.inr (.inl s0))] (G, M, T) K := by
  refine (px_go (by decide +kernel : pm_fe 206 33 = some (.iconst 1, 1)) rfl).trans ?_
  refine (px_goto (off := 4) (tgt := 38) (by decide +kernel)).trans ?_
  exact Iff.rfl
theorem b206_37 {d : Nat} {G : PG} {M T : PH} {K : PV → PS → Prop} {l0 l1 s0 : Int} : pm_Run d 206 37 [.inr (.inr (.inl l0)), .inl l1, PU] [.inr (.inr (.inl s0))] (G, M, T) K ↔ pm_Run d 206 38 [.inr (.inr (.inl l0)), .inl l1, PU] [.inl 0, .inr (.inr (.inl s0))] (G, M, T) K := by
  refine (px_go (by decide +kernel : pm_fe 206 37 = some (.iconst 0, 1)) rfl).trans ?_
  exact Iff.rfl
theorem b206_38 {d : Nat} {G : PG} {M T : PH} {K : PV → PS → Prop} {l0 l1 s0 s1 : Int} (h1 : pm_ob G s1 12) : pm_Run d 206 38 [.inr (.inr (.inl l0)), .inl l1, PU] [.inl s0, .inr (.inr (.inl s1))] (G, M, T) K ↔ pm_Call d 201 [.inr (.inr (.inl s1)), .inl s0] (G, M, T) (fun r S1 => pm_Run d 206 41 [.inr (.inr (.inl l0)), .inl l1, PU] (pm_push r []) S1 K) := by
  refine (px_v1 (idx := 350) (m' := 201) (ci := 12) (by decide +kernel)).trans ((and_iff_right ⟨h1, (by simp [pm_wl_n, pm_wl_c, pm_w] : pm_wl [] ≤ 8)⟩).trans ?_)
  exact Iff.rfl
theorem b206_41 {d : Nat} {G : PG} {M T : PH} {K : PV → PS → Prop} {l0 l1 : Int} : pm_Run d 206 41 [.inr (.inr (.inl l0)), .inl l1, PU] [] (G, M, T) K ↔ pm_Run d 206 43 [.inr (.inr (.inl l0)), .inl l1, .inl 1] [] (G, M, T) K := by
  refine (px_go (by decide +kernel : pm_fe 206 41 = some (.iconst 1, 1)) rfl).trans ?_
  refine (px_go (by decide +kernel : pm_fe 206 42 = some (.istore_n 2, 1)) rfl).trans ?_
  exact Iff.rfl
theorem b206_43 {d : Nat} {G : PG} {M T : PH} {K : PV → PS → Prop} {l0 l1 l2 : Int} : pm_Run d 206 43 [.inr (.inr (.inl l0)), .inl l1, .inl l2] [] (G, M, T) K ↔ if pm_sg l2 = 0 then pm_Run d 206 90 [.inr (.inr (.inl l0)), .inl l1, .inl l2] [] (G, M, T) K else pm_Run d 206 47 [.inr (.inr (.inl l0)), .inl l1, .inl l2] [] (G, M, T) K := by
  refine (px_go (by decide +kernel : pm_fe 206 43 = some (.iload_n 2, 1)) rfl).trans ?_
  refine (px_if_eq (off := 46) (tgt := 90) (by decide +kernel)).trans ?_
  exact Iff.rfl
theorem b206_47 {d : Nat} {G : PG} {M T : PH} {K : PV → PS → Prop} {l0 l1 l2 : Int} (h1 : pm_ob G l0 12) : pm_Run d 206 47 [.inr (.inr (.inl l0)), .inl l1, .inl l2] [] (G, M, T) K ↔ if pm_sg (M l0.toNat 52) ≠ 0 then pm_Run d 206 65 [.inr (.inr (.inl l0)), .inl l1, .inl l2] [] (G, M, T) K else pm_Run d 206 54 [.inr (.inr (.inl l0)), .inl l1, .inl l2] [] (G, M, T) K := by
  refine (px_go (by decide +kernel : pm_fe 206 47 = some (.aload_n 0, 1)) rfl).trans ?_
  refine (px_get0 (idx := 170) (ci := 12) (k := 52) (by decide +kernel)).trans ((and_iff_right h1).trans ?_)
  refine (px_if_ne (off := 14) (tgt := 65) (by decide +kernel)).trans ?_
  exact Iff.rfl
theorem b206_54 {d : Nat} {G : PG} {M T : PH} {K : PV → PS → Prop} {l0 l1 l2 : Int} (h1 : pm_ob G l0 12) : pm_Run d 206 54 [.inr (.inr (.inl l0)), .inl l1, .inl l2] [] (G, M, T) K ↔ pm_Call d 204 [.inr (.inr (.inl l0))] (G, M, T) (fun r S1 => pm_Run d 206 59 [.inr (.inr (.inl l0)), .inl l1, .inl l2] (pm_push r [.inr (.inr (.inl l0))]) S1 K) := by
  refine (px_go (by decide +kernel : pm_fe 206 54 = some (.aload_n 0, 1)) rfl).trans ?_
  refine (px_go (by decide +kernel : pm_fe 206 55 = some (.aload_n 0, 1)) rfl).trans ?_
  refine (px_v0 (idx := 369) (m' := 204) (ci := 12) (by decide +kernel)).trans ((and_iff_right ⟨h1, (by simp [pm_wl_n, pm_wl_c, pm_w] : pm_wl [.inr (.inr (.inl l0))] ≤ 8)⟩).trans ?_)
  exact Iff.rfl
theorem b206_59 {d : Nat} {G : PG} {M T : PH} {K : PV → PS → Prop} {l0 l1 l2 s0 s1 : Int} (h1 : pm_ob G s1 12) (h2 : s0 = 0 ∨ s0 = 1) : pm_Run d 206 59 [.inr (.inr (.inl l0)), .inl l1, .inl l2] [.inl s0, .inr (.inr (.inl s1))] (G, M, T) K ↔ pm_Run d 206 70 [.inr (.inr (.inl l0)), .inl l1, .inl l2] [] (G, pm_sa M s1.toNat (pm_up (M s1.toNat) 52 s0), T) K := by
  refine (px_put3 (idx := 170) (ci := 12) (k := 52) (by decide +kernel)).trans ((and_iff_right ⟨h1, h2⟩).trans ?_)
  refine (px_goto (off := 8) (tgt := 70) (by decide +kernel)).trans ?_
  exact Iff.rfl
theorem b206_65 {d : Nat} {G : PG} {M T : PH} {K : PV → PS → Prop} {l0 l1 l2 : Int} (h1 : pm_ob G l0 12) : pm_Run d 206 65 [.inr (.inr (.inl l0)), .inl l1, .inl l2] [] (G, M, T) K ↔ pm_Call d 205 [.inr (.inr (.inl l0))] (G, M, T) (fun r S1 => pm_Run d 206 69 [.inr (.inr (.inl l0)), .inl l1, .inl l2] (pm_push r []) S1 K) := by
  refine (px_go (by decide +kernel : pm_fe 206 65 = some (.aload_n 0, 1)) rfl).trans ?_
  refine (px_v0 (idx := 372) (m' := 205) (ci := 12) (by decide +kernel)).trans ((and_iff_right ⟨h1, (by simp [pm_wl_n, pm_wl_c, pm_w] : pm_wl [] ≤ 8)⟩).trans ?_)
  exact Iff.rfl
theorem b206_69 {d : Nat} {G : PG} {M T : PH} {K : PV → PS → Prop} {l0 l1 l2 s0 : Int} : pm_Run d 206 69 [.inr (.inr (.inl l0)), .inl l1, .inl l2] [.inl s0] (G, M, T) K ↔ pm_Run d 206 70 [.inr (.inr (.inl l0)), .inl l1, .inl s0] [] (G, M, T) K := by
  refine (px_go (by decide +kernel : pm_fe 206 69 = some (.istore_n 2, 1)) rfl).trans ?_
  exact Iff.rfl
theorem b206_70 {d : Nat} {G : PG} {M T : PH} {K : PV → PS → Prop} {l0 l1 l2 : Int} : pm_Run d 206 70 [.inr (.inr (.inl l0)), .inl l1, .inl l2] [] (G, M, T) K ↔ if pm_sg l2 = 0 then pm_Run d 206 85 [.inr (.inr (.inl l0)), .inl l1, .inl l2] [] (G, M, T) K else pm_Run d 206 74 [.inr (.inr (.inl l0)), .inl l1, .inl l2] [] (G, M, T) K := by
  refine (px_go (by decide +kernel : pm_fe 206 70 = some (.iload_n 2, 1)) rfl).trans ?_
  refine (px_if_eq (off := 14) (tgt := 85) (by decide +kernel)).trans ?_
  exact Iff.rfl
theorem b206_74 {d : Nat} {G : PG} {M T : PH} {K : PV → PS → Prop} {l0 l1 l2 : Int} (h1 : pm_ob G l0 12) : pm_Run d 206 74 [.inr (.inr (.inl l0)), .inl l1, .inl l2] [] (G, M, T) K ↔ if pm_sg (M l0.toNat 8) ≠ 0 then pm_Run d 206 85 [.inr (.inr (.inl l0)), .inl l1, .inl l2] [] (G, M, T) K else pm_Run d 206 81 [.inr (.inr (.inl l0)), .inl l1, .inl l2] [] (G, M, T) K := by
  refine (px_go (by decide +kernel : pm_fe 206 74 = some (.aload_n 0, 1)) rfl).trans ?_
  refine (px_get0 (idx := 36) (ci := 12) (k := 8) (by decide +kernel)).trans ((and_iff_right h1).trans ?_)
  refine (px_if_ne (off := 7) (tgt := 85) (by decide +kernel)).trans ?_
  exact Iff.rfl
theorem b206_81 {d : Nat} {G : PG} {M T : PH} {K : PV → PS → Prop} {l0 l1 l2 : Int} : pm_Run d 206 81 [.inr (.inr (.inl l0)), .inl l1, .inl l2] [] (G, M, T) K ↔ pm_Run d 206 86 [.inr (.inr (.inl l0)), .inl l1, .inl l2] [.inl 1] (G, M, T) K := by
  refine (px_go (by decide +kernel : pm_fe 206 81 = some (.iconst 1, 1)) rfl).trans ?_
  refine (px_goto (off := 4) (tgt := 86) (by decide +kernel)).trans ?_
  exact Iff.rfl
theorem b206_85 {d : Nat} {G : PG} {M T : PH} {K : PV → PS → Prop} {l0 l1 l2 : Int} : pm_Run d 206 85 [.inr (.inr (.inl l0)), .inl l1, .inl l2] [] (G, M, T) K ↔ pm_Run d 206 86 [.inr (.inr (.inl l0)), .inl l1, .inl l2] [.inl 0] (G, M, T) K := by
  refine (px_go (by decide +kernel : pm_fe 206 85 = some (.iconst 0, 1)) rfl).trans ?_
  exact Iff.rfl
theorem b206_86 {d : Nat} {G : PG} {M T : PH} {K : PV → PS → Prop} {l0 l1 l2 s0 : Int} : pm_Run d 206 86 [.inr (.inr (.inl l0)), .inl l1, .inl l2] [.inl s0] (G, M, T) K ↔ pm_Run d 206 43 [.inr (.inr (.inl l0)), .inl l1, .inl s0] [] (G, M, T) K := by
  refine (px_go (by decide +kernel : pm_fe 206 86 = some (.istore_n 2, 1)) rfl).trans ?_
  refine (px_goto (off := (-44)) (tgt := 43) (by decide +kernel)).trans ?_
  exact Iff.rfl
theorem b206_90 {d : Nat} {G : PG} {M T : PH} {K : PV → PS → Prop} {l0 l1 l2 : Int} : pm_Run d 206 90 [.inr (.inr (.inl l0)), .inl l1, .inl l2] [] (G, M, T) K ↔ K PU (G, M, T) := by
  refine (px_rv (by decide +kernel)).trans ?_
  exact Iff.rfl
-- X12_counts counts(Z)Z
theorem en207 {d : Nat} {a p0 : Int} {S : PS} {K : PV → PS → Prop} : pm_Call (d + 1) 207 [.inr (.inr (.inl a)), .inl p0] S K ↔ pm_Run d 207 0 [.inr (.inr (.inl a)), .inl p0] [] S K := pm_Call_s.trans (and_iff_right (show 2 ≤ pm_ml 207 from by decide +kernel))
theorem b207_0 {d : Nat} {G : PG} {M T : PH} {K : PV → PS → Prop} {l0 l1 : Int} (h1 : pm_ob G l0 12) : pm_Run d 207 0 [.inr (.inr (.inl l0)), .inl l1] [] (G, M, T) K ↔ if pm_sg (M l0.toNat 8) ≠ 0 then pm_Run d 207 21 [.inr (.inr (.inl l0)), .inl l1] [] (G, M, T) K else pm_Run d 207 7 [.inr (.inr (.inl l0)), .inl l1] [] (G, M, T) K := by
  refine (px_go (by decide +kernel : pm_fe 207 0 = some (.aload_n 0, 1)) rfl).trans ?_
  refine (px_get0 (idx := 36) (ci := 12) (k := 8) (by decide +kernel)).trans ((and_iff_right h1).trans ?_)
  refine (px_if_ne (off := 17) (tgt := 21) (by decide +kernel)).trans ?_
  exact Iff.rfl
theorem b207_7 {d : Nat} {G : PG} {M T : PH} {K : PV → PS → Prop} {l0 l1 : Int} : pm_Run d 207 7 [.inr (.inr (.inl l0)), .inl l1] [] (G, M, T) K ↔ if pm_sg l1 = 0 then pm_Run d 207 21 [.inr (.inr (.inl l0)), .inl l1] [] (G, M, T) K else pm_Run d 207 11 [.inr (.inr (.inl l0)), .inl l1] [] (G, M, T) K := by
  refine (px_go (by decide +kernel : pm_fe 207 7 = some (.iload_n 1, 1)) rfl).trans ?_
  refine (px_if_eq (off := 13) (tgt := 21) (by decide +kernel)).trans ?_
  exact Iff.rfl
theorem b207_11 {d : Nat} {G : PG} {M T : PH} {K : PV → PS → Prop} {l0 l1 : Int} (h1 : pm_ob G l0 12) : pm_Run d 207 11 [.inr (.inr (.inl l0)), .inl l1] [] (G, M, T) K ↔ pm_Call d 183 [.inr (.inr (.inl l0)), .inl 6, .inl (M l0.toNat 4)] (G, M, T) (fun r S1 => pm_Run d 207 21 [.inr (.inr (.inl l0)), .inl l1] (pm_push r []) S1 K) := by
  refine (px_go (by decide +kernel : pm_fe 207 11 = some (.aload_n 0, 1)) rfl).trans ?_
  refine (px_go (by decide +kernel : pm_fe 207 12 = some (.bipush 6, 2)) rfl).trans ?_
  refine (px_go (by decide +kernel : pm_fe 207 14 = some (.aload_n 0, 1)) rfl).trans ?_
  refine (px_get0 (idx := 23) (ci := 12) (k := 4) (by decide +kernel)).trans ((and_iff_right h1).trans ?_)
  refine (px_v2 (idx := 251) (m' := 183) (ci := 12) (by decide +kernel)).trans ((and_iff_right ⟨h1, (by simp [pm_wl_n, pm_wl_c, pm_w] : pm_wl [] ≤ 8)⟩).trans ?_)
  exact Iff.rfl
theorem b207_21 {d : Nat} {G : PG} {M T : PH} {K : PV → PS → Prop} {l0 l1 : Int} (h1 : pm_ob G l0 12) : pm_Run d 207 21 [.inr (.inr (.inl l0)), .inl l1] [] (G, M, T) K ↔ if pm_sg (M l0.toNat 8) ≠ 0 then pm_Run d 207 32 [.inr (.inr (.inl l0)), .inl l1] [] (G, M, T) K else pm_Run d 207 28 [.inr (.inr (.inl l0)), .inl l1] [] (G, M, T) K := by
  refine (px_go (by decide +kernel : pm_fe 207 21 = some (.aload_n 0, 1)) rfl).trans ?_
  refine (px_get0 (idx := 36) (ci := 12) (k := 8) (by decide +kernel)).trans ((and_iff_right h1).trans ?_)
  refine (px_if_ne (off := 7) (tgt := 32) (by decide +kernel)).trans ?_
  exact Iff.rfl
theorem b207_28 {d : Nat} {G : PG} {M T : PH} {K : PV → PS → Prop} {l0 l1 : Int} (h1 : pm_ob G l0 12) : pm_Run d 207 28 [.inr (.inr (.inl l0)), .inl l1] [] (G, M, T) K ↔ pm_Call d 187 [.inr (.inr (.inl l0))] (G, M, T) (fun r S1 => pm_Run d 207 32 [.inr (.inr (.inl l0)), .inl l1] (pm_push r []) S1 K) := by
  refine (px_go (by decide +kernel : pm_fe 207 28 = some (.aload_n 0, 1)) rfl).trans ?_
  refine (px_v0 (idx := 268) (m' := 187) (ci := 12) (by decide +kernel)).trans ((and_iff_right ⟨h1, (by simp [pm_wl_n, pm_wl_c, pm_w] : pm_wl [] ≤ 8)⟩).trans ?_)
  exact Iff.rfl
theorem b207_32 {d : Nat} {G : PG} {M T : PH} {K : PV → PS → Prop} {l0 l1 : Int} (h1 : pm_ob G l0 12) : pm_Run d 207 32 [.inr (.inr (.inl l0)), .inl l1] [] (G, M, T) K ↔ if pm_sg (M l0.toNat 8) ≠ 0 then pm_Run d 207 43 [.inr (.inr (.inl l0)), .inl l1] [] (G, M, T) K else pm_Run d 207 39 [.inr (.inr (.inl l0)), .inl l1] [] (G, M, T) K := by
  refine (px_go (by decide +kernel : pm_fe 207 32 = some (.aload_n 0, 1)) rfl).trans ?_
  refine (px_get0 (idx := 36) (ci := 12) (k := 8) (by decide +kernel)).trans ((and_iff_right h1).trans ?_)
  refine (px_if_ne (off := 7) (tgt := 43) (by decide +kernel)).trans ?_
  exact Iff.rfl
theorem b207_39 {d : Nat} {G : PG} {M T : PH} {K : PV → PS → Prop} {l0 l1 : Int} : pm_Run d 207 39 [.inr (.inr (.inl l0)), .inl l1] [] (G, M, T) K ↔ pm_Run d 207 44 [.inr (.inr (.inl l0)), .inl l1] [.inl 1] (G, M, T) K := by
  refine (px_go (by decide +kernel : pm_fe 207 39 = some (.iconst 1, 1)) rfl).trans ?_
  refine (px_goto (off := 4) (tgt := 44) (by decide +kernel)).trans ?_
  exact Iff.rfl
theorem b207_43 {d : Nat} {G : PG} {M T : PH} {K : PV → PS → Prop} {l0 l1 : Int} : pm_Run d 207 43 [.inr (.inr (.inl l0)), .inl l1] [] (G, M, T) K ↔ pm_Run d 207 44 [.inr (.inr (.inl l0)), .inl l1] [.inl 0] (G, M, T) K := by
  refine (px_go (by decide +kernel : pm_fe 207 43 = some (.iconst 0, 1)) rfl).trans ?_
  exact Iff.rfl
theorem b207_44 {d : Nat} {G : PG} {M T : PH} {K : PV → PS → Prop} {l0 l1 s0 : Int} (h1 : s0 = 0 ∨ s0 = 1) : pm_Run d 207 44 [.inr (.inr (.inl l0)), .inl l1] [.inl s0] (G, M, T) K ↔ K (.inl s0) (G, M, T) := by
  refine (px_rz (by decide +kernel)).trans ((and_iff_right h1).trans ?_)
  exact Iff.rfl
-- X12_must_ must(J)V
theorem en208 {d : Nat} {a p0 : Int} {S : PS} {K : PV → PS → Prop} : pm_Call (d + 1) 208 [.inr (.inr (.inl a)), .inr (.inl p0)] S K ↔ pm_Run d 208 0 [.inr (.inr (.inl a)), .inr (.inl p0), PU] [] S K := pm_Call_s.trans (and_iff_right (show 3 ≤ pm_ml 208 from by decide +kernel))
theorem b208_0 {d : Nat} {G : PG} {M T : PH} {K : PV → PS → Prop} {l0 l1 : Int} (h1 : pm_ob G l0 12) : pm_Run d 208 0 [.inr (.inr (.inl l0)), .inr (.inl l1), PU] [] (G, M, T) K ↔ pm_Call d 186 [.inr (.inr (.inl l0))] (G, M, T) (fun r S1 => pm_Run d 208 4 [.inr (.inr (.inl l0)), .inr (.inl l1), PU] (pm_push r []) S1 K) := by
  refine (px_go (by decide +kernel : pm_fe 208 0 = some (.aload_n 0, 1)) rfl).trans ?_
  refine (px_v0 (idx := 262) (m' := 186) (ci := 12) (by decide +kernel)).trans ((and_iff_right ⟨h1, (by simp [pm_wl_n, pm_wl_c, pm_w] : pm_wl [] ≤ 8)⟩).trans ?_)
  exact Iff.rfl
theorem b208_4 {d : Nat} {G : PG} {M T : PH} {K : PV → PS → Prop} {l0 l1 : Int} (h1 : pm_ob G l0 12) : pm_Run d 208 4 [.inr (.inr (.inl l0)), .inr (.inl l1), PU] [] (G, M, T) K ↔ if pm_sg (M l0.toNat 8) ≤ 0 then pm_Run d 208 12 [.inr (.inr (.inl l0)), .inr (.inl l1), PU] [] (G, M, T) K else pm_Run d 208 11 [.inr (.inr (.inl l0)), .inr (.inl l1), PU] [] (G, M, T) K := by
  refine (px_go (by decide +kernel : pm_fe 208 4 = some (.aload_n 0, 1)) rfl).trans ?_
  refine (px_get0 (idx := 36) (ci := 12) (k := 8) (by decide +kernel)).trans ((and_iff_right h1).trans ?_)
  refine (px_if_le (off := 4) (tgt := 12) (by decide +kernel)).trans ?_
  exact Iff.rfl
theorem b208_11 {d : Nat} {G : PG} {M T : PH} {K : PV → PS → Prop} {l0 l1 : Int} : pm_Run d 208 11 [.inr (.inr (.inl l0)), .inr (.inl l1), PU] [] (G, M, T) K ↔ K PU (G, M, T) := by
  refine (px_rv (by decide +kernel)).trans ?_
  exact Iff.rfl
theorem b208_12 {d : Nat} {G : PG} {M T : PH} {K : PV → PS → Prop} {l0 l1 : Int} (h1 : pm_ob G l0 12) : pm_Run d 208 12 [.inr (.inr (.inl l0)), .inr (.inl l1), PU] [] (G, M, T) K ↔ pm_Call d 189 [.inr (.inr (.inl l0)), .inr (.inl l1)] (G, M, T) (fun r S1 => pm_Run d 208 17 [.inr (.inr (.inl l0)), .inr (.inl l1), PU] (pm_push r []) S1 K) := by
  refine (px_go (by decide +kernel : pm_fe 208 12 = some (.aload_n 0, 1)) rfl).trans ?_
  refine (px_go (by decide +kernel : pm_fe 208 13 = some (.lload_n 1, 1)) rfl).trans ?_
  refine (px_v1 (idx := 356) (m' := 189) (ci := 12) (by decide +kernel)).trans ((and_iff_right ⟨h1, (by simp [pm_wl_n, pm_wl_c, pm_w] : pm_wl [] ≤ 8)⟩).trans ?_)
  exact Iff.rfl
theorem b208_17 {d : Nat} {G : PG} {M T : PH} {K : PV → PS → Prop} {l0 l1 s0 : Int} : pm_Run d 208 17 [.inr (.inr (.inl l0)), .inr (.inl l1), PU] [.inl s0] (G, M, T) K ↔ if pm_sg s0 ≠ 0 then pm_Run d 208 29 [.inr (.inr (.inl l0)), .inr (.inl l1), PU] [] (G, M, T) K else pm_Run d 208 20 [.inr (.inr (.inl l0)), .inr (.inl l1), PU] [] (G, M, T) K := by
  refine (px_if_ne (off := 12) (tgt := 29) (by decide +kernel)).trans ?_
  exact Iff.rfl
theorem b208_20 {d : Nat} {G : PG} {M T : PH} {K : PV → PS → Prop} {l0 l1 : Int} (h1 : pm_ob G l0 12) : pm_Run d 208 20 [.inr (.inr (.inl l0)), .inr (.inl l1), PU] [] (G, M, T) K ↔ pm_Call d 183 [.inr (.inr (.inl l0)), .inl 1, .inl (M l0.toNat 4)] (G, M, T) (fun r S1 => pm_Run d 208 29 [.inr (.inr (.inl l0)), .inr (.inl l1), PU] (pm_push r []) S1 K) := by
  refine (px_go (by decide +kernel : pm_fe 208 20 = some (.aload_n 0, 1)) rfl).trans ?_
  refine (px_go (by decide +kernel : pm_fe 208 21 = some (.iconst 1, 1)) rfl).trans ?_
  refine (px_go (by decide +kernel : pm_fe 208 22 = some (.aload_n 0, 1)) rfl).trans ?_
  refine (px_get0 (idx := 23) (ci := 12) (k := 4) (by decide +kernel)).trans ((and_iff_right h1).trans ?_)
  refine (px_v2 (idx := 251) (m' := 183) (ci := 12) (by decide +kernel)).trans ((and_iff_right ⟨h1, (by simp [pm_wl_n, pm_wl_c, pm_w] : pm_wl [] ≤ 8)⟩).trans ?_)
  exact Iff.rfl
theorem b208_29 {d : Nat} {G : PG} {M T : PH} {K : PV → PS → Prop} {l0 l1 : Int} (h1 : pm_ob G l0 12) : pm_Run d 208 29 [.inr (.inr (.inl l0)), .inr (.inl l1), PU] [] (G, M, T) K ↔ if pm_sg (M l0.toNat 8) ≠ 0 then pm_Run d 208 40 [.inr (.inr (.inl l0)), .inr (.inl l1), PU] [] (G, M, T) K else pm_Run d 208 36 [.inr (.inr (.inl l0)), .inr (.inl l1), PU] [] (G, M, T) K := by
  refine (px_go (by decide +kernel : pm_fe 208 29 = some (.aload_n 0, 1)) rfl).trans ?_
  refine (px_get0 (idx := 36) (ci := 12) (k := 8) (by decide +kernel)).trans ((and_iff_right h1).trans ?_)
  refine (px_if_ne (off := 7) (tgt := 40) (by decide +kernel)).trans ?_
  exact Iff.rfl
theorem b208_36 {d : Nat} {G : PG} {M T : PH} {K : PV → PS → Prop} {l0 l1 : Int} (h1 : pm_ob G l0 12) : pm_Run d 208 36 [.inr (.inr (.inl l0)), .inr (.inl l1), PU] [] (G, M, T) K ↔ pm_Call d 187 [.inr (.inr (.inl l0))] (G, M, T) (fun r S1 => pm_Run d 208 40 [.inr (.inr (.inl l0)), .inr (.inl l1), PU] (pm_push r []) S1 K) := by
  refine (px_go (by decide +kernel : pm_fe 208 36 = some (.aload_n 0, 1)) rfl).trans ?_
  refine (px_v0 (idx := 268) (m' := 187) (ci := 12) (by decide +kernel)).trans ((and_iff_right ⟨h1, (by simp [pm_wl_n, pm_wl_c, pm_w] : pm_wl [] ≤ 8)⟩).trans ?_)
  exact Iff.rfl
theorem b208_40 {d : Nat} {G : PG} {M T : PH} {K : PV → PS → Prop} {l0 l1 : Int} : pm_Run d 208 40 [.inr (.inr (.inl l0)), .inr (.inl l1), PU] [] (G, M, T) K ↔ K PU (G, M, T) := by
  refine (px_rv (by decide +kernel)).trans ?_
  exact Iff.rfl
-- X12_fresh fresh()J
theorem en209 {d : Nat} {a : Int} {S : PS} {K : PV → PS → Prop} : pm_Call (d + 1) 209 [.inr (.inr (.inl a))] S K ↔ pm_Run d 209 0 [.inr (.inr (.inl a)), PU, PU] [] S K := pm_Call_s.trans (and_iff_right (show 1 ≤ pm_ml 209 from by decide +kernel))
theorem b209_0 {d : Nat} {G : PG} {M T : PH} {K : PV → PS → Prop} {l0 : Int} (h1 : pm_ob G l0 12) : pm_Run d 209 0 [.inr (.inr (.inl l0)), PU, PU] [] (G, M, T) K ↔ pm_Call d 186 [.inr (.inr (.inl l0))] (G, M, T) (fun r S1 => pm_Run d 209 4 [.inr (.inr (.inl l0)), PU, PU] (pm_push r []) S1 K) := by
  refine (px_go (by decide +kernel : pm_fe 209 0 = some (.aload_n 0, 1)) rfl).trans ?_
  refine (px_v0 (idx := 262) (m' := 186) (ci := 12) (by decide +kernel)).trans ((and_iff_right ⟨h1, (by simp [pm_wl_n, pm_wl_c, pm_w] : pm_wl [] ≤ 8)⟩).trans ?_)
  exact Iff.rfl
theorem b209_4 {d : Nat} {G : PG} {M T : PH} {K : PV → PS → Prop} {l0 : Int} (h1 : pm_ob G l0 12) : pm_Run d 209 4 [.inr (.inr (.inl l0)), PU, PU] [] (G, M, T) K ↔ if pm_sg (M l0.toNat 8) ≤ 0 then pm_Run d 209 13 [.inr (.inr (.inl l0)), PU, PU] [] (G, M, T) K else pm_Run d 209 11 [.inr (.inr (.inl l0)), PU, PU] [] (G, M, T) K := by
  refine (px_go (by decide +kernel : pm_fe 209 4 = some (.aload_n 0, 1)) rfl).trans ?_
  refine (px_get0 (idx := 36) (ci := 12) (k := 8) (by decide +kernel)).trans ((and_iff_right h1).trans ?_)
  refine (px_if_le (off := 5) (tgt := 13) (by decide +kernel)).trans ?_
  exact Iff.rfl
theorem b209_11 {d : Nat} {G : PG} {M T : PH} {K : PV → PS → Prop} {l0 : Int} : pm_Run d 209 11 [.inr (.inr (.inl l0)), PU, PU] [] (G, M, T) K ↔ K (.inr (.inl 0)) (G, M, T) := by
  refine (px_go (by decide +kernel : pm_fe 209 11 = some (.lconst 0, 1)) rfl).trans ?_
  refine (px_rl (by decide +kernel)).trans ?_
  exact Iff.rfl
theorem b209_13 {d : Nat} {G : PG} {M T : PH} {K : PV → PS → Prop} {l0 : Int} (h1 : pm_ob G l0 12) : pm_Run d 209 13 [.inr (.inr (.inl l0)), PU, PU] [] (G, M, T) K ↔ if pm_sg (M l0.toNat 3) ≠ pm_sg 1 then pm_Run d 209 32 [.inr (.inr (.inl l0)), PU, PU] [] (G, M, T) K else pm_Run d 209 21 [.inr (.inr (.inl l0)), PU, PU] [] (G, M, T) K := by
  refine (px_go (by decide +kernel : pm_fe 209 13 = some (.aload_n 0, 1)) rfl).trans ?_
  refine (px_get0 (idx := 20) (ci := 12) (k := 3) (by decide +kernel)).trans ((and_iff_right h1).trans ?_)
  refine (px_go (by decide +kernel : pm_fe 209 17 = some (.iconst 1, 1)) rfl).trans ?_
  refine (px_ic_ne (off := 14) (tgt := 32) (by decide +kernel)).trans ?_
  exact Iff.rfl
theorem b209_21 {d : Nat} {G : PG} {M T : PH} {K : PV → PS → Prop} {l0 : Int} (h1 : pm_ob G l0 12) : pm_Run d 209 21 [.inr (.inr (.inl l0)), PU, PU] [] (G, M, T) K ↔ pm_Call d 191 [.inr (.inr (.inl l0)), .inr (.inl (M l0.toNat 7))] (G, M, T) (fun r S1 => pm_Run d 209 29 [.inr (.inr (.inl l0)), PU, PU] (pm_push r []) S1 K) := by
  refine (px_go (by decide +kernel : pm_fe 209 21 = some (.aload_n 0, 1)) rfl).trans ?_
  refine (px_go (by decide +kernel : pm_fe 209 22 = some (.aload_n 0, 1)) rfl).trans ?_
  refine (px_get1 (idx := 32) (ci := 12) (k := 7) (by decide +kernel)).trans ((and_iff_right h1).trans ?_)
  refine (px_v1 (idx := 375) (m' := 191) (ci := 12) (by decide +kernel)).trans ((and_iff_right ⟨h1, (by simp [pm_wl_n, pm_wl_c, pm_w] : pm_wl [] ≤ 8)⟩).trans ?_)
  exact Iff.rfl
theorem b209_29 {d : Nat} {G : PG} {M T : PH} {K : PV → PS → Prop} {l0 s0 : Int} : pm_Run d 209 29 [.inr (.inr (.inl l0)), PU, PU] [.inl s0] (G, M, T) K ↔ if pm_sg s0 = 0 then pm_Run d 209 41 [.inr (.inr (.inl l0)), PU, PU] [] (G, M, T) K else pm_Run d 209 32 [.inr (.inr (.inl l0)), PU, PU] [] (G, M, T) K := by
  refine (px_if_eq (off := 12) (tgt := 41) (by decide +kernel)).trans ?_
  exact Iff.rfl
theorem b209_32 {d : Nat} {G : PG} {M T : PH} {K : PV → PS → Prop} {l0 : Int} (h1 : pm_ob G l0 12) : pm_Run d 209 32 [.inr (.inr (.inl l0)), PU, PU] [] (G, M, T) K ↔ pm_Call d 183 [.inr (.inr (.inl l0)), .inl 1, .inl (M l0.toNat 4)] (G, M, T) (fun r S1 => pm_Run d 209 41 [.inr (.inr (.inl l0)), PU, PU] (pm_push r []) S1 K) := by
  refine (px_go (by decide +kernel : pm_fe 209 32 = some (.aload_n 0, 1)) rfl).trans ?_
  refine (px_go (by decide +kernel : pm_fe 209 33 = some (.iconst 1, 1)) rfl).trans ?_
  refine (px_go (by decide +kernel : pm_fe 209 34 = some (.aload_n 0, 1)) rfl).trans ?_
  refine (px_get0 (idx := 23) (ci := 12) (k := 4) (by decide +kernel)).trans ((and_iff_right h1).trans ?_)
  refine (px_v2 (idx := 251) (m' := 183) (ci := 12) (by decide +kernel)).trans ((and_iff_right ⟨h1, (by simp [pm_wl_n, pm_wl_c, pm_w] : pm_wl [] ≤ 8)⟩).trans ?_)
  exact Iff.rfl
theorem b209_41 {d : Nat} {G : PG} {M T : PH} {K : PV → PS → Prop} {l0 : Int} : pm_Run d 209 41 [.inr (.inr (.inl l0)), PU, PU] [] (G, M, T) K ↔ pm_Run d 209 43 [.inr (.inr (.inl l0)), .inl 0, PU] [] (G, M, T) K := by
  refine (px_go (by decide +kernel : pm_fe 209 41 = some (.iconst 0, 1)) rfl).trans ?_
  refine (px_go (by decide +kernel : pm_fe 209 42 = some (.istore_n 1, 1)) rfl).trans ?_
  exact Iff.rfl
theorem b209_43 {d : Nat} {G : PG} {M T : PH} {K : PV → PS → Prop} {l0 l1 : Int} : pm_Run d 209 43 [.inr (.inr (.inl l0)), .inl l1, PU] [] (G, M, T) K ↔ if pm_sg 1 < pm_sg l1 then pm_Run d 209 83 [.inr (.inr (.inl l0)), .inl l1, PU] [] (G, M, T) K else pm_Run d 209 48 [.inr (.inr (.inl l0)), .inl l1, PU] [] (G, M, T) K := by
  refine (px_go (by decide +kernel : pm_fe 209 43 = some (.iload_n 1, 1)) rfl).trans ?_
  refine (px_go (by decide +kernel : pm_fe 209 44 = some (.iconst 1, 1)) rfl).trans ?_
  refine (px_ic_gt (off := 38) (tgt := 83) (by decide +kernel)).trans ?_
  exact Iff.rfl
theorem b209_48 {d : Nat} {G : PG} {M T : PH} {K : PV → PS → Prop} {l0 l1 : Int} (h1 : pm_ob G l0 12) : pm_Run d 209 48 [.inr (.inr (.inl l0)), .inl l1, PU] [] (G, M, T) K ↔ if pm_sg (M l0.toNat 8) ≠ 0 then pm_Run d 209 83 [.inr (.inr (.inl l0)), .inl l1, PU] [] (G, M, T) K else pm_Run d 209 55 [.inr (.inr (.inl l0)), .inl l1, PU] [] (G, M, T) K := by
  refine (px_go (by decide +kernel : pm_fe 209 48 = some (.aload_n 0, 1)) rfl).trans ?_
  refine (px_get0 (idx := 36) (ci := 12) (k := 8) (by decide +kernel)).trans ((and_iff_right h1).trans ?_)
  refine (px_if_ne (off := 31) (tgt := 83) (by decide +kernel)).trans ?_
  exact Iff.rfl
theorem b209_55 {d : Nat} {G : PG} {M T : PH} {K : PV → PS → Prop} {l0 l1 : Int} (h1 : pm_ob G l0 12) : pm_Run d 209 55 [.inr (.inr (.inl l0)), .inl l1, PU] [] (G, M, T) K ↔ pm_Call d 194 [.inr (.inr (.inl l0)), .inl l1, .inr (.inl (M l0.toNat 7))] (G, M, T) (fun r S1 => pm_Run d 209 64 [.inr (.inr (.inl l0)), .inl l1, PU] (pm_push r []) S1 K) := by
  refine (px_go (by decide +kernel : pm_fe 209 55 = some (.aload_n 0, 1)) rfl).trans ?_
  refine (px_go (by decide +kernel : pm_fe 209 56 = some (.iload_n 1, 1)) rfl).trans ?_
  refine (px_go (by decide +kernel : pm_fe 209 57 = some (.aload_n 0, 1)) rfl).trans ?_
  refine (px_get1 (idx := 32) (ci := 12) (k := 7) (by decide +kernel)).trans ((and_iff_right h1).trans ?_)
  refine (px_v2 (idx := 378) (m' := 194) (ci := 12) (by decide +kernel)).trans ((and_iff_right ⟨h1, (by simp [pm_wl_n, pm_wl_c, pm_w] : pm_wl [] ≤ 8)⟩).trans ?_)
  exact Iff.rfl
theorem b209_64 {d : Nat} {G : PG} {M T : PH} {K : PV → PS → Prop} {l0 l1 s0 : Int} : pm_Run d 209 64 [.inr (.inr (.inl l0)), .inl l1, PU] [.inl s0] (G, M, T) K ↔ if pm_sg s0 = pm_sg (-1) then pm_Run d 209 77 [.inr (.inr (.inl l0)), .inl l1, PU] [] (G, M, T) K else pm_Run d 209 68 [.inr (.inr (.inl l0)), .inl l1, PU] [] (G, M, T) K := by
  refine (px_go (by decide +kernel : pm_fe 209 64 = some (.iconst (-1), 1)) rfl).trans ?_
  refine (px_ic_eq (off := 12) (tgt := 77) (by decide +kernel)).trans ?_
  exact Iff.rfl
theorem b209_68 {d : Nat} {G : PG} {M T : PH} {K : PV → PS → Prop} {l0 l1 : Int} (h1 : pm_ob G l0 12) : pm_Run d 209 68 [.inr (.inr (.inl l0)), .inl l1, PU] [] (G, M, T) K ↔ pm_Call d 183 [.inr (.inr (.inl l0)), .inl 2, .inl (M l0.toNat 4)] (G, M, T) (fun r S1 => pm_Run d 209 77 [.inr (.inr (.inl l0)), .inl l1, PU] (pm_push r []) S1 K) := by
  refine (px_go (by decide +kernel : pm_fe 209 68 = some (.aload_n 0, 1)) rfl).trans ?_
  refine (px_go (by decide +kernel : pm_fe 209 69 = some (.iconst 2, 1)) rfl).trans ?_
  refine (px_go (by decide +kernel : pm_fe 209 70 = some (.aload_n 0, 1)) rfl).trans ?_
  refine (px_get0 (idx := 23) (ci := 12) (k := 4) (by decide +kernel)).trans ((and_iff_right h1).trans ?_)
  refine (px_v2 (idx := 251) (m' := 183) (ci := 12) (by decide +kernel)).trans ((and_iff_right ⟨h1, (by simp [pm_wl_n, pm_wl_c, pm_w] : pm_wl [] ≤ 8)⟩).trans ?_)
  exact Iff.rfl
theorem b209_77 {d : Nat} {G : PG} {M T : PH} {K : PV → PS → Prop} {l0 l1 : Int} : pm_Run d 209 77 [.inr (.inr (.inl l0)), .inl l1, PU] [] (G, M, T) K ↔ pm_Run d 209 43 [.inr (.inr (.inl l0)), .inl (l1 + 1), PU] [] (G, M, T) K := by
  refine (px_go (by decide +kernel : pm_fe 209 77 = some (.iinc 1 1, 3)) rfl).trans ?_
  refine (px_goto (off := (-37)) (tgt := 43) (by decide +kernel)).trans ?_
  exact Iff.rfl
theorem b209_83 {d : Nat} {G : PG} {M T : PH} {K : PV → PS → Prop} {l0 l1 : Int} (h1 : pm_ob G l0 12) : pm_Run d 209 83 [.inr (.inr (.inl l0)), .inl l1, PU] [] (G, M, T) K ↔ if pm_sg (M l0.toNat 8) ≠ 0 then pm_Run d 209 99 [.inr (.inr (.inl l0)), .inr (.inl (M l0.toNat 7)), PU] [] (G, M, T) K else pm_Run d 209 95 [.inr (.inr (.inl l0)), .inr (.inl (M l0.toNat 7)), PU] [] (G, M, T) K := by
  refine (px_go (by decide +kernel : pm_fe 209 83 = some (.aload_n 0, 1)) rfl).trans ?_
  refine (px_get1 (idx := 32) (ci := 12) (k := 7) (by decide +kernel)).trans ((and_iff_right h1).trans ?_)
  refine (px_go (by decide +kernel : pm_fe 209 87 = some (.lstore_n 1, 1)) rfl).trans ?_
  refine (px_go (by decide +kernel : pm_fe 209 88 = some (.aload_n 0, 1)) rfl).trans ?_
  refine (px_get0 (idx := 36) (ci := 12) (k := 8) (by decide +kernel)).trans ((and_iff_right h1).trans ?_)
  refine (px_if_ne (off := 7) (tgt := 99) (by decide +kernel)).trans ?_
  exact Iff.rfl
theorem b209_95 {d : Nat} {G : PG} {M T : PH} {K : PV → PS → Prop} {l0 l1 : Int} (h1 : pm_ob G l0 12) : pm_Run d 209 95 [.inr (.inr (.inl l0)), .inr (.inl l1), PU] [] (G, M, T) K ↔ pm_Call d 187 [.inr (.inr (.inl l0))] (G, M, T) (fun r S1 => pm_Run d 209 99 [.inr (.inr (.inl l0)), .inr (.inl l1), PU] (pm_push r []) S1 K) := by
  refine (px_go (by decide +kernel : pm_fe 209 95 = some (.aload_n 0, 1)) rfl).trans ?_
  refine (px_v0 (idx := 268) (m' := 187) (ci := 12) (by decide +kernel)).trans ((and_iff_right ⟨h1, (by simp [pm_wl_n, pm_wl_c, pm_w] : pm_wl [] ≤ 8)⟩).trans ?_)
  exact Iff.rfl
theorem b209_99 {d : Nat} {G : PG} {M T : PH} {K : PV → PS → Prop} {l0 l1 : Int} : pm_Run d 209 99 [.inr (.inr (.inl l0)), .inr (.inl l1), PU] [] (G, M, T) K ↔ K (.inr (.inl l1)) (G, M, T) := by
  refine (px_go (by decide +kernel : pm_fe 209 99 = some (.lload_n 1, 1)) rfl).trans ?_
  refine (px_rl (by decide +kernel)).trans ?_
  exact Iff.rfl
-- X12_looked looked(I)I
theorem en210 {d : Nat} {a p0 : Int} {S : PS} {K : PV → PS → Prop} : pm_Call (d + 1) 210 [.inr (.inr (.inl a)), .inl p0] S K ↔ pm_Run d 210 0 [.inr (.inr (.inl a)), .inl p0, PU] [] S K := pm_Call_s.trans (and_iff_right (show 2 ≤ pm_ml 210 from by decide +kernel))
theorem b210_0 {d : Nat} {G : PG} {M T : PH} {K : PV → PS → Prop} {l0 l1 : Int} (h1 : pm_ob G l0 12) : pm_Run d 210 0 [.inr (.inr (.inl l0)), .inl l1, PU] [] (G, M, T) K ↔ pm_Call d 186 [.inr (.inr (.inl l0))] (G, M, T) (fun r S1 => pm_Run d 210 4 [.inr (.inr (.inl l0)), .inl l1, PU] (pm_push r []) S1 K) := by
  refine (px_go (by decide +kernel : pm_fe 210 0 = some (.aload_n 0, 1)) rfl).trans ?_
  refine (px_v0 (idx := 262) (m' := 186) (ci := 12) (by decide +kernel)).trans ((and_iff_right ⟨h1, (by simp [pm_wl_n, pm_wl_c, pm_w] : pm_wl [] ≤ 8)⟩).trans ?_)
  exact Iff.rfl
theorem b210_4 {d : Nat} {G : PG} {M T : PH} {K : PV → PS → Prop} {l0 l1 : Int} (h1 : pm_ob G l0 12) : pm_Run d 210 4 [.inr (.inr (.inl l0)), .inl l1, PU] [] (G, M, T) K ↔ if pm_sg (M l0.toNat 8) ≤ 0 then pm_Run d 210 13 [.inr (.inr (.inl l0)), .inl l1, PU] [] (G, M, T) K else pm_Run d 210 11 [.inr (.inr (.inl l0)), .inl l1, PU] [] (G, M, T) K := by
  refine (px_go (by decide +kernel : pm_fe 210 4 = some (.aload_n 0, 1)) rfl).trans ?_
  refine (px_get0 (idx := 36) (ci := 12) (k := 8) (by decide +kernel)).trans ((and_iff_right h1).trans ?_)
  refine (px_if_le (off := 5) (tgt := 13) (by decide +kernel)).trans ?_
  exact Iff.rfl
theorem b210_11 {d : Nat} {G : PG} {M T : PH} {K : PV → PS → Prop} {l0 l1 : Int} : pm_Run d 210 11 [.inr (.inr (.inl l0)), .inl l1, PU] [] (G, M, T) K ↔ K (.inl 0) (G, M, T) := by
  refine (px_go (by decide +kernel : pm_fe 210 11 = some (.iconst 0, 1)) rfl).trans ?_
  refine (px_ri (by decide +kernel)).trans ?_
  exact Iff.rfl
theorem b210_13 {d : Nat} {G : PG} {M T : PH} {K : PV → PS → Prop} {l0 l1 : Int} (h1 : pm_ob G l0 12) : pm_Run d 210 13 [.inr (.inr (.inl l0)), .inl l1, PU] [] (G, M, T) K ↔ if pm_sg (M l0.toNat 3) ≠ pm_sg 1 then pm_Run d 210 32 [.inr (.inr (.inl l0)), .inl l1, PU] [] (G, M, T) K else pm_Run d 210 21 [.inr (.inr (.inl l0)), .inl l1, PU] [] (G, M, T) K := by
  refine (px_go (by decide +kernel : pm_fe 210 13 = some (.aload_n 0, 1)) rfl).trans ?_
  refine (px_get0 (idx := 20) (ci := 12) (k := 3) (by decide +kernel)).trans ((and_iff_right h1).trans ?_)
  refine (px_go (by decide +kernel : pm_fe 210 17 = some (.iconst 1, 1)) rfl).trans ?_
  refine (px_ic_ne (off := 14) (tgt := 32) (by decide +kernel)).trans ?_
  exact Iff.rfl
theorem b210_21 {d : Nat} {G : PG} {M T : PH} {K : PV → PS → Prop} {l0 l1 : Int} (h1 : pm_ob G l0 12) : pm_Run d 210 21 [.inr (.inr (.inl l0)), .inl l1, PU] [] (G, M, T) K ↔ pm_Call d 191 [.inr (.inr (.inl l0)), .inr (.inl (M l0.toNat 7))] (G, M, T) (fun r S1 => pm_Run d 210 29 [.inr (.inr (.inl l0)), .inl l1, PU] (pm_push r []) S1 K) := by
  refine (px_go (by decide +kernel : pm_fe 210 21 = some (.aload_n 0, 1)) rfl).trans ?_
  refine (px_go (by decide +kernel : pm_fe 210 22 = some (.aload_n 0, 1)) rfl).trans ?_
  refine (px_get1 (idx := 32) (ci := 12) (k := 7) (by decide +kernel)).trans ((and_iff_right h1).trans ?_)
  refine (px_v1 (idx := 375) (m' := 191) (ci := 12) (by decide +kernel)).trans ((and_iff_right ⟨h1, (by simp [pm_wl_n, pm_wl_c, pm_w] : pm_wl [] ≤ 8)⟩).trans ?_)
  exact Iff.rfl
theorem b210_29 {d : Nat} {G : PG} {M T : PH} {K : PV → PS → Prop} {l0 l1 s0 : Int} : pm_Run d 210 29 [.inr (.inr (.inl l0)), .inl l1, PU] [.inl s0] (G, M, T) K ↔ if pm_sg s0 = 0 then pm_Run d 210 41 [.inr (.inr (.inl l0)), .inl l1, PU] [] (G, M, T) K else pm_Run d 210 32 [.inr (.inr (.inl l0)), .inl l1, PU] [] (G, M, T) K := by
  refine (px_if_eq (off := 12) (tgt := 41) (by decide +kernel)).trans ?_
  exact Iff.rfl
theorem b210_32 {d : Nat} {G : PG} {M T : PH} {K : PV → PS → Prop} {l0 l1 : Int} (h1 : pm_ob G l0 12) : pm_Run d 210 32 [.inr (.inr (.inl l0)), .inl l1, PU] [] (G, M, T) K ↔ pm_Call d 183 [.inr (.inr (.inl l0)), .inl 1, .inl (M l0.toNat 4)] (G, M, T) (fun r S1 => pm_Run d 210 41 [.inr (.inr (.inl l0)), .inl l1, PU] (pm_push r []) S1 K) := by
  refine (px_go (by decide +kernel : pm_fe 210 32 = some (.aload_n 0, 1)) rfl).trans ?_
  refine (px_go (by decide +kernel : pm_fe 210 33 = some (.iconst 1, 1)) rfl).trans ?_
  refine (px_go (by decide +kernel : pm_fe 210 34 = some (.aload_n 0, 1)) rfl).trans ?_
  refine (px_get0 (idx := 23) (ci := 12) (k := 4) (by decide +kernel)).trans ((and_iff_right h1).trans ?_)
  refine (px_v2 (idx := 251) (m' := 183) (ci := 12) (by decide +kernel)).trans ((and_iff_right ⟨h1, (by simp [pm_wl_n, pm_wl_c, pm_w] : pm_wl [] ≤ 8)⟩).trans ?_)
  exact Iff.rfl
theorem b210_41 {d : Nat} {G : PG} {M T : PH} {K : PV → PS → Prop} {l0 l1 : Int} (h1 : pm_ob G l0 12) : pm_Run d 210 41 [.inr (.inr (.inl l0)), .inl l1, PU] [] (G, M, T) K ↔ if pm_sg (M l0.toNat 8) ≤ 0 then pm_Run d 210 52 [.inr (.inr (.inl l0)), .inl l1, PU] [] (G, M, T) K else pm_Run d 210 48 [.inr (.inr (.inl l0)), .inl l1, PU] [] (G, M, T) K := by
  refine (px_go (by decide +kernel : pm_fe 210 41 = some (.aload_n 0, 1)) rfl).trans ?_
  refine (px_get0 (idx := 36) (ci := 12) (k := 8) (by decide +kernel)).trans ((and_iff_right h1).trans ?_)
  refine (px_if_le (off := 7) (tgt := 52) (by decide +kernel)).trans ?_
  exact Iff.rfl
theorem b210_48 {d : Nat} {G : PG} {M T : PH} {K : PV → PS → Prop} {l0 l1 : Int} : pm_Run d 210 48 [.inr (.inr (.inl l0)), .inl l1, PU] [] (G, M, T) K ↔ pm_Run d 210 61 [.inr (.inr (.inl l0)), .inl l1, PU] [.inl 0] (G, M, T) K := by
  refine (px_go (by decide +kernel : pm_fe 210 48 = some (.iconst 0, 1)) rfl).trans ?_
  refine (px_goto (off := 12) (tgt := 61) (by decide +kernel)).trans ?_
  exact Iff.rfl
theorem b210_52 {d : Nat} {G : PG} {M T : PH} {K : PV → PS → Prop} {l0 l1 : Int} (h1 : pm_ob G l0 12) : pm_Run d 210 52 [.inr (.inr (.inl l0)), .inl l1, PU] [] (G, M, T) K ↔ pm_Call d 194 [.inr (.inr (.inl l0)), .inl l1, .inr (.inl (M l0.toNat 7))] (G, M, T) (fun r S1 => pm_Run d 210 61 [.inr (.inr (.inl l0)), .inl l1, PU] (pm_push r []) S1 K) := by
  refine (px_go (by decide +kernel : pm_fe 210 52 = some (.aload_n 0, 1)) rfl).trans ?_
  refine (px_go (by decide +kernel : pm_fe 210 53 = some (.iload_n 1, 1)) rfl).trans ?_
  refine (px_go (by decide +kernel : pm_fe 210 54 = some (.aload_n 0, 1)) rfl).trans ?_
  refine (px_get1 (idx := 32) (ci := 12) (k := 7) (by decide +kernel)).trans ((and_iff_right h1).trans ?_)
  refine (px_v2 (idx := 378) (m' := 194) (ci := 12) (by decide +kernel)).trans ((and_iff_right ⟨h1, (by simp [pm_wl_n, pm_wl_c, pm_w] : pm_wl [] ≤ 8)⟩).trans ?_)
  exact Iff.rfl
theorem b210_61 {d : Nat} {G : PG} {M T : PH} {K : PV → PS → Prop} {l0 l1 s0 : Int} (h1 : pm_ob G l0 12) : pm_Run d 210 61 [.inr (.inr (.inl l0)), .inl l1, PU] [.inl s0] (G, M, T) K ↔ if pm_sg (M l0.toNat 8) ≠ 0 then pm_Run d 210 83 [.inr (.inr (.inl l0)), .inl l1, .inl s0] [] (G, M, T) K else pm_Run d 210 69 [.inr (.inr (.inl l0)), .inl l1, .inl s0] [] (G, M, T) K := by
  refine (px_go (by decide +kernel : pm_fe 210 61 = some (.istore_n 2, 1)) rfl).trans ?_
  refine (px_go (by decide +kernel : pm_fe 210 62 = some (.aload_n 0, 1)) rfl).trans ?_
  refine (px_get0 (idx := 36) (ci := 12) (k := 8) (by decide +kernel)).trans ((and_iff_right h1).trans ?_)
  refine (px_if_ne (off := 17) (tgt := 83) (by decide +kernel)).trans ?_
  exact Iff.rfl
theorem b210_69 {d : Nat} {G : PG} {M T : PH} {K : PV → PS → Prop} {l0 l1 l2 : Int} : pm_Run d 210 69 [.inr (.inr (.inl l0)), .inl l1, .inl l2] [] (G, M, T) K ↔ if pm_sg l2 ≠ pm_sg (-1) then pm_Run d 210 83 [.inr (.inr (.inl l0)), .inl l1, .inl l2] [] (G, M, T) K else pm_Run d 210 74 [.inr (.inr (.inl l0)), .inl l1, .inl l2] [] (G, M, T) K := by
  refine (px_go (by decide +kernel : pm_fe 210 69 = some (.iload_n 2, 1)) rfl).trans ?_
  refine (px_go (by decide +kernel : pm_fe 210 70 = some (.iconst (-1), 1)) rfl).trans ?_
  refine (px_ic_ne (off := 12) (tgt := 83) (by decide +kernel)).trans ?_
  exact Iff.rfl
theorem b210_74 {d : Nat} {G : PG} {M T : PH} {K : PV → PS → Prop} {l0 l1 l2 : Int} (h1 : pm_ob G l0 12) : pm_Run d 210 74 [.inr (.inr (.inl l0)), .inl l1, .inl l2] [] (G, M, T) K ↔ pm_Call d 183 [.inr (.inr (.inl l0)), .inl 3, .inl (M l0.toNat 4)] (G, M, T) (fun r S1 => pm_Run d 210 83 [.inr (.inr (.inl l0)), .inl l1, .inl l2] (pm_push r []) S1 K) := by
  refine (px_go (by decide +kernel : pm_fe 210 74 = some (.aload_n 0, 1)) rfl).trans ?_
  refine (px_go (by decide +kernel : pm_fe 210 75 = some (.iconst 3, 1)) rfl).trans ?_
  refine (px_go (by decide +kernel : pm_fe 210 76 = some (.aload_n 0, 1)) rfl).trans ?_
  refine (px_get0 (idx := 23) (ci := 12) (k := 4) (by decide +kernel)).trans ((and_iff_right h1).trans ?_)
  refine (px_v2 (idx := 251) (m' := 183) (ci := 12) (by decide +kernel)).trans ((and_iff_right ⟨h1, (by simp [pm_wl_n, pm_wl_c, pm_w] : pm_wl [] ≤ 8)⟩).trans ?_)
  exact Iff.rfl
theorem b210_83 {d : Nat} {G : PG} {M T : PH} {K : PV → PS → Prop} {l0 l1 l2 : Int} (h1 : pm_ob G l0 12) : pm_Run d 210 83 [.inr (.inr (.inl l0)), .inl l1, .inl l2] [] (G, M, T) K ↔ if pm_sg (M l0.toNat 8) ≤ 0 then pm_Run d 210 94 [.inr (.inr (.inl l0)), .inl l1, .inl l2] [] (G, M, T) K else pm_Run d 210 90 [.inr (.inr (.inl l0)), .inl l1, .inl l2] [] (G, M, T) K := by
  refine (px_go (by decide +kernel : pm_fe 210 83 = some (.aload_n 0, 1)) rfl).trans ?_
  refine (px_get0 (idx := 36) (ci := 12) (k := 8) (by decide +kernel)).trans ((and_iff_right h1).trans ?_)
  refine (px_if_le (off := 7) (tgt := 94) (by decide +kernel)).trans ?_
  exact Iff.rfl
theorem b210_90 {d : Nat} {G : PG} {M T : PH} {K : PV → PS → Prop} {l0 l1 l2 : Int} : pm_Run d 210 90 [.inr (.inr (.inl l0)), .inl l1, .inl l2] [] (G, M, T) K ↔ pm_Run d 210 95 [.inr (.inr (.inl l0)), .inl l1, .inl l2] [.inl 0] (G, M, T) K := by
  refine (px_go (by decide +kernel : pm_fe 210 90 = some (.iconst 0, 1)) rfl).trans ?_
  refine (px_goto (off := 4) (tgt := 95) (by decide +kernel)).trans ?_
  exact Iff.rfl
theorem b210_94 {d : Nat} {G : PG} {M T : PH} {K : PV → PS → Prop} {l0 l1 l2 : Int} : pm_Run d 210 94 [.inr (.inr (.inl l0)), .inl l1, .inl l2] [] (G, M, T) K ↔ pm_Run d 210 95 [.inr (.inr (.inl l0)), .inl l1, .inl l2] [.inl l2] (G, M, T) K := by
  refine (px_go (by decide +kernel : pm_fe 210 94 = some (.iload_n 2, 1)) rfl).trans ?_
  exact Iff.rfl
theorem b210_95 {d : Nat} {G : PG} {M T : PH} {K : PV → PS → Prop} {l0 l1 l2 s0 : Int} : pm_Run d 210 95 [.inr (.inr (.inl l0)), .inl l1, .inl l2] [.inl s0] (G, M, T) K ↔ K (.inl s0) (G, M, T) := by
  refine (px_ri (by decide +kernel)).trans ?_
  exact Iff.rfl
-- X12_asked asked(I)I
theorem en211 {d : Nat} {a p0 : Int} {S : PS} {K : PV → PS → Prop} : pm_Call (d + 1) 211 [.inr (.inr (.inl a)), .inl p0] S K ↔ pm_Run d 211 0 [.inr (.inr (.inl a)), .inl p0, PU] [] S K := pm_Call_s.trans (and_iff_right (show 2 ≤ pm_ml 211 from by decide +kernel))
theorem b211_0 {d : Nat} {G : PG} {M T : PH} {K : PV → PS → Prop} {l0 l1 : Int} (h1 : pm_ob G l0 12) : pm_Run d 211 0 [.inr (.inr (.inl l0)), .inl l1, PU] [] (G, M, T) K ↔ pm_Call d 210 [.inr (.inr (.inl l0)), .inl l1] (G, M, T) (fun r S1 => pm_Run d 211 5 [.inr (.inr (.inl l0)), .inl l1, PU] (pm_push r []) S1 K) := by
  refine (px_go (by decide +kernel : pm_fe 211 0 = some (.aload_n 0, 1)) rfl).trans ?_
  refine (px_go (by decide +kernel : pm_fe 211 1 = some (.iload_n 1, 1)) rfl).trans ?_
  refine (px_v1 (idx := 382) (m' := 210) (ci := 12) (by decide +kernel)).trans ((and_iff_right ⟨h1, (by simp [pm_wl_n, pm_wl_c, pm_w] : pm_wl [] ≤ 8)⟩).trans ?_)
  exact Iff.rfl
theorem b211_5 {d : Nat} {G : PG} {M T : PH} {K : PV → PS → Prop} {l0 l1 s0 : Int} (h1 : pm_ob G l0 12) : pm_Run d 211 5 [.inr (.inr (.inl l0)), .inl l1, PU] [.inl s0] (G, M, T) K ↔ if pm_sg (M l0.toNat 8) ≠ 0 then pm_Run d 211 17 [.inr (.inr (.inl l0)), .inl l1, .inl s0] [] (G, M, T) K else pm_Run d 211 13 [.inr (.inr (.inl l0)), .inl l1, .inl s0] [] (G, M, T) K := by
  refine (px_go (by decide +kernel : pm_fe 211 5 = some (.istore_n 2, 1)) rfl).trans ?_
  refine (px_go (by decide +kernel : pm_fe 211 6 = some (.aload_n 0, 1)) rfl).trans ?_
  refine (px_get0 (idx := 36) (ci := 12) (k := 8) (by decide +kernel)).trans ((and_iff_right h1).trans ?_)
  refine (px_if_ne (off := 7) (tgt := 17) (by decide +kernel)).trans ?_
  exact Iff.rfl
theorem b211_13 {d : Nat} {G : PG} {M T : PH} {K : PV → PS → Prop} {l0 l1 l2 : Int} (h1 : pm_ob G l0 12) : pm_Run d 211 13 [.inr (.inr (.inl l0)), .inl l1, .inl l2] [] (G, M, T) K ↔ pm_Call d 187 [.inr (.inr (.inl l0))] (G, M, T) (fun r S1 => pm_Run d 211 17 [.inr (.inr (.inl l0)), .inl l1, .inl l2] (pm_push r []) S1 K) := by
  refine (px_go (by decide +kernel : pm_fe 211 13 = some (.aload_n 0, 1)) rfl).trans ?_
  refine (px_v0 (idx := 268) (m' := 187) (ci := 12) (by decide +kernel)).trans ((and_iff_right ⟨h1, (by simp [pm_wl_n, pm_wl_c, pm_w] : pm_wl [] ≤ 8)⟩).trans ?_)
  exact Iff.rfl
theorem b211_17 {d : Nat} {G : PG} {M T : PH} {K : PV → PS → Prop} {l0 l1 l2 : Int} (h1 : pm_ob G l0 12) : pm_Run d 211 17 [.inr (.inr (.inl l0)), .inl l1, .inl l2] [] (G, M, T) K ↔ if pm_sg (M l0.toNat 8) ≤ 0 then pm_Run d 211 28 [.inr (.inr (.inl l0)), .inl l1, .inl l2] [] (G, M, T) K else pm_Run d 211 24 [.inr (.inr (.inl l0)), .inl l1, .inl l2] [] (G, M, T) K := by
  refine (px_go (by decide +kernel : pm_fe 211 17 = some (.aload_n 0, 1)) rfl).trans ?_
  refine (px_get0 (idx := 36) (ci := 12) (k := 8) (by decide +kernel)).trans ((and_iff_right h1).trans ?_)
  refine (px_if_le (off := 7) (tgt := 28) (by decide +kernel)).trans ?_
  exact Iff.rfl
theorem b211_24 {d : Nat} {G : PG} {M T : PH} {K : PV → PS → Prop} {l0 l1 l2 : Int} : pm_Run d 211 24 [.inr (.inr (.inl l0)), .inl l1, .inl l2] [] (G, M, T) K ↔ pm_Run d 211 29 [.inr (.inr (.inl l0)), .inl l1, .inl l2] [.inl 0] (G, M, T) K := by
  refine (px_go (by decide +kernel : pm_fe 211 24 = some (.iconst 0, 1)) rfl).trans ?_
  refine (px_goto (off := 4) (tgt := 29) (by decide +kernel)).trans ?_
  exact Iff.rfl
theorem b211_28 {d : Nat} {G : PG} {M T : PH} {K : PV → PS → Prop} {l0 l1 l2 : Int} : pm_Run d 211 28 [.inr (.inr (.inl l0)), .inl l1, .inl l2] [] (G, M, T) K ↔ pm_Run d 211 29 [.inr (.inr (.inl l0)), .inl l1, .inl l2] [.inl l2] (G, M, T) K := by
  refine (px_go (by decide +kernel : pm_fe 211 28 = some (.iload_n 2, 1)) rfl).trans ?_
  exact Iff.rfl
theorem b211_29 {d : Nat} {G : PG} {M T : PH} {K : PV → PS → Prop} {l0 l1 l2 s0 : Int} : pm_Run d 211 29 [.inr (.inr (.inl l0)), .inl l1, .inl l2] [.inl s0] (G, M, T) K ↔ K (.inl s0) (G, M, T) := by
  refine (px_ri (by decide +kernel)).trans ?_
  exact Iff.rfl
-- X12_mooning mooning()V
theorem en212 {d : Nat} {a : Int} {S : PS} {K : PV → PS → Prop} : pm_Call (d + 1) 212 [.inr (.inr (.inl a))] S K ↔ pm_Run d 212 0 [.inr (.inr (.inl a)), PU] [] S K := pm_Call_s.trans (and_iff_right (show 1 ≤ pm_ml 212 from by decide +kernel))
theorem b212_0 {d : Nat} {G : PG} {M T : PH} {K : PV → PS → Prop} {l0 : Int} (h1 : pm_ob G l0 12) (h2 : pm_ar G (T l0.toNat 15) 100 (M l0.toNat 42)) : pm_Run d 212 0 [.inr (.inr (.inl l0)), PU] [] (G, M, T) K ↔ if pm_sg (M (T l0.toNat 15).toNat (pm_sg (M l0.toNat 42)).toNat) ≠ pm_sg 3 then pm_Run d 212 18 [.inr (.inr (.inl l0)), PU] [.inr (.inr (.inl l0))] (G, M, T) K else pm_Run d 212 14 [.inr (.inr (.inl l0)), PU] [.inr (.inr (.inl l0))] (G, M, T) K := by
  refine (px_go (by decide +kernel : pm_fe 212 0 = some (.aload_n 0, 1)) rfl).trans ?_
  refine (px_go (by decide +kernel : pm_fe 212 1 = some (.aload_n 0, 1)) rfl).trans ?_
  refine (px_get2 (idx := 57) (ci := 12) (k := 15) (by decide +kernel)).trans ((and_iff_right h1).trans ?_)
  refine (px_go (by decide +kernel : pm_fe 212 5 = some (.aload_n 0, 1)) rfl).trans ?_
  refine (px_get0 (idx := 139) (ci := 12) (k := 42) (by decide +kernel)).trans ((and_iff_right h1).trans ?_)
  refine (px_iaload (by decide +kernel) h2).trans ?_
  refine (px_go (by decide +kernel : pm_fe 212 10 = some (.iconst 3, 1)) rfl).trans ?_
  refine (px_ic_ne (off := 7) (tgt := 18) (by decide +kernel)).trans ?_
  exact Iff.rfl
theorem b212_14 {d : Nat} {G : PG} {M T : PH} {K : PV → PS → Prop} {l0 s0 : Int} : pm_Run d 212 14 [.inr (.inr (.inl l0)), PU] [.inr (.inr (.inl s0))] (G, M, T) K ↔ pm_Run d 212 19 [.inr (.inr (.inl l0)), PU] [.inl 1, .inr (.inr (.inl s0))] (G, M, T) K := by
  refine (px_go (by decide +kernel : pm_fe 212 14 = some (.iconst 1, 1)) rfl).trans ?_
  refine (px_goto (off := 4) (tgt := 19) (by decide +kernel)).trans ?_
  exact Iff.rfl
theorem b212_18 {d : Nat} {G : PG} {M T : PH} {K : PV → PS → Prop} {l0 s0 : Int} : pm_Run d 212 18 [.inr (.inr (.inl l0)), PU] [.inr (.inr (.inl s0))] (G, M, T) K ↔ pm_Run d 212 19 [.inr (.inr (.inl l0)), PU] [.inl 0, .inr (.inr (.inl s0))] (G, M, T) K := by
  refine (px_go (by decide +kernel : pm_fe 212 18 = some (.iconst 0, 1)) rfl).trans ?_
  exact Iff.rfl
theorem b212_19 {d : Nat} {G : PG} {M T : PH} {K : PV → PS → Prop} {l0 s0 s1 : Int} (h1 : pm_ob G s1 12) : pm_Run d 212 19 [.inr (.inr (.inl l0)), PU] [.inl s0, .inr (.inr (.inl s1))] (G, M, T) K ↔ pm_Call d 207 [.inr (.inr (.inl s1)), .inl s0] (G, M, T) (fun r S1 => pm_Run d 212 22 [.inr (.inr (.inl l0)), PU] (pm_push r []) S1 K) := by
  refine (px_v1 (idx := 385) (m' := 207) (ci := 12) (by decide +kernel)).trans ((and_iff_right ⟨h1, (by simp [pm_wl_n, pm_wl_c, pm_w] : pm_wl [] ≤ 8)⟩).trans ?_)
  exact Iff.rfl
theorem b212_22 {d : Nat} {G : PG} {M T : PH} {K : PV → PS → Prop} {l0 s0 : Int} : pm_Run d 212 22 [.inr (.inr (.inl l0)), PU] [.inl s0] (G, M, T) K ↔ if pm_sg s0 ≠ 0 then pm_Run d 212 26 [.inr (.inr (.inl l0)), PU] [] (G, M, T) K else pm_Run d 212 25 [.inr (.inr (.inl l0)), PU] [] (G, M, T) K := by
  refine (px_if_ne (off := 4) (tgt := 26) (by decide +kernel)).trans ?_
  exact Iff.rfl
theorem b212_25 {d : Nat} {G : PG} {M T : PH} {K : PV → PS → Prop} {l0 : Int} : pm_Run d 212 25 [.inr (.inr (.inl l0)), PU] [] (G, M, T) K ↔ K PU (G, M, T) := by
  refine (px_rv (by decide +kernel)).trans ?_
  exact Iff.rfl
theorem b212_26 {d : Nat} {G : PG} {M T : PH} {K : PV → PS → Prop} {l0 : Int} (h1 : pm_ob G l0 12) (h2 : pm_ar G (T l0.toNat 15) 100 (M l0.toNat 42)) : pm_Run d 212 26 [.inr (.inr (.inl l0)), PU] [] (G, M, T) K ↔ pm_Call d 209 [.inr (.inr (.inl l0))] (G, M, T) (fun r S1 => pm_Run d 212 52 [.inr (.inr (.inl l0)), .inl ((3 * (M l0.toNat 42)) + (M (T l0.toNat 15).toNat (pm_sg (M l0.toNat 42)).toNat))] (pm_push r [.inl ((3 * (M l0.toNat 42)) + (M (T l0.toNat 15).toNat (pm_sg (M l0.toNat 42)).toNat)), .inr (.inr (.inl (T l0.toNat 39)))]) S1 K) := by
  refine (px_go (by decide +kernel : pm_fe 212 26 = some (.iconst 3, 1)) rfl).trans ?_
  refine (px_go (by decide +kernel : pm_fe 212 27 = some (.aload_n 0, 1)) rfl).trans ?_
  refine (px_get0 (idx := 139) (ci := 12) (k := 42) (by decide +kernel)).trans ((and_iff_right h1).trans ?_)
  refine (px_go (by decide +kernel : pm_fe 212 31 = some (.imul, 1)) rfl).trans ?_
  refine (px_go (by decide +kernel : pm_fe 212 32 = some (.aload_n 0, 1)) rfl).trans ?_
  refine (px_get2 (idx := 57) (ci := 12) (k := 15) (by decide +kernel)).trans ((and_iff_right h1).trans ?_)
  refine (px_go (by decide +kernel : pm_fe 212 36 = some (.aload_n 0, 1)) rfl).trans ?_
  refine (px_get0 (idx := 139) (ci := 12) (k := 42) (by decide +kernel)).trans ((and_iff_right h1).trans ?_)
  refine (px_iaload (by decide +kernel) h2).trans ?_
  refine (px_go (by decide +kernel : pm_fe 212 41 = some (.iadd, 1)) rfl).trans ?_
  refine (px_go (by decide +kernel : pm_fe 212 42 = some (.istore_n 1, 1)) rfl).trans ?_
  refine (px_go (by decide +kernel : pm_fe 212 43 = some (.aload_n 0, 1)) rfl).trans ?_
  refine (px_get2 (idx := 129) (ci := 12) (k := 39) (by decide +kernel)).trans ((and_iff_right h1).trans ?_)
  refine (px_go (by decide +kernel : pm_fe 212 47 = some (.iload_n 1, 1)) rfl).trans ?_
  refine (px_go (by decide +kernel : pm_fe 212 48 = some (.aload_n 0, 1)) rfl).trans ?_
  refine (px_v0 (idx := 389) (m' := 209) (ci := 12) (by decide +kernel)).trans ((and_iff_right ⟨h1, (by simp [pm_wl_n, pm_wl_c, pm_w] : pm_wl [.inl ((3 * (M l0.toNat 42)) + (M (T l0.toNat 15).toNat (pm_sg (M l0.toNat 42)).toNat)), .inr (.inr (.inl (T l0.toNat 39)))] ≤ 8)⟩).trans ?_)
  exact Iff.rfl
theorem b212_52 {d : Nat} {G : PG} {M T : PH} {K : PV → PS → Prop} {l0 l1 s0 s1 s2 : Int} (h1 : pm_ar G s2 103 s1) (h2 : pm_ob G l0 12) : pm_Run d 212 52 [.inr (.inr (.inl l0)), .inl l1] [.inr (.inl s0), .inl s1, .inr (.inr (.inl s2))] (G, M, T) K ↔ pm_Call d 208 [.inr (.inr (.inl l0)), .inr (.inl 24948)] (G, pm_sa M s2.toNat (pm_up (M s2.toNat) (pm_sg s1).toNat s0), T) (fun r S1 => pm_Run d 212 60 [.inr (.inr (.inl l0)), .inl l1] (pm_push r []) S1 K) := by
  refine (px_lastore (by decide +kernel)).trans ((and_iff_right h1).trans ?_)
  refine (px_go (by decide +kernel : pm_fe 212 53 = some (.aload_n 0, 1)) rfl).trans ?_
  refine (px_ldcL (idx := 275) (x := 24948) (by decide +kernel)).trans ?_
  refine (px_v1 (idx := 393) (m' := 208) (ci := 12) (by decide +kernel)).trans ((and_iff_right ⟨h2, (by simp [pm_wl_n, pm_wl_c, pm_w] : pm_wl [] ≤ 8)⟩).trans ?_)
  exact Iff.rfl
theorem b212_60 {d : Nat} {G : PG} {M T : PH} {K : PV → PS → Prop} {l0 l1 : Int} (h1 : pm_ob G l0 12) (h2 : pm_ar G (T l0.toNat 14) 100 (M l0.toNat 42)) : pm_Run d 212 60 [.inr (.inr (.inl l0)), .inl l1] [] (G, M, T) K ↔ pm_Call d 196 [.inr (.inr (.inl l0)), .inl 0, .inl ((M (T l0.toNat 14).toNat (pm_sg (M l0.toNat 42)).toNat) - 1)] (G, M, T) (fun r S1 => pm_Run d 212 81 [.inr (.inr (.inl l0)), .inl l1] (pm_push r [.inl l1, .inr (.inr (.inl (T l0.toNat 16)))]) S1 K) := by
  refine (px_go (by decide +kernel : pm_fe 212 60 = some (.aload_n 0, 1)) rfl).trans ?_
  refine (px_get2 (idx := 60) (ci := 12) (k := 16) (by decide +kernel)).trans ((and_iff_right h1).trans ?_)
  refine (px_go (by decide +kernel : pm_fe 212 64 = some (.iload_n 1, 1)) rfl).trans ?_
  refine (px_go (by decide +kernel : pm_fe 212 65 = some (.aload_n 0, 1)) rfl).trans ?_
  refine (px_go (by decide +kernel : pm_fe 212 66 = some (.iconst 0, 1)) rfl).trans ?_
  refine (px_go (by decide +kernel : pm_fe 212 67 = some (.aload_n 0, 1)) rfl).trans ?_
  refine (px_get2 (idx := 54) (ci := 12) (k := 14) (by decide +kernel)).trans ((and_iff_right h1).trans ?_)
  refine (px_go (by decide +kernel : pm_fe 212 71 = some (.aload_n 0, 1)) rfl).trans ?_
  refine (px_get0 (idx := 139) (ci := 12) (k := 42) (by decide +kernel)).trans ((and_iff_right h1).trans ?_)
  refine (px_iaload (by decide +kernel) h2).trans ?_
  refine (px_go (by decide +kernel : pm_fe 212 76 = some (.iconst 1, 1)) rfl).trans ?_
  refine (px_go (by decide +kernel : pm_fe 212 77 = some (.isub, 1)) rfl).trans ?_
  refine (px_v2 (idx := 397) (m' := 196) (ci := 12) (by decide +kernel)).trans ((and_iff_right ⟨h1, (by simp [pm_wl_n, pm_wl_c, pm_w] : pm_wl [.inl l1, .inr (.inr (.inl (T l0.toNat 16)))] ≤ 8)⟩).trans ?_)
  exact Iff.rfl
theorem b212_81 {d : Nat} {G : PG} {M T : PH} {K : PV → PS → Prop} {l0 l1 s0 s1 s2 : Int} (h1 : pm_ar G s2 100 s1) (h2 : pm_ob G l0 12) : pm_Run d 212 81 [.inr (.inr (.inl l0)), .inl l1] [.inl s0, .inl s1, .inr (.inr (.inl s2))] (G, M, T) K ↔ pm_Call d 208 [.inr (.inr (.inl l0)), .inr (.inl 1735353715)] (G, pm_sa M s2.toNat (pm_up (M s2.toNat) (pm_sg s1).toNat s0), T) (fun r S1 => pm_Run d 212 89 [.inr (.inr (.inl l0)), .inl l1] (pm_push r []) S1 K) := by
  refine (px_iastore (by decide +kernel)).trans ((and_iff_right h1).trans ?_)
  refine (px_go (by decide +kernel : pm_fe 212 82 = some (.aload_n 0, 1)) rfl).trans ?_
  refine (px_ldcL (idx := 277) (x := 1735353715) (by decide +kernel)).trans ?_
  refine (px_v1 (idx := 393) (m' := 208) (ci := 12) (by decide +kernel)).trans ((and_iff_right ⟨h2, (by simp [pm_wl_n, pm_wl_c, pm_w] : pm_wl [] ≤ 8)⟩).trans ?_)
  exact Iff.rfl
theorem b212_89 {d : Nat} {G : PG} {M T : PH} {K : PV → PS → Prop} {l0 l1 : Int} (h1 : pm_ob G l0 12) : pm_Run d 212 89 [.inr (.inr (.inl l0)), .inl l1] [] (G, M, T) K ↔ pm_Call d 196 [.inr (.inr (.inl l0)), .inl 0, .inl 23] (G, M, T) (fun r S1 => pm_Run d 212 101 [.inr (.inr (.inl l0)), .inl l1] (pm_push r [.inl l1, .inr (.inr (.inl (T l0.toNat 17)))]) S1 K) := by
  refine (px_go (by decide +kernel : pm_fe 212 89 = some (.aload_n 0, 1)) rfl).trans ?_
  refine (px_get2 (idx := 63) (ci := 12) (k := 17) (by decide +kernel)).trans ((and_iff_right h1).trans ?_)
  refine (px_go (by decide +kernel : pm_fe 212 93 = some (.iload_n 1, 1)) rfl).trans ?_
  refine (px_go (by decide +kernel : pm_fe 212 94 = some (.aload_n 0, 1)) rfl).trans ?_
  refine (px_go (by decide +kernel : pm_fe 212 95 = some (.iconst 0, 1)) rfl).trans ?_
  refine (px_go (by decide +kernel : pm_fe 212 96 = some (.bipush 23, 2)) rfl).trans ?_
  refine (px_v2 (idx := 397) (m' := 196) (ci := 12) (by decide +kernel)).trans ((and_iff_right ⟨h1, (by simp [pm_wl_n, pm_wl_c, pm_w] : pm_wl [.inl l1, .inr (.inr (.inl (T l0.toNat 17)))] ≤ 8)⟩).trans ?_)
  exact Iff.rfl
theorem b212_101 {d : Nat} {G : PG} {M T : PH} {K : PV → PS → Prop} {l0 l1 s0 s1 s2 : Int} (h1 : pm_ar G s2 100 s1) (h2 : pm_ob G l0 12) : pm_Run d 212 101 [.inr (.inr (.inl l0)), .inl l1] [.inl s0, .inl s1, .inr (.inr (.inl s2))] (G, M, T) K ↔ pm_Call d 208 [.inr (.inr (.inl l0)), .inr (.inl 127978976601458)] (G, pm_sa M s2.toNat (pm_up (M s2.toNat) (pm_sg s1).toNat s0), T) (fun r S1 => pm_Run d 212 109 [.inr (.inr (.inl l0)), .inl l1] (pm_push r []) S1 K) := by
  refine (px_iastore (by decide +kernel)).trans ((and_iff_right h1).trans ?_)
  refine (px_go (by decide +kernel : pm_fe 212 102 = some (.aload_n 0, 1)) rfl).trans ?_
  refine (px_ldcL (idx := 279) (x := 127978976601458) (by decide +kernel)).trans ?_
  refine (px_v1 (idx := 393) (m' := 208) (ci := 12) (by decide +kernel)).trans ((and_iff_right ⟨h2, (by simp [pm_wl_n, pm_wl_c, pm_w] : pm_wl [] ≤ 8)⟩).trans ?_)
  exact Iff.rfl
theorem b212_109 {d : Nat} {G : PG} {M T : PH} {K : PV → PS → Prop} {l0 l1 : Int} (h1 : pm_ob G l0 12) : pm_Run d 212 109 [.inr (.inr (.inl l0)), .inl l1] [] (G, M, T) K ↔ pm_Call d 196 [.inr (.inr (.inl l0)), .inl 0, .inl 9] (G, M, T) (fun r S1 => pm_Run d 212 121 [.inr (.inr (.inl l0)), .inl l1] (pm_push r [.inl l1, .inr (.inr (.inl (T l0.toNat 18)))]) S1 K) := by
  refine (px_go (by decide +kernel : pm_fe 212 109 = some (.aload_n 0, 1)) rfl).trans ?_
  refine (px_get2 (idx := 66) (ci := 12) (k := 18) (by decide +kernel)).trans ((and_iff_right h1).trans ?_)
  refine (px_go (by decide +kernel : pm_fe 212 113 = some (.iload_n 1, 1)) rfl).trans ?_
  refine (px_go (by decide +kernel : pm_fe 212 114 = some (.aload_n 0, 1)) rfl).trans ?_
  refine (px_go (by decide +kernel : pm_fe 212 115 = some (.iconst 0, 1)) rfl).trans ?_
  refine (px_go (by decide +kernel : pm_fe 212 116 = some (.bipush 9, 2)) rfl).trans ?_
  refine (px_v2 (idx := 397) (m' := 196) (ci := 12) (by decide +kernel)).trans ((and_iff_right ⟨h1, (by simp [pm_wl_n, pm_wl_c, pm_w] : pm_wl [.inl l1, .inr (.inr (.inl (T l0.toNat 18)))] ≤ 8)⟩).trans ?_)
  exact Iff.rfl
theorem b212_121 {d : Nat} {G : PG} {M T : PH} {K : PV → PS → Prop} {l0 l1 s0 s1 s2 : Int} (h1 : pm_ar G s2 100 s1) (h2 : pm_ob G l0 12) : pm_Run d 212 121 [.inr (.inr (.inl l0)), .inl l1] [.inl s0, .inl s1, .inr (.inr (.inl s2))] (G, M, T) K ↔ if pm_sg ((pm_sa M s2.toNat (pm_up (M s2.toNat) (pm_sg s1).toNat s0)) l0.toNat 8) ≠ 0 then pm_Run d 212 142 [.inr (.inr (.inl l0)), .inl l1] [] (G, pm_sa M s2.toNat (pm_up (M s2.toNat) (pm_sg s1).toNat s0), T) K else pm_Run d 212 129 [.inr (.inr (.inl l0)), .inl l1] [] (G, pm_sa M s2.toNat (pm_up (M s2.toNat) (pm_sg s1).toNat s0), T) K := by
  refine (px_iastore (by decide +kernel)).trans ((and_iff_right h1).trans ?_)
  refine (px_go (by decide +kernel : pm_fe 212 122 = some (.aload_n 0, 1)) rfl).trans ?_
  refine (px_get0 (idx := 36) (ci := 12) (k := 8) (by decide +kernel)).trans ((and_iff_right h2).trans ?_)
  refine (px_if_ne (off := 16) (tgt := 142) (by decide +kernel)).trans ?_
  exact Iff.rfl
theorem b212_129 {d : Nat} {G : PG} {M T : PH} {K : PV → PS → Prop} {l0 l1 : Int} (h1 : pm_ob G l0 12) (h2 : pm_ar G (T l0.toNat 15) 100 (M l0.toNat 42)) : pm_Run d 212 129 [.inr (.inr (.inl l0)), .inl l1] [] (G, M, T) K ↔ pm_Run d 212 142 [.inr (.inr (.inl l0)), .inl l1] [] (G, pm_sa M (T l0.toNat 15).toNat (pm_up (M (T l0.toNat 15).toNat) (pm_sg (M l0.toNat 42)).toNat ((M (T l0.toNat 15).toNat (pm_sg (M l0.toNat 42)).toNat) + 1)), T) K := by
  refine (px_go (by decide +kernel : pm_fe 212 129 = some (.aload_n 0, 1)) rfl).trans ?_
  refine (px_get2 (idx := 57) (ci := 12) (k := 15) (by decide +kernel)).trans ((and_iff_right h1).trans ?_)
  refine (px_go (by decide +kernel : pm_fe 212 133 = some (.aload_n 0, 1)) rfl).trans ?_
  refine (px_get0 (idx := 139) (ci := 12) (k := 42) (by decide +kernel)).trans ((and_iff_right h1).trans ?_)
  refine (px_go (by decide +kernel : pm_fe 212 137 = some (.dup2, 1)) rfl).trans ?_
  refine (px_iaload (by decide +kernel) h2).trans ?_
  refine (px_go (by decide +kernel : pm_fe 212 139 = some (.iconst 1, 1)) rfl).trans ?_
  refine (px_go (by decide +kernel : pm_fe 212 140 = some (.iadd, 1)) rfl).trans ?_
  refine (px_iastore (by decide +kernel)).trans ((and_iff_right h2).trans ?_)
  exact Iff.rfl
theorem b212_142 {d : Nat} {G : PG} {M T : PH} {K : PV → PS → Prop} {l0 l1 : Int} : pm_Run d 212 142 [.inr (.inr (.inl l0)), .inl l1] [] (G, M, T) K ↔ K PU (G, M, T) := by
  refine (px_rv (by decide +kernel)).trans ?_
  exact Iff.rfl
-- X12_harboring harboring()V
theorem en213 {d : Nat} {a : Int} {S : PS} {K : PV → PS → Prop} : pm_Call (d + 1) 213 [.inr (.inr (.inl a))] S K ↔ pm_Run d 213 0 [.inr (.inr (.inl a)), PU, PU, PU] [] S K := pm_Call_s.trans (and_iff_right (show 1 ≤ pm_ml 213 from by decide +kernel))
theorem b213_0 {d : Nat} {G : PG} {M T : PH} {K : PV → PS → Prop} {l0 : Int} (h1 : pm_ob G l0 12) (h2 : pm_ar G (T l0.toNat 19) 100 (M l0.toNat 42)) : pm_Run d 213 0 [.inr (.inr (.inl l0)), PU, PU, PU] [] (G, M, T) K ↔ if pm_sg (M (T l0.toNat 19).toNat (pm_sg (M l0.toNat 42)).toNat) ≠ pm_sg 8 then pm_Run d 213 19 [.inr (.inr (.inl l0)), PU, PU, PU] [.inr (.inr (.inl l0))] (G, M, T) K else pm_Run d 213 15 [.inr (.inr (.inl l0)), PU, PU, PU] [.inr (.inr (.inl l0))] (G, M, T) K := by
  refine (px_go (by decide +kernel : pm_fe 213 0 = some (.aload_n 0, 1)) rfl).trans ?_
  refine (px_go (by decide +kernel : pm_fe 213 1 = some (.aload_n 0, 1)) rfl).trans ?_
  refine (px_get2 (idx := 69) (ci := 12) (k := 19) (by decide +kernel)).trans ((and_iff_right h1).trans ?_)
  refine (px_go (by decide +kernel : pm_fe 213 5 = some (.aload_n 0, 1)) rfl).trans ?_
  refine (px_get0 (idx := 139) (ci := 12) (k := 42) (by decide +kernel)).trans ((and_iff_right h1).trans ?_)
  refine (px_iaload (by decide +kernel) h2).trans ?_
  refine (px_go (by decide +kernel : pm_fe 213 10 = some (.bipush 8, 2)) rfl).trans ?_
  refine (px_ic_ne (off := 7) (tgt := 19) (by decide +kernel)).trans ?_
  exact Iff.rfl
theorem b213_15 {d : Nat} {G : PG} {M T : PH} {K : PV → PS → Prop} {l0 s0 : Int} : pm_Run d 213 15 [.inr (.inr (.inl l0)), PU, PU, PU] [.inr (.inr (.inl s0))] (G, M, T) K ↔ pm_Run d 213 20 [.inr (.inr (.inl l0)), PU, PU, PU] [.inl 1, .inr (.inr (.inl s0))] (G, M, T) K := by
  refine (px_go (by decide +kernel : pm_fe 213 15 = some (.iconst 1, 1)) rfl).trans ?_
  refine (px_goto (off := 4) (tgt := 20) (by decide +kernel)).trans ?_
  exact Iff.rfl
theorem b213_19 {d : Nat} {G : PG} {M T : PH} {K : PV → PS → Prop} {l0 s0 : Int} : pm_Run d 213 19 [.inr (.inr (.inl l0)), PU, PU, PU] [.inr (.inr (.inl s0))] (G, M, T) K ↔ pm_Run d 213 20 [.inr (.inr (.inl l0)), PU, PU, PU] [.inl 0, .inr (.inr (.inl s0))] (G, M, T) K := by
  refine (px_go (by decide +kernel : pm_fe 213 19 = some (.iconst 0, 1)) rfl).trans ?_
  exact Iff.rfl
theorem b213_20 {d : Nat} {G : PG} {M T : PH} {K : PV → PS → Prop} {l0 s0 s1 : Int} (h1 : pm_ob G s1 12) : pm_Run d 213 20 [.inr (.inr (.inl l0)), PU, PU, PU] [.inl s0, .inr (.inr (.inl s1))] (G, M, T) K ↔ pm_Call d 207 [.inr (.inr (.inl s1)), .inl s0] (G, M, T) (fun r S1 => pm_Run d 213 23 [.inr (.inr (.inl l0)), PU, PU, PU] (pm_push r []) S1 K) := by
  refine (px_v1 (idx := 385) (m' := 207) (ci := 12) (by decide +kernel)).trans ((and_iff_right ⟨h1, (by simp [pm_wl_n, pm_wl_c, pm_w] : pm_wl [] ≤ 8)⟩).trans ?_)
  exact Iff.rfl
theorem b213_23 {d : Nat} {G : PG} {M T : PH} {K : PV → PS → Prop} {l0 s0 : Int} : pm_Run d 213 23 [.inr (.inr (.inl l0)), PU, PU, PU] [.inl s0] (G, M, T) K ↔ if pm_sg s0 ≠ 0 then pm_Run d 213 27 [.inr (.inr (.inl l0)), PU, PU, PU] [] (G, M, T) K else pm_Run d 213 26 [.inr (.inr (.inl l0)), PU, PU, PU] [] (G, M, T) K := by
  refine (px_if_ne (off := 4) (tgt := 27) (by decide +kernel)).trans ?_
  exact Iff.rfl
theorem b213_26 {d : Nat} {G : PG} {M T : PH} {K : PV → PS → Prop} {l0 : Int} : pm_Run d 213 26 [.inr (.inr (.inl l0)), PU, PU, PU] [] (G, M, T) K ↔ K PU (G, M, T) := by
  refine (px_rv (by decide +kernel)).trans ?_
  exact Iff.rfl
theorem b213_27 {d : Nat} {G : PG} {M T : PH} {K : PV → PS → Prop} {l0 : Int} (h1 : pm_ob G l0 12) (h2 : pm_ar G (T l0.toNat 19) 100 (M l0.toNat 42)) : pm_Run d 213 27 [.inr (.inr (.inl l0)), PU, PU, PU] [] (G, M, T) K ↔ pm_Call d 209 [.inr (.inr (.inl l0))] (G, M, T) (fun r S1 => pm_Run d 213 54 [.inr (.inr (.inl l0)), .inl ((8 * (M l0.toNat 42)) + (M (T l0.toNat 19).toNat (pm_sg (M l0.toNat 42)).toNat)), PU, PU] (pm_push r [.inl ((8 * (M l0.toNat 42)) + (M (T l0.toNat 19).toNat (pm_sg (M l0.toNat 42)).toNat)), .inr (.inr (.inl (T l0.toNat 40)))]) S1 K) := by
  refine (px_go (by decide +kernel : pm_fe 213 27 = some (.bipush 8, 2)) rfl).trans ?_
  refine (px_go (by decide +kernel : pm_fe 213 29 = some (.aload_n 0, 1)) rfl).trans ?_
  refine (px_get0 (idx := 139) (ci := 12) (k := 42) (by decide +kernel)).trans ((and_iff_right h1).trans ?_)
  refine (px_go (by decide +kernel : pm_fe 213 33 = some (.imul, 1)) rfl).trans ?_
  refine (px_go (by decide +kernel : pm_fe 213 34 = some (.aload_n 0, 1)) rfl).trans ?_
  refine (px_get2 (idx := 69) (ci := 12) (k := 19) (by decide +kernel)).trans ((and_iff_right h1).trans ?_)
  refine (px_go (by decide +kernel : pm_fe 213 38 = some (.aload_n 0, 1)) rfl).trans ?_
  refine (px_get0 (idx := 139) (ci := 12) (k := 42) (by decide +kernel)).trans ((and_iff_right h1).trans ?_)
  refine (px_iaload (by decide +kernel) h2).trans ?_
  refine (px_go (by decide +kernel : pm_fe 213 43 = some (.iadd, 1)) rfl).trans ?_
  refine (px_go (by decide +kernel : pm_fe 213 44 = some (.istore_n 1, 1)) rfl).trans ?_
  refine (px_go (by decide +kernel : pm_fe 213 45 = some (.aload_n 0, 1)) rfl).trans ?_
  refine (px_get2 (idx := 133) (ci := 12) (k := 40) (by decide +kernel)).trans ((and_iff_right h1).trans ?_)
  refine (px_go (by decide +kernel : pm_fe 213 49 = some (.iload_n 1, 1)) rfl).trans ?_
  refine (px_go (by decide +kernel : pm_fe 213 50 = some (.aload_n 0, 1)) rfl).trans ?_
  refine (px_v0 (idx := 389) (m' := 209) (ci := 12) (by decide +kernel)).trans ((and_iff_right ⟨h1, (by simp [pm_wl_n, pm_wl_c, pm_w] : pm_wl [.inl ((8 * (M l0.toNat 42)) + (M (T l0.toNat 19).toNat (pm_sg (M l0.toNat 42)).toNat)), .inr (.inr (.inl (T l0.toNat 40)))] ≤ 8)⟩).trans ?_)
  exact Iff.rfl
theorem b213_54 {d : Nat} {G : PG} {M T : PH} {K : PV → PS → Prop} {l0 l1 s0 s1 s2 : Int} (h1 : pm_ar G s2 103 s1) (h2 : pm_ob G l0 12) : pm_Run d 213 54 [.inr (.inr (.inl l0)), .inl l1, PU, PU] [.inr (.inl s0), .inl s1, .inr (.inr (.inl s2))] (G, M, T) K ↔ pm_Call d 208 [.inr (.inr (.inl l0)), .inr (.inl 24948)] (G, pm_sa M s2.toNat (pm_up (M s2.toNat) (pm_sg s1).toNat s0), T) (fun r S1 => pm_Run d 213 62 [.inr (.inr (.inl l0)), .inl l1, PU, PU] (pm_push r []) S1 K) := by
  refine (px_lastore (by decide +kernel)).trans ((and_iff_right h1).trans ?_)
  refine (px_go (by decide +kernel : pm_fe 213 55 = some (.aload_n 0, 1)) rfl).trans ?_
  refine (px_ldcL (idx := 275) (x := 24948) (by decide +kernel)).trans ?_
  refine (px_v1 (idx := 393) (m' := 208) (ci := 12) (by decide +kernel)).trans ((and_iff_right ⟨h2, (by simp [pm_wl_n, pm_wl_c, pm_w] : pm_wl [] ≤ 8)⟩).trans ?_)
  exact Iff.rfl
theorem b213_62 {d : Nat} {G : PG} {M T : PH} {K : PV → PS → Prop} {l0 l1 : Int} (h1 : pm_ob G l0 12) (h2 : pm_ar G (T l0.toNat 14) 100 (M l0.toNat 42)) : pm_Run d 213 62 [.inr (.inr (.inl l0)), .inl l1, PU, PU] [] (G, M, T) K ↔ pm_Call d 195 [.inr (.inr (.inl l0)), .inl 0, .inl ((M (T l0.toNat 14).toNat (pm_sg (M l0.toNat 42)).toNat) - 1)] (G, M, T) (fun r S1 => pm_Run d 213 78 [.inr (.inr (.inl l0)), .inl l1, PU, PU] (pm_push r []) S1 K) := by
  refine (px_go (by decide +kernel : pm_fe 213 62 = some (.aload_n 0, 1)) rfl).trans ?_
  refine (px_go (by decide +kernel : pm_fe 213 63 = some (.iconst 0, 1)) rfl).trans ?_
  refine (px_go (by decide +kernel : pm_fe 213 64 = some (.aload_n 0, 1)) rfl).trans ?_
  refine (px_get2 (idx := 54) (ci := 12) (k := 14) (by decide +kernel)).trans ((and_iff_right h1).trans ?_)
  refine (px_go (by decide +kernel : pm_fe 213 68 = some (.aload_n 0, 1)) rfl).trans ?_
  refine (px_get0 (idx := 139) (ci := 12) (k := 42) (by decide +kernel)).trans ((and_iff_right h1).trans ?_)
  refine (px_iaload (by decide +kernel) h2).trans ?_
  refine (px_go (by decide +kernel : pm_fe 213 73 = some (.iconst 1, 1)) rfl).trans ?_
  refine (px_go (by decide +kernel : pm_fe 213 74 = some (.isub, 1)) rfl).trans ?_
  refine (px_v2 (idx := 341) (m' := 195) (ci := 12) (by decide +kernel)).trans ((and_iff_right ⟨h1, (by simp [pm_wl_n, pm_wl_c, pm_w] : pm_wl [] ≤ 8)⟩).trans ?_)
  exact Iff.rfl
theorem b213_78 {d : Nat} {G : PG} {M T : PH} {K : PV → PS → Prop} {l0 l1 s0 : Int} : pm_Run d 213 78 [.inr (.inr (.inl l0)), .inl l1, PU, PU] [.inl s0] (G, M, T) K ↔ pm_Run d 213 81 [.inr (.inr (.inl l0)), .inl l1, .inl s0, .inl 0] [] (G, M, T) K := by
  refine (px_go (by decide +kernel : pm_fe 213 78 = some (.istore_n 2, 1)) rfl).trans ?_
  refine (px_go (by decide +kernel : pm_fe 213 79 = some (.iconst 0, 1)) rfl).trans ?_
  refine (px_go (by decide +kernel : pm_fe 213 80 = some (.istore_n 3, 1)) rfl).trans ?_
  exact Iff.rfl
theorem b213_81 {d : Nat} {G : PG} {M T : PH} {K : PV → PS → Prop} {l0 l1 l2 l3 : Int} (h1 : pm_ob G l0 12) (h2 : pm_ar G (T l0.toNat 19) 100 (M l0.toNat 42)) : pm_Run d 213 81 [.inr (.inr (.inl l0)), .inl l1, .inl l2, .inl l3] [] (G, M, T) K ↔ if pm_sg (M (T l0.toNat 19).toNat (pm_sg (M l0.toNat 42)).toNat) ≤ pm_sg l3 then pm_Run d 213 134 [.inr (.inr (.inl l0)), .inl l1, .inl l2, .inl l3] [] (G, M, T) K else pm_Run d 213 94 [.inr (.inr (.inl l0)), .inl l1, .inl l2, .inl l3] [] (G, M, T) K := by
  refine (px_go (by decide +kernel : pm_fe 213 81 = some (.iload_n 3, 1)) rfl).trans ?_
  refine (px_go (by decide +kernel : pm_fe 213 82 = some (.aload_n 0, 1)) rfl).trans ?_
  refine (px_get2 (idx := 69) (ci := 12) (k := 19) (by decide +kernel)).trans ((and_iff_right h1).trans ?_)
  refine (px_go (by decide +kernel : pm_fe 213 86 = some (.aload_n 0, 1)) rfl).trans ?_
  refine (px_get0 (idx := 139) (ci := 12) (k := 42) (by decide +kernel)).trans ((and_iff_right h1).trans ?_)
  refine (px_iaload (by decide +kernel) h2).trans ?_
  refine (px_ic_ge (off := 43) (tgt := 134) (by decide +kernel)).trans ?_
  exact Iff.rfl
theorem b213_94 {d : Nat} {G : PG} {M T : PH} {K : PV → PS → Prop} {l0 l1 l2 l3 : Int} (h1 : pm_ob G l0 12) : pm_Run d 213 94 [.inr (.inr (.inl l0)), .inl l1, .inl l2, .inl l3] [] (G, M, T) K ↔ if pm_sg (M l0.toNat 8) ≠ 0 then pm_Run d 213 134 [.inr (.inr (.inl l0)), .inl l1, .inl l2, .inl l3] [] (G, M, T) K else pm_Run d 213 101 [.inr (.inr (.inl l0)), .inl l1, .inl l2, .inl l3] [] (G, M, T) K := by
  refine (px_go (by decide +kernel : pm_fe 213 94 = some (.aload_n 0, 1)) rfl).trans ?_
  refine (px_get0 (idx := 36) (ci := 12) (k := 8) (by decide +kernel)).trans ((and_iff_right h1).trans ?_)
  refine (px_if_ne (off := 36) (tgt := 134) (by decide +kernel)).trans ?_
  exact Iff.rfl
theorem b213_101 {d : Nat} {G : PG} {M T : PH} {K : PV → PS → Prop} {l0 l1 l2 l3 : Int} (h1 : pm_ob G l0 12) (h2 : pm_ar G (T l0.toNat 20) 100 ((8 * (M l0.toNat 42)) + l3)) : pm_Run d 213 101 [.inr (.inr (.inl l0)), .inl l1, .inl l2, .inl l3] [] (G, M, T) K ↔ if pm_sg (M (T l0.toNat 20).toNat (pm_sg ((8 * (M l0.toNat 42)) + l3)).toNat) ≠ pm_sg l2 then pm_Run d 213 128 [.inr (.inr (.inl l0)), .inl l1, .inl l2, .inl l3] [] (G, M, T) K else pm_Run d 213 119 [.inr (.inr (.inl l0)), .inl l1, .inl l2, .inl l3] [] (G, M, T) K := by
  refine (px_go (by decide +kernel : pm_fe 213 101 = some (.aload_n 0, 1)) rfl).trans ?_
  refine (px_get2 (idx := 72) (ci := 12) (k := 20) (by decide +kernel)).trans ((and_iff_right h1).trans ?_)
  refine (px_go (by decide +kernel : pm_fe 213 105 = some (.bipush 8, 2)) rfl).trans ?_
  refine (px_go (by decide +kernel : pm_fe 213 107 = some (.aload_n 0, 1)) rfl).trans ?_
  refine (px_get0 (idx := 139) (ci := 12) (k := 42) (by decide +kernel)).trans ((and_iff_right h1).trans ?_)
  refine (px_go (by decide +kernel : pm_fe 213 111 = some (.imul, 1)) rfl).trans ?_
  refine (px_go (by decide +kernel : pm_fe 213 112 = some (.iload_n 3, 1)) rfl).trans ?_
  refine (px_go (by decide +kernel : pm_fe 213 113 = some (.iadd, 1)) rfl).trans ?_
  refine (px_iaload (by decide +kernel) h2).trans ?_
  refine (px_go (by decide +kernel : pm_fe 213 115 = some (.iload_n 2, 1)) rfl).trans ?_
  refine (px_ic_ne (off := 12) (tgt := 128) (by decide +kernel)).trans ?_
  exact Iff.rfl
theorem b213_119 {d : Nat} {G : PG} {M T : PH} {K : PV → PS → Prop} {l0 l1 l2 l3 : Int} (h1 : pm_ob G l0 12) : pm_Run d 213 119 [.inr (.inr (.inl l0)), .inl l1, .inl l2, .inl l3] [] (G, M, T) K ↔ pm_Call d 183 [.inr (.inr (.inl l0)), .inl 4, .inl (M l0.toNat 4)] (G, M, T) (fun r S1 => pm_Run d 213 128 [.inr (.inr (.inl l0)), .inl l1, .inl l2, .inl l3] (pm_push r []) S1 K) := by
  refine (px_go (by decide +kernel : pm_fe 213 119 = some (.aload_n 0, 1)) rfl).trans ?_
  refine (px_go (by decide +kernel : pm_fe 213 120 = some (.iconst 4, 1)) rfl).trans ?_
  refine (px_go (by decide +kernel : pm_fe 213 121 = some (.aload_n 0, 1)) rfl).trans ?_
  refine (px_get0 (idx := 23) (ci := 12) (k := 4) (by decide +kernel)).trans ((and_iff_right h1).trans ?_)
  refine (px_v2 (idx := 251) (m' := 183) (ci := 12) (by decide +kernel)).trans ((and_iff_right ⟨h1, (by simp [pm_wl_n, pm_wl_c, pm_w] : pm_wl [] ≤ 8)⟩).trans ?_)
  exact Iff.rfl
theorem b213_128 {d : Nat} {G : PG} {M T : PH} {K : PV → PS → Prop} {l0 l1 l2 l3 : Int} : pm_Run d 213 128 [.inr (.inr (.inl l0)), .inl l1, .inl l2, .inl l3] [] (G, M, T) K ↔ pm_Run d 213 81 [.inr (.inr (.inl l0)), .inl l1, .inl l2, .inl (l3 + 1)] [] (G, M, T) K := by
  refine (px_go (by decide +kernel : pm_fe 213 128 = some (.iinc 3 1, 3)) rfl).trans ?_
  refine (px_goto (off := (-50)) (tgt := 81) (by decide +kernel)).trans ?_
  exact Iff.rfl
theorem b213_134 {d : Nat} {G : PG} {M T : PH} {K : PV → PS → Prop} {l0 l1 l2 l3 : Int} (h1 : pm_ob G l0 12) : pm_Run d 213 134 [.inr (.inr (.inl l0)), .inl l1, .inl l2, .inl l3] [] (G, M, T) K ↔ if pm_sg (M l0.toNat 8) ≤ 0 then pm_Run d 213 142 [.inr (.inr (.inl l0)), .inl l1, .inl l2, .inl l3] [] (G, M, T) K else pm_Run d 213 141 [.inr (.inr (.inl l0)), .inl l1, .inl l2, .inl l3] [] (G, M, T) K := by
  refine (px_go (by decide +kernel : pm_fe 213 134 = some (.aload_n 0, 1)) rfl).trans ?_
  refine (px_get0 (idx := 36) (ci := 12) (k := 8) (by decide +kernel)).trans ((and_iff_right h1).trans ?_)
  refine (px_if_le (off := 4) (tgt := 142) (by decide +kernel)).trans ?_
  exact Iff.rfl
theorem b213_141 {d : Nat} {G : PG} {M T : PH} {K : PV → PS → Prop} {l0 l1 l2 l3 : Int} : pm_Run d 213 141 [.inr (.inr (.inl l0)), .inl l1, .inl l2, .inl l3] [] (G, M, T) K ↔ K PU (G, M, T) := by
  refine (px_rv (by decide +kernel)).trans ?_
  exact Iff.rfl
theorem b213_142 {d : Nat} {G : PG} {M T : PH} {K : PV → PS → Prop} {l0 l1 l2 l3 : Int} (h1 : pm_ob G l0 12) : pm_Run d 213 142 [.inr (.inr (.inl l0)), .inl l1, .inl l2, .inl l3] [] (G, M, T) K ↔ pm_Call d 187 [.inr (.inr (.inl l0))] (G, M, T) (fun r S1 => pm_Run d 213 146 [.inr (.inr (.inl l0)), .inl l1, .inl l2, .inl l3] (pm_push r []) S1 K) := by
  refine (px_go (by decide +kernel : pm_fe 213 142 = some (.aload_n 0, 1)) rfl).trans ?_
  refine (px_v0 (idx := 268) (m' := 187) (ci := 12) (by decide +kernel)).trans ((and_iff_right ⟨h1, (by simp [pm_wl_n, pm_wl_c, pm_w] : pm_wl [] ≤ 8)⟩).trans ?_)
  exact Iff.rfl
theorem b213_146 {d : Nat} {G : PG} {M T : PH} {K : PV → PS → Prop} {l0 l1 l2 l3 : Int} (h1 : pm_ob G l0 12) (h2 : pm_ar G (T l0.toNat 20) 100 l1) : pm_Run d 213 146 [.inr (.inr (.inl l0)), .inl l1, .inl l2, .inl l3] [] (G, M, T) K ↔ pm_Call d 208 [.inr (.inr (.inl l0)), .inr (.inl 483006772069)] (G, pm_sa M (T l0.toNat 20).toNat (pm_up (M (T l0.toNat 20).toNat) (pm_sg l1).toNat l2), T) (fun r S1 => pm_Run d 213 160 [.inr (.inr (.inl l0)), .inl l1, .inl l2, .inl l3] (pm_push r []) S1 K) := by
  refine (px_go (by decide +kernel : pm_fe 213 146 = some (.aload_n 0, 1)) rfl).trans ?_
  refine (px_get2 (idx := 72) (ci := 12) (k := 20) (by decide +kernel)).trans ((and_iff_right h1).trans ?_)
  refine (px_go (by decide +kernel : pm_fe 213 150 = some (.iload_n 1, 1)) rfl).trans ?_
  refine (px_go (by decide +kernel : pm_fe 213 151 = some (.iload_n 2, 1)) rfl).trans ?_
  refine (px_iastore (by decide +kernel)).trans ((and_iff_right h2).trans ?_)
  refine (px_go (by decide +kernel : pm_fe 213 153 = some (.aload_n 0, 1)) rfl).trans ?_
  refine (px_ldcL (idx := 283) (x := 483006772069) (by decide +kernel)).trans ?_
  refine (px_v1 (idx := 393) (m' := 208) (ci := 12) (by decide +kernel)).trans ((and_iff_right ⟨h1, (by simp [pm_wl_n, pm_wl_c, pm_w] : pm_wl [] ≤ 8)⟩).trans ?_)
  exact Iff.rfl
theorem b213_160 {d : Nat} {G : PG} {M T : PH} {K : PV → PS → Prop} {l0 l1 l2 l3 : Int} (h1 : pm_ob G l0 12) : pm_Run d 213 160 [.inr (.inr (.inl l0)), .inl l1, .inl l2, .inl l3] [] (G, M, T) K ↔ pm_Call d 196 [.inr (.inr (.inl l0)), .inl 0, .inl 999] (G, M, T) (fun r S1 => pm_Run d 213 173 [.inr (.inr (.inl l0)), .inl l1, .inl l2, .inl l3] (pm_push r [.inl l1, .inr (.inr (.inl (T l0.toNat 21)))]) S1 K) := by
  refine (px_go (by decide +kernel : pm_fe 213 160 = some (.aload_n 0, 1)) rfl).trans ?_
  refine (px_get2 (idx := 75) (ci := 12) (k := 21) (by decide +kernel)).trans ((and_iff_right h1).trans ?_)
  refine (px_go (by decide +kernel : pm_fe 213 164 = some (.iload_n 1, 1)) rfl).trans ?_
  refine (px_go (by decide +kernel : pm_fe 213 165 = some (.aload_n 0, 1)) rfl).trans ?_
  refine (px_go (by decide +kernel : pm_fe 213 166 = some (.iconst 0, 1)) rfl).trans ?_
  refine (px_go (by decide +kernel : pm_fe 213 167 = some (.sipush 999, 3)) rfl).trans ?_
  refine (px_v2 (idx := 397) (m' := 196) (ci := 12) (by decide +kernel)).trans ((and_iff_right ⟨h1, (by simp [pm_wl_n, pm_wl_c, pm_w] : pm_wl [.inl l1, .inr (.inr (.inl (T l0.toNat 21)))] ≤ 8)⟩).trans ?_)
  exact Iff.rfl
theorem b213_173 {d : Nat} {G : PG} {M T : PH} {K : PV → PS → Prop} {l0 l1 l2 l3 s0 s1 s2 : Int} (h1 : pm_ar G s2 100 s1) (h2 : pm_ob G l0 12) : pm_Run d 213 173 [.inr (.inr (.inl l0)), .inl l1, .inl l2, .inl l3] [.inl s0, .inl s1, .inr (.inr (.inl s2))] (G, M, T) K ↔ pm_Call d 208 [.inr (.inr (.inl l0)), .inr (.inl 431198598248)] (G, pm_sa M s2.toNat (pm_up (M s2.toNat) (pm_sg s1).toNat s0), T) (fun r S1 => pm_Run d 213 181 [.inr (.inr (.inl l0)), .inl l1, .inl l2, .inl l3] (pm_push r []) S1 K) := by
  refine (px_iastore (by decide +kernel)).trans ((and_iff_right h1).trans ?_)
  refine (px_go (by decide +kernel : pm_fe 213 174 = some (.aload_n 0, 1)) rfl).trans ?_
  refine (px_ldcL (idx := 285) (x := 431198598248) (by decide +kernel)).trans ?_
  refine (px_v1 (idx := 393) (m' := 208) (ci := 12) (by decide +kernel)).trans ((and_iff_right ⟨h2, (by simp [pm_wl_n, pm_wl_c, pm_w] : pm_wl [] ≤ 8)⟩).trans ?_)
  exact Iff.rfl
theorem b213_181 {d : Nat} {G : PG} {M T : PH} {K : PV → PS → Prop} {l0 l1 l2 l3 : Int} (h1 : pm_ob G l0 12) : pm_Run d 213 181 [.inr (.inr (.inl l0)), .inl l1, .inl l2, .inl l3] [] (G, M, T) K ↔ pm_Call d 196 [.inr (.inr (.inl l0)), .inl 0, .inl 99] (G, M, T) (fun r S1 => pm_Run d 213 193 [.inr (.inr (.inl l0)), .inl l1, .inl l2, .inl l3] (pm_push r [.inl l1, .inr (.inr (.inl (T l0.toNat 22)))]) S1 K) := by
  refine (px_go (by decide +kernel : pm_fe 213 181 = some (.aload_n 0, 1)) rfl).trans ?_
  refine (px_get2 (idx := 78) (ci := 12) (k := 22) (by decide +kernel)).trans ((and_iff_right h1).trans ?_)
  refine (px_go (by decide +kernel : pm_fe 213 185 = some (.iload_n 1, 1)) rfl).trans ?_
  refine (px_go (by decide +kernel : pm_fe 213 186 = some (.aload_n 0, 1)) rfl).trans ?_
  refine (px_go (by decide +kernel : pm_fe 213 187 = some (.iconst 0, 1)) rfl).trans ?_
  refine (px_go (by decide +kernel : pm_fe 213 188 = some (.bipush 99, 2)) rfl).trans ?_
  refine (px_v2 (idx := 397) (m' := 196) (ci := 12) (by decide +kernel)).trans ((and_iff_right ⟨h1, (by simp [pm_wl_n, pm_wl_c, pm_w] : pm_wl [.inl l1, .inr (.inr (.inl (T l0.toNat 22)))] ≤ 8)⟩).trans ?_)
  exact Iff.rfl
theorem b213_193 {d : Nat} {G : PG} {M T : PH} {K : PV → PS → Prop} {l0 l1 l2 l3 s0 s1 s2 : Int} (h1 : pm_ar G s2 100 s1) : pm_Run d 213 193 [.inr (.inr (.inl l0)), .inl l1, .inl l2, .inl l3] [.inl s0, .inl s1, .inr (.inr (.inl s2))] (G, M, T) K ↔ pm_Run d 213 196 [.inr (.inr (.inl l0)), .inl l1, .inl l2, .inl 0] [] (G, pm_sa M s2.toNat (pm_up (M s2.toNat) (pm_sg s1).toNat s0), T) K := by
  refine (px_iastore (by decide +kernel)).trans ((and_iff_right h1).trans ?_)
  refine (px_go (by decide +kernel : pm_fe 213 194 = some (.iconst 0, 1)) rfl).trans ?_
  refine (px_go (by decide +kernel : pm_fe 213 195 = some (.istore_n 3, 1)) rfl).trans ?_
  exact Iff.rfl
theorem b213_196 {d : Nat} {G : PG} {M T : PH} {K : PV → PS → Prop} {l0 l1 l2 l3 : Int} : pm_Run d 213 196 [.inr (.inr (.inl l0)), .inl l1, .inl l2, .inl l3] [] (G, M, T) K ↔ if pm_sg 3 ≤ pm_sg l3 then pm_Run d 213 218 [.inr (.inr (.inl l0)), .inl l1, .inl l2, .inl l3] [] (G, M, T) K else pm_Run d 213 201 [.inr (.inr (.inl l0)), .inl l1, .inl l2, .inl l3] [] (G, M, T) K := by
  refine (px_go (by decide +kernel : pm_fe 213 196 = some (.iload_n 3, 1)) rfl).trans ?_
  refine (px_go (by decide +kernel : pm_fe 213 197 = some (.iconst 3, 1)) rfl).trans ?_
  refine (px_ic_ge (off := 20) (tgt := 218) (by decide +kernel)).trans ?_
  exact Iff.rfl
theorem b213_201 {d : Nat} {G : PG} {M T : PH} {K : PV → PS → Prop} {l0 l1 l2 l3 : Int} (h1 : pm_ob G l0 12) (h2 : pm_ar G (T l0.toNat 23) 100 ((3 * l1) + l3)) : pm_Run d 213 201 [.inr (.inr (.inl l0)), .inl l1, .inl l2, .inl l3] [] (G, M, T) K ↔ pm_Run d 213 196 [.inr (.inr (.inl l0)), .inl l1, .inl l2, .inl (l3 + 1)] [] (G, pm_sa M (T l0.toNat 23).toNat (pm_up (M (T l0.toNat 23).toNat) (pm_sg ((3 * l1) + l3)).toNat 0), T) K := by
  refine (px_go (by decide +kernel : pm_fe 213 201 = some (.aload_n 0, 1)) rfl).trans ?_
  refine (px_get2 (idx := 81) (ci := 12) (k := 23) (by decide +kernel)).trans ((and_iff_right h1).trans ?_)
  refine (px_go (by decide +kernel : pm_fe 213 205 = some (.iconst 3, 1)) rfl).trans ?_
  refine (px_go (by decide +kernel : pm_fe 213 206 = some (.iload_n 1, 1)) rfl).trans ?_
  refine (px_go (by decide +kernel : pm_fe 213 207 = some (.imul, 1)) rfl).trans ?_
  refine (px_go (by decide +kernel : pm_fe 213 208 = some (.iload_n 3, 1)) rfl).trans ?_
  refine (px_go (by decide +kernel : pm_fe 213 209 = some (.iadd, 1)) rfl).trans ?_
  refine (px_go (by decide +kernel : pm_fe 213 210 = some (.iconst 0, 1)) rfl).trans ?_
  refine (px_iastore (by decide +kernel)).trans ((and_iff_right h2).trans ?_)
  refine (px_go (by decide +kernel : pm_fe 213 212 = some (.iinc 3 1, 3)) rfl).trans ?_
  refine (px_goto (off := (-19)) (tgt := 196) (by decide +kernel)).trans ?_
  exact Iff.rfl
theorem b213_218 {d : Nat} {G : PG} {M T : PH} {K : PV → PS → Prop} {l0 l1 l2 l3 : Int} (h1 : pm_ob G l0 12) : pm_Run d 213 218 [.inr (.inr (.inl l0)), .inl l1, .inl l2, .inl l3] [] (G, M, T) K ↔ if pm_sg (M l0.toNat 8) ≠ 0 then pm_Run d 213 238 [.inr (.inr (.inl l0)), .inl l1, .inl l2, .inl l3] [] (G, M, T) K else pm_Run d 213 225 [.inr (.inr (.inl l0)), .inl l1, .inl l2, .inl l3] [] (G, M, T) K := by
  refine (px_go (by decide +kernel : pm_fe 213 218 = some (.aload_n 0, 1)) rfl).trans ?_
  refine (px_get0 (idx := 36) (ci := 12) (k := 8) (by decide +kernel)).trans ((and_iff_right h1).trans ?_)
  refine (px_if_ne (off := 16) (tgt := 238) (by decide +kernel)).trans ?_
  exact Iff.rfl
theorem b213_225 {d : Nat} {G : PG} {M T : PH} {K : PV → PS → Prop} {l0 l1 l2 l3 : Int} (h1 : pm_ob G l0 12) (h2 : pm_ar G (T l0.toNat 19) 100 (M l0.toNat 42)) : pm_Run d 213 225 [.inr (.inr (.inl l0)), .inl l1, .inl l2, .inl l3] [] (G, M, T) K ↔ pm_Run d 213 238 [.inr (.inr (.inl l0)), .inl l1, .inl l2, .inl l3] [] (G, pm_sa M (T l0.toNat 19).toNat (pm_up (M (T l0.toNat 19).toNat) (pm_sg (M l0.toNat 42)).toNat ((M (T l0.toNat 19).toNat (pm_sg (M l0.toNat 42)).toNat) + 1)), T) K := by
  refine (px_go (by decide +kernel : pm_fe 213 225 = some (.aload_n 0, 1)) rfl).trans ?_
  refine (px_get2 (idx := 69) (ci := 12) (k := 19) (by decide +kernel)).trans ((and_iff_right h1).trans ?_)
  refine (px_go (by decide +kernel : pm_fe 213 229 = some (.aload_n 0, 1)) rfl).trans ?_
  refine (px_get0 (idx := 139) (ci := 12) (k := 42) (by decide +kernel)).trans ((and_iff_right h1).trans ?_)
  refine (px_go (by decide +kernel : pm_fe 213 233 = some (.dup2, 1)) rfl).trans ?_
  refine (px_iaload (by decide +kernel) h2).trans ?_
  refine (px_go (by decide +kernel : pm_fe 213 235 = some (.iconst 1, 1)) rfl).trans ?_
  refine (px_go (by decide +kernel : pm_fe 213 236 = some (.iadd, 1)) rfl).trans ?_
  refine (px_iastore (by decide +kernel)).trans ((and_iff_right h2).trans ?_)
  exact Iff.rfl
theorem b213_238 {d : Nat} {G : PG} {M T : PH} {K : PV → PS → Prop} {l0 l1 l2 l3 : Int} : pm_Run d 213 238 [.inr (.inr (.inl l0)), .inl l1, .inl l2, .inl l3] [] (G, M, T) K ↔ K PU (G, M, T) := by
  refine (px_rv (by decide +kernel)).trans ?_
  exact Iff.rfl
-- X12_paying paying()V
theorem en214 {d : Nat} {a : Int} {S : PS} {K : PV → PS → Prop} : pm_Call (d + 1) 214 [.inr (.inr (.inl a))] S K ↔ pm_Run d 214 0 [.inr (.inr (.inl a)), PU, PU, PU] [] S K := pm_Call_s.trans (and_iff_right (show 1 ≤ pm_ml 214 from by decide +kernel))
theorem b214_0 {d : Nat} {G : PG} {M T : PH} {K : PV → PS → Prop} {l0 : Int} (h1 : pm_ob G l0 12) : pm_Run d 214 0 [.inr (.inr (.inl l0)), PU, PU, PU] [] (G, M, T) K ↔ pm_Call d 207 [.inr (.inr (.inl l0)), .inl 0] (G, M, T) (fun r S1 => pm_Run d 214 5 [.inr (.inr (.inl l0)), PU, PU, PU] (pm_push r []) S1 K) := by
  refine (px_go (by decide +kernel : pm_fe 214 0 = some (.aload_n 0, 1)) rfl).trans ?_
  refine (px_go (by decide +kernel : pm_fe 214 1 = some (.iconst 0, 1)) rfl).trans ?_
  refine (px_v1 (idx := 385) (m' := 207) (ci := 12) (by decide +kernel)).trans ((and_iff_right ⟨h1, (by simp [pm_wl_n, pm_wl_c, pm_w] : pm_wl [] ≤ 8)⟩).trans ?_)
  exact Iff.rfl
theorem b214_5 {d : Nat} {G : PG} {M T : PH} {K : PV → PS → Prop} {l0 s0 : Int} : pm_Run d 214 5 [.inr (.inr (.inl l0)), PU, PU, PU] [.inl s0] (G, M, T) K ↔ if pm_sg s0 ≠ 0 then pm_Run d 214 9 [.inr (.inr (.inl l0)), PU, PU, PU] [] (G, M, T) K else pm_Run d 214 8 [.inr (.inr (.inl l0)), PU, PU, PU] [] (G, M, T) K := by
  refine (px_if_ne (off := 4) (tgt := 9) (by decide +kernel)).trans ?_
  exact Iff.rfl
theorem b214_8 {d : Nat} {G : PG} {M T : PH} {K : PV → PS → Prop} {l0 : Int} : pm_Run d 214 8 [.inr (.inr (.inl l0)), PU, PU, PU] [] (G, M, T) K ↔ K PU (G, M, T) := by
  refine (px_rv (by decide +kernel)).trans ?_
  exact Iff.rfl
theorem b214_9 {d : Nat} {G : PG} {M T : PH} {K : PV → PS → Prop} {l0 : Int} (h1 : pm_ob G l0 12) : pm_Run d 214 9 [.inr (.inr (.inl l0)), PU, PU, PU] [] (G, M, T) K ↔ pm_Call d 211 [.inr (.inr (.inl l0)), .inl 1] (G, M, T) (fun r S1 => pm_Run d 214 14 [.inr (.inr (.inl l0)), PU, PU, PU] (pm_push r []) S1 K) := by
  refine (px_go (by decide +kernel : pm_fe 214 9 = some (.aload_n 0, 1)) rfl).trans ?_
  refine (px_go (by decide +kernel : pm_fe 214 10 = some (.iconst 1, 1)) rfl).trans ?_
  refine (px_v1 (idx := 400) (m' := 211) (ci := 12) (by decide +kernel)).trans ((and_iff_right ⟨h1, (by simp [pm_wl_n, pm_wl_c, pm_w] : pm_wl [] ≤ 8)⟩).trans ?_)
  exact Iff.rfl
theorem b214_14 {d : Nat} {G : PG} {M T : PH} {K : PV → PS → Prop} {l0 s0 : Int} (h1 : pm_ob G l0 12) : pm_Run d 214 14 [.inr (.inr (.inl l0)), PU, PU, PU] [.inl s0] (G, M, T) K ↔ pm_Call d 211 [.inr (.inr (.inl l0)), .inl 0] (G, M, T) (fun r S1 => pm_Run d 214 20 [.inr (.inr (.inl l0)), .inl s0, PU, PU] (pm_push r []) S1 K) := by
  refine (px_go (by decide +kernel : pm_fe 214 14 = some (.istore_n 1, 1)) rfl).trans ?_
  refine (px_go (by decide +kernel : pm_fe 214 15 = some (.aload_n 0, 1)) rfl).trans ?_
  refine (px_go (by decide +kernel : pm_fe 214 16 = some (.iconst 0, 1)) rfl).trans ?_
  refine (px_v1 (idx := 400) (m' := 211) (ci := 12) (by decide +kernel)).trans ((and_iff_right ⟨h1, (by simp [pm_wl_n, pm_wl_c, pm_w] : pm_wl [] ≤ 8)⟩).trans ?_)
  exact Iff.rfl
theorem b214_20 {d : Nat} {G : PG} {M T : PH} {K : PV → PS → Prop} {l0 l1 s0 : Int} (h1 : pm_ob G l0 12) : pm_Run d 214 20 [.inr (.inr (.inl l0)), .inl l1, PU, PU] [.inl s0] (G, M, T) K ↔ pm_Call d 196 [.inr (.inr (.inl l0)), .inl 0, .inl 20] (G, M, T) (fun r S1 => pm_Run d 214 28 [.inr (.inr (.inl l0)), .inl l1, .inl s0, PU] (pm_push r []) S1 K) := by
  refine (px_go (by decide +kernel : pm_fe 214 20 = some (.istore_n 2, 1)) rfl).trans ?_
  refine (px_go (by decide +kernel : pm_fe 214 21 = some (.aload_n 0, 1)) rfl).trans ?_
  refine (px_go (by decide +kernel : pm_fe 214 22 = some (.iconst 0, 1)) rfl).trans ?_
  refine (px_go (by decide +kernel : pm_fe 214 23 = some (.bipush 20, 2)) rfl).trans ?_
  refine (px_v2 (idx := 397) (m' := 196) (ci := 12) (by decide +kernel)).trans ((and_iff_right ⟨h1, (by simp [pm_wl_n, pm_wl_c, pm_w] : pm_wl [] ≤ 8)⟩).trans ?_)
  exact Iff.rfl
theorem b214_28 {d : Nat} {G : PG} {M T : PH} {K : PV → PS → Prop} {l0 l1 l2 s0 : Int} (h1 : pm_ob G l0 12) : pm_Run d 214 28 [.inr (.inr (.inl l0)), .inl l1, .inl l2, PU] [.inl s0] (G, M, T) K ↔ if pm_sg (M l0.toNat 8) ≠ 0 then pm_Run d 214 55 [.inr (.inr (.inl l0)), .inl l1, .inl l2, .inl s0] [] (G, M, T) K else pm_Run d 214 36 [.inr (.inr (.inl l0)), .inl l1, .inl l2, .inl s0] [] (G, M, T) K := by
  refine (px_go (by decide +kernel : pm_fe 214 28 = some (.istore_n 3, 1)) rfl).trans ?_
  refine (px_go (by decide +kernel : pm_fe 214 29 = some (.aload_n 0, 1)) rfl).trans ?_
  refine (px_get0 (idx := 36) (ci := 12) (k := 8) (by decide +kernel)).trans ((and_iff_right h1).trans ?_)
  refine (px_if_ne (off := 22) (tgt := 55) (by decide +kernel)).trans ?_
  exact Iff.rfl
theorem b214_36 {d : Nat} {G : PG} {M T : PH} {K : PV → PS → Prop} {l0 l1 l2 l3 : Int} (h1 : pm_ob G l0 12) (h2 : pm_ar G (T l0.toNat 23) 100 ((3 * ((8 * (M l0.toNat 42)) + l1)) + l2)) : pm_Run d 214 36 [.inr (.inr (.inl l0)), .inl l1, .inl l2, .inl l3] [] (G, M, T) K ↔ pm_Run d 214 55 [.inr (.inr (.inl l0)), .inl l1, .inl l2, .inl l3] [] (G, pm_sa M (T l0.toNat 23).toNat (pm_up (M (T l0.toNat 23).toNat) (pm_sg ((3 * ((8 * (M l0.toNat 42)) + l1)) + l2)).toNat l3), T) K := by
  refine (px_go (by decide +kernel : pm_fe 214 36 = some (.aload_n 0, 1)) rfl).trans ?_
  refine (px_get2 (idx := 81) (ci := 12) (k := 23) (by decide +kernel)).trans ((and_iff_right h1).trans ?_)
  refine (px_go (by decide +kernel : pm_fe 214 40 = some (.iconst 3, 1)) rfl).trans ?_
  refine (px_go (by decide +kernel : pm_fe 214 41 = some (.bipush 8, 2)) rfl).trans ?_
  refine (px_go (by decide +kernel : pm_fe 214 43 = some (.aload_n 0, 1)) rfl).trans ?_
  refine (px_get0 (idx := 139) (ci := 12) (k := 42) (by decide +kernel)).trans ((and_iff_right h1).trans ?_)
  refine (px_go (by decide +kernel : pm_fe 214 47 = some (.imul, 1)) rfl).trans ?_
  refine (px_go (by decide +kernel : pm_fe 214 48 = some (.iload_n 1, 1)) rfl).trans ?_
  refine (px_go (by decide +kernel : pm_fe 214 49 = some (.iadd, 1)) rfl).trans ?_
  refine (px_go (by decide +kernel : pm_fe 214 50 = some (.imul, 1)) rfl).trans ?_
  refine (px_go (by decide +kernel : pm_fe 214 51 = some (.iload_n 2, 1)) rfl).trans ?_
  refine (px_go (by decide +kernel : pm_fe 214 52 = some (.iadd, 1)) rfl).trans ?_
  refine (px_go (by decide +kernel : pm_fe 214 53 = some (.iload_n 3, 1)) rfl).trans ?_
  refine (px_iastore (by decide +kernel)).trans ((and_iff_right h2).trans ?_)
  exact Iff.rfl
theorem b214_55 {d : Nat} {G : PG} {M T : PH} {K : PV → PS → Prop} {l0 l1 l2 l3 : Int} : pm_Run d 214 55 [.inr (.inr (.inl l0)), .inl l1, .inl l2, .inl l3] [] (G, M, T) K ↔ K PU (G, M, T) := by
  refine (px_rv (by decide +kernel)).trans ?_
  exact Iff.rfl
-- X12_owing owing()V
theorem en215 {d : Nat} {a : Int} {S : PS} {K : PV → PS → Prop} : pm_Call (d + 1) 215 [.inr (.inr (.inl a))] S K ↔ pm_Run d 215 0 [.inr (.inr (.inl a)), PU] [] S K := pm_Call_s.trans (and_iff_right (show 1 ≤ pm_ml 215 from by decide +kernel))
theorem b215_0 {d : Nat} {G : PG} {M T : PH} {K : PV → PS → Prop} {l0 : Int} (h1 : pm_ob G l0 12) (h2 : pm_ar G (T l0.toNat 24) 100 (M l0.toNat 42)) : pm_Run d 215 0 [.inr (.inr (.inl l0)), PU] [] (G, M, T) K ↔ if pm_sg (M (T l0.toNat 24).toNat (pm_sg (M l0.toNat 42)).toNat) ≠ pm_sg 16 then pm_Run d 215 19 [.inr (.inr (.inl l0)), PU] [.inr (.inr (.inl l0))] (G, M, T) K else pm_Run d 215 15 [.inr (.inr (.inl l0)), PU] [.inr (.inr (.inl l0))] (G, M, T) K := by
  refine (px_go (by decide +kernel : pm_fe 215 0 = some (.aload_n 0, 1)) rfl).trans ?_
  refine (px_go (by decide +kernel : pm_fe 215 1 = some (.aload_n 0, 1)) rfl).trans ?_
  refine (px_get2 (idx := 84) (ci := 12) (k := 24) (by decide +kernel)).trans ((and_iff_right h1).trans ?_)
  refine (px_go (by decide +kernel : pm_fe 215 5 = some (.aload_n 0, 1)) rfl).trans ?_
  refine (px_get0 (idx := 139) (ci := 12) (k := 42) (by decide +kernel)).trans ((and_iff_right h1).trans ?_)
  refine (px_iaload (by decide +kernel) h2).trans ?_
  refine (px_go (by decide +kernel : pm_fe 215 10 = some (.bipush 16, 2)) rfl).trans ?_
  refine (px_ic_ne (off := 7) (tgt := 19) (by decide +kernel)).trans ?_
  exact Iff.rfl
theorem b215_15 {d : Nat} {G : PG} {M T : PH} {K : PV → PS → Prop} {l0 s0 : Int} : pm_Run d 215 15 [.inr (.inr (.inl l0)), PU] [.inr (.inr (.inl s0))] (G, M, T) K ↔ pm_Run d 215 20 [.inr (.inr (.inl l0)), PU] [.inl 1, .inr (.inr (.inl s0))] (G, M, T) K := by
  refine (px_go (by decide +kernel : pm_fe 215 15 = some (.iconst 1, 1)) rfl).trans ?_
  refine (px_goto (off := 4) (tgt := 20) (by decide +kernel)).trans ?_
  exact Iff.rfl
theorem b215_19 {d : Nat} {G : PG} {M T : PH} {K : PV → PS → Prop} {l0 s0 : Int} : pm_Run d 215 19 [.inr (.inr (.inl l0)), PU] [.inr (.inr (.inl s0))] (G, M, T) K ↔ pm_Run d 215 20 [.inr (.inr (.inl l0)), PU] [.inl 0, .inr (.inr (.inl s0))] (G, M, T) K := by
  refine (px_go (by decide +kernel : pm_fe 215 19 = some (.iconst 0, 1)) rfl).trans ?_
  exact Iff.rfl
theorem b215_20 {d : Nat} {G : PG} {M T : PH} {K : PV → PS → Prop} {l0 s0 s1 : Int} (h1 : pm_ob G s1 12) : pm_Run d 215 20 [.inr (.inr (.inl l0)), PU] [.inl s0, .inr (.inr (.inl s1))] (G, M, T) K ↔ pm_Call d 207 [.inr (.inr (.inl s1)), .inl s0] (G, M, T) (fun r S1 => pm_Run d 215 23 [.inr (.inr (.inl l0)), PU] (pm_push r []) S1 K) := by
  refine (px_v1 (idx := 385) (m' := 207) (ci := 12) (by decide +kernel)).trans ((and_iff_right ⟨h1, (by simp [pm_wl_n, pm_wl_c, pm_w] : pm_wl [] ≤ 8)⟩).trans ?_)
  exact Iff.rfl
theorem b215_23 {d : Nat} {G : PG} {M T : PH} {K : PV → PS → Prop} {l0 s0 : Int} : pm_Run d 215 23 [.inr (.inr (.inl l0)), PU] [.inl s0] (G, M, T) K ↔ if pm_sg s0 ≠ 0 then pm_Run d 215 27 [.inr (.inr (.inl l0)), PU] [] (G, M, T) K else pm_Run d 215 26 [.inr (.inr (.inl l0)), PU] [] (G, M, T) K := by
  refine (px_if_ne (off := 4) (tgt := 27) (by decide +kernel)).trans ?_
  exact Iff.rfl
theorem b215_26 {d : Nat} {G : PG} {M T : PH} {K : PV → PS → Prop} {l0 : Int} : pm_Run d 215 26 [.inr (.inr (.inl l0)), PU] [] (G, M, T) K ↔ K PU (G, M, T) := by
  refine (px_rv (by decide +kernel)).trans ?_
  exact Iff.rfl
theorem b215_27 {d : Nat} {G : PG} {M T : PH} {K : PV → PS → Prop} {l0 : Int} (h1 : pm_ob G l0 12) (h2 : pm_ar G (T l0.toNat 24) 100 (M l0.toNat 42)) : pm_Run d 215 27 [.inr (.inr (.inl l0)), PU] [] (G, M, T) K ↔ pm_Call d 211 [.inr (.inr (.inl l0)), .inl 1] (G, M, T) (fun r S1 => pm_Run d 215 55 [.inr (.inr (.inl l0)), .inl ((16 * (M l0.toNat 42)) + (M (T l0.toNat 24).toNat (pm_sg (M l0.toNat 42)).toNat))] (pm_push r [.inl ((16 * (M l0.toNat 42)) + (M (T l0.toNat 24).toNat (pm_sg (M l0.toNat 42)).toNat)), .inr (.inr (.inl (T l0.toNat 25)))]) S1 K) := by
  refine (px_go (by decide +kernel : pm_fe 215 27 = some (.bipush 16, 2)) rfl).trans ?_
  refine (px_go (by decide +kernel : pm_fe 215 29 = some (.aload_n 0, 1)) rfl).trans ?_
  refine (px_get0 (idx := 139) (ci := 12) (k := 42) (by decide +kernel)).trans ((and_iff_right h1).trans ?_)
  refine (px_go (by decide +kernel : pm_fe 215 33 = some (.imul, 1)) rfl).trans ?_
  refine (px_go (by decide +kernel : pm_fe 215 34 = some (.aload_n 0, 1)) rfl).trans ?_
  refine (px_get2 (idx := 84) (ci := 12) (k := 24) (by decide +kernel)).trans ((and_iff_right h1).trans ?_)
  refine (px_go (by decide +kernel : pm_fe 215 38 = some (.aload_n 0, 1)) rfl).trans ?_
  refine (px_get0 (idx := 139) (ci := 12) (k := 42) (by decide +kernel)).trans ((and_iff_right h1).trans ?_)
  refine (px_iaload (by decide +kernel) h2).trans ?_
  refine (px_go (by decide +kernel : pm_fe 215 43 = some (.iadd, 1)) rfl).trans ?_
  refine (px_go (by decide +kernel : pm_fe 215 44 = some (.istore_n 1, 1)) rfl).trans ?_
  refine (px_go (by decide +kernel : pm_fe 215 45 = some (.aload_n 0, 1)) rfl).trans ?_
  refine (px_get2 (idx := 87) (ci := 12) (k := 25) (by decide +kernel)).trans ((and_iff_right h1).trans ?_)
  refine (px_go (by decide +kernel : pm_fe 215 49 = some (.iload_n 1, 1)) rfl).trans ?_
  refine (px_go (by decide +kernel : pm_fe 215 50 = some (.aload_n 0, 1)) rfl).trans ?_
  refine (px_go (by decide +kernel : pm_fe 215 51 = some (.iconst 1, 1)) rfl).trans ?_
  refine (px_v1 (idx := 400) (m' := 211) (ci := 12) (by decide +kernel)).trans ((and_iff_right ⟨h1, (by simp [pm_wl_n, pm_wl_c, pm_w] : pm_wl [.inl ((16 * (M l0.toNat 42)) + (M (T l0.toNat 24).toNat (pm_sg (M l0.toNat 42)).toNat)), .inr (.inr (.inl (T l0.toNat 25)))] ≤ 8)⟩).trans ?_)
  exact Iff.rfl
theorem b215_55 {d : Nat} {G : PG} {M T : PH} {K : PV → PS → Prop} {l0 l1 s0 s1 s2 : Int} (h1 : pm_ar G s2 100 s1) (h2 : pm_ob G l0 12) : pm_Run d 215 55 [.inr (.inr (.inl l0)), .inl l1] [.inl s0, .inl s1, .inr (.inr (.inl s2))] (G, M, T) K ↔ pm_Call d 210 [.inr (.inr (.inl l0)), .inl 1] (G, pm_sa M s2.toNat (pm_up (M s2.toNat) (pm_sg s1).toNat s0), T) (fun r S1 => pm_Run d 215 66 [.inr (.inr (.inl l0)), .inl l1] (pm_push r [.inl l1, .inr (.inr (.inl (T l0.toNat 26)))]) S1 K) := by
  refine (px_iastore (by decide +kernel)).trans ((and_iff_right h1).trans ?_)
  refine (px_go (by decide +kernel : pm_fe 215 56 = some (.aload_n 0, 1)) rfl).trans ?_
  refine (px_get2 (idx := 90) (ci := 12) (k := 26) (by decide +kernel)).trans ((and_iff_right h2).trans ?_)
  refine (px_go (by decide +kernel : pm_fe 215 60 = some (.iload_n 1, 1)) rfl).trans ?_
  refine (px_go (by decide +kernel : pm_fe 215 61 = some (.aload_n 0, 1)) rfl).trans ?_
  refine (px_go (by decide +kernel : pm_fe 215 62 = some (.iconst 1, 1)) rfl).trans ?_
  refine (px_v1 (idx := 382) (m' := 210) (ci := 12) (by decide +kernel)).trans ((and_iff_right ⟨h2, (by simp [pm_wl_n, pm_wl_c, pm_w] : pm_wl [.inl l1, .inr (.inr (.inl (T l0.toNat 26)))] ≤ 8)⟩).trans ?_)
  exact Iff.rfl
theorem b215_66 {d : Nat} {G : PG} {M T : PH} {K : PV → PS → Prop} {l0 l1 s0 s1 s2 : Int} (h1 : pm_ar G s2 100 s1) (h2 : pm_ob G l0 12) : pm_Run d 215 66 [.inr (.inr (.inl l0)), .inl l1] [.inl s0, .inl s1, .inr (.inr (.inl s2))] (G, M, T) K ↔ if pm_sg ((pm_sa M s2.toNat (pm_up (M s2.toNat) (pm_sg s1).toNat s0)) l0.toNat 8) ≠ 0 then pm_Run d 215 98 [.inr (.inr (.inl l0)), .inl l1] [] (G, pm_sa M s2.toNat (pm_up (M s2.toNat) (pm_sg s1).toNat s0), T) K else pm_Run d 215 74 [.inr (.inr (.inl l0)), .inl l1] [] (G, pm_sa M s2.toNat (pm_up (M s2.toNat) (pm_sg s1).toNat s0), T) K := by
  refine (px_iastore (by decide +kernel)).trans ((and_iff_right h1).trans ?_)
  refine (px_go (by decide +kernel : pm_fe 215 67 = some (.aload_n 0, 1)) rfl).trans ?_
  refine (px_get0 (idx := 36) (ci := 12) (k := 8) (by decide +kernel)).trans ((and_iff_right h2).trans ?_)
  refine (px_if_ne (off := 27) (tgt := 98) (by decide +kernel)).trans ?_
  exact Iff.rfl
theorem b215_74 {d : Nat} {G : PG} {M T : PH} {K : PV → PS → Prop} {l0 l1 : Int} (h1 : pm_ob G l0 12) (h2 : pm_ar G (T l0.toNat 25) 100 l1) (h3 : pm_ar G (T l0.toNat 26) 100 l1) : pm_Run d 215 74 [.inr (.inr (.inl l0)), .inl l1] [] (G, M, T) K ↔ if pm_sg (M (T l0.toNat 25).toNat (pm_sg l1).toNat) ≠ pm_sg (M (T l0.toNat 26).toNat (pm_sg l1).toNat) then pm_Run d 215 98 [.inr (.inr (.inl l0)), .inl l1] [] (G, M, T) K else pm_Run d 215 89 [.inr (.inr (.inl l0)), .inl l1] [] (G, M, T) K := by
  refine (px_go (by decide +kernel : pm_fe 215 74 = some (.aload_n 0, 1)) rfl).trans ?_
  refine (px_get2 (idx := 87) (ci := 12) (k := 25) (by decide +kernel)).trans ((and_iff_right h1).trans ?_)
  refine (px_go (by decide +kernel : pm_fe 215 78 = some (.iload_n 1, 1)) rfl).trans ?_
  refine (px_iaload (by decide +kernel) h2).trans ?_
  refine (px_go (by decide +kernel : pm_fe 215 80 = some (.aload_n 0, 1)) rfl).trans ?_
  refine (px_get2 (idx := 90) (ci := 12) (k := 26) (by decide +kernel)).trans ((and_iff_right h1).trans ?_)
  refine (px_go (by decide +kernel : pm_fe 215 84 = some (.iload_n 1, 1)) rfl).trans ?_
  refine (px_iaload (by decide +kernel) h3).trans ?_
  refine (px_ic_ne (off := 12) (tgt := 98) (by decide +kernel)).trans ?_
  exact Iff.rfl
theorem b215_89 {d : Nat} {G : PG} {M T : PH} {K : PV → PS → Prop} {l0 l1 : Int} (h1 : pm_ob G l0 12) : pm_Run d 215 89 [.inr (.inr (.inl l0)), .inl l1] [] (G, M, T) K ↔ pm_Call d 183 [.inr (.inr (.inl l0)), .inl 3, .inl (M l0.toNat 4)] (G, M, T) (fun r S1 => pm_Run d 215 98 [.inr (.inr (.inl l0)), .inl l1] (pm_push r []) S1 K) := by
  refine (px_go (by decide +kernel : pm_fe 215 89 = some (.aload_n 0, 1)) rfl).trans ?_
  refine (px_go (by decide +kernel : pm_fe 215 90 = some (.iconst 3, 1)) rfl).trans ?_
  refine (px_go (by decide +kernel : pm_fe 215 91 = some (.aload_n 0, 1)) rfl).trans ?_
  refine (px_get0 (idx := 23) (ci := 12) (k := 4) (by decide +kernel)).trans ((and_iff_right h1).trans ?_)
  refine (px_v2 (idx := 251) (m' := 183) (ci := 12) (by decide +kernel)).trans ((and_iff_right ⟨h1, (by simp [pm_wl_n, pm_wl_c, pm_w] : pm_wl [] ≤ 8)⟩).trans ?_)
  exact Iff.rfl
theorem b215_98 {d : Nat} {G : PG} {M T : PH} {K : PV → PS → Prop} {l0 l1 : Int} (h1 : pm_ob G l0 12) : pm_Run d 215 98 [.inr (.inr (.inl l0)), .inl l1] [] (G, M, T) K ↔ if pm_sg (M l0.toNat 8) ≤ 0 then pm_Run d 215 106 [.inr (.inr (.inl l0)), .inl l1] [] (G, M, T) K else pm_Run d 215 105 [.inr (.inr (.inl l0)), .inl l1] [] (G, M, T) K := by
  refine (px_go (by decide +kernel : pm_fe 215 98 = some (.aload_n 0, 1)) rfl).trans ?_
  refine (px_get0 (idx := 36) (ci := 12) (k := 8) (by decide +kernel)).trans ((and_iff_right h1).trans ?_)
  refine (px_if_le (off := 4) (tgt := 106) (by decide +kernel)).trans ?_
  exact Iff.rfl
theorem b215_105 {d : Nat} {G : PG} {M T : PH} {K : PV → PS → Prop} {l0 l1 : Int} : pm_Run d 215 105 [.inr (.inr (.inl l0)), .inl l1] [] (G, M, T) K ↔ K PU (G, M, T) := by
  refine (px_rv (by decide +kernel)).trans ?_
  exact Iff.rfl
theorem b215_106 {d : Nat} {G : PG} {M T : PH} {K : PV → PS → Prop} {l0 l1 : Int} (h1 : pm_ob G l0 12) : pm_Run d 215 106 [.inr (.inr (.inl l0)), .inl l1] [] (G, M, T) K ↔ pm_Call d 187 [.inr (.inr (.inl l0))] (G, M, T) (fun r S1 => pm_Run d 215 110 [.inr (.inr (.inl l0)), .inl l1] (pm_push r []) S1 K) := by
  refine (px_go (by decide +kernel : pm_fe 215 106 = some (.aload_n 0, 1)) rfl).trans ?_
  refine (px_v0 (idx := 268) (m' := 187) (ci := 12) (by decide +kernel)).trans ((and_iff_right ⟨h1, (by simp [pm_wl_n, pm_wl_c, pm_w] : pm_wl [] ≤ 8)⟩).trans ?_)
  exact Iff.rfl
theorem b215_110 {d : Nat} {G : PG} {M T : PH} {K : PV → PS → Prop} {l0 l1 : Int} (h1 : pm_ob G l0 12) : pm_Run d 215 110 [.inr (.inr (.inl l0)), .inl l1] [] (G, M, T) K ↔ pm_Call d 196 [.inr (.inr (.inl l0)), .inl 1, .inl 999] (G, M, T) (fun r S1 => pm_Run d 215 123 [.inr (.inr (.inl l0)), .inl l1] (pm_push r [.inl l1, .inr (.inr (.inl (T l0.toNat 27)))]) S1 K) := by
  refine (px_go (by decide +kernel : pm_fe 215 110 = some (.aload_n 0, 1)) rfl).trans ?_
  refine (px_get2 (idx := 93) (ci := 12) (k := 27) (by decide +kernel)).trans ((and_iff_right h1).trans ?_)
  refine (px_go (by decide +kernel : pm_fe 215 114 = some (.iload_n 1, 1)) rfl).trans ?_
  refine (px_go (by decide +kernel : pm_fe 215 115 = some (.aload_n 0, 1)) rfl).trans ?_
  refine (px_go (by decide +kernel : pm_fe 215 116 = some (.iconst 1, 1)) rfl).trans ?_
  refine (px_go (by decide +kernel : pm_fe 215 117 = some (.sipush 999, 3)) rfl).trans ?_
  refine (px_v2 (idx := 397) (m' := 196) (ci := 12) (by decide +kernel)).trans ((and_iff_right ⟨h1, (by simp [pm_wl_n, pm_wl_c, pm_w] : pm_wl [.inl l1, .inr (.inr (.inl (T l0.toNat 27)))] ≤ 8)⟩).trans ?_)
  exact Iff.rfl
theorem b215_123 {d : Nat} {G : PG} {M T : PH} {K : PV → PS → Prop} {l0 l1 s0 s1 s2 : Int} (h1 : pm_ar G s2 100 s1) (h2 : pm_ob G l0 12) : pm_Run d 215 123 [.inr (.inr (.inl l0)), .inl l1] [.inl s0, .inl s1, .inr (.inr (.inl s2))] (G, M, T) K ↔ if pm_sg ((pm_sa M s2.toNat (pm_up (M s2.toNat) (pm_sg s1).toNat s0)) l0.toNat 8) ≠ 0 then pm_Run d 215 144 [.inr (.inr (.inl l0)), .inl l1] [] (G, pm_sa M s2.toNat (pm_up (M s2.toNat) (pm_sg s1).toNat s0), T) K else pm_Run d 215 131 [.inr (.inr (.inl l0)), .inl l1] [] (G, pm_sa M s2.toNat (pm_up (M s2.toNat) (pm_sg s1).toNat s0), T) K := by
  refine (px_iastore (by decide +kernel)).trans ((and_iff_right h1).trans ?_)
  refine (px_go (by decide +kernel : pm_fe 215 124 = some (.aload_n 0, 1)) rfl).trans ?_
  refine (px_get0 (idx := 36) (ci := 12) (k := 8) (by decide +kernel)).trans ((and_iff_right h2).trans ?_)
  refine (px_if_ne (off := 16) (tgt := 144) (by decide +kernel)).trans ?_
  exact Iff.rfl
theorem b215_131 {d : Nat} {G : PG} {M T : PH} {K : PV → PS → Prop} {l0 l1 : Int} (h1 : pm_ob G l0 12) (h2 : pm_ar G (T l0.toNat 24) 100 (M l0.toNat 42)) : pm_Run d 215 131 [.inr (.inr (.inl l0)), .inl l1] [] (G, M, T) K ↔ pm_Run d 215 144 [.inr (.inr (.inl l0)), .inl l1] [] (G, pm_sa M (T l0.toNat 24).toNat (pm_up (M (T l0.toNat 24).toNat) (pm_sg (M l0.toNat 42)).toNat ((M (T l0.toNat 24).toNat (pm_sg (M l0.toNat 42)).toNat) + 1)), T) K := by
  refine (px_go (by decide +kernel : pm_fe 215 131 = some (.aload_n 0, 1)) rfl).trans ?_
  refine (px_get2 (idx := 84) (ci := 12) (k := 24) (by decide +kernel)).trans ((and_iff_right h1).trans ?_)
  refine (px_go (by decide +kernel : pm_fe 215 135 = some (.aload_n 0, 1)) rfl).trans ?_
  refine (px_get0 (idx := 139) (ci := 12) (k := 42) (by decide +kernel)).trans ((and_iff_right h1).trans ?_)
  refine (px_go (by decide +kernel : pm_fe 215 139 = some (.dup2, 1)) rfl).trans ?_
  refine (px_iaload (by decide +kernel) h2).trans ?_
  refine (px_go (by decide +kernel : pm_fe 215 141 = some (.iconst 1, 1)) rfl).trans ?_
  refine (px_go (by decide +kernel : pm_fe 215 142 = some (.iadd, 1)) rfl).trans ?_
  refine (px_iastore (by decide +kernel)).trans ((and_iff_right h2).trans ?_)
  exact Iff.rfl
theorem b215_144 {d : Nat} {G : PG} {M T : PH} {K : PV → PS → Prop} {l0 l1 : Int} : pm_Run d 215 144 [.inr (.inr (.inl l0)), .inl l1] [] (G, M, T) K ↔ K PU (G, M, T) := by
  refine (px_rv (by decide +kernel)).trans ?_
  exact Iff.rfl
-- X12_clausing clausing()V
theorem en216 {d : Nat} {a : Int} {S : PS} {K : PV → PS → Prop} : pm_Call (d + 1) 216 [.inr (.inr (.inl a))] S K ↔ pm_Run d 216 0 [.inr (.inr (.inl a)), PU] [] S K := pm_Call_s.trans (and_iff_right (show 1 ≤ pm_ml 216 from by decide +kernel))
theorem b216_0 {d : Nat} {G : PG} {M T : PH} {K : PV → PS → Prop} {l0 : Int} (h1 : pm_ob G l0 12) (h2 : pm_ar G (T l0.toNat 28) 100 (M l0.toNat 42)) : pm_Run d 216 0 [.inr (.inr (.inl l0)), PU] [] (G, M, T) K ↔ if pm_sg (M (T l0.toNat 28).toNat (pm_sg (M l0.toNat 42)).toNat) ≠ pm_sg 6 then pm_Run d 216 19 [.inr (.inr (.inl l0)), PU] [.inr (.inr (.inl l0))] (G, M, T) K else pm_Run d 216 15 [.inr (.inr (.inl l0)), PU] [.inr (.inr (.inl l0))] (G, M, T) K := by
  refine (px_go (by decide +kernel : pm_fe 216 0 = some (.aload_n 0, 1)) rfl).trans ?_
  refine (px_go (by decide +kernel : pm_fe 216 1 = some (.aload_n 0, 1)) rfl).trans ?_
  refine (px_get2 (idx := 96) (ci := 12) (k := 28) (by decide +kernel)).trans ((and_iff_right h1).trans ?_)
  refine (px_go (by decide +kernel : pm_fe 216 5 = some (.aload_n 0, 1)) rfl).trans ?_
  refine (px_get0 (idx := 139) (ci := 12) (k := 42) (by decide +kernel)).trans ((and_iff_right h1).trans ?_)
  refine (px_iaload (by decide +kernel) h2).trans ?_
  refine (px_go (by decide +kernel : pm_fe 216 10 = some (.bipush 6, 2)) rfl).trans ?_
  refine (px_ic_ne (off := 7) (tgt := 19) (by decide +kernel)).trans ?_
  exact Iff.rfl
theorem b216_15 {d : Nat} {G : PG} {M T : PH} {K : PV → PS → Prop} {l0 s0 : Int} : pm_Run d 216 15 [.inr (.inr (.inl l0)), PU] [.inr (.inr (.inl s0))] (G, M, T) K ↔ pm_Run d 216 20 [.inr (.inr (.inl l0)), PU] [.inl 1, .inr (.inr (.inl s0))] (G, M, T) K := by
  refine (px_go (by decide +kernel : pm_fe 216 15 = some (.iconst 1, 1)) rfl).trans ?_
  refine (px_goto (off := 4) (tgt := 20) (by decide +kernel)).trans ?_
  exact Iff.rfl
theorem b216_19 {d : Nat} {G : PG} {M T : PH} {K : PV → PS → Prop} {l0 s0 : Int} : pm_Run d 216 19 [.inr (.inr (.inl l0)), PU] [.inr (.inr (.inl s0))] (G, M, T) K ↔ pm_Run d 216 20 [.inr (.inr (.inl l0)), PU] [.inl 0, .inr (.inr (.inl s0))] (G, M, T) K := by
  refine (px_go (by decide +kernel : pm_fe 216 19 = some (.iconst 0, 1)) rfl).trans ?_
  exact Iff.rfl
theorem b216_20 {d : Nat} {G : PG} {M T : PH} {K : PV → PS → Prop} {l0 s0 s1 : Int} (h1 : pm_ob G s1 12) : pm_Run d 216 20 [.inr (.inr (.inl l0)), PU] [.inl s0, .inr (.inr (.inl s1))] (G, M, T) K ↔ pm_Call d 207 [.inr (.inr (.inl s1)), .inl s0] (G, M, T) (fun r S1 => pm_Run d 216 23 [.inr (.inr (.inl l0)), PU] (pm_push r []) S1 K) := by
  refine (px_v1 (idx := 385) (m' := 207) (ci := 12) (by decide +kernel)).trans ((and_iff_right ⟨h1, (by simp [pm_wl_n, pm_wl_c, pm_w] : pm_wl [] ≤ 8)⟩).trans ?_)
  exact Iff.rfl
theorem b216_23 {d : Nat} {G : PG} {M T : PH} {K : PV → PS → Prop} {l0 s0 : Int} : pm_Run d 216 23 [.inr (.inr (.inl l0)), PU] [.inl s0] (G, M, T) K ↔ if pm_sg s0 ≠ 0 then pm_Run d 216 27 [.inr (.inr (.inl l0)), PU] [] (G, M, T) K else pm_Run d 216 26 [.inr (.inr (.inl l0)), PU] [] (G, M, T) K := by
  refine (px_if_ne (off := 4) (tgt := 27) (by decide +kernel)).trans ?_
  exact Iff.rfl
theorem b216_26 {d : Nat} {G : PG} {M T : PH} {K : PV → PS → Prop} {l0 : Int} : pm_Run d 216 26 [.inr (.inr (.inl l0)), PU] [] (G, M, T) K ↔ K PU (G, M, T) := by
  refine (px_rv (by decide +kernel)).trans ?_
  exact Iff.rfl
theorem b216_27 {d : Nat} {G : PG} {M T : PH} {K : PV → PS → Prop} {l0 : Int} (h1 : pm_ob G l0 12) (h2 : pm_ar G (T l0.toNat 28) 100 (M l0.toNat 42)) (h3 : pm_ar G (T l0.toNat 29) 100 ((6 * (M l0.toNat 42)) + (M (T l0.toNat 28).toNat (pm_sg (M l0.toNat 42)).toNat))) : pm_Run d 216 27 [.inr (.inr (.inl l0)), PU] [] (G, M, T) K ↔ pm_Call d 206 [.inr (.inr (.inl l0)), .inl 1] (G, pm_sa M (T l0.toNat 29).toNat (pm_up (M (T l0.toNat 29).toNat) (pm_sg ((6 * (M l0.toNat 42)) + (M (T l0.toNat 28).toNat (pm_sg (M l0.toNat 42)).toNat))).toNat (M l0.toNat 41)), T) (fun r S1 => pm_Run d 216 60 [.inr (.inr (.inl l0)), .inl ((6 * (M l0.toNat 42)) + (M (T l0.toNat 28).toNat (pm_sg (M l0.toNat 42)).toNat))] (pm_push r []) S1 K) := by
  refine (px_go (by decide +kernel : pm_fe 216 27 = some (.bipush 6, 2)) rfl).trans ?_
  refine (px_go (by decide +kernel : pm_fe 216 29 = some (.aload_n 0, 1)) rfl).trans ?_
  refine (px_get0 (idx := 139) (ci := 12) (k := 42) (by decide +kernel)).trans ((and_iff_right h1).trans ?_)
  refine (px_go (by decide +kernel : pm_fe 216 33 = some (.imul, 1)) rfl).trans ?_
  refine (px_go (by decide +kernel : pm_fe 216 34 = some (.aload_n 0, 1)) rfl).trans ?_
  refine (px_get2 (idx := 96) (ci := 12) (k := 28) (by decide +kernel)).trans ((and_iff_right h1).trans ?_)
  refine (px_go (by decide +kernel : pm_fe 216 38 = some (.aload_n 0, 1)) rfl).trans ?_
  refine (px_get0 (idx := 139) (ci := 12) (k := 42) (by decide +kernel)).trans ((and_iff_right h1).trans ?_)
  refine (px_iaload (by decide +kernel) h2).trans ?_
  refine (px_go (by decide +kernel : pm_fe 216 43 = some (.iadd, 1)) rfl).trans ?_
  refine (px_go (by decide +kernel : pm_fe 216 44 = some (.istore_n 1, 1)) rfl).trans ?_
  refine (px_go (by decide +kernel : pm_fe 216 45 = some (.aload_n 0, 1)) rfl).trans ?_
  refine (px_get2 (idx := 99) (ci := 12) (k := 29) (by decide +kernel)).trans ((and_iff_right h1).trans ?_)
  refine (px_go (by decide +kernel : pm_fe 216 49 = some (.iload_n 1, 1)) rfl).trans ?_
  refine (px_go (by decide +kernel : pm_fe 216 50 = some (.aload_n 0, 1)) rfl).trans ?_
  refine (px_get0 (idx := 136) (ci := 12) (k := 41) (by decide +kernel)).trans ((and_iff_right h1).trans ?_)
  refine (px_iastore (by decide +kernel)).trans ((and_iff_right h3).trans ?_)
  refine (px_go (by decide +kernel : pm_fe 216 55 = some (.aload_n 0, 1)) rfl).trans ?_
  refine (px_go (by decide +kernel : pm_fe 216 56 = some (.iconst 1, 1)) rfl).trans ?_
  refine (px_v1 (idx := 403) (m' := 206) (ci := 12) (by decide +kernel)).trans ((and_iff_right ⟨h1, (by simp [pm_wl_n, pm_wl_c, pm_w] : pm_wl [] ≤ 8)⟩).trans ?_)
  exact Iff.rfl
theorem b216_60 {d : Nat} {G : PG} {M T : PH} {K : PV → PS → Prop} {l0 l1 : Int} (h1 : pm_ob G l0 12) (h2 : pm_ar G (T l0.toNat 30) 100 l1) : pm_Run d 216 60 [.inr (.inr (.inl l0)), .inl l1] [] (G, M, T) K ↔ if pm_sg ((pm_sa M (T l0.toNat 30).toNat (pm_up (M (T l0.toNat 30).toNat) (pm_sg l1).toNat (M l0.toNat 41))) l0.toNat 8) ≠ 0 then pm_Run d 216 90 [.inr (.inr (.inl l0)), .inl l1] [] (G, pm_sa M (T l0.toNat 30).toNat (pm_up (M (T l0.toNat 30).toNat) (pm_sg l1).toNat (M l0.toNat 41)), T) K else pm_Run d 216 77 [.inr (.inr (.inl l0)), .inl l1] [] (G, pm_sa M (T l0.toNat 30).toNat (pm_up (M (T l0.toNat 30).toNat) (pm_sg l1).toNat (M l0.toNat 41)), T) K := by
  refine (px_go (by decide +kernel : pm_fe 216 60 = some (.aload_n 0, 1)) rfl).trans ?_
  refine (px_get2 (idx := 102) (ci := 12) (k := 30) (by decide +kernel)).trans ((and_iff_right h1).trans ?_)
  refine (px_go (by decide +kernel : pm_fe 216 64 = some (.iload_n 1, 1)) rfl).trans ?_
  refine (px_go (by decide +kernel : pm_fe 216 65 = some (.aload_n 0, 1)) rfl).trans ?_
  refine (px_get0 (idx := 136) (ci := 12) (k := 41) (by decide +kernel)).trans ((and_iff_right h1).trans ?_)
  refine (px_iastore (by decide +kernel)).trans ((and_iff_right h2).trans ?_)
  refine (px_go (by decide +kernel : pm_fe 216 70 = some (.aload_n 0, 1)) rfl).trans ?_
  refine (px_get0 (idx := 36) (ci := 12) (k := 8) (by decide +kernel)).trans ((and_iff_right h1).trans ?_)
  refine (px_if_ne (off := 16) (tgt := 90) (by decide +kernel)).trans ?_
  exact Iff.rfl
theorem b216_77 {d : Nat} {G : PG} {M T : PH} {K : PV → PS → Prop} {l0 l1 : Int} (h1 : pm_ob G l0 12) (h2 : pm_ar G (T l0.toNat 28) 100 (M l0.toNat 42)) : pm_Run d 216 77 [.inr (.inr (.inl l0)), .inl l1] [] (G, M, T) K ↔ pm_Run d 216 90 [.inr (.inr (.inl l0)), .inl l1] [] (G, pm_sa M (T l0.toNat 28).toNat (pm_up (M (T l0.toNat 28).toNat) (pm_sg (M l0.toNat 42)).toNat ((M (T l0.toNat 28).toNat (pm_sg (M l0.toNat 42)).toNat) + 1)), T) K := by
  refine (px_go (by decide +kernel : pm_fe 216 77 = some (.aload_n 0, 1)) rfl).trans ?_
  refine (px_get2 (idx := 96) (ci := 12) (k := 28) (by decide +kernel)).trans ((and_iff_right h1).trans ?_)
  refine (px_go (by decide +kernel : pm_fe 216 81 = some (.aload_n 0, 1)) rfl).trans ?_
  refine (px_get0 (idx := 139) (ci := 12) (k := 42) (by decide +kernel)).trans ((and_iff_right h1).trans ?_)
  refine (px_go (by decide +kernel : pm_fe 216 85 = some (.dup2, 1)) rfl).trans ?_
  refine (px_iaload (by decide +kernel) h2).trans ?_
  refine (px_go (by decide +kernel : pm_fe 216 87 = some (.iconst 1, 1)) rfl).trans ?_
  refine (px_go (by decide +kernel : pm_fe 216 88 = some (.iadd, 1)) rfl).trans ?_
  refine (px_iastore (by decide +kernel)).trans ((and_iff_right h2).trans ?_)
  exact Iff.rfl
theorem b216_90 {d : Nat} {G : PG} {M T : PH} {K : PV → PS → Prop} {l0 l1 : Int} : pm_Run d 216 90 [.inr (.inr (.inl l0)), .inl l1] [] (G, M, T) K ↔ K PU (G, M, T) := by
  refine (px_rv (by decide +kernel)).trans ?_
  exact Iff.rfl
-- X12_pulling pulling()V
theorem en217 {d : Nat} {a : Int} {S : PS} {K : PV → PS → Prop} : pm_Call (d + 1) 217 [.inr (.inr (.inl a))] S K ↔ pm_Run d 217 0 [.inr (.inr (.inl a))] [] S K := pm_Call_s.trans (and_iff_right (show 1 ≤ pm_ml 217 from by decide +kernel))
theorem b217_0 {d : Nat} {G : PG} {M T : PH} {K : PV → PS → Prop} {l0 : Int} (h1 : pm_ob G l0 12) (h2 : pm_ar G (T l0.toNat 31) 100 (M l0.toNat 42)) : pm_Run d 217 0 [.inr (.inr (.inl l0))] [] (G, M, T) K ↔ if pm_sg (M (T l0.toNat 31).toNat (pm_sg (M l0.toNat 42)).toNat) = pm_sg (-1) then pm_Run d 217 18 [.inr (.inr (.inl l0))] [.inr (.inr (.inl l0))] (G, M, T) K else pm_Run d 217 14 [.inr (.inr (.inl l0))] [.inr (.inr (.inl l0))] (G, M, T) K := by
  refine (px_go (by decide +kernel : pm_fe 217 0 = some (.aload_n 0, 1)) rfl).trans ?_
  refine (px_go (by decide +kernel : pm_fe 217 1 = some (.aload_n 0, 1)) rfl).trans ?_
  refine (px_get2 (idx := 105) (ci := 12) (k := 31) (by decide +kernel)).trans ((and_iff_right h1).trans ?_)
  refine (px_go (by decide +kernel : pm_fe 217 5 = some (.aload_n 0, 1)) rfl).trans ?_
  refine (px_get0 (idx := 139) (ci := 12) (k := 42) (by decide +kernel)).trans ((and_iff_right h1).trans ?_)
  refine (px_iaload (by decide +kernel) h2).trans ?_
  refine (px_go (by decide +kernel : pm_fe 217 10 = some (.iconst (-1), 1)) rfl).trans ?_
  refine (px_ic_eq (off := 7) (tgt := 18) (by decide +kernel)).trans ?_
  exact Iff.rfl
theorem b217_14 {d : Nat} {G : PG} {M T : PH} {K : PV → PS → Prop} {l0 s0 : Int} : pm_Run d 217 14 [.inr (.inr (.inl l0))] [.inr (.inr (.inl s0))] (G, M, T) K ↔ pm_Run d 217 19 [.inr (.inr (.inl l0))] [.inl 1, .inr (.inr (.inl s0))] (G, M, T) K := by
  refine (px_go (by decide +kernel : pm_fe 217 14 = some (.iconst 1, 1)) rfl).trans ?_
  refine (px_goto (off := 4) (tgt := 19) (by decide +kernel)).trans ?_
  exact Iff.rfl
theorem b217_18 {d : Nat} {G : PG} {M T : PH} {K : PV → PS → Prop} {l0 s0 : Int} : pm_Run d 217 18 [.inr (.inr (.inl l0))] [.inr (.inr (.inl s0))] (G, M, T) K ↔ pm_Run d 217 19 [.inr (.inr (.inl l0))] [.inl 0, .inr (.inr (.inl s0))] (G, M, T) K := by
  refine (px_go (by decide +kernel : pm_fe 217 18 = some (.iconst 0, 1)) rfl).trans ?_
  exact Iff.rfl
theorem b217_19 {d : Nat} {G : PG} {M T : PH} {K : PV → PS → Prop} {l0 s0 s1 : Int} (h1 : pm_ob G s1 12) : pm_Run d 217 19 [.inr (.inr (.inl l0))] [.inl s0, .inr (.inr (.inl s1))] (G, M, T) K ↔ pm_Call d 207 [.inr (.inr (.inl s1)), .inl s0] (G, M, T) (fun r S1 => pm_Run d 217 22 [.inr (.inr (.inl l0))] (pm_push r []) S1 K) := by
  refine (px_v1 (idx := 385) (m' := 207) (ci := 12) (by decide +kernel)).trans ((and_iff_right ⟨h1, (by simp [pm_wl_n, pm_wl_c, pm_w] : pm_wl [] ≤ 8)⟩).trans ?_)
  exact Iff.rfl
theorem b217_22 {d : Nat} {G : PG} {M T : PH} {K : PV → PS → Prop} {l0 s0 : Int} : pm_Run d 217 22 [.inr (.inr (.inl l0))] [.inl s0] (G, M, T) K ↔ if pm_sg s0 ≠ 0 then pm_Run d 217 26 [.inr (.inr (.inl l0))] [] (G, M, T) K else pm_Run d 217 25 [.inr (.inr (.inl l0))] [] (G, M, T) K := by
  refine (px_if_ne (off := 4) (tgt := 26) (by decide +kernel)).trans ?_
  exact Iff.rfl
theorem b217_25 {d : Nat} {G : PG} {M T : PH} {K : PV → PS → Prop} {l0 : Int} : pm_Run d 217 25 [.inr (.inr (.inl l0))] [] (G, M, T) K ↔ K PU (G, M, T) := by
  refine (px_rv (by decide +kernel)).trans ?_
  exact Iff.rfl
theorem b217_26 {d : Nat} {G : PG} {M T : PH} {K : PV → PS → Prop} {l0 : Int} (h1 : pm_ob G l0 12) (h2 : pm_ar G (T l0.toNat 31) 100 (M l0.toNat 42)) : pm_Run d 217 26 [.inr (.inr (.inl l0))] [] (G, M, T) K ↔ pm_Call d 206 [.inr (.inr (.inl l0)), .inl 0] (G, pm_sa M (T l0.toNat 31).toNat (pm_up (M (T l0.toNat 31).toNat) (pm_sg (M l0.toNat 42)).toNat (M l0.toNat 41)), T) (fun r S1 => pm_Run d 217 44 [.inr (.inr (.inl l0))] (pm_push r []) S1 K) := by
  refine (px_go (by decide +kernel : pm_fe 217 26 = some (.aload_n 0, 1)) rfl).trans ?_
  refine (px_get2 (idx := 105) (ci := 12) (k := 31) (by decide +kernel)).trans ((and_iff_right h1).trans ?_)
  refine (px_go (by decide +kernel : pm_fe 217 30 = some (.aload_n 0, 1)) rfl).trans ?_
  refine (px_get0 (idx := 139) (ci := 12) (k := 42) (by decide +kernel)).trans ((and_iff_right h1).trans ?_)
  refine (px_go (by decide +kernel : pm_fe 217 34 = some (.aload_n 0, 1)) rfl).trans ?_
  refine (px_get0 (idx := 136) (ci := 12) (k := 41) (by decide +kernel)).trans ((and_iff_right h1).trans ?_)
  refine (px_iastore (by decide +kernel)).trans ((and_iff_right h2).trans ?_)
  refine (px_go (by decide +kernel : pm_fe 217 39 = some (.aload_n 0, 1)) rfl).trans ?_
  refine (px_go (by decide +kernel : pm_fe 217 40 = some (.iconst 0, 1)) rfl).trans ?_
  refine (px_v1 (idx := 403) (m' := 206) (ci := 12) (by decide +kernel)).trans ((and_iff_right ⟨h1, (by simp [pm_wl_n, pm_wl_c, pm_w] : pm_wl [] ≤ 8)⟩).trans ?_)
  exact Iff.rfl
theorem b217_44 {d : Nat} {G : PG} {M T : PH} {K : PV → PS → Prop} {l0 : Int} (h1 : pm_ob G l0 12) (h2 : pm_ar G (T l0.toNat 32) 100 (M l0.toNat 42)) : pm_Run d 217 44 [.inr (.inr (.inl l0))] [] (G, M, T) K ↔ K PU (G, pm_sa M (T l0.toNat 32).toNat (pm_up (M (T l0.toNat 32).toNat) (pm_sg (M l0.toNat 42)).toNat (M l0.toNat 41)), T) := by
  refine (px_go (by decide +kernel : pm_fe 217 44 = some (.aload_n 0, 1)) rfl).trans ?_
  refine (px_get2 (idx := 108) (ci := 12) (k := 32) (by decide +kernel)).trans ((and_iff_right h1).trans ?_)
  refine (px_go (by decide +kernel : pm_fe 217 48 = some (.aload_n 0, 1)) rfl).trans ?_
  refine (px_get0 (idx := 139) (ci := 12) (k := 42) (by decide +kernel)).trans ((and_iff_right h1).trans ?_)
  refine (px_go (by decide +kernel : pm_fe 217 52 = some (.aload_n 0, 1)) rfl).trans ?_
  refine (px_get0 (idx := 136) (ci := 12) (k := 41) (by decide +kernel)).trans ((and_iff_right h1).trans ?_)
  refine (px_iastore (by decide +kernel)).trans ((and_iff_right h2).trans ?_)
  refine (px_rv (by decide +kernel)).trans ?_
  exact Iff.rfl
-- X12_earning earning()V
theorem en218 {d : Nat} {a : Int} {S : PS} {K : PV → PS → Prop} : pm_Call (d + 1) 218 [.inr (.inr (.inl a))] S K ↔ pm_Run d 218 0 [.inr (.inr (.inl a))] [] S K := pm_Call_s.trans (and_iff_right (show 1 ≤ pm_ml 218 from by decide +kernel))
theorem b218_0 {d : Nat} {G : PG} {M T : PH} {K : PV → PS → Prop} {l0 : Int} (h1 : pm_ob G l0 12) (h2 : pm_ar G (T l0.toNat 33) 100 (M l0.toNat 42)) : pm_Run d 218 0 [.inr (.inr (.inl l0))] [] (G, M, T) K ↔ if pm_sg (M (T l0.toNat 33).toNat (pm_sg (M l0.toNat 42)).toNat) = pm_sg (-1) then pm_Run d 218 18 [.inr (.inr (.inl l0))] [.inr (.inr (.inl l0))] (G, M, T) K else pm_Run d 218 14 [.inr (.inr (.inl l0))] [.inr (.inr (.inl l0))] (G, M, T) K := by
  refine (px_go (by decide +kernel : pm_fe 218 0 = some (.aload_n 0, 1)) rfl).trans ?_
  refine (px_go (by decide +kernel : pm_fe 218 1 = some (.aload_n 0, 1)) rfl).trans ?_
  refine (px_get2 (idx := 111) (ci := 12) (k := 33) (by decide +kernel)).trans ((and_iff_right h1).trans ?_)
  refine (px_go (by decide +kernel : pm_fe 218 5 = some (.aload_n 0, 1)) rfl).trans ?_
  refine (px_get0 (idx := 139) (ci := 12) (k := 42) (by decide +kernel)).trans ((and_iff_right h1).trans ?_)
  refine (px_iaload (by decide +kernel) h2).trans ?_
  refine (px_go (by decide +kernel : pm_fe 218 10 = some (.iconst (-1), 1)) rfl).trans ?_
  refine (px_ic_eq (off := 7) (tgt := 18) (by decide +kernel)).trans ?_
  exact Iff.rfl
theorem b218_14 {d : Nat} {G : PG} {M T : PH} {K : PV → PS → Prop} {l0 s0 : Int} : pm_Run d 218 14 [.inr (.inr (.inl l0))] [.inr (.inr (.inl s0))] (G, M, T) K ↔ pm_Run d 218 19 [.inr (.inr (.inl l0))] [.inl 1, .inr (.inr (.inl s0))] (G, M, T) K := by
  refine (px_go (by decide +kernel : pm_fe 218 14 = some (.iconst 1, 1)) rfl).trans ?_
  refine (px_goto (off := 4) (tgt := 19) (by decide +kernel)).trans ?_
  exact Iff.rfl
theorem b218_18 {d : Nat} {G : PG} {M T : PH} {K : PV → PS → Prop} {l0 s0 : Int} : pm_Run d 218 18 [.inr (.inr (.inl l0))] [.inr (.inr (.inl s0))] (G, M, T) K ↔ pm_Run d 218 19 [.inr (.inr (.inl l0))] [.inl 0, .inr (.inr (.inl s0))] (G, M, T) K := by
  refine (px_go (by decide +kernel : pm_fe 218 18 = some (.iconst 0, 1)) rfl).trans ?_
  exact Iff.rfl
theorem b218_19 {d : Nat} {G : PG} {M T : PH} {K : PV → PS → Prop} {l0 s0 s1 : Int} (h1 : pm_ob G s1 12) : pm_Run d 218 19 [.inr (.inr (.inl l0))] [.inl s0, .inr (.inr (.inl s1))] (G, M, T) K ↔ pm_Call d 207 [.inr (.inr (.inl s1)), .inl s0] (G, M, T) (fun r S1 => pm_Run d 218 22 [.inr (.inr (.inl l0))] (pm_push r []) S1 K) := by
  refine (px_v1 (idx := 385) (m' := 207) (ci := 12) (by decide +kernel)).trans ((and_iff_right ⟨h1, (by simp [pm_wl_n, pm_wl_c, pm_w] : pm_wl [] ≤ 8)⟩).trans ?_)
  exact Iff.rfl
theorem b218_22 {d : Nat} {G : PG} {M T : PH} {K : PV → PS → Prop} {l0 s0 : Int} : pm_Run d 218 22 [.inr (.inr (.inl l0))] [.inl s0] (G, M, T) K ↔ if pm_sg s0 ≠ 0 then pm_Run d 218 26 [.inr (.inr (.inl l0))] [] (G, M, T) K else pm_Run d 218 25 [.inr (.inr (.inl l0))] [] (G, M, T) K := by
  refine (px_if_ne (off := 4) (tgt := 26) (by decide +kernel)).trans ?_
  exact Iff.rfl
theorem b218_25 {d : Nat} {G : PG} {M T : PH} {K : PV → PS → Prop} {l0 : Int} : pm_Run d 218 25 [.inr (.inr (.inl l0))] [] (G, M, T) K ↔ K PU (G, M, T) := by
  refine (px_rv (by decide +kernel)).trans ?_
  exact Iff.rfl
theorem b218_26 {d : Nat} {G : PG} {M T : PH} {K : PV → PS → Prop} {l0 : Int} (h1 : pm_ob G l0 12) (h2 : pm_ar G (T l0.toNat 33) 100 (M l0.toNat 42)) : pm_Run d 218 26 [.inr (.inr (.inl l0))] [] (G, M, T) K ↔ pm_Call d 206 [.inr (.inr (.inl l0)), .inl 0] (G, pm_sa M (T l0.toNat 33).toNat (pm_up (M (T l0.toNat 33).toNat) (pm_sg (M l0.toNat 42)).toNat (M l0.toNat 41)), T) (fun r S1 => pm_Run d 218 44 [.inr (.inr (.inl l0))] (pm_push r []) S1 K) := by
  refine (px_go (by decide +kernel : pm_fe 218 26 = some (.aload_n 0, 1)) rfl).trans ?_
  refine (px_get2 (idx := 111) (ci := 12) (k := 33) (by decide +kernel)).trans ((and_iff_right h1).trans ?_)
  refine (px_go (by decide +kernel : pm_fe 218 30 = some (.aload_n 0, 1)) rfl).trans ?_
  refine (px_get0 (idx := 139) (ci := 12) (k := 42) (by decide +kernel)).trans ((and_iff_right h1).trans ?_)
  refine (px_go (by decide +kernel : pm_fe 218 34 = some (.aload_n 0, 1)) rfl).trans ?_
  refine (px_get0 (idx := 136) (ci := 12) (k := 41) (by decide +kernel)).trans ((and_iff_right h1).trans ?_)
  refine (px_iastore (by decide +kernel)).trans ((and_iff_right h2).trans ?_)
  refine (px_go (by decide +kernel : pm_fe 218 39 = some (.aload_n 0, 1)) rfl).trans ?_
  refine (px_go (by decide +kernel : pm_fe 218 40 = some (.iconst 0, 1)) rfl).trans ?_
  refine (px_v1 (idx := 403) (m' := 206) (ci := 12) (by decide +kernel)).trans ((and_iff_right ⟨h1, (by simp [pm_wl_n, pm_wl_c, pm_w] : pm_wl [] ≤ 8)⟩).trans ?_)
  exact Iff.rfl
theorem b218_44 {d : Nat} {G : PG} {M T : PH} {K : PV → PS → Prop} {l0 : Int} (h1 : pm_ob G l0 12) (h2 : pm_ar G (T l0.toNat 34) 100 (M l0.toNat 42)) : pm_Run d 218 44 [.inr (.inr (.inl l0))] [] (G, M, T) K ↔ K PU (G, pm_sa M (T l0.toNat 34).toNat (pm_up (M (T l0.toNat 34).toNat) (pm_sg (M l0.toNat 42)).toNat (M l0.toNat 41)), T) := by
  refine (px_go (by decide +kernel : pm_fe 218 44 = some (.aload_n 0, 1)) rfl).trans ?_
  refine (px_get2 (idx := 114) (ci := 12) (k := 34) (by decide +kernel)).trans ((and_iff_right h1).trans ?_)
  refine (px_go (by decide +kernel : pm_fe 218 48 = some (.aload_n 0, 1)) rfl).trans ?_
  refine (px_get0 (idx := 139) (ci := 12) (k := 42) (by decide +kernel)).trans ((and_iff_right h1).trans ?_)
  refine (px_go (by decide +kernel : pm_fe 218 52 = some (.aload_n 0, 1)) rfl).trans ?_
  refine (px_get0 (idx := 136) (ci := 12) (k := 41) (by decide +kernel)).trans ((and_iff_right h1).trans ?_)
  refine (px_iastore (by decide +kernel)).trans ((and_iff_right h2).trans ?_)
  refine (px_rv (by decide +kernel)).trans ?_
  exact Iff.rfl
-- X12_levelling levelling(Z)V
theorem en219 {d : Nat} {a p0 : Int} {S : PS} {K : PV → PS → Prop} : pm_Call (d + 1) 219 [.inr (.inr (.inl a)), .inl p0] S K ↔ pm_Run d 219 0 [.inr (.inr (.inl a)), .inl p0, PU] [] S K := pm_Call_s.trans (and_iff_right (show 2 ≤ pm_ml 219 from by decide +kernel))
theorem b219_0 {d : Nat} {G : PG} {M T : PH} {K : PV → PS → Prop} {l0 l1 : Int} (h1 : pm_ob G l0 12) : pm_Run d 219 0 [.inr (.inr (.inl l0)), .inl l1, PU] [] (G, M, T) K ↔ pm_Call d 207 [.inr (.inr (.inl l0)), .inl 0] (G, M, T) (fun r S1 => pm_Run d 219 5 [.inr (.inr (.inl l0)), .inl l1, PU] (pm_push r []) S1 K) := by
  refine (px_go (by decide +kernel : pm_fe 219 0 = some (.aload_n 0, 1)) rfl).trans ?_
  refine (px_go (by decide +kernel : pm_fe 219 1 = some (.iconst 0, 1)) rfl).trans ?_
  refine (px_v1 (idx := 385) (m' := 207) (ci := 12) (by decide +kernel)).trans ((and_iff_right ⟨h1, (by simp [pm_wl_n, pm_wl_c, pm_w] : pm_wl [] ≤ 8)⟩).trans ?_)
  exact Iff.rfl
theorem b219_5 {d : Nat} {G : PG} {M T : PH} {K : PV → PS → Prop} {l0 l1 s0 : Int} : pm_Run d 219 5 [.inr (.inr (.inl l0)), .inl l1, PU] [.inl s0] (G, M, T) K ↔ if pm_sg s0 ≠ 0 then pm_Run d 219 9 [.inr (.inr (.inl l0)), .inl l1, PU] [] (G, M, T) K else pm_Run d 219 8 [.inr (.inr (.inl l0)), .inl l1, PU] [] (G, M, T) K := by
  refine (px_if_ne (off := 4) (tgt := 9) (by decide +kernel)).trans ?_
  exact Iff.rfl
theorem b219_8 {d : Nat} {G : PG} {M T : PH} {K : PV → PS → Prop} {l0 l1 : Int} : pm_Run d 219 8 [.inr (.inr (.inl l0)), .inl l1, PU] [] (G, M, T) K ↔ K PU (G, M, T) := by
  refine (px_rv (by decide +kernel)).trans ?_
  exact Iff.rfl
theorem b219_9 {d : Nat} {G : PG} {M T : PH} {K : PV → PS → Prop} {l0 l1 : Int} : pm_Run d 219 9 [.inr (.inr (.inl l0)), .inl l1, PU] [] (G, M, T) K ↔ if pm_sg l1 = 0 then pm_Run d 219 23 [.inr (.inr (.inl l0)), .inl l1, PU] [] (G, M, T) K else pm_Run d 219 13 [.inr (.inr (.inl l0)), .inl l1, PU] [] (G, M, T) K := by
  refine (px_go (by decide +kernel : pm_fe 219 9 = some (.iload_n 1, 1)) rfl).trans ?_
  refine (px_if_eq (off := 13) (tgt := 23) (by decide +kernel)).trans ?_
  exact Iff.rfl
theorem b219_13 {d : Nat} {G : PG} {M T : PH} {K : PV → PS → Prop} {l0 l1 : Int} (h1 : pm_ob G l0 12) : pm_Run d 219 13 [.inr (.inr (.inl l0)), .inl l1, PU] [] (G, M, T) K ↔ pm_Call d 196 [.inr (.inr (.inl l0)), .inl 0, .inl 99] (G, M, T) (fun r S1 => pm_Run d 219 20 [.inr (.inr (.inl l0)), .inl l1, PU] (pm_push r []) S1 K) := by
  refine (px_go (by decide +kernel : pm_fe 219 13 = some (.aload_n 0, 1)) rfl).trans ?_
  refine (px_go (by decide +kernel : pm_fe 219 14 = some (.iconst 0, 1)) rfl).trans ?_
  refine (px_go (by decide +kernel : pm_fe 219 15 = some (.bipush 99, 2)) rfl).trans ?_
  refine (px_v2 (idx := 397) (m' := 196) (ci := 12) (by decide +kernel)).trans ((and_iff_right ⟨h1, (by simp [pm_wl_n, pm_wl_c, pm_w] : pm_wl [] ≤ 8)⟩).trans ?_)
  exact Iff.rfl
theorem b219_20 {d : Nat} {G : PG} {M T : PH} {K : PV → PS → Prop} {l0 l1 s0 : Int} : pm_Run d 219 20 [.inr (.inr (.inl l0)), .inl l1, PU] [.inl s0] (G, M, T) K ↔ pm_Run d 219 31 [.inr (.inr (.inl l0)), .inl l1, PU] [.inl s0] (G, M, T) K := by
  refine (px_goto (off := 11) (tgt := 31) (by decide +kernel)).trans ?_
  exact Iff.rfl
theorem b219_23 {d : Nat} {G : PG} {M T : PH} {K : PV → PS → Prop} {l0 l1 : Int} (h1 : pm_ob G l0 12) : pm_Run d 219 23 [.inr (.inr (.inl l0)), .inl l1, PU] [] (G, M, T) K ↔ pm_Call d 196 [.inr (.inr (.inl l0)), .inl 1, .inl 999] (G, M, T) (fun r S1 => pm_Run d 219 31 [.inr (.inr (.inl l0)), .inl l1, PU] (pm_push r []) S1 K) := by
  refine (px_go (by decide +kernel : pm_fe 219 23 = some (.aload_n 0, 1)) rfl).trans ?_
  refine (px_go (by decide +kernel : pm_fe 219 24 = some (.iconst 1, 1)) rfl).trans ?_
  refine (px_go (by decide +kernel : pm_fe 219 25 = some (.sipush 999, 3)) rfl).trans ?_
  refine (px_v2 (idx := 397) (m' := 196) (ci := 12) (by decide +kernel)).trans ((and_iff_right ⟨h1, (by simp [pm_wl_n, pm_wl_c, pm_w] : pm_wl [] ≤ 8)⟩).trans ?_)
  exact Iff.rfl
theorem b219_31 {d : Nat} {G : PG} {M T : PH} {K : PV → PS → Prop} {l0 l1 s0 : Int} (h1 : pm_ob G l0 12) : pm_Run d 219 31 [.inr (.inr (.inl l0)), .inl l1, PU] [.inl s0] (G, M, T) K ↔ if pm_sg (M l0.toNat 8) ≤ 0 then pm_Run d 219 40 [.inr (.inr (.inl l0)), .inl l1, .inl s0] [] (G, M, T) K else pm_Run d 219 39 [.inr (.inr (.inl l0)), .inl l1, .inl s0] [] (G, M, T) K := by
  refine (px_go (by decide +kernel : pm_fe 219 31 = some (.istore_n 2, 1)) rfl).trans ?_
  refine (px_go (by decide +kernel : pm_fe 219 32 = some (.aload_n 0, 1)) rfl).trans ?_
  refine (px_get0 (idx := 36) (ci := 12) (k := 8) (by decide +kernel)).trans ((and_iff_right h1).trans ?_)
  refine (px_if_le (off := 4) (tgt := 40) (by decide +kernel)).trans ?_
  exact Iff.rfl
theorem b219_39 {d : Nat} {G : PG} {M T : PH} {K : PV → PS → Prop} {l0 l1 l2 : Int} : pm_Run d 219 39 [.inr (.inr (.inl l0)), .inl l1, .inl l2] [] (G, M, T) K ↔ K PU (G, M, T) := by
  refine (px_rv (by decide +kernel)).trans ?_
  exact Iff.rfl
theorem b219_40 {d : Nat} {G : PG} {M T : PH} {K : PV → PS → Prop} {l0 l1 l2 : Int} : pm_Run d 219 40 [.inr (.inr (.inl l0)), .inl l1, .inl l2] [] (G, M, T) K ↔ if pm_sg l1 = 0 then pm_Run d 219 57 [.inr (.inr (.inl l0)), .inl l1, .inl l2] [] (G, M, T) K else pm_Run d 219 44 [.inr (.inr (.inl l0)), .inl l1, .inl l2] [] (G, M, T) K := by
  refine (px_go (by decide +kernel : pm_fe 219 40 = some (.iload_n 1, 1)) rfl).trans ?_
  refine (px_if_eq (off := 16) (tgt := 57) (by decide +kernel)).trans ?_
  exact Iff.rfl
theorem b219_44 {d : Nat} {G : PG} {M T : PH} {K : PV → PS → Prop} {l0 l1 l2 : Int} (h1 : pm_ob G l0 12) (h2 : pm_ar G (T l0.toNat 35) 100 (M l0.toNat 42)) : pm_Run d 219 44 [.inr (.inr (.inl l0)), .inl l1, .inl l2] [] (G, M, T) K ↔ pm_Run d 219 67 [.inr (.inr (.inl l0)), .inl l1, .inl l2] [] (G, pm_sa M (T l0.toNat 35).toNat (pm_up (M (T l0.toNat 35).toNat) (pm_sg (M l0.toNat 42)).toNat l2), T) K := by
  refine (px_go (by decide +kernel : pm_fe 219 44 = some (.aload_n 0, 1)) rfl).trans ?_
  refine (px_get2 (idx := 117) (ci := 12) (k := 35) (by decide +kernel)).trans ((and_iff_right h1).trans ?_)
  refine (px_go (by decide +kernel : pm_fe 219 48 = some (.aload_n 0, 1)) rfl).trans ?_
  refine (px_get0 (idx := 139) (ci := 12) (k := 42) (by decide +kernel)).trans ((and_iff_right h1).trans ?_)
  refine (px_go (by decide +kernel : pm_fe 219 52 = some (.iload_n 2, 1)) rfl).trans ?_
  refine (px_iastore (by decide +kernel)).trans ((and_iff_right h2).trans ?_)
  refine (px_goto (off := 13) (tgt := 67) (by decide +kernel)).trans ?_
  exact Iff.rfl
theorem b219_57 {d : Nat} {G : PG} {M T : PH} {K : PV → PS → Prop} {l0 l1 l2 : Int} (h1 : pm_ob G l0 12) (h2 : pm_ar G (T l0.toNat 36) 100 (M l0.toNat 42)) : pm_Run d 219 57 [.inr (.inr (.inl l0)), .inl l1, .inl l2] [] (G, M, T) K ↔ pm_Run d 219 67 [.inr (.inr (.inl l0)), .inl l1, .inl l2] [] (G, pm_sa M (T l0.toNat 36).toNat (pm_up (M (T l0.toNat 36).toNat) (pm_sg (M l0.toNat 42)).toNat l2), T) K := by
  refine (px_go (by decide +kernel : pm_fe 219 57 = some (.aload_n 0, 1)) rfl).trans ?_
  refine (px_get2 (idx := 120) (ci := 12) (k := 36) (by decide +kernel)).trans ((and_iff_right h1).trans ?_)
  refine (px_go (by decide +kernel : pm_fe 219 61 = some (.aload_n 0, 1)) rfl).trans ?_
  refine (px_get0 (idx := 139) (ci := 12) (k := 42) (by decide +kernel)).trans ((and_iff_right h1).trans ?_)
  refine (px_go (by decide +kernel : pm_fe 219 65 = some (.iload_n 2, 1)) rfl).trans ?_
  refine (px_iastore (by decide +kernel)).trans ((and_iff_right h2).trans ?_)
  exact Iff.rfl
theorem b219_67 {d : Nat} {G : PG} {M T : PH} {K : PV → PS → Prop} {l0 l1 l2 : Int} : pm_Run d 219 67 [.inr (.inr (.inl l0)), .inl l1, .inl l2] [] (G, M, T) K ↔ K PU (G, M, T) := by
  refine (px_rv (by decide +kernel)).trans ?_
  exact Iff.rfl
-- X12_statement statement()V
theorem en220 {d : Nat} {a : Int} {S : PS} {K : PV → PS → Prop} : pm_Call (d + 1) 220 [.inr (.inr (.inl a))] S K ↔ pm_Run d 220 0 [.inr (.inr (.inl a))] [] S K := pm_Call_s.trans (and_iff_right (show 1 ≤ pm_ml 220 from by decide +kernel))
theorem b220_0 {d : Nat} {G : PG} {M T : PH} {K : PV → PS → Prop} {l0 : Int} (h1 : pm_ob G l0 12) : pm_Run d 220 0 [.inr (.inr (.inl l0))] [] (G, M, T) K ↔ pm_Call d 186 [.inr (.inr (.inl l0))] (G, M, T) (fun r S1 => pm_Run d 220 4 [.inr (.inr (.inl l0))] (pm_push r []) S1 K) := by
  refine (px_go (by decide +kernel : pm_fe 220 0 = some (.aload_n 0, 1)) rfl).trans ?_
  refine (px_v0 (idx := 262) (m' := 186) (ci := 12) (by decide +kernel)).trans ((and_iff_right ⟨h1, (by simp [pm_wl_n, pm_wl_c, pm_w] : pm_wl [] ≤ 8)⟩).trans ?_)
  exact Iff.rfl
theorem b220_4 {d : Nat} {G : PG} {M T : PH} {K : PV → PS → Prop} {l0 : Int} (h1 : pm_ob G l0 12) : pm_Run d 220 4 [.inr (.inr (.inl l0))] [] (G, M, T) K ↔ if pm_sg (M l0.toNat 8) ≤ 0 then pm_Run d 220 12 [.inr (.inr (.inl l0))] [] (G, M, T) K else pm_Run d 220 11 [.inr (.inr (.inl l0))] [] (G, M, T) K := by
  refine (px_go (by decide +kernel : pm_fe 220 4 = some (.aload_n 0, 1)) rfl).trans ?_
  refine (px_get0 (idx := 36) (ci := 12) (k := 8) (by decide +kernel)).trans ((and_iff_right h1).trans ?_)
  refine (px_if_le (off := 4) (tgt := 12) (by decide +kernel)).trans ?_
  exact Iff.rfl
theorem b220_11 {d : Nat} {G : PG} {M T : PH} {K : PV → PS → Prop} {l0 : Int} : pm_Run d 220 11 [.inr (.inr (.inl l0))] [] (G, M, T) K ↔ K PU (G, M, T) := by
  refine (px_rv (by decide +kernel)).trans ?_
  exact Iff.rfl
theorem b220_12 {d : Nat} {G : PG} {M T : PH} {K : PV → PS → Prop} {l0 : Int} (h1 : pm_ob G l0 12) : pm_Run d 220 12 [.inr (.inr (.inl l0))] [] (G, M, T) K ↔ pm_Call d 189 [.inr (.inr (.inl l0)), .inr (.inl 1836019566)] (G, M, T) (fun r S1 => pm_Run d 220 19 [.inr (.inr (.inl l0))] (pm_push r []) S1 K) := by
  refine (px_go (by decide +kernel : pm_fe 220 12 = some (.aload_n 0, 1)) rfl).trans ?_
  refine (px_ldcL (idx := 273) (x := 1836019566) (by decide +kernel)).trans ?_
  refine (px_v1 (idx := 356) (m' := 189) (ci := 12) (by decide +kernel)).trans ((and_iff_right ⟨h1, (by simp [pm_wl_n, pm_wl_c, pm_w] : pm_wl [] ≤ 8)⟩).trans ?_)
  exact Iff.rfl
theorem b220_19 {d : Nat} {G : PG} {M T : PH} {K : PV → PS → Prop} {l0 s0 : Int} : pm_Run d 220 19 [.inr (.inr (.inl l0))] [.inl s0] (G, M, T) K ↔ if pm_sg s0 = 0 then pm_Run d 220 29 [.inr (.inr (.inl l0))] [] (G, M, T) K else pm_Run d 220 22 [.inr (.inr (.inl l0))] [] (G, M, T) K := by
  refine (px_if_eq (off := 10) (tgt := 29) (by decide +kernel)).trans ?_
  exact Iff.rfl
theorem b220_22 {d : Nat} {G : PG} {M T : PH} {K : PV → PS → Prop} {l0 : Int} (h1 : pm_ob G l0 12) : pm_Run d 220 22 [.inr (.inr (.inl l0))] [] (G, M, T) K ↔ pm_Call d 212 [.inr (.inr (.inl l0))] (G, M, T) (fun r S1 => pm_Run d 220 26 [.inr (.inr (.inl l0))] (pm_push r []) S1 K) := by
  refine (px_go (by decide +kernel : pm_fe 220 22 = some (.aload_n 0, 1)) rfl).trans ?_
  refine (px_v0 (idx := 407) (m' := 212) (ci := 12) (by decide +kernel)).trans ((and_iff_right ⟨h1, (by simp [pm_wl_n, pm_wl_c, pm_w] : pm_wl [] ≤ 8)⟩).trans ?_)
  exact Iff.rfl
theorem b220_26 {d : Nat} {G : PG} {M T : PH} {K : PV → PS → Prop} {l0 : Int} : pm_Run d 220 26 [.inr (.inr (.inl l0))] [] (G, M, T) K ↔ pm_Run d 220 176 [.inr (.inr (.inl l0))] [] (G, M, T) K := by
  refine (px_goto (off := 150) (tgt := 176) (by decide +kernel)).trans ?_
  exact Iff.rfl
theorem b220_29 {d : Nat} {G : PG} {M T : PH} {K : PV → PS → Prop} {l0 : Int} (h1 : pm_ob G l0 12) : pm_Run d 220 29 [.inr (.inr (.inl l0))] [] (G, M, T) K ↔ pm_Call d 189 [.inr (.inr (.inl l0)), .inr (.inl 114767740170098)] (G, M, T) (fun r S1 => pm_Run d 220 36 [.inr (.inr (.inl l0))] (pm_push r []) S1 K) := by
  refine (px_go (by decide +kernel : pm_fe 220 29 = some (.aload_n 0, 1)) rfl).trans ?_
  refine (px_ldcL (idx := 281) (x := 114767740170098) (by decide +kernel)).trans ?_
  refine (px_v1 (idx := 356) (m' := 189) (ci := 12) (by decide +kernel)).trans ((and_iff_right ⟨h1, (by simp [pm_wl_n, pm_wl_c, pm_w] : pm_wl [] ≤ 8)⟩).trans ?_)
  exact Iff.rfl
theorem b220_36 {d : Nat} {G : PG} {M T : PH} {K : PV → PS → Prop} {l0 s0 : Int} : pm_Run d 220 36 [.inr (.inr (.inl l0))] [.inl s0] (G, M, T) K ↔ if pm_sg s0 = 0 then pm_Run d 220 46 [.inr (.inr (.inl l0))] [] (G, M, T) K else pm_Run d 220 39 [.inr (.inr (.inl l0))] [] (G, M, T) K := by
  refine (px_if_eq (off := 10) (tgt := 46) (by decide +kernel)).trans ?_
  exact Iff.rfl
theorem b220_39 {d : Nat} {G : PG} {M T : PH} {K : PV → PS → Prop} {l0 : Int} (h1 : pm_ob G l0 12) : pm_Run d 220 39 [.inr (.inr (.inl l0))] [] (G, M, T) K ↔ pm_Call d 213 [.inr (.inr (.inl l0))] (G, M, T) (fun r S1 => pm_Run d 220 43 [.inr (.inr (.inl l0))] (pm_push r []) S1 K) := by
  refine (px_go (by decide +kernel : pm_fe 220 39 = some (.aload_n 0, 1)) rfl).trans ?_
  refine (px_v0 (idx := 410) (m' := 213) (ci := 12) (by decide +kernel)).trans ((and_iff_right ⟨h1, (by simp [pm_wl_n, pm_wl_c, pm_w] : pm_wl [] ≤ 8)⟩).trans ?_)
  exact Iff.rfl
theorem b220_43 {d : Nat} {G : PG} {M T : PH} {K : PV → PS → Prop} {l0 : Int} : pm_Run d 220 43 [.inr (.inr (.inl l0))] [] (G, M, T) K ↔ pm_Run d 220 176 [.inr (.inr (.inl l0))] [] (G, M, T) K := by
  refine (px_goto (off := 133) (tgt := 176) (by decide +kernel)).trans ?_
  exact Iff.rfl
theorem b220_46 {d : Nat} {G : PG} {M T : PH} {K : PV → PS → Prop} {l0 : Int} (h1 : pm_ob G l0 12) : pm_Run d 220 46 [.inr (.inr (.inl l0))] [] (G, M, T) K ↔ pm_Call d 189 [.inr (.inr (.inl l0)), .inr (.inl 1885436275)] (G, M, T) (fun r S1 => pm_Run d 220 53 [.inr (.inr (.inl l0))] (pm_push r []) S1 K) := by
  refine (px_go (by decide +kernel : pm_fe 220 46 = some (.aload_n 0, 1)) rfl).trans ?_
  refine (px_ldcL (idx := 287) (x := 1885436275) (by decide +kernel)).trans ?_
  refine (px_v1 (idx := 356) (m' := 189) (ci := 12) (by decide +kernel)).trans ((and_iff_right ⟨h1, (by simp [pm_wl_n, pm_wl_c, pm_w] : pm_wl [] ≤ 8)⟩).trans ?_)
  exact Iff.rfl
theorem b220_53 {d : Nat} {G : PG} {M T : PH} {K : PV → PS → Prop} {l0 s0 : Int} : pm_Run d 220 53 [.inr (.inr (.inl l0))] [.inl s0] (G, M, T) K ↔ if pm_sg s0 = 0 then pm_Run d 220 63 [.inr (.inr (.inl l0))] [] (G, M, T) K else pm_Run d 220 56 [.inr (.inr (.inl l0))] [] (G, M, T) K := by
  refine (px_if_eq (off := 10) (tgt := 63) (by decide +kernel)).trans ?_
  exact Iff.rfl
theorem b220_56 {d : Nat} {G : PG} {M T : PH} {K : PV → PS → Prop} {l0 : Int} (h1 : pm_ob G l0 12) : pm_Run d 220 56 [.inr (.inr (.inl l0))] [] (G, M, T) K ↔ pm_Call d 214 [.inr (.inr (.inl l0))] (G, M, T) (fun r S1 => pm_Run d 220 60 [.inr (.inr (.inl l0))] (pm_push r []) S1 K) := by
  refine (px_go (by decide +kernel : pm_fe 220 56 = some (.aload_n 0, 1)) rfl).trans ?_
  refine (px_v0 (idx := 413) (m' := 214) (ci := 12) (by decide +kernel)).trans ((and_iff_right ⟨h1, (by simp [pm_wl_n, pm_wl_c, pm_w] : pm_wl [] ≤ 8)⟩).trans ?_)
  exact Iff.rfl
theorem b220_60 {d : Nat} {G : PG} {M T : PH} {K : PV → PS → Prop} {l0 : Int} : pm_Run d 220 60 [.inr (.inr (.inl l0))] [] (G, M, T) K ↔ pm_Run d 220 176 [.inr (.inr (.inl l0))] [] (G, M, T) K := by
  refine (px_goto (off := 116) (tgt := 176) (by decide +kernel)).trans ?_
  exact Iff.rfl
theorem b220_63 {d : Nat} {G : PG} {M T : PH} {K : PV → PS → Prop} {l0 : Int} (h1 : pm_ob G l0 12) : pm_Run d 220 63 [.inr (.inr (.inl l0))] [] (G, M, T) K ↔ pm_Call d 189 [.inr (.inr (.inl l0)), .inr (.inl 1870095731)] (G, M, T) (fun r S1 => pm_Run d 220 70 [.inr (.inr (.inl l0))] (pm_push r []) S1 K) := by
  refine (px_go (by decide +kernel : pm_fe 220 63 = some (.aload_n 0, 1)) rfl).trans ?_
  refine (px_ldcL (idx := 289) (x := 1870095731) (by decide +kernel)).trans ?_
  refine (px_v1 (idx := 356) (m' := 189) (ci := 12) (by decide +kernel)).trans ((and_iff_right ⟨h1, (by simp [pm_wl_n, pm_wl_c, pm_w] : pm_wl [] ≤ 8)⟩).trans ?_)
  exact Iff.rfl
theorem b220_70 {d : Nat} {G : PG} {M T : PH} {K : PV → PS → Prop} {l0 s0 : Int} : pm_Run d 220 70 [.inr (.inr (.inl l0))] [.inl s0] (G, M, T) K ↔ if pm_sg s0 = 0 then pm_Run d 220 80 [.inr (.inr (.inl l0))] [] (G, M, T) K else pm_Run d 220 73 [.inr (.inr (.inl l0))] [] (G, M, T) K := by
  refine (px_if_eq (off := 10) (tgt := 80) (by decide +kernel)).trans ?_
  exact Iff.rfl
theorem b220_73 {d : Nat} {G : PG} {M T : PH} {K : PV → PS → Prop} {l0 : Int} (h1 : pm_ob G l0 12) : pm_Run d 220 73 [.inr (.inr (.inl l0))] [] (G, M, T) K ↔ pm_Call d 215 [.inr (.inr (.inl l0))] (G, M, T) (fun r S1 => pm_Run d 220 77 [.inr (.inr (.inl l0))] (pm_push r []) S1 K) := by
  refine (px_go (by decide +kernel : pm_fe 220 73 = some (.aload_n 0, 1)) rfl).trans ?_
  refine (px_v0 (idx := 416) (m' := 215) (ci := 12) (by decide +kernel)).trans ((and_iff_right ⟨h1, (by simp [pm_wl_n, pm_wl_c, pm_w] : pm_wl [] ≤ 8)⟩).trans ?_)
  exact Iff.rfl
theorem b220_77 {d : Nat} {G : PG} {M T : PH} {K : PV → PS → Prop} {l0 : Int} : pm_Run d 220 77 [.inr (.inr (.inl l0))] [] (G, M, T) K ↔ pm_Run d 220 176 [.inr (.inr (.inl l0))] [] (G, M, T) K := by
  refine (px_goto (off := 99) (tgt := 176) (by decide +kernel)).trans ?_
  exact Iff.rfl
theorem b220_80 {d : Nat} {G : PG} {M T : PH} {K : PV → PS → Prop} {l0 : Int} (h1 : pm_ob G l0 12) : pm_Run d 220 80 [.inr (.inr (.inl l0))] [] (G, M, T) K ↔ pm_Call d 189 [.inr (.inr (.inl l0)), .inr (.inl 109317142704997)] (G, M, T) (fun r S1 => pm_Run d 220 87 [.inr (.inr (.inl l0))] (pm_push r []) S1 K) := by
  refine (px_go (by decide +kernel : pm_fe 220 80 = some (.aload_n 0, 1)) rfl).trans ?_
  refine (px_ldcL (idx := 291) (x := 109317142704997) (by decide +kernel)).trans ?_
  refine (px_v1 (idx := 356) (m' := 189) (ci := 12) (by decide +kernel)).trans ((and_iff_right ⟨h1, (by simp [pm_wl_n, pm_wl_c, pm_w] : pm_wl [] ≤ 8)⟩).trans ?_)
  exact Iff.rfl
theorem b220_87 {d : Nat} {G : PG} {M T : PH} {K : PV → PS → Prop} {l0 s0 : Int} : pm_Run d 220 87 [.inr (.inr (.inl l0))] [.inl s0] (G, M, T) K ↔ if pm_sg s0 = 0 then pm_Run d 220 97 [.inr (.inr (.inl l0))] [] (G, M, T) K else pm_Run d 220 90 [.inr (.inr (.inl l0))] [] (G, M, T) K := by
  refine (px_if_eq (off := 10) (tgt := 97) (by decide +kernel)).trans ?_
  exact Iff.rfl
theorem b220_90 {d : Nat} {G : PG} {M T : PH} {K : PV → PS → Prop} {l0 : Int} (h1 : pm_ob G l0 12) : pm_Run d 220 90 [.inr (.inr (.inl l0))] [] (G, M, T) K ↔ pm_Call d 216 [.inr (.inr (.inl l0))] (G, M, T) (fun r S1 => pm_Run d 220 94 [.inr (.inr (.inl l0))] (pm_push r []) S1 K) := by
  refine (px_go (by decide +kernel : pm_fe 220 90 = some (.aload_n 0, 1)) rfl).trans ?_
  refine (px_v0 (idx := 419) (m' := 216) (ci := 12) (by decide +kernel)).trans ((and_iff_right ⟨h1, (by simp [pm_wl_n, pm_wl_c, pm_w] : pm_wl [] ≤ 8)⟩).trans ?_)
  exact Iff.rfl
theorem b220_94 {d : Nat} {G : PG} {M T : PH} {K : PV → PS → Prop} {l0 : Int} : pm_Run d 220 94 [.inr (.inr (.inl l0))] [] (G, M, T) K ↔ pm_Run d 220 176 [.inr (.inr (.inl l0))] [] (G, M, T) K := by
  refine (px_goto (off := 82) (tgt := 176) (by decide +kernel)).trans ?_
  exact Iff.rfl
theorem b220_97 {d : Nat} {G : PG} {M T : PH} {K : PV → PS → Prop} {l0 : Int} (h1 : pm_ob G l0 12) : pm_Run d 220 97 [.inr (.inr (.inl l0))] [] (G, M, T) K ↔ pm_Call d 189 [.inr (.inr (.inl l0)), .inr (.inl 1886743660)] (G, M, T) (fun r S1 => pm_Run d 220 104 [.inr (.inr (.inl l0))] (pm_push r []) S1 K) := by
  refine (px_go (by decide +kernel : pm_fe 220 97 = some (.aload_n 0, 1)) rfl).trans ?_
  refine (px_ldcL (idx := 293) (x := 1886743660) (by decide +kernel)).trans ?_
  refine (px_v1 (idx := 356) (m' := 189) (ci := 12) (by decide +kernel)).trans ((and_iff_right ⟨h1, (by simp [pm_wl_n, pm_wl_c, pm_w] : pm_wl [] ≤ 8)⟩).trans ?_)
  exact Iff.rfl
theorem b220_104 {d : Nat} {G : PG} {M T : PH} {K : PV → PS → Prop} {l0 s0 : Int} : pm_Run d 220 104 [.inr (.inr (.inl l0))] [.inl s0] (G, M, T) K ↔ if pm_sg s0 = 0 then pm_Run d 220 114 [.inr (.inr (.inl l0))] [] (G, M, T) K else pm_Run d 220 107 [.inr (.inr (.inl l0))] [] (G, M, T) K := by
  refine (px_if_eq (off := 10) (tgt := 114) (by decide +kernel)).trans ?_
  exact Iff.rfl
theorem b220_107 {d : Nat} {G : PG} {M T : PH} {K : PV → PS → Prop} {l0 : Int} (h1 : pm_ob G l0 12) : pm_Run d 220 107 [.inr (.inr (.inl l0))] [] (G, M, T) K ↔ pm_Call d 217 [.inr (.inr (.inl l0))] (G, M, T) (fun r S1 => pm_Run d 220 111 [.inr (.inr (.inl l0))] (pm_push r []) S1 K) := by
  refine (px_go (by decide +kernel : pm_fe 220 107 = some (.aload_n 0, 1)) rfl).trans ?_
  refine (px_v0 (idx := 422) (m' := 217) (ci := 12) (by decide +kernel)).trans ((and_iff_right ⟨h1, (by simp [pm_wl_n, pm_wl_c, pm_w] : pm_wl [] ≤ 8)⟩).trans ?_)
  exact Iff.rfl
theorem b220_111 {d : Nat} {G : PG} {M T : PH} {K : PV → PS → Prop} {l0 : Int} : pm_Run d 220 111 [.inr (.inr (.inl l0))] [] (G, M, T) K ↔ pm_Run d 220 176 [.inr (.inr (.inl l0))] [] (G, M, T) K := by
  refine (px_goto (off := 65) (tgt := 176) (by decide +kernel)).trans ?_
  exact Iff.rfl
theorem b220_114 {d : Nat} {G : PG} {M T : PH} {K : PV → PS → Prop} {l0 : Int} (h1 : pm_ob G l0 12) : pm_Run d 220 114 [.inr (.inr (.inl l0))] [] (G, M, T) K ↔ pm_Call d 189 [.inr (.inr (.inl l0)), .inr (.inl 435426586227)] (G, M, T) (fun r S1 => pm_Run d 220 121 [.inr (.inr (.inl l0))] (pm_push r []) S1 K) := by
  refine (px_go (by decide +kernel : pm_fe 220 114 = some (.aload_n 0, 1)) rfl).trans ?_
  refine (px_ldcL (idx := 295) (x := 435426586227) (by decide +kernel)).trans ?_
  refine (px_v1 (idx := 356) (m' := 189) (ci := 12) (by decide +kernel)).trans ((and_iff_right ⟨h1, (by simp [pm_wl_n, pm_wl_c, pm_w] : pm_wl [] ≤ 8)⟩).trans ?_)
  exact Iff.rfl
theorem b220_121 {d : Nat} {G : PG} {M T : PH} {K : PV → PS → Prop} {l0 s0 : Int} : pm_Run d 220 121 [.inr (.inr (.inl l0))] [.inl s0] (G, M, T) K ↔ if pm_sg s0 = 0 then pm_Run d 220 131 [.inr (.inr (.inl l0))] [] (G, M, T) K else pm_Run d 220 124 [.inr (.inr (.inl l0))] [] (G, M, T) K := by
  refine (px_if_eq (off := 10) (tgt := 131) (by decide +kernel)).trans ?_
  exact Iff.rfl
theorem b220_124 {d : Nat} {G : PG} {M T : PH} {K : PV → PS → Prop} {l0 : Int} (h1 : pm_ob G l0 12) : pm_Run d 220 124 [.inr (.inr (.inl l0))] [] (G, M, T) K ↔ pm_Call d 218 [.inr (.inr (.inl l0))] (G, M, T) (fun r S1 => pm_Run d 220 128 [.inr (.inr (.inl l0))] (pm_push r []) S1 K) := by
  refine (px_go (by decide +kernel : pm_fe 220 124 = some (.aload_n 0, 1)) rfl).trans ?_
  refine (px_v0 (idx := 425) (m' := 218) (ci := 12) (by decide +kernel)).trans ((and_iff_right ⟨h1, (by simp [pm_wl_n, pm_wl_c, pm_w] : pm_wl [] ≤ 8)⟩).trans ?_)
  exact Iff.rfl
theorem b220_128 {d : Nat} {G : PG} {M T : PH} {K : PV → PS → Prop} {l0 : Int} : pm_Run d 220 128 [.inr (.inr (.inl l0))] [] (G, M, T) K ↔ pm_Run d 220 176 [.inr (.inr (.inl l0))] [] (G, M, T) K := by
  refine (px_goto (off := 48) (tgt := 176) (by decide +kernel)).trans ?_
  exact Iff.rfl
theorem b220_131 {d : Nat} {G : PG} {M T : PH} {K : PV → PS → Prop} {l0 : Int} (h1 : pm_ob G l0 12) : pm_Run d 220 131 [.inr (.inr (.inl l0))] [] (G, M, T) K ↔ pm_Call d 189 [.inr (.inr (.inl l0)), .inr (.inl 465558725996)] (G, M, T) (fun r S1 => pm_Run d 220 138 [.inr (.inr (.inl l0))] (pm_push r []) S1 K) := by
  refine (px_go (by decide +kernel : pm_fe 220 131 = some (.aload_n 0, 1)) rfl).trans ?_
  refine (px_ldcL (idx := 297) (x := 465558725996) (by decide +kernel)).trans ?_
  refine (px_v1 (idx := 356) (m' := 189) (ci := 12) (by decide +kernel)).trans ((and_iff_right ⟨h1, (by simp [pm_wl_n, pm_wl_c, pm_w] : pm_wl [] ≤ 8)⟩).trans ?_)
  exact Iff.rfl
theorem b220_138 {d : Nat} {G : PG} {M T : PH} {K : PV → PS → Prop} {l0 s0 : Int} : pm_Run d 220 138 [.inr (.inr (.inl l0))] [.inl s0] (G, M, T) K ↔ if pm_sg s0 = 0 then pm_Run d 220 149 [.inr (.inr (.inl l0))] [] (G, M, T) K else pm_Run d 220 141 [.inr (.inr (.inl l0))] [] (G, M, T) K := by
  refine (px_if_eq (off := 11) (tgt := 149) (by decide +kernel)).trans ?_
  exact Iff.rfl
theorem b220_141 {d : Nat} {G : PG} {M T : PH} {K : PV → PS → Prop} {l0 : Int} (h1 : pm_ob G l0 12) : pm_Run d 220 141 [.inr (.inr (.inl l0))] [] (G, M, T) K ↔ pm_Call d 219 [.inr (.inr (.inl l0)), .inl 1] (G, M, T) (fun r S1 => pm_Run d 220 146 [.inr (.inr (.inl l0))] (pm_push r []) S1 K) := by
  refine (px_go (by decide +kernel : pm_fe 220 141 = some (.aload_n 0, 1)) rfl).trans ?_
  refine (px_go (by decide +kernel : pm_fe 220 142 = some (.iconst 1, 1)) rfl).trans ?_
  refine (px_v1 (idx := 428) (m' := 219) (ci := 12) (by decide +kernel)).trans ((and_iff_right ⟨h1, (by simp [pm_wl_n, pm_wl_c, pm_w] : pm_wl [] ≤ 8)⟩).trans ?_)
  exact Iff.rfl
theorem b220_146 {d : Nat} {G : PG} {M T : PH} {K : PV → PS → Prop} {l0 : Int} : pm_Run d 220 146 [.inr (.inr (.inl l0))] [] (G, M, T) K ↔ pm_Run d 220 176 [.inr (.inr (.inl l0))] [] (G, M, T) K := by
  refine (px_goto (off := 30) (tgt := 176) (by decide +kernel)).trans ?_
  exact Iff.rfl
theorem b220_149 {d : Nat} {G : PG} {M T : PH} {K : PV → PS → Prop} {l0 : Int} (h1 : pm_ob G l0 12) : pm_Run d 220 149 [.inr (.inr (.inl l0))] [] (G, M, T) K ↔ pm_Call d 189 [.inr (.inr (.inl l0)), .inr (.inl 1937075307)] (G, M, T) (fun r S1 => pm_Run d 220 156 [.inr (.inr (.inl l0))] (pm_push r []) S1 K) := by
  refine (px_go (by decide +kernel : pm_fe 220 149 = some (.aload_n 0, 1)) rfl).trans ?_
  refine (px_ldcL (idx := 299) (x := 1937075307) (by decide +kernel)).trans ?_
  refine (px_v1 (idx := 356) (m' := 189) (ci := 12) (by decide +kernel)).trans ((and_iff_right ⟨h1, (by simp [pm_wl_n, pm_wl_c, pm_w] : pm_wl [] ≤ 8)⟩).trans ?_)
  exact Iff.rfl
theorem b220_156 {d : Nat} {G : PG} {M T : PH} {K : PV → PS → Prop} {l0 s0 : Int} : pm_Run d 220 156 [.inr (.inr (.inl l0))] [.inl s0] (G, M, T) K ↔ if pm_sg s0 = 0 then pm_Run d 220 167 [.inr (.inr (.inl l0))] [] (G, M, T) K else pm_Run d 220 159 [.inr (.inr (.inl l0))] [] (G, M, T) K := by
  refine (px_if_eq (off := 11) (tgt := 167) (by decide +kernel)).trans ?_
  exact Iff.rfl
theorem b220_159 {d : Nat} {G : PG} {M T : PH} {K : PV → PS → Prop} {l0 : Int} (h1 : pm_ob G l0 12) : pm_Run d 220 159 [.inr (.inr (.inl l0))] [] (G, M, T) K ↔ pm_Call d 219 [.inr (.inr (.inl l0)), .inl 0] (G, M, T) (fun r S1 => pm_Run d 220 164 [.inr (.inr (.inl l0))] (pm_push r []) S1 K) := by
  refine (px_go (by decide +kernel : pm_fe 220 159 = some (.aload_n 0, 1)) rfl).trans ?_
  refine (px_go (by decide +kernel : pm_fe 220 160 = some (.iconst 0, 1)) rfl).trans ?_
  refine (px_v1 (idx := 428) (m' := 219) (ci := 12) (by decide +kernel)).trans ((and_iff_right ⟨h1, (by simp [pm_wl_n, pm_wl_c, pm_w] : pm_wl [] ≤ 8)⟩).trans ?_)
  exact Iff.rfl
theorem b220_164 {d : Nat} {G : PG} {M T : PH} {K : PV → PS → Prop} {l0 : Int} : pm_Run d 220 164 [.inr (.inr (.inl l0))] [] (G, M, T) K ↔ pm_Run d 220 176 [.inr (.inr (.inl l0))] [] (G, M, T) K := by
  refine (px_goto (off := 12) (tgt := 176) (by decide +kernel)).trans ?_
  exact Iff.rfl
theorem b220_167 {d : Nat} {G : PG} {M T : PH} {K : PV → PS → Prop} {l0 : Int} (h1 : pm_ob G l0 12) : pm_Run d 220 167 [.inr (.inr (.inl l0))] [] (G, M, T) K ↔ pm_Call d 183 [.inr (.inr (.inl l0)), .inl 1, .inl (M l0.toNat 4)] (G, M, T) (fun r S1 => pm_Run d 220 176 [.inr (.inr (.inl l0))] (pm_push r []) S1 K) := by
  refine (px_go (by decide +kernel : pm_fe 220 167 = some (.aload_n 0, 1)) rfl).trans ?_
  refine (px_go (by decide +kernel : pm_fe 220 168 = some (.iconst 1, 1)) rfl).trans ?_
  refine (px_go (by decide +kernel : pm_fe 220 169 = some (.aload_n 0, 1)) rfl).trans ?_
  refine (px_get0 (idx := 23) (ci := 12) (k := 4) (by decide +kernel)).trans ((and_iff_right h1).trans ?_)
  refine (px_v2 (idx := 251) (m' := 183) (ci := 12) (by decide +kernel)).trans ((and_iff_right ⟨h1, (by simp [pm_wl_n, pm_wl_c, pm_w] : pm_wl [] ≤ 8)⟩).trans ?_)
  exact Iff.rfl
theorem b220_176 {d : Nat} {G : PG} {M T : PH} {K : PV → PS → Prop} {l0 : Int} : pm_Run d 220 176 [.inr (.inr (.inl l0))] [] (G, M, T) K ↔ K PU (G, M, T) := by
  refine (px_rv (by decide +kernel)).trans ?_
  exact Iff.rfl
-- X12_finishes finishes(I)V
theorem en221 {d : Nat} {a p0 : Int} {S : PS} {K : PV → PS → Prop} : pm_Call (d + 1) 221 [.inr (.inr (.inl a)), .inl p0] S K ↔ pm_Run d 221 0 [.inr (.inr (.inl a)), .inl p0, PU] [] S K := pm_Call_s.trans (and_iff_right (show 2 ≤ pm_ml 221 from by decide +kernel))
theorem b221_0 {d : Nat} {G : PG} {M T : PH} {K : PV → PS → Prop} {l0 l1 : Int} (h1 : pm_ob G l0 12) : pm_Run d 221 0 [.inr (.inr (.inl l0)), .inl l1, PU] [] (G, M, T) K ↔ pm_Call d 186 [.inr (.inr (.inl l0))] (G, M, T) (fun r S1 => pm_Run d 221 4 [.inr (.inr (.inl l0)), .inl l1, PU] (pm_push r []) S1 K) := by
  refine (px_go (by decide +kernel : pm_fe 221 0 = some (.aload_n 0, 1)) rfl).trans ?_
  refine (px_v0 (idx := 262) (m' := 186) (ci := 12) (by decide +kernel)).trans ((and_iff_right ⟨h1, (by simp [pm_wl_n, pm_wl_c, pm_w] : pm_wl [] ≤ 8)⟩).trans ?_)
  exact Iff.rfl
theorem b221_4 {d : Nat} {G : PG} {M T : PH} {K : PV → PS → Prop} {l0 l1 : Int} (h1 : pm_ob G l0 12) : pm_Run d 221 4 [.inr (.inr (.inl l0)), .inl l1, PU] [] (G, M, T) K ↔ if pm_sg (M l0.toNat 8) ≤ 0 then pm_Run d 221 12 [.inr (.inr (.inl l0)), .inl l1, PU] [] (G, M, T) K else pm_Run d 221 11 [.inr (.inr (.inl l0)), .inl l1, PU] [] (G, M, T) K := by
  refine (px_go (by decide +kernel : pm_fe 221 4 = some (.aload_n 0, 1)) rfl).trans ?_
  refine (px_get0 (idx := 36) (ci := 12) (k := 8) (by decide +kernel)).trans ((and_iff_right h1).trans ?_)
  refine (px_if_le (off := 4) (tgt := 12) (by decide +kernel)).trans ?_
  exact Iff.rfl
theorem b221_11 {d : Nat} {G : PG} {M T : PH} {K : PV → PS → Prop} {l0 l1 : Int} : pm_Run d 221 11 [.inr (.inr (.inl l0)), .inl l1, PU] [] (G, M, T) K ↔ K PU (G, M, T) := by
  refine (px_rv (by decide +kernel)).trans ?_
  exact Iff.rfl
theorem b221_12 {d : Nat} {G : PG} {M T : PH} {K : PV → PS → Prop} {l0 l1 : Int} (h1 : pm_ob G l0 12) : pm_Run d 221 12 [.inr (.inr (.inl l0)), .inl l1, PU] [] (G, M, T) K ↔ pm_Run d 221 17 [.inr (.inr (.inl l0)), .inl l1, .inl (M l0.toNat 5)] [] (G, M, T) K := by
  refine (px_go (by decide +kernel : pm_fe 221 12 = some (.aload_n 0, 1)) rfl).trans ?_
  refine (px_get0 (idx := 26) (ci := 12) (k := 5) (by decide +kernel)).trans ((and_iff_right h1).trans ?_)
  refine (px_go (by decide +kernel : pm_fe 221 16 = some (.istore_n 2, 1)) rfl).trans ?_
  exact Iff.rfl
theorem b221_17 {d : Nat} {G : PG} {M T : PH} {K : PV → PS → Prop} {l0 l1 l2 : Int} (h1 : pm_ob G l0 12) : pm_Run d 221 17 [.inr (.inr (.inl l0)), .inl l1, .inl l2] [] (G, M, T) K ↔ if pm_sg (M l0.toNat 2) ≤ pm_sg l2 then pm_Run d 221 53 [.inr (.inr (.inl l0)), .inl l1, .inl l2] [] (G, M, T) K else pm_Run d 221 25 [.inr (.inr (.inl l0)), .inl l1, .inl l2] [] (G, M, T) K := by
  refine (px_go (by decide +kernel : pm_fe 221 17 = some (.iload_n 2, 1)) rfl).trans ?_
  refine (px_go (by decide +kernel : pm_fe 221 18 = some (.aload_n 0, 1)) rfl).trans ?_
  refine (px_get0 (idx := 17) (ci := 12) (k := 2) (by decide +kernel)).trans ((and_iff_right h1).trans ?_)
  refine (px_ic_ge (off := 31) (tgt := 53) (by decide +kernel)).trans ?_
  exact Iff.rfl
theorem b221_25 {d : Nat} {G : PG} {M T : PH} {K : PV → PS → Prop} {l0 l1 l2 : Int} (h1 : pm_ob G l0 12) (h2 : pm_ar G (T l0.toNat 0) 100 l2) : pm_Run d 221 25 [.inr (.inr (.inl l0)), .inl l1, .inl l2] [] (G, M, T) K ↔ if pm_sg (M (T l0.toNat 0).toNat (pm_sg l2).toNat) = pm_sg 32 then pm_Run d 221 47 [.inr (.inr (.inl l0)), .inl l1, .inl l2] [] (G, M, T) K else pm_Run d 221 36 [.inr (.inr (.inl l0)), .inl l1, .inl l2] [] (G, M, T) K := by
  refine (px_go (by decide +kernel : pm_fe 221 25 = some (.aload_n 0, 1)) rfl).trans ?_
  refine (px_get2 (idx := 7) (ci := 12) (k := 0) (by decide +kernel)).trans ((and_iff_right h1).trans ?_)
  refine (px_go (by decide +kernel : pm_fe 221 29 = some (.iload_n 2, 1)) rfl).trans ?_
  refine (px_iaload (by decide +kernel) h2).trans ?_
  refine (px_go (by decide +kernel : pm_fe 221 31 = some (.bipush 32, 2)) rfl).trans ?_
  refine (px_ic_eq (off := 14) (tgt := 47) (by decide +kernel)).trans ?_
  exact Iff.rfl
theorem b221_36 {d : Nat} {G : PG} {M T : PH} {K : PV → PS → Prop} {l0 l1 l2 : Int} (h1 : pm_ob G l0 12) (h2 : pm_ar G (T l0.toNat 0) 100 l2) : pm_Run d 221 36 [.inr (.inr (.inl l0)), .inl l1, .inl l2] [] (G, M, T) K ↔ if pm_sg (M (T l0.toNat 0).toNat (pm_sg l2).toNat) ≠ pm_sg 10 then pm_Run d 221 53 [.inr (.inr (.inl l0)), .inl l1, .inl l2] [] (G, M, T) K else pm_Run d 221 47 [.inr (.inr (.inl l0)), .inl l1, .inl l2] [] (G, M, T) K := by
  refine (px_go (by decide +kernel : pm_fe 221 36 = some (.aload_n 0, 1)) rfl).trans ?_
  refine (px_get2 (idx := 7) (ci := 12) (k := 0) (by decide +kernel)).trans ((and_iff_right h1).trans ?_)
  refine (px_go (by decide +kernel : pm_fe 221 40 = some (.iload_n 2, 1)) rfl).trans ?_
  refine (px_iaload (by decide +kernel) h2).trans ?_
  refine (px_go (by decide +kernel : pm_fe 221 42 = some (.bipush 10, 2)) rfl).trans ?_
  refine (px_ic_ne (off := 9) (tgt := 53) (by decide +kernel)).trans ?_
  exact Iff.rfl
theorem b221_47 {d : Nat} {G : PG} {M T : PH} {K : PV → PS → Prop} {l0 l1 l2 : Int} : pm_Run d 221 47 [.inr (.inr (.inl l0)), .inl l1, .inl l2] [] (G, M, T) K ↔ pm_Run d 221 17 [.inr (.inr (.inl l0)), .inl l1, .inl (l2 + 1)] [] (G, M, T) K := by
  refine (px_go (by decide +kernel : pm_fe 221 47 = some (.iinc 2 1, 3)) rfl).trans ?_
  refine (px_goto (off := (-33)) (tgt := 17) (by decide +kernel)).trans ?_
  exact Iff.rfl
theorem b221_53 {d : Nat} {G : PG} {M T : PH} {K : PV → PS → Prop} {l0 l1 l2 : Int} (h1 : pm_ob G l0 12) : pm_Run d 221 53 [.inr (.inr (.inl l0)), .inl l1, .inl l2] [] (G, M, T) K ↔ pm_Call d 188 [.inr (.inr (.inl l0)), .inl 59] (G, M, T) (fun r S1 => pm_Run d 221 59 [.inr (.inr (.inl l0)), .inl l1, .inl l2] (pm_push r []) S1 K) := by
  refine (px_go (by decide +kernel : pm_fe 221 53 = some (.aload_n 0, 1)) rfl).trans ?_
  refine (px_go (by decide +kernel : pm_fe 221 54 = some (.bipush 59, 2)) rfl).trans ?_
  refine (px_v1 (idx := 265) (m' := 188) (ci := 12) (by decide +kernel)).trans ((and_iff_right ⟨h1, (by simp [pm_wl_n, pm_wl_c, pm_w] : pm_wl [] ≤ 8)⟩).trans ?_)
  exact Iff.rfl
theorem b221_59 {d : Nat} {G : PG} {M T : PH} {K : PV → PS → Prop} {l0 l1 l2 s0 : Int} : pm_Run d 221 59 [.inr (.inr (.inl l0)), .inl l1, .inl l2] [.inl s0] (G, M, T) K ↔ if pm_sg s0 = 0 then pm_Run d 221 83 [.inr (.inr (.inl l0)), .inl l1, .inl l2] [] (G, M, T) K else pm_Run d 221 62 [.inr (.inr (.inl l0)), .inl l1, .inl l2] [] (G, M, T) K := by
  refine (px_if_eq (off := 24) (tgt := 83) (by decide +kernel)).trans ?_
  exact Iff.rfl
theorem b221_62 {d : Nat} {G : PG} {M T : PH} {K : PV → PS → Prop} {l0 l1 l2 : Int} : pm_Run d 221 62 [.inr (.inr (.inl l0)), .inl l1, .inl l2] [] (G, M, T) K ↔ if pm_sg l1 ≠ pm_sg 80 then pm_Run d 221 83 [.inr (.inr (.inl l0)), .inl l1, .inl l2] [] (G, M, T) K else pm_Run d 221 68 [.inr (.inr (.inl l0)), .inl l1, .inl l2] [] (G, M, T) K := by
  refine (px_go (by decide +kernel : pm_fe 221 62 = some (.iload_n 1, 1)) rfl).trans ?_
  refine (px_go (by decide +kernel : pm_fe 221 63 = some (.bipush 80, 2)) rfl).trans ?_
  refine (px_ic_ne (off := 18) (tgt := 83) (by decide +kernel)).trans ?_
  exact Iff.rfl
theorem b221_68 {d : Nat} {G : PG} {M T : PH} {K : PV → PS → Prop} {l0 l1 l2 : Int} (h1 : pm_ob G l0 12) : pm_Run d 221 68 [.inr (.inr (.inl l0)), .inl l1, .inl l2] [] (G, M, T) K ↔ if pm_sg (M l0.toNat 2) ≤ pm_sg l2 then pm_Run d 221 83 [.inr (.inr (.inl l0)), .inl l1, .inl l2] [] (G, M, T) K else pm_Run d 221 76 [.inr (.inr (.inl l0)), .inl l1, .inl l2] [] (G, M, T) K := by
  refine (px_go (by decide +kernel : pm_fe 221 68 = some (.iload_n 2, 1)) rfl).trans ?_
  refine (px_go (by decide +kernel : pm_fe 221 69 = some (.aload_n 0, 1)) rfl).trans ?_
  refine (px_get0 (idx := 17) (ci := 12) (k := 2) (by decide +kernel)).trans ((and_iff_right h1).trans ?_)
  refine (px_ic_ge (off := 10) (tgt := 83) (by decide +kernel)).trans ?_
  exact Iff.rfl
theorem b221_76 {d : Nat} {G : PG} {M T : PH} {K : PV → PS → Prop} {l0 l1 l2 : Int} (h1 : pm_ob G l0 12) : pm_Run d 221 76 [.inr (.inr (.inl l0)), .inl l1, .inl l2] [] (G, M, T) K ↔ pm_Call d 183 [.inr (.inr (.inl l0)), .inl 6, .inl l2] (G, M, T) (fun r S1 => pm_Run d 221 83 [.inr (.inr (.inl l0)), .inl l1, .inl l2] (pm_push r []) S1 K) := by
  refine (px_go (by decide +kernel : pm_fe 221 76 = some (.aload_n 0, 1)) rfl).trans ?_
  refine (px_go (by decide +kernel : pm_fe 221 77 = some (.bipush 6, 2)) rfl).trans ?_
  refine (px_go (by decide +kernel : pm_fe 221 79 = some (.iload_n 2, 1)) rfl).trans ?_
  refine (px_v2 (idx := 251) (m' := 183) (ci := 12) (by decide +kernel)).trans ((and_iff_right ⟨h1, (by simp [pm_wl_n, pm_wl_c, pm_w] : pm_wl [] ≤ 8)⟩).trans ?_)
  exact Iff.rfl
theorem b221_83 {d : Nat} {G : PG} {M T : PH} {K : PV → PS → Prop} {l0 l1 l2 : Int} (h1 : pm_ob G l0 12) : pm_Run d 221 83 [.inr (.inr (.inl l0)), .inl l1, .inl l2] [] (G, M, T) K ↔ pm_Call d 190 [.inr (.inr (.inl l0)), .inl 59] (G, M, T) (fun r S1 => pm_Run d 221 89 [.inr (.inr (.inl l0)), .inl l1, .inl l2] (pm_push r []) S1 K) := by
  refine (px_go (by decide +kernel : pm_fe 221 83 = some (.aload_n 0, 1)) rfl).trans ?_
  refine (px_go (by decide +kernel : pm_fe 221 84 = some (.bipush 59, 2)) rfl).trans ?_
  refine (px_v1 (idx := 431) (m' := 190) (ci := 12) (by decide +kernel)).trans ((and_iff_right ⟨h1, (by simp [pm_wl_n, pm_wl_c, pm_w] : pm_wl [] ≤ 8)⟩).trans ?_)
  exact Iff.rfl
theorem b221_89 {d : Nat} {G : PG} {M T : PH} {K : PV → PS → Prop} {l0 l1 l2 : Int} : pm_Run d 221 89 [.inr (.inr (.inl l0)), .inl l1, .inl l2] [] (G, M, T) K ↔ K PU (G, M, T) := by
  refine (px_rv (by decide +kernel)).trans ?_
  exact Iff.rfl
-- X12_sea sea()I
theorem en222 {d : Nat} {a : Int} {S : PS} {K : PV → PS → Prop} : pm_Call (d + 1) 222 [.inr (.inr (.inl a))] S K ↔ pm_Run d 222 0 [.inr (.inr (.inl a)), PU] [] S K := pm_Call_s.trans (and_iff_right (show 1 ≤ pm_ml 222 from by decide +kernel))
theorem b222_0 {d : Nat} {G : PG} {M T : PH} {K : PV → PS → Prop} {l0 : Int} (h1 : pm_ob G l0 12) : pm_Run d 222 0 [.inr (.inr (.inl l0)), PU] [] (G, M, T) K ↔ pm_Run d 222 18 [.inr (.inr (.inl l0)), PU] [] (G, pm_sa (pm_sa (pm_sa M l0.toNat (pm_up (M l0.toNat) 2 (M l0.toNat 1))) l0.toNat (pm_up ((pm_sa M l0.toNat (pm_up (M l0.toNat) 2 (M l0.toNat 1))) l0.toNat) 1 0)) l0.toNat (pm_up ((pm_sa (pm_sa M l0.toNat (pm_up (M l0.toNat) 2 (M l0.toNat 1))) l0.toNat (pm_up ((pm_sa M l0.toNat (pm_up (M l0.toNat) 2 (M l0.toNat 1))) l0.toNat) 1 0)) l0.toNat) 5 0), T) K := by
  refine (px_go (by decide +kernel : pm_fe 222 0 = some (.aload_n 0, 1)) rfl).trans ?_
  refine (px_go (by decide +kernel : pm_fe 222 1 = some (.aload_n 0, 1)) rfl).trans ?_
  refine (px_get0 (idx := 13) (ci := 12) (k := 1) (by decide +kernel)).trans ((and_iff_right h1).trans ?_)
  refine (px_put0 (idx := 17) (ci := 12) (k := 2) (by decide +kernel)).trans ((and_iff_right h1).trans ?_)
  refine (px_go (by decide +kernel : pm_fe 222 8 = some (.aload_n 0, 1)) rfl).trans ?_
  refine (px_go (by decide +kernel : pm_fe 222 9 = some (.iconst 0, 1)) rfl).trans ?_
  refine (px_put0 (idx := 13) (ci := 12) (k := 1) (by decide +kernel)).trans ((and_iff_right h1).trans ?_)
  refine (px_go (by decide +kernel : pm_fe 222 13 = some (.aload_n 0, 1)) rfl).trans ?_
  refine (px_go (by decide +kernel : pm_fe 222 14 = some (.iconst 0, 1)) rfl).trans ?_
  refine (px_put0 (idx := 26) (ci := 12) (k := 5) (by decide +kernel)).trans ((and_iff_right h1).trans ?_)
  exact Iff.rfl
theorem b222_18 {d : Nat} {G : PG} {M T : PH} {K : PV → PS → Prop} {l0 : Int} (h1 : pm_ob G l0 12) : pm_Run d 222 18 [.inr (.inr (.inl l0)), PU] [] (G, M, T) K ↔ pm_Run d 222 38 [.inr (.inr (.inl l0)), PU] [] (G, pm_sa (pm_sa (pm_sa M l0.toNat (pm_up (M l0.toNat) 8 0)) l0.toNat (pm_up ((pm_sa M l0.toNat (pm_up (M l0.toNat) 8 0)) l0.toNat) 9 (-1))) l0.toNat (pm_up ((pm_sa (pm_sa M l0.toNat (pm_up (M l0.toNat) 8 0)) l0.toNat (pm_up ((pm_sa M l0.toNat (pm_up (M l0.toNat) 8 0)) l0.toNat) 9 (-1))) l0.toNat) 42 (1 - ((pm_sa (pm_sa M l0.toNat (pm_up (M l0.toNat) 8 0)) l0.toNat (pm_up ((pm_sa M l0.toNat (pm_up (M l0.toNat) 8 0)) l0.toNat) 9 (-1))) l0.toNat 13))), T) K := by
  refine (px_go (by decide +kernel : pm_fe 222 18 = some (.aload_n 0, 1)) rfl).trans ?_
  refine (px_go (by decide +kernel : pm_fe 222 19 = some (.iconst 0, 1)) rfl).trans ?_
  refine (px_put0 (idx := 36) (ci := 12) (k := 8) (by decide +kernel)).trans ((and_iff_right h1).trans ?_)
  refine (px_go (by decide +kernel : pm_fe 222 23 = some (.aload_n 0, 1)) rfl).trans ?_
  refine (px_go (by decide +kernel : pm_fe 222 24 = some (.iconst (-1), 1)) rfl).trans ?_
  refine (px_put0 (idx := 39) (ci := 12) (k := 9) (by decide +kernel)).trans ((and_iff_right h1).trans ?_)
  refine (px_go (by decide +kernel : pm_fe 222 28 = some (.aload_n 0, 1)) rfl).trans ?_
  refine (px_go (by decide +kernel : pm_fe 222 29 = some (.iconst 1, 1)) rfl).trans ?_
  refine (px_go (by decide +kernel : pm_fe 222 30 = some (.aload_n 0, 1)) rfl).trans ?_
  refine (px_get0 (idx := 51) (ci := 12) (k := 13) (by decide +kernel)).trans ((and_iff_right h1).trans ?_)
  refine (px_go (by decide +kernel : pm_fe 222 34 = some (.isub, 1)) rfl).trans ?_
  refine (px_put0 (idx := 139) (ci := 12) (k := 42) (by decide +kernel)).trans ((and_iff_right h1).trans ?_)
  exact Iff.rfl
theorem b222_38 {d : Nat} {G : PG} {M T : PH} {K : PV → PS → Prop} {l0 : Int} (h1 : pm_ob G l0 12) (h2 : pm_ar G (T l0.toNat 15) 100 (M l0.toNat 42)) (h3 : pm_ar G (T l0.toNat 19) 100 ((pm_sa M (T l0.toNat 15).toNat (pm_up (M (T l0.toNat 15).toNat) (pm_sg (M l0.toNat 42)).toNat 0)) l0.toNat 42)) : pm_Run d 222 38 [.inr (.inr (.inl l0)), PU] [] (G, M, T) K ↔ pm_Run d 222 58 [.inr (.inr (.inl l0)), PU] [] (G, pm_sa (pm_sa M (T l0.toNat 15).toNat (pm_up (M (T l0.toNat 15).toNat) (pm_sg (M l0.toNat 42)).toNat 0)) (T l0.toNat 19).toNat (pm_up ((pm_sa M (T l0.toNat 15).toNat (pm_up (M (T l0.toNat 15).toNat) (pm_sg (M l0.toNat 42)).toNat 0)) (T l0.toNat 19).toNat) (pm_sg ((pm_sa M (T l0.toNat 15).toNat (pm_up (M (T l0.toNat 15).toNat) (pm_sg (M l0.toNat 42)).toNat 0)) l0.toNat 42)).toNat 0), T) K := by
  refine (px_go (by decide +kernel : pm_fe 222 38 = some (.aload_n 0, 1)) rfl).trans ?_
  refine (px_get2 (idx := 57) (ci := 12) (k := 15) (by decide +kernel)).trans ((and_iff_right h1).trans ?_)
  refine (px_go (by decide +kernel : pm_fe 222 42 = some (.aload_n 0, 1)) rfl).trans ?_
  refine (px_get0 (idx := 139) (ci := 12) (k := 42) (by decide +kernel)).trans ((and_iff_right h1).trans ?_)
  refine (px_go (by decide +kernel : pm_fe 222 46 = some (.iconst 0, 1)) rfl).trans ?_
  refine (px_iastore (by decide +kernel)).trans ((and_iff_right h2).trans ?_)
  refine (px_go (by decide +kernel : pm_fe 222 48 = some (.aload_n 0, 1)) rfl).trans ?_
  refine (px_get2 (idx := 69) (ci := 12) (k := 19) (by decide +kernel)).trans ((and_iff_right h1).trans ?_)
  refine (px_go (by decide +kernel : pm_fe 222 52 = some (.aload_n 0, 1)) rfl).trans ?_
  refine (px_get0 (idx := 139) (ci := 12) (k := 42) (by decide +kernel)).trans ((and_iff_right h1).trans ?_)
  refine (px_go (by decide +kernel : pm_fe 222 56 = some (.iconst 0, 1)) rfl).trans ?_
  refine (px_iastore (by decide +kernel)).trans ((and_iff_right h3).trans ?_)
  exact Iff.rfl
theorem b222_58 {d : Nat} {G : PG} {M T : PH} {K : PV → PS → Prop} {l0 : Int} (h1 : pm_ob G l0 12) (h2 : pm_ar G (T l0.toNat 24) 100 (M l0.toNat 42)) (h3 : pm_ar G (T l0.toNat 28) 100 ((pm_sa M (T l0.toNat 24).toNat (pm_up (M (T l0.toNat 24).toNat) (pm_sg (M l0.toNat 42)).toNat 0)) l0.toNat 42)) : pm_Run d 222 58 [.inr (.inr (.inl l0)), PU] [] (G, M, T) K ↔ pm_Run d 222 78 [.inr (.inr (.inl l0)), PU] [] (G, pm_sa (pm_sa M (T l0.toNat 24).toNat (pm_up (M (T l0.toNat 24).toNat) (pm_sg (M l0.toNat 42)).toNat 0)) (T l0.toNat 28).toNat (pm_up ((pm_sa M (T l0.toNat 24).toNat (pm_up (M (T l0.toNat 24).toNat) (pm_sg (M l0.toNat 42)).toNat 0)) (T l0.toNat 28).toNat) (pm_sg ((pm_sa M (T l0.toNat 24).toNat (pm_up (M (T l0.toNat 24).toNat) (pm_sg (M l0.toNat 42)).toNat 0)) l0.toNat 42)).toNat 0), T) K := by
  refine (px_go (by decide +kernel : pm_fe 222 58 = some (.aload_n 0, 1)) rfl).trans ?_
  refine (px_get2 (idx := 84) (ci := 12) (k := 24) (by decide +kernel)).trans ((and_iff_right h1).trans ?_)
  refine (px_go (by decide +kernel : pm_fe 222 62 = some (.aload_n 0, 1)) rfl).trans ?_
  refine (px_get0 (idx := 139) (ci := 12) (k := 42) (by decide +kernel)).trans ((and_iff_right h1).trans ?_)
  refine (px_go (by decide +kernel : pm_fe 222 66 = some (.iconst 0, 1)) rfl).trans ?_
  refine (px_iastore (by decide +kernel)).trans ((and_iff_right h2).trans ?_)
  refine (px_go (by decide +kernel : pm_fe 222 68 = some (.aload_n 0, 1)) rfl).trans ?_
  refine (px_get2 (idx := 96) (ci := 12) (k := 28) (by decide +kernel)).trans ((and_iff_right h1).trans ?_)
  refine (px_go (by decide +kernel : pm_fe 222 72 = some (.aload_n 0, 1)) rfl).trans ?_
  refine (px_get0 (idx := 139) (ci := 12) (k := 42) (by decide +kernel)).trans ((and_iff_right h1).trans ?_)
  refine (px_go (by decide +kernel : pm_fe 222 76 = some (.iconst 0, 1)) rfl).trans ?_
  refine (px_iastore (by decide +kernel)).trans ((and_iff_right h3).trans ?_)
  exact Iff.rfl
theorem b222_78 {d : Nat} {G : PG} {M T : PH} {K : PV → PS → Prop} {l0 : Int} (h1 : pm_ob G l0 12) (h2 : pm_ar G (T l0.toNat 31) 100 (M l0.toNat 42)) (h3 : pm_ar G (T l0.toNat 33) 100 ((pm_sa M (T l0.toNat 31).toNat (pm_up (M (T l0.toNat 31).toNat) (pm_sg (M l0.toNat 42)).toNat (-1))) l0.toNat 42)) : pm_Run d 222 78 [.inr (.inr (.inl l0)), PU] [] (G, M, T) K ↔ pm_Run d 222 98 [.inr (.inr (.inl l0)), PU] [] (G, pm_sa (pm_sa M (T l0.toNat 31).toNat (pm_up (M (T l0.toNat 31).toNat) (pm_sg (M l0.toNat 42)).toNat (-1))) (T l0.toNat 33).toNat (pm_up ((pm_sa M (T l0.toNat 31).toNat (pm_up (M (T l0.toNat 31).toNat) (pm_sg (M l0.toNat 42)).toNat (-1))) (T l0.toNat 33).toNat) (pm_sg ((pm_sa M (T l0.toNat 31).toNat (pm_up (M (T l0.toNat 31).toNat) (pm_sg (M l0.toNat 42)).toNat (-1))) l0.toNat 42)).toNat (-1)), T) K := by
  refine (px_go (by decide +kernel : pm_fe 222 78 = some (.aload_n 0, 1)) rfl).trans ?_
  refine (px_get2 (idx := 105) (ci := 12) (k := 31) (by decide +kernel)).trans ((and_iff_right h1).trans ?_)
  refine (px_go (by decide +kernel : pm_fe 222 82 = some (.aload_n 0, 1)) rfl).trans ?_
  refine (px_get0 (idx := 139) (ci := 12) (k := 42) (by decide +kernel)).trans ((and_iff_right h1).trans ?_)
  refine (px_go (by decide +kernel : pm_fe 222 86 = some (.iconst (-1), 1)) rfl).trans ?_
  refine (px_iastore (by decide +kernel)).trans ((and_iff_right h2).trans ?_)
  refine (px_go (by decide +kernel : pm_fe 222 88 = some (.aload_n 0, 1)) rfl).trans ?_
  refine (px_get2 (idx := 111) (ci := 12) (k := 33) (by decide +kernel)).trans ((and_iff_right h1).trans ?_)
  refine (px_go (by decide +kernel : pm_fe 222 92 = some (.aload_n 0, 1)) rfl).trans ?_
  refine (px_get0 (idx := 139) (ci := 12) (k := 42) (by decide +kernel)).trans ((and_iff_right h1).trans ?_)
  refine (px_go (by decide +kernel : pm_fe 222 96 = some (.iconst (-1), 1)) rfl).trans ?_
  refine (px_iastore (by decide +kernel)).trans ((and_iff_right h3).trans ?_)
  exact Iff.rfl
theorem b222_98 {d : Nat} {G : PG} {M T : PH} {K : PV → PS → Prop} {l0 : Int} (h1 : pm_ob G l0 12) (h2 : pm_ar G (T l0.toNat 35) 100 (M l0.toNat 42)) (h3 : pm_ar G (T l0.toNat 36) 100 ((pm_sa M (T l0.toNat 35).toNat (pm_up (M (T l0.toNat 35).toNat) (pm_sg (M l0.toNat 42)).toNat 20)) l0.toNat 42)) : pm_Run d 222 98 [.inr (.inr (.inl l0)), PU] [] (G, M, T) K ↔ pm_Run d 222 120 [.inr (.inr (.inl l0)), PU] [] (G, pm_sa (pm_sa M (T l0.toNat 35).toNat (pm_up (M (T l0.toNat 35).toNat) (pm_sg (M l0.toNat 42)).toNat 20)) (T l0.toNat 36).toNat (pm_up ((pm_sa M (T l0.toNat 35).toNat (pm_up (M (T l0.toNat 35).toNat) (pm_sg (M l0.toNat 42)).toNat 20)) (T l0.toNat 36).toNat) (pm_sg ((pm_sa M (T l0.toNat 35).toNat (pm_up (M (T l0.toNat 35).toNat) (pm_sg (M l0.toNat 42)).toNat 20)) l0.toNat 42)).toNat 50), T) K := by
  refine (px_go (by decide +kernel : pm_fe 222 98 = some (.aload_n 0, 1)) rfl).trans ?_
  refine (px_get2 (idx := 117) (ci := 12) (k := 35) (by decide +kernel)).trans ((and_iff_right h1).trans ?_)
  refine (px_go (by decide +kernel : pm_fe 222 102 = some (.aload_n 0, 1)) rfl).trans ?_
  refine (px_get0 (idx := 139) (ci := 12) (k := 42) (by decide +kernel)).trans ((and_iff_right h1).trans ?_)
  refine (px_go (by decide +kernel : pm_fe 222 106 = some (.bipush 20, 2)) rfl).trans ?_
  refine (px_iastore (by decide +kernel)).trans ((and_iff_right h2).trans ?_)
  refine (px_go (by decide +kernel : pm_fe 222 109 = some (.aload_n 0, 1)) rfl).trans ?_
  refine (px_get2 (idx := 120) (ci := 12) (k := 36) (by decide +kernel)).trans ((and_iff_right h1).trans ?_)
  refine (px_go (by decide +kernel : pm_fe 222 113 = some (.aload_n 0, 1)) rfl).trans ?_
  refine (px_get0 (idx := 139) (ci := 12) (k := 42) (by decide +kernel)).trans ((and_iff_right h1).trans ?_)
  refine (px_go (by decide +kernel : pm_fe 222 117 = some (.bipush 50, 2)) rfl).trans ?_
  refine (px_iastore (by decide +kernel)).trans ((and_iff_right h3).trans ?_)
  exact Iff.rfl
theorem b222_120 {d : Nat} {G : PG} {M T : PH} {K : PV → PS → Prop} {l0 : Int} (h1 : pm_ob G l0 12) : pm_Run d 222 120 [.inr (.inr (.inl l0)), PU] [] (G, M, T) K ↔ pm_Call d 187 [.inr (.inr (.inl l0))] (G, pm_sa M l0.toNat (pm_up (M l0.toNat) 41 0), T) (fun r S1 => pm_Run d 222 131 [.inr (.inr (.inl l0)), .inl 1] (pm_push r []) S1 K) := by
  refine (px_go (by decide +kernel : pm_fe 222 120 = some (.aload_n 0, 1)) rfl).trans ?_
  refine (px_go (by decide +kernel : pm_fe 222 121 = some (.iconst 0, 1)) rfl).trans ?_
  refine (px_put0 (idx := 136) (ci := 12) (k := 41) (by decide +kernel)).trans ((and_iff_right h1).trans ?_)
  refine (px_go (by decide +kernel : pm_fe 222 125 = some (.iconst 1, 1)) rfl).trans ?_
  refine (px_go (by decide +kernel : pm_fe 222 126 = some (.istore_n 1, 1)) rfl).trans ?_
  refine (px_go (by decide +kernel : pm_fe 222 127 = some (.aload_n 0, 1)) rfl).trans ?_
  refine (px_v0 (idx := 268) (m' := 187) (ci := 12) (by decide +kernel)).trans ((and_iff_right ⟨h1, (by simp [pm_wl_n, pm_wl_c, pm_w] : pm_wl [] ≤ 8)⟩).trans ?_)
  exact Iff.rfl
theorem b222_131 {d : Nat} {G : PG} {M T : PH} {K : PV → PS → Prop} {l0 l1 : Int} (h1 : pm_ob G l0 12) : pm_Run d 222 131 [.inr (.inr (.inl l0)), .inl l1] [] (G, M, T) K ↔ pm_Call d 208 [.inr (.inr (.inl l0)), .inr (.inl 7562593)] (G, M, T) (fun r S1 => pm_Run d 222 138 [.inr (.inr (.inl l0)), .inl l1] (pm_push r []) S1 K) := by
  refine (px_go (by decide +kernel : pm_fe 222 131 = some (.aload_n 0, 1)) rfl).trans ?_
  refine (px_ldcL (idx := 271) (x := 7562593) (by decide +kernel)).trans ?_
  refine (px_v1 (idx := 393) (m' := 208) (ci := 12) (by decide +kernel)).trans ((and_iff_right ⟨h1, (by simp [pm_wl_n, pm_wl_c, pm_w] : pm_wl [] ≤ 8)⟩).trans ?_)
  exact Iff.rfl
theorem b222_138 {d : Nat} {G : PG} {M T : PH} {K : PV → PS → Prop} {l0 l1 : Int} (h1 : pm_ob G l0 12) : pm_Run d 222 138 [.inr (.inr (.inl l0)), .inl l1] [] (G, M, T) K ↔ pm_Call d 196 [.inr (.inr (.inl l0)), .inl 4, .inl 24] (G, M, T) (fun r S1 => pm_Run d 222 153 [.inr (.inr (.inl l0)), .inl l1] (pm_push r [.inl (M l0.toNat 42), .inr (.inr (.inl (T l0.toNat 14)))]) S1 K) := by
  refine (px_go (by decide +kernel : pm_fe 222 138 = some (.aload_n 0, 1)) rfl).trans ?_
  refine (px_get2 (idx := 54) (ci := 12) (k := 14) (by decide +kernel)).trans ((and_iff_right h1).trans ?_)
  refine (px_go (by decide +kernel : pm_fe 222 142 = some (.aload_n 0, 1)) rfl).trans ?_
  refine (px_get0 (idx := 139) (ci := 12) (k := 42) (by decide +kernel)).trans ((and_iff_right h1).trans ?_)
  refine (px_go (by decide +kernel : pm_fe 222 146 = some (.aload_n 0, 1)) rfl).trans ?_
  refine (px_go (by decide +kernel : pm_fe 222 147 = some (.iconst 4, 1)) rfl).trans ?_
  refine (px_go (by decide +kernel : pm_fe 222 148 = some (.bipush 24, 2)) rfl).trans ?_
  refine (px_v2 (idx := 397) (m' := 196) (ci := 12) (by decide +kernel)).trans ((and_iff_right ⟨h1, (by simp [pm_wl_n, pm_wl_c, pm_w] : pm_wl [.inl (M l0.toNat 42), .inr (.inr (.inl (T l0.toNat 14)))] ≤ 8)⟩).trans ?_)
  exact Iff.rfl
theorem b222_153 {d : Nat} {G : PG} {M T : PH} {K : PV → PS → Prop} {l0 l1 s0 s1 s2 : Int} (h1 : pm_ar G s2 100 s1) (h2 : pm_ob G l0 12) : pm_Run d 222 153 [.inr (.inr (.inl l0)), .inl l1] [.inl s0, .inl s1, .inr (.inr (.inl s2))] (G, M, T) K ↔ pm_Call d 221 [.inr (.inr (.inl l0)), .inl l1] (G, pm_sa M s2.toNat (pm_up (M s2.toNat) (pm_sg s1).toNat s0), T) (fun r S1 => pm_Run d 222 159 [.inr (.inr (.inl l0)), .inl l1] (pm_push r []) S1 K) := by
  refine (px_iastore (by decide +kernel)).trans ((and_iff_right h1).trans ?_)
  refine (px_go (by decide +kernel : pm_fe 222 154 = some (.aload_n 0, 1)) rfl).trans ?_
  refine (px_go (by decide +kernel : pm_fe 222 155 = some (.iload_n 1, 1)) rfl).trans ?_
  refine (px_v1 (idx := 433) (m' := 221) (ci := 12) (by decide +kernel)).trans ((and_iff_right ⟨h2, (by simp [pm_wl_n, pm_wl_c, pm_w] : pm_wl [] ≤ 8)⟩).trans ?_)
  exact Iff.rfl
theorem b222_159 {d : Nat} {G : PG} {M T : PH} {K : PV → PS → Prop} {l0 l1 : Int} (h1 : pm_ob G l0 12) : pm_Run d 222 159 [.inr (.inr (.inl l0)), .inl l1] [] (G, M, T) K ↔ if pm_sg (M l0.toNat 8) ≠ 0 then pm_Run d 222 188 [.inr (.inr (.inl l0)), .inl l1] [] (G, M, T) K else pm_Run d 222 166 [.inr (.inr (.inl l0)), .inl l1] [] (G, M, T) K := by
  refine (px_go (by decide +kernel : pm_fe 222 159 = some (.aload_n 0, 1)) rfl).trans ?_
  refine (px_get0 (idx := 36) (ci := 12) (k := 8) (by decide +kernel)).trans ((and_iff_right h1).trans ?_)
  refine (px_if_ne (off := 25) (tgt := 188) (by decide +kernel)).trans ?_
  exact Iff.rfl
theorem b222_166 {d : Nat} {G : PG} {M T : PH} {K : PV → PS → Prop} {l0 l1 : Int} (h1 : pm_ob G l0 12) : pm_Run d 222 166 [.inr (.inr (.inl l0)), .inl l1] [] (G, M, T) K ↔ if pm_sg (M l0.toNat 3) = 0 then pm_Run d 222 188 [.inr (.inr (.inl l0)), .inl l1] [] (G, M, T) K else pm_Run d 222 173 [.inr (.inr (.inl l0)), .inl l1] [] (G, M, T) K := by
  refine (px_go (by decide +kernel : pm_fe 222 166 = some (.aload_n 0, 1)) rfl).trans ?_
  refine (px_get0 (idx := 20) (ci := 12) (k := 3) (by decide +kernel)).trans ((and_iff_right h1).trans ?_)
  refine (px_if_eq (off := 18) (tgt := 188) (by decide +kernel)).trans ?_
  exact Iff.rfl
theorem b222_173 {d : Nat} {G : PG} {M T : PH} {K : PV → PS → Prop} {l0 l1 : Int} (h1 : pm_ob G l0 12) : pm_Run d 222 173 [.inr (.inr (.inl l0)), .inl l1] [] (G, M, T) K ↔ pm_Call d 220 [.inr (.inr (.inl l0))] (G, M, T) (fun r S1 => pm_Run d 222 177 [.inr (.inr (.inl l0)), .inl l1] (pm_push r []) S1 K) := by
  refine (px_go (by decide +kernel : pm_fe 222 173 = some (.aload_n 0, 1)) rfl).trans ?_
  refine (px_v0 (idx := 436) (m' := 220) (ci := 12) (by decide +kernel)).trans ((and_iff_right ⟨h1, (by simp [pm_wl_n, pm_wl_c, pm_w] : pm_wl [] ≤ 8)⟩).trans ?_)
  exact Iff.rfl
theorem b222_177 {d : Nat} {G : PG} {M T : PH} {K : PV → PS → Prop} {l0 l1 : Int} (h1 : pm_ob G l0 12) : pm_Run d 222 177 [.inr (.inr (.inl l0)), .inl l1] [] (G, M, T) K ↔ pm_Call d 221 [.inr (.inr (.inl l0)), .inl (l1 + 1)] (G, M, T) (fun r S1 => pm_Run d 222 185 [.inr (.inr (.inl l0)), .inl (l1 + 1)] (pm_push r []) S1 K) := by
  refine (px_go (by decide +kernel : pm_fe 222 177 = some (.iinc 1 1, 3)) rfl).trans ?_
  refine (px_go (by decide +kernel : pm_fe 222 180 = some (.aload_n 0, 1)) rfl).trans ?_
  refine (px_go (by decide +kernel : pm_fe 222 181 = some (.iload_n 1, 1)) rfl).trans ?_
  refine (px_v1 (idx := 433) (m' := 221) (ci := 12) (by decide +kernel)).trans ((and_iff_right ⟨h1, (by simp [pm_wl_n, pm_wl_c, pm_w] : pm_wl [] ≤ 8)⟩).trans ?_)
  exact Iff.rfl
theorem b222_185 {d : Nat} {G : PG} {M T : PH} {K : PV → PS → Prop} {l0 l1 : Int} : pm_Run d 222 185 [.inr (.inr (.inl l0)), .inl l1] [] (G, M, T) K ↔ pm_Run d 222 159 [.inr (.inr (.inl l0)), .inl l1] [] (G, M, T) K := by
  refine (px_goto (off := (-26)) (tgt := 159) (by decide +kernel)).trans ?_
  exact Iff.rfl
theorem b222_188 {d : Nat} {G : PG} {M T : PH} {K : PV → PS → Prop} {l0 l1 : Int} (h1 : pm_ob G l0 12) : pm_Run d 222 188 [.inr (.inr (.inl l0)), .inl l1] [] (G, M, T) K ↔ pm_Run d 222 204 [.inr (.inr (.inl l0)), .inl l1] [] (G, pm_sa (pm_sa M l0.toNat (pm_up (M l0.toNat) 10 (M l0.toNat 8))) l0.toNat (pm_up ((pm_sa M l0.toNat (pm_up (M l0.toNat) 10 (M l0.toNat 8))) l0.toNat) 11 ((pm_sa M l0.toNat (pm_up (M l0.toNat) 10 (M l0.toNat 8))) l0.toNat 9)), T) K := by
  refine (px_go (by decide +kernel : pm_fe 222 188 = some (.aload_n 0, 1)) rfl).trans ?_
  refine (px_go (by decide +kernel : pm_fe 222 189 = some (.aload_n 0, 1)) rfl).trans ?_
  refine (px_get0 (idx := 36) (ci := 12) (k := 8) (by decide +kernel)).trans ((and_iff_right h1).trans ?_)
  refine (px_put0 (idx := 42) (ci := 12) (k := 10) (by decide +kernel)).trans ((and_iff_right h1).trans ?_)
  refine (px_go (by decide +kernel : pm_fe 222 196 = some (.aload_n 0, 1)) rfl).trans ?_
  refine (px_go (by decide +kernel : pm_fe 222 197 = some (.aload_n 0, 1)) rfl).trans ?_
  refine (px_get0 (idx := 39) (ci := 12) (k := 9) (by decide +kernel)).trans ((and_iff_right h1).trans ?_)
  refine (px_put0 (idx := 45) (ci := 12) (k := 11) (by decide +kernel)).trans ((and_iff_right h1).trans ?_)
  exact Iff.rfl
theorem b222_204 {d : Nat} {G : PG} {M T : PH} {K : PV → PS → Prop} {l0 l1 : Int} (h1 : pm_ob G l0 12) : pm_Run d 222 204 [.inr (.inr (.inl l0)), .inl l1] [] (G, M, T) K ↔ if pm_sg (M l0.toNat 8) ≤ 0 then pm_Run d 222 217 [.inr (.inr (.inl l0)), .inl l1] [] (G, M, T) K else pm_Run d 222 211 [.inr (.inr (.inl l0)), .inl l1] [] (G, M, T) K := by
  refine (px_go (by decide +kernel : pm_fe 222 204 = some (.aload_n 0, 1)) rfl).trans ?_
  refine (px_get0 (idx := 36) (ci := 12) (k := 8) (by decide +kernel)).trans ((and_iff_right h1).trans ?_)
  refine (px_if_le (off := 9) (tgt := 217) (by decide +kernel)).trans ?_
  exact Iff.rfl
theorem b222_211 {d : Nat} {G : PG} {M T : PH} {K : PV → PS → Prop} {l0 l1 : Int} (h1 : pm_ob G l0 12) : pm_Run d 222 211 [.inr (.inr (.inl l0)), .inl l1] [] (G, M, T) K ↔ pm_Call d 224 [.inr (.inr (.inl l0)), .inl 1] (G, M, T) (fun r S1 => pm_Run d 222 216 [.inr (.inr (.inl l0)), .inl l1] (pm_push r []) S1 K) := by
  refine (px_go (by decide +kernel : pm_fe 222 211 = some (.aload_n 0, 1)) rfl).trans ?_
  refine (px_go (by decide +kernel : pm_fe 222 212 = some (.iconst 1, 1)) rfl).trans ?_
  refine (px_v1 (idx := 243) (m' := 224) (ci := 12) (by decide +kernel)).trans ((and_iff_right ⟨h1, (by simp [pm_wl_n, pm_wl_c, pm_w] : pm_wl [] ≤ 8)⟩).trans ?_)
  exact Iff.rfl
theorem b222_216 {d : Nat} {G : PG} {M T : PH} {K : PV → PS → Prop} {l0 l1 s0 : Int} : pm_Run d 222 216 [.inr (.inr (.inl l0)), .inl l1] [.inl s0] (G, M, T) K ↔ K (.inl s0) (G, M, T) := by
  refine (px_ri (by decide +kernel)).trans ?_
  exact Iff.rfl
theorem b222_217 {d : Nat} {G : PG} {M T : PH} {K : PV → PS → Prop} {l0 l1 : Int} (h1 : pm_ob G l0 12) : pm_Run d 222 217 [.inr (.inr (.inl l0)), .inl l1] [] (G, M, T) K ↔ pm_Call d 233 [.inr (.inr (.inl l0))] (G, pm_sa M l0.toNat (pm_up (M l0.toNat) 13 (M l0.toNat 42)), T) (fun r S1 => pm_Run d 222 229 [.inr (.inr (.inl l0)), .inl l1] (pm_push r []) S1 K) := by
  refine (px_go (by decide +kernel : pm_fe 222 217 = some (.aload_n 0, 1)) rfl).trans ?_
  refine (px_go (by decide +kernel : pm_fe 222 218 = some (.aload_n 0, 1)) rfl).trans ?_
  refine (px_get0 (idx := 139) (ci := 12) (k := 42) (by decide +kernel)).trans ((and_iff_right h1).trans ?_)
  refine (px_put0 (idx := 51) (ci := 12) (k := 13) (by decide +kernel)).trans ((and_iff_right h1).trans ?_)
  refine (px_go (by decide +kernel : pm_fe 222 225 = some (.aload_n 0, 1)) rfl).trans ?_
  refine (px_v0 (idx := 439) (m' := 233) (ci := 12) (by decide +kernel)).trans ((and_iff_right ⟨h1, (by simp [pm_wl_n, pm_wl_c, pm_w] : pm_wl [] ≤ 8)⟩).trans ?_)
  exact Iff.rfl
theorem b222_229 {d : Nat} {G : PG} {M T : PH} {K : PV → PS → Prop} {l0 l1 : Int} : pm_Run d 222 229 [.inr (.inr (.inl l0)), .inl l1] [] (G, M, T) K ↔ K (.inl l1) (G, M, T) := by
  refine (px_go (by decide +kernel : pm_fe 222 229 = some (.iload_n 1, 1)) rfl).trans ?_
  refine (px_ri (by decide +kernel)).trans ?_
  exact Iff.rfl
-- X12_fault fault(I)I
theorem en223 {d : Nat} {a p0 : Int} {S : PS} {K : PV → PS → Prop} : pm_Call (d + 1) 223 [.inr (.inr (.inl a)), .inl p0] S K ↔ pm_Run d 223 0 [.inr (.inr (.inl a)), .inl p0] [] S K := pm_Call_s.trans (and_iff_right (show 2 ≤ pm_ml 223 from by decide +kernel))
theorem b223_0 {d : Nat} {G : PG} {M T : PH} {K : PV → PS → Prop} {l0 l1 : Int} : pm_Run d 223 0 [.inr (.inr (.inl l0)), .inl l1] [] (G, M, T) K ↔ if pm_sg l1 ≠ 0 then pm_Run d 223 11 [.inr (.inr (.inl l0)), .inl l1] [] (G, M, T) K else pm_Run d 223 4 [.inr (.inr (.inl l0)), .inl l1] [] (G, M, T) K := by
  refine (px_go (by decide +kernel : pm_fe 223 0 = some (.iload_n 1, 1)) rfl).trans ?_
  refine (px_if_ne (off := 10) (tgt := 11) (by decide +kernel)).trans ?_
  exact Iff.rfl
theorem b223_4 {d : Nat} {G : PG} {M T : PH} {K : PV → PS → Prop} {l0 l1 : Int} (h1 : pm_ob G l0 12) : pm_Run d 223 4 [.inr (.inr (.inl l0)), .inl l1] [] (G, M, T) K ↔ pm_Run d 223 24 [.inr (.inr (.inl l0)), .inl l1] [.inl (M l0.toNat 10)] (G, M, T) K := by
  refine (px_go (by decide +kernel : pm_fe 223 4 = some (.aload_n 0, 1)) rfl).trans ?_
  refine (px_get0 (idx := 42) (ci := 12) (k := 10) (by decide +kernel)).trans ((and_iff_right h1).trans ?_)
  refine (px_goto (off := 16) (tgt := 24) (by decide +kernel)).trans ?_
  exact Iff.rfl
theorem b223_11 {d : Nat} {G : PG} {M T : PH} {K : PV → PS → Prop} {l0 l1 : Int} : pm_Run d 223 11 [.inr (.inr (.inl l0)), .inl l1] [] (G, M, T) K ↔ if pm_sg l1 ≠ pm_sg 1 then pm_Run d 223 23 [.inr (.inr (.inl l0)), .inl l1] [] (G, M, T) K else pm_Run d 223 16 [.inr (.inr (.inl l0)), .inl l1] [] (G, M, T) K := by
  refine (px_go (by decide +kernel : pm_fe 223 11 = some (.iload_n 1, 1)) rfl).trans ?_
  refine (px_go (by decide +kernel : pm_fe 223 12 = some (.iconst 1, 1)) rfl).trans ?_
  refine (px_ic_ne (off := 10) (tgt := 23) (by decide +kernel)).trans ?_
  exact Iff.rfl
theorem b223_16 {d : Nat} {G : PG} {M T : PH} {K : PV → PS → Prop} {l0 l1 : Int} (h1 : pm_ob G l0 12) : pm_Run d 223 16 [.inr (.inr (.inl l0)), .inl l1] [] (G, M, T) K ↔ pm_Run d 223 24 [.inr (.inr (.inl l0)), .inl l1] [.inl (M l0.toNat 11)] (G, M, T) K := by
  refine (px_go (by decide +kernel : pm_fe 223 16 = some (.aload_n 0, 1)) rfl).trans ?_
  refine (px_get0 (idx := 45) (ci := 12) (k := 11) (by decide +kernel)).trans ((and_iff_right h1).trans ?_)
  refine (px_goto (off := 4) (tgt := 24) (by decide +kernel)).trans ?_
  exact Iff.rfl
theorem b223_23 {d : Nat} {G : PG} {M T : PH} {K : PV → PS → Prop} {l0 l1 : Int} : pm_Run d 223 23 [.inr (.inr (.inl l0)), .inl l1] [] (G, M, T) K ↔ pm_Run d 223 24 [.inr (.inr (.inl l0)), .inl l1] [.inl (-1)] (G, M, T) K := by
  refine (px_go (by decide +kernel : pm_fe 223 23 = some (.iconst (-1), 1)) rfl).trans ?_
  exact Iff.rfl
theorem b223_24 {d : Nat} {G : PG} {M T : PH} {K : PV → PS → Prop} {l0 l1 s0 : Int} : pm_Run d 223 24 [.inr (.inr (.inl l0)), .inl l1] [.inl s0] (G, M, T) K ↔ K (.inl s0) (G, M, T) := by
  refine (px_ri (by decide +kernel)).trans ?_
  exact Iff.rfl
-- X12_refuses refuses(I)I
theorem en224 {d : Nat} {a p0 : Int} {S : PS} {K : PV → PS → Prop} : pm_Call (d + 1) 224 [.inr (.inr (.inl a)), .inl p0] S K ↔ pm_Run d 224 0 [.inr (.inr (.inl a)), .inl p0] [] S K := pm_Call_s.trans (and_iff_right (show 2 ≤ pm_ml 224 from by decide +kernel))
theorem b224_0 {d : Nat} {G : PG} {M T : PH} {K : PV → PS → Prop} {l0 l1 : Int} (h1 : pm_ob G l0 12) (h2 : pm_ar G (T l0.toNat 53) 100 l1) : pm_Run d 224 0 [.inr (.inr (.inl l0)), .inl l1] [] (G, M, T) K ↔ K (.inl (-1)) (G, pm_sa M (T l0.toNat 53).toNat (pm_up (M (T l0.toNat 53).toNat) (pm_sg l1).toNat ((M (T l0.toNat 53).toNat (pm_sg l1).toNat) + 1)), T) := by
  refine (px_go (by decide +kernel : pm_fe 224 0 = some (.aload_n 0, 1)) rfl).trans ?_
  refine (px_get2 (idx := 174) (ci := 12) (k := 53) (by decide +kernel)).trans ((and_iff_right h1).trans ?_)
  refine (px_go (by decide +kernel : pm_fe 224 4 = some (.iload_n 1, 1)) rfl).trans ?_
  refine (px_go (by decide +kernel : pm_fe 224 5 = some (.dup2, 1)) rfl).trans ?_
  refine (px_iaload (by decide +kernel) h2).trans ?_
  refine (px_go (by decide +kernel : pm_fe 224 7 = some (.iconst 1, 1)) rfl).trans ?_
  refine (px_go (by decide +kernel : pm_fe 224 8 = some (.iadd, 1)) rfl).trans ?_
  refine (px_iastore (by decide +kernel)).trans ((and_iff_right h2).trans ?_)
  refine (px_go (by decide +kernel : pm_fe 224 10 = some (.iconst (-1), 1)) rfl).trans ?_
  refine (px_ri (by decide +kernel)).trans ?_
  exact Iff.rfl
-- X12_status status(I)I
theorem en225 {d : Nat} {a p0 : Int} {S : PS} {K : PV → PS → Prop} : pm_Call (d + 1) 225 [.inr (.inr (.inl a)), .inl p0] S K ↔ pm_Run d 225 0 [.inr (.inr (.inl a)), .inl p0] [] S K := pm_Call_s.trans (and_iff_right (show 2 ≤ pm_ml 225 from by decide +kernel))
theorem b225_0 {d : Nat} {G : PG} {M T : PH} {K : PV → PS → Prop} {l0 l1 : Int} : pm_Run d 225 0 [.inr (.inr (.inl l0)), .inl l1] [] (G, M, T) K ↔ pm_Call d 179 [.inl l1, .inl 0, .inl 5] (G, M, T) (fun r S1 => pm_Run d 225 6 [.inr (.inr (.inl l0)), .inl l1] (pm_push r []) S1 K) := by
  refine (px_go (by decide +kernel : pm_fe 225 0 = some (.iload_n 1, 1)) rfl).trans ?_
  refine (px_go (by decide +kernel : pm_fe 225 1 = some (.iconst 0, 1)) rfl).trans ?_
  refine (px_go (by decide +kernel : pm_fe 225 2 = some (.iconst 5, 1)) rfl).trans ?_
  refine (px_s3 (idx := 337) (m' := 179) (nest := 0) (by decide +kernel)).trans ((and_iff_right (by simp [pm_wl_n, pm_wl_c, pm_w] : pm_wl [] ≤ 8)).trans ?_)
  exact Iff.rfl
theorem b225_6 {d : Nat} {G : PG} {M T : PH} {K : PV → PS → Prop} {l0 l1 s0 : Int} : pm_Run d 225 6 [.inr (.inr (.inl l0)), .inl l1] [.inl s0] (G, M, T) K ↔ if pm_sg s0 = 0 then pm_Run d 225 18 [.inr (.inr (.inl l0)), .inl l1] [] (G, M, T) K else pm_Run d 225 9 [.inr (.inr (.inl l0)), .inl l1] [] (G, M, T) K := by
  refine (px_if_eq (off := 12) (tgt := 18) (by decide +kernel)).trans ?_
  exact Iff.rfl
theorem b225_9 {d : Nat} {G : PG} {M T : PH} {K : PV → PS → Prop} {l0 l1 : Int} (h1 : pm_ob G l0 12) (h2 : pm_ar G (T l0.toNat 53) 100 l1) : pm_Run d 225 9 [.inr (.inr (.inl l0)), .inl l1] [] (G, M, T) K ↔ pm_Run d 225 19 [.inr (.inr (.inl l0)), .inl l1] [.inl (M (T l0.toNat 53).toNat (pm_sg l1).toNat)] (G, M, T) K := by
  refine (px_go (by decide +kernel : pm_fe 225 9 = some (.aload_n 0, 1)) rfl).trans ?_
  refine (px_get2 (idx := 174) (ci := 12) (k := 53) (by decide +kernel)).trans ((and_iff_right h1).trans ?_)
  refine (px_go (by decide +kernel : pm_fe 225 13 = some (.iload_n 1, 1)) rfl).trans ?_
  refine (px_iaload (by decide +kernel) h2).trans ?_
  refine (px_goto (off := 4) (tgt := 19) (by decide +kernel)).trans ?_
  exact Iff.rfl
theorem b225_18 {d : Nat} {G : PG} {M T : PH} {K : PV → PS → Prop} {l0 l1 : Int} : pm_Run d 225 18 [.inr (.inr (.inl l0)), .inl l1] [] (G, M, T) K ↔ pm_Run d 225 19 [.inr (.inr (.inl l0)), .inl l1] [.inl (-1)] (G, M, T) K := by
  refine (px_go (by decide +kernel : pm_fe 225 18 = some (.iconst (-1), 1)) rfl).trans ?_
  exact Iff.rfl
theorem b225_19 {d : Nat} {G : PG} {M T : PH} {K : PV → PS → Prop} {l0 l1 s0 : Int} : pm_Run d 225 19 [.inr (.inr (.inl l0)), .inl l1] [.inl s0] (G, M, T) K ↔ K (.inl s0) (G, M, T) := by
  refine (px_ri (by decide +kernel)).trans ?_
  exact Iff.rfl
