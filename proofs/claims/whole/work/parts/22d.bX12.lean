-- X12_lastAhead lastAhead()I
theorem en258 {d : Nat} {a : Int} {S : PS} {K : PV → PS → Prop} : pm_Call (d + 1) 258 [.inr (.inr (.inl a))] S K ↔ pm_Run d 258 0 [.inr (.inr (.inl a))] [] S K := pm_Call_s.trans (and_iff_right (show 1 ≤ pm_ml 258 from by decide +kernel))
theorem b258_0 {d : Nat} {G : PG} {M T : PH} {K : PV → PS → Prop} {l0 : Int} (h1 : pm_ob G l0 12) (h2 : pm_ar G (T l0.toNat 54) 100 0) : pm_Run d 258 0 [.inr (.inr (.inl l0))] [] (G, M, T) K ↔ if pm_sg 48 ≤ pm_sg (9999 - (M (T l0.toNat 54).toNat (pm_sg 0).toNat)) then pm_Run d 258 28 [.inr (.inr (.inl l0))] [] (G, M, T) K else pm_Run d 258 15 [.inr (.inr (.inl l0))] [] (G, M, T) K := by
  refine (px_go (by decide +kernel : pm_fe 258 0 = some (.sipush 9999, 3)) rfl).trans ?_
  refine (px_go (by decide +kernel : pm_fe 258 3 = some (.aload_n 0, 1)) rfl).trans ?_
  refine (px_get2 (idx := 177) (ci := 12) (k := 54) (by decide +kernel)).trans ((and_iff_right h1).trans ?_)
  refine (px_go (by decide +kernel : pm_fe 258 7 = some (.iconst 0, 1)) rfl).trans ?_
  refine (px_iaload (by decide +kernel) h2).trans ?_
  refine (px_go (by decide +kernel : pm_fe 258 9 = some (.isub, 1)) rfl).trans ?_
  refine (px_go (by decide +kernel : pm_fe 258 10 = some (.bipush 48, 2)) rfl).trans ?_
  refine (px_ic_ge (off := 16) (tgt := 28) (by decide +kernel)).trans ?_
  exact Iff.rfl
theorem b258_15 {d : Nat} {G : PG} {M T : PH} {K : PV → PS → Prop} {l0 : Int} (h1 : pm_ob G l0 12) (h2 : pm_ar G (T l0.toNat 54) 100 0) : pm_Run d 258 15 [.inr (.inr (.inl l0))] [] (G, M, T) K ↔ pm_Run d 258 30 [.inr (.inr (.inl l0))] [.inl (9999 - (M (T l0.toNat 54).toNat (pm_sg 0).toNat))] (G, M, T) K := by
  refine (px_go (by decide +kernel : pm_fe 258 15 = some (.sipush 9999, 3)) rfl).trans ?_
  refine (px_go (by decide +kernel : pm_fe 258 18 = some (.aload_n 0, 1)) rfl).trans ?_
  refine (px_get2 (idx := 177) (ci := 12) (k := 54) (by decide +kernel)).trans ((and_iff_right h1).trans ?_)
  refine (px_go (by decide +kernel : pm_fe 258 22 = some (.iconst 0, 1)) rfl).trans ?_
  refine (px_iaload (by decide +kernel) h2).trans ?_
  refine (px_go (by decide +kernel : pm_fe 258 24 = some (.isub, 1)) rfl).trans ?_
  refine (px_goto (off := 5) (tgt := 30) (by decide +kernel)).trans ?_
  exact Iff.rfl
theorem b258_28 {d : Nat} {G : PG} {M T : PH} {K : PV → PS → Prop} {l0 : Int} : pm_Run d 258 28 [.inr (.inr (.inl l0))] [] (G, M, T) K ↔ pm_Run d 258 30 [.inr (.inr (.inl l0))] [.inl 48] (G, M, T) K := by
  refine (px_go (by decide +kernel : pm_fe 258 28 = some (.bipush 48, 2)) rfl).trans ?_
  exact Iff.rfl
theorem b258_30 {d : Nat} {G : PG} {M T : PH} {K : PV → PS → Prop} {l0 s0 : Int} : pm_Run d 258 30 [.inr (.inr (.inl l0))] [.inl s0] (G, M, T) K ↔ K (.inl s0) (G, M, T) := by
  refine (px_ri (by decide +kernel)).trans ?_
  exact Iff.rfl
-- X12_isAhead isAhead(I)Z
theorem en259 {d : Nat} {a p0 : Int} {S : PS} {K : PV → PS → Prop} : pm_Call (d + 1) 259 [.inr (.inr (.inl a)), .inl p0] S K ↔ pm_Run d 259 0 [.inr (.inr (.inl a)), .inl p0] [] S K := pm_Call_s.trans (and_iff_right (show 2 ≤ pm_ml 259 from by decide +kernel))
theorem b259_0 {d : Nat} {G : PG} {M T : PH} {K : PV → PS → Prop} {l0 l1 : Int} (h1 : pm_ob G l0 12) : pm_Run d 259 0 [.inr (.inr (.inl l0)), .inl l1] [] (G, M, T) K ↔ pm_Call d 226 [.inr (.inr (.inl l0))] (G, M, T) (fun r S1 => pm_Run d 259 4 [.inr (.inr (.inl l0)), .inl l1] (pm_push r []) S1 K) := by
  refine (px_go (by decide +kernel : pm_fe 259 0 = some (.aload_n 0, 1)) rfl).trans ?_
  refine (px_v0 (idx := 523) (m' := 226) (ci := 12) (by decide +kernel)).trans ((and_iff_right ⟨h1, (by simp [pm_wl_n, pm_wl_c, pm_w] : pm_wl [] ≤ 8)⟩).trans ?_)
  exact Iff.rfl
theorem b259_4 {d : Nat} {G : PG} {M T : PH} {K : PV → PS → Prop} {l0 l1 s0 : Int} : pm_Run d 259 4 [.inr (.inr (.inl l0)), .inl l1] [.inl s0] (G, M, T) K ↔ if pm_sg s0 = 0 then pm_Run d 259 23 [.inr (.inr (.inl l0)), .inl l1] [] (G, M, T) K else pm_Run d 259 7 [.inr (.inr (.inl l0)), .inl l1] [] (G, M, T) K := by
  refine (px_if_eq (off := 19) (tgt := 23) (by decide +kernel)).trans ?_
  exact Iff.rfl
theorem b259_7 {d : Nat} {G : PG} {M T : PH} {K : PV → PS → Prop} {l0 l1 : Int} (h1 : pm_ob G l0 12) : pm_Run d 259 7 [.inr (.inr (.inl l0)), .inl l1] [] (G, M, T) K ↔ pm_Call d 258 [.inr (.inr (.inl l0))] (G, M, T) (fun r S1 => pm_Run d 259 13 [.inr (.inr (.inl l0)), .inl l1] (pm_push r [.inl 0, .inl l1]) S1 K) := by
  refine (px_go (by decide +kernel : pm_fe 259 7 = some (.iload_n 1, 1)) rfl).trans ?_
  refine (px_go (by decide +kernel : pm_fe 259 8 = some (.iconst 0, 1)) rfl).trans ?_
  refine (px_go (by decide +kernel : pm_fe 259 9 = some (.aload_n 0, 1)) rfl).trans ?_
  refine (px_v0 (idx := 526) (m' := 258) (ci := 12) (by decide +kernel)).trans ((and_iff_right ⟨h1, (by simp [pm_wl_n, pm_wl_c, pm_w] : pm_wl [.inl 0, .inl l1] ≤ 8)⟩).trans ?_)
  exact Iff.rfl
theorem b259_13 {d : Nat} {G : PG} {M T : PH} {K : PV → PS → Prop} {l0 l1 s0 s1 s2 : Int} : pm_Run d 259 13 [.inr (.inr (.inl l0)), .inl l1] [.inl s0, .inl s1, .inl s2] (G, M, T) K ↔ pm_Call d 179 [.inl s2, .inl s1, .inl s0] (G, M, T) (fun r S1 => pm_Run d 259 16 [.inr (.inr (.inl l0)), .inl l1] (pm_push r []) S1 K) := by
  refine (px_s3 (idx := 337) (m' := 179) (nest := 0) (by decide +kernel)).trans ((and_iff_right (by simp [pm_wl_n, pm_wl_c, pm_w] : pm_wl [] ≤ 8)).trans ?_)
  exact Iff.rfl
theorem b259_16 {d : Nat} {G : PG} {M T : PH} {K : PV → PS → Prop} {l0 l1 s0 : Int} : pm_Run d 259 16 [.inr (.inr (.inl l0)), .inl l1] [.inl s0] (G, M, T) K ↔ if pm_sg s0 = 0 then pm_Run d 259 23 [.inr (.inr (.inl l0)), .inl l1] [] (G, M, T) K else pm_Run d 259 19 [.inr (.inr (.inl l0)), .inl l1] [] (G, M, T) K := by
  refine (px_if_eq (off := 7) (tgt := 23) (by decide +kernel)).trans ?_
  exact Iff.rfl
theorem b259_19 {d : Nat} {G : PG} {M T : PH} {K : PV → PS → Prop} {l0 l1 : Int} : pm_Run d 259 19 [.inr (.inr (.inl l0)), .inl l1] [] (G, M, T) K ↔ pm_Run d 259 24 [.inr (.inr (.inl l0)), .inl l1] [.inl 1] (G, M, T) K := by
  refine (px_go (by decide +kernel : pm_fe 259 19 = some (.iconst 1, 1)) rfl).trans ?_
  refine (px_goto (off := 4) (tgt := 24) (by decide +kernel)).trans ?_
  exact Iff.rfl
theorem b259_23 {d : Nat} {G : PG} {M T : PH} {K : PV → PS → Prop} {l0 l1 : Int} : pm_Run d 259 23 [.inr (.inr (.inl l0)), .inl l1] [] (G, M, T) K ↔ pm_Run d 259 24 [.inr (.inr (.inl l0)), .inl l1] [.inl 0] (G, M, T) K := by
  refine (px_go (by decide +kernel : pm_fe 259 23 = some (.iconst 0, 1)) rfl).trans ?_
  exact Iff.rfl
theorem b259_24 {d : Nat} {G : PG} {M T : PH} {K : PV → PS → Prop} {l0 l1 s0 : Int} (h1 : s0 = 0 ∨ s0 = 1) : pm_Run d 259 24 [.inr (.inr (.inl l0)), .inl l1] [.inl s0] (G, M, T) K ↔ K (.inl s0) (G, M, T) := by
  refine (px_rz (by decide +kernel)).trans ((and_iff_right h1).trans ?_)
  exact Iff.rfl
-- X12_goesAhead goesAhead(I)V
theorem en260 {d : Nat} {a p0 : Int} {S : PS} {K : PV → PS → Prop} : pm_Call (d + 1) 260 [.inr (.inr (.inl a)), .inl p0] S K ↔ pm_Run d 260 0 [.inr (.inr (.inl a)), .inl p0, PU] [] S K := pm_Call_s.trans (and_iff_right (show 2 ≤ pm_ml 260 from by decide +kernel))
theorem b260_0 {d : Nat} {G : PG} {M T : PH} {K : PV → PS → Prop} {l0 l1 : Int} (h1 : pm_ob G l0 12) : pm_Run d 260 0 [.inr (.inr (.inl l0)), .inl l1, PU] [] (G, M, T) K ↔ pm_Call d 232 [.inr (.inr (.inl l0)), .inl 1, .inl 0] (G, M, T) (fun r S1 => pm_Run d 260 6 [.inr (.inr (.inl l0)), .inl l1, PU] (pm_push r []) S1 K) := by
  refine (px_go (by decide +kernel : pm_fe 260 0 = some (.aload_n 0, 1)) rfl).trans ?_
  refine (px_go (by decide +kernel : pm_fe 260 1 = some (.iconst 1, 1)) rfl).trans ?_
  refine (px_go (by decide +kernel : pm_fe 260 2 = some (.iconst 0, 1)) rfl).trans ?_
  refine (px_v2 (idx := 445) (m' := 232) (ci := 12) (by decide +kernel)).trans ((and_iff_right ⟨h1, (by simp [pm_wl_n, pm_wl_c, pm_w] : pm_wl [] ≤ 8)⟩).trans ?_)
  exact Iff.rfl
theorem b260_6 {d : Nat} {G : PG} {M T : PH} {K : PV → PS → Prop} {l0 l1 : Int} : pm_Run d 260 6 [.inr (.inr (.inl l0)), .inl l1, PU] [] (G, M, T) K ↔ pm_Run d 260 8 [.inr (.inr (.inl l0)), .inl l1, .inl 0] [] (G, M, T) K := by
  refine (px_go (by decide +kernel : pm_fe 260 6 = some (.iconst 0, 1)) rfl).trans ?_
  refine (px_go (by decide +kernel : pm_fe 260 7 = some (.istore_n 2, 1)) rfl).trans ?_
  exact Iff.rfl
theorem b260_8 {d : Nat} {G : PG} {M T : PH} {K : PV → PS → Prop} {l0 l1 l2 : Int} : pm_Run d 260 8 [.inr (.inr (.inl l0)), .inl l1, .inl l2] [] (G, M, T) K ↔ if pm_sg l1 ≤ pm_sg l2 then pm_Run d 260 24 [.inr (.inr (.inl l0)), .inl l1, .inl l2] [] (G, M, T) K else pm_Run d 260 13 [.inr (.inr (.inl l0)), .inl l1, .inl l2] [] (G, M, T) K := by
  refine (px_go (by decide +kernel : pm_fe 260 8 = some (.iload_n 2, 1)) rfl).trans ?_
  refine (px_go (by decide +kernel : pm_fe 260 9 = some (.iload_n 1, 1)) rfl).trans ?_
  refine (px_ic_ge (off := 14) (tgt := 24) (by decide +kernel)).trans ?_
  exact Iff.rfl
theorem b260_13 {d : Nat} {G : PG} {M T : PH} {K : PV → PS → Prop} {l0 l1 l2 : Int} (h1 : pm_ob G l0 12) : pm_Run d 260 13 [.inr (.inr (.inl l0)), .inl l1, .inl l2] [] (G, M, T) K ↔ pm_Call d 257 [.inr (.inr (.inl l0)), .inl 1] (G, M, T) (fun r S1 => pm_Run d 260 18 [.inr (.inr (.inl l0)), .inl l1, .inl l2] (pm_push r []) S1 K) := by
  refine (px_go (by decide +kernel : pm_fe 260 13 = some (.aload_n 0, 1)) rfl).trans ?_
  refine (px_go (by decide +kernel : pm_fe 260 14 = some (.iconst 1, 1)) rfl).trans ?_
  refine (px_v1 (idx := 530) (m' := 257) (ci := 12) (by decide +kernel)).trans ((and_iff_right ⟨h1, (by simp [pm_wl_n, pm_wl_c, pm_w] : pm_wl [] ≤ 8)⟩).trans ?_)
  exact Iff.rfl
theorem b260_18 {d : Nat} {G : PG} {M T : PH} {K : PV → PS → Prop} {l0 l1 l2 : Int} : pm_Run d 260 18 [.inr (.inr (.inl l0)), .inl l1, .inl l2] [] (G, M, T) K ↔ pm_Run d 260 8 [.inr (.inr (.inl l0)), .inl l1, .inl (l2 + 1)] [] (G, M, T) K := by
  refine (px_go (by decide +kernel : pm_fe 260 18 = some (.iinc 2 1, 3)) rfl).trans ?_
  refine (px_goto (off := (-13)) (tgt := 8) (by decide +kernel)).trans ?_
  exact Iff.rfl
theorem b260_24 {d : Nat} {G : PG} {M T : PH} {K : PV → PS → Prop} {l0 l1 l2 : Int} (h1 : pm_ob G l0 12) : pm_Run d 260 24 [.inr (.inr (.inl l0)), .inl l1, .inl l2] [] (G, M, T) K ↔ pm_Call d 255 [.inr (.inr (.inl l0)), .inl 1] (G, M, T) (fun r S1 => pm_Run d 260 29 [.inr (.inr (.inl l0)), .inl l1, .inl l2] (pm_push r []) S1 K) := by
  refine (px_go (by decide +kernel : pm_fe 260 24 = some (.aload_n 0, 1)) rfl).trans ?_
  refine (px_go (by decide +kernel : pm_fe 260 25 = some (.iconst 1, 1)) rfl).trans ?_
  refine (px_v1 (idx := 513) (m' := 255) (ci := 12) (by decide +kernel)).trans ((and_iff_right ⟨h1, (by simp [pm_wl_n, pm_wl_c, pm_w] : pm_wl [] ≤ 8)⟩).trans ?_)
  exact Iff.rfl
theorem b260_29 {d : Nat} {G : PG} {M T : PH} {K : PV → PS → Prop} {l0 l1 l2 : Int} : pm_Run d 260 29 [.inr (.inr (.inl l0)), .inl l1, .inl l2] [] (G, M, T) K ↔ K PU (G, M, T) := by
  refine (px_rv (by decide +kernel)).trans ?_
  exact Iff.rfl
-- X12_has has(I)I
theorem en261 {d : Nat} {a p0 : Int} {S : PS} {K : PV → PS → Prop} : pm_Call (d + 1) 261 [.inr (.inr (.inl a)), .inl p0] S K ↔ pm_Run d 261 0 [.inr (.inr (.inl a)), .inl p0, PU, PU] [] S K := pm_Call_s.trans (and_iff_right (show 2 ≤ pm_ml 261 from by decide +kernel))
theorem b261_0 {d : Nat} {G : PG} {M T : PH} {K : PV → PS → Prop} {l0 l1 : Int} : pm_Run d 261 0 [.inr (.inr (.inl l0)), .inl l1, PU, PU] [] (G, M, T) K ↔ pm_Run d 261 (pm_tg 0 [64, 74, 84, 94, 104, 114, 124, 134, 141, 173, 205, 210] 216 (pm_sg l1)) [.inr (.inr (.inl l0)), .inl l1, .inl 0, PU] [] (G, M, T) K := by
  refine (px_go (by decide +kernel : pm_fe 261 0 = some (.iconst 0, 1)) rfl).trans ?_
  refine (px_go (by decide +kernel : pm_fe 261 1 = some (.istore_n 2, 1)) rfl).trans ?_
  refine (px_go (by decide +kernel : pm_fe 261 2 = some (.iload_n 1, 1)) rfl).trans ?_
  refine (px_tsw (lo := 0) (dt := 216) (tl := [64, 74, 84, 94, 104, 114, 124, 134, 141, 173, 205, 210]) (by decide +kernel : pm_fe 261 3 = some (.tableswitch 213 0 11 #[61, 71, 81, 91, 101, 111, 121, 131, 138, 170, 202, 207], 61) ∧ _)).trans ?_
  exact Iff.rfl
theorem b261_64 {d : Nat} {G : PG} {M T : PH} {K : PV → PS → Prop} {l0 l1 l2 : Int} (h1 : pm_ob G l0 12) (h2 : pm_ar G (T l0.toNat 14) 100 (M l0.toNat 13)) : pm_Run d 261 64 [.inr (.inr (.inl l0)), .inl l1, .inl l2, PU] [] (G, M, T) K ↔ K (.inl (M (T l0.toNat 14).toNat (pm_sg (M l0.toNat 13)).toNat)) (G, M, T) := by
  refine (px_go (by decide +kernel : pm_fe 261 64 = some (.aload_n 0, 1)) rfl).trans ?_
  refine (px_get2 (idx := 54) (ci := 12) (k := 14) (by decide +kernel)).trans ((and_iff_right h1).trans ?_)
  refine (px_go (by decide +kernel : pm_fe 261 68 = some (.aload_n 0, 1)) rfl).trans ?_
  refine (px_get0 (idx := 51) (ci := 12) (k := 13) (by decide +kernel)).trans ((and_iff_right h1).trans ?_)
  refine (px_iaload (by decide +kernel) h2).trans ?_
  refine (px_ri (by decide +kernel)).trans ?_
  exact Iff.rfl
theorem b261_74 {d : Nat} {G : PG} {M T : PH} {K : PV → PS → Prop} {l0 l1 l2 : Int} (h1 : pm_ob G l0 12) (h2 : pm_ar G (T l0.toNat 15) 100 (M l0.toNat 13)) : pm_Run d 261 74 [.inr (.inr (.inl l0)), .inl l1, .inl l2, PU] [] (G, M, T) K ↔ K (.inl (M (T l0.toNat 15).toNat (pm_sg (M l0.toNat 13)).toNat)) (G, M, T) := by
  refine (px_go (by decide +kernel : pm_fe 261 74 = some (.aload_n 0, 1)) rfl).trans ?_
  refine (px_get2 (idx := 57) (ci := 12) (k := 15) (by decide +kernel)).trans ((and_iff_right h1).trans ?_)
  refine (px_go (by decide +kernel : pm_fe 261 78 = some (.aload_n 0, 1)) rfl).trans ?_
  refine (px_get0 (idx := 51) (ci := 12) (k := 13) (by decide +kernel)).trans ((and_iff_right h1).trans ?_)
  refine (px_iaload (by decide +kernel) h2).trans ?_
  refine (px_ri (by decide +kernel)).trans ?_
  exact Iff.rfl
theorem b261_84 {d : Nat} {G : PG} {M T : PH} {K : PV → PS → Prop} {l0 l1 l2 : Int} (h1 : pm_ob G l0 12) (h2 : pm_ar G (T l0.toNat 19) 100 (M l0.toNat 13)) : pm_Run d 261 84 [.inr (.inr (.inl l0)), .inl l1, .inl l2, PU] [] (G, M, T) K ↔ K (.inl (M (T l0.toNat 19).toNat (pm_sg (M l0.toNat 13)).toNat)) (G, M, T) := by
  refine (px_go (by decide +kernel : pm_fe 261 84 = some (.aload_n 0, 1)) rfl).trans ?_
  refine (px_get2 (idx := 69) (ci := 12) (k := 19) (by decide +kernel)).trans ((and_iff_right h1).trans ?_)
  refine (px_go (by decide +kernel : pm_fe 261 88 = some (.aload_n 0, 1)) rfl).trans ?_
  refine (px_get0 (idx := 51) (ci := 12) (k := 13) (by decide +kernel)).trans ((and_iff_right h1).trans ?_)
  refine (px_iaload (by decide +kernel) h2).trans ?_
  refine (px_ri (by decide +kernel)).trans ?_
  exact Iff.rfl
theorem b261_94 {d : Nat} {G : PG} {M T : PH} {K : PV → PS → Prop} {l0 l1 l2 : Int} (h1 : pm_ob G l0 12) (h2 : pm_ar G (T l0.toNat 24) 100 (M l0.toNat 13)) : pm_Run d 261 94 [.inr (.inr (.inl l0)), .inl l1, .inl l2, PU] [] (G, M, T) K ↔ K (.inl (M (T l0.toNat 24).toNat (pm_sg (M l0.toNat 13)).toNat)) (G, M, T) := by
  refine (px_go (by decide +kernel : pm_fe 261 94 = some (.aload_n 0, 1)) rfl).trans ?_
  refine (px_get2 (idx := 84) (ci := 12) (k := 24) (by decide +kernel)).trans ((and_iff_right h1).trans ?_)
  refine (px_go (by decide +kernel : pm_fe 261 98 = some (.aload_n 0, 1)) rfl).trans ?_
  refine (px_get0 (idx := 51) (ci := 12) (k := 13) (by decide +kernel)).trans ((and_iff_right h1).trans ?_)
  refine (px_iaload (by decide +kernel) h2).trans ?_
  refine (px_ri (by decide +kernel)).trans ?_
  exact Iff.rfl
theorem b261_104 {d : Nat} {G : PG} {M T : PH} {K : PV → PS → Prop} {l0 l1 l2 : Int} (h1 : pm_ob G l0 12) (h2 : pm_ar G (T l0.toNat 28) 100 (M l0.toNat 13)) : pm_Run d 261 104 [.inr (.inr (.inl l0)), .inl l1, .inl l2, PU] [] (G, M, T) K ↔ K (.inl (M (T l0.toNat 28).toNat (pm_sg (M l0.toNat 13)).toNat)) (G, M, T) := by
  refine (px_go (by decide +kernel : pm_fe 261 104 = some (.aload_n 0, 1)) rfl).trans ?_
  refine (px_get2 (idx := 96) (ci := 12) (k := 28) (by decide +kernel)).trans ((and_iff_right h1).trans ?_)
  refine (px_go (by decide +kernel : pm_fe 261 108 = some (.aload_n 0, 1)) rfl).trans ?_
  refine (px_get0 (idx := 51) (ci := 12) (k := 13) (by decide +kernel)).trans ((and_iff_right h1).trans ?_)
  refine (px_iaload (by decide +kernel) h2).trans ?_
  refine (px_ri (by decide +kernel)).trans ?_
  exact Iff.rfl
theorem b261_114 {d : Nat} {G : PG} {M T : PH} {K : PV → PS → Prop} {l0 l1 l2 : Int} (h1 : pm_ob G l0 12) (h2 : pm_ar G (T l0.toNat 35) 100 (M l0.toNat 13)) : pm_Run d 261 114 [.inr (.inr (.inl l0)), .inl l1, .inl l2, PU] [] (G, M, T) K ↔ K (.inl (M (T l0.toNat 35).toNat (pm_sg (M l0.toNat 13)).toNat)) (G, M, T) := by
  refine (px_go (by decide +kernel : pm_fe 261 114 = some (.aload_n 0, 1)) rfl).trans ?_
  refine (px_get2 (idx := 117) (ci := 12) (k := 35) (by decide +kernel)).trans ((and_iff_right h1).trans ?_)
  refine (px_go (by decide +kernel : pm_fe 261 118 = some (.aload_n 0, 1)) rfl).trans ?_
  refine (px_get0 (idx := 51) (ci := 12) (k := 13) (by decide +kernel)).trans ((and_iff_right h1).trans ?_)
  refine (px_iaload (by decide +kernel) h2).trans ?_
  refine (px_ri (by decide +kernel)).trans ?_
  exact Iff.rfl
theorem b261_124 {d : Nat} {G : PG} {M T : PH} {K : PV → PS → Prop} {l0 l1 l2 : Int} (h1 : pm_ob G l0 12) (h2 : pm_ar G (T l0.toNat 36) 100 (M l0.toNat 13)) : pm_Run d 261 124 [.inr (.inr (.inl l0)), .inl l1, .inl l2, PU] [] (G, M, T) K ↔ K (.inl (M (T l0.toNat 36).toNat (pm_sg (M l0.toNat 13)).toNat)) (G, M, T) := by
  refine (px_go (by decide +kernel : pm_fe 261 124 = some (.aload_n 0, 1)) rfl).trans ?_
  refine (px_get2 (idx := 120) (ci := 12) (k := 36) (by decide +kernel)).trans ((and_iff_right h1).trans ?_)
  refine (px_go (by decide +kernel : pm_fe 261 128 = some (.aload_n 0, 1)) rfl).trans ?_
  refine (px_get0 (idx := 51) (ci := 12) (k := 13) (by decide +kernel)).trans ((and_iff_right h1).trans ?_)
  refine (px_iaload (by decide +kernel) h2).trans ?_
  refine (px_ri (by decide +kernel)).trans ?_
  exact Iff.rfl
theorem b261_134 {d : Nat} {G : PG} {M T : PH} {K : PV → PS → Prop} {l0 l1 l2 : Int} (h1 : pm_ob G l0 12) (h2 : pm_ar G (T l0.toNat 54) 100 0) : pm_Run d 261 134 [.inr (.inr (.inl l0)), .inl l1, .inl l2, PU] [] (G, M, T) K ↔ K (.inl (M (T l0.toNat 54).toNat (pm_sg 0).toNat)) (G, M, T) := by
  refine (px_go (by decide +kernel : pm_fe 261 134 = some (.aload_n 0, 1)) rfl).trans ?_
  refine (px_get2 (idx := 177) (ci := 12) (k := 54) (by decide +kernel)).trans ((and_iff_right h1).trans ?_)
  refine (px_go (by decide +kernel : pm_fe 261 138 = some (.iconst 0, 1)) rfl).trans ?_
  refine (px_iaload (by decide +kernel) h2).trans ?_
  refine (px_ri (by decide +kernel)).trans ?_
  exact Iff.rfl
theorem b261_141 {d : Nat} {G : PG} {M T : PH} {K : PV → PS → Prop} {l0 l1 l2 : Int} : pm_Run d 261 141 [.inr (.inr (.inl l0)), .inl l1, .inl l2, PU] [] (G, M, T) K ↔ pm_Run d 261 143 [.inr (.inr (.inl l0)), .inl l1, .inl l2, .inl 0] [] (G, M, T) K := by
  refine (px_go (by decide +kernel : pm_fe 261 141 = some (.iconst 0, 1)) rfl).trans ?_
  refine (px_go (by decide +kernel : pm_fe 261 142 = some (.istore_n 3, 1)) rfl).trans ?_
  exact Iff.rfl
theorem b261_143 {d : Nat} {G : PG} {M T : PH} {K : PV → PS → Prop} {l0 l1 l2 l3 : Int} (h1 : pm_ob G l0 12) (h2 : pm_ar G (T l0.toNat 19) 100 (M l0.toNat 13)) : pm_Run d 261 143 [.inr (.inr (.inl l0)), .inl l1, .inl l2, .inl l3] [] (G, M, T) K ↔ if pm_sg (M (T l0.toNat 19).toNat (pm_sg (M l0.toNat 13)).toNat) ≤ pm_sg l3 then pm_Run d 261 171 [.inr (.inr (.inl l0)), .inl l1, .inl l2, .inl l3] [] (G, M, T) K else pm_Run d 261 156 [.inr (.inr (.inl l0)), .inl l1, .inl l2, .inl l3] [] (G, M, T) K := by
  refine (px_go (by decide +kernel : pm_fe 261 143 = some (.iload_n 3, 1)) rfl).trans ?_
  refine (px_go (by decide +kernel : pm_fe 261 144 = some (.aload_n 0, 1)) rfl).trans ?_
  refine (px_get2 (idx := 69) (ci := 12) (k := 19) (by decide +kernel)).trans ((and_iff_right h1).trans ?_)
  refine (px_go (by decide +kernel : pm_fe 261 148 = some (.aload_n 0, 1)) rfl).trans ?_
  refine (px_get0 (idx := 51) (ci := 12) (k := 13) (by decide +kernel)).trans ((and_iff_right h1).trans ?_)
  refine (px_iaload (by decide +kernel) h2).trans ?_
  refine (px_ic_ge (off := 18) (tgt := 171) (by decide +kernel)).trans ?_
  exact Iff.rfl
theorem b261_156 {d : Nat} {G : PG} {M T : PH} {K : PV → PS → Prop} {l0 l1 l2 l3 : Int} (h1 : pm_ob G l0 12) (h2 : pm_ar G (T l0.toNat 57) 100 l3) : pm_Run d 261 156 [.inr (.inr (.inl l0)), .inl l1, .inl l2, .inl l3] [] (G, M, T) K ↔ pm_Run d 261 143 [.inr (.inr (.inl l0)), .inl l1, .inl (l2 + (M (T l0.toNat 57).toNat (pm_sg l3).toNat)), .inl (l3 + 1)] [] (G, M, T) K := by
  refine (px_go (by decide +kernel : pm_fe 261 156 = some (.iload_n 2, 1)) rfl).trans ?_
  refine (px_go (by decide +kernel : pm_fe 261 157 = some (.aload_n 0, 1)) rfl).trans ?_
  refine (px_get2 (idx := 186) (ci := 12) (k := 57) (by decide +kernel)).trans ((and_iff_right h1).trans ?_)
  refine (px_go (by decide +kernel : pm_fe 261 161 = some (.iload_n 3, 1)) rfl).trans ?_
  refine (px_iaload (by decide +kernel) h2).trans ?_
  refine (px_go (by decide +kernel : pm_fe 261 163 = some (.iadd, 1)) rfl).trans ?_
  refine (px_go (by decide +kernel : pm_fe 261 164 = some (.istore_n 2, 1)) rfl).trans ?_
  refine (px_go (by decide +kernel : pm_fe 261 165 = some (.iinc 3 1, 3)) rfl).trans ?_
  refine (px_goto (off := (-25)) (tgt := 143) (by decide +kernel)).trans ?_
  exact Iff.rfl
theorem b261_171 {d : Nat} {G : PG} {M T : PH} {K : PV → PS → Prop} {l0 l1 l2 l3 : Int} : pm_Run d 261 171 [.inr (.inr (.inl l0)), .inl l1, .inl l2, .inl l3] [] (G, M, T) K ↔ K (.inl l2) (G, M, T) := by
  refine (px_go (by decide +kernel : pm_fe 261 171 = some (.iload_n 2, 1)) rfl).trans ?_
  refine (px_ri (by decide +kernel)).trans ?_
  exact Iff.rfl
theorem b261_173 {d : Nat} {G : PG} {M T : PH} {K : PV → PS → Prop} {l0 l1 l2 : Int} : pm_Run d 261 173 [.inr (.inr (.inl l0)), .inl l1, .inl l2, PU] [] (G, M, T) K ↔ pm_Run d 261 175 [.inr (.inr (.inl l0)), .inl l1, .inl l2, .inl 0] [] (G, M, T) K := by
  refine (px_go (by decide +kernel : pm_fe 261 173 = some (.iconst 0, 1)) rfl).trans ?_
  refine (px_go (by decide +kernel : pm_fe 261 174 = some (.istore_n 3, 1)) rfl).trans ?_
  exact Iff.rfl
theorem b261_175 {d : Nat} {G : PG} {M T : PH} {K : PV → PS → Prop} {l0 l1 l2 l3 : Int} (h1 : pm_ob G l0 12) (h2 : pm_ar G (T l0.toNat 19) 100 (M l0.toNat 13)) : pm_Run d 261 175 [.inr (.inr (.inl l0)), .inl l1, .inl l2, .inl l3] [] (G, M, T) K ↔ if pm_sg (M (T l0.toNat 19).toNat (pm_sg (M l0.toNat 13)).toNat) ≤ pm_sg l3 then pm_Run d 261 203 [.inr (.inr (.inl l0)), .inl l1, .inl l2, .inl l3] [] (G, M, T) K else pm_Run d 261 188 [.inr (.inr (.inl l0)), .inl l1, .inl l2, .inl l3] [] (G, M, T) K := by
  refine (px_go (by decide +kernel : pm_fe 261 175 = some (.iload_n 3, 1)) rfl).trans ?_
  refine (px_go (by decide +kernel : pm_fe 261 176 = some (.aload_n 0, 1)) rfl).trans ?_
  refine (px_get2 (idx := 69) (ci := 12) (k := 19) (by decide +kernel)).trans ((and_iff_right h1).trans ?_)
  refine (px_go (by decide +kernel : pm_fe 261 180 = some (.aload_n 0, 1)) rfl).trans ?_
  refine (px_get0 (idx := 51) (ci := 12) (k := 13) (by decide +kernel)).trans ((and_iff_right h1).trans ?_)
  refine (px_iaload (by decide +kernel) h2).trans ?_
  refine (px_ic_ge (off := 18) (tgt := 203) (by decide +kernel)).trans ?_
  exact Iff.rfl
theorem b261_188 {d : Nat} {G : PG} {M T : PH} {K : PV → PS → Prop} {l0 l1 l2 l3 : Int} (h1 : pm_ob G l0 12) : pm_Run d 261 188 [.inr (.inr (.inl l0)), .inl l1, .inl l2, .inl l3] [] (G, M, T) K ↔ pm_Call d 240 [.inr (.inr (.inl l0)), .inl 0, .inl l3] (G, M, T) (fun r S1 => pm_Run d 261 195 [.inr (.inr (.inl l0)), .inl l1, .inl l2, .inl l3] (pm_push r [.inl l2]) S1 K) := by
  refine (px_go (by decide +kernel : pm_fe 261 188 = some (.iload_n 2, 1)) rfl).trans ?_
  refine (px_go (by decide +kernel : pm_fe 261 189 = some (.aload_n 0, 1)) rfl).trans ?_
  refine (px_go (by decide +kernel : pm_fe 261 190 = some (.iconst 0, 1)) rfl).trans ?_
  refine (px_go (by decide +kernel : pm_fe 261 191 = some (.iload_n 3, 1)) rfl).trans ?_
  refine (px_v2 (idx := 460) (m' := 240) (ci := 12) (by decide +kernel)).trans ((and_iff_right ⟨h1, (by simp [pm_wl_n, pm_wl_c, pm_w] : pm_wl [.inl l2] ≤ 8)⟩).trans ?_)
  exact Iff.rfl
theorem b261_195 {d : Nat} {G : PG} {M T : PH} {K : PV → PS → Prop} {l0 l1 l2 l3 s0 s1 : Int} : pm_Run d 261 195 [.inr (.inr (.inl l0)), .inl l1, .inl l2, .inl l3] [.inl s0, .inl s1] (G, M, T) K ↔ pm_Run d 261 175 [.inr (.inr (.inl l0)), .inl l1, .inl (s1 + s0), .inl (l3 + 1)] [] (G, M, T) K := by
  refine (px_go (by decide +kernel : pm_fe 261 195 = some (.iadd, 1)) rfl).trans ?_
  refine (px_go (by decide +kernel : pm_fe 261 196 = some (.istore_n 2, 1)) rfl).trans ?_
  refine (px_go (by decide +kernel : pm_fe 261 197 = some (.iinc 3 1, 3)) rfl).trans ?_
  refine (px_goto (off := (-25)) (tgt := 175) (by decide +kernel)).trans ?_
  exact Iff.rfl
theorem b261_203 {d : Nat} {G : PG} {M T : PH} {K : PV → PS → Prop} {l0 l1 l2 l3 : Int} : pm_Run d 261 203 [.inr (.inr (.inl l0)), .inl l1, .inl l2, .inl l3] [] (G, M, T) K ↔ K (.inl l2) (G, M, T) := by
  refine (px_go (by decide +kernel : pm_fe 261 203 = some (.iload_n 2, 1)) rfl).trans ?_
  refine (px_ri (by decide +kernel)).trans ?_
  exact Iff.rfl
theorem b261_205 {d : Nat} {G : PG} {M T : PH} {K : PV → PS → Prop} {l0 l1 l2 : Int} (h1 : pm_ob G l0 12) : pm_Run d 261 205 [.inr (.inr (.inl l0)), .inl l1, .inl l2, PU] [] (G, M, T) K ↔ K (.inl (M l0.toNat 61)) (G, M, T) := by
  refine (px_go (by decide +kernel : pm_fe 261 205 = some (.aload_n 0, 1)) rfl).trans ?_
  refine (px_get0 (idx := 198) (ci := 12) (k := 61) (by decide +kernel)).trans ((and_iff_right h1).trans ?_)
  refine (px_ri (by decide +kernel)).trans ?_
  exact Iff.rfl
theorem b261_210 {d : Nat} {G : PG} {M T : PH} {K : PV → PS → Prop} {l0 l1 l2 : Int} (h1 : pm_ob G l0 12) : pm_Run d 261 210 [.inr (.inr (.inl l0)), .inl l1, .inl l2, PU] [] (G, M, T) K ↔ K (.inl (M l0.toNat 62)) (G, M, T) := by
  refine (px_go (by decide +kernel : pm_fe 261 210 = some (.aload_n 0, 1)) rfl).trans ?_
  refine (px_get1 (idx := 201) (ci := 12) (k := 62) (by decide +kernel)).trans ((and_iff_right h1).trans ?_)
  refine (px_go (by decide +kernel : pm_fe 261 214 = some (.l2i, 1)) rfl).trans ?_
  refine (px_ri (by decide +kernel)).trans ?_
  exact Iff.rfl
theorem b261_216 {d : Nat} {G : PG} {M T : PH} {K : PV → PS → Prop} {l0 l1 l2 : Int} : pm_Run d 261 216 [.inr (.inr (.inl l0)), .inl l1, .inl l2, PU] [] (G, M, T) K ↔ K (.inl (-1)) (G, M, T) := by
  refine (px_go (by decide +kernel : pm_fe 261 216 = some (.iconst (-1), 1)) rfl).trans ?_
  refine (px_ri (by decide +kernel)).trans ?_
  exact Iff.rfl
-- X12_letter letter(III)I
theorem en262 {d : Nat} {a p0 p1 p2 : Int} {S : PS} {K : PV → PS → Prop} : pm_Call (d + 1) 262 [.inr (.inr (.inl a)), .inl p0, .inl p1, .inl p2] S K ↔ pm_Run d 262 0 [.inr (.inr (.inl a)), .inl p0, .inl p1, .inl p2, PU, PU, PU, PU, PU] [] S K := pm_Call_s.trans (and_iff_right (show 4 ≤ pm_ml 262 from by decide +kernel))
theorem b262_0 {d : Nat} {G : PG} {M T : PH} {K : PV → PS → Prop} {l0 l1 l2 l3 : Int} : pm_Run d 262 0 [.inr (.inr (.inl l0)), .inl l1, .inl l2, .inl l3, PU, PU, PU, PU, PU] [] (G, M, T) K ↔ pm_Call d 179 [.inl l1, .inl 0, .inl 1] (G, M, T) (fun r S1 => pm_Run d 262 6 [.inr (.inr (.inl l0)), .inl l1, .inl l2, .inl l3, PU, PU, PU, PU, PU] (pm_push r []) S1 K) := by
  refine (px_go (by decide +kernel : pm_fe 262 0 = some (.iload_n 1, 1)) rfl).trans ?_
  refine (px_go (by decide +kernel : pm_fe 262 1 = some (.iconst 0, 1)) rfl).trans ?_
  refine (px_go (by decide +kernel : pm_fe 262 2 = some (.iconst 1, 1)) rfl).trans ?_
  refine (px_s3 (idx := 337) (m' := 179) (nest := 0) (by decide +kernel)).trans ((and_iff_right (by simp [pm_wl_n, pm_wl_c, pm_w] : pm_wl [] ≤ 8)).trans ?_)
  exact Iff.rfl
theorem b262_6 {d : Nat} {G : PG} {M T : PH} {K : PV → PS → Prop} {l0 l1 l2 l3 s0 : Int} : pm_Run d 262 6 [.inr (.inr (.inl l0)), .inl l1, .inl l2, .inl l3, PU, PU, PU, PU, PU] [.inl s0] (G, M, T) K ↔ if pm_sg s0 = 0 then pm_Run d 262 37 [.inr (.inr (.inl l0)), .inl l1, .inl l2, .inl l3, PU, PU, PU, PU, PU] [] (G, M, T) K else pm_Run d 262 9 [.inr (.inr (.inl l0)), .inl l1, .inl l2, .inl l3, PU, PU, PU, PU, PU] [] (G, M, T) K := by
  refine (px_if_eq (off := 31) (tgt := 37) (by decide +kernel)).trans ?_
  exact Iff.rfl
theorem b262_9 {d : Nat} {G : PG} {M T : PH} {K : PV → PS → Prop} {l0 l1 l2 l3 : Int} (h1 : pm_ob G l0 12) : pm_Run d 262 9 [.inr (.inr (.inl l0)), .inl l1, .inl l2, .inl l3, PU, PU, PU, PU, PU] [] (G, M, T) K ↔ pm_Call d 192 [.inr (.inr (.inl l0)), .inl (M l0.toNat 13), .inl l1] (G, M, T) (fun r S1 => pm_Run d 262 20 [.inr (.inr (.inl l0)), .inl l1, .inl l2, .inl l3, PU, PU, PU, PU, PU] (pm_push r [.inl 0, .inl l2]) S1 K) := by
  refine (px_go (by decide +kernel : pm_fe 262 9 = some (.iload_n 2, 1)) rfl).trans ?_
  refine (px_go (by decide +kernel : pm_fe 262 10 = some (.iconst 0, 1)) rfl).trans ?_
  refine (px_go (by decide +kernel : pm_fe 262 11 = some (.aload_n 0, 1)) rfl).trans ?_
  refine (px_go (by decide +kernel : pm_fe 262 12 = some (.aload_n 0, 1)) rfl).trans ?_
  refine (px_get0 (idx := 51) (ci := 12) (k := 13) (by decide +kernel)).trans ((and_iff_right h1).trans ?_)
  refine (px_go (by decide +kernel : pm_fe 262 16 = some (.iload_n 1, 1)) rfl).trans ?_
  refine (px_v2 (idx := 329) (m' := 192) (ci := 12) (by decide +kernel)).trans ((and_iff_right ⟨h1, (by simp [pm_wl_n, pm_wl_c, pm_w] : pm_wl [.inl 0, .inl l2] ≤ 8)⟩).trans ?_)
  exact Iff.rfl
theorem b262_20 {d : Nat} {G : PG} {M T : PH} {K : PV → PS → Prop} {l0 l1 l2 l3 s0 s1 s2 : Int} : pm_Run d 262 20 [.inr (.inr (.inl l0)), .inl l1, .inl l2, .inl l3, PU, PU, PU, PU, PU] [.inl s0, .inl s1, .inl s2] (G, M, T) K ↔ pm_Call d 179 [.inl s2, .inl s1, .inl (s0 - 1)] (G, M, T) (fun r S1 => pm_Run d 262 25 [.inr (.inr (.inl l0)), .inl l1, .inl l2, .inl l3, PU, PU, PU, PU, PU] (pm_push r []) S1 K) := by
  refine (px_go (by decide +kernel : pm_fe 262 20 = some (.iconst 1, 1)) rfl).trans ?_
  refine (px_go (by decide +kernel : pm_fe 262 21 = some (.isub, 1)) rfl).trans ?_
  refine (px_s3 (idx := 337) (m' := 179) (nest := 0) (by decide +kernel)).trans ((and_iff_right (by simp [pm_wl_n, pm_wl_c, pm_w] : pm_wl [] ≤ 8)).trans ?_)
  exact Iff.rfl
theorem b262_25 {d : Nat} {G : PG} {M T : PH} {K : PV → PS → Prop} {l0 l1 l2 l3 s0 : Int} : pm_Run d 262 25 [.inr (.inr (.inl l0)), .inl l1, .inl l2, .inl l3, PU, PU, PU, PU, PU] [.inl s0] (G, M, T) K ↔ if pm_sg s0 = 0 then pm_Run d 262 37 [.inr (.inr (.inl l0)), .inl l1, .inl l2, .inl l3, PU, PU, PU, PU, PU] [] (G, M, T) K else pm_Run d 262 28 [.inr (.inr (.inl l0)), .inl l1, .inl l2, .inl l3, PU, PU, PU, PU, PU] [] (G, M, T) K := by
  refine (px_if_eq (off := 12) (tgt := 37) (by decide +kernel)).trans ?_
  exact Iff.rfl
theorem b262_28 {d : Nat} {G : PG} {M T : PH} {K : PV → PS → Prop} {l0 l1 l2 l3 : Int} : pm_Run d 262 28 [.inr (.inr (.inl l0)), .inl l1, .inl l2, .inl l3, PU, PU, PU, PU, PU] [] (G, M, T) K ↔ pm_Call d 179 [.inl l3, .inl 0, .inl 5] (G, M, T) (fun r S1 => pm_Run d 262 34 [.inr (.inr (.inl l0)), .inl l1, .inl l2, .inl l3, PU, PU, PU, PU, PU] (pm_push r []) S1 K) := by
  refine (px_go (by decide +kernel : pm_fe 262 28 = some (.iload_n 3, 1)) rfl).trans ?_
  refine (px_go (by decide +kernel : pm_fe 262 29 = some (.iconst 0, 1)) rfl).trans ?_
  refine (px_go (by decide +kernel : pm_fe 262 30 = some (.iconst 5, 1)) rfl).trans ?_
  refine (px_s3 (idx := 337) (m' := 179) (nest := 0) (by decide +kernel)).trans ((and_iff_right (by simp [pm_wl_n, pm_wl_c, pm_w] : pm_wl [] ≤ 8)).trans ?_)
  exact Iff.rfl
theorem b262_34 {d : Nat} {G : PG} {M T : PH} {K : PV → PS → Prop} {l0 l1 l2 l3 s0 : Int} : pm_Run d 262 34 [.inr (.inr (.inl l0)), .inl l1, .inl l2, .inl l3, PU, PU, PU, PU, PU] [.inl s0] (G, M, T) K ↔ if pm_sg s0 ≠ 0 then pm_Run d 262 39 [.inr (.inr (.inl l0)), .inl l1, .inl l2, .inl l3, PU, PU, PU, PU, PU] [] (G, M, T) K else pm_Run d 262 37 [.inr (.inr (.inl l0)), .inl l1, .inl l2, .inl l3, PU, PU, PU, PU, PU] [] (G, M, T) K := by
  refine (px_if_ne (off := 5) (tgt := 39) (by decide +kernel)).trans ?_
  exact Iff.rfl
theorem b262_37 {d : Nat} {G : PG} {M T : PH} {K : PV → PS → Prop} {l0 l1 l2 l3 : Int} : pm_Run d 262 37 [.inr (.inr (.inl l0)), .inl l1, .inl l2, .inl l3, PU, PU, PU, PU, PU] [] (G, M, T) K ↔ K (.inl (-1)) (G, M, T) := by
  refine (px_go (by decide +kernel : pm_fe 262 37 = some (.iconst (-1), 1)) rfl).trans ?_
  refine (px_ri (by decide +kernel)).trans ?_
  exact Iff.rfl
theorem b262_39 {d : Nat} {G : PG} {M T : PH} {K : PV → PS → Prop} {l0 l1 l2 l3 : Int} (h1 : pm_ob G l0 12) : pm_Run d 262 39 [.inr (.inr (.inl l0)), .inl l1, .inl l2, .inl l3, PU, PU, PU, PU, PU] [] (G, M, T) K ↔ pm_Call d 193 [.inr (.inr (.inl l0)), .inl (M l0.toNat 13), .inl l1, .inl l2] (G, M, T) (fun r S1 => pm_Run d 262 49 [.inr (.inr (.inl l0)), .inl l1, .inl l2, .inl l3, PU, PU, PU, PU, PU] (pm_push r []) S1 K) := by
  refine (px_go (by decide +kernel : pm_fe 262 39 = some (.aload_n 0, 1)) rfl).trans ?_
  refine (px_go (by decide +kernel : pm_fe 262 40 = some (.aload_n 0, 1)) rfl).trans ?_
  refine (px_get0 (idx := 51) (ci := 12) (k := 13) (by decide +kernel)).trans ((and_iff_right h1).trans ?_)
  refine (px_go (by decide +kernel : pm_fe 262 44 = some (.iload_n 1, 1)) rfl).trans ?_
  refine (px_go (by decide +kernel : pm_fe 262 45 = some (.iload_n 2, 1)) rfl).trans ?_
  refine (px_v3 (idx := 333) (m' := 193) (ci := 12) (by decide +kernel)).trans ((and_iff_right ⟨h1, (by simp [pm_wl_n, pm_wl_c, pm_w] : pm_wl [] ≤ 8)⟩).trans ?_)
  exact Iff.rfl
theorem b262_49 {d : Nat} {G : PG} {M T : PH} {K : PV → PS → Prop} {l0 l1 l2 l3 s0 : Int} : pm_Run d 262 49 [.inr (.inr (.inl l0)), .inl l1, .inl l2, .inl l3, PU, PU, PU, PU, PU] [.inr (.inl s0)] (G, M, T) K ↔ pm_Run d 262 58 [.inr (.inr (.inl l0)), .inl l1, .inl l2, .inl l3, .inr (.inl s0), PU, .inl 0, .inr (.inl s0), PU] [] (G, M, T) K := by
  refine (px_go (by decide +kernel : pm_fe 262 49 = some (.lstore 4, 2)) rfl).trans ?_
  refine (px_go (by decide +kernel : pm_fe 262 51 = some (.iconst 0, 1)) rfl).trans ?_
  refine (px_go (by decide +kernel : pm_fe 262 52 = some (.istore 6, 2)) rfl).trans ?_
  refine (px_go (by decide +kernel : pm_fe 262 54 = some (.lload 4, 2)) rfl).trans ?_
  refine (px_go (by decide +kernel : pm_fe 262 56 = some (.lstore 7, 2)) rfl).trans ?_
  exact Iff.rfl
theorem b262_58 {d : Nat} {G : PG} {M T : PH} {K : PV → PS → Prop} {l0 l1 l2 l3 l4 l6 l7 : Int} : pm_Run d 262 58 [.inr (.inr (.inl l0)), .inl l1, .inl l2, .inl l3, .inr (.inl l4), PU, .inl l6, .inr (.inl l7), PU] [] (G, M, T) K ↔ if pm_sg (pm_cmp l7 0) ≤ 0 then pm_Run d 262 78 [.inr (.inr (.inl l0)), .inl l1, .inl l2, .inl l3, .inr (.inl l4), PU, .inl l6, .inr (.inl l7), PU] [] (G, M, T) K else pm_Run d 262 65 [.inr (.inr (.inl l0)), .inl l1, .inl l2, .inl l3, .inr (.inl l4), PU, .inl l6, .inr (.inl l7), PU] [] (G, M, T) K := by
  refine (px_go (by decide +kernel : pm_fe 262 58 = some (.lload 7, 2)) rfl).trans ?_
  refine (px_go (by decide +kernel : pm_fe 262 60 = some (.lconst 0, 1)) rfl).trans ?_
  refine (px_go (by decide +kernel : pm_fe 262 61 = some (.lcmp, 1)) rfl).trans ?_
  refine (px_if_le (off := 16) (tgt := 78) (by decide +kernel)).trans ?_
  exact Iff.rfl
theorem b262_65 {d : Nat} {G : PG} {M T : PH} {K : PV → PS → Prop} {l0 l1 l2 l3 l4 l6 l7 : Int} : pm_Run d 262 65 [.inr (.inr (.inl l0)), .inl l1, .inl l2, .inl l3, .inr (.inl l4), PU, .inl l6, .inr (.inl l7), PU] [] (G, M, T) K ↔ pm_Run d 262 58 [.inr (.inr (.inl l0)), .inl l1, .inl l2, .inl l3, .inr (.inl l4), PU, .inl (l6 + 1), .inr (.inl (pm_lshr l7 8)), PU] [] (G, M, T) K := by
  refine (px_go (by decide +kernel : pm_fe 262 65 = some (.iinc 6 1, 3)) rfl).trans ?_
  refine (px_go (by decide +kernel : pm_fe 262 68 = some (.lload 7, 2)) rfl).trans ?_
  refine (px_go (by decide +kernel : pm_fe 262 70 = some (.bipush 8, 2)) rfl).trans ?_
  refine (px_go (by decide +kernel : pm_fe 262 72 = some (.lshr, 1)) rfl).trans ?_
  refine (px_go (by decide +kernel : pm_fe 262 73 = some (.lstore 7, 2)) rfl).trans ?_
  refine (px_goto (off := (-17)) (tgt := 58) (by decide +kernel)).trans ?_
  exact Iff.rfl
theorem b262_78 {d : Nat} {G : PG} {M T : PH} {K : PV → PS → Prop} {l0 l1 l2 l3 l4 l6 l7 : Int} : pm_Run d 262 78 [.inr (.inr (.inl l0)), .inl l1, .inl l2, .inl l3, .inr (.inl l4), PU, .inl l6, .inr (.inl l7), PU] [] (G, M, T) K ↔ if pm_sg l3 < pm_sg l6 then pm_Run d 262 88 [.inr (.inr (.inl l0)), .inl l1, .inl l2, .inl l3, .inr (.inl l4), PU, .inl l6, .inr (.inl l7), PU] [] (G, M, T) K else pm_Run d 262 84 [.inr (.inr (.inl l0)), .inl l1, .inl l2, .inl l3, .inr (.inl l4), PU, .inl l6, .inr (.inl l7), PU] [] (G, M, T) K := by
  refine (px_go (by decide +kernel : pm_fe 262 78 = some (.iload_n 3, 1)) rfl).trans ?_
  refine (px_go (by decide +kernel : pm_fe 262 79 = some (.iload 6, 2)) rfl).trans ?_
  refine (px_ic_lt (off := 7) (tgt := 88) (by decide +kernel)).trans ?_
  exact Iff.rfl
theorem b262_84 {d : Nat} {G : PG} {M T : PH} {K : PV → PS → Prop} {l0 l1 l2 l3 l4 l6 l7 : Int} : pm_Run d 262 84 [.inr (.inr (.inl l0)), .inl l1, .inl l2, .inl l3, .inr (.inl l4), PU, .inl l6, .inr (.inl l7), PU] [] (G, M, T) K ↔ pm_Run d 262 110 [.inr (.inr (.inl l0)), .inl l1, .inl l2, .inl l3, .inr (.inl l4), PU, .inl l6, .inr (.inl l7), PU] [.inl 0] (G, M, T) K := by
  refine (px_go (by decide +kernel : pm_fe 262 84 = some (.iconst 0, 1)) rfl).trans ?_
  refine (px_goto (off := 25) (tgt := 110) (by decide +kernel)).trans ?_
  exact Iff.rfl
theorem b262_88 {d : Nat} {G : PG} {M T : PH} {K : PV → PS → Prop} {l0 l1 l2 l3 l4 l6 l7 : Int} : pm_Run d 262 88 [.inr (.inr (.inl l0)), .inl l1, .inl l2, .inl l3, .inr (.inl l4), PU, .inl l6, .inr (.inl l7), PU] [] (G, M, T) K ↔ pm_Run d 262 110 [.inr (.inr (.inl l0)), .inl l1, .inl l2, .inl l3, .inr (.inl l4), PU, .inl l6, .inr (.inl l7), PU] [.inl (((pm_land (pm_lshr l4 (8 * ((l6 - 1) - l3))) 255) - 97) + 1)] (G, M, T) K := by
  refine (px_go (by decide +kernel : pm_fe 262 88 = some (.lload 4, 2)) rfl).trans ?_
  refine (px_go (by decide +kernel : pm_fe 262 90 = some (.bipush 8, 2)) rfl).trans ?_
  refine (px_go (by decide +kernel : pm_fe 262 92 = some (.iload 6, 2)) rfl).trans ?_
  refine (px_go (by decide +kernel : pm_fe 262 94 = some (.iconst 1, 1)) rfl).trans ?_
  refine (px_go (by decide +kernel : pm_fe 262 95 = some (.isub, 1)) rfl).trans ?_
  refine (px_go (by decide +kernel : pm_fe 262 96 = some (.iload_n 3, 1)) rfl).trans ?_
  refine (px_go (by decide +kernel : pm_fe 262 97 = some (.isub, 1)) rfl).trans ?_
  refine (px_go (by decide +kernel : pm_fe 262 98 = some (.imul, 1)) rfl).trans ?_
  refine (px_go (by decide +kernel : pm_fe 262 99 = some (.lshr, 1)) rfl).trans ?_
  refine (px_ldcL (idx := 533) (x := 255) (by decide +kernel)).trans ?_
  refine (px_go (by decide +kernel : pm_fe 262 103 = some (.land, 1)) rfl).trans ?_
  refine (px_go (by decide +kernel : pm_fe 262 104 = some (.l2i, 1)) rfl).trans ?_
  refine (px_go (by decide +kernel : pm_fe 262 105 = some (.bipush 97, 2)) rfl).trans ?_
  refine (px_go (by decide +kernel : pm_fe 262 107 = some (.isub, 1)) rfl).trans ?_
  refine (px_go (by decide +kernel : pm_fe 262 108 = some (.iconst 1, 1)) rfl).trans ?_
  refine (px_go (by decide +kernel : pm_fe 262 109 = some (.iadd, 1)) rfl).trans ?_
  exact Iff.rfl
theorem b262_110 {d : Nat} {G : PG} {M T : PH} {K : PV → PS → Prop} {l0 l1 l2 l3 l4 l6 l7 s0 : Int} : pm_Run d 262 110 [.inr (.inr (.inl l0)), .inl l1, .inl l2, .inl l3, .inr (.inl l4), PU, .inl l6, .inr (.inl l7), PU] [.inl s0] (G, M, T) K ↔ K (.inl s0) (G, M, T) := by
  refine (px_ri (by decide +kernel)).trans ?_
  exact Iff.rfl
-- X12_moon moon(II)I
theorem en263 {d : Nat} {a p0 p1 : Int} {S : PS} {K : PV → PS → Prop} : pm_Call (d + 1) 263 [.inr (.inr (.inl a)), .inl p0, .inl p1] S K ↔ pm_Run d 263 0 [.inr (.inr (.inl a)), .inl p0, .inl p1] [] S K := pm_Call_s.trans (and_iff_right (show 3 ≤ pm_ml 263 from by decide +kernel))
theorem b263_0 {d : Nat} {G : PG} {M T : PH} {K : PV → PS → Prop} {l0 l1 l2 : Int} (h1 : pm_ob G l0 12) : pm_Run d 263 0 [.inr (.inr (.inl l0)), .inl l1, .inl l2] [] (G, M, T) K ↔ pm_Call d 228 [.inr (.inr (.inl l0)), .inl l1] (G, M, T) (fun r S1 => pm_Run d 263 5 [.inr (.inr (.inl l0)), .inl l1, .inl l2] (pm_push r []) S1 K) := by
  refine (px_go (by decide +kernel : pm_fe 263 0 = some (.aload_n 0, 1)) rfl).trans ?_
  refine (px_go (by decide +kernel : pm_fe 263 1 = some (.iload_n 1, 1)) rfl).trans ?_
  refine (px_v1 (idx := 535) (m' := 228) (ci := 12) (by decide +kernel)).trans ((and_iff_right ⟨h1, (by simp [pm_wl_n, pm_wl_c, pm_w] : pm_wl [] ≤ 8)⟩).trans ?_)
  exact Iff.rfl
theorem b263_5 {d : Nat} {G : PG} {M T : PH} {K : PV → PS → Prop} {l0 l1 l2 s0 : Int} : pm_Run d 263 5 [.inr (.inr (.inl l0)), .inl l1, .inl l2] [.inl s0] (G, M, T) K ↔ if pm_sg s0 ≠ 0 then pm_Run d 263 10 [.inr (.inr (.inl l0)), .inl l1, .inl l2] [] (G, M, T) K else pm_Run d 263 8 [.inr (.inr (.inl l0)), .inl l1, .inl l2] [] (G, M, T) K := by
  refine (px_if_ne (off := 5) (tgt := 10) (by decide +kernel)).trans ?_
  exact Iff.rfl
theorem b263_8 {d : Nat} {G : PG} {M T : PH} {K : PV → PS → Prop} {l0 l1 l2 : Int} : pm_Run d 263 8 [.inr (.inr (.inl l0)), .inl l1, .inl l2] [] (G, M, T) K ↔ K (.inl (-1)) (G, M, T) := by
  refine (px_go (by decide +kernel : pm_fe 263 8 = some (.iconst (-1), 1)) rfl).trans ?_
  refine (px_ri (by decide +kernel)).trans ?_
  exact Iff.rfl
theorem b263_10 {d : Nat} {G : PG} {M T : PH} {K : PV → PS → Prop} {l0 l1 l2 : Int} : pm_Run d 263 10 [.inr (.inr (.inl l0)), .inl l1, .inl l2] [] (G, M, T) K ↔ pm_Run d 263 (pm_tg 0 [48, 55, 69, 76, 83, 90] 105 (pm_sg l2)) [.inr (.inr (.inl l0)), .inl l1, .inl l2] [] (G, M, T) K := by
  refine (px_go (by decide +kernel : pm_fe 263 10 = some (.iload_n 2, 1)) rfl).trans ?_
  refine (px_tsw (lo := 0) (dt := 105) (tl := [48, 55, 69, 76, 83, 90]) (by decide +kernel : pm_fe 263 11 = some (.tableswitch 94 0 5 #[37, 44, 58, 65, 72, 79], 37) ∧ _)).trans ?_
  exact Iff.rfl
theorem b263_48 {d : Nat} {G : PG} {M T : PH} {K : PV → PS → Prop} {l0 l1 l2 : Int} (h1 : pm_ob G l0 12) (h2 : pm_ar G (T l0.toNat 55) 100 l1) : pm_Run d 263 48 [.inr (.inr (.inl l0)), .inl l1, .inl l2] [] (G, M, T) K ↔ K (.inl (M (T l0.toNat 55).toNat (pm_sg l1).toNat)) (G, M, T) := by
  refine (px_go (by decide +kernel : pm_fe 263 48 = some (.aload_n 0, 1)) rfl).trans ?_
  refine (px_get2 (idx := 180) (ci := 12) (k := 55) (by decide +kernel)).trans ((and_iff_right h1).trans ?_)
  refine (px_go (by decide +kernel : pm_fe 263 52 = some (.iload_n 1, 1)) rfl).trans ?_
  refine (px_iaload (by decide +kernel) h2).trans ?_
  refine (px_ri (by decide +kernel)).trans ?_
  exact Iff.rfl
theorem b263_55 {d : Nat} {G : PG} {M T : PH} {K : PV → PS → Prop} {l0 l1 l2 : Int} (h1 : pm_ob G l0 12) (h2 : pm_ar G (T l0.toNat 17) 100 ((3 * (M l0.toNat 13)) + l1)) : pm_Run d 263 55 [.inr (.inr (.inl l0)), .inl l1, .inl l2] [] (G, M, T) K ↔ K (.inl (M (T l0.toNat 17).toNat (pm_sg ((3 * (M l0.toNat 13)) + l1)).toNat)) (G, M, T) := by
  refine (px_go (by decide +kernel : pm_fe 263 55 = some (.aload_n 0, 1)) rfl).trans ?_
  refine (px_get2 (idx := 63) (ci := 12) (k := 17) (by decide +kernel)).trans ((and_iff_right h1).trans ?_)
  refine (px_go (by decide +kernel : pm_fe 263 59 = some (.iconst 3, 1)) rfl).trans ?_
  refine (px_go (by decide +kernel : pm_fe 263 60 = some (.aload_n 0, 1)) rfl).trans ?_
  refine (px_get0 (idx := 51) (ci := 12) (k := 13) (by decide +kernel)).trans ((and_iff_right h1).trans ?_)
  refine (px_go (by decide +kernel : pm_fe 263 64 = some (.imul, 1)) rfl).trans ?_
  refine (px_go (by decide +kernel : pm_fe 263 65 = some (.iload_n 1, 1)) rfl).trans ?_
  refine (px_go (by decide +kernel : pm_fe 263 66 = some (.iadd, 1)) rfl).trans ?_
  refine (px_iaload (by decide +kernel) h2).trans ?_
  refine (px_ri (by decide +kernel)).trans ?_
  exact Iff.rfl
theorem b263_69 {d : Nat} {G : PG} {M T : PH} {K : PV → PS → Prop} {l0 l1 l2 : Int} (h1 : pm_ob G l0 12) (h2 : pm_ar G (T l0.toNat 56) 100 l1) : pm_Run d 263 69 [.inr (.inr (.inl l0)), .inl l1, .inl l2] [] (G, M, T) K ↔ K (.inl (M (T l0.toNat 56).toNat (pm_sg l1).toNat)) (G, M, T) := by
  refine (px_go (by decide +kernel : pm_fe 263 69 = some (.aload_n 0, 1)) rfl).trans ?_
  refine (px_get2 (idx := 183) (ci := 12) (k := 56) (by decide +kernel)).trans ((and_iff_right h1).trans ?_)
  refine (px_go (by decide +kernel : pm_fe 263 73 = some (.iload_n 1, 1)) rfl).trans ?_
  refine (px_iaload (by decide +kernel) h2).trans ?_
  refine (px_ri (by decide +kernel)).trans ?_
  exact Iff.rfl
theorem b263_76 {d : Nat} {G : PG} {M T : PH} {K : PV → PS → Prop} {l0 l1 l2 : Int} (h1 : pm_ob G l0 12) : pm_Run d 263 76 [.inr (.inr (.inl l0)), .inl l1, .inl l2] [] (G, M, T) K ↔ pm_Call d 237 [.inr (.inr (.inl l0)), .inl 0, .inl l1] (G, M, T) (fun r S1 => pm_Run d 263 82 [.inr (.inr (.inl l0)), .inl l1, .inl l2] (pm_push r []) S1 K) := by
  refine (px_go (by decide +kernel : pm_fe 263 76 = some (.aload_n 0, 1)) rfl).trans ?_
  refine (px_go (by decide +kernel : pm_fe 263 77 = some (.iconst 0, 1)) rfl).trans ?_
  refine (px_go (by decide +kernel : pm_fe 263 78 = some (.iload_n 1, 1)) rfl).trans ?_
  refine (px_v2 (idx := 448) (m' := 237) (ci := 12) (by decide +kernel)).trans ((and_iff_right ⟨h1, (by simp [pm_wl_n, pm_wl_c, pm_w] : pm_wl [] ≤ 8)⟩).trans ?_)
  exact Iff.rfl
theorem b263_82 {d : Nat} {G : PG} {M T : PH} {K : PV → PS → Prop} {l0 l1 l2 s0 : Int} : pm_Run d 263 82 [.inr (.inr (.inl l0)), .inl l1, .inl l2] [.inl s0] (G, M, T) K ↔ K (.inl s0) (G, M, T) := by
  refine (px_ri (by decide +kernel)).trans ?_
  exact Iff.rfl
theorem b263_83 {d : Nat} {G : PG} {M T : PH} {K : PV → PS → Prop} {l0 l1 l2 : Int} (h1 : pm_ob G l0 12) : pm_Run d 263 83 [.inr (.inr (.inl l0)), .inl l1, .inl l2] [] (G, M, T) K ↔ pm_Call d 238 [.inr (.inr (.inl l0)), .inl 0, .inl l1] (G, M, T) (fun r S1 => pm_Run d 263 89 [.inr (.inr (.inl l0)), .inl l1, .inl l2] (pm_push r []) S1 K) := by
  refine (px_go (by decide +kernel : pm_fe 263 83 = some (.aload_n 0, 1)) rfl).trans ?_
  refine (px_go (by decide +kernel : pm_fe 263 84 = some (.iconst 0, 1)) rfl).trans ?_
  refine (px_go (by decide +kernel : pm_fe 263 85 = some (.iload_n 1, 1)) rfl).trans ?_
  refine (px_v2 (idx := 451) (m' := 238) (ci := 12) (by decide +kernel)).trans ((and_iff_right ⟨h1, (by simp [pm_wl_n, pm_wl_c, pm_w] : pm_wl [] ≤ 8)⟩).trans ?_)
  exact Iff.rfl
theorem b263_89 {d : Nat} {G : PG} {M T : PH} {K : PV → PS → Prop} {l0 l1 l2 s0 : Int} : pm_Run d 263 89 [.inr (.inr (.inl l0)), .inl l1, .inl l2] [.inl s0] (G, M, T) K ↔ K (.inl s0) (G, M, T) := by
  refine (px_ri (by decide +kernel)).trans ?_
  exact Iff.rfl
theorem b263_90 {d : Nat} {G : PG} {M T : PH} {K : PV → PS → Prop} {l0 l1 l2 : Int} (h1 : pm_ob G l0 12) : pm_Run d 263 90 [.inr (.inr (.inl l0)), .inl l1, .inl l2] [] (G, M, T) K ↔ pm_Call d 243 [.inr (.inr (.inl l0)), .inl 0, .inl l1] (G, M, T) (fun r S1 => pm_Run d 263 96 [.inr (.inr (.inl l0)), .inl l1, .inl l2] (pm_push r []) S1 K) := by
  refine (px_go (by decide +kernel : pm_fe 263 90 = some (.aload_n 0, 1)) rfl).trans ?_
  refine (px_go (by decide +kernel : pm_fe 263 91 = some (.iconst 0, 1)) rfl).trans ?_
  refine (px_go (by decide +kernel : pm_fe 263 92 = some (.iload_n 1, 1)) rfl).trans ?_
  refine (px_v2 (idx := 466) (m' := 243) (ci := 12) (by decide +kernel)).trans ((and_iff_right ⟨h1, (by simp [pm_wl_n, pm_wl_c, pm_w] : pm_wl [] ≤ 8)⟩).trans ?_)
  exact Iff.rfl
theorem b263_96 {d : Nat} {G : PG} {M T : PH} {K : PV → PS → Prop} {l0 l1 l2 s0 : Int} : pm_Run d 263 96 [.inr (.inr (.inl l0)), .inl l1, .inl l2] [.inl s0] (G, M, T) K ↔ if pm_sg s0 = 0 then pm_Run d 263 103 [.inr (.inr (.inl l0)), .inl l1, .inl l2] [] (G, M, T) K else pm_Run d 263 99 [.inr (.inr (.inl l0)), .inl l1, .inl l2] [] (G, M, T) K := by
  refine (px_if_eq (off := 7) (tgt := 103) (by decide +kernel)).trans ?_
  exact Iff.rfl
theorem b263_99 {d : Nat} {G : PG} {M T : PH} {K : PV → PS → Prop} {l0 l1 l2 : Int} : pm_Run d 263 99 [.inr (.inr (.inl l0)), .inl l1, .inl l2] [] (G, M, T) K ↔ pm_Run d 263 104 [.inr (.inr (.inl l0)), .inl l1, .inl l2] [.inl 1] (G, M, T) K := by
  refine (px_go (by decide +kernel : pm_fe 263 99 = some (.iconst 1, 1)) rfl).trans ?_
  refine (px_goto (off := 4) (tgt := 104) (by decide +kernel)).trans ?_
  exact Iff.rfl
theorem b263_103 {d : Nat} {G : PG} {M T : PH} {K : PV → PS → Prop} {l0 l1 l2 : Int} : pm_Run d 263 103 [.inr (.inr (.inl l0)), .inl l1, .inl l2] [] (G, M, T) K ↔ pm_Run d 263 104 [.inr (.inr (.inl l0)), .inl l1, .inl l2] [.inl 0] (G, M, T) K := by
  refine (px_go (by decide +kernel : pm_fe 263 103 = some (.iconst 0, 1)) rfl).trans ?_
  exact Iff.rfl
theorem b263_104 {d : Nat} {G : PG} {M T : PH} {K : PV → PS → Prop} {l0 l1 l2 s0 : Int} : pm_Run d 263 104 [.inr (.inr (.inl l0)), .inl l1, .inl l2] [.inl s0] (G, M, T) K ↔ K (.inl s0) (G, M, T) := by
  refine (px_ri (by decide +kernel)).trans ?_
  exact Iff.rfl
theorem b263_105 {d : Nat} {G : PG} {M T : PH} {K : PV → PS → Prop} {l0 l1 l2 : Int} : pm_Run d 263 105 [.inr (.inr (.inl l0)), .inl l1, .inl l2] [] (G, M, T) K ↔ K (.inl (-1)) (G, M, T) := by
  refine (px_go (by decide +kernel : pm_fe 263 105 = some (.iconst (-1), 1)) rfl).trans ?_
  refine (px_ri (by decide +kernel)).trans ?_
  exact Iff.rfl
-- X12_owesAll owesAll(I)I
theorem en264 {d : Nat} {a p0 : Int} {S : PS} {K : PV → PS → Prop} : pm_Call (d + 1) 264 [.inr (.inr (.inl a)), .inl p0] S K ↔ pm_Run d 264 0 [.inr (.inr (.inl a)), .inl p0, PU, PU] [] S K := pm_Call_s.trans (and_iff_right (show 2 ≤ pm_ml 264 from by decide +kernel))
theorem b264_0 {d : Nat} {G : PG} {M T : PH} {K : PV → PS → Prop} {l0 l1 : Int} : pm_Run d 264 0 [.inr (.inr (.inl l0)), .inl l1, PU, PU] [] (G, M, T) K ↔ pm_Run d 264 4 [.inr (.inr (.inl l0)), .inl l1, .inl 0, .inl 0] [] (G, M, T) K := by
  refine (px_go (by decide +kernel : pm_fe 264 0 = some (.iconst 0, 1)) rfl).trans ?_
  refine (px_go (by decide +kernel : pm_fe 264 1 = some (.istore_n 2, 1)) rfl).trans ?_
  refine (px_go (by decide +kernel : pm_fe 264 2 = some (.iconst 0, 1)) rfl).trans ?_
  refine (px_go (by decide +kernel : pm_fe 264 3 = some (.istore_n 3, 1)) rfl).trans ?_
  exact Iff.rfl
theorem b264_4 {d : Nat} {G : PG} {M T : PH} {K : PV → PS → Prop} {l0 l1 l2 l3 : Int} (h1 : pm_ob G l0 12) (h2 : pm_ar G (T l0.toNat 24) 100 (M l0.toNat 13)) : pm_Run d 264 4 [.inr (.inr (.inl l0)), .inl l1, .inl l2, .inl l3] [] (G, M, T) K ↔ if pm_sg (M (T l0.toNat 24).toNat (pm_sg (M l0.toNat 13)).toNat) ≤ pm_sg l3 then pm_Run d 264 62 [.inr (.inr (.inl l0)), .inl l1, .inl l2, .inl l3] [] (G, M, T) K else pm_Run d 264 17 [.inr (.inr (.inl l0)), .inl l1, .inl l2, .inl l3] [] (G, M, T) K := by
  refine (px_go (by decide +kernel : pm_fe 264 4 = some (.iload_n 3, 1)) rfl).trans ?_
  refine (px_go (by decide +kernel : pm_fe 264 5 = some (.aload_n 0, 1)) rfl).trans ?_
  refine (px_get2 (idx := 84) (ci := 12) (k := 24) (by decide +kernel)).trans ((and_iff_right h1).trans ?_)
  refine (px_go (by decide +kernel : pm_fe 264 9 = some (.aload_n 0, 1)) rfl).trans ?_
  refine (px_get0 (idx := 51) (ci := 12) (k := 13) (by decide +kernel)).trans ((and_iff_right h1).trans ?_)
  refine (px_iaload (by decide +kernel) h2).trans ?_
  refine (px_ic_ge (off := 48) (tgt := 62) (by decide +kernel)).trans ?_
  exact Iff.rfl
theorem b264_17 {d : Nat} {G : PG} {M T : PH} {K : PV → PS → Prop} {l0 l1 l2 l3 : Int} (h1 : pm_ob G l0 12) (h2 : pm_ar G (T l0.toNat 25) 100 ((16 * (M l0.toNat 13)) + l3)) : pm_Run d 264 17 [.inr (.inr (.inl l0)), .inl l1, .inl l2, .inl l3] [] (G, M, T) K ↔ if pm_sg (M (T l0.toNat 25).toNat (pm_sg ((16 * (M l0.toNat 13)) + l3)).toNat) ≠ pm_sg l1 then pm_Run d 264 53 [.inr (.inr (.inl l0)), .inl l1, .inl l2, .inl l3] [.inl l2] (G, M, T) K else pm_Run d 264 36 [.inr (.inr (.inl l0)), .inl l1, .inl l2, .inl l3] [.inl l2] (G, M, T) K := by
  refine (px_go (by decide +kernel : pm_fe 264 17 = some (.iload_n 2, 1)) rfl).trans ?_
  refine (px_go (by decide +kernel : pm_fe 264 18 = some (.aload_n 0, 1)) rfl).trans ?_
  refine (px_get2 (idx := 87) (ci := 12) (k := 25) (by decide +kernel)).trans ((and_iff_right h1).trans ?_)
  refine (px_go (by decide +kernel : pm_fe 264 22 = some (.bipush 16, 2)) rfl).trans ?_
  refine (px_go (by decide +kernel : pm_fe 264 24 = some (.aload_n 0, 1)) rfl).trans ?_
  refine (px_get0 (idx := 51) (ci := 12) (k := 13) (by decide +kernel)).trans ((and_iff_right h1).trans ?_)
  refine (px_go (by decide +kernel : pm_fe 264 28 = some (.imul, 1)) rfl).trans ?_
  refine (px_go (by decide +kernel : pm_fe 264 29 = some (.iload_n 3, 1)) rfl).trans ?_
  refine (px_go (by decide +kernel : pm_fe 264 30 = some (.iadd, 1)) rfl).trans ?_
  refine (px_iaload (by decide +kernel) h2).trans ?_
  refine (px_go (by decide +kernel : pm_fe 264 32 = some (.iload_n 1, 1)) rfl).trans ?_
  refine (px_ic_ne (off := 20) (tgt := 53) (by decide +kernel)).trans ?_
  exact Iff.rfl
theorem b264_36 {d : Nat} {G : PG} {M T : PH} {K : PV → PS → Prop} {l0 l1 l2 l3 s0 : Int} (h1 : pm_ob G l0 12) (h2 : pm_ar G (T l0.toNat 27) 100 ((16 * (M l0.toNat 13)) + l3)) : pm_Run d 264 36 [.inr (.inr (.inl l0)), .inl l1, .inl l2, .inl l3] [.inl s0] (G, M, T) K ↔ pm_Run d 264 54 [.inr (.inr (.inl l0)), .inl l1, .inl l2, .inl l3] [.inl (M (T l0.toNat 27).toNat (pm_sg ((16 * (M l0.toNat 13)) + l3)).toNat), .inl s0] (G, M, T) K := by
  refine (px_go (by decide +kernel : pm_fe 264 36 = some (.aload_n 0, 1)) rfl).trans ?_
  refine (px_get2 (idx := 93) (ci := 12) (k := 27) (by decide +kernel)).trans ((and_iff_right h1).trans ?_)
  refine (px_go (by decide +kernel : pm_fe 264 40 = some (.bipush 16, 2)) rfl).trans ?_
  refine (px_go (by decide +kernel : pm_fe 264 42 = some (.aload_n 0, 1)) rfl).trans ?_
  refine (px_get0 (idx := 51) (ci := 12) (k := 13) (by decide +kernel)).trans ((and_iff_right h1).trans ?_)
  refine (px_go (by decide +kernel : pm_fe 264 46 = some (.imul, 1)) rfl).trans ?_
  refine (px_go (by decide +kernel : pm_fe 264 47 = some (.iload_n 3, 1)) rfl).trans ?_
  refine (px_go (by decide +kernel : pm_fe 264 48 = some (.iadd, 1)) rfl).trans ?_
  refine (px_iaload (by decide +kernel) h2).trans ?_
  refine (px_goto (off := 4) (tgt := 54) (by decide +kernel)).trans ?_
  exact Iff.rfl
theorem b264_53 {d : Nat} {G : PG} {M T : PH} {K : PV → PS → Prop} {l0 l1 l2 l3 s0 : Int} : pm_Run d 264 53 [.inr (.inr (.inl l0)), .inl l1, .inl l2, .inl l3] [.inl s0] (G, M, T) K ↔ pm_Run d 264 54 [.inr (.inr (.inl l0)), .inl l1, .inl l2, .inl l3] [.inl 0, .inl s0] (G, M, T) K := by
  refine (px_go (by decide +kernel : pm_fe 264 53 = some (.iconst 0, 1)) rfl).trans ?_
  exact Iff.rfl
theorem b264_54 {d : Nat} {G : PG} {M T : PH} {K : PV → PS → Prop} {l0 l1 l2 l3 s0 s1 : Int} : pm_Run d 264 54 [.inr (.inr (.inl l0)), .inl l1, .inl l2, .inl l3] [.inl s0, .inl s1] (G, M, T) K ↔ pm_Run d 264 4 [.inr (.inr (.inl l0)), .inl l1, .inl (s1 + s0), .inl (l3 + 1)] [] (G, M, T) K := by
  refine (px_go (by decide +kernel : pm_fe 264 54 = some (.iadd, 1)) rfl).trans ?_
  refine (px_go (by decide +kernel : pm_fe 264 55 = some (.istore_n 2, 1)) rfl).trans ?_
  refine (px_go (by decide +kernel : pm_fe 264 56 = some (.iinc 3 1, 3)) rfl).trans ?_
  refine (px_goto (off := (-55)) (tgt := 4) (by decide +kernel)).trans ?_
  exact Iff.rfl
theorem b264_62 {d : Nat} {G : PG} {M T : PH} {K : PV → PS → Prop} {l0 l1 l2 l3 : Int} : pm_Run d 264 62 [.inr (.inr (.inl l0)), .inl l1, .inl l2, .inl l3] [] (G, M, T) K ↔ K (.inl l2) (G, M, T) := by
  refine (px_go (by decide +kernel : pm_fe 264 62 = some (.iload_n 2, 1)) rfl).trans ?_
  refine (px_ri (by decide +kernel)).trans ?_
  exact Iff.rfl
-- X12_owedAll owedAll(II)I
theorem en265 {d : Nat} {a p0 p1 : Int} {S : PS} {K : PV → PS → Prop} : pm_Call (d + 1) 265 [.inr (.inr (.inl a)), .inl p0, .inl p1] S K ↔ pm_Run d 265 0 [.inr (.inr (.inl a)), .inl p0, .inl p1, PU, PU, PU] [] S K := pm_Call_s.trans (and_iff_right (show 3 ≤ pm_ml 265 from by decide +kernel))
theorem b265_0 {d : Nat} {G : PG} {M T : PH} {K : PV → PS → Prop} {l0 l1 l2 : Int} : pm_Run d 265 0 [.inr (.inr (.inl l0)), .inl l1, .inl l2, PU, PU, PU] [] (G, M, T) K ↔ pm_Run d 265 5 [.inr (.inr (.inl l0)), .inl l1, .inl l2, .inl 0, .inl 0, PU] [] (G, M, T) K := by
  refine (px_go (by decide +kernel : pm_fe 265 0 = some (.iconst 0, 1)) rfl).trans ?_
  refine (px_go (by decide +kernel : pm_fe 265 1 = some (.istore_n 3, 1)) rfl).trans ?_
  refine (px_go (by decide +kernel : pm_fe 265 2 = some (.iconst 0, 1)) rfl).trans ?_
  refine (px_go (by decide +kernel : pm_fe 265 3 = some (.istore 4, 2)) rfl).trans ?_
  exact Iff.rfl
theorem b265_5 {d : Nat} {G : PG} {M T : PH} {K : PV → PS → Prop} {l0 l1 l2 l3 l4 : Int} {l5 : PV} (h1 : pm_ob G l0 12) (h2 : pm_ar G (T l0.toNat 24) 100 (M l0.toNat 13)) : pm_Run d 265 5 [.inr (.inr (.inl l0)), .inl l1, .inl l2, .inl l3, .inl l4, l5] [] (G, M, T) K ↔ if pm_sg (M (T l0.toNat 24).toNat (pm_sg (M l0.toNat 13)).toNat) ≤ pm_sg l4 then pm_Run d 265 76 [.inr (.inr (.inl l0)), .inl l1, .inl l2, .inl l3, .inl l4, l5] [] (G, M, T) K else pm_Run d 265 19 [.inr (.inr (.inl l0)), .inl l1, .inl l2, .inl l3, .inl l4, l5] [] (G, M, T) K := by
  refine (px_go (by decide +kernel : pm_fe 265 5 = some (.iload 4, 2)) rfl).trans ?_
  refine (px_go (by decide +kernel : pm_fe 265 7 = some (.aload_n 0, 1)) rfl).trans ?_
  refine (px_get2 (idx := 84) (ci := 12) (k := 24) (by decide +kernel)).trans ((and_iff_right h1).trans ?_)
  refine (px_go (by decide +kernel : pm_fe 265 11 = some (.aload_n 0, 1)) rfl).trans ?_
  refine (px_get0 (idx := 51) (ci := 12) (k := 13) (by decide +kernel)).trans ((and_iff_right h1).trans ?_)
  refine (px_iaload (by decide +kernel) h2).trans ?_
  refine (px_ic_ge (off := 60) (tgt := 76) (by decide +kernel)).trans ?_
  exact Iff.rfl
theorem b265_19 {d : Nat} {G : PG} {M T : PH} {K : PV → PS → Prop} {l0 l1 l2 l3 l4 : Int} {l5 : PV} (h1 : pm_ob G l0 12) (h2 : pm_ar G (T l0.toNat 26) 100 ((16 * (M l0.toNat 13)) + l4)) : pm_Run d 265 19 [.inr (.inr (.inl l0)), .inl l1, .inl l2, .inl l3, .inl l4, l5] [] (G, M, T) K ↔ if pm_sg (M (T l0.toNat 26).toNat (pm_sg ((16 * (M l0.toNat 13)) + l4)).toNat) ≠ pm_sg l1 then pm_Run d 265 67 [.inr (.inr (.inl l0)), .inl l1, .inl l2, .inl l3, .inl l4, .inl ((16 * (M l0.toNat 13)) + l4)] [.inl l3] (G, M, T) K else pm_Run d 265 43 [.inr (.inr (.inl l0)), .inl l1, .inl l2, .inl l3, .inl l4, .inl ((16 * (M l0.toNat 13)) + l4)] [.inl l3] (G, M, T) K := by
  refine (px_go (by decide +kernel : pm_fe 265 19 = some (.bipush 16, 2)) rfl).trans ?_
  refine (px_go (by decide +kernel : pm_fe 265 21 = some (.aload_n 0, 1)) rfl).trans ?_
  refine (px_get0 (idx := 51) (ci := 12) (k := 13) (by decide +kernel)).trans ((and_iff_right h1).trans ?_)
  refine (px_go (by decide +kernel : pm_fe 265 25 = some (.imul, 1)) rfl).trans ?_
  refine (px_go (by decide +kernel : pm_fe 265 26 = some (.iload 4, 2)) rfl).trans ?_
  refine (px_go (by decide +kernel : pm_fe 265 28 = some (.iadd, 1)) rfl).trans ?_
  refine (px_go (by decide +kernel : pm_fe 265 29 = some (.istore 5, 2)) rfl).trans ?_
  refine (px_go (by decide +kernel : pm_fe 265 31 = some (.iload_n 3, 1)) rfl).trans ?_
  refine (px_go (by decide +kernel : pm_fe 265 32 = some (.aload_n 0, 1)) rfl).trans ?_
  refine (px_get2 (idx := 90) (ci := 12) (k := 26) (by decide +kernel)).trans ((and_iff_right h1).trans ?_)
  refine (px_go (by decide +kernel : pm_fe 265 36 = some (.iload 5, 2)) rfl).trans ?_
  refine (px_iaload (by decide +kernel) h2).trans ?_
  refine (px_go (by decide +kernel : pm_fe 265 39 = some (.iload_n 1, 1)) rfl).trans ?_
  refine (px_ic_ne (off := 27) (tgt := 67) (by decide +kernel)).trans ?_
  exact Iff.rfl
theorem b265_43 {d : Nat} {G : PG} {M T : PH} {K : PV → PS → Prop} {l0 l1 l2 l3 l4 l5 s0 : Int} (h1 : pm_ob G l0 12) (h2 : pm_ar G (T l0.toNat 25) 100 l5) : pm_Run d 265 43 [.inr (.inr (.inl l0)), .inl l1, .inl l2, .inl l3, .inl l4, .inl l5] [.inl s0] (G, M, T) K ↔ if pm_sg (pm_and (pm_shr l2 (M (T l0.toNat 25).toNat (pm_sg l5).toNat)) 1) ≠ 0 then pm_Run d 265 67 [.inr (.inr (.inl l0)), .inl l1, .inl l2, .inl l3, .inl l4, .inl l5] [.inl s0] (G, M, T) K else pm_Run d 265 57 [.inr (.inr (.inl l0)), .inl l1, .inl l2, .inl l3, .inl l4, .inl l5] [.inl s0] (G, M, T) K := by
  refine (px_go (by decide +kernel : pm_fe 265 43 = some (.iload_n 2, 1)) rfl).trans ?_
  refine (px_go (by decide +kernel : pm_fe 265 44 = some (.aload_n 0, 1)) rfl).trans ?_
  refine (px_get2 (idx := 87) (ci := 12) (k := 25) (by decide +kernel)).trans ((and_iff_right h1).trans ?_)
  refine (px_go (by decide +kernel : pm_fe 265 48 = some (.iload 5, 2)) rfl).trans ?_
  refine (px_iaload (by decide +kernel) h2).trans ?_
  refine (px_go (by decide +kernel : pm_fe 265 51 = some (.ishr, 1)) rfl).trans ?_
  refine (px_go (by decide +kernel : pm_fe 265 52 = some (.iconst 1, 1)) rfl).trans ?_
  refine (px_go (by decide +kernel : pm_fe 265 53 = some (.iand, 1)) rfl).trans ?_
  refine (px_if_ne (off := 13) (tgt := 67) (by decide +kernel)).trans ?_
  exact Iff.rfl
theorem b265_57 {d : Nat} {G : PG} {M T : PH} {K : PV → PS → Prop} {l0 l1 l2 l3 l4 l5 s0 : Int} (h1 : pm_ob G l0 12) (h2 : pm_ar G (T l0.toNat 27) 100 l5) : pm_Run d 265 57 [.inr (.inr (.inl l0)), .inl l1, .inl l2, .inl l3, .inl l4, .inl l5] [.inl s0] (G, M, T) K ↔ pm_Run d 265 68 [.inr (.inr (.inl l0)), .inl l1, .inl l2, .inl l3, .inl l4, .inl l5] [.inl (M (T l0.toNat 27).toNat (pm_sg l5).toNat), .inl s0] (G, M, T) K := by
  refine (px_go (by decide +kernel : pm_fe 265 57 = some (.aload_n 0, 1)) rfl).trans ?_
  refine (px_get2 (idx := 93) (ci := 12) (k := 27) (by decide +kernel)).trans ((and_iff_right h1).trans ?_)
  refine (px_go (by decide +kernel : pm_fe 265 61 = some (.iload 5, 2)) rfl).trans ?_
  refine (px_iaload (by decide +kernel) h2).trans ?_
  refine (px_goto (off := 4) (tgt := 68) (by decide +kernel)).trans ?_
  exact Iff.rfl
theorem b265_67 {d : Nat} {G : PG} {M T : PH} {K : PV → PS → Prop} {l0 l1 l2 l3 l4 l5 s0 : Int} : pm_Run d 265 67 [.inr (.inr (.inl l0)), .inl l1, .inl l2, .inl l3, .inl l4, .inl l5] [.inl s0] (G, M, T) K ↔ pm_Run d 265 68 [.inr (.inr (.inl l0)), .inl l1, .inl l2, .inl l3, .inl l4, .inl l5] [.inl 0, .inl s0] (G, M, T) K := by
  refine (px_go (by decide +kernel : pm_fe 265 67 = some (.iconst 0, 1)) rfl).trans ?_
  exact Iff.rfl
theorem b265_68 {d : Nat} {G : PG} {M T : PH} {K : PV → PS → Prop} {l0 l1 l2 l3 l4 l5 s0 s1 : Int} : pm_Run d 265 68 [.inr (.inr (.inl l0)), .inl l1, .inl l2, .inl l3, .inl l4, .inl l5] [.inl s0, .inl s1] (G, M, T) K ↔ pm_Run d 265 5 [.inr (.inr (.inl l0)), .inl l1, .inl l2, .inl (s1 + s0), .inl (l4 + 1), .inl l5] [] (G, M, T) K := by
  refine (px_go (by decide +kernel : pm_fe 265 68 = some (.iadd, 1)) rfl).trans ?_
  refine (px_go (by decide +kernel : pm_fe 265 69 = some (.istore_n 3, 1)) rfl).trans ?_
  refine (px_go (by decide +kernel : pm_fe 265 70 = some (.iinc 4 1, 3)) rfl).trans ?_
  refine (px_goto (off := (-68)) (tgt := 5) (by decide +kernel)).trans ?_
  exact Iff.rfl
theorem b265_76 {d : Nat} {G : PG} {M T : PH} {K : PV → PS → Prop} {l0 l1 l2 l3 l4 : Int} {l5 : PV} : pm_Run d 265 76 [.inr (.inr (.inl l0)), .inl l1, .inl l2, .inl l3, .inl l4, l5] [] (G, M, T) K ↔ K (.inl l3) (G, M, T) := by
  refine (px_go (by decide +kernel : pm_fe 265 76 = some (.iload_n 3, 1)) rfl).trans ?_
  refine (px_ri (by decide +kernel)).trans ?_
  exact Iff.rfl
-- X12_failing failing()I
theorem en266 {d : Nat} {a : Int} {S : PS} {K : PV → PS → Prop} : pm_Call (d + 1) 266 [.inr (.inr (.inl a))] S K ↔ pm_Run d 266 0 [.inr (.inr (.inl a)), PU, PU, PU, PU] [] S K := pm_Call_s.trans (and_iff_right (show 1 ≤ pm_ml 266 from by decide +kernel))
theorem b266_0 {d : Nat} {G : PG} {M T : PH} {K : PV → PS → Prop} {l0 : Int} : pm_Run d 266 0 [.inr (.inr (.inl l0)), PU, PU, PU, PU] [] (G, M, T) K ↔ pm_Run d 266 4 [.inr (.inr (.inl l0)), .inl 0, .inl 1, PU, PU] [] (G, M, T) K := by
  refine (px_go (by decide +kernel : pm_fe 266 0 = some (.iconst 0, 1)) rfl).trans ?_
  refine (px_go (by decide +kernel : pm_fe 266 1 = some (.istore_n 1, 1)) rfl).trans ?_
  refine (px_go (by decide +kernel : pm_fe 266 2 = some (.iconst 1, 1)) rfl).trans ?_
  refine (px_go (by decide +kernel : pm_fe 266 3 = some (.istore_n 2, 1)) rfl).trans ?_
  exact Iff.rfl
theorem b266_4 {d : Nat} {G : PG} {M T : PH} {K : PV → PS → Prop} {l0 l1 l2 : Int} {l3 l4 : PV} : pm_Run d 266 4 [.inr (.inr (.inl l0)), .inl l1, .inl l2, l3, l4] [] (G, M, T) K ↔ if pm_sg l2 = 0 then pm_Run d 266 84 [.inr (.inr (.inl l0)), .inl l1, .inl l2, l3, l4] [] (G, M, T) K else pm_Run d 266 8 [.inr (.inr (.inl l0)), .inl l1, .inl l2, l3, l4] [] (G, M, T) K := by
  refine (px_go (by decide +kernel : pm_fe 266 4 = some (.iload_n 2, 1)) rfl).trans ?_
  refine (px_if_eq (off := 79) (tgt := 84) (by decide +kernel)).trans ?_
  exact Iff.rfl
theorem b266_8 {d : Nat} {G : PG} {M T : PH} {K : PV → PS → Prop} {l0 l1 l2 : Int} {l3 l4 : PV} : pm_Run d 266 8 [.inr (.inr (.inl l0)), .inl l1, .inl l2, l3, l4] [] (G, M, T) K ↔ pm_Run d 266 13 [.inr (.inr (.inl l0)), .inl l1, .inl l2, .inl l1, .inl 0] [] (G, M, T) K := by
  refine (px_go (by decide +kernel : pm_fe 266 8 = some (.iload_n 1, 1)) rfl).trans ?_
  refine (px_go (by decide +kernel : pm_fe 266 9 = some (.istore_n 3, 1)) rfl).trans ?_
  refine (px_go (by decide +kernel : pm_fe 266 10 = some (.iconst 0, 1)) rfl).trans ?_
  refine (px_go (by decide +kernel : pm_fe 266 11 = some (.istore 4, 2)) rfl).trans ?_
  exact Iff.rfl
theorem b266_13 {d : Nat} {G : PG} {M T : PH} {K : PV → PS → Prop} {l0 l1 l2 l3 l4 : Int} (h1 : pm_ob G l0 12) (h2 : pm_ar G (T l0.toNat 19) 100 (M l0.toNat 13)) : pm_Run d 266 13 [.inr (.inr (.inl l0)), .inl l1, .inl l2, .inl l3, .inl l4] [] (G, M, T) K ↔ if pm_sg (M (T l0.toNat 19).toNat (pm_sg (M l0.toNat 13)).toNat) ≤ pm_sg l4 then pm_Run d 266 68 [.inr (.inr (.inl l0)), .inl l1, .inl l2, .inl l3, .inl l4] [] (G, M, T) K else pm_Run d 266 27 [.inr (.inr (.inl l0)), .inl l1, .inl l2, .inl l3, .inl l4] [] (G, M, T) K := by
  refine (px_go (by decide +kernel : pm_fe 266 13 = some (.iload 4, 2)) rfl).trans ?_
  refine (px_go (by decide +kernel : pm_fe 266 15 = some (.aload_n 0, 1)) rfl).trans ?_
  refine (px_get2 (idx := 69) (ci := 12) (k := 19) (by decide +kernel)).trans ((and_iff_right h1).trans ?_)
  refine (px_go (by decide +kernel : pm_fe 266 19 = some (.aload_n 0, 1)) rfl).trans ?_
  refine (px_get0 (idx := 51) (ci := 12) (k := 13) (by decide +kernel)).trans ((and_iff_right h1).trans ?_)
  refine (px_iaload (by decide +kernel) h2).trans ?_
  refine (px_ic_ge (off := 44) (tgt := 68) (by decide +kernel)).trans ?_
  exact Iff.rfl
theorem b266_27 {d : Nat} {G : PG} {M T : PH} {K : PV → PS → Prop} {l0 l1 l2 l3 l4 : Int} (h1 : pm_ob G l0 12) (h2 : pm_ar G (T l0.toNat 57) 100 l4) : pm_Run d 266 27 [.inr (.inr (.inl l0)), .inl l1, .inl l2, .inl l3, .inl l4] [] (G, M, T) K ↔ pm_Call d 265 [.inr (.inr (.inl l0)), .inl l4, .inl l1] (G, M, T) (fun r S1 => pm_Run d 266 42 [.inr (.inr (.inl l0)), .inl l1, .inl l2, .inl l3, .inl l4] (pm_push r [.inl (M (T l0.toNat 57).toNat (pm_sg l4).toNat), .inl l3]) S1 K) := by
  refine (px_go (by decide +kernel : pm_fe 266 27 = some (.iload_n 3, 1)) rfl).trans ?_
  refine (px_go (by decide +kernel : pm_fe 266 28 = some (.aload_n 0, 1)) rfl).trans ?_
  refine (px_get2 (idx := 186) (ci := 12) (k := 57) (by decide +kernel)).trans ((and_iff_right h1).trans ?_)
  refine (px_go (by decide +kernel : pm_fe 266 32 = some (.iload 4, 2)) rfl).trans ?_
  refine (px_iaload (by decide +kernel) h2).trans ?_
  refine (px_go (by decide +kernel : pm_fe 266 35 = some (.aload_n 0, 1)) rfl).trans ?_
  refine (px_go (by decide +kernel : pm_fe 266 36 = some (.iload 4, 2)) rfl).trans ?_
  refine (px_go (by decide +kernel : pm_fe 266 38 = some (.iload_n 1, 1)) rfl).trans ?_
  refine (px_v2 (idx := 538) (m' := 265) (ci := 12) (by decide +kernel)).trans ((and_iff_right ⟨h1, (by simp [pm_wl_n, pm_wl_c, pm_w] : pm_wl [.inl (M (T l0.toNat 57).toNat (pm_sg l4).toNat), .inl l3] ≤ 8)⟩).trans ?_)
  exact Iff.rfl
theorem b266_42 {d : Nat} {G : PG} {M T : PH} {K : PV → PS → Prop} {l0 l1 l2 l3 l4 s0 s1 s2 : Int} (h1 : pm_ob G l0 12) : pm_Run d 266 42 [.inr (.inr (.inl l0)), .inl l1, .inl l2, .inl l3, .inl l4] [.inl s0, .inl s1, .inl s2] (G, M, T) K ↔ pm_Call d 264 [.inr (.inr (.inl l0)), .inl l4] (G, M, T) (fun r S1 => pm_Run d 266 49 [.inr (.inr (.inl l0)), .inl l1, .inl l2, .inl l3, .inl l4] (pm_push r [.inl (s1 + s0), .inl s2]) S1 K) := by
  refine (px_go (by decide +kernel : pm_fe 266 42 = some (.iadd, 1)) rfl).trans ?_
  refine (px_go (by decide +kernel : pm_fe 266 43 = some (.aload_n 0, 1)) rfl).trans ?_
  refine (px_go (by decide +kernel : pm_fe 266 44 = some (.iload 4, 2)) rfl).trans ?_
  refine (px_v1 (idx := 541) (m' := 264) (ci := 12) (by decide +kernel)).trans ((and_iff_right ⟨h1, (by simp [pm_wl_n, pm_wl_c, pm_w] : pm_wl [.inl (s1 + s0), .inl s2] ≤ 8)⟩).trans ?_)
  exact Iff.rfl
theorem b266_49 {d : Nat} {G : PG} {M T : PH} {K : PV → PS → Prop} {l0 l1 l2 l3 l4 s0 s1 s2 : Int} : pm_Run d 266 49 [.inr (.inr (.inl l0)), .inl l1, .inl l2, .inl l3, .inl l4] [.inl s0, .inl s1, .inl s2] (G, M, T) K ↔ if pm_sg s0 ≤ pm_sg s1 then pm_Run d 266 59 [.inr (.inr (.inl l0)), .inl l1, .inl l2, .inl l3, .inl l4] [.inl s2] (G, M, T) K else pm_Run d 266 52 [.inr (.inr (.inl l0)), .inl l1, .inl l2, .inl l3, .inl l4] [.inl s2] (G, M, T) K := by
  refine (px_ic_ge (off := 10) (tgt := 59) (by decide +kernel)).trans ?_
  exact Iff.rfl
theorem b266_52 {d : Nat} {G : PG} {M T : PH} {K : PV → PS → Prop} {l0 l1 l2 l3 l4 s0 : Int} : pm_Run d 266 52 [.inr (.inr (.inl l0)), .inl l1, .inl l2, .inl l3, .inl l4] [.inl s0] (G, M, T) K ↔ pm_Run d 266 60 [.inr (.inr (.inl l0)), .inl l1, .inl l2, .inl l3, .inl l4] [.inl (pm_shl 1 l4), .inl s0] (G, M, T) K := by
  refine (px_go (by decide +kernel : pm_fe 266 52 = some (.iconst 1, 1)) rfl).trans ?_
  refine (px_go (by decide +kernel : pm_fe 266 53 = some (.iload 4, 2)) rfl).trans ?_
  refine (px_go (by decide +kernel : pm_fe 266 55 = some (.ishl, 1)) rfl).trans ?_
  refine (px_goto (off := 4) (tgt := 60) (by decide +kernel)).trans ?_
  exact Iff.rfl
theorem b266_59 {d : Nat} {G : PG} {M T : PH} {K : PV → PS → Prop} {l0 l1 l2 l3 l4 s0 : Int} : pm_Run d 266 59 [.inr (.inr (.inl l0)), .inl l1, .inl l2, .inl l3, .inl l4] [.inl s0] (G, M, T) K ↔ pm_Run d 266 60 [.inr (.inr (.inl l0)), .inl l1, .inl l2, .inl l3, .inl l4] [.inl 0, .inl s0] (G, M, T) K := by
  refine (px_go (by decide +kernel : pm_fe 266 59 = some (.iconst 0, 1)) rfl).trans ?_
  exact Iff.rfl
theorem b266_60 {d : Nat} {G : PG} {M T : PH} {K : PV → PS → Prop} {l0 l1 l2 l3 l4 s0 s1 : Int} : pm_Run d 266 60 [.inr (.inr (.inl l0)), .inl l1, .inl l2, .inl l3, .inl l4] [.inl s0, .inl s1] (G, M, T) K ↔ pm_Run d 266 13 [.inr (.inr (.inl l0)), .inl l1, .inl l2, .inl (pm_or s1 s0), .inl (l4 + 1)] [] (G, M, T) K := by
  refine (px_go (by decide +kernel : pm_fe 266 60 = some (.ior, 1)) rfl).trans ?_
  refine (px_go (by decide +kernel : pm_fe 266 61 = some (.istore_n 3, 1)) rfl).trans ?_
  refine (px_go (by decide +kernel : pm_fe 266 62 = some (.iinc 4 1, 3)) rfl).trans ?_
  refine (px_goto (off := (-52)) (tgt := 13) (by decide +kernel)).trans ?_
  exact Iff.rfl
theorem b266_68 {d : Nat} {G : PG} {M T : PH} {K : PV → PS → Prop} {l0 l1 l2 l3 l4 : Int} : pm_Run d 266 68 [.inr (.inr (.inl l0)), .inl l1, .inl l2, .inl l3, .inl l4] [] (G, M, T) K ↔ if pm_sg l3 = pm_sg l1 then pm_Run d 266 77 [.inr (.inr (.inl l0)), .inl l1, .inl l2, .inl l3, .inl l4] [] (G, M, T) K else pm_Run d 266 73 [.inr (.inr (.inl l0)), .inl l1, .inl l2, .inl l3, .inl l4] [] (G, M, T) K := by
  refine (px_go (by decide +kernel : pm_fe 266 68 = some (.iload_n 3, 1)) rfl).trans ?_
  refine (px_go (by decide +kernel : pm_fe 266 69 = some (.iload_n 1, 1)) rfl).trans ?_
  refine (px_ic_eq (off := 7) (tgt := 77) (by decide +kernel)).trans ?_
  exact Iff.rfl
theorem b266_73 {d : Nat} {G : PG} {M T : PH} {K : PV → PS → Prop} {l0 l1 l2 l3 l4 : Int} : pm_Run d 266 73 [.inr (.inr (.inl l0)), .inl l1, .inl l2, .inl l3, .inl l4] [] (G, M, T) K ↔ pm_Run d 266 78 [.inr (.inr (.inl l0)), .inl l1, .inl l2, .inl l3, .inl l4] [.inl 1] (G, M, T) K := by
  refine (px_go (by decide +kernel : pm_fe 266 73 = some (.iconst 1, 1)) rfl).trans ?_
  refine (px_goto (off := 4) (tgt := 78) (by decide +kernel)).trans ?_
  exact Iff.rfl
theorem b266_77 {d : Nat} {G : PG} {M T : PH} {K : PV → PS → Prop} {l0 l1 l2 l3 l4 : Int} : pm_Run d 266 77 [.inr (.inr (.inl l0)), .inl l1, .inl l2, .inl l3, .inl l4] [] (G, M, T) K ↔ pm_Run d 266 78 [.inr (.inr (.inl l0)), .inl l1, .inl l2, .inl l3, .inl l4] [.inl 0] (G, M, T) K := by
  refine (px_go (by decide +kernel : pm_fe 266 77 = some (.iconst 0, 1)) rfl).trans ?_
  exact Iff.rfl
theorem b266_78 {d : Nat} {G : PG} {M T : PH} {K : PV → PS → Prop} {l0 l1 l2 l3 l4 s0 : Int} : pm_Run d 266 78 [.inr (.inr (.inl l0)), .inl l1, .inl l2, .inl l3, .inl l4] [.inl s0] (G, M, T) K ↔ pm_Run d 266 4 [.inr (.inr (.inl l0)), .inl l3, .inl s0, .inl l3, .inl l4] [] (G, M, T) K := by
  refine (px_go (by decide +kernel : pm_fe 266 78 = some (.istore_n 2, 1)) rfl).trans ?_
  refine (px_go (by decide +kernel : pm_fe 266 79 = some (.iload_n 3, 1)) rfl).trans ?_
  refine (px_go (by decide +kernel : pm_fe 266 80 = some (.istore_n 1, 1)) rfl).trans ?_
  refine (px_goto (off := (-77)) (tgt := 4) (by decide +kernel)).trans ?_
  exact Iff.rfl
theorem b266_84 {d : Nat} {G : PG} {M T : PH} {K : PV → PS → Prop} {l0 l1 l2 : Int} {l3 l4 : PV} : pm_Run d 266 84 [.inr (.inr (.inl l0)), .inl l1, .inl l2, l3, l4] [] (G, M, T) K ↔ K (.inl l1) (G, M, T) := by
  refine (px_go (by decide +kernel : pm_fe 266 84 = some (.iload_n 1, 1)) rfl).trans ?_
  refine (px_ri (by decide +kernel)).trans ?_
  exact Iff.rfl
-- X12_helpFor helpFor(I)I
theorem en267 {d : Nat} {a p0 : Int} {S : PS} {K : PV → PS → Prop} : pm_Call (d + 1) 267 [.inr (.inr (.inl a)), .inl p0] S K ↔ pm_Run d 267 0 [.inr (.inr (.inl a)), .inl p0, PU] [] S K := pm_Call_s.trans (and_iff_right (show 2 ≤ pm_ml 267 from by decide +kernel))
theorem b267_0 {d : Nat} {G : PG} {M T : PH} {K : PV → PS → Prop} {l0 l1 : Int} (h1 : pm_ob G l0 12) : pm_Run d 267 0 [.inr (.inr (.inl l0)), .inl l1, PU] [] (G, M, T) K ↔ pm_Call d 264 [.inr (.inr (.inl l0)), .inl l1] (G, M, T) (fun r S1 => pm_Run d 267 5 [.inr (.inr (.inl l0)), .inl l1, PU] (pm_push r []) S1 K) := by
  refine (px_go (by decide +kernel : pm_fe 267 0 = some (.aload_n 0, 1)) rfl).trans ?_
  refine (px_go (by decide +kernel : pm_fe 267 1 = some (.iload_n 1, 1)) rfl).trans ?_
  refine (px_v1 (idx := 541) (m' := 264) (ci := 12) (by decide +kernel)).trans ((and_iff_right ⟨h1, (by simp [pm_wl_n, pm_wl_c, pm_w] : pm_wl [] ≤ 8)⟩).trans ?_)
  exact Iff.rfl
theorem b267_5 {d : Nat} {G : PG} {M T : PH} {K : PV → PS → Prop} {l0 l1 s0 : Int} (h1 : pm_ob G l0 12) (h2 : pm_ar G (T l0.toNat 57) 100 l1) : pm_Run d 267 5 [.inr (.inr (.inl l0)), .inl l1, PU] [.inl s0] (G, M, T) K ↔ pm_Call d 265 [.inr (.inr (.inl l0)), .inl l1, .inl 0] (G, M, T) (fun r S1 => pm_Run d 267 18 [.inr (.inr (.inl l0)), .inl l1, PU] (pm_push r [.inl (s0 - (M (T l0.toNat 57).toNat (pm_sg l1).toNat))]) S1 K) := by
  refine (px_go (by decide +kernel : pm_fe 267 5 = some (.aload_n 0, 1)) rfl).trans ?_
  refine (px_get2 (idx := 186) (ci := 12) (k := 57) (by decide +kernel)).trans ((and_iff_right h1).trans ?_)
  refine (px_go (by decide +kernel : pm_fe 267 9 = some (.iload_n 1, 1)) rfl).trans ?_
  refine (px_iaload (by decide +kernel) h2).trans ?_
  refine (px_go (by decide +kernel : pm_fe 267 11 = some (.isub, 1)) rfl).trans ?_
  refine (px_go (by decide +kernel : pm_fe 267 12 = some (.aload_n 0, 1)) rfl).trans ?_
  refine (px_go (by decide +kernel : pm_fe 267 13 = some (.iload_n 1, 1)) rfl).trans ?_
  refine (px_go (by decide +kernel : pm_fe 267 14 = some (.iconst 0, 1)) rfl).trans ?_
  refine (px_v2 (idx := 538) (m' := 265) (ci := 12) (by decide +kernel)).trans ((and_iff_right ⟨h1, (by simp [pm_wl_n, pm_wl_c, pm_w] : pm_wl [.inl (s0 - (M (T l0.toNat 57).toNat (pm_sg l1).toNat))] ≤ 8)⟩).trans ?_)
  exact Iff.rfl
theorem b267_18 {d : Nat} {G : PG} {M T : PH} {K : PV → PS → Prop} {l0 l1 s0 s1 : Int} : pm_Run d 267 18 [.inr (.inr (.inl l0)), .inl l1, PU] [.inl s0, .inl s1] (G, M, T) K ↔ if 0 ≤ pm_sg (s1 - s0) then pm_Run d 267 28 [.inr (.inr (.inl l0)), .inl l1, .inl (s1 - s0)] [] (G, M, T) K else pm_Run d 267 24 [.inr (.inr (.inl l0)), .inl l1, .inl (s1 - s0)] [] (G, M, T) K := by
  refine (px_go (by decide +kernel : pm_fe 267 18 = some (.isub, 1)) rfl).trans ?_
  refine (px_go (by decide +kernel : pm_fe 267 19 = some (.istore_n 2, 1)) rfl).trans ?_
  refine (px_go (by decide +kernel : pm_fe 267 20 = some (.iload_n 2, 1)) rfl).trans ?_
  refine (px_if_ge (off := 7) (tgt := 28) (by decide +kernel)).trans ?_
  exact Iff.rfl
theorem b267_24 {d : Nat} {G : PG} {M T : PH} {K : PV → PS → Prop} {l0 l1 l2 : Int} : pm_Run d 267 24 [.inr (.inr (.inl l0)), .inl l1, .inl l2] [] (G, M, T) K ↔ pm_Run d 267 29 [.inr (.inr (.inl l0)), .inl l1, .inl l2] [.inl 0] (G, M, T) K := by
  refine (px_go (by decide +kernel : pm_fe 267 24 = some (.iconst 0, 1)) rfl).trans ?_
  refine (px_goto (off := 4) (tgt := 29) (by decide +kernel)).trans ?_
  exact Iff.rfl
theorem b267_28 {d : Nat} {G : PG} {M T : PH} {K : PV → PS → Prop} {l0 l1 l2 : Int} : pm_Run d 267 28 [.inr (.inr (.inl l0)), .inl l1, .inl l2] [] (G, M, T) K ↔ pm_Run d 267 29 [.inr (.inr (.inl l0)), .inl l1, .inl l2] [.inl l2] (G, M, T) K := by
  refine (px_go (by decide +kernel : pm_fe 267 28 = some (.iload_n 2, 1)) rfl).trans ?_
  exact Iff.rfl
theorem b267_29 {d : Nat} {G : PG} {M T : PH} {K : PV → PS → Prop} {l0 l1 l2 s0 : Int} : pm_Run d 267 29 [.inr (.inr (.inl l0)), .inl l1, .inl l2] [.inl s0] (G, M, T) K ↔ K (.inl s0) (G, M, T) := by
  refine (px_ri (by decide +kernel)).trans ?_
  exact Iff.rfl
-- X12_isStranded isStranded(I)Z
theorem en268 {d : Nat} {a p0 : Int} {S : PS} {K : PV → PS → Prop} : pm_Call (d + 1) 268 [.inr (.inr (.inl a)), .inl p0] S K ↔ pm_Run d 268 0 [.inr (.inr (.inl a)), .inl p0] [] S K := pm_Call_s.trans (and_iff_right (show 2 ≤ pm_ml 268 from by decide +kernel))
theorem b268_0 {d : Nat} {G : PG} {M T : PH} {K : PV → PS → Prop} {l0 l1 : Int} (h1 : pm_ob G l0 12) : pm_Run d 268 0 [.inr (.inr (.inl l0)), .inl l1] [] (G, M, T) K ↔ pm_Call d 230 [.inr (.inr (.inl l0)), .inl l1] (G, M, T) (fun r S1 => pm_Run d 268 9 [.inr (.inr (.inl l0)), .inl l1] (pm_push r [.inr (.inr (.inl (T l0.toNat 68)))]) S1 K) := by
  refine (px_go (by decide +kernel : pm_fe 268 0 = some (.aload_n 0, 1)) rfl).trans ?_
  refine (px_get2 (idx := 219) (ci := 12) (k := 68) (by decide +kernel)).trans ((and_iff_right h1).trans ?_)
  refine (px_go (by decide +kernel : pm_fe 268 4 = some (.aload_n 0, 1)) rfl).trans ?_
  refine (px_go (by decide +kernel : pm_fe 268 5 = some (.iload_n 1, 1)) rfl).trans ?_
  refine (px_v1 (idx := 503) (m' := 230) (ci := 12) (by decide +kernel)).trans ((and_iff_right ⟨h1, (by simp [pm_wl_n, pm_wl_c, pm_w] : pm_wl [.inr (.inr (.inl (T l0.toNat 68)))] ≤ 8)⟩).trans ?_)
  exact Iff.rfl
theorem b268_9 {d : Nat} {G : PG} {M T : PH} {K : PV → PS → Prop} {l0 l1 s0 s1 : Int} (h1 : pm_ar G s1 100 s0) (h2 : pm_ob G l0 12) : pm_Run d 268 9 [.inr (.inr (.inl l0)), .inl l1] [.inl s0, .inr (.inr (.inl s1))] (G, M, T) K ↔ pm_Call d 231 [.inr (.inr (.inl l0)), .inl l1] (G, M, T) (fun r S1 => pm_Run d 268 15 [.inr (.inr (.inl l0)), .inl l1] (pm_push r [.inl (M s1.toNat (pm_sg s0).toNat)]) S1 K) := by
  refine (px_iaload (by decide +kernel) h1).trans ?_
  refine (px_go (by decide +kernel : pm_fe 268 10 = some (.aload_n 0, 1)) rfl).trans ?_
  refine (px_go (by decide +kernel : pm_fe 268 11 = some (.iload_n 1, 1)) rfl).trans ?_
  refine (px_v1 (idx := 454) (m' := 231) (ci := 12) (by decide +kernel)).trans ((and_iff_right ⟨h2, (by simp [pm_wl_n, pm_wl_c, pm_w] : pm_wl [.inl (M s1.toNat (pm_sg s0).toNat)] ≤ 8)⟩).trans ?_)
  exact Iff.rfl
theorem b268_15 {d : Nat} {G : PG} {M T : PH} {K : PV → PS → Prop} {l0 l1 s0 s1 : Int} : pm_Run d 268 15 [.inr (.inr (.inl l0)), .inl l1] [.inl s0, .inl s1] (G, M, T) K ↔ if pm_sg s0 ≤ pm_sg s1 then pm_Run d 268 22 [.inr (.inr (.inl l0)), .inl l1] [] (G, M, T) K else pm_Run d 268 18 [.inr (.inr (.inl l0)), .inl l1] [] (G, M, T) K := by
  refine (px_ic_ge (off := 7) (tgt := 22) (by decide +kernel)).trans ?_
  exact Iff.rfl
theorem b268_18 {d : Nat} {G : PG} {M T : PH} {K : PV → PS → Prop} {l0 l1 : Int} : pm_Run d 268 18 [.inr (.inr (.inl l0)), .inl l1] [] (G, M, T) K ↔ pm_Run d 268 23 [.inr (.inr (.inl l0)), .inl l1] [.inl 1] (G, M, T) K := by
  refine (px_go (by decide +kernel : pm_fe 268 18 = some (.iconst 1, 1)) rfl).trans ?_
  refine (px_goto (off := 4) (tgt := 23) (by decide +kernel)).trans ?_
  exact Iff.rfl
theorem b268_22 {d : Nat} {G : PG} {M T : PH} {K : PV → PS → Prop} {l0 l1 : Int} : pm_Run d 268 22 [.inr (.inr (.inl l0)), .inl l1] [] (G, M, T) K ↔ pm_Run d 268 23 [.inr (.inr (.inl l0)), .inl l1] [.inl 0] (G, M, T) K := by
  refine (px_go (by decide +kernel : pm_fe 268 22 = some (.iconst 0, 1)) rfl).trans ?_
  exact Iff.rfl
theorem b268_23 {d : Nat} {G : PG} {M T : PH} {K : PV → PS → Prop} {l0 l1 s0 : Int} (h1 : s0 = 0 ∨ s0 = 1) : pm_Run d 268 23 [.inr (.inr (.inl l0)), .inl l1] [.inl s0] (G, M, T) K ↔ K (.inl s0) (G, M, T) := by
  refine (px_rz (by decide +kernel)).trans ((and_iff_right h1).trans ?_)
  exact Iff.rfl
-- X12_harbor harbor(II)I
theorem en269 {d : Nat} {a p0 p1 : Int} {S : PS} {K : PV → PS → Prop} : pm_Call (d + 1) 269 [.inr (.inr (.inl a)), .inl p0, .inl p1] S K ↔ pm_Run d 269 0 [.inr (.inr (.inl a)), .inl p0, .inl p1] [] S K := pm_Call_s.trans (and_iff_right (show 3 ≤ pm_ml 269 from by decide +kernel))
theorem b269_0 {d : Nat} {G : PG} {M T : PH} {K : PV → PS → Prop} {l0 l1 l2 : Int} (h1 : pm_ob G l0 12) : pm_Run d 269 0 [.inr (.inr (.inl l0)), .inl l1, .inl l2] [] (G, M, T) K ↔ pm_Call d 229 [.inr (.inr (.inl l0)), .inl l1] (G, M, T) (fun r S1 => pm_Run d 269 5 [.inr (.inr (.inl l0)), .inl l1, .inl l2] (pm_push r []) S1 K) := by
  refine (px_go (by decide +kernel : pm_fe 269 0 = some (.aload_n 0, 1)) rfl).trans ?_
  refine (px_go (by decide +kernel : pm_fe 269 1 = some (.iload_n 1, 1)) rfl).trans ?_
  refine (px_v1 (idx := 544) (m' := 229) (ci := 12) (by decide +kernel)).trans ((and_iff_right ⟨h1, (by simp [pm_wl_n, pm_wl_c, pm_w] : pm_wl [] ≤ 8)⟩).trans ?_)
  exact Iff.rfl
theorem b269_5 {d : Nat} {G : PG} {M T : PH} {K : PV → PS → Prop} {l0 l1 l2 s0 : Int} : pm_Run d 269 5 [.inr (.inr (.inl l0)), .inl l1, .inl l2] [.inl s0] (G, M, T) K ↔ if pm_sg s0 ≠ 0 then pm_Run d 269 10 [.inr (.inr (.inl l0)), .inl l1, .inl l2] [] (G, M, T) K else pm_Run d 269 8 [.inr (.inr (.inl l0)), .inl l1, .inl l2] [] (G, M, T) K := by
  refine (px_if_ne (off := 5) (tgt := 10) (by decide +kernel)).trans ?_
  exact Iff.rfl
theorem b269_8 {d : Nat} {G : PG} {M T : PH} {K : PV → PS → Prop} {l0 l1 l2 : Int} : pm_Run d 269 8 [.inr (.inr (.inl l0)), .inl l1, .inl l2] [] (G, M, T) K ↔ K (.inl (-1)) (G, M, T) := by
  refine (px_go (by decide +kernel : pm_fe 269 8 = some (.iconst (-1), 1)) rfl).trans ?_
  refine (px_ri (by decide +kernel)).trans ?_
  exact Iff.rfl
theorem b269_10 {d : Nat} {G : PG} {M T : PH} {K : PV → PS → Prop} {l0 l1 l2 : Int} : pm_Run d 269 10 [.inr (.inr (.inl l0)), .inl l1, .inl l2] [] (G, M, T) K ↔ pm_Run d 269 (pm_tg 0 [64, 70, 77, 83, 90, 97, 116, 122, 129, 138] 144 (pm_sg l2)) [.inr (.inr (.inl l0)), .inl l1, .inl l2] [] (G, M, T) K := by
  refine (px_go (by decide +kernel : pm_fe 269 10 = some (.iload_n 2, 1)) rfl).trans ?_
  refine (px_tsw (lo := 0) (dt := 144) (tl := [64, 70, 77, 83, 90, 97, 116, 122, 129, 138]) (by decide +kernel : pm_fe 269 11 = some (.tableswitch 133 0 9 #[53, 59, 66, 72, 79, 86, 105, 111, 118, 127], 53) ∧ _)).trans ?_
  exact Iff.rfl
theorem b269_64 {d : Nat} {G : PG} {M T : PH} {K : PV → PS → Prop} {l0 l1 l2 : Int} (h1 : pm_ob G l0 12) : pm_Run d 269 64 [.inr (.inr (.inl l0)), .inl l1, .inl l2] [] (G, M, T) K ↔ pm_Call d 230 [.inr (.inr (.inl l0)), .inl l1] (G, M, T) (fun r S1 => pm_Run d 269 69 [.inr (.inr (.inl l0)), .inl l1, .inl l2] (pm_push r []) S1 K) := by
  refine (px_go (by decide +kernel : pm_fe 269 64 = some (.aload_n 0, 1)) rfl).trans ?_
  refine (px_go (by decide +kernel : pm_fe 269 65 = some (.iload_n 1, 1)) rfl).trans ?_
  refine (px_v1 (idx := 503) (m' := 230) (ci := 12) (by decide +kernel)).trans ((and_iff_right ⟨h1, (by simp [pm_wl_n, pm_wl_c, pm_w] : pm_wl [] ≤ 8)⟩).trans ?_)
  exact Iff.rfl
theorem b269_69 {d : Nat} {G : PG} {M T : PH} {K : PV → PS → Prop} {l0 l1 l2 s0 : Int} : pm_Run d 269 69 [.inr (.inr (.inl l0)), .inl l1, .inl l2] [.inl s0] (G, M, T) K ↔ K (.inl s0) (G, M, T) := by
  refine (px_ri (by decide +kernel)).trans ?_
  exact Iff.rfl
theorem b269_70 {d : Nat} {G : PG} {M T : PH} {K : PV → PS → Prop} {l0 l1 l2 : Int} (h1 : pm_ob G l0 12) (h2 : pm_ar G (T l0.toNat 57) 100 l1) : pm_Run d 269 70 [.inr (.inr (.inl l0)), .inl l1, .inl l2] [] (G, M, T) K ↔ K (.inl (M (T l0.toNat 57).toNat (pm_sg l1).toNat)) (G, M, T) := by
  refine (px_go (by decide +kernel : pm_fe 269 70 = some (.aload_n 0, 1)) rfl).trans ?_
  refine (px_get2 (idx := 186) (ci := 12) (k := 57) (by decide +kernel)).trans ((and_iff_right h1).trans ?_)
  refine (px_go (by decide +kernel : pm_fe 269 74 = some (.iload_n 1, 1)) rfl).trans ?_
  refine (px_iaload (by decide +kernel) h2).trans ?_
  refine (px_ri (by decide +kernel)).trans ?_
  exact Iff.rfl
theorem b269_77 {d : Nat} {G : PG} {M T : PH} {K : PV → PS → Prop} {l0 l1 l2 : Int} (h1 : pm_ob G l0 12) : pm_Run d 269 77 [.inr (.inr (.inl l0)), .inl l1, .inl l2] [] (G, M, T) K ↔ pm_Call d 231 [.inr (.inr (.inl l0)), .inl l1] (G, M, T) (fun r S1 => pm_Run d 269 82 [.inr (.inr (.inl l0)), .inl l1, .inl l2] (pm_push r []) S1 K) := by
  refine (px_go (by decide +kernel : pm_fe 269 77 = some (.aload_n 0, 1)) rfl).trans ?_
  refine (px_go (by decide +kernel : pm_fe 269 78 = some (.iload_n 1, 1)) rfl).trans ?_
  refine (px_v1 (idx := 454) (m' := 231) (ci := 12) (by decide +kernel)).trans ((and_iff_right ⟨h1, (by simp [pm_wl_n, pm_wl_c, pm_w] : pm_wl [] ≤ 8)⟩).trans ?_)
  exact Iff.rfl
theorem b269_82 {d : Nat} {G : PG} {M T : PH} {K : PV → PS → Prop} {l0 l1 l2 s0 : Int} : pm_Run d 269 82 [.inr (.inr (.inl l0)), .inl l1, .inl l2] [.inl s0] (G, M, T) K ↔ K (.inl s0) (G, M, T) := by
  refine (px_ri (by decide +kernel)).trans ?_
  exact Iff.rfl
theorem b269_83 {d : Nat} {G : PG} {M T : PH} {K : PV → PS → Prop} {l0 l1 l2 : Int} (h1 : pm_ob G l0 12) : pm_Run d 269 83 [.inr (.inr (.inl l0)), .inl l1, .inl l2] [] (G, M, T) K ↔ pm_Call d 239 [.inr (.inr (.inl l0)), .inl 0, .inl l1] (G, M, T) (fun r S1 => pm_Run d 269 89 [.inr (.inr (.inl l0)), .inl l1, .inl l2] (pm_push r []) S1 K) := by
  refine (px_go (by decide +kernel : pm_fe 269 83 = some (.aload_n 0, 1)) rfl).trans ?_
  refine (px_go (by decide +kernel : pm_fe 269 84 = some (.iconst 0, 1)) rfl).trans ?_
  refine (px_go (by decide +kernel : pm_fe 269 85 = some (.iload_n 1, 1)) rfl).trans ?_
  refine (px_v2 (idx := 457) (m' := 239) (ci := 12) (by decide +kernel)).trans ((and_iff_right ⟨h1, (by simp [pm_wl_n, pm_wl_c, pm_w] : pm_wl [] ≤ 8)⟩).trans ?_)
  exact Iff.rfl
theorem b269_89 {d : Nat} {G : PG} {M T : PH} {K : PV → PS → Prop} {l0 l1 l2 s0 : Int} : pm_Run d 269 89 [.inr (.inr (.inl l0)), .inl l1, .inl l2] [.inl s0] (G, M, T) K ↔ K (.inl s0) (G, M, T) := by
  refine (px_ri (by decide +kernel)).trans ?_
  exact Iff.rfl
theorem b269_90 {d : Nat} {G : PG} {M T : PH} {K : PV → PS → Prop} {l0 l1 l2 : Int} (h1 : pm_ob G l0 12) : pm_Run d 269 90 [.inr (.inr (.inl l0)), .inl l1, .inl l2] [] (G, M, T) K ↔ pm_Call d 240 [.inr (.inr (.inl l0)), .inl 0, .inl l1] (G, M, T) (fun r S1 => pm_Run d 269 96 [.inr (.inr (.inl l0)), .inl l1, .inl l2] (pm_push r []) S1 K) := by
  refine (px_go (by decide +kernel : pm_fe 269 90 = some (.aload_n 0, 1)) rfl).trans ?_
  refine (px_go (by decide +kernel : pm_fe 269 91 = some (.iconst 0, 1)) rfl).trans ?_
  refine (px_go (by decide +kernel : pm_fe 269 92 = some (.iload_n 1, 1)) rfl).trans ?_
  refine (px_v2 (idx := 460) (m' := 240) (ci := 12) (by decide +kernel)).trans ((and_iff_right ⟨h1, (by simp [pm_wl_n, pm_wl_c, pm_w] : pm_wl [] ≤ 8)⟩).trans ?_)
  exact Iff.rfl
theorem b269_96 {d : Nat} {G : PG} {M T : PH} {K : PV → PS → Prop} {l0 l1 l2 s0 : Int} : pm_Run d 269 96 [.inr (.inr (.inl l0)), .inl l1, .inl l2] [.inl s0] (G, M, T) K ↔ K (.inl s0) (G, M, T) := by
  refine (px_ri (by decide +kernel)).trans ?_
  exact Iff.rfl
theorem b269_97 {d : Nat} {G : PG} {M T : PH} {K : PV → PS → Prop} {l0 l1 l2 : Int} (h1 : pm_ob G l0 12) : pm_Run d 269 97 [.inr (.inr (.inl l0)), .inl l1, .inl l2] [] (G, M, T) K ↔ pm_Call d 255 [.inr (.inr (.inl l0)), .inl 0] (G, M, T) (fun r S1 => pm_Run d 269 102 [.inr (.inr (.inl l0)), .inl l1, .inl l2] (pm_push r []) S1 K) := by
  refine (px_go (by decide +kernel : pm_fe 269 97 = some (.aload_n 0, 1)) rfl).trans ?_
  refine (px_go (by decide +kernel : pm_fe 269 98 = some (.iconst 0, 1)) rfl).trans ?_
  refine (px_v1 (idx := 513) (m' := 255) (ci := 12) (by decide +kernel)).trans ((and_iff_right ⟨h1, (by simp [pm_wl_n, pm_wl_c, pm_w] : pm_wl [] ≤ 8)⟩).trans ?_)
  exact Iff.rfl
theorem b269_102 {d : Nat} {G : PG} {M T : PH} {K : PV → PS → Prop} {l0 l1 l2 : Int} (h1 : pm_ob G l0 12) : pm_Run d 269 102 [.inr (.inr (.inl l0)), .inl l1, .inl l2] [] (G, M, T) K ↔ pm_Call d 268 [.inr (.inr (.inl l0)), .inl l1] (G, M, T) (fun r S1 => pm_Run d 269 107 [.inr (.inr (.inl l0)), .inl l1, .inl l2] (pm_push r []) S1 K) := by
  refine (px_go (by decide +kernel : pm_fe 269 102 = some (.aload_n 0, 1)) rfl).trans ?_
  refine (px_go (by decide +kernel : pm_fe 269 103 = some (.iload_n 1, 1)) rfl).trans ?_
  refine (px_v1 (idx := 547) (m' := 268) (ci := 12) (by decide +kernel)).trans ((and_iff_right ⟨h1, (by simp [pm_wl_n, pm_wl_c, pm_w] : pm_wl [] ≤ 8)⟩).trans ?_)
  exact Iff.rfl
theorem b269_107 {d : Nat} {G : PG} {M T : PH} {K : PV → PS → Prop} {l0 l1 l2 s0 : Int} : pm_Run d 269 107 [.inr (.inr (.inl l0)), .inl l1, .inl l2] [.inl s0] (G, M, T) K ↔ if pm_sg s0 = 0 then pm_Run d 269 114 [.inr (.inr (.inl l0)), .inl l1, .inl l2] [] (G, M, T) K else pm_Run d 269 110 [.inr (.inr (.inl l0)), .inl l1, .inl l2] [] (G, M, T) K := by
  refine (px_if_eq (off := 7) (tgt := 114) (by decide +kernel)).trans ?_
  exact Iff.rfl
theorem b269_110 {d : Nat} {G : PG} {M T : PH} {K : PV → PS → Prop} {l0 l1 l2 : Int} : pm_Run d 269 110 [.inr (.inr (.inl l0)), .inl l1, .inl l2] [] (G, M, T) K ↔ pm_Run d 269 115 [.inr (.inr (.inl l0)), .inl l1, .inl l2] [.inl 1] (G, M, T) K := by
  refine (px_go (by decide +kernel : pm_fe 269 110 = some (.iconst 1, 1)) rfl).trans ?_
  refine (px_goto (off := 4) (tgt := 115) (by decide +kernel)).trans ?_
  exact Iff.rfl
theorem b269_114 {d : Nat} {G : PG} {M T : PH} {K : PV → PS → Prop} {l0 l1 l2 : Int} : pm_Run d 269 114 [.inr (.inr (.inl l0)), .inl l1, .inl l2] [] (G, M, T) K ↔ pm_Run d 269 115 [.inr (.inr (.inl l0)), .inl l1, .inl l2] [.inl 0] (G, M, T) K := by
  refine (px_go (by decide +kernel : pm_fe 269 114 = some (.iconst 0, 1)) rfl).trans ?_
  exact Iff.rfl
theorem b269_115 {d : Nat} {G : PG} {M T : PH} {K : PV → PS → Prop} {l0 l1 l2 s0 : Int} : pm_Run d 269 115 [.inr (.inr (.inl l0)), .inl l1, .inl l2] [.inl s0] (G, M, T) K ↔ K (.inl s0) (G, M, T) := by
  refine (px_ri (by decide +kernel)).trans ?_
  exact Iff.rfl
theorem b269_116 {d : Nat} {G : PG} {M T : PH} {K : PV → PS → Prop} {l0 l1 l2 : Int} (h1 : pm_ob G l0 12) : pm_Run d 269 116 [.inr (.inr (.inl l0)), .inl l1, .inl l2] [] (G, M, T) K ↔ pm_Call d 264 [.inr (.inr (.inl l0)), .inl l1] (G, M, T) (fun r S1 => pm_Run d 269 121 [.inr (.inr (.inl l0)), .inl l1, .inl l2] (pm_push r []) S1 K) := by
  refine (px_go (by decide +kernel : pm_fe 269 116 = some (.aload_n 0, 1)) rfl).trans ?_
  refine (px_go (by decide +kernel : pm_fe 269 117 = some (.iload_n 1, 1)) rfl).trans ?_
  refine (px_v1 (idx := 541) (m' := 264) (ci := 12) (by decide +kernel)).trans ((and_iff_right ⟨h1, (by simp [pm_wl_n, pm_wl_c, pm_w] : pm_wl [] ≤ 8)⟩).trans ?_)
  exact Iff.rfl
theorem b269_121 {d : Nat} {G : PG} {M T : PH} {K : PV → PS → Prop} {l0 l1 l2 s0 : Int} : pm_Run d 269 121 [.inr (.inr (.inl l0)), .inl l1, .inl l2] [.inl s0] (G, M, T) K ↔ K (.inl s0) (G, M, T) := by
  refine (px_ri (by decide +kernel)).trans ?_
  exact Iff.rfl
theorem b269_122 {d : Nat} {G : PG} {M T : PH} {K : PV → PS → Prop} {l0 l1 l2 : Int} (h1 : pm_ob G l0 12) : pm_Run d 269 122 [.inr (.inr (.inl l0)), .inl l1, .inl l2] [] (G, M, T) K ↔ pm_Call d 265 [.inr (.inr (.inl l0)), .inl l1, .inl 0] (G, M, T) (fun r S1 => pm_Run d 269 128 [.inr (.inr (.inl l0)), .inl l1, .inl l2] (pm_push r []) S1 K) := by
  refine (px_go (by decide +kernel : pm_fe 269 122 = some (.aload_n 0, 1)) rfl).trans ?_
  refine (px_go (by decide +kernel : pm_fe 269 123 = some (.iload_n 1, 1)) rfl).trans ?_
  refine (px_go (by decide +kernel : pm_fe 269 124 = some (.iconst 0, 1)) rfl).trans ?_
  refine (px_v2 (idx := 538) (m' := 265) (ci := 12) (by decide +kernel)).trans ((and_iff_right ⟨h1, (by simp [pm_wl_n, pm_wl_c, pm_w] : pm_wl [] ≤ 8)⟩).trans ?_)
  exact Iff.rfl
theorem b269_128 {d : Nat} {G : PG} {M T : PH} {K : PV → PS → Prop} {l0 l1 l2 s0 : Int} : pm_Run d 269 128 [.inr (.inr (.inl l0)), .inl l1, .inl l2] [.inl s0] (G, M, T) K ↔ K (.inl s0) (G, M, T) := by
  refine (px_ri (by decide +kernel)).trans ?_
  exact Iff.rfl
theorem b269_129 {d : Nat} {G : PG} {M T : PH} {K : PV → PS → Prop} {l0 l1 l2 : Int} (h1 : pm_ob G l0 12) : pm_Run d 269 129 [.inr (.inr (.inl l0)), .inl l1, .inl l2] [] (G, M, T) K ↔ pm_Call d 266 [.inr (.inr (.inl l0))] (G, M, T) (fun r S1 => pm_Run d 269 133 [.inr (.inr (.inl l0)), .inl l1, .inl l2] (pm_push r []) S1 K) := by
  refine (px_go (by decide +kernel : pm_fe 269 129 = some (.aload_n 0, 1)) rfl).trans ?_
  refine (px_v0 (idx := 550) (m' := 266) (ci := 12) (by decide +kernel)).trans ((and_iff_right ⟨h1, (by simp [pm_wl_n, pm_wl_c, pm_w] : pm_wl [] ≤ 8)⟩).trans ?_)
  exact Iff.rfl
theorem b269_133 {d : Nat} {G : PG} {M T : PH} {K : PV → PS → Prop} {l0 l1 l2 s0 : Int} : pm_Run d 269 133 [.inr (.inr (.inl l0)), .inl l1, .inl l2] [.inl s0] (G, M, T) K ↔ K (.inl (pm_and (pm_shr s0 l1) 1)) (G, M, T) := by
  refine (px_go (by decide +kernel : pm_fe 269 133 = some (.iload_n 1, 1)) rfl).trans ?_
  refine (px_go (by decide +kernel : pm_fe 269 134 = some (.ishr, 1)) rfl).trans ?_
  refine (px_go (by decide +kernel : pm_fe 269 135 = some (.iconst 1, 1)) rfl).trans ?_
  refine (px_go (by decide +kernel : pm_fe 269 136 = some (.iand, 1)) rfl).trans ?_
  refine (px_ri (by decide +kernel)).trans ?_
  exact Iff.rfl
theorem b269_138 {d : Nat} {G : PG} {M T : PH} {K : PV → PS → Prop} {l0 l1 l2 : Int} (h1 : pm_ob G l0 12) : pm_Run d 269 138 [.inr (.inr (.inl l0)), .inl l1, .inl l2] [] (G, M, T) K ↔ pm_Call d 267 [.inr (.inr (.inl l0)), .inl l1] (G, M, T) (fun r S1 => pm_Run d 269 143 [.inr (.inr (.inl l0)), .inl l1, .inl l2] (pm_push r []) S1 K) := by
  refine (px_go (by decide +kernel : pm_fe 269 138 = some (.aload_n 0, 1)) rfl).trans ?_
  refine (px_go (by decide +kernel : pm_fe 269 139 = some (.iload_n 1, 1)) rfl).trans ?_
  refine (px_v1 (idx := 553) (m' := 267) (ci := 12) (by decide +kernel)).trans ((and_iff_right ⟨h1, (by simp [pm_wl_n, pm_wl_c, pm_w] : pm_wl [] ≤ 8)⟩).trans ?_)
  exact Iff.rfl
theorem b269_143 {d : Nat} {G : PG} {M T : PH} {K : PV → PS → Prop} {l0 l1 l2 s0 : Int} : pm_Run d 269 143 [.inr (.inr (.inl l0)), .inl l1, .inl l2] [.inl s0] (G, M, T) K ↔ K (.inl s0) (G, M, T) := by
  refine (px_ri (by decide +kernel)).trans ?_
  exact Iff.rfl
theorem b269_144 {d : Nat} {G : PG} {M T : PH} {K : PV → PS → Prop} {l0 l1 l2 : Int} : pm_Run d 269 144 [.inr (.inr (.inl l0)), .inl l1, .inl l2] [] (G, M, T) K ↔ K (.inl (-1)) (G, M, T) := by
  refine (px_go (by decide +kernel : pm_fe 269 144 = some (.iconst (-1), 1)) rfl).trans ?_
  refine (px_ri (by decide +kernel)).trans ?_
  exact Iff.rfl
-- X12_bids bids(III)I
theorem en270 {d : Nat} {a p0 p1 p2 : Int} {S : PS} {K : PV → PS → Prop} : pm_Call (d + 1) 270 [.inr (.inr (.inl a)), .inl p0, .inl p1, .inl p2] S K ↔ pm_Run d 270 0 [.inr (.inr (.inl a)), .inl p0, .inl p1, .inl p2] [] S K := pm_Call_s.trans (and_iff_right (show 4 ≤ pm_ml 270 from by decide +kernel))
theorem b270_0 {d : Nat} {G : PG} {M T : PH} {K : PV → PS → Prop} {l0 l1 l2 l3 : Int} (h1 : pm_ob G l0 12) : pm_Run d 270 0 [.inr (.inr (.inl l0)), .inl l1, .inl l2, .inl l3] [] (G, M, T) K ↔ pm_Call d 229 [.inr (.inr (.inl l0)), .inl l1] (G, M, T) (fun r S1 => pm_Run d 270 5 [.inr (.inr (.inl l0)), .inl l1, .inl l2, .inl l3] (pm_push r []) S1 K) := by
  refine (px_go (by decide +kernel : pm_fe 270 0 = some (.aload_n 0, 1)) rfl).trans ?_
  refine (px_go (by decide +kernel : pm_fe 270 1 = some (.iload_n 1, 1)) rfl).trans ?_
  refine (px_v1 (idx := 544) (m' := 229) (ci := 12) (by decide +kernel)).trans ((and_iff_right ⟨h1, (by simp [pm_wl_n, pm_wl_c, pm_w] : pm_wl [] ≤ 8)⟩).trans ?_)
  exact Iff.rfl
theorem b270_5 {d : Nat} {G : PG} {M T : PH} {K : PV → PS → Prop} {l0 l1 l2 l3 s0 : Int} : pm_Run d 270 5 [.inr (.inr (.inl l0)), .inl l1, .inl l2, .inl l3] [.inl s0] (G, M, T) K ↔ if pm_sg s0 = 0 then pm_Run d 270 16 [.inr (.inr (.inl l0)), .inl l1, .inl l2, .inl l3] [] (G, M, T) K else pm_Run d 270 8 [.inr (.inr (.inl l0)), .inl l1, .inl l2, .inl l3] [] (G, M, T) K := by
  refine (px_if_eq (off := 11) (tgt := 16) (by decide +kernel)).trans ?_
  exact Iff.rfl
theorem b270_8 {d : Nat} {G : PG} {M T : PH} {K : PV → PS → Prop} {l0 l1 l2 l3 : Int} (h1 : pm_ob G l0 12) : pm_Run d 270 8 [.inr (.inr (.inl l0)), .inl l1, .inl l2, .inl l3] [] (G, M, T) K ↔ pm_Call d 228 [.inr (.inr (.inl l0)), .inl l2] (G, M, T) (fun r S1 => pm_Run d 270 13 [.inr (.inr (.inl l0)), .inl l1, .inl l2, .inl l3] (pm_push r []) S1 K) := by
  refine (px_go (by decide +kernel : pm_fe 270 8 = some (.aload_n 0, 1)) rfl).trans ?_
  refine (px_go (by decide +kernel : pm_fe 270 9 = some (.iload_n 2, 1)) rfl).trans ?_
  refine (px_v1 (idx := 535) (m' := 228) (ci := 12) (by decide +kernel)).trans ((and_iff_right ⟨h1, (by simp [pm_wl_n, pm_wl_c, pm_w] : pm_wl [] ≤ 8)⟩).trans ?_)
  exact Iff.rfl
theorem b270_13 {d : Nat} {G : PG} {M T : PH} {K : PV → PS → Prop} {l0 l1 l2 l3 s0 : Int} : pm_Run d 270 13 [.inr (.inr (.inl l0)), .inl l1, .inl l2, .inl l3] [.inl s0] (G, M, T) K ↔ if pm_sg s0 ≠ 0 then pm_Run d 270 20 [.inr (.inr (.inl l0)), .inl l1, .inl l2, .inl l3] [] (G, M, T) K else pm_Run d 270 16 [.inr (.inr (.inl l0)), .inl l1, .inl l2, .inl l3] [] (G, M, T) K := by
  refine (px_if_ne (off := 7) (tgt := 20) (by decide +kernel)).trans ?_
  exact Iff.rfl
theorem b270_16 {d : Nat} {G : PG} {M T : PH} {K : PV → PS → Prop} {l0 l1 l2 l3 : Int} : pm_Run d 270 16 [.inr (.inr (.inl l0)), .inl l1, .inl l2, .inl l3] [] (G, M, T) K ↔ pm_Run d 270 56 [.inr (.inr (.inl l0)), .inl l1, .inl l2, .inl l3] [.inl (-1)] (G, M, T) K := by
  refine (px_go (by decide +kernel : pm_fe 270 16 = some (.iconst (-1), 1)) rfl).trans ?_
  refine (px_goto (off := 39) (tgt := 56) (by decide +kernel)).trans ?_
  exact Iff.rfl
theorem b270_20 {d : Nat} {G : PG} {M T : PH} {K : PV → PS → Prop} {l0 l1 l2 l3 : Int} : pm_Run d 270 20 [.inr (.inr (.inl l0)), .inl l1, .inl l2, .inl l3] [] (G, M, T) K ↔ if pm_sg l3 ≠ 0 then pm_Run d 270 37 [.inr (.inr (.inl l0)), .inl l1, .inl l2, .inl l3] [] (G, M, T) K else pm_Run d 270 24 [.inr (.inr (.inl l0)), .inl l1, .inl l2, .inl l3] [] (G, M, T) K := by
  refine (px_go (by decide +kernel : pm_fe 270 20 = some (.iload_n 3, 1)) rfl).trans ?_
  refine (px_if_ne (off := 16) (tgt := 37) (by decide +kernel)).trans ?_
  exact Iff.rfl
theorem b270_24 {d : Nat} {G : PG} {M T : PH} {K : PV → PS → Prop} {l0 l1 l2 l3 : Int} (h1 : pm_ob G l0 12) (h2 : pm_ar G (T l0.toNat 58) 100 ((3 * l1) + l2)) : pm_Run d 270 24 [.inr (.inr (.inl l0)), .inl l1, .inl l2, .inl l3] [] (G, M, T) K ↔ pm_Run d 270 56 [.inr (.inr (.inl l0)), .inl l1, .inl l2, .inl l3] [.inl (M (T l0.toNat 58).toNat (pm_sg ((3 * l1) + l2)).toNat)] (G, M, T) K := by
  refine (px_go (by decide +kernel : pm_fe 270 24 = some (.aload_n 0, 1)) rfl).trans ?_
  refine (px_get2 (idx := 189) (ci := 12) (k := 58) (by decide +kernel)).trans ((and_iff_right h1).trans ?_)
  refine (px_go (by decide +kernel : pm_fe 270 28 = some (.iconst 3, 1)) rfl).trans ?_
  refine (px_go (by decide +kernel : pm_fe 270 29 = some (.iload_n 1, 1)) rfl).trans ?_
  refine (px_go (by decide +kernel : pm_fe 270 30 = some (.imul, 1)) rfl).trans ?_
  refine (px_go (by decide +kernel : pm_fe 270 31 = some (.iload_n 2, 1)) rfl).trans ?_
  refine (px_go (by decide +kernel : pm_fe 270 32 = some (.iadd, 1)) rfl).trans ?_
  refine (px_iaload (by decide +kernel) h2).trans ?_
  refine (px_goto (off := 22) (tgt := 56) (by decide +kernel)).trans ?_
  exact Iff.rfl
theorem b270_37 {d : Nat} {G : PG} {M T : PH} {K : PV → PS → Prop} {l0 l1 l2 l3 : Int} : pm_Run d 270 37 [.inr (.inr (.inl l0)), .inl l1, .inl l2, .inl l3] [] (G, M, T) K ↔ if pm_sg l3 ≠ pm_sg 1 then pm_Run d 270 55 [.inr (.inr (.inl l0)), .inl l1, .inl l2, .inl l3] [] (G, M, T) K else pm_Run d 270 42 [.inr (.inr (.inl l0)), .inl l1, .inl l2, .inl l3] [] (G, M, T) K := by
  refine (px_go (by decide +kernel : pm_fe 270 37 = some (.iload_n 3, 1)) rfl).trans ?_
  refine (px_go (by decide +kernel : pm_fe 270 38 = some (.iconst 1, 1)) rfl).trans ?_
  refine (px_ic_ne (off := 16) (tgt := 55) (by decide +kernel)).trans ?_
  exact Iff.rfl
theorem b270_42 {d : Nat} {G : PG} {M T : PH} {K : PV → PS → Prop} {l0 l1 l2 l3 : Int} (h1 : pm_ob G l0 12) (h2 : pm_ar G (T l0.toNat 59) 100 ((3 * l1) + l2)) : pm_Run d 270 42 [.inr (.inr (.inl l0)), .inl l1, .inl l2, .inl l3] [] (G, M, T) K ↔ pm_Run d 270 56 [.inr (.inr (.inl l0)), .inl l1, .inl l2, .inl l3] [.inl (M (T l0.toNat 59).toNat (pm_sg ((3 * l1) + l2)).toNat)] (G, M, T) K := by
  refine (px_go (by decide +kernel : pm_fe 270 42 = some (.aload_n 0, 1)) rfl).trans ?_
  refine (px_get2 (idx := 192) (ci := 12) (k := 59) (by decide +kernel)).trans ((and_iff_right h1).trans ?_)
  refine (px_go (by decide +kernel : pm_fe 270 46 = some (.iconst 3, 1)) rfl).trans ?_
  refine (px_go (by decide +kernel : pm_fe 270 47 = some (.iload_n 1, 1)) rfl).trans ?_
  refine (px_go (by decide +kernel : pm_fe 270 48 = some (.imul, 1)) rfl).trans ?_
  refine (px_go (by decide +kernel : pm_fe 270 49 = some (.iload_n 2, 1)) rfl).trans ?_
  refine (px_go (by decide +kernel : pm_fe 270 50 = some (.iadd, 1)) rfl).trans ?_
  refine (px_iaload (by decide +kernel) h2).trans ?_
  refine (px_goto (off := 4) (tgt := 56) (by decide +kernel)).trans ?_
  exact Iff.rfl
theorem b270_55 {d : Nat} {G : PG} {M T : PH} {K : PV → PS → Prop} {l0 l1 l2 l3 : Int} : pm_Run d 270 55 [.inr (.inr (.inl l0)), .inl l1, .inl l2, .inl l3] [] (G, M, T) K ↔ pm_Run d 270 56 [.inr (.inr (.inl l0)), .inl l1, .inl l2, .inl l3] [.inl (-1)] (G, M, T) K := by
  refine (px_go (by decide +kernel : pm_fe 270 55 = some (.iconst (-1), 1)) rfl).trans ?_
  exact Iff.rfl
theorem b270_56 {d : Nat} {G : PG} {M T : PH} {K : PV → PS → Prop} {l0 l1 l2 l3 s0 : Int} : pm_Run d 270 56 [.inr (.inr (.inl l0)), .inl l1, .inl l2, .inl l3] [.inl s0] (G, M, T) K ↔ K (.inl s0) (G, M, T) := by
  refine (px_ri (by decide +kernel)).trans ?_
  exact Iff.rfl
-- X12_pull pull(II)I
theorem en271 {d : Nat} {a p0 p1 : Int} {S : PS} {K : PV → PS → Prop} : pm_Call (d + 1) 271 [.inr (.inr (.inl a)), .inl p0, .inl p1] S K ↔ pm_Run d 271 0 [.inr (.inr (.inl a)), .inl p0, .inl p1] [] S K := pm_Call_s.trans (and_iff_right (show 3 ≤ pm_ml 271 from by decide +kernel))
theorem b271_0 {d : Nat} {G : PG} {M T : PH} {K : PV → PS → Prop} {l0 l1 l2 : Int} (h1 : pm_ob G l0 12) : pm_Run d 271 0 [.inr (.inr (.inl l0)), .inl l1, .inl l2] [] (G, M, T) K ↔ pm_Call d 228 [.inr (.inr (.inl l0)), .inl l1] (G, M, T) (fun r S1 => pm_Run d 271 5 [.inr (.inr (.inl l0)), .inl l1, .inl l2] (pm_push r []) S1 K) := by
  refine (px_go (by decide +kernel : pm_fe 271 0 = some (.aload_n 0, 1)) rfl).trans ?_
  refine (px_go (by decide +kernel : pm_fe 271 1 = some (.iload_n 1, 1)) rfl).trans ?_
  refine (px_v1 (idx := 535) (m' := 228) (ci := 12) (by decide +kernel)).trans ((and_iff_right ⟨h1, (by simp [pm_wl_n, pm_wl_c, pm_w] : pm_wl [] ≤ 8)⟩).trans ?_)
  exact Iff.rfl
theorem b271_5 {d : Nat} {G : PG} {M T : PH} {K : PV → PS → Prop} {l0 l1 l2 s0 : Int} : pm_Run d 271 5 [.inr (.inr (.inl l0)), .inl l1, .inl l2] [.inl s0] (G, M, T) K ↔ if pm_sg s0 = 0 then pm_Run d 271 26 [.inr (.inr (.inl l0)), .inl l1, .inl l2] [] (G, M, T) K else pm_Run d 271 8 [.inr (.inr (.inl l0)), .inl l1, .inl l2] [] (G, M, T) K := by
  refine (px_if_eq (off := 21) (tgt := 26) (by decide +kernel)).trans ?_
  exact Iff.rfl
theorem b271_8 {d : Nat} {G : PG} {M T : PH} {K : PV → PS → Prop} {l0 l1 l2 : Int} (h1 : pm_ob G l0 12) : pm_Run d 271 8 [.inr (.inr (.inl l0)), .inl l1, .inl l2] [] (G, M, T) K ↔ pm_Call d 227 [.inr (.inr (.inl l0)), .inl l2] (G, M, T) (fun r S1 => pm_Run d 271 13 [.inr (.inr (.inl l0)), .inl l1, .inl l2] (pm_push r []) S1 K) := by
  refine (px_go (by decide +kernel : pm_fe 271 8 = some (.aload_n 0, 1)) rfl).trans ?_
  refine (px_go (by decide +kernel : pm_fe 271 9 = some (.iload_n 2, 1)) rfl).trans ?_
  refine (px_v1 (idx := 556) (m' := 227) (ci := 12) (by decide +kernel)).trans ((and_iff_right ⟨h1, (by simp [pm_wl_n, pm_wl_c, pm_w] : pm_wl [] ≤ 8)⟩).trans ?_)
  exact Iff.rfl
theorem b271_13 {d : Nat} {G : PG} {M T : PH} {K : PV → PS → Prop} {l0 l1 l2 s0 : Int} : pm_Run d 271 13 [.inr (.inr (.inl l0)), .inl l1, .inl l2] [.inl s0] (G, M, T) K ↔ if pm_sg s0 = 0 then pm_Run d 271 26 [.inr (.inr (.inl l0)), .inl l1, .inl l2] [] (G, M, T) K else pm_Run d 271 16 [.inr (.inr (.inl l0)), .inl l1, .inl l2] [] (G, M, T) K := by
  refine (px_if_eq (off := 13) (tgt := 26) (by decide +kernel)).trans ?_
  exact Iff.rfl
theorem b271_16 {d : Nat} {G : PG} {M T : PH} {K : PV → PS → Prop} {l0 l1 l2 : Int} (h1 : pm_ob G l0 12) : pm_Run d 271 16 [.inr (.inr (.inl l0)), .inl l1, .inl l2] [] (G, M, T) K ↔ pm_Call d 251 [.inr (.inr (.inl l0)), .inl 0, .inl l1, .inl l2] (G, M, T) (fun r S1 => pm_Run d 271 23 [.inr (.inr (.inl l0)), .inl l1, .inl l2] (pm_push r []) S1 K) := by
  refine (px_go (by decide +kernel : pm_fe 271 16 = some (.aload_n 0, 1)) rfl).trans ?_
  refine (px_go (by decide +kernel : pm_fe 271 17 = some (.iconst 0, 1)) rfl).trans ?_
  refine (px_go (by decide +kernel : pm_fe 271 18 = some (.iload_n 1, 1)) rfl).trans ?_
  refine (px_go (by decide +kernel : pm_fe 271 19 = some (.iload_n 2, 1)) rfl).trans ?_
  refine (px_v3 (idx := 509) (m' := 251) (ci := 12) (by decide +kernel)).trans ((and_iff_right ⟨h1, (by simp [pm_wl_n, pm_wl_c, pm_w] : pm_wl [] ≤ 8)⟩).trans ?_)
  exact Iff.rfl
theorem b271_23 {d : Nat} {G : PG} {M T : PH} {K : PV → PS → Prop} {l0 l1 l2 s0 : Int} : pm_Run d 271 23 [.inr (.inr (.inl l0)), .inl l1, .inl l2] [.inl s0] (G, M, T) K ↔ pm_Run d 271 29 [.inr (.inr (.inl l0)), .inl l1, .inl l2] [.inl s0] (G, M, T) K := by
  refine (px_goto (off := 6) (tgt := 29) (by decide +kernel)).trans ?_
  exact Iff.rfl
theorem b271_26 {d : Nat} {G : PG} {M T : PH} {K : PV → PS → Prop} {l0 l1 l2 : Int} : pm_Run d 271 26 [.inr (.inr (.inl l0)), .inl l1, .inl l2] [] (G, M, T) K ↔ pm_Run d 271 29 [.inr (.inr (.inl l0)), .inl l1, .inl l2] [.inl (-1000000000)] (G, M, T) K := by
  refine (px_ldcI (idx := 559) (n := 3) (x := (-1000000000)) (by decide +kernel)).trans ?_
  exact Iff.rfl
theorem b271_29 {d : Nat} {G : PG} {M T : PH} {K : PV → PS → Prop} {l0 l1 l2 s0 : Int} : pm_Run d 271 29 [.inr (.inr (.inl l0)), .inl l1, .inl l2] [.inl s0] (G, M, T) K ↔ K (.inl s0) (G, M, T) := by
  refine (px_ri (by decide +kernel)).trans ?_
  exact Iff.rfl
-- X12_height height(II)I
theorem en272 {d : Nat} {a p0 p1 : Int} {S : PS} {K : PV → PS → Prop} : pm_Call (d + 1) 272 [.inr (.inr (.inl a)), .inl p0, .inl p1] S K ↔ pm_Run d 272 0 [.inr (.inr (.inl a)), .inl p0, .inl p1] [] S K := pm_Call_s.trans (and_iff_right (show 3 ≤ pm_ml 272 from by decide +kernel))
theorem b272_0 {d : Nat} {G : PG} {M T : PH} {K : PV → PS → Prop} {l0 l1 l2 : Int} (h1 : pm_ob G l0 12) : pm_Run d 272 0 [.inr (.inr (.inl l0)), .inl l1, .inl l2] [] (G, M, T) K ↔ pm_Call d 227 [.inr (.inr (.inl l0)), .inl l1] (G, M, T) (fun r S1 => pm_Run d 272 5 [.inr (.inr (.inl l0)), .inl l1, .inl l2] (pm_push r []) S1 K) := by
  refine (px_go (by decide +kernel : pm_fe 272 0 = some (.aload_n 0, 1)) rfl).trans ?_
  refine (px_go (by decide +kernel : pm_fe 272 1 = some (.iload_n 1, 1)) rfl).trans ?_
  refine (px_v1 (idx := 556) (m' := 227) (ci := 12) (by decide +kernel)).trans ((and_iff_right ⟨h1, (by simp [pm_wl_n, pm_wl_c, pm_w] : pm_wl [] ≤ 8)⟩).trans ?_)
  exact Iff.rfl
theorem b272_5 {d : Nat} {G : PG} {M T : PH} {K : PV → PS → Prop} {l0 l1 l2 s0 : Int} : pm_Run d 272 5 [.inr (.inr (.inl l0)), .inl l1, .inl l2] [.inl s0] (G, M, T) K ↔ if pm_sg s0 = 0 then pm_Run d 272 16 [.inr (.inr (.inl l0)), .inl l1, .inl l2] [] (G, M, T) K else pm_Run d 272 8 [.inr (.inr (.inl l0)), .inl l1, .inl l2] [] (G, M, T) K := by
  refine (px_if_eq (off := 11) (tgt := 16) (by decide +kernel)).trans ?_
  exact Iff.rfl
theorem b272_8 {d : Nat} {G : PG} {M T : PH} {K : PV → PS → Prop} {l0 l1 l2 : Int} (h1 : pm_ob G l0 12) : pm_Run d 272 8 [.inr (.inr (.inl l0)), .inl l1, .inl l2] [] (G, M, T) K ↔ pm_Call d 259 [.inr (.inr (.inl l0)), .inl l2] (G, M, T) (fun r S1 => pm_Run d 272 13 [.inr (.inr (.inl l0)), .inl l1, .inl l2] (pm_push r []) S1 K) := by
  refine (px_go (by decide +kernel : pm_fe 272 8 = some (.aload_n 0, 1)) rfl).trans ?_
  refine (px_go (by decide +kernel : pm_fe 272 9 = some (.iload_n 2, 1)) rfl).trans ?_
  refine (px_v1 (idx := 560) (m' := 259) (ci := 12) (by decide +kernel)).trans ((and_iff_right ⟨h1, (by simp [pm_wl_n, pm_wl_c, pm_w] : pm_wl [] ≤ 8)⟩).trans ?_)
  exact Iff.rfl
theorem b272_13 {d : Nat} {G : PG} {M T : PH} {K : PV → PS → Prop} {l0 l1 l2 s0 : Int} : pm_Run d 272 13 [.inr (.inr (.inl l0)), .inl l1, .inl l2] [.inl s0] (G, M, T) K ↔ if pm_sg s0 ≠ 0 then pm_Run d 272 20 [.inr (.inr (.inl l0)), .inl l1, .inl l2] [] (G, M, T) K else pm_Run d 272 16 [.inr (.inr (.inl l0)), .inl l1, .inl l2] [] (G, M, T) K := by
  refine (px_if_ne (off := 7) (tgt := 20) (by decide +kernel)).trans ?_
  exact Iff.rfl
theorem b272_16 {d : Nat} {G : PG} {M T : PH} {K : PV → PS → Prop} {l0 l1 l2 : Int} : pm_Run d 272 16 [.inr (.inr (.inl l0)), .inl l1, .inl l2] [] (G, M, T) K ↔ K (.inl (-1000000000)) (G, M, T) := by
  refine (px_ldcI (idx := 559) (n := 3) (x := (-1000000000)) (by decide +kernel)).trans ?_
  refine (px_ri (by decide +kernel)).trans ?_
  exact Iff.rfl
theorem b272_20 {d : Nat} {G : PG} {M T : PH} {K : PV → PS → Prop} {l0 l1 l2 : Int} (h1 : pm_ob G l0 12) : pm_Run d 272 20 [.inr (.inr (.inl l0)), .inl l1, .inl l2] [] (G, M, T) K ↔ pm_Call d 260 [.inr (.inr (.inl l0)), .inl l2] (G, M, T) (fun r S1 => pm_Run d 272 25 [.inr (.inr (.inl l0)), .inl l1, .inl l2] (pm_push r []) S1 K) := by
  refine (px_go (by decide +kernel : pm_fe 272 20 = some (.aload_n 0, 1)) rfl).trans ?_
  refine (px_go (by decide +kernel : pm_fe 272 21 = some (.iload_n 2, 1)) rfl).trans ?_
  refine (px_v1 (idx := 563) (m' := 260) (ci := 12) (by decide +kernel)).trans ((and_iff_right ⟨h1, (by simp [pm_wl_n, pm_wl_c, pm_w] : pm_wl [] ≤ 8)⟩).trans ?_)
  exact Iff.rfl
theorem b272_25 {d : Nat} {G : PG} {M T : PH} {K : PV → PS → Prop} {l0 l1 l2 : Int} (h1 : pm_ob G l0 12) (h2 : pm_ar G (T l0.toNat 68) 100 l1) : pm_Run d 272 25 [.inr (.inr (.inl l0)), .inl l1, .inl l2] [] (G, M, T) K ↔ K (.inl (M (T l0.toNat 68).toNat (pm_sg l1).toNat)) (G, M, T) := by
  refine (px_go (by decide +kernel : pm_fe 272 25 = some (.aload_n 0, 1)) rfl).trans ?_
  refine (px_get2 (idx := 219) (ci := 12) (k := 68) (by decide +kernel)).trans ((and_iff_right h1).trans ?_)
  refine (px_go (by decide +kernel : pm_fe 272 29 = some (.iload_n 1, 1)) rfl).trans ?_
  refine (px_iaload (by decide +kernel) h2).trans ?_
  refine (px_ri (by decide +kernel)).trans ?_
  exact Iff.rfl
-- X12_ahead_ ahead(III)I
theorem en273 {d : Nat} {a p0 p1 p2 : Int} {S : PS} {K : PV → PS → Prop} : pm_Call (d + 1) 273 [.inr (.inr (.inl a)), .inl p0, .inl p1, .inl p2] S K ↔ pm_Run d 273 0 [.inr (.inr (.inl a)), .inl p0, .inl p1, .inl p2] [] S K := pm_Call_s.trans (and_iff_right (show 4 ≤ pm_ml 273 from by decide +kernel))
theorem b273_0 {d : Nat} {G : PG} {M T : PH} {K : PV → PS → Prop} {l0 l1 l2 l3 : Int} (h1 : pm_ob G l0 12) : pm_Run d 273 0 [.inr (.inr (.inl l0)), .inl l1, .inl l2, .inl l3] [] (G, M, T) K ↔ pm_Call d 229 [.inr (.inr (.inl l0)), .inl l1] (G, M, T) (fun r S1 => pm_Run d 273 5 [.inr (.inr (.inl l0)), .inl l1, .inl l2, .inl l3] (pm_push r []) S1 K) := by
  refine (px_go (by decide +kernel : pm_fe 273 0 = some (.aload_n 0, 1)) rfl).trans ?_
  refine (px_go (by decide +kernel : pm_fe 273 1 = some (.iload_n 1, 1)) rfl).trans ?_
  refine (px_v1 (idx := 544) (m' := 229) (ci := 12) (by decide +kernel)).trans ((and_iff_right ⟨h1, (by simp [pm_wl_n, pm_wl_c, pm_w] : pm_wl [] ≤ 8)⟩).trans ?_)
  exact Iff.rfl
theorem b273_5 {d : Nat} {G : PG} {M T : PH} {K : PV → PS → Prop} {l0 l1 l2 l3 s0 : Int} : pm_Run d 273 5 [.inr (.inr (.inl l0)), .inl l1, .inl l2, .inl l3] [.inl s0] (G, M, T) K ↔ if pm_sg s0 = 0 then pm_Run d 273 25 [.inr (.inr (.inl l0)), .inl l1, .inl l2, .inl l3] [] (G, M, T) K else pm_Run d 273 8 [.inr (.inr (.inl l0)), .inl l1, .inl l2, .inl l3] [] (G, M, T) K := by
  refine (px_if_eq (off := 20) (tgt := 25) (by decide +kernel)).trans ?_
  exact Iff.rfl
theorem b273_8 {d : Nat} {G : PG} {M T : PH} {K : PV → PS → Prop} {l0 l1 l2 l3 : Int} (h1 : pm_ob G l0 12) : pm_Run d 273 8 [.inr (.inr (.inl l0)), .inl l1, .inl l2, .inl l3] [] (G, M, T) K ↔ pm_Call d 259 [.inr (.inr (.inl l0)), .inl l2] (G, M, T) (fun r S1 => pm_Run d 273 13 [.inr (.inr (.inl l0)), .inl l1, .inl l2, .inl l3] (pm_push r []) S1 K) := by
  refine (px_go (by decide +kernel : pm_fe 273 8 = some (.aload_n 0, 1)) rfl).trans ?_
  refine (px_go (by decide +kernel : pm_fe 273 9 = some (.iload_n 2, 1)) rfl).trans ?_
  refine (px_v1 (idx := 560) (m' := 259) (ci := 12) (by decide +kernel)).trans ((and_iff_right ⟨h1, (by simp [pm_wl_n, pm_wl_c, pm_w] : pm_wl [] ≤ 8)⟩).trans ?_)
  exact Iff.rfl
theorem b273_13 {d : Nat} {G : PG} {M T : PH} {K : PV → PS → Prop} {l0 l1 l2 l3 s0 : Int} : pm_Run d 273 13 [.inr (.inr (.inl l0)), .inl l1, .inl l2, .inl l3] [.inl s0] (G, M, T) K ↔ if pm_sg s0 = 0 then pm_Run d 273 25 [.inr (.inr (.inl l0)), .inl l1, .inl l2, .inl l3] [] (G, M, T) K else pm_Run d 273 16 [.inr (.inr (.inl l0)), .inl l1, .inl l2, .inl l3] [] (G, M, T) K := by
  refine (px_if_eq (off := 12) (tgt := 25) (by decide +kernel)).trans ?_
  exact Iff.rfl
theorem b273_16 {d : Nat} {G : PG} {M T : PH} {K : PV → PS → Prop} {l0 l1 l2 l3 : Int} : pm_Run d 273 16 [.inr (.inr (.inl l0)), .inl l1, .inl l2, .inl l3] [] (G, M, T) K ↔ pm_Call d 179 [.inl l3, .inl 0, .inl 2] (G, M, T) (fun r S1 => pm_Run d 273 22 [.inr (.inr (.inl l0)), .inl l1, .inl l2, .inl l3] (pm_push r []) S1 K) := by
  refine (px_go (by decide +kernel : pm_fe 273 16 = some (.iload_n 3, 1)) rfl).trans ?_
  refine (px_go (by decide +kernel : pm_fe 273 17 = some (.iconst 0, 1)) rfl).trans ?_
  refine (px_go (by decide +kernel : pm_fe 273 18 = some (.iconst 2, 1)) rfl).trans ?_
  refine (px_s3 (idx := 337) (m' := 179) (nest := 0) (by decide +kernel)).trans ((and_iff_right (by simp [pm_wl_n, pm_wl_c, pm_w] : pm_wl [] ≤ 8)).trans ?_)
  exact Iff.rfl
theorem b273_22 {d : Nat} {G : PG} {M T : PH} {K : PV → PS → Prop} {l0 l1 l2 l3 s0 : Int} : pm_Run d 273 22 [.inr (.inr (.inl l0)), .inl l1, .inl l2, .inl l3] [.inl s0] (G, M, T) K ↔ if pm_sg s0 ≠ 0 then pm_Run d 273 27 [.inr (.inr (.inl l0)), .inl l1, .inl l2, .inl l3] [] (G, M, T) K else pm_Run d 273 25 [.inr (.inr (.inl l0)), .inl l1, .inl l2, .inl l3] [] (G, M, T) K := by
  refine (px_if_ne (off := 5) (tgt := 27) (by decide +kernel)).trans ?_
  exact Iff.rfl
theorem b273_25 {d : Nat} {G : PG} {M T : PH} {K : PV → PS → Prop} {l0 l1 l2 l3 : Int} : pm_Run d 273 25 [.inr (.inr (.inl l0)), .inl l1, .inl l2, .inl l3] [] (G, M, T) K ↔ K (.inl (-1)) (G, M, T) := by
  refine (px_go (by decide +kernel : pm_fe 273 25 = some (.iconst (-1), 1)) rfl).trans ?_
  refine (px_ri (by decide +kernel)).trans ?_
  exact Iff.rfl
theorem b273_27 {d : Nat} {G : PG} {M T : PH} {K : PV → PS → Prop} {l0 l1 l2 l3 : Int} (h1 : pm_ob G l0 12) : pm_Run d 273 27 [.inr (.inr (.inl l0)), .inl l1, .inl l2, .inl l3] [] (G, M, T) K ↔ pm_Call d 260 [.inr (.inr (.inl l0)), .inl l2] (G, M, T) (fun r S1 => pm_Run d 273 32 [.inr (.inr (.inl l0)), .inl l1, .inl l2, .inl l3] (pm_push r []) S1 K) := by
  refine (px_go (by decide +kernel : pm_fe 273 27 = some (.aload_n 0, 1)) rfl).trans ?_
  refine (px_go (by decide +kernel : pm_fe 273 28 = some (.iload_n 2, 1)) rfl).trans ?_
  refine (px_v1 (idx := 563) (m' := 260) (ci := 12) (by decide +kernel)).trans ((and_iff_right ⟨h1, (by simp [pm_wl_n, pm_wl_c, pm_w] : pm_wl [] ≤ 8)⟩).trans ?_)
  exact Iff.rfl
theorem b273_32 {d : Nat} {G : PG} {M T : PH} {K : PV → PS → Prop} {l0 l1 l2 l3 : Int} : pm_Run d 273 32 [.inr (.inr (.inl l0)), .inl l1, .inl l2, .inl l3] [] (G, M, T) K ↔ if pm_sg l3 ≠ 0 then pm_Run d 273 48 [.inr (.inr (.inl l0)), .inl l1, .inl l2, .inl l3] [] (G, M, T) K else pm_Run d 273 36 [.inr (.inr (.inl l0)), .inl l1, .inl l2, .inl l3] [] (G, M, T) K := by
  refine (px_go (by decide +kernel : pm_fe 273 32 = some (.iload_n 3, 1)) rfl).trans ?_
  refine (px_if_ne (off := 15) (tgt := 48) (by decide +kernel)).trans ?_
  exact Iff.rfl
theorem b273_36 {d : Nat} {G : PG} {M T : PH} {K : PV → PS → Prop} {l0 l1 l2 l3 : Int} (h1 : pm_ob G l0 12) (h2 : pm_ar G (T l0.toNat 57) 100 (8 + l1)) : pm_Run d 273 36 [.inr (.inr (.inl l0)), .inl l1, .inl l2, .inl l3] [] (G, M, T) K ↔ pm_Run d 273 75 [.inr (.inr (.inl l0)), .inl l1, .inl l2, .inl l3] [.inl (M (T l0.toNat 57).toNat (pm_sg (8 + l1)).toNat)] (G, M, T) K := by
  refine (px_go (by decide +kernel : pm_fe 273 36 = some (.aload_n 0, 1)) rfl).trans ?_
  refine (px_get2 (idx := 186) (ci := 12) (k := 57) (by decide +kernel)).trans ((and_iff_right h1).trans ?_)
  refine (px_go (by decide +kernel : pm_fe 273 40 = some (.bipush 8, 2)) rfl).trans ?_
  refine (px_go (by decide +kernel : pm_fe 273 42 = some (.iload_n 1, 1)) rfl).trans ?_
  refine (px_go (by decide +kernel : pm_fe 273 43 = some (.iadd, 1)) rfl).trans ?_
  refine (px_iaload (by decide +kernel) h2).trans ?_
  refine (px_goto (off := 30) (tgt := 75) (by decide +kernel)).trans ?_
  exact Iff.rfl
theorem b273_48 {d : Nat} {G : PG} {M T : PH} {K : PV → PS → Prop} {l0 l1 l2 l3 : Int} : pm_Run d 273 48 [.inr (.inr (.inl l0)), .inl l1, .inl l2, .inl l3] [] (G, M, T) K ↔ if pm_sg l3 ≠ pm_sg 1 then pm_Run d 273 69 [.inr (.inr (.inl l0)), .inl l1, .inl l2, .inl l3] [] (G, M, T) K else pm_Run d 273 53 [.inr (.inr (.inl l0)), .inl l1, .inl l2, .inl l3] [] (G, M, T) K := by
  refine (px_go (by decide +kernel : pm_fe 273 48 = some (.iload_n 3, 1)) rfl).trans ?_
  refine (px_go (by decide +kernel : pm_fe 273 49 = some (.iconst 1, 1)) rfl).trans ?_
  refine (px_ic_ne (off := 19) (tgt := 69) (by decide +kernel)).trans ?_
  exact Iff.rfl
theorem b273_53 {d : Nat} {G : PG} {M T : PH} {K : PV → PS → Prop} {l0 l1 l2 l3 : Int} (h1 : pm_ob G l0 12) : pm_Run d 273 53 [.inr (.inr (.inl l0)), .inl l1, .inl l2, .inl l3] [] (G, M, T) K ↔ pm_Call d 268 [.inr (.inr (.inl l0)), .inl l1] (G, M, T) (fun r S1 => pm_Run d 273 58 [.inr (.inr (.inl l0)), .inl l1, .inl l2, .inl l3] (pm_push r []) S1 K) := by
  refine (px_go (by decide +kernel : pm_fe 273 53 = some (.aload_n 0, 1)) rfl).trans ?_
  refine (px_go (by decide +kernel : pm_fe 273 54 = some (.iload_n 1, 1)) rfl).trans ?_
  refine (px_v1 (idx := 547) (m' := 268) (ci := 12) (by decide +kernel)).trans ((and_iff_right ⟨h1, (by simp [pm_wl_n, pm_wl_c, pm_w] : pm_wl [] ≤ 8)⟩).trans ?_)
  exact Iff.rfl
theorem b273_58 {d : Nat} {G : PG} {M T : PH} {K : PV → PS → Prop} {l0 l1 l2 l3 s0 : Int} : pm_Run d 273 58 [.inr (.inr (.inl l0)), .inl l1, .inl l2, .inl l3] [.inl s0] (G, M, T) K ↔ if pm_sg s0 = 0 then pm_Run d 273 65 [.inr (.inr (.inl l0)), .inl l1, .inl l2, .inl l3] [] (G, M, T) K else pm_Run d 273 61 [.inr (.inr (.inl l0)), .inl l1, .inl l2, .inl l3] [] (G, M, T) K := by
  refine (px_if_eq (off := 7) (tgt := 65) (by decide +kernel)).trans ?_
  exact Iff.rfl
theorem b273_61 {d : Nat} {G : PG} {M T : PH} {K : PV → PS → Prop} {l0 l1 l2 l3 : Int} : pm_Run d 273 61 [.inr (.inr (.inl l0)), .inl l1, .inl l2, .inl l3] [] (G, M, T) K ↔ pm_Run d 273 75 [.inr (.inr (.inl l0)), .inl l1, .inl l2, .inl l3] [.inl 1] (G, M, T) K := by
  refine (px_go (by decide +kernel : pm_fe 273 61 = some (.iconst 1, 1)) rfl).trans ?_
  refine (px_goto (off := 13) (tgt := 75) (by decide +kernel)).trans ?_
  exact Iff.rfl
theorem b273_65 {d : Nat} {G : PG} {M T : PH} {K : PV → PS → Prop} {l0 l1 l2 l3 : Int} : pm_Run d 273 65 [.inr (.inr (.inl l0)), .inl l1, .inl l2, .inl l3] [] (G, M, T) K ↔ pm_Run d 273 75 [.inr (.inr (.inl l0)), .inl l1, .inl l2, .inl l3] [.inl 0] (G, M, T) K := by
  refine (px_go (by decide +kernel : pm_fe 273 65 = some (.iconst 0, 1)) rfl).trans ?_
  refine (px_goto (off := 9) (tgt := 75) (by decide +kernel)).trans ?_
  exact Iff.rfl
theorem b273_69 {d : Nat} {G : PG} {M T : PH} {K : PV → PS → Prop} {l0 l1 l2 l3 : Int} (h1 : pm_ob G l0 12) : pm_Run d 273 69 [.inr (.inr (.inl l0)), .inl l1, .inl l2, .inl l3] [] (G, M, T) K ↔ pm_Call d 240 [.inr (.inr (.inl l0)), .inl 1, .inl l1] (G, M, T) (fun r S1 => pm_Run d 273 75 [.inr (.inr (.inl l0)), .inl l1, .inl l2, .inl l3] (pm_push r []) S1 K) := by
  refine (px_go (by decide +kernel : pm_fe 273 69 = some (.aload_n 0, 1)) rfl).trans ?_
  refine (px_go (by decide +kernel : pm_fe 273 70 = some (.iconst 1, 1)) rfl).trans ?_
  refine (px_go (by decide +kernel : pm_fe 273 71 = some (.iload_n 1, 1)) rfl).trans ?_
  refine (px_v2 (idx := 460) (m' := 240) (ci := 12) (by decide +kernel)).trans ((and_iff_right ⟨h1, (by simp [pm_wl_n, pm_wl_c, pm_w] : pm_wl [] ≤ 8)⟩).trans ?_)
  exact Iff.rfl
theorem b273_75 {d : Nat} {G : PG} {M T : PH} {K : PV → PS → Prop} {l0 l1 l2 l3 s0 : Int} : pm_Run d 273 75 [.inr (.inr (.inl l0)), .inl l1, .inl l2, .inl l3] [.inl s0] (G, M, T) K ↔ K (.inl s0) (G, M, T) := by
  refine (px_ri (by decide +kernel)).trans ?_
  exact Iff.rfl
-- X12_broken broken(I)I
theorem en274 {d : Nat} {a p0 : Int} {S : PS} {K : PV → PS → Prop} : pm_Call (d + 1) 274 [.inr (.inr (.inl a)), .inl p0] S K ↔ pm_Run d 274 0 [.inr (.inr (.inl a)), .inl p0, PU, PU, PU] [] S K := pm_Call_s.trans (and_iff_right (show 2 ≤ pm_ml 274 from by decide +kernel))
theorem b274_0 {d : Nat} {G : PG} {M T : PH} {K : PV → PS → Prop} {l0 l1 : Int} : pm_Run d 274 0 [.inr (.inr (.inl l0)), .inl l1, PU, PU, PU] [] (G, M, T) K ↔ pm_Call d 179 [.inl l1, .inl 0, .inl 2] (G, M, T) (fun r S1 => pm_Run d 274 6 [.inr (.inr (.inl l0)), .inl l1, PU, PU, PU] (pm_push r []) S1 K) := by
  refine (px_go (by decide +kernel : pm_fe 274 0 = some (.iload_n 1, 1)) rfl).trans ?_
  refine (px_go (by decide +kernel : pm_fe 274 1 = some (.iconst 0, 1)) rfl).trans ?_
  refine (px_go (by decide +kernel : pm_fe 274 2 = some (.iconst 2, 1)) rfl).trans ?_
  refine (px_s3 (idx := 337) (m' := 179) (nest := 0) (by decide +kernel)).trans ((and_iff_right (by simp [pm_wl_n, pm_wl_c, pm_w] : pm_wl [] ≤ 8)).trans ?_)
  exact Iff.rfl
theorem b274_6 {d : Nat} {G : PG} {M T : PH} {K : PV → PS → Prop} {l0 l1 s0 : Int} : pm_Run d 274 6 [.inr (.inr (.inl l0)), .inl l1, PU, PU, PU] [.inl s0] (G, M, T) K ↔ if pm_sg s0 = 0 then pm_Run d 274 16 [.inr (.inr (.inl l0)), .inl l1, PU, PU, PU] [] (G, M, T) K else pm_Run d 274 9 [.inr (.inr (.inl l0)), .inl l1, PU, PU, PU] [] (G, M, T) K := by
  refine (px_if_eq (off := 10) (tgt := 16) (by decide +kernel)).trans ?_
  exact Iff.rfl
theorem b274_9 {d : Nat} {G : PG} {M T : PH} {K : PV → PS → Prop} {l0 l1 : Int} (h1 : pm_ob G l0 12) : pm_Run d 274 9 [.inr (.inr (.inl l0)), .inl l1, PU, PU, PU] [] (G, M, T) K ↔ pm_Call d 226 [.inr (.inr (.inl l0))] (G, M, T) (fun r S1 => pm_Run d 274 13 [.inr (.inr (.inl l0)), .inl l1, PU, PU, PU] (pm_push r []) S1 K) := by
  refine (px_go (by decide +kernel : pm_fe 274 9 = some (.aload_n 0, 1)) rfl).trans ?_
  refine (px_v0 (idx := 523) (m' := 226) (ci := 12) (by decide +kernel)).trans ((and_iff_right ⟨h1, (by simp [pm_wl_n, pm_wl_c, pm_w] : pm_wl [] ≤ 8)⟩).trans ?_)
  exact Iff.rfl
theorem b274_13 {d : Nat} {G : PG} {M T : PH} {K : PV → PS → Prop} {l0 l1 s0 : Int} : pm_Run d 274 13 [.inr (.inr (.inl l0)), .inl l1, PU, PU, PU] [.inl s0] (G, M, T) K ↔ if pm_sg s0 ≠ 0 then pm_Run d 274 18 [.inr (.inr (.inl l0)), .inl l1, PU, PU, PU] [] (G, M, T) K else pm_Run d 274 16 [.inr (.inr (.inl l0)), .inl l1, PU, PU, PU] [] (G, M, T) K := by
  refine (px_if_ne (off := 5) (tgt := 18) (by decide +kernel)).trans ?_
  exact Iff.rfl
theorem b274_16 {d : Nat} {G : PG} {M T : PH} {K : PV → PS → Prop} {l0 l1 : Int} : pm_Run d 274 16 [.inr (.inr (.inl l0)), .inl l1, PU, PU, PU] [] (G, M, T) K ↔ K (.inl (-1)) (G, M, T) := by
  refine (px_go (by decide +kernel : pm_fe 274 16 = some (.iconst (-1), 1)) rfl).trans ?_
  refine (px_ri (by decide +kernel)).trans ?_
  exact Iff.rfl
theorem b274_18 {d : Nat} {G : PG} {M T : PH} {K : PV → PS → Prop} {l0 l1 : Int} (h1 : pm_ob G l0 12) : pm_Run d 274 18 [.inr (.inr (.inl l0)), .inl l1, PU, PU, PU] [] (G, M, T) K ↔ pm_Call d 232 [.inr (.inr (.inl l0)), .inl 1, .inl 0] (G, M, T) (fun r S1 => pm_Run d 274 24 [.inr (.inr (.inl l0)), .inl l1, PU, PU, PU] (pm_push r []) S1 K) := by
  refine (px_go (by decide +kernel : pm_fe 274 18 = some (.aload_n 0, 1)) rfl).trans ?_
  refine (px_go (by decide +kernel : pm_fe 274 19 = some (.iconst 1, 1)) rfl).trans ?_
  refine (px_go (by decide +kernel : pm_fe 274 20 = some (.iconst 0, 1)) rfl).trans ?_
  refine (px_v2 (idx := 445) (m' := 232) (ci := 12) (by decide +kernel)).trans ((and_iff_right ⟨h1, (by simp [pm_wl_n, pm_wl_c, pm_w] : pm_wl [] ≤ 8)⟩).trans ?_)
  exact Iff.rfl
theorem b274_24 {d : Nat} {G : PG} {M T : PH} {K : PV → PS → Prop} {l0 l1 : Int} : pm_Run d 274 24 [.inr (.inr (.inl l0)), .inl l1, PU, PU, PU] [] (G, M, T) K ↔ pm_Run d 274 26 [.inr (.inr (.inl l0)), .inl l1, .inl 0, PU, PU] [] (G, M, T) K := by
  refine (px_go (by decide +kernel : pm_fe 274 24 = some (.iconst 0, 1)) rfl).trans ?_
  refine (px_go (by decide +kernel : pm_fe 274 25 = some (.istore_n 2, 1)) rfl).trans ?_
  exact Iff.rfl
theorem b274_26 {d : Nat} {G : PG} {M T : PH} {K : PV → PS → Prop} {l0 l1 l2 : Int} {l3 l4 : PV} (h1 : pm_ob G l0 12) : pm_Run d 274 26 [.inr (.inr (.inl l0)), .inl l1, .inl l2, l3, l4] [] (G, M, T) K ↔ pm_Call d 258 [.inr (.inr (.inl l0))] (G, M, T) (fun r S1 => pm_Run d 274 31 [.inr (.inr (.inl l0)), .inl l1, .inl l2, l3, l4] (pm_push r [.inl l2]) S1 K) := by
  refine (px_go (by decide +kernel : pm_fe 274 26 = some (.iload_n 2, 1)) rfl).trans ?_
  refine (px_go (by decide +kernel : pm_fe 274 27 = some (.aload_n 0, 1)) rfl).trans ?_
  refine (px_v0 (idx := 526) (m' := 258) (ci := 12) (by decide +kernel)).trans ((and_iff_right ⟨h1, (by simp [pm_wl_n, pm_wl_c, pm_w] : pm_wl [.inl l2] ≤ 8)⟩).trans ?_)
  exact Iff.rfl
theorem b274_31 {d : Nat} {G : PG} {M T : PH} {K : PV → PS → Prop} {l0 l1 l2 s0 s1 : Int} {l3 l4 : PV} : pm_Run d 274 31 [.inr (.inr (.inl l0)), .inl l1, .inl l2, l3, l4] [.inl s0, .inl s1] (G, M, T) K ↔ if pm_sg s0 < pm_sg s1 then pm_Run d 274 125 [.inr (.inr (.inl l0)), .inl l1, .inl l2, l3, l4] [] (G, M, T) K else pm_Run d 274 34 [.inr (.inr (.inl l0)), .inl l1, .inl l2, l3, l4] [] (G, M, T) K := by
  refine (px_ic_gt (off := 94) (tgt := 125) (by decide +kernel)).trans ?_
  exact Iff.rfl
theorem b274_34 {d : Nat} {G : PG} {M T : PH} {K : PV → PS → Prop} {l0 l1 l2 : Int} {l3 l4 : PV} (h1 : pm_ob G l0 12) : pm_Run d 274 34 [.inr (.inr (.inl l0)), .inl l1, .inl l2, l3, l4] [] (G, M, T) K ↔ pm_Call d 255 [.inr (.inr (.inl l0)), .inl 1] (G, M, T) (fun r S1 => pm_Run d 274 39 [.inr (.inr (.inl l0)), .inl l1, .inl l2, l3, l4] (pm_push r []) S1 K) := by
  refine (px_go (by decide +kernel : pm_fe 274 34 = some (.aload_n 0, 1)) rfl).trans ?_
  refine (px_go (by decide +kernel : pm_fe 274 35 = some (.iconst 1, 1)) rfl).trans ?_
  refine (px_v1 (idx := 513) (m' := 255) (ci := 12) (by decide +kernel)).trans ((and_iff_right ⟨h1, (by simp [pm_wl_n, pm_wl_c, pm_w] : pm_wl [] ≤ 8)⟩).trans ?_)
  exact Iff.rfl
theorem b274_39 {d : Nat} {G : PG} {M T : PH} {K : PV → PS → Prop} {l0 l1 l2 : Int} {l3 l4 : PV} : pm_Run d 274 39 [.inr (.inr (.inl l0)), .inl l1, .inl l2, l3, l4] [] (G, M, T) K ↔ pm_Run d 274 41 [.inr (.inr (.inl l0)), .inl l1, .inl l2, .inl 0, l4] [] (G, M, T) K := by
  refine (px_go (by decide +kernel : pm_fe 274 39 = some (.iconst 0, 1)) rfl).trans ?_
  refine (px_go (by decide +kernel : pm_fe 274 40 = some (.istore_n 3, 1)) rfl).trans ?_
  exact Iff.rfl
theorem b274_41 {d : Nat} {G : PG} {M T : PH} {K : PV → PS → Prop} {l0 l1 l2 l3 : Int} {l4 : PV} (h1 : pm_ob G l0 12) (h2 : pm_ar G (T l0.toNat 19) 100 (M l0.toNat 13)) : pm_Run d 274 41 [.inr (.inr (.inl l0)), .inl l1, .inl l2, .inl l3, l4] [] (G, M, T) K ↔ if pm_sg (M (T l0.toNat 19).toNat (pm_sg (M l0.toNat 13)).toNat) ≤ pm_sg l3 then pm_Run d 274 114 [.inr (.inr (.inl l0)), .inl l1, .inl l2, .inl l3, l4] [] (G, M, T) K else pm_Run d 274 54 [.inr (.inr (.inl l0)), .inl l1, .inl l2, .inl l3, l4] [] (G, M, T) K := by
  refine (px_go (by decide +kernel : pm_fe 274 41 = some (.iload_n 3, 1)) rfl).trans ?_
  refine (px_go (by decide +kernel : pm_fe 274 42 = some (.aload_n 0, 1)) rfl).trans ?_
  refine (px_get2 (idx := 69) (ci := 12) (k := 19) (by decide +kernel)).trans ((and_iff_right h1).trans ?_)
  refine (px_go (by decide +kernel : pm_fe 274 46 = some (.aload_n 0, 1)) rfl).trans ?_
  refine (px_get0 (idx := 51) (ci := 12) (k := 13) (by decide +kernel)).trans ((and_iff_right h1).trans ?_)
  refine (px_iaload (by decide +kernel) h2).trans ?_
  refine (px_ic_ge (off := 63) (tgt := 114) (by decide +kernel)).trans ?_
  exact Iff.rfl
theorem b274_54 {d : Nat} {G : PG} {M T : PH} {K : PV → PS → Prop} {l0 l1 l2 l3 : Int} {l4 : PV} : pm_Run d 274 54 [.inr (.inr (.inl l0)), .inl l1, .inl l2, .inl l3, l4] [] (G, M, T) K ↔ pm_Run d 274 57 [.inr (.inr (.inl l0)), .inl l1, .inl l2, .inl l3, .inl 0] [] (G, M, T) K := by
  refine (px_go (by decide +kernel : pm_fe 274 54 = some (.iconst 0, 1)) rfl).trans ?_
  refine (px_go (by decide +kernel : pm_fe 274 55 = some (.istore 4, 2)) rfl).trans ?_
  exact Iff.rfl
theorem b274_57 {d : Nat} {G : PG} {M T : PH} {K : PV → PS → Prop} {l0 l1 l2 l3 l4 : Int} (h1 : pm_ob G l0 12) (h2 : pm_ar G (T l0.toNat 28) 100 (M l0.toNat 13)) : pm_Run d 274 57 [.inr (.inr (.inl l0)), .inl l1, .inl l2, .inl l3, .inl l4] [] (G, M, T) K ↔ if pm_sg (M (T l0.toNat 28).toNat (pm_sg (M l0.toNat 13)).toNat) ≤ pm_sg l4 then pm_Run d 274 108 [.inr (.inr (.inl l0)), .inl l1, .inl l2, .inl l3, .inl l4] [] (G, M, T) K else pm_Run d 274 71 [.inr (.inr (.inl l0)), .inl l1, .inl l2, .inl l3, .inl l4] [] (G, M, T) K := by
  refine (px_go (by decide +kernel : pm_fe 274 57 = some (.iload 4, 2)) rfl).trans ?_
  refine (px_go (by decide +kernel : pm_fe 274 59 = some (.aload_n 0, 1)) rfl).trans ?_
  refine (px_get2 (idx := 96) (ci := 12) (k := 28) (by decide +kernel)).trans ((and_iff_right h1).trans ?_)
  refine (px_go (by decide +kernel : pm_fe 274 63 = some (.aload_n 0, 1)) rfl).trans ?_
  refine (px_get0 (idx := 51) (ci := 12) (k := 13) (by decide +kernel)).trans ((and_iff_right h1).trans ?_)
  refine (px_iaload (by decide +kernel) h2).trans ?_
  refine (px_ic_ge (off := 40) (tgt := 108) (by decide +kernel)).trans ?_
  exact Iff.rfl
theorem b274_71 {d : Nat} {G : PG} {M T : PH} {K : PV → PS → Prop} {l0 l1 l2 l3 l4 : Int} (h1 : pm_ob G l0 12) : pm_Run d 274 71 [.inr (.inr (.inl l0)), .inl l1, .inl l2, .inl l3, .inl l4] [] (G, M, T) K ↔ pm_Call d 254 [.inr (.inr (.inl l0)), .inl 1, .inl l3, .inl l4] (G, M, T) (fun r S1 => pm_Run d 274 79 [.inr (.inr (.inl l0)), .inl l1, .inl l2, .inl l3, .inl l4] (pm_push r []) S1 K) := by
  refine (px_go (by decide +kernel : pm_fe 274 71 = some (.aload_n 0, 1)) rfl).trans ?_
  refine (px_go (by decide +kernel : pm_fe 274 72 = some (.iconst 1, 1)) rfl).trans ?_
  refine (px_go (by decide +kernel : pm_fe 274 73 = some (.iload_n 3, 1)) rfl).trans ?_
  refine (px_go (by decide +kernel : pm_fe 274 74 = some (.iload 4, 2)) rfl).trans ?_
  refine (px_v3 (idx := 566) (m' := 254) (ci := 12) (by decide +kernel)).trans ((and_iff_right ⟨h1, (by simp [pm_wl_n, pm_wl_c, pm_w] : pm_wl [] ≤ 8)⟩).trans ?_)
  exact Iff.rfl
theorem b274_79 {d : Nat} {G : PG} {M T : PH} {K : PV → PS → Prop} {l0 l1 l2 l3 l4 s0 : Int} : pm_Run d 274 79 [.inr (.inr (.inl l0)), .inl l1, .inl l2, .inl l3, .inl l4] [.inl s0] (G, M, T) K ↔ if pm_sg s0 = 0 then pm_Run d 274 102 [.inr (.inr (.inl l0)), .inl l1, .inl l2, .inl l3, .inl l4] [] (G, M, T) K else pm_Run d 274 82 [.inr (.inr (.inl l0)), .inl l1, .inl l2, .inl l3, .inl l4] [] (G, M, T) K := by
  refine (px_if_eq (off := 23) (tgt := 102) (by decide +kernel)).trans ?_
  exact Iff.rfl
theorem b274_82 {d : Nat} {G : PG} {M T : PH} {K : PV → PS → Prop} {l0 l1 l2 l3 l4 : Int} : pm_Run d 274 82 [.inr (.inr (.inl l0)), .inl l1, .inl l2, .inl l3, .inl l4] [] (G, M, T) K ↔ if pm_sg l1 ≠ 0 then pm_Run d 274 90 [.inr (.inr (.inl l0)), .inl l1, .inl l2, .inl l3, .inl l4] [] (G, M, T) K else pm_Run d 274 86 [.inr (.inr (.inl l0)), .inl l1, .inl l2, .inl l3, .inl l4] [] (G, M, T) K := by
  refine (px_go (by decide +kernel : pm_fe 274 82 = some (.iload_n 1, 1)) rfl).trans ?_
  refine (px_if_ne (off := 7) (tgt := 90) (by decide +kernel)).trans ?_
  exact Iff.rfl
theorem b274_86 {d : Nat} {G : PG} {M T : PH} {K : PV → PS → Prop} {l0 l1 l2 l3 l4 : Int} : pm_Run d 274 86 [.inr (.inr (.inl l0)), .inl l1, .inl l2, .inl l3, .inl l4] [] (G, M, T) K ↔ pm_Run d 274 101 [.inr (.inr (.inl l0)), .inl l1, .inl l2, .inl l3, .inl l4] [.inl l2] (G, M, T) K := by
  refine (px_go (by decide +kernel : pm_fe 274 86 = some (.iload_n 2, 1)) rfl).trans ?_
  refine (px_goto (off := 14) (tgt := 101) (by decide +kernel)).trans ?_
  exact Iff.rfl
theorem b274_90 {d : Nat} {G : PG} {M T : PH} {K : PV → PS → Prop} {l0 l1 l2 l3 l4 : Int} : pm_Run d 274 90 [.inr (.inr (.inl l0)), .inl l1, .inl l2, .inl l3, .inl l4] [] (G, M, T) K ↔ if pm_sg l1 ≠ pm_sg 1 then pm_Run d 274 99 [.inr (.inr (.inl l0)), .inl l1, .inl l2, .inl l3, .inl l4] [] (G, M, T) K else pm_Run d 274 95 [.inr (.inr (.inl l0)), .inl l1, .inl l2, .inl l3, .inl l4] [] (G, M, T) K := by
  refine (px_go (by decide +kernel : pm_fe 274 90 = some (.iload_n 1, 1)) rfl).trans ?_
  refine (px_go (by decide +kernel : pm_fe 274 91 = some (.iconst 1, 1)) rfl).trans ?_
  refine (px_ic_ne (off := 7) (tgt := 99) (by decide +kernel)).trans ?_
  exact Iff.rfl
theorem b274_95 {d : Nat} {G : PG} {M T : PH} {K : PV → PS → Prop} {l0 l1 l2 l3 l4 : Int} : pm_Run d 274 95 [.inr (.inr (.inl l0)), .inl l1, .inl l2, .inl l3, .inl l4] [] (G, M, T) K ↔ pm_Run d 274 101 [.inr (.inr (.inl l0)), .inl l1, .inl l2, .inl l3, .inl l4] [.inl l3] (G, M, T) K := by
  refine (px_go (by decide +kernel : pm_fe 274 95 = some (.iload_n 3, 1)) rfl).trans ?_
  refine (px_goto (off := 5) (tgt := 101) (by decide +kernel)).trans ?_
  exact Iff.rfl
theorem b274_99 {d : Nat} {G : PG} {M T : PH} {K : PV → PS → Prop} {l0 l1 l2 l3 l4 : Int} : pm_Run d 274 99 [.inr (.inr (.inl l0)), .inl l1, .inl l2, .inl l3, .inl l4] [] (G, M, T) K ↔ pm_Run d 274 101 [.inr (.inr (.inl l0)), .inl l1, .inl l2, .inl l3, .inl l4] [.inl l4] (G, M, T) K := by
  refine (px_go (by decide +kernel : pm_fe 274 99 = some (.iload 4, 2)) rfl).trans ?_
  exact Iff.rfl
theorem b274_101 {d : Nat} {G : PG} {M T : PH} {K : PV → PS → Prop} {l0 l1 l2 l3 l4 s0 : Int} : pm_Run d 274 101 [.inr (.inr (.inl l0)), .inl l1, .inl l2, .inl l3, .inl l4] [.inl s0] (G, M, T) K ↔ K (.inl s0) (G, M, T) := by
  refine (px_ri (by decide +kernel)).trans ?_
  exact Iff.rfl
theorem b274_102 {d : Nat} {G : PG} {M T : PH} {K : PV → PS → Prop} {l0 l1 l2 l3 l4 : Int} : pm_Run d 274 102 [.inr (.inr (.inl l0)), .inl l1, .inl l2, .inl l3, .inl l4] [] (G, M, T) K ↔ pm_Run d 274 57 [.inr (.inr (.inl l0)), .inl l1, .inl l2, .inl l3, .inl (l4 + 1)] [] (G, M, T) K := by
  refine (px_go (by decide +kernel : pm_fe 274 102 = some (.iinc 4 1, 3)) rfl).trans ?_
  refine (px_goto (off := (-48)) (tgt := 57) (by decide +kernel)).trans ?_
  exact Iff.rfl
theorem b274_108 {d : Nat} {G : PG} {M T : PH} {K : PV → PS → Prop} {l0 l1 l2 l3 l4 : Int} : pm_Run d 274 108 [.inr (.inr (.inl l0)), .inl l1, .inl l2, .inl l3, .inl l4] [] (G, M, T) K ↔ pm_Run d 274 41 [.inr (.inr (.inl l0)), .inl l1, .inl l2, .inl (l3 + 1), .inl l4] [] (G, M, T) K := by
  refine (px_go (by decide +kernel : pm_fe 274 108 = some (.iinc 3 1, 3)) rfl).trans ?_
  refine (px_goto (off := (-70)) (tgt := 41) (by decide +kernel)).trans ?_
  exact Iff.rfl
theorem b274_114 {d : Nat} {G : PG} {M T : PH} {K : PV → PS → Prop} {l0 l1 l2 l3 : Int} {l4 : PV} (h1 : pm_ob G l0 12) : pm_Run d 274 114 [.inr (.inr (.inl l0)), .inl l1, .inl l2, .inl l3, l4] [] (G, M, T) K ↔ pm_Call d 257 [.inr (.inr (.inl l0)), .inl 1] (G, M, T) (fun r S1 => pm_Run d 274 119 [.inr (.inr (.inl l0)), .inl l1, .inl l2, .inl l3, l4] (pm_push r []) S1 K) := by
  refine (px_go (by decide +kernel : pm_fe 274 114 = some (.aload_n 0, 1)) rfl).trans ?_
  refine (px_go (by decide +kernel : pm_fe 274 115 = some (.iconst 1, 1)) rfl).trans ?_
  refine (px_v1 (idx := 530) (m' := 257) (ci := 12) (by decide +kernel)).trans ((and_iff_right ⟨h1, (by simp [pm_wl_n, pm_wl_c, pm_w] : pm_wl [] ≤ 8)⟩).trans ?_)
  exact Iff.rfl
theorem b274_119 {d : Nat} {G : PG} {M T : PH} {K : PV → PS → Prop} {l0 l1 l2 l3 : Int} {l4 : PV} : pm_Run d 274 119 [.inr (.inr (.inl l0)), .inl l1, .inl l2, .inl l3, l4] [] (G, M, T) K ↔ pm_Run d 274 26 [.inr (.inr (.inl l0)), .inl l1, .inl (l2 + 1), .inl l3, l4] [] (G, M, T) K := by
  refine (px_go (by decide +kernel : pm_fe 274 119 = some (.iinc 2 1, 3)) rfl).trans ?_
  refine (px_goto (off := (-96)) (tgt := 26) (by decide +kernel)).trans ?_
  exact Iff.rfl
theorem b274_125 {d : Nat} {G : PG} {M T : PH} {K : PV → PS → Prop} {l0 l1 l2 : Int} {l3 l4 : PV} : pm_Run d 274 125 [.inr (.inr (.inl l0)), .inl l1, .inl l2, l3, l4] [] (G, M, T) K ↔ K (.inl (-1)) (G, M, T) := by
  refine (px_go (by decide +kernel : pm_fe 274 125 = some (.iconst (-1), 1)) rfl).trans ?_
  refine (px_ri (by decide +kernel)).trans ?_
  exact Iff.rfl
-- X12_strandedMany strandedMany()I
theorem en275 {d : Nat} {a : Int} {S : PS} {K : PV → PS → Prop} : pm_Call (d + 1) 275 [.inr (.inr (.inl a))] S K ↔ pm_Run d 275 0 [.inr (.inr (.inl a)), PU, PU] [] S K := pm_Call_s.trans (and_iff_right (show 1 ≤ pm_ml 275 from by decide +kernel))
theorem b275_0 {d : Nat} {G : PG} {M T : PH} {K : PV → PS → Prop} {l0 : Int} : pm_Run d 275 0 [.inr (.inr (.inl l0)), PU, PU] [] (G, M, T) K ↔ pm_Run d 275 4 [.inr (.inr (.inl l0)), .inl 0, .inl 0] [] (G, M, T) K := by
  refine (px_go (by decide +kernel : pm_fe 275 0 = some (.iconst 0, 1)) rfl).trans ?_
  refine (px_go (by decide +kernel : pm_fe 275 1 = some (.istore_n 1, 1)) rfl).trans ?_
  refine (px_go (by decide +kernel : pm_fe 275 2 = some (.iconst 0, 1)) rfl).trans ?_
  refine (px_go (by decide +kernel : pm_fe 275 3 = some (.istore_n 2, 1)) rfl).trans ?_
  exact Iff.rfl
theorem b275_4 {d : Nat} {G : PG} {M T : PH} {K : PV → PS → Prop} {l0 l1 l2 : Int} (h1 : pm_ob G l0 12) (h2 : pm_ar G (T l0.toNat 19) 100 (M l0.toNat 13)) : pm_Run d 275 4 [.inr (.inr (.inl l0)), .inl l1, .inl l2] [] (G, M, T) K ↔ if pm_sg (M (T l0.toNat 19).toNat (pm_sg (M l0.toNat 13)).toNat) ≤ pm_sg l2 then pm_Run d 275 39 [.inr (.inr (.inl l0)), .inl l1, .inl l2] [] (G, M, T) K else pm_Run d 275 17 [.inr (.inr (.inl l0)), .inl l1, .inl l2] [] (G, M, T) K := by
  refine (px_go (by decide +kernel : pm_fe 275 4 = some (.iload_n 2, 1)) rfl).trans ?_
  refine (px_go (by decide +kernel : pm_fe 275 5 = some (.aload_n 0, 1)) rfl).trans ?_
  refine (px_get2 (idx := 69) (ci := 12) (k := 19) (by decide +kernel)).trans ((and_iff_right h1).trans ?_)
  refine (px_go (by decide +kernel : pm_fe 275 9 = some (.aload_n 0, 1)) rfl).trans ?_
  refine (px_get0 (idx := 51) (ci := 12) (k := 13) (by decide +kernel)).trans ((and_iff_right h1).trans ?_)
  refine (px_iaload (by decide +kernel) h2).trans ?_
  refine (px_ic_ge (off := 25) (tgt := 39) (by decide +kernel)).trans ?_
  exact Iff.rfl
theorem b275_17 {d : Nat} {G : PG} {M T : PH} {K : PV → PS → Prop} {l0 l1 l2 : Int} (h1 : pm_ob G l0 12) : pm_Run d 275 17 [.inr (.inr (.inl l0)), .inl l1, .inl l2] [] (G, M, T) K ↔ pm_Call d 268 [.inr (.inr (.inl l0)), .inl l2] (G, M, T) (fun r S1 => pm_Run d 275 23 [.inr (.inr (.inl l0)), .inl l1, .inl l2] (pm_push r [.inl l1]) S1 K) := by
  refine (px_go (by decide +kernel : pm_fe 275 17 = some (.iload_n 1, 1)) rfl).trans ?_
  refine (px_go (by decide +kernel : pm_fe 275 18 = some (.aload_n 0, 1)) rfl).trans ?_
  refine (px_go (by decide +kernel : pm_fe 275 19 = some (.iload_n 2, 1)) rfl).trans ?_
  refine (px_v1 (idx := 547) (m' := 268) (ci := 12) (by decide +kernel)).trans ((and_iff_right ⟨h1, (by simp [pm_wl_n, pm_wl_c, pm_w] : pm_wl [.inl l1] ≤ 8)⟩).trans ?_)
  exact Iff.rfl
theorem b275_23 {d : Nat} {G : PG} {M T : PH} {K : PV → PS → Prop} {l0 l1 l2 s0 s1 : Int} : pm_Run d 275 23 [.inr (.inr (.inl l0)), .inl l1, .inl l2] [.inl s0, .inl s1] (G, M, T) K ↔ if pm_sg s0 = 0 then pm_Run d 275 30 [.inr (.inr (.inl l0)), .inl l1, .inl l2] [.inl s1] (G, M, T) K else pm_Run d 275 26 [.inr (.inr (.inl l0)), .inl l1, .inl l2] [.inl s1] (G, M, T) K := by
  refine (px_if_eq (off := 7) (tgt := 30) (by decide +kernel)).trans ?_
  exact Iff.rfl
theorem b275_26 {d : Nat} {G : PG} {M T : PH} {K : PV → PS → Prop} {l0 l1 l2 s0 : Int} : pm_Run d 275 26 [.inr (.inr (.inl l0)), .inl l1, .inl l2] [.inl s0] (G, M, T) K ↔ pm_Run d 275 31 [.inr (.inr (.inl l0)), .inl l1, .inl l2] [.inl 1, .inl s0] (G, M, T) K := by
  refine (px_go (by decide +kernel : pm_fe 275 26 = some (.iconst 1, 1)) rfl).trans ?_
  refine (px_goto (off := 4) (tgt := 31) (by decide +kernel)).trans ?_
  exact Iff.rfl
theorem b275_30 {d : Nat} {G : PG} {M T : PH} {K : PV → PS → Prop} {l0 l1 l2 s0 : Int} : pm_Run d 275 30 [.inr (.inr (.inl l0)), .inl l1, .inl l2] [.inl s0] (G, M, T) K ↔ pm_Run d 275 31 [.inr (.inr (.inl l0)), .inl l1, .inl l2] [.inl 0, .inl s0] (G, M, T) K := by
  refine (px_go (by decide +kernel : pm_fe 275 30 = some (.iconst 0, 1)) rfl).trans ?_
  exact Iff.rfl
theorem b275_31 {d : Nat} {G : PG} {M T : PH} {K : PV → PS → Prop} {l0 l1 l2 s0 s1 : Int} : pm_Run d 275 31 [.inr (.inr (.inl l0)), .inl l1, .inl l2] [.inl s0, .inl s1] (G, M, T) K ↔ pm_Run d 275 4 [.inr (.inr (.inl l0)), .inl (s1 + s0), .inl (l2 + 1)] [] (G, M, T) K := by
  refine (px_go (by decide +kernel : pm_fe 275 31 = some (.iadd, 1)) rfl).trans ?_
  refine (px_go (by decide +kernel : pm_fe 275 32 = some (.istore_n 1, 1)) rfl).trans ?_
  refine (px_go (by decide +kernel : pm_fe 275 33 = some (.iinc 2 1, 3)) rfl).trans ?_
  refine (px_goto (off := (-32)) (tgt := 4) (by decide +kernel)).trans ?_
  exact Iff.rfl
theorem b275_39 {d : Nat} {G : PG} {M T : PH} {K : PV → PS → Prop} {l0 l1 l2 : Int} : pm_Run d 275 39 [.inr (.inr (.inl l0)), .inl l1, .inl l2] [] (G, M, T) K ↔ K (.inl l1) (G, M, T) := by
  refine (px_go (by decide +kernel : pm_fe 275 39 = some (.iload_n 1, 1)) rfl).trans ?_
  refine (px_ri (by decide +kernel)).trans ?_
  exact Iff.rfl
-- X12_stranded stranded(II)I
theorem en276 {d : Nat} {a p0 p1 : Int} {S : PS} {K : PV → PS → Prop} : pm_Call (d + 1) 276 [.inr (.inr (.inl a)), .inl p0, .inl p1] S K ↔ pm_Run d 276 0 [.inr (.inr (.inl a)), .inl p0, .inl p1, PU] [] S K := pm_Call_s.trans (and_iff_right (show 3 ≤ pm_ml 276 from by decide +kernel))
theorem b276_0 {d : Nat} {G : PG} {M T : PH} {K : PV → PS → Prop} {l0 l1 l2 : Int} (h1 : pm_ob G l0 12) : pm_Run d 276 0 [.inr (.inr (.inl l0)), .inl l1, .inl l2, PU] [] (G, M, T) K ↔ pm_Call d 259 [.inr (.inr (.inl l0)), .inl l1] (G, M, T) (fun r S1 => pm_Run d 276 5 [.inr (.inr (.inl l0)), .inl l1, .inl l2, PU] (pm_push r []) S1 K) := by
  refine (px_go (by decide +kernel : pm_fe 276 0 = some (.aload_n 0, 1)) rfl).trans ?_
  refine (px_go (by decide +kernel : pm_fe 276 1 = some (.iload_n 1, 1)) rfl).trans ?_
  refine (px_v1 (idx := 560) (m' := 259) (ci := 12) (by decide +kernel)).trans ((and_iff_right ⟨h1, (by simp [pm_wl_n, pm_wl_c, pm_w] : pm_wl [] ≤ 8)⟩).trans ?_)
  exact Iff.rfl
theorem b276_5 {d : Nat} {G : PG} {M T : PH} {K : PV → PS → Prop} {l0 l1 l2 s0 : Int} : pm_Run d 276 5 [.inr (.inr (.inl l0)), .inl l1, .inl l2, PU] [.inl s0] (G, M, T) K ↔ if pm_sg s0 = 0 then pm_Run d 276 17 [.inr (.inr (.inl l0)), .inl l1, .inl l2, PU] [] (G, M, T) K else pm_Run d 276 8 [.inr (.inr (.inl l0)), .inl l1, .inl l2, PU] [] (G, M, T) K := by
  refine (px_if_eq (off := 12) (tgt := 17) (by decide +kernel)).trans ?_
  exact Iff.rfl
theorem b276_8 {d : Nat} {G : PG} {M T : PH} {K : PV → PS → Prop} {l0 l1 l2 : Int} : pm_Run d 276 8 [.inr (.inr (.inl l0)), .inl l1, .inl l2, PU] [] (G, M, T) K ↔ pm_Call d 179 [.inl l2, .inl 0, .inl 1] (G, M, T) (fun r S1 => pm_Run d 276 14 [.inr (.inr (.inl l0)), .inl l1, .inl l2, PU] (pm_push r []) S1 K) := by
  refine (px_go (by decide +kernel : pm_fe 276 8 = some (.iload_n 2, 1)) rfl).trans ?_
  refine (px_go (by decide +kernel : pm_fe 276 9 = some (.iconst 0, 1)) rfl).trans ?_
  refine (px_go (by decide +kernel : pm_fe 276 10 = some (.iconst 1, 1)) rfl).trans ?_
  refine (px_s3 (idx := 337) (m' := 179) (nest := 0) (by decide +kernel)).trans ((and_iff_right (by simp [pm_wl_n, pm_wl_c, pm_w] : pm_wl [] ≤ 8)).trans ?_)
  exact Iff.rfl
theorem b276_14 {d : Nat} {G : PG} {M T : PH} {K : PV → PS → Prop} {l0 l1 l2 s0 : Int} : pm_Run d 276 14 [.inr (.inr (.inl l0)), .inl l1, .inl l2, PU] [.inl s0] (G, M, T) K ↔ if pm_sg s0 ≠ 0 then pm_Run d 276 19 [.inr (.inr (.inl l0)), .inl l1, .inl l2, PU] [] (G, M, T) K else pm_Run d 276 17 [.inr (.inr (.inl l0)), .inl l1, .inl l2, PU] [] (G, M, T) K := by
  refine (px_if_ne (off := 5) (tgt := 19) (by decide +kernel)).trans ?_
  exact Iff.rfl
theorem b276_17 {d : Nat} {G : PG} {M T : PH} {K : PV → PS → Prop} {l0 l1 l2 : Int} : pm_Run d 276 17 [.inr (.inr (.inl l0)), .inl l1, .inl l2, PU] [] (G, M, T) K ↔ K (.inl (-1)) (G, M, T) := by
  refine (px_go (by decide +kernel : pm_fe 276 17 = some (.iconst (-1), 1)) rfl).trans ?_
  refine (px_ri (by decide +kernel)).trans ?_
  exact Iff.rfl
theorem b276_19 {d : Nat} {G : PG} {M T : PH} {K : PV → PS → Prop} {l0 l1 l2 : Int} (h1 : pm_ob G l0 12) : pm_Run d 276 19 [.inr (.inr (.inl l0)), .inl l1, .inl l2, PU] [] (G, M, T) K ↔ pm_Call d 260 [.inr (.inr (.inl l0)), .inl l1] (G, M, T) (fun r S1 => pm_Run d 276 24 [.inr (.inr (.inl l0)), .inl l1, .inl l2, PU] (pm_push r []) S1 K) := by
  refine (px_go (by decide +kernel : pm_fe 276 19 = some (.aload_n 0, 1)) rfl).trans ?_
  refine (px_go (by decide +kernel : pm_fe 276 20 = some (.iload_n 1, 1)) rfl).trans ?_
  refine (px_v1 (idx := 563) (m' := 260) (ci := 12) (by decide +kernel)).trans ((and_iff_right ⟨h1, (by simp [pm_wl_n, pm_wl_c, pm_w] : pm_wl [] ≤ 8)⟩).trans ?_)
  exact Iff.rfl
theorem b276_24 {d : Nat} {G : PG} {M T : PH} {K : PV → PS → Prop} {l0 l1 l2 : Int} : pm_Run d 276 24 [.inr (.inr (.inl l0)), .inl l1, .inl l2, PU] [] (G, M, T) K ↔ if pm_sg l2 ≠ 0 then pm_Run d 276 33 [.inr (.inr (.inl l0)), .inl l1, .inl l2, PU] [] (G, M, T) K else pm_Run d 276 28 [.inr (.inr (.inl l0)), .inl l1, .inl l2, PU] [] (G, M, T) K := by
  refine (px_go (by decide +kernel : pm_fe 276 24 = some (.iload_n 2, 1)) rfl).trans ?_
  refine (px_if_ne (off := 8) (tgt := 33) (by decide +kernel)).trans ?_
  exact Iff.rfl
theorem b276_28 {d : Nat} {G : PG} {M T : PH} {K : PV → PS → Prop} {l0 l1 l2 : Int} (h1 : pm_ob G l0 12) : pm_Run d 276 28 [.inr (.inr (.inl l0)), .inl l1, .inl l2, PU] [] (G, M, T) K ↔ pm_Call d 275 [.inr (.inr (.inl l0))] (G, M, T) (fun r S1 => pm_Run d 276 32 [.inr (.inr (.inl l0)), .inl l1, .inl l2, PU] (pm_push r []) S1 K) := by
  refine (px_go (by decide +kernel : pm_fe 276 28 = some (.aload_n 0, 1)) rfl).trans ?_
  refine (px_v0 (idx := 569) (m' := 275) (ci := 12) (by decide +kernel)).trans ((and_iff_right ⟨h1, (by simp [pm_wl_n, pm_wl_c, pm_w] : pm_wl [] ≤ 8)⟩).trans ?_)
  exact Iff.rfl
theorem b276_32 {d : Nat} {G : PG} {M T : PH} {K : PV → PS → Prop} {l0 l1 l2 s0 : Int} : pm_Run d 276 32 [.inr (.inr (.inl l0)), .inl l1, .inl l2, PU] [.inl s0] (G, M, T) K ↔ K (.inl s0) (G, M, T) := by
  refine (px_ri (by decide +kernel)).trans ?_
  exact Iff.rfl
theorem b276_33 {d : Nat} {G : PG} {M T : PH} {K : PV → PS → Prop} {l0 l1 l2 : Int} : pm_Run d 276 33 [.inr (.inr (.inl l0)), .inl l1, .inl l2, PU] [] (G, M, T) K ↔ pm_Run d 276 35 [.inr (.inr (.inl l0)), .inl l1, .inl l2, .inl l1] [] (G, M, T) K := by
  refine (px_go (by decide +kernel : pm_fe 276 33 = some (.iload_n 1, 1)) rfl).trans ?_
  refine (px_go (by decide +kernel : pm_fe 276 34 = some (.istore_n 3, 1)) rfl).trans ?_
  exact Iff.rfl
theorem b276_35 {d : Nat} {G : PG} {M T : PH} {K : PV → PS → Prop} {l0 l1 l2 l3 : Int} (h1 : pm_ob G l0 12) : pm_Run d 276 35 [.inr (.inr (.inl l0)), .inl l1, .inl l2, .inl l3] [] (G, M, T) K ↔ pm_Call d 258 [.inr (.inr (.inl l0))] (G, M, T) (fun r S1 => pm_Run d 276 40 [.inr (.inr (.inl l0)), .inl l1, .inl l2, .inl l3] (pm_push r [.inl l3]) S1 K) := by
  refine (px_go (by decide +kernel : pm_fe 276 35 = some (.iload_n 3, 1)) rfl).trans ?_
  refine (px_go (by decide +kernel : pm_fe 276 36 = some (.aload_n 0, 1)) rfl).trans ?_
  refine (px_v0 (idx := 526) (m' := 258) (ci := 12) (by decide +kernel)).trans ((and_iff_right ⟨h1, (by simp [pm_wl_n, pm_wl_c, pm_w] : pm_wl [.inl l3] ≤ 8)⟩).trans ?_)
  exact Iff.rfl
theorem b276_40 {d : Nat} {G : PG} {M T : PH} {K : PV → PS → Prop} {l0 l1 l2 l3 s0 s1 : Int} : pm_Run d 276 40 [.inr (.inr (.inl l0)), .inl l1, .inl l2, .inl l3] [.inl s0, .inl s1] (G, M, T) K ↔ if pm_sg s0 < pm_sg s1 then pm_Run d 276 68 [.inr (.inr (.inl l0)), .inl l1, .inl l2, .inl l3] [] (G, M, T) K else pm_Run d 276 43 [.inr (.inr (.inl l0)), .inl l1, .inl l2, .inl l3] [] (G, M, T) K := by
  refine (px_ic_gt (off := 28) (tgt := 68) (by decide +kernel)).trans ?_
  exact Iff.rfl
theorem b276_43 {d : Nat} {G : PG} {M T : PH} {K : PV → PS → Prop} {l0 l1 l2 l3 : Int} (h1 : pm_ob G l0 12) : pm_Run d 276 43 [.inr (.inr (.inl l0)), .inl l1, .inl l2, .inl l3] [] (G, M, T) K ↔ pm_Call d 275 [.inr (.inr (.inl l0))] (G, M, T) (fun r S1 => pm_Run d 276 47 [.inr (.inr (.inl l0)), .inl l1, .inl l2, .inl l3] (pm_push r []) S1 K) := by
  refine (px_go (by decide +kernel : pm_fe 276 43 = some (.aload_n 0, 1)) rfl).trans ?_
  refine (px_v0 (idx := 569) (m' := 275) (ci := 12) (by decide +kernel)).trans ((and_iff_right ⟨h1, (by simp [pm_wl_n, pm_wl_c, pm_w] : pm_wl [] ≤ 8)⟩).trans ?_)
  exact Iff.rfl
theorem b276_47 {d : Nat} {G : PG} {M T : PH} {K : PV → PS → Prop} {l0 l1 l2 l3 s0 : Int} : pm_Run d 276 47 [.inr (.inr (.inl l0)), .inl l1, .inl l2, .inl l3] [.inl s0] (G, M, T) K ↔ if pm_sg s0 ≤ 0 then pm_Run d 276 52 [.inr (.inr (.inl l0)), .inl l1, .inl l2, .inl l3] [] (G, M, T) K else pm_Run d 276 50 [.inr (.inr (.inl l0)), .inl l1, .inl l2, .inl l3] [] (G, M, T) K := by
  refine (px_if_le (off := 5) (tgt := 52) (by decide +kernel)).trans ?_
  exact Iff.rfl
theorem b276_50 {d : Nat} {G : PG} {M T : PH} {K : PV → PS → Prop} {l0 l1 l2 l3 : Int} : pm_Run d 276 50 [.inr (.inr (.inl l0)), .inl l1, .inl l2, .inl l3] [] (G, M, T) K ↔ K (.inl l3) (G, M, T) := by
  refine (px_go (by decide +kernel : pm_fe 276 50 = some (.iload_n 3, 1)) rfl).trans ?_
  refine (px_ri (by decide +kernel)).trans ?_
  exact Iff.rfl
theorem b276_52 {d : Nat} {G : PG} {M T : PH} {K : PV → PS → Prop} {l0 l1 l2 l3 : Int} (h1 : pm_ob G l0 12) : pm_Run d 276 52 [.inr (.inr (.inl l0)), .inl l1, .inl l2, .inl l3] [] (G, M, T) K ↔ pm_Call d 257 [.inr (.inr (.inl l0)), .inl 1] (G, M, T) (fun r S1 => pm_Run d 276 57 [.inr (.inr (.inl l0)), .inl l1, .inl l2, .inl l3] (pm_push r []) S1 K) := by
  refine (px_go (by decide +kernel : pm_fe 276 52 = some (.aload_n 0, 1)) rfl).trans ?_
  refine (px_go (by decide +kernel : pm_fe 276 53 = some (.iconst 1, 1)) rfl).trans ?_
  refine (px_v1 (idx := 530) (m' := 257) (ci := 12) (by decide +kernel)).trans ((and_iff_right ⟨h1, (by simp [pm_wl_n, pm_wl_c, pm_w] : pm_wl [] ≤ 8)⟩).trans ?_)
  exact Iff.rfl
theorem b276_57 {d : Nat} {G : PG} {M T : PH} {K : PV → PS → Prop} {l0 l1 l2 l3 : Int} (h1 : pm_ob G l0 12) : pm_Run d 276 57 [.inr (.inr (.inl l0)), .inl l1, .inl l2, .inl l3] [] (G, M, T) K ↔ pm_Call d 255 [.inr (.inr (.inl l0)), .inl 1] (G, M, T) (fun r S1 => pm_Run d 276 62 [.inr (.inr (.inl l0)), .inl l1, .inl l2, .inl l3] (pm_push r []) S1 K) := by
  refine (px_go (by decide +kernel : pm_fe 276 57 = some (.aload_n 0, 1)) rfl).trans ?_
  refine (px_go (by decide +kernel : pm_fe 276 58 = some (.iconst 1, 1)) rfl).trans ?_
  refine (px_v1 (idx := 513) (m' := 255) (ci := 12) (by decide +kernel)).trans ((and_iff_right ⟨h1, (by simp [pm_wl_n, pm_wl_c, pm_w] : pm_wl [] ≤ 8)⟩).trans ?_)
  exact Iff.rfl
theorem b276_62 {d : Nat} {G : PG} {M T : PH} {K : PV → PS → Prop} {l0 l1 l2 l3 : Int} : pm_Run d 276 62 [.inr (.inr (.inl l0)), .inl l1, .inl l2, .inl l3] [] (G, M, T) K ↔ pm_Run d 276 35 [.inr (.inr (.inl l0)), .inl l1, .inl l2, .inl (l3 + 1)] [] (G, M, T) K := by
  refine (px_go (by decide +kernel : pm_fe 276 62 = some (.iinc 3 1, 3)) rfl).trans ?_
  refine (px_goto (off := (-30)) (tgt := 35) (by decide +kernel)).trans ?_
  exact Iff.rfl
theorem b276_68 {d : Nat} {G : PG} {M T : PH} {K : PV → PS → Prop} {l0 l1 l2 l3 : Int} : pm_Run d 276 68 [.inr (.inr (.inl l0)), .inl l1, .inl l2, .inl l3] [] (G, M, T) K ↔ K (.inl (-1)) (G, M, T) := by
  refine (px_go (by decide +kernel : pm_fe 276 68 = some (.iconst (-1), 1)) rfl).trans ?_
  refine (px_ri (by decide +kernel)).trans ?_
  exact Iff.rfl
-- X12_bid bid(III)I
theorem en277 {d : Nat} {a p0 p1 p2 : Int} {S : PS} {K : PV → PS → Prop} : pm_Call (d + 1) 277 [.inr (.inr (.inl a)), .inl p0, .inl p1, .inl p2] S K ↔ pm_Run d 277 0 [.inr (.inr (.inl a)), .inl p0, .inl p1, .inl p2, PU] [] S K := pm_Call_s.trans (and_iff_right (show 4 ≤ pm_ml 277 from by decide +kernel))
theorem b277_0 {d : Nat} {G : PG} {M T : PH} {K : PV → PS → Prop} {l0 l1 l2 l3 : Int} (h1 : pm_ob G l0 12) : pm_Run d 277 0 [.inr (.inr (.inl l0)), .inl l1, .inl l2, .inl l3, PU] [] (G, M, T) K ↔ pm_Call d 229 [.inr (.inr (.inl l0)), .inl l1] (G, M, T) (fun r S1 => pm_Run d 277 5 [.inr (.inr (.inl l0)), .inl l1, .inl l2, .inl l3, PU] (pm_push r []) S1 K) := by
  refine (px_go (by decide +kernel : pm_fe 277 0 = some (.aload_n 0, 1)) rfl).trans ?_
  refine (px_go (by decide +kernel : pm_fe 277 1 = some (.iload_n 1, 1)) rfl).trans ?_
  refine (px_v1 (idx := 544) (m' := 229) (ci := 12) (by decide +kernel)).trans ((and_iff_right ⟨h1, (by simp [pm_wl_n, pm_wl_c, pm_w] : pm_wl [] ≤ 8)⟩).trans ?_)
  exact Iff.rfl
theorem b277_5 {d : Nat} {G : PG} {M T : PH} {K : PV → PS → Prop} {l0 l1 l2 l3 s0 : Int} : pm_Run d 277 5 [.inr (.inr (.inl l0)), .inl l1, .inl l2, .inl l3, PU] [.inl s0] (G, M, T) K ↔ if pm_sg s0 = 0 then pm_Run d 277 26 [.inr (.inr (.inl l0)), .inl l1, .inl l2, .inl l3, PU] [] (G, M, T) K else pm_Run d 277 8 [.inr (.inr (.inl l0)), .inl l1, .inl l2, .inl l3, PU] [] (G, M, T) K := by
  refine (px_if_eq (off := 21) (tgt := 26) (by decide +kernel)).trans ?_
  exact Iff.rfl
theorem b277_8 {d : Nat} {G : PG} {M T : PH} {K : PV → PS → Prop} {l0 l1 l2 l3 : Int} (h1 : pm_ob G l0 12) : pm_Run d 277 8 [.inr (.inr (.inl l0)), .inl l1, .inl l2, .inl l3, PU] [] (G, M, T) K ↔ pm_Call d 228 [.inr (.inr (.inl l0)), .inl l2] (G, M, T) (fun r S1 => pm_Run d 277 13 [.inr (.inr (.inl l0)), .inl l1, .inl l2, .inl l3, PU] (pm_push r []) S1 K) := by
  refine (px_go (by decide +kernel : pm_fe 277 8 = some (.aload_n 0, 1)) rfl).trans ?_
  refine (px_go (by decide +kernel : pm_fe 277 9 = some (.iload_n 2, 1)) rfl).trans ?_
  refine (px_v1 (idx := 535) (m' := 228) (ci := 12) (by decide +kernel)).trans ((and_iff_right ⟨h1, (by simp [pm_wl_n, pm_wl_c, pm_w] : pm_wl [] ≤ 8)⟩).trans ?_)
  exact Iff.rfl
theorem b277_13 {d : Nat} {G : PG} {M T : PH} {K : PV → PS → Prop} {l0 l1 l2 l3 s0 : Int} : pm_Run d 277 13 [.inr (.inr (.inl l0)), .inl l1, .inl l2, .inl l3, PU] [.inl s0] (G, M, T) K ↔ if pm_sg s0 = 0 then pm_Run d 277 26 [.inr (.inr (.inl l0)), .inl l1, .inl l2, .inl l3, PU] [] (G, M, T) K else pm_Run d 277 16 [.inr (.inr (.inl l0)), .inl l1, .inl l2, .inl l3, PU] [] (G, M, T) K := by
  refine (px_if_eq (off := 13) (tgt := 26) (by decide +kernel)).trans ?_
  exact Iff.rfl
theorem b277_16 {d : Nat} {G : PG} {M T : PH} {K : PV → PS → Prop} {l0 l1 l2 l3 : Int} : pm_Run d 277 16 [.inr (.inr (.inl l0)), .inl l1, .inl l2, .inl l3, PU] [] (G, M, T) K ↔ pm_Call d 179 [.inl l3, .inl 0, .inl 20] (G, M, T) (fun r S1 => pm_Run d 277 23 [.inr (.inr (.inl l0)), .inl l1, .inl l2, .inl l3, PU] (pm_push r []) S1 K) := by
  refine (px_go (by decide +kernel : pm_fe 277 16 = some (.iload_n 3, 1)) rfl).trans ?_
  refine (px_go (by decide +kernel : pm_fe 277 17 = some (.iconst 0, 1)) rfl).trans ?_
  refine (px_go (by decide +kernel : pm_fe 277 18 = some (.bipush 20, 2)) rfl).trans ?_
  refine (px_s3 (idx := 337) (m' := 179) (nest := 0) (by decide +kernel)).trans ((and_iff_right (by simp [pm_wl_n, pm_wl_c, pm_w] : pm_wl [] ≤ 8)).trans ?_)
  exact Iff.rfl
theorem b277_23 {d : Nat} {G : PG} {M T : PH} {K : PV → PS → Prop} {l0 l1 l2 l3 s0 : Int} : pm_Run d 277 23 [.inr (.inr (.inl l0)), .inl l1, .inl l2, .inl l3, PU] [.inl s0] (G, M, T) K ↔ if pm_sg s0 ≠ 0 then pm_Run d 277 32 [.inr (.inr (.inl l0)), .inl l1, .inl l2, .inl l3, PU] [] (G, M, T) K else pm_Run d 277 26 [.inr (.inr (.inl l0)), .inl l1, .inl l2, .inl l3, PU] [] (G, M, T) K := by
  refine (px_if_ne (off := 9) (tgt := 32) (by decide +kernel)).trans ?_
  exact Iff.rfl
theorem b277_26 {d : Nat} {G : PG} {M T : PH} {K : PV → PS → Prop} {l0 l1 l2 l3 : Int} (h1 : pm_ob G l0 12) : pm_Run d 277 26 [.inr (.inr (.inl l0)), .inl l1, .inl l2, .inl l3, PU] [] (G, M, T) K ↔ pm_Call d 224 [.inr (.inr (.inl l0)), .inl 2] (G, M, T) (fun r S1 => pm_Run d 277 31 [.inr (.inr (.inl l0)), .inl l1, .inl l2, .inl l3, PU] (pm_push r []) S1 K) := by
  refine (px_go (by decide +kernel : pm_fe 277 26 = some (.aload_n 0, 1)) rfl).trans ?_
  refine (px_go (by decide +kernel : pm_fe 277 27 = some (.iconst 2, 1)) rfl).trans ?_
  refine (px_v1 (idx := 243) (m' := 224) (ci := 12) (by decide +kernel)).trans ((and_iff_right ⟨h1, (by simp [pm_wl_n, pm_wl_c, pm_w] : pm_wl [] ≤ 8)⟩).trans ?_)
  exact Iff.rfl
theorem b277_31 {d : Nat} {G : PG} {M T : PH} {K : PV → PS → Prop} {l0 l1 l2 l3 s0 : Int} : pm_Run d 277 31 [.inr (.inr (.inl l0)), .inl l1, .inl l2, .inl l3, PU] [.inl s0] (G, M, T) K ↔ K (.inl s0) (G, M, T) := by
  refine (px_ri (by decide +kernel)).trans ?_
  exact Iff.rfl
theorem b277_32 {d : Nat} {G : PG} {M T : PH} {K : PV → PS → Prop} {l0 l1 l2 l3 : Int} (h1 : pm_ob G l0 12) : pm_Run d 277 32 [.inr (.inr (.inl l0)), .inl l1, .inl l2, .inl l3, PU] [] (G, M, T) K ↔ pm_Call d 235 [.inr (.inr (.inl l0))] (G, M, T) (fun r S1 => pm_Run d 277 36 [.inr (.inr (.inl l0)), .inl l1, .inl l2, .inl l3, PU] (pm_push r []) S1 K) := by
  refine (px_go (by decide +kernel : pm_fe 277 32 = some (.aload_n 0, 1)) rfl).trans ?_
  refine (px_v0 (idx := 572) (m' := 235) (ci := 12) (by decide +kernel)).trans ((and_iff_right ⟨h1, (by simp [pm_wl_n, pm_wl_c, pm_w] : pm_wl [] ≤ 8)⟩).trans ?_)
  exact Iff.rfl
theorem b277_36 {d : Nat} {G : PG} {M T : PH} {K : PV → PS → Prop} {l0 l1 l2 l3 : Int} (h1 : pm_ob G l0 12) (h2 : pm_ar G (T l0.toNat 58) 100 ((3 * l1) + l2)) : pm_Run d 277 36 [.inr (.inr (.inl l0)), .inl l1, .inl l2, .inl l3, PU] [] (G, M, T) K ↔ K (.inl (M (T l0.toNat 58).toNat (pm_sg ((3 * l1) + l2)).toNat)) (G, pm_sa M (T l0.toNat 58).toNat (pm_up (M (T l0.toNat 58).toNat) (pm_sg ((3 * l1) + l2)).toNat l3), T) := by
  refine (px_go (by decide +kernel : pm_fe 277 36 = some (.aload_n 0, 1)) rfl).trans ?_
  refine (px_get2 (idx := 189) (ci := 12) (k := 58) (by decide +kernel)).trans ((and_iff_right h1).trans ?_)
  refine (px_go (by decide +kernel : pm_fe 277 40 = some (.iconst 3, 1)) rfl).trans ?_
  refine (px_go (by decide +kernel : pm_fe 277 41 = some (.iload_n 1, 1)) rfl).trans ?_
  refine (px_go (by decide +kernel : pm_fe 277 42 = some (.imul, 1)) rfl).trans ?_
  refine (px_go (by decide +kernel : pm_fe 277 43 = some (.iload_n 2, 1)) rfl).trans ?_
  refine (px_go (by decide +kernel : pm_fe 277 44 = some (.iadd, 1)) rfl).trans ?_
  refine (px_iaload (by decide +kernel) h2).trans ?_
  refine (px_go (by decide +kernel : pm_fe 277 46 = some (.istore 4, 2)) rfl).trans ?_
  refine (px_go (by decide +kernel : pm_fe 277 48 = some (.aload_n 0, 1)) rfl).trans ?_
  refine (px_get2 (idx := 189) (ci := 12) (k := 58) (by decide +kernel)).trans ((and_iff_right h1).trans ?_)
  refine (px_go (by decide +kernel : pm_fe 277 52 = some (.iconst 3, 1)) rfl).trans ?_
  refine (px_go (by decide +kernel : pm_fe 277 53 = some (.iload_n 1, 1)) rfl).trans ?_
  refine (px_go (by decide +kernel : pm_fe 277 54 = some (.imul, 1)) rfl).trans ?_
  refine (px_go (by decide +kernel : pm_fe 277 55 = some (.iload_n 2, 1)) rfl).trans ?_
  refine (px_go (by decide +kernel : pm_fe 277 56 = some (.iadd, 1)) rfl).trans ?_
  refine (px_go (by decide +kernel : pm_fe 277 57 = some (.iload_n 3, 1)) rfl).trans ?_
  refine (px_iastore (by decide +kernel)).trans ((and_iff_right h2).trans ?_)
  refine (px_go (by decide +kernel : pm_fe 277 59 = some (.iload 4, 2)) rfl).trans ?_
  refine (px_ri (by decide +kernel)).trans ?_
  exact Iff.rfl
-- X12_give give(III)Z
theorem en278 {d : Nat} {a p0 p1 p2 : Int} {S : PS} {K : PV → PS → Prop} : pm_Call (d + 1) 278 [.inr (.inr (.inl a)), .inl p0, .inl p1, .inl p2] S K ↔ pm_Run d 278 0 [.inr (.inr (.inl a)), .inl p0, .inl p1, .inl p2, PU] [] S K := pm_Call_s.trans (and_iff_right (show 4 ≤ pm_ml 278 from by decide +kernel))
theorem b278_0 {d : Nat} {G : PG} {M T : PH} {K : PV → PS → Prop} {l0 l1 l2 l3 : Int} (h1 : pm_ob G l0 12) : pm_Run d 278 0 [.inr (.inr (.inl l0)), .inl l1, .inl l2, .inl l3, PU] [] (G, M, T) K ↔ pm_Call d 229 [.inr (.inr (.inl l0)), .inl l1] (G, M, T) (fun r S1 => pm_Run d 278 5 [.inr (.inr (.inl l0)), .inl l1, .inl l2, .inl l3, PU] (pm_push r []) S1 K) := by
  refine (px_go (by decide +kernel : pm_fe 278 0 = some (.aload_n 0, 1)) rfl).trans ?_
  refine (px_go (by decide +kernel : pm_fe 278 1 = some (.iload_n 1, 1)) rfl).trans ?_
  refine (px_v1 (idx := 544) (m' := 229) (ci := 12) (by decide +kernel)).trans ((and_iff_right ⟨h1, (by simp [pm_wl_n, pm_wl_c, pm_w] : pm_wl [] ≤ 8)⟩).trans ?_)
  exact Iff.rfl
theorem b278_5 {d : Nat} {G : PG} {M T : PH} {K : PV → PS → Prop} {l0 l1 l2 l3 s0 : Int} : pm_Run d 278 5 [.inr (.inr (.inl l0)), .inl l1, .inl l2, .inl l3, PU] [.inl s0] (G, M, T) K ↔ if pm_sg s0 = 0 then pm_Run d 278 53 [.inr (.inr (.inl l0)), .inl l1, .inl l2, .inl l3, PU] [] (G, M, T) K else pm_Run d 278 8 [.inr (.inr (.inl l0)), .inl l1, .inl l2, .inl l3, PU] [] (G, M, T) K := by
  refine (px_if_eq (off := 48) (tgt := 53) (by decide +kernel)).trans ?_
  exact Iff.rfl
theorem b278_8 {d : Nat} {G : PG} {M T : PH} {K : PV → PS → Prop} {l0 l1 l2 l3 : Int} (h1 : pm_ob G l0 12) : pm_Run d 278 8 [.inr (.inr (.inl l0)), .inl l1, .inl l2, .inl l3, PU] [] (G, M, T) K ↔ pm_Call d 229 [.inr (.inr (.inl l0)), .inl l2] (G, M, T) (fun r S1 => pm_Run d 278 13 [.inr (.inr (.inl l0)), .inl l1, .inl l2, .inl l3, PU] (pm_push r []) S1 K) := by
  refine (px_go (by decide +kernel : pm_fe 278 8 = some (.aload_n 0, 1)) rfl).trans ?_
  refine (px_go (by decide +kernel : pm_fe 278 9 = some (.iload_n 2, 1)) rfl).trans ?_
  refine (px_v1 (idx := 544) (m' := 229) (ci := 12) (by decide +kernel)).trans ((and_iff_right ⟨h1, (by simp [pm_wl_n, pm_wl_c, pm_w] : pm_wl [] ≤ 8)⟩).trans ?_)
  exact Iff.rfl
theorem b278_13 {d : Nat} {G : PG} {M T : PH} {K : PV → PS → Prop} {l0 l1 l2 l3 s0 : Int} : pm_Run d 278 13 [.inr (.inr (.inl l0)), .inl l1, .inl l2, .inl l3, PU] [.inl s0] (G, M, T) K ↔ if pm_sg s0 = 0 then pm_Run d 278 53 [.inr (.inr (.inl l0)), .inl l1, .inl l2, .inl l3, PU] [] (G, M, T) K else pm_Run d 278 16 [.inr (.inr (.inl l0)), .inl l1, .inl l2, .inl l3, PU] [] (G, M, T) K := by
  refine (px_if_eq (off := 40) (tgt := 53) (by decide +kernel)).trans ?_
  exact Iff.rfl
theorem b278_16 {d : Nat} {G : PG} {M T : PH} {K : PV → PS → Prop} {l0 l1 l2 l3 : Int} : pm_Run d 278 16 [.inr (.inr (.inl l0)), .inl l1, .inl l2, .inl l3, PU] [] (G, M, T) K ↔ if pm_sg l1 = pm_sg l2 then pm_Run d 278 53 [.inr (.inr (.inl l0)), .inl l1, .inl l2, .inl l3, PU] [] (G, M, T) K else pm_Run d 278 21 [.inr (.inr (.inl l0)), .inl l1, .inl l2, .inl l3, PU] [] (G, M, T) K := by
  refine (px_go (by decide +kernel : pm_fe 278 16 = some (.iload_n 1, 1)) rfl).trans ?_
  refine (px_go (by decide +kernel : pm_fe 278 17 = some (.iload_n 2, 1)) rfl).trans ?_
  refine (px_ic_eq (off := 35) (tgt := 53) (by decide +kernel)).trans ?_
  exact Iff.rfl
theorem b278_21 {d : Nat} {G : PG} {M T : PH} {K : PV → PS → Prop} {l0 l1 l2 l3 : Int} : pm_Run d 278 21 [.inr (.inr (.inl l0)), .inl l1, .inl l2, .inl l3, PU] [] (G, M, T) K ↔ if pm_sg l3 ≤ 0 then pm_Run d 278 53 [.inr (.inr (.inl l0)), .inl l1, .inl l2, .inl l3, PU] [] (G, M, T) K else pm_Run d 278 25 [.inr (.inr (.inl l0)), .inl l1, .inl l2, .inl l3, PU] [] (G, M, T) K := by
  refine (px_go (by decide +kernel : pm_fe 278 21 = some (.iload_n 3, 1)) rfl).trans ?_
  refine (px_if_le (off := 31) (tgt := 53) (by decide +kernel)).trans ?_
  exact Iff.rfl
theorem b278_25 {d : Nat} {G : PG} {M T : PH} {K : PV → PS → Prop} {l0 l1 l2 l3 : Int} (h1 : pm_ob G l0 12) (h2 : pm_ar G (T l0.toNat 57) 100 l1) : pm_Run d 278 25 [.inr (.inr (.inl l0)), .inl l1, .inl l2, .inl l3, PU] [] (G, M, T) K ↔ if pm_sg (M (T l0.toNat 57).toNat (pm_sg l1).toNat) < pm_sg l3 then pm_Run d 278 53 [.inr (.inr (.inl l0)), .inl l1, .inl l2, .inl l3, PU] [] (G, M, T) K else pm_Run d 278 35 [.inr (.inr (.inl l0)), .inl l1, .inl l2, .inl l3, PU] [] (G, M, T) K := by
  refine (px_go (by decide +kernel : pm_fe 278 25 = some (.aload_n 0, 1)) rfl).trans ?_
  refine (px_get2 (idx := 186) (ci := 12) (k := 57) (by decide +kernel)).trans ((and_iff_right h1).trans ?_)
  refine (px_go (by decide +kernel : pm_fe 278 29 = some (.iload_n 1, 1)) rfl).trans ?_
  refine (px_iaload (by decide +kernel) h2).trans ?_
  refine (px_go (by decide +kernel : pm_fe 278 31 = some (.iload_n 3, 1)) rfl).trans ?_
  refine (px_ic_lt (off := 21) (tgt := 53) (by decide +kernel)).trans ?_
  exact Iff.rfl
theorem b278_35 {d : Nat} {G : PG} {M T : PH} {K : PV → PS → Prop} {l0 l1 l2 l3 : Int} (h1 : pm_ob G l0 12) (h2 : pm_ar G (T l0.toNat 57) 100 l2) : pm_Run d 278 35 [.inr (.inr (.inl l0)), .inl l1, .inl l2, .inl l3, PU] [] (G, M, T) K ↔ if pm_sg (9999 - l3) < pm_sg (M (T l0.toNat 57).toNat (pm_sg l2).toNat) then pm_Run d 278 53 [.inr (.inr (.inl l0)), .inl l1, .inl l2, .inl l3, PU] [] (G, M, T) K else pm_Run d 278 49 [.inr (.inr (.inl l0)), .inl l1, .inl l2, .inl l3, PU] [] (G, M, T) K := by
  refine (px_go (by decide +kernel : pm_fe 278 35 = some (.aload_n 0, 1)) rfl).trans ?_
  refine (px_get2 (idx := 186) (ci := 12) (k := 57) (by decide +kernel)).trans ((and_iff_right h1).trans ?_)
  refine (px_go (by decide +kernel : pm_fe 278 39 = some (.iload_n 2, 1)) rfl).trans ?_
  refine (px_iaload (by decide +kernel) h2).trans ?_
  refine (px_go (by decide +kernel : pm_fe 278 41 = some (.sipush 9999, 3)) rfl).trans ?_
  refine (px_go (by decide +kernel : pm_fe 278 44 = some (.iload_n 3, 1)) rfl).trans ?_
  refine (px_go (by decide +kernel : pm_fe 278 45 = some (.isub, 1)) rfl).trans ?_
  refine (px_ic_gt (off := 7) (tgt := 53) (by decide +kernel)).trans ?_
  exact Iff.rfl
theorem b278_49 {d : Nat} {G : PG} {M T : PH} {K : PV → PS → Prop} {l0 l1 l2 l3 : Int} : pm_Run d 278 49 [.inr (.inr (.inl l0)), .inl l1, .inl l2, .inl l3, PU] [] (G, M, T) K ↔ pm_Run d 278 54 [.inr (.inr (.inl l0)), .inl l1, .inl l2, .inl l3, PU] [.inl 1] (G, M, T) K := by
  refine (px_go (by decide +kernel : pm_fe 278 49 = some (.iconst 1, 1)) rfl).trans ?_
  refine (px_goto (off := 4) (tgt := 54) (by decide +kernel)).trans ?_
  exact Iff.rfl
theorem b278_53 {d : Nat} {G : PG} {M T : PH} {K : PV → PS → Prop} {l0 l1 l2 l3 : Int} : pm_Run d 278 53 [.inr (.inr (.inl l0)), .inl l1, .inl l2, .inl l3, PU] [] (G, M, T) K ↔ pm_Run d 278 54 [.inr (.inr (.inl l0)), .inl l1, .inl l2, .inl l3, PU] [.inl 0] (G, M, T) K := by
  refine (px_go (by decide +kernel : pm_fe 278 53 = some (.iconst 0, 1)) rfl).trans ?_
  exact Iff.rfl
theorem b278_54 {d : Nat} {G : PG} {M T : PH} {K : PV → PS → Prop} {l0 l1 l2 l3 s0 : Int} : pm_Run d 278 54 [.inr (.inr (.inl l0)), .inl l1, .inl l2, .inl l3, PU] [.inl s0] (G, M, T) K ↔ if pm_sg s0 ≠ 0 then pm_Run d 278 75 [.inr (.inr (.inl l0)), .inl l1, .inl l2, .inl l3, .inl s0] [] (G, M, T) K else pm_Run d 278 61 [.inr (.inr (.inl l0)), .inl l1, .inl l2, .inl l3, .inl s0] [] (G, M, T) K := by
  refine (px_go (by decide +kernel : pm_fe 278 54 = some (.istore 4, 2)) rfl).trans ?_
  refine (px_go (by decide +kernel : pm_fe 278 56 = some (.iload 4, 2)) rfl).trans ?_
  refine (px_if_ne (off := 17) (tgt := 75) (by decide +kernel)).trans ?_
  exact Iff.rfl
theorem b278_61 {d : Nat} {G : PG} {M T : PH} {K : PV → PS → Prop} {l0 l1 l2 l3 l4 : Int} (h1 : pm_ob G l0 12) : pm_Run d 278 61 [.inr (.inr (.inl l0)), .inl l1, .inl l2, .inl l3, .inl l4] [] (G, M, T) K ↔ pm_Call d 224 [.inr (.inr (.inl l0)), .inl 2] (G, M, T) (fun r S1 => pm_Run d 278 66 [.inr (.inr (.inl l0)), .inl l1, .inl l2, .inl l3, .inl l4] (pm_push r []) S1 K) := by
  refine (px_go (by decide +kernel : pm_fe 278 61 = some (.aload_n 0, 1)) rfl).trans ?_
  refine (px_go (by decide +kernel : pm_fe 278 62 = some (.iconst 2, 1)) rfl).trans ?_
  refine (px_v1 (idx := 243) (m' := 224) (ci := 12) (by decide +kernel)).trans ((and_iff_right ⟨h1, (by simp [pm_wl_n, pm_wl_c, pm_w] : pm_wl [] ≤ 8)⟩).trans ?_)
  exact Iff.rfl
theorem b278_66 {d : Nat} {G : PG} {M T : PH} {K : PV → PS → Prop} {l0 l1 l2 l3 l4 s0 : Int} : pm_Run d 278 66 [.inr (.inr (.inl l0)), .inl l1, .inl l2, .inl l3, .inl l4] [.inl s0] (G, M, T) K ↔ if pm_sg s0 < 0 then pm_Run d 278 73 [.inr (.inr (.inl l0)), .inl l1, .inl l2, .inl l3, .inl l4] [] (G, M, T) K else pm_Run d 278 69 [.inr (.inr (.inl l0)), .inl l1, .inl l2, .inl l3, .inl l4] [] (G, M, T) K := by
  refine (px_if_lt (off := 7) (tgt := 73) (by decide +kernel)).trans ?_
  exact Iff.rfl
theorem b278_69 {d : Nat} {G : PG} {M T : PH} {K : PV → PS → Prop} {l0 l1 l2 l3 l4 : Int} : pm_Run d 278 69 [.inr (.inr (.inl l0)), .inl l1, .inl l2, .inl l3, .inl l4] [] (G, M, T) K ↔ pm_Run d 278 74 [.inr (.inr (.inl l0)), .inl l1, .inl l2, .inl l3, .inl l4] [.inl 1] (G, M, T) K := by
  refine (px_go (by decide +kernel : pm_fe 278 69 = some (.iconst 1, 1)) rfl).trans ?_
  refine (px_goto (off := 4) (tgt := 74) (by decide +kernel)).trans ?_
  exact Iff.rfl
theorem b278_73 {d : Nat} {G : PG} {M T : PH} {K : PV → PS → Prop} {l0 l1 l2 l3 l4 : Int} : pm_Run d 278 73 [.inr (.inr (.inl l0)), .inl l1, .inl l2, .inl l3, .inl l4] [] (G, M, T) K ↔ pm_Run d 278 74 [.inr (.inr (.inl l0)), .inl l1, .inl l2, .inl l3, .inl l4] [.inl 0] (G, M, T) K := by
  refine (px_go (by decide +kernel : pm_fe 278 73 = some (.iconst 0, 1)) rfl).trans ?_
  exact Iff.rfl
theorem b278_74 {d : Nat} {G : PG} {M T : PH} {K : PV → PS → Prop} {l0 l1 l2 l3 l4 s0 : Int} (h1 : s0 = 0 ∨ s0 = 1) : pm_Run d 278 74 [.inr (.inr (.inl l0)), .inl l1, .inl l2, .inl l3, .inl l4] [.inl s0] (G, M, T) K ↔ K (.inl s0) (G, M, T) := by
  refine (px_rz (by decide +kernel)).trans ((and_iff_right h1).trans ?_)
  exact Iff.rfl
theorem b278_75 {d : Nat} {G : PG} {M T : PH} {K : PV → PS → Prop} {l0 l1 l2 l3 l4 : Int} (h1 : pm_ob G l0 12) : pm_Run d 278 75 [.inr (.inr (.inl l0)), .inl l1, .inl l2, .inl l3, .inl l4] [] (G, M, T) K ↔ pm_Call d 235 [.inr (.inr (.inl l0))] (G, M, T) (fun r S1 => pm_Run d 278 79 [.inr (.inr (.inl l0)), .inl l1, .inl l2, .inl l3, .inl l4] (pm_push r []) S1 K) := by
  refine (px_go (by decide +kernel : pm_fe 278 75 = some (.aload_n 0, 1)) rfl).trans ?_
  refine (px_v0 (idx := 572) (m' := 235) (ci := 12) (by decide +kernel)).trans ((and_iff_right ⟨h1, (by simp [pm_wl_n, pm_wl_c, pm_w] : pm_wl [] ≤ 8)⟩).trans ?_)
  exact Iff.rfl
theorem b278_79 {d : Nat} {G : PG} {M T : PH} {K : PV → PS → Prop} {l0 l1 l2 l3 l4 : Int} (h1 : pm_ob G l0 12) (h2 : pm_ar G (T l0.toNat 57) 100 l1) (h3 : pm_ar G (T l0.toNat 57) 100 l2) : pm_Run d 278 79 [.inr (.inr (.inl l0)), .inl l1, .inl l2, .inl l3, .inl l4] [] (G, M, T) K ↔ pm_Run d 278 99 [.inr (.inr (.inl l0)), .inl l1, .inl l2, .inl l3, .inl l4] [] (G, pm_sa (pm_sa M (T l0.toNat 57).toNat (pm_up (M (T l0.toNat 57).toNat) (pm_sg l1).toNat ((M (T l0.toNat 57).toNat (pm_sg l1).toNat) - l3))) (T l0.toNat 57).toNat (pm_up ((pm_sa M (T l0.toNat 57).toNat (pm_up (M (T l0.toNat 57).toNat) (pm_sg l1).toNat ((M (T l0.toNat 57).toNat (pm_sg l1).toNat) - l3))) (T l0.toNat 57).toNat) (pm_sg l2).toNat (((pm_sa M (T l0.toNat 57).toNat (pm_up (M (T l0.toNat 57).toNat) (pm_sg l1).toNat ((M (T l0.toNat 57).toNat (pm_sg l1).toNat) - l3))) (T l0.toNat 57).toNat (pm_sg l2).toNat) + l3)), T) K := by
  refine (px_go (by decide +kernel : pm_fe 278 79 = some (.aload_n 0, 1)) rfl).trans ?_
  refine (px_get2 (idx := 186) (ci := 12) (k := 57) (by decide +kernel)).trans ((and_iff_right h1).trans ?_)
  refine (px_go (by decide +kernel : pm_fe 278 83 = some (.iload_n 1, 1)) rfl).trans ?_
  refine (px_go (by decide +kernel : pm_fe 278 84 = some (.dup2, 1)) rfl).trans ?_
  refine (px_iaload (by decide +kernel) h2).trans ?_
  refine (px_go (by decide +kernel : pm_fe 278 86 = some (.iload_n 3, 1)) rfl).trans ?_
  refine (px_go (by decide +kernel : pm_fe 278 87 = some (.isub, 1)) rfl).trans ?_
  refine (px_iastore (by decide +kernel)).trans ((and_iff_right h2).trans ?_)
  refine (px_go (by decide +kernel : pm_fe 278 89 = some (.aload_n 0, 1)) rfl).trans ?_
  refine (px_get2 (idx := 186) (ci := 12) (k := 57) (by decide +kernel)).trans ((and_iff_right h1).trans ?_)
  refine (px_go (by decide +kernel : pm_fe 278 93 = some (.iload_n 2, 1)) rfl).trans ?_
  refine (px_go (by decide +kernel : pm_fe 278 94 = some (.dup2, 1)) rfl).trans ?_
  refine (px_iaload (by decide +kernel) h3).trans ?_
  refine (px_go (by decide +kernel : pm_fe 278 96 = some (.iload_n 3, 1)) rfl).trans ?_
  refine (px_go (by decide +kernel : pm_fe 278 97 = some (.iadd, 1)) rfl).trans ?_
  refine (px_iastore (by decide +kernel)).trans ((and_iff_right h3).trans ?_)
  exact Iff.rfl
theorem b278_99 {d : Nat} {G : PG} {M T : PH} {K : PV → PS → Prop} {l0 l1 l2 l3 l4 : Int} : pm_Run d 278 99 [.inr (.inr (.inl l0)), .inl l1, .inl l2, .inl l3, .inl l4] [] (G, M, T) K ↔ K (.inl 1) (G, M, T) := by
  refine (px_go (by decide +kernel : pm_fe 278 99 = some (.iconst 1, 1)) rfl).trans ?_
  refine (px_rz (by decide +kernel)).trans ((and_iff_right (by decide : (1 : Int) = (0 : Int) ∨ (1 : Int) = (1 : Int))).trans ?_)
  exact Iff.rfl
-- X12_soothe soothe(II)I
theorem en279 {d : Nat} {a p0 p1 : Int} {S : PS} {K : PV → PS → Prop} : pm_Call (d + 1) 279 [.inr (.inr (.inl a)), .inl p0, .inl p1] S K ↔ pm_Run d 279 0 [.inr (.inr (.inl a)), .inl p0, .inl p1, PU] [] S K := pm_Call_s.trans (and_iff_right (show 3 ≤ pm_ml 279 from by decide +kernel))
theorem b279_0 {d : Nat} {G : PG} {M T : PH} {K : PV → PS → Prop} {l0 l1 l2 : Int} (h1 : pm_ob G l0 12) : pm_Run d 279 0 [.inr (.inr (.inl l0)), .inl l1, .inl l2, PU] [] (G, M, T) K ↔ pm_Call d 228 [.inr (.inr (.inl l0)), .inl l1] (G, M, T) (fun r S1 => pm_Run d 279 5 [.inr (.inr (.inl l0)), .inl l1, .inl l2, PU] (pm_push r []) S1 K) := by
  refine (px_go (by decide +kernel : pm_fe 279 0 = some (.aload_n 0, 1)) rfl).trans ?_
  refine (px_go (by decide +kernel : pm_fe 279 1 = some (.iload_n 1, 1)) rfl).trans ?_
  refine (px_v1 (idx := 535) (m' := 228) (ci := 12) (by decide +kernel)).trans ((and_iff_right ⟨h1, (by simp [pm_wl_n, pm_wl_c, pm_w] : pm_wl [] ≤ 8)⟩).trans ?_)
  exact Iff.rfl
theorem b279_5 {d : Nat} {G : PG} {M T : PH} {K : PV → PS → Prop} {l0 l1 l2 s0 : Int} : pm_Run d 279 5 [.inr (.inr (.inl l0)), .inl l1, .inl l2, PU] [.inl s0] (G, M, T) K ↔ if pm_sg s0 = 0 then pm_Run d 279 18 [.inr (.inr (.inl l0)), .inl l1, .inl l2, PU] [] (G, M, T) K else pm_Run d 279 8 [.inr (.inr (.inl l0)), .inl l1, .inl l2, PU] [] (G, M, T) K := by
  refine (px_if_eq (off := 13) (tgt := 18) (by decide +kernel)).trans ?_
  exact Iff.rfl
theorem b279_8 {d : Nat} {G : PG} {M T : PH} {K : PV → PS → Prop} {l0 l1 l2 : Int} : pm_Run d 279 8 [.inr (.inr (.inl l0)), .inl l1, .inl l2, PU] [] (G, M, T) K ↔ pm_Call d 179 [.inl l2, .inl 0, .inl 9] (G, M, T) (fun r S1 => pm_Run d 279 15 [.inr (.inr (.inl l0)), .inl l1, .inl l2, PU] (pm_push r []) S1 K) := by
  refine (px_go (by decide +kernel : pm_fe 279 8 = some (.iload_n 2, 1)) rfl).trans ?_
  refine (px_go (by decide +kernel : pm_fe 279 9 = some (.iconst 0, 1)) rfl).trans ?_
  refine (px_go (by decide +kernel : pm_fe 279 10 = some (.bipush 9, 2)) rfl).trans ?_
  refine (px_s3 (idx := 337) (m' := 179) (nest := 0) (by decide +kernel)).trans ((and_iff_right (by simp [pm_wl_n, pm_wl_c, pm_w] : pm_wl [] ≤ 8)).trans ?_)
  exact Iff.rfl
theorem b279_15 {d : Nat} {G : PG} {M T : PH} {K : PV → PS → Prop} {l0 l1 l2 s0 : Int} : pm_Run d 279 15 [.inr (.inr (.inl l0)), .inl l1, .inl l2, PU] [.inl s0] (G, M, T) K ↔ if pm_sg s0 ≠ 0 then pm_Run d 279 24 [.inr (.inr (.inl l0)), .inl l1, .inl l2, PU] [] (G, M, T) K else pm_Run d 279 18 [.inr (.inr (.inl l0)), .inl l1, .inl l2, PU] [] (G, M, T) K := by
  refine (px_if_ne (off := 9) (tgt := 24) (by decide +kernel)).trans ?_
  exact Iff.rfl
theorem b279_18 {d : Nat} {G : PG} {M T : PH} {K : PV → PS → Prop} {l0 l1 l2 : Int} (h1 : pm_ob G l0 12) : pm_Run d 279 18 [.inr (.inr (.inl l0)), .inl l1, .inl l2, PU] [] (G, M, T) K ↔ pm_Call d 224 [.inr (.inr (.inl l0)), .inl 2] (G, M, T) (fun r S1 => pm_Run d 279 23 [.inr (.inr (.inl l0)), .inl l1, .inl l2, PU] (pm_push r []) S1 K) := by
  refine (px_go (by decide +kernel : pm_fe 279 18 = some (.aload_n 0, 1)) rfl).trans ?_
  refine (px_go (by decide +kernel : pm_fe 279 19 = some (.iconst 2, 1)) rfl).trans ?_
  refine (px_v1 (idx := 243) (m' := 224) (ci := 12) (by decide +kernel)).trans ((and_iff_right ⟨h1, (by simp [pm_wl_n, pm_wl_c, pm_w] : pm_wl [] ≤ 8)⟩).trans ?_)
  exact Iff.rfl
theorem b279_23 {d : Nat} {G : PG} {M T : PH} {K : PV → PS → Prop} {l0 l1 l2 s0 : Int} : pm_Run d 279 23 [.inr (.inr (.inl l0)), .inl l1, .inl l2, PU] [.inl s0] (G, M, T) K ↔ K (.inl s0) (G, M, T) := by
  refine (px_ri (by decide +kernel)).trans ?_
  exact Iff.rfl
theorem b279_24 {d : Nat} {G : PG} {M T : PH} {K : PV → PS → Prop} {l0 l1 l2 : Int} (h1 : pm_ob G l0 12) : pm_Run d 279 24 [.inr (.inr (.inl l0)), .inl l1, .inl l2, PU] [] (G, M, T) K ↔ pm_Call d 235 [.inr (.inr (.inl l0))] (G, M, T) (fun r S1 => pm_Run d 279 28 [.inr (.inr (.inl l0)), .inl l1, .inl l2, PU] (pm_push r []) S1 K) := by
  refine (px_go (by decide +kernel : pm_fe 279 24 = some (.aload_n 0, 1)) rfl).trans ?_
  refine (px_v0 (idx := 572) (m' := 235) (ci := 12) (by decide +kernel)).trans ((and_iff_right ⟨h1, (by simp [pm_wl_n, pm_wl_c, pm_w] : pm_wl [] ≤ 8)⟩).trans ?_)
  exact Iff.rfl
theorem b279_28 {d : Nat} {G : PG} {M T : PH} {K : PV → PS → Prop} {l0 l1 l2 : Int} (h1 : pm_ob G l0 12) (h2 : pm_ar G (T l0.toNat 56) 100 l1) : pm_Run d 279 28 [.inr (.inr (.inl l0)), .inl l1, .inl l2, PU] [] (G, M, T) K ↔ K (.inl (M (T l0.toNat 56).toNat (pm_sg l1).toNat)) (G, pm_sa M (T l0.toNat 56).toNat (pm_up (M (T l0.toNat 56).toNat) (pm_sg l1).toNat l2), T) := by
  refine (px_go (by decide +kernel : pm_fe 279 28 = some (.aload_n 0, 1)) rfl).trans ?_
  refine (px_get2 (idx := 183) (ci := 12) (k := 56) (by decide +kernel)).trans ((and_iff_right h1).trans ?_)
  refine (px_go (by decide +kernel : pm_fe 279 32 = some (.iload_n 1, 1)) rfl).trans ?_
  refine (px_iaload (by decide +kernel) h2).trans ?_
  refine (px_go (by decide +kernel : pm_fe 279 34 = some (.istore_n 3, 1)) rfl).trans ?_
  refine (px_go (by decide +kernel : pm_fe 279 35 = some (.aload_n 0, 1)) rfl).trans ?_
  refine (px_get2 (idx := 183) (ci := 12) (k := 56) (by decide +kernel)).trans ((and_iff_right h1).trans ?_)
  refine (px_go (by decide +kernel : pm_fe 279 39 = some (.iload_n 1, 1)) rfl).trans ?_
  refine (px_go (by decide +kernel : pm_fe 279 40 = some (.iload_n 2, 1)) rfl).trans ?_
  refine (px_iastore (by decide +kernel)).trans ((and_iff_right h2).trans ?_)
  refine (px_go (by decide +kernel : pm_fe 279 42 = some (.iload_n 3, 1)) rfl).trans ?_
  refine (px_ri (by decide +kernel)).trans ?_
  exact Iff.rfl
-- X12_hours hours(I)I
theorem en280 {d : Nat} {a p0 : Int} {S : PS} {K : PV → PS → Prop} : pm_Call (d + 1) 280 [.inr (.inr (.inl a)), .inl p0] S K ↔ pm_Run d 280 0 [.inr (.inr (.inl a)), .inl p0, PU] [] S K := pm_Call_s.trans (and_iff_right (show 2 ≤ pm_ml 280 from by decide +kernel))
theorem b280_0 {d : Nat} {G : PG} {M T : PH} {K : PV → PS → Prop} {l0 l1 : Int} (h1 : pm_ob G l0 12) : pm_Run d 280 0 [.inr (.inr (.inl l0)), .inl l1, PU] [] (G, M, T) K ↔ pm_Call d 226 [.inr (.inr (.inl l0))] (G, M, T) (fun r S1 => pm_Run d 280 4 [.inr (.inr (.inl l0)), .inl l1, PU] (pm_push r []) S1 K) := by
  refine (px_go (by decide +kernel : pm_fe 280 0 = some (.aload_n 0, 1)) rfl).trans ?_
  refine (px_v0 (idx := 523) (m' := 226) (ci := 12) (by decide +kernel)).trans ((and_iff_right ⟨h1, (by simp [pm_wl_n, pm_wl_c, pm_w] : pm_wl [] ≤ 8)⟩).trans ?_)
  exact Iff.rfl
theorem b280_4 {d : Nat} {G : PG} {M T : PH} {K : PV → PS → Prop} {l0 l1 s0 : Int} : pm_Run d 280 4 [.inr (.inr (.inl l0)), .inl l1, PU] [.inl s0] (G, M, T) K ↔ if pm_sg s0 = 0 then pm_Run d 280 32 [.inr (.inr (.inl l0)), .inl l1, PU] [] (G, M, T) K else pm_Run d 280 7 [.inr (.inr (.inl l0)), .inl l1, PU] [] (G, M, T) K := by
  refine (px_if_eq (off := 28) (tgt := 32) (by decide +kernel)).trans ?_
  exact Iff.rfl
theorem b280_7 {d : Nat} {G : PG} {M T : PH} {K : PV → PS → Prop} {l0 l1 : Int} : pm_Run d 280 7 [.inr (.inr (.inl l0)), .inl l1, PU] [] (G, M, T) K ↔ pm_Call d 179 [.inl l1, .inl 1, .inl 200] (G, M, T) (fun r S1 => pm_Run d 280 15 [.inr (.inr (.inl l0)), .inl l1, PU] (pm_push r []) S1 K) := by
  refine (px_go (by decide +kernel : pm_fe 280 7 = some (.iload_n 1, 1)) rfl).trans ?_
  refine (px_go (by decide +kernel : pm_fe 280 8 = some (.iconst 1, 1)) rfl).trans ?_
  refine (px_go (by decide +kernel : pm_fe 280 9 = some (.sipush 200, 3)) rfl).trans ?_
  refine (px_s3 (idx := 337) (m' := 179) (nest := 0) (by decide +kernel)).trans ((and_iff_right (by simp [pm_wl_n, pm_wl_c, pm_w] : pm_wl [] ≤ 8)).trans ?_)
  exact Iff.rfl
theorem b280_15 {d : Nat} {G : PG} {M T : PH} {K : PV → PS → Prop} {l0 l1 s0 : Int} : pm_Run d 280 15 [.inr (.inr (.inl l0)), .inl l1, PU] [.inl s0] (G, M, T) K ↔ if pm_sg s0 = 0 then pm_Run d 280 32 [.inr (.inr (.inl l0)), .inl l1, PU] [] (G, M, T) K else pm_Run d 280 18 [.inr (.inr (.inl l0)), .inl l1, PU] [] (G, M, T) K := by
  refine (px_if_eq (off := 17) (tgt := 32) (by decide +kernel)).trans ?_
  exact Iff.rfl
theorem b280_18 {d : Nat} {G : PG} {M T : PH} {K : PV → PS → Prop} {l0 l1 : Int} (h1 : pm_ob G l0 12) (h2 : pm_ar G (T l0.toNat 54) 100 0) : pm_Run d 280 18 [.inr (.inr (.inl l0)), .inl l1, PU] [] (G, M, T) K ↔ if pm_sg ((M (T l0.toNat 54).toNat (pm_sg 0).toNat) + l1) ≤ pm_sg 9999 then pm_Run d 280 38 [.inr (.inr (.inl l0)), .inl l1, PU] [] (G, M, T) K else pm_Run d 280 32 [.inr (.inr (.inl l0)), .inl l1, PU] [] (G, M, T) K := by
  refine (px_go (by decide +kernel : pm_fe 280 18 = some (.aload_n 0, 1)) rfl).trans ?_
  refine (px_get2 (idx := 177) (ci := 12) (k := 54) (by decide +kernel)).trans ((and_iff_right h1).trans ?_)
  refine (px_go (by decide +kernel : pm_fe 280 22 = some (.iconst 0, 1)) rfl).trans ?_
  refine (px_iaload (by decide +kernel) h2).trans ?_
  refine (px_go (by decide +kernel : pm_fe 280 24 = some (.iload_n 1, 1)) rfl).trans ?_
  refine (px_go (by decide +kernel : pm_fe 280 25 = some (.iadd, 1)) rfl).trans ?_
  refine (px_go (by decide +kernel : pm_fe 280 26 = some (.sipush 9999, 3)) rfl).trans ?_
  refine (px_ic_le (off := 9) (tgt := 38) (by decide +kernel)).trans ?_
  exact Iff.rfl
theorem b280_32 {d : Nat} {G : PG} {M T : PH} {K : PV → PS → Prop} {l0 l1 : Int} (h1 : pm_ob G l0 12) : pm_Run d 280 32 [.inr (.inr (.inl l0)), .inl l1, PU] [] (G, M, T) K ↔ pm_Call d 224 [.inr (.inr (.inl l0)), .inl 3] (G, M, T) (fun r S1 => pm_Run d 280 37 [.inr (.inr (.inl l0)), .inl l1, PU] (pm_push r []) S1 K) := by
  refine (px_go (by decide +kernel : pm_fe 280 32 = some (.aload_n 0, 1)) rfl).trans ?_
  refine (px_go (by decide +kernel : pm_fe 280 33 = some (.iconst 3, 1)) rfl).trans ?_
  refine (px_v1 (idx := 243) (m' := 224) (ci := 12) (by decide +kernel)).trans ((and_iff_right ⟨h1, (by simp [pm_wl_n, pm_wl_c, pm_w] : pm_wl [] ≤ 8)⟩).trans ?_)
  exact Iff.rfl
theorem b280_37 {d : Nat} {G : PG} {M T : PH} {K : PV → PS → Prop} {l0 l1 s0 : Int} : pm_Run d 280 37 [.inr (.inr (.inl l0)), .inl l1, PU] [.inl s0] (G, M, T) K ↔ K (.inl s0) (G, M, T) := by
  refine (px_ri (by decide +kernel)).trans ?_
  exact Iff.rfl
theorem b280_38 {d : Nat} {G : PG} {M T : PH} {K : PV → PS → Prop} {l0 l1 : Int} (h1 : pm_ob G l0 12) : pm_Run d 280 38 [.inr (.inr (.inl l0)), .inl l1, PU] [] (G, M, T) K ↔ pm_Call d 235 [.inr (.inr (.inl l0))] (G, M, T) (fun r S1 => pm_Run d 280 42 [.inr (.inr (.inl l0)), .inl l1, PU] (pm_push r []) S1 K) := by
  refine (px_go (by decide +kernel : pm_fe 280 38 = some (.aload_n 0, 1)) rfl).trans ?_
  refine (px_v0 (idx := 572) (m' := 235) (ci := 12) (by decide +kernel)).trans ((and_iff_right ⟨h1, (by simp [pm_wl_n, pm_wl_c, pm_w] : pm_wl [] ≤ 8)⟩).trans ?_)
  exact Iff.rfl
theorem b280_42 {d : Nat} {G : PG} {M T : PH} {K : PV → PS → Prop} {l0 l1 : Int} : pm_Run d 280 42 [.inr (.inr (.inl l0)), .inl l1, PU] [] (G, M, T) K ↔ pm_Run d 280 44 [.inr (.inr (.inl l0)), .inl l1, .inl 0] [] (G, M, T) K := by
  refine (px_go (by decide +kernel : pm_fe 280 42 = some (.iconst 0, 1)) rfl).trans ?_
  refine (px_go (by decide +kernel : pm_fe 280 43 = some (.istore_n 2, 1)) rfl).trans ?_
  exact Iff.rfl
theorem b280_44 {d : Nat} {G : PG} {M T : PH} {K : PV → PS → Prop} {l0 l1 l2 : Int} : pm_Run d 280 44 [.inr (.inr (.inl l0)), .inl l1, .inl l2] [] (G, M, T) K ↔ if pm_sg l1 ≤ pm_sg l2 then pm_Run d 280 60 [.inr (.inr (.inl l0)), .inl l1, .inl l2] [] (G, M, T) K else pm_Run d 280 49 [.inr (.inr (.inl l0)), .inl l1, .inl l2] [] (G, M, T) K := by
  refine (px_go (by decide +kernel : pm_fe 280 44 = some (.iload_n 2, 1)) rfl).trans ?_
  refine (px_go (by decide +kernel : pm_fe 280 45 = some (.iload_n 1, 1)) rfl).trans ?_
  refine (px_ic_ge (off := 14) (tgt := 60) (by decide +kernel)).trans ?_
  exact Iff.rfl
theorem b280_49 {d : Nat} {G : PG} {M T : PH} {K : PV → PS → Prop} {l0 l1 l2 : Int} (h1 : pm_ob G l0 12) : pm_Run d 280 49 [.inr (.inr (.inl l0)), .inl l1, .inl l2] [] (G, M, T) K ↔ pm_Call d 257 [.inr (.inr (.inl l0)), .inl 0] (G, M, T) (fun r S1 => pm_Run d 280 54 [.inr (.inr (.inl l0)), .inl l1, .inl l2] (pm_push r []) S1 K) := by
  refine (px_go (by decide +kernel : pm_fe 280 49 = some (.aload_n 0, 1)) rfl).trans ?_
  refine (px_go (by decide +kernel : pm_fe 280 50 = some (.iconst 0, 1)) rfl).trans ?_
  refine (px_v1 (idx := 530) (m' := 257) (ci := 12) (by decide +kernel)).trans ((and_iff_right ⟨h1, (by simp [pm_wl_n, pm_wl_c, pm_w] : pm_wl [] ≤ 8)⟩).trans ?_)
  exact Iff.rfl
theorem b280_54 {d : Nat} {G : PG} {M T : PH} {K : PV → PS → Prop} {l0 l1 l2 : Int} : pm_Run d 280 54 [.inr (.inr (.inl l0)), .inl l1, .inl l2] [] (G, M, T) K ↔ pm_Run d 280 44 [.inr (.inr (.inl l0)), .inl l1, .inl (l2 + 1)] [] (G, M, T) K := by
  refine (px_go (by decide +kernel : pm_fe 280 54 = some (.iinc 2 1, 3)) rfl).trans ?_
  refine (px_goto (off := (-13)) (tgt := 44) (by decide +kernel)).trans ?_
  exact Iff.rfl
theorem b280_60 {d : Nat} {G : PG} {M T : PH} {K : PV → PS → Prop} {l0 l1 l2 : Int} (h1 : pm_ob G l0 12) (h2 : pm_ar G (T l0.toNat 54) 100 0) : pm_Run d 280 60 [.inr (.inr (.inl l0)), .inl l1, .inl l2] [] (G, M, T) K ↔ K (.inl (M (T l0.toNat 54).toNat (pm_sg 0).toNat)) (G, M, T) := by
  refine (px_go (by decide +kernel : pm_fe 280 60 = some (.aload_n 0, 1)) rfl).trans ?_
  refine (px_get2 (idx := 177) (ci := 12) (k := 54) (by decide +kernel)).trans ((and_iff_right h1).trans ?_)
  refine (px_go (by decide +kernel : pm_fe 280 64 = some (.iconst 0, 1)) rfl).trans ?_
  refine (px_iaload (by decide +kernel) h2).trans ?_
  refine (px_ri (by decide +kernel)).trans ?_
  exact Iff.rfl
-- X12_draw draw(I)I
theorem en281 {d : Nat} {a p0 : Int} {S : PS} {K : PV → PS → Prop} : pm_Call (d + 1) 281 [.inr (.inr (.inl a)), .inl p0] S K ↔ pm_Run d 281 0 [.inr (.inr (.inl a)), .inl p0] [] S K := pm_Call_s.trans (and_iff_right (show 2 ≤ pm_ml 281 from by decide +kernel))
theorem b281_0 {d : Nat} {G : PG} {M T : PH} {K : PV → PS → Prop} {l0 l1 : Int} (h1 : pm_ob G l0 12) (h2 : pm_sl (pm_sg l1) ≠ 0) : pm_Run d 281 0 [.inr (.inr (.inl l0)), .inl l1] [] (G, M, T) K ↔ K (.inl (pm_lrem (pm_ldiv ((pm_sa M l0.toNat (pm_up (M l0.toNat) 62 (pm_lrem ((1103515245 * (M l0.toNat 62)) + 12345) 2147483648))) l0.toNat 62) 64) (pm_sg l1))) (G, pm_sa M l0.toNat (pm_up (M l0.toNat) 62 (pm_lrem ((1103515245 * (M l0.toNat 62)) + 12345) 2147483648)), T) := by
  refine (px_go (by decide +kernel : pm_fe 281 0 = some (.aload_n 0, 1)) rfl).trans ?_
  refine (px_ldcL (idx := 575) (x := 1103515245) (by decide +kernel)).trans ?_
  refine (px_go (by decide +kernel : pm_fe 281 4 = some (.aload_n 0, 1)) rfl).trans ?_
  refine (px_get1 (idx := 201) (ci := 12) (k := 62) (by decide +kernel)).trans ((and_iff_right h1).trans ?_)
  refine (px_go (by decide +kernel : pm_fe 281 8 = some (.lmul, 1)) rfl).trans ?_
  refine (px_ldcL (idx := 577) (x := 12345) (by decide +kernel)).trans ?_
  refine (px_go (by decide +kernel : pm_fe 281 12 = some (.ladd, 1)) rfl).trans ?_
  refine (px_ldcL (idx := 579) (x := 2147483648) (by decide +kernel)).trans ?_
  refine (px_lrem (by decide +kernel)).trans ((and_iff_right (by decide : pm_sl (2147483648 : Int) ≠ (0 : Int))).trans ?_)
  refine (px_put1 (idx := 201) (ci := 12) (k := 62) (by decide +kernel)).trans ((and_iff_right h1).trans ?_)
  refine (px_go (by decide +kernel : pm_fe 281 20 = some (.aload_n 0, 1)) rfl).trans ?_
  refine (px_get1 (idx := 201) (ci := 12) (k := 62) (by decide +kernel)).trans ((and_iff_right h1).trans ?_)
  refine (px_ldcL (idx := 581) (x := 64) (by decide +kernel)).trans ?_
  refine (px_ldiv (by decide +kernel)).trans ((and_iff_right (by decide : pm_sl (64 : Int) ≠ (0 : Int))).trans ?_)
  refine (px_go (by decide +kernel : pm_fe 281 28 = some (.iload_n 1, 1)) rfl).trans ?_
  refine (px_go (by decide +kernel : pm_fe 281 29 = some (.i2l, 1)) rfl).trans ?_
  refine (px_lrem (by decide +kernel)).trans ((and_iff_right h2).trans ?_)
  refine (px_go (by decide +kernel : pm_fe 281 31 = some (.l2i, 1)) rfl).trans ?_
  refine (px_ri (by decide +kernel)).trans ?_
  exact Iff.rfl
-- X12_storms storms(I)I
theorem en282 {d : Nat} {a p0 : Int} {S : PS} {K : PV → PS → Prop} : pm_Call (d + 1) 282 [.inr (.inr (.inl a)), .inl p0] S K ↔ pm_Run d 282 0 [.inr (.inr (.inl a)), .inl p0, PU, PU] [] S K := pm_Call_s.trans (and_iff_right (show 2 ≤ pm_ml 282 from by decide +kernel))
theorem b282_0 {d : Nat} {G : PG} {M T : PH} {K : PV → PS → Prop} {l0 l1 : Int} (h1 : pm_ob G l0 12) : pm_Run d 282 0 [.inr (.inr (.inl l0)), .inl l1, PU, PU] [] (G, M, T) K ↔ pm_Call d 226 [.inr (.inr (.inl l0))] (G, M, T) (fun r S1 => pm_Run d 282 4 [.inr (.inr (.inl l0)), .inl l1, PU, PU] (pm_push r []) S1 K) := by
  refine (px_go (by decide +kernel : pm_fe 282 0 = some (.aload_n 0, 1)) rfl).trans ?_
  refine (px_v0 (idx := 523) (m' := 226) (ci := 12) (by decide +kernel)).trans ((and_iff_right ⟨h1, (by simp [pm_wl_n, pm_wl_c, pm_w] : pm_wl [] ≤ 8)⟩).trans ?_)
  exact Iff.rfl
theorem b282_4 {d : Nat} {G : PG} {M T : PH} {K : PV → PS → Prop} {l0 l1 s0 : Int} : pm_Run d 282 4 [.inr (.inr (.inl l0)), .inl l1, PU, PU] [.inl s0] (G, M, T) K ↔ if pm_sg s0 = 0 then pm_Run d 282 31 [.inr (.inr (.inl l0)), .inl l1, PU, PU] [] (G, M, T) K else pm_Run d 282 7 [.inr (.inr (.inl l0)), .inl l1, PU, PU] [] (G, M, T) K := by
  refine (px_if_eq (off := 27) (tgt := 31) (by decide +kernel)).trans ?_
  exact Iff.rfl
theorem b282_7 {d : Nat} {G : PG} {M T : PH} {K : PV → PS → Prop} {l0 l1 : Int} : pm_Run d 282 7 [.inr (.inr (.inl l0)), .inl l1, PU, PU] [] (G, M, T) K ↔ pm_Call d 179 [.inl l1, .inl 1, .inl 100] (G, M, T) (fun r S1 => pm_Run d 282 14 [.inr (.inr (.inl l0)), .inl l1, PU, PU] (pm_push r []) S1 K) := by
  refine (px_go (by decide +kernel : pm_fe 282 7 = some (.iload_n 1, 1)) rfl).trans ?_
  refine (px_go (by decide +kernel : pm_fe 282 8 = some (.iconst 1, 1)) rfl).trans ?_
  refine (px_go (by decide +kernel : pm_fe 282 9 = some (.bipush 100, 2)) rfl).trans ?_
  refine (px_s3 (idx := 337) (m' := 179) (nest := 0) (by decide +kernel)).trans ((and_iff_right (by simp [pm_wl_n, pm_wl_c, pm_w] : pm_wl [] ≤ 8)).trans ?_)
  exact Iff.rfl
theorem b282_14 {d : Nat} {G : PG} {M T : PH} {K : PV → PS → Prop} {l0 l1 s0 : Int} : pm_Run d 282 14 [.inr (.inr (.inl l0)), .inl l1, PU, PU] [.inl s0] (G, M, T) K ↔ if pm_sg s0 = 0 then pm_Run d 282 31 [.inr (.inr (.inl l0)), .inl l1, PU, PU] [] (G, M, T) K else pm_Run d 282 17 [.inr (.inr (.inl l0)), .inl l1, PU, PU] [] (G, M, T) K := by
  refine (px_if_eq (off := 17) (tgt := 31) (by decide +kernel)).trans ?_
  exact Iff.rfl
theorem b282_17 {d : Nat} {G : PG} {M T : PH} {K : PV → PS → Prop} {l0 l1 : Int} (h1 : pm_ob G l0 12) (h2 : pm_ar G (T l0.toNat 54) 100 0) : pm_Run d 282 17 [.inr (.inr (.inl l0)), .inl l1, PU, PU] [] (G, M, T) K ↔ if pm_sg ((M (T l0.toNat 54).toNat (pm_sg 0).toNat) + l1) ≤ pm_sg 9999 then pm_Run d 282 37 [.inr (.inr (.inl l0)), .inl l1, PU, PU] [] (G, M, T) K else pm_Run d 282 31 [.inr (.inr (.inl l0)), .inl l1, PU, PU] [] (G, M, T) K := by
  refine (px_go (by decide +kernel : pm_fe 282 17 = some (.aload_n 0, 1)) rfl).trans ?_
  refine (px_get2 (idx := 177) (ci := 12) (k := 54) (by decide +kernel)).trans ((and_iff_right h1).trans ?_)
  refine (px_go (by decide +kernel : pm_fe 282 21 = some (.iconst 0, 1)) rfl).trans ?_
  refine (px_iaload (by decide +kernel) h2).trans ?_
  refine (px_go (by decide +kernel : pm_fe 282 23 = some (.iload_n 1, 1)) rfl).trans ?_
  refine (px_go (by decide +kernel : pm_fe 282 24 = some (.iadd, 1)) rfl).trans ?_
  refine (px_go (by decide +kernel : pm_fe 282 25 = some (.sipush 9999, 3)) rfl).trans ?_
  refine (px_ic_le (off := 9) (tgt := 37) (by decide +kernel)).trans ?_
  exact Iff.rfl
theorem b282_31 {d : Nat} {G : PG} {M T : PH} {K : PV → PS → Prop} {l0 l1 : Int} (h1 : pm_ob G l0 12) : pm_Run d 282 31 [.inr (.inr (.inl l0)), .inl l1, PU, PU] [] (G, M, T) K ↔ pm_Call d 224 [.inr (.inr (.inl l0)), .inl 3] (G, M, T) (fun r S1 => pm_Run d 282 36 [.inr (.inr (.inl l0)), .inl l1, PU, PU] (pm_push r []) S1 K) := by
  refine (px_go (by decide +kernel : pm_fe 282 31 = some (.aload_n 0, 1)) rfl).trans ?_
  refine (px_go (by decide +kernel : pm_fe 282 32 = some (.iconst 3, 1)) rfl).trans ?_
  refine (px_v1 (idx := 243) (m' := 224) (ci := 12) (by decide +kernel)).trans ((and_iff_right ⟨h1, (by simp [pm_wl_n, pm_wl_c, pm_w] : pm_wl [] ≤ 8)⟩).trans ?_)
  exact Iff.rfl
theorem b282_36 {d : Nat} {G : PG} {M T : PH} {K : PV → PS → Prop} {l0 l1 s0 : Int} : pm_Run d 282 36 [.inr (.inr (.inl l0)), .inl l1, PU, PU] [.inl s0] (G, M, T) K ↔ K (.inl s0) (G, M, T) := by
  refine (px_ri (by decide +kernel)).trans ?_
  exact Iff.rfl
theorem b282_37 {d : Nat} {G : PG} {M T : PH} {K : PV → PS → Prop} {l0 l1 : Int} (h1 : pm_ob G l0 12) : pm_Run d 282 37 [.inr (.inr (.inl l0)), .inl l1, PU, PU] [] (G, M, T) K ↔ pm_Call d 235 [.inr (.inr (.inl l0))] (G, M, T) (fun r S1 => pm_Run d 282 41 [.inr (.inr (.inl l0)), .inl l1, PU, PU] (pm_push r []) S1 K) := by
  refine (px_go (by decide +kernel : pm_fe 282 37 = some (.aload_n 0, 1)) rfl).trans ?_
  refine (px_v0 (idx := 572) (m' := 235) (ci := 12) (by decide +kernel)).trans ((and_iff_right ⟨h1, (by simp [pm_wl_n, pm_wl_c, pm_w] : pm_wl [] ≤ 8)⟩).trans ?_)
  exact Iff.rfl
theorem b282_41 {d : Nat} {G : PG} {M T : PH} {K : PV → PS → Prop} {l0 l1 : Int} : pm_Run d 282 41 [.inr (.inr (.inl l0)), .inl l1, PU, PU] [] (G, M, T) K ↔ pm_Run d 282 43 [.inr (.inr (.inl l0)), .inl l1, .inl 0, PU] [] (G, M, T) K := by
  refine (px_go (by decide +kernel : pm_fe 282 41 = some (.iconst 0, 1)) rfl).trans ?_
  refine (px_go (by decide +kernel : pm_fe 282 42 = some (.istore_n 2, 1)) rfl).trans ?_
  exact Iff.rfl
theorem b282_43 {d : Nat} {G : PG} {M T : PH} {K : PV → PS → Prop} {l0 l1 l2 : Int} {l3 : PV} : pm_Run d 282 43 [.inr (.inr (.inl l0)), .inl l1, .inl l2, l3] [] (G, M, T) K ↔ if pm_sg l1 ≤ pm_sg l2 then pm_Run d 282 97 [.inr (.inr (.inl l0)), .inl l1, .inl l2, l3] [] (G, M, T) K else pm_Run d 282 48 [.inr (.inr (.inl l0)), .inl l1, .inl l2, l3] [] (G, M, T) K := by
  refine (px_go (by decide +kernel : pm_fe 282 43 = some (.iload_n 2, 1)) rfl).trans ?_
  refine (px_go (by decide +kernel : pm_fe 282 44 = some (.iload_n 1, 1)) rfl).trans ?_
  refine (px_ic_ge (off := 52) (tgt := 97) (by decide +kernel)).trans ?_
  exact Iff.rfl
theorem b282_48 {d : Nat} {G : PG} {M T : PH} {K : PV → PS → Prop} {l0 l1 l2 : Int} {l3 : PV} (h1 : pm_ob G l0 12) (h2 : pm_ar G (T l0.toNat 15) 100 (M l0.toNat 13)) : pm_Run d 282 48 [.inr (.inr (.inl l0)), .inl l1, .inl l2, l3] [] (G, M, T) K ↔ if pm_sg (M (T l0.toNat 15).toNat (pm_sg (M l0.toNat 13)).toNat) ≤ 0 then pm_Run d 282 86 [.inr (.inr (.inl l0)), .inl l1, .inl l2, l3] [] (G, M, T) K else pm_Run d 282 60 [.inr (.inr (.inl l0)), .inl l1, .inl l2, l3] [] (G, M, T) K := by
  refine (px_go (by decide +kernel : pm_fe 282 48 = some (.aload_n 0, 1)) rfl).trans ?_
  refine (px_get2 (idx := 57) (ci := 12) (k := 15) (by decide +kernel)).trans ((and_iff_right h1).trans ?_)
  refine (px_go (by decide +kernel : pm_fe 282 52 = some (.aload_n 0, 1)) rfl).trans ?_
  refine (px_get0 (idx := 51) (ci := 12) (k := 13) (by decide +kernel)).trans ((and_iff_right h1).trans ?_)
  refine (px_iaload (by decide +kernel) h2).trans ?_
  refine (px_if_le (off := 29) (tgt := 86) (by decide +kernel)).trans ?_
  exact Iff.rfl
theorem b282_60 {d : Nat} {G : PG} {M T : PH} {K : PV → PS → Prop} {l0 l1 l2 : Int} {l3 : PV} (h1 : pm_ob G l0 12) (h2 : pm_ar G (T l0.toNat 15) 100 (M l0.toNat 13)) : pm_Run d 282 60 [.inr (.inr (.inl l0)), .inl l1, .inl l2, l3] [] (G, M, T) K ↔ pm_Call d 281 [.inr (.inr (.inl l0)), .inl (M (T l0.toNat 15).toNat (pm_sg (M l0.toNat 13)).toNat)] (G, M, T) (fun r S1 => pm_Run d 282 73 [.inr (.inr (.inl l0)), .inl l1, .inl l2, l3] (pm_push r []) S1 K) := by
  refine (px_go (by decide +kernel : pm_fe 282 60 = some (.aload_n 0, 1)) rfl).trans ?_
  refine (px_go (by decide +kernel : pm_fe 282 61 = some (.aload_n 0, 1)) rfl).trans ?_
  refine (px_get2 (idx := 57) (ci := 12) (k := 15) (by decide +kernel)).trans ((and_iff_right h1).trans ?_)
  refine (px_go (by decide +kernel : pm_fe 282 65 = some (.aload_n 0, 1)) rfl).trans ?_
  refine (px_get0 (idx := 51) (ci := 12) (k := 13) (by decide +kernel)).trans ((and_iff_right h1).trans ?_)
  refine (px_iaload (by decide +kernel) h2).trans ?_
  refine (px_v1 (idx := 583) (m' := 281) (ci := 12) (by decide +kernel)).trans ((and_iff_right ⟨h1, (by simp [pm_wl_n, pm_wl_c, pm_w] : pm_wl [] ≤ 8)⟩).trans ?_)
  exact Iff.rfl
theorem b282_73 {d : Nat} {G : PG} {M T : PH} {K : PV → PS → Prop} {l0 l1 l2 s0 : Int} {l3 : PV} (h1 : pm_ob G l0 12) : pm_Run d 282 73 [.inr (.inr (.inl l0)), .inl l1, .inl l2, l3] [.inl s0] (G, M, T) K ↔ pm_Call d 281 [.inr (.inr (.inl l0)), .inl 10] (G, M, T) (fun r S1 => pm_Run d 282 85 [.inr (.inr (.inl l0)), .inl l1, .inl l2, .inl s0] (pm_push r [.inl s0, .inr (.inr (.inl (T l0.toNat 56)))]) S1 K) := by
  refine (px_go (by decide +kernel : pm_fe 282 73 = some (.istore_n 3, 1)) rfl).trans ?_
  refine (px_go (by decide +kernel : pm_fe 282 74 = some (.aload_n 0, 1)) rfl).trans ?_
  refine (px_get2 (idx := 183) (ci := 12) (k := 56) (by decide +kernel)).trans ((and_iff_right h1).trans ?_)
  refine (px_go (by decide +kernel : pm_fe 282 78 = some (.iload_n 3, 1)) rfl).trans ?_
  refine (px_go (by decide +kernel : pm_fe 282 79 = some (.aload_n 0, 1)) rfl).trans ?_
  refine (px_go (by decide +kernel : pm_fe 282 80 = some (.bipush 10, 2)) rfl).trans ?_
  refine (px_v1 (idx := 583) (m' := 281) (ci := 12) (by decide +kernel)).trans ((and_iff_right ⟨h1, (by simp [pm_wl_n, pm_wl_c, pm_w] : pm_wl [.inl s0, .inr (.inr (.inl (T l0.toNat 56)))] ≤ 8)⟩).trans ?_)
  exact Iff.rfl
theorem b282_85 {d : Nat} {G : PG} {M T : PH} {K : PV → PS → Prop} {l0 l1 l2 l3 s0 s1 s2 : Int} (h1 : pm_ar G s2 100 s1) : pm_Run d 282 85 [.inr (.inr (.inl l0)), .inl l1, .inl l2, .inl l3] [.inl s0, .inl s1, .inr (.inr (.inl s2))] (G, M, T) K ↔ pm_Run d 282 86 [.inr (.inr (.inl l0)), .inl l1, .inl l2, .inl l3] [] (G, pm_sa M s2.toNat (pm_up (M s2.toNat) (pm_sg s1).toNat s0), T) K := by
  refine (px_iastore (by decide +kernel)).trans ((and_iff_right h1).trans ?_)
  exact Iff.rfl
theorem b282_86 {d : Nat} {G : PG} {M T : PH} {K : PV → PS → Prop} {l0 l1 l2 : Int} {l3 : PV} (h1 : pm_ob G l0 12) : pm_Run d 282 86 [.inr (.inr (.inl l0)), .inl l1, .inl l2, l3] [] (G, M, T) K ↔ pm_Call d 257 [.inr (.inr (.inl l0)), .inl 0] (G, M, T) (fun r S1 => pm_Run d 282 91 [.inr (.inr (.inl l0)), .inl l1, .inl l2, l3] (pm_push r []) S1 K) := by
  refine (px_go (by decide +kernel : pm_fe 282 86 = some (.aload_n 0, 1)) rfl).trans ?_
  refine (px_go (by decide +kernel : pm_fe 282 87 = some (.iconst 0, 1)) rfl).trans ?_
  refine (px_v1 (idx := 530) (m' := 257) (ci := 12) (by decide +kernel)).trans ((and_iff_right ⟨h1, (by simp [pm_wl_n, pm_wl_c, pm_w] : pm_wl [] ≤ 8)⟩).trans ?_)
  exact Iff.rfl
theorem b282_91 {d : Nat} {G : PG} {M T : PH} {K : PV → PS → Prop} {l0 l1 l2 : Int} {l3 : PV} : pm_Run d 282 91 [.inr (.inr (.inl l0)), .inl l1, .inl l2, l3] [] (G, M, T) K ↔ pm_Run d 282 43 [.inr (.inr (.inl l0)), .inl l1, .inl (l2 + 1), l3] [] (G, M, T) K := by
  refine (px_go (by decide +kernel : pm_fe 282 91 = some (.iinc 2 1, 3)) rfl).trans ?_
  refine (px_goto (off := (-51)) (tgt := 43) (by decide +kernel)).trans ?_
  exact Iff.rfl
theorem b282_97 {d : Nat} {G : PG} {M T : PH} {K : PV → PS → Prop} {l0 l1 l2 : Int} {l3 : PV} (h1 : pm_ob G l0 12) (h2 : pm_ar G (T l0.toNat 54) 100 0) : pm_Run d 282 97 [.inr (.inr (.inl l0)), .inl l1, .inl l2, l3] [] (G, M, T) K ↔ K (.inl (M (T l0.toNat 54).toNat (pm_sg 0).toNat)) (G, M, T) := by
  refine (px_go (by decide +kernel : pm_fe 282 97 = some (.aload_n 0, 1)) rfl).trans ?_
  refine (px_get2 (idx := 177) (ci := 12) (k := 54) (by decide +kernel)).trans ((and_iff_right h1).trans ?_)
  refine (px_go (by decide +kernel : pm_fe 282 101 = some (.iconst 0, 1)) rfl).trans ?_
  refine (px_iaload (by decide +kernel) h2).trans ?_
  refine (px_ri (by decide +kernel)).trans ?_
  exact Iff.rfl
-- X12_seed seed(I)Z
theorem en283 {d : Nat} {a p0 : Int} {S : PS} {K : PV → PS → Prop} : pm_Call (d + 1) 283 [.inr (.inr (.inl a)), .inl p0] S K ↔ pm_Run d 283 0 [.inr (.inr (.inl a)), .inl p0] [] S K := pm_Call_s.trans (and_iff_right (show 2 ≤ pm_ml 283 from by decide +kernel))
theorem b283_0 {d : Nat} {G : PG} {M T : PH} {K : PV → PS → Prop} {l0 l1 : Int} : pm_Run d 283 0 [.inr (.inr (.inl l0)), .inl l1] [] (G, M, T) K ↔ if 0 ≤ pm_sg l1 then pm_Run d 283 18 [.inr (.inr (.inl l0)), .inl l1] [] (G, M, T) K else pm_Run d 283 4 [.inr (.inr (.inl l0)), .inl l1] [] (G, M, T) K := by
  refine (px_go (by decide +kernel : pm_fe 283 0 = some (.iload_n 1, 1)) rfl).trans ?_
  refine (px_if_ge (off := 17) (tgt := 18) (by decide +kernel)).trans ?_
  exact Iff.rfl
theorem b283_4 {d : Nat} {G : PG} {M T : PH} {K : PV → PS → Prop} {l0 l1 : Int} (h1 : pm_ob G l0 12) : pm_Run d 283 4 [.inr (.inr (.inl l0)), .inl l1] [] (G, M, T) K ↔ pm_Call d 224 [.inr (.inr (.inl l0)), .inl 5] (G, M, T) (fun r S1 => pm_Run d 283 9 [.inr (.inr (.inl l0)), .inl l1] (pm_push r []) S1 K) := by
  refine (px_go (by decide +kernel : pm_fe 283 4 = some (.aload_n 0, 1)) rfl).trans ?_
  refine (px_go (by decide +kernel : pm_fe 283 5 = some (.iconst 5, 1)) rfl).trans ?_
  refine (px_v1 (idx := 243) (m' := 224) (ci := 12) (by decide +kernel)).trans ((and_iff_right ⟨h1, (by simp [pm_wl_n, pm_wl_c, pm_w] : pm_wl [] ≤ 8)⟩).trans ?_)
  exact Iff.rfl
theorem b283_9 {d : Nat} {G : PG} {M T : PH} {K : PV → PS → Prop} {l0 l1 s0 : Int} : pm_Run d 283 9 [.inr (.inr (.inl l0)), .inl l1] [.inl s0] (G, M, T) K ↔ if pm_sg s0 < 0 then pm_Run d 283 16 [.inr (.inr (.inl l0)), .inl l1] [] (G, M, T) K else pm_Run d 283 12 [.inr (.inr (.inl l0)), .inl l1] [] (G, M, T) K := by
  refine (px_if_lt (off := 7) (tgt := 16) (by decide +kernel)).trans ?_
  exact Iff.rfl
theorem b283_12 {d : Nat} {G : PG} {M T : PH} {K : PV → PS → Prop} {l0 l1 : Int} : pm_Run d 283 12 [.inr (.inr (.inl l0)), .inl l1] [] (G, M, T) K ↔ pm_Run d 283 17 [.inr (.inr (.inl l0)), .inl l1] [.inl 1] (G, M, T) K := by
  refine (px_go (by decide +kernel : pm_fe 283 12 = some (.iconst 1, 1)) rfl).trans ?_
  refine (px_goto (off := 4) (tgt := 17) (by decide +kernel)).trans ?_
  exact Iff.rfl
theorem b283_16 {d : Nat} {G : PG} {M T : PH} {K : PV → PS → Prop} {l0 l1 : Int} : pm_Run d 283 16 [.inr (.inr (.inl l0)), .inl l1] [] (G, M, T) K ↔ pm_Run d 283 17 [.inr (.inr (.inl l0)), .inl l1] [.inl 0] (G, M, T) K := by
  refine (px_go (by decide +kernel : pm_fe 283 16 = some (.iconst 0, 1)) rfl).trans ?_
  exact Iff.rfl
theorem b283_17 {d : Nat} {G : PG} {M T : PH} {K : PV → PS → Prop} {l0 l1 s0 : Int} (h1 : s0 = 0 ∨ s0 = 1) : pm_Run d 283 17 [.inr (.inr (.inl l0)), .inl l1] [.inl s0] (G, M, T) K ↔ K (.inl s0) (G, M, T) := by
  refine (px_rz (by decide +kernel)).trans ((and_iff_right h1).trans ?_)
  exact Iff.rfl
theorem b283_18 {d : Nat} {G : PG} {M T : PH} {K : PV → PS → Prop} {l0 l1 : Int} (h1 : pm_ob G l0 12) : pm_Run d 283 18 [.inr (.inr (.inl l0)), .inl l1] [] (G, M, T) K ↔ K (.inl 1) (G, pm_sa M l0.toNat (pm_up (M l0.toNat) 62 (pm_sg l1)), T) := by
  refine (px_go (by decide +kernel : pm_fe 283 18 = some (.aload_n 0, 1)) rfl).trans ?_
  refine (px_go (by decide +kernel : pm_fe 283 19 = some (.iload_n 1, 1)) rfl).trans ?_
  refine (px_go (by decide +kernel : pm_fe 283 20 = some (.i2l, 1)) rfl).trans ?_
  refine (px_put1 (idx := 201) (ci := 12) (k := 62) (by decide +kernel)).trans ((and_iff_right h1).trans ?_)
  refine (px_go (by decide +kernel : pm_fe 283 24 = some (.iconst 1, 1)) rfl).trans ?_
  refine (px_rz (by decide +kernel)).trans ((and_iff_right (by decide : (1 : Int) = (0 : Int) ∨ (1 : Int) = (1 : Int))).trans ?_)
  exact Iff.rfl
-- X12_setsBids setsBids(IIII)I
theorem en284 {d : Nat} {a p0 p1 p2 p3 : Int} {S : PS} {K : PV → PS → Prop} : pm_Call (d + 1) 284 [.inr (.inr (.inl a)), .inl p0, .inl p1, .inl p2, .inl p3] S K ↔ pm_Run d 284 0 [.inr (.inr (.inl a)), .inl p0, .inl p1, .inl p2, .inl p3, PU, PU, PU] [] S K := pm_Call_s.trans (and_iff_right (show 5 ≤ pm_ml 284 from by decide +kernel))
theorem b284_0 {d : Nat} {G : PG} {M T : PH} {K : PV → PS → Prop} {l0 l1 l2 l3 l4 : Int} (h1 : pm_ob G l0 12) (h2 : pm_ar G (T l0.toNat 15) 100 (M l0.toNat 13)) : pm_Run d 284 0 [.inr (.inr (.inl l0)), .inl l1, .inl l2, .inl l3, .inl l4, PU, PU, PU] [] (G, M, T) K ↔ pm_Run d 284 19 [.inr (.inr (.inl l0)), .inl l1, .inl l2, .inl l3, .inl l4, .inl l3, .inl 0, .inl ((M (T l0.toNat 15).toNat (pm_sg (M l0.toNat 13)).toNat) - 1)] [] (G, M, T) K := by
  refine (px_go (by decide +kernel : pm_fe 284 0 = some (.iload_n 3, 1)) rfl).trans ?_
  refine (px_go (by decide +kernel : pm_fe 284 1 = some (.istore 5, 2)) rfl).trans ?_
  refine (px_go (by decide +kernel : pm_fe 284 3 = some (.iconst 0, 1)) rfl).trans ?_
  refine (px_go (by decide +kernel : pm_fe 284 4 = some (.istore 6, 2)) rfl).trans ?_
  refine (px_go (by decide +kernel : pm_fe 284 6 = some (.aload_n 0, 1)) rfl).trans ?_
  refine (px_get2 (idx := 57) (ci := 12) (k := 15) (by decide +kernel)).trans ((and_iff_right h1).trans ?_)
  refine (px_go (by decide +kernel : pm_fe 284 10 = some (.aload_n 0, 1)) rfl).trans ?_
  refine (px_get0 (idx := 51) (ci := 12) (k := 13) (by decide +kernel)).trans ((and_iff_right h1).trans ?_)
  refine (px_iaload (by decide +kernel) h2).trans ?_
  refine (px_go (by decide +kernel : pm_fe 284 15 = some (.iconst 1, 1)) rfl).trans ?_
  refine (px_go (by decide +kernel : pm_fe 284 16 = some (.isub, 1)) rfl).trans ?_
  refine (px_go (by decide +kernel : pm_fe 284 17 = some (.istore 7, 2)) rfl).trans ?_
  exact Iff.rfl
theorem b284_19 {d : Nat} {G : PG} {M T : PH} {K : PV → PS → Prop} {l0 l1 l2 l3 l4 l5 l6 l7 : Int} : pm_Run d 284 19 [.inr (.inr (.inl l0)), .inl l1, .inl l2, .inl l3, .inl l4, .inl l5, .inl l6, .inl l7] [] (G, M, T) K ↔ if pm_sg l7 < 0 then pm_Run d 284 68 [.inr (.inr (.inl l0)), .inl l1, .inl l2, .inl l3, .inl l4, .inl l5, .inl l6, .inl l7] [] (G, M, T) K else pm_Run d 284 24 [.inr (.inr (.inl l0)), .inl l1, .inl l2, .inl l3, .inl l4, .inl l5, .inl l6, .inl l7] [] (G, M, T) K := by
  refine (px_go (by decide +kernel : pm_fe 284 19 = some (.iload 7, 2)) rfl).trans ?_
  refine (px_if_lt (off := 47) (tgt := 68) (by decide +kernel)).trans ?_
  exact Iff.rfl
theorem b284_24 {d : Nat} {G : PG} {M T : PH} {K : PV → PS → Prop} {l0 l1 l2 l3 l4 l5 l6 l7 : Int} (h1 : pm_ob G l0 12) (h2 : pm_sg l4 ≠ 0) (h3 : pm_ar G (T l0.toNat 58) 100 (((24 * l1) + (3 * l2)) + l7)) : pm_Run d 284 24 [.inr (.inr (.inl l0)), .inl l1, .inl l2, .inl l3, .inl l4, .inl l5, .inl l6, .inl l7] [] (G, M, T) K ↔ pm_Run d 284 19 [.inr (.inr (.inl l0)), .inl l1, .inl l2, .inl l3, .inl l4, .inl (pm_div l5 l4), .inl (l6 + (pm_rem l5 l4)), .inl (l7 + (-1))] [] (G, pm_sa M (T l0.toNat 58).toNat (pm_up (M (T l0.toNat 58).toNat) (pm_sg (((24 * l1) + (3 * l2)) + l7)).toNat (pm_rem l5 l4)), T) K := by
  refine (px_go (by decide +kernel : pm_fe 284 24 = some (.aload_n 0, 1)) rfl).trans ?_
  refine (px_get2 (idx := 189) (ci := 12) (k := 58) (by decide +kernel)).trans ((and_iff_right h1).trans ?_)
  refine (px_go (by decide +kernel : pm_fe 284 28 = some (.bipush 24, 2)) rfl).trans ?_
  refine (px_go (by decide +kernel : pm_fe 284 30 = some (.iload_n 1, 1)) rfl).trans ?_
  refine (px_go (by decide +kernel : pm_fe 284 31 = some (.imul, 1)) rfl).trans ?_
  refine (px_go (by decide +kernel : pm_fe 284 32 = some (.iconst 3, 1)) rfl).trans ?_
  refine (px_go (by decide +kernel : pm_fe 284 33 = some (.iload_n 2, 1)) rfl).trans ?_
  refine (px_go (by decide +kernel : pm_fe 284 34 = some (.imul, 1)) rfl).trans ?_
  refine (px_go (by decide +kernel : pm_fe 284 35 = some (.iadd, 1)) rfl).trans ?_
  refine (px_go (by decide +kernel : pm_fe 284 36 = some (.iload 7, 2)) rfl).trans ?_
  refine (px_go (by decide +kernel : pm_fe 284 38 = some (.iadd, 1)) rfl).trans ?_
  refine (px_go (by decide +kernel : pm_fe 284 39 = some (.iload 5, 2)) rfl).trans ?_
  refine (px_go (by decide +kernel : pm_fe 284 41 = some (.iload 4, 2)) rfl).trans ?_
  refine (px_irem (by decide +kernel)).trans ((and_iff_right h2).trans ?_)
  refine (px_iastore (by decide +kernel)).trans ((and_iff_right h3).trans ?_)
  refine (px_go (by decide +kernel : pm_fe 284 45 = some (.iload 6, 2)) rfl).trans ?_
  refine (px_go (by decide +kernel : pm_fe 284 47 = some (.iload 5, 2)) rfl).trans ?_
  refine (px_go (by decide +kernel : pm_fe 284 49 = some (.iload 4, 2)) rfl).trans ?_
  refine (px_irem (by decide +kernel)).trans ((and_iff_right h2).trans ?_)
  refine (px_go (by decide +kernel : pm_fe 284 52 = some (.iadd, 1)) rfl).trans ?_
  refine (px_go (by decide +kernel : pm_fe 284 53 = some (.istore 6, 2)) rfl).trans ?_
  refine (px_go (by decide +kernel : pm_fe 284 55 = some (.iload 5, 2)) rfl).trans ?_
  refine (px_go (by decide +kernel : pm_fe 284 57 = some (.iload 4, 2)) rfl).trans ?_
  refine (px_idiv (by decide +kernel)).trans ((and_iff_right h2).trans ?_)
  refine (px_go (by decide +kernel : pm_fe 284 60 = some (.istore 5, 2)) rfl).trans ?_
  refine (px_go (by decide +kernel : pm_fe 284 62 = some (.iinc 7 (-1), 3)) rfl).trans ?_
  refine (px_goto (off := (-46)) (tgt := 19) (by decide +kernel)).trans ?_
  exact Iff.rfl
theorem b284_68 {d : Nat} {G : PG} {M T : PH} {K : PV → PS → Prop} {l0 l1 l2 l3 l4 l5 l6 l7 : Int} : pm_Run d 284 68 [.inr (.inr (.inl l0)), .inl l1, .inl l2, .inl l3, .inl l4, .inl l5, .inl l6, .inl l7] [] (G, M, T) K ↔ K (.inl l6) (G, M, T) := by
  refine (px_go (by decide +kernel : pm_fe 284 68 = some (.iload 6, 2)) rfl).trans ?_
  refine (px_ri (by decide +kernel)).trans ?_
  exact Iff.rfl
-- X12_rowsOf rowsOf(I)I
theorem en285 {d : Nat} {a p0 : Int} {S : PS} {K : PV → PS → Prop} : pm_Call (d + 1) 285 [.inr (.inr (.inl a)), .inl p0] S K ↔ pm_Run d 285 0 [.inr (.inr (.inl a)), .inl p0, PU, PU] [] S K := pm_Call_s.trans (and_iff_right (show 2 ≤ pm_ml 285 from by decide +kernel))
theorem b285_0 {d : Nat} {G : PG} {M T : PH} {K : PV → PS → Prop} {l0 l1 : Int} : pm_Run d 285 0 [.inr (.inr (.inl l0)), .inl l1, PU, PU] [] (G, M, T) K ↔ pm_Run d 285 4 [.inr (.inr (.inl l0)), .inl l1, .inl 1, .inl 0] [] (G, M, T) K := by
  refine (px_go (by decide +kernel : pm_fe 285 0 = some (.iconst 1, 1)) rfl).trans ?_
  refine (px_go (by decide +kernel : pm_fe 285 1 = some (.istore_n 2, 1)) rfl).trans ?_
  refine (px_go (by decide +kernel : pm_fe 285 2 = some (.iconst 0, 1)) rfl).trans ?_
  refine (px_go (by decide +kernel : pm_fe 285 3 = some (.istore_n 3, 1)) rfl).trans ?_
  exact Iff.rfl
theorem b285_4 {d : Nat} {G : PG} {M T : PH} {K : PV → PS → Prop} {l0 l1 l2 l3 : Int} (h1 : pm_ob G l0 12) (h2 : pm_ar G (T l0.toNat 15) 100 (M l0.toNat 13)) : pm_Run d 285 4 [.inr (.inr (.inl l0)), .inl l1, .inl l2, .inl l3] [] (G, M, T) K ↔ if pm_sg (M (T l0.toNat 15).toNat (pm_sg (M l0.toNat 13)).toNat) ≤ pm_sg l3 then pm_Run d 285 27 [.inr (.inr (.inl l0)), .inl l1, .inl l2, .inl l3] [] (G, M, T) K else pm_Run d 285 17 [.inr (.inr (.inl l0)), .inl l1, .inl l2, .inl l3] [] (G, M, T) K := by
  refine (px_go (by decide +kernel : pm_fe 285 4 = some (.iload_n 3, 1)) rfl).trans ?_
  refine (px_go (by decide +kernel : pm_fe 285 5 = some (.aload_n 0, 1)) rfl).trans ?_
  refine (px_get2 (idx := 57) (ci := 12) (k := 15) (by decide +kernel)).trans ((and_iff_right h1).trans ?_)
  refine (px_go (by decide +kernel : pm_fe 285 9 = some (.aload_n 0, 1)) rfl).trans ?_
  refine (px_get0 (idx := 51) (ci := 12) (k := 13) (by decide +kernel)).trans ((and_iff_right h1).trans ?_)
  refine (px_iaload (by decide +kernel) h2).trans ?_
  refine (px_ic_ge (off := 13) (tgt := 27) (by decide +kernel)).trans ?_
  exact Iff.rfl
theorem b285_17 {d : Nat} {G : PG} {M T : PH} {K : PV → PS → Prop} {l0 l1 l2 l3 : Int} : pm_Run d 285 17 [.inr (.inr (.inl l0)), .inl l1, .inl l2, .inl l3] [] (G, M, T) K ↔ pm_Run d 285 4 [.inr (.inr (.inl l0)), .inl l1, .inl (l2 * l1), .inl (l3 + 1)] [] (G, M, T) K := by
  refine (px_go (by decide +kernel : pm_fe 285 17 = some (.iload_n 2, 1)) rfl).trans ?_
  refine (px_go (by decide +kernel : pm_fe 285 18 = some (.iload_n 1, 1)) rfl).trans ?_
  refine (px_go (by decide +kernel : pm_fe 285 19 = some (.imul, 1)) rfl).trans ?_
  refine (px_go (by decide +kernel : pm_fe 285 20 = some (.istore_n 2, 1)) rfl).trans ?_
  refine (px_go (by decide +kernel : pm_fe 285 21 = some (.iinc 3 1, 3)) rfl).trans ?_
  refine (px_goto (off := (-20)) (tgt := 4) (by decide +kernel)).trans ?_
  exact Iff.rfl
theorem b285_27 {d : Nat} {G : PG} {M T : PH} {K : PV → PS → Prop} {l0 l1 l2 l3 : Int} : pm_Run d 285 27 [.inr (.inr (.inl l0)), .inl l1, .inl l2, .inl l3] [] (G, M, T) K ↔ K (.inl l2) (G, M, T) := by
  refine (px_go (by decide +kernel : pm_fe 285 27 = some (.iload_n 2, 1)) rfl).trans ?_
  refine (px_ri (by decide +kernel)).trans ?_
  exact Iff.rfl
-- X12_keepsBids keepsBids(II)V
theorem en286 {d : Nat} {a p0 p1 : Int} {S : PS} {K : PV → PS → Prop} : pm_Call (d + 1) 286 [.inr (.inr (.inl a)), .inl p0, .inl p1] S K ↔ pm_Run d 286 0 [.inr (.inr (.inl a)), .inl p0, .inl p1, PU] [] S K := pm_Call_s.trans (and_iff_right (show 3 ≤ pm_ml 286 from by decide +kernel))
theorem b286_0 {d : Nat} {G : PG} {M T : PH} {K : PV → PS → Prop} {l0 l1 l2 : Int} : pm_Run d 286 0 [.inr (.inr (.inl l0)), .inl l1, .inl l2, PU] [] (G, M, T) K ↔ pm_Run d 286 2 [.inr (.inr (.inl l0)), .inl l1, .inl l2, .inl 0] [] (G, M, T) K := by
  refine (px_go (by decide +kernel : pm_fe 286 0 = some (.iconst 0, 1)) rfl).trans ?_
  refine (px_go (by decide +kernel : pm_fe 286 1 = some (.istore_n 3, 1)) rfl).trans ?_
  exact Iff.rfl
theorem b286_2 {d : Nat} {G : PG} {M T : PH} {K : PV → PS → Prop} {l0 l1 l2 l3 : Int} (h1 : pm_ob G l0 12) (h2 : pm_ar G (T l0.toNat 15) 100 (M l0.toNat 13)) : pm_Run d 286 2 [.inr (.inr (.inl l0)), .inl l1, .inl l2, .inl l3] [] (G, M, T) K ↔ if pm_sg (M (T l0.toNat 15).toNat (pm_sg (M l0.toNat 13)).toNat) ≤ pm_sg l3 then pm_Run d 286 42 [.inr (.inr (.inl l0)), .inl l1, .inl l2, .inl l3] [] (G, M, T) K else pm_Run d 286 15 [.inr (.inr (.inl l0)), .inl l1, .inl l2, .inl l3] [] (G, M, T) K := by
  refine (px_go (by decide +kernel : pm_fe 286 2 = some (.iload_n 3, 1)) rfl).trans ?_
  refine (px_go (by decide +kernel : pm_fe 286 3 = some (.aload_n 0, 1)) rfl).trans ?_
  refine (px_get2 (idx := 57) (ci := 12) (k := 15) (by decide +kernel)).trans ((and_iff_right h1).trans ?_)
  refine (px_go (by decide +kernel : pm_fe 286 7 = some (.aload_n 0, 1)) rfl).trans ?_
  refine (px_get0 (idx := 51) (ci := 12) (k := 13) (by decide +kernel)).trans ((and_iff_right h1).trans ?_)
  refine (px_iaload (by decide +kernel) h2).trans ?_
  refine (px_ic_ge (off := 30) (tgt := 42) (by decide +kernel)).trans ?_
  exact Iff.rfl
theorem b286_15 {d : Nat} {G : PG} {M T : PH} {K : PV → PS → Prop} {l0 l1 l2 l3 : Int} (h1 : pm_ob G l0 12) (h2 : pm_ar G (T l0.toNat 58) 100 (((24 * l1) + (3 * l2)) + l3)) (h3 : pm_ar G (T l0.toNat 69) 100 l3) : pm_Run d 286 15 [.inr (.inr (.inl l0)), .inl l1, .inl l2, .inl l3] [] (G, M, T) K ↔ pm_Run d 286 2 [.inr (.inr (.inl l0)), .inl l1, .inl l2, .inl (l3 + 1)] [] (G, pm_sa M (T l0.toNat 69).toNat (pm_up (M (T l0.toNat 69).toNat) (pm_sg l3).toNat (M (T l0.toNat 58).toNat (pm_sg (((24 * l1) + (3 * l2)) + l3)).toNat)), T) K := by
  refine (px_go (by decide +kernel : pm_fe 286 15 = some (.aload_n 0, 1)) rfl).trans ?_
  refine (px_get2 (idx := 222) (ci := 12) (k := 69) (by decide +kernel)).trans ((and_iff_right h1).trans ?_)
  refine (px_go (by decide +kernel : pm_fe 286 19 = some (.iload_n 3, 1)) rfl).trans ?_
  refine (px_go (by decide +kernel : pm_fe 286 20 = some (.aload_n 0, 1)) rfl).trans ?_
  refine (px_get2 (idx := 189) (ci := 12) (k := 58) (by decide +kernel)).trans ((and_iff_right h1).trans ?_)
  refine (px_go (by decide +kernel : pm_fe 286 24 = some (.bipush 24, 2)) rfl).trans ?_
  refine (px_go (by decide +kernel : pm_fe 286 26 = some (.iload_n 1, 1)) rfl).trans ?_
  refine (px_go (by decide +kernel : pm_fe 286 27 = some (.imul, 1)) rfl).trans ?_
  refine (px_go (by decide +kernel : pm_fe 286 28 = some (.iconst 3, 1)) rfl).trans ?_
  refine (px_go (by decide +kernel : pm_fe 286 29 = some (.iload_n 2, 1)) rfl).trans ?_
  refine (px_go (by decide +kernel : pm_fe 286 30 = some (.imul, 1)) rfl).trans ?_
  refine (px_go (by decide +kernel : pm_fe 286 31 = some (.iadd, 1)) rfl).trans ?_
  refine (px_go (by decide +kernel : pm_fe 286 32 = some (.iload_n 3, 1)) rfl).trans ?_
  refine (px_go (by decide +kernel : pm_fe 286 33 = some (.iadd, 1)) rfl).trans ?_
  refine (px_iaload (by decide +kernel) h2).trans ?_
  refine (px_iastore (by decide +kernel)).trans ((and_iff_right h3).trans ?_)
  refine (px_go (by decide +kernel : pm_fe 286 36 = some (.iinc 3 1, 3)) rfl).trans ?_
  refine (px_goto (off := (-37)) (tgt := 2) (by decide +kernel)).trans ?_
  exact Iff.rfl
theorem b286_42 {d : Nat} {G : PG} {M T : PH} {K : PV → PS → Prop} {l0 l1 l2 l3 : Int} : pm_Run d 286 42 [.inr (.inr (.inl l0)), .inl l1, .inl l2, .inl l3] [] (G, M, T) K ↔ K PU (G, M, T) := by
  refine (px_rv (by decide +kernel)).trans ?_
  exact Iff.rfl
-- X12_wished wished(III)I
theorem en287 {d : Nat} {a p0 p1 p2 : Int} {S : PS} {K : PV → PS → Prop} : pm_Call (d + 1) 287 [.inr (.inr (.inl a)), .inl p0, .inl p1, .inl p2] S K ↔ pm_Run d 287 0 [.inr (.inr (.inl a)), .inl p0, .inl p1, .inl p2, PU, PU, PU] [] S K := pm_Call_s.trans (and_iff_right (show 4 ≤ pm_ml 287 from by decide +kernel))
theorem b287_0 {d : Nat} {G : PG} {M T : PH} {K : PV → PS → Prop} {l0 l1 l2 l3 : Int} (h1 : pm_ob G l0 12) : pm_Run d 287 0 [.inr (.inr (.inl l0)), .inl l1, .inl l2, .inl l3, PU, PU, PU] [] (G, M, T) K ↔ pm_Call d 229 [.inr (.inr (.inl l0)), .inl l1] (G, M, T) (fun r S1 => pm_Run d 287 5 [.inr (.inr (.inl l0)), .inl l1, .inl l2, .inl l3, PU, PU, PU] (pm_push r []) S1 K) := by
  refine (px_go (by decide +kernel : pm_fe 287 0 = some (.aload_n 0, 1)) rfl).trans ?_
  refine (px_go (by decide +kernel : pm_fe 287 1 = some (.iload_n 1, 1)) rfl).trans ?_
  refine (px_v1 (idx := 544) (m' := 229) (ci := 12) (by decide +kernel)).trans ((and_iff_right ⟨h1, (by simp [pm_wl_n, pm_wl_c, pm_w] : pm_wl [] ≤ 8)⟩).trans ?_)
  exact Iff.rfl
theorem b287_5 {d : Nat} {G : PG} {M T : PH} {K : PV → PS → Prop} {l0 l1 l2 l3 s0 : Int} : pm_Run d 287 5 [.inr (.inr (.inl l0)), .inl l1, .inl l2, .inl l3, PU, PU, PU] [.inl s0] (G, M, T) K ↔ if pm_sg s0 = 0 then pm_Run d 287 34 [.inr (.inr (.inl l0)), .inl l1, .inl l2, .inl l3, PU, PU, PU] [] (G, M, T) K else pm_Run d 287 8 [.inr (.inr (.inl l0)), .inl l1, .inl l2, .inl l3, PU, PU, PU] [] (G, M, T) K := by
  refine (px_if_eq (off := 29) (tgt := 34) (by decide +kernel)).trans ?_
  exact Iff.rfl
theorem b287_8 {d : Nat} {G : PG} {M T : PH} {K : PV → PS → Prop} {l0 l1 l2 l3 : Int} : pm_Run d 287 8 [.inr (.inr (.inl l0)), .inl l1, .inl l2, .inl l3, PU, PU, PU] [] (G, M, T) K ↔ pm_Call d 179 [.inl l2, .inl (-999), .inl 999] (G, M, T) (fun r S1 => pm_Run d 287 18 [.inr (.inr (.inl l0)), .inl l1, .inl l2, .inl l3, PU, PU, PU] (pm_push r []) S1 K) := by
  refine (px_go (by decide +kernel : pm_fe 287 8 = some (.iload_n 2, 1)) rfl).trans ?_
  refine (px_go (by decide +kernel : pm_fe 287 9 = some (.sipush (-999), 3)) rfl).trans ?_
  refine (px_go (by decide +kernel : pm_fe 287 12 = some (.sipush 999, 3)) rfl).trans ?_
  refine (px_s3 (idx := 337) (m' := 179) (nest := 0) (by decide +kernel)).trans ((and_iff_right (by simp [pm_wl_n, pm_wl_c, pm_w] : pm_wl [] ≤ 8)).trans ?_)
  exact Iff.rfl
theorem b287_18 {d : Nat} {G : PG} {M T : PH} {K : PV → PS → Prop} {l0 l1 l2 l3 s0 : Int} : pm_Run d 287 18 [.inr (.inr (.inl l0)), .inl l1, .inl l2, .inl l3, PU, PU, PU] [.inl s0] (G, M, T) K ↔ if pm_sg s0 = 0 then pm_Run d 287 34 [.inr (.inr (.inl l0)), .inl l1, .inl l2, .inl l3, PU, PU, PU] [] (G, M, T) K else pm_Run d 287 21 [.inr (.inr (.inl l0)), .inl l1, .inl l2, .inl l3, PU, PU, PU] [] (G, M, T) K := by
  refine (px_if_eq (off := 16) (tgt := 34) (by decide +kernel)).trans ?_
  exact Iff.rfl
theorem b287_21 {d : Nat} {G : PG} {M T : PH} {K : PV → PS → Prop} {l0 l1 l2 l3 : Int} : pm_Run d 287 21 [.inr (.inr (.inl l0)), .inl l1, .inl l2, .inl l3, PU, PU, PU] [] (G, M, T) K ↔ if pm_sg l3 = pm_sg (-1) then pm_Run d 287 36 [.inr (.inr (.inl l0)), .inl l1, .inl l2, .inl l3, PU, PU, PU] [] (G, M, T) K else pm_Run d 287 26 [.inr (.inr (.inl l0)), .inl l1, .inl l2, .inl l3, PU, PU, PU] [] (G, M, T) K := by
  refine (px_go (by decide +kernel : pm_fe 287 21 = some (.iload_n 3, 1)) rfl).trans ?_
  refine (px_go (by decide +kernel : pm_fe 287 22 = some (.iconst (-1), 1)) rfl).trans ?_
  refine (px_ic_eq (off := 13) (tgt := 36) (by decide +kernel)).trans ?_
  exact Iff.rfl
theorem b287_26 {d : Nat} {G : PG} {M T : PH} {K : PV → PS → Prop} {l0 l1 l2 l3 : Int} (h1 : pm_ob G l0 12) : pm_Run d 287 26 [.inr (.inr (.inl l0)), .inl l1, .inl l2, .inl l3, PU, PU, PU] [] (G, M, T) K ↔ pm_Call d 228 [.inr (.inr (.inl l0)), .inl l3] (G, M, T) (fun r S1 => pm_Run d 287 31 [.inr (.inr (.inl l0)), .inl l1, .inl l2, .inl l3, PU, PU, PU] (pm_push r []) S1 K) := by
  refine (px_go (by decide +kernel : pm_fe 287 26 = some (.aload_n 0, 1)) rfl).trans ?_
  refine (px_go (by decide +kernel : pm_fe 287 27 = some (.iload_n 3, 1)) rfl).trans ?_
  refine (px_v1 (idx := 535) (m' := 228) (ci := 12) (by decide +kernel)).trans ((and_iff_right ⟨h1, (by simp [pm_wl_n, pm_wl_c, pm_w] : pm_wl [] ≤ 8)⟩).trans ?_)
  exact Iff.rfl
theorem b287_31 {d : Nat} {G : PG} {M T : PH} {K : PV → PS → Prop} {l0 l1 l2 l3 s0 : Int} : pm_Run d 287 31 [.inr (.inr (.inl l0)), .inl l1, .inl l2, .inl l3, PU, PU, PU] [.inl s0] (G, M, T) K ↔ if pm_sg s0 ≠ 0 then pm_Run d 287 36 [.inr (.inr (.inl l0)), .inl l1, .inl l2, .inl l3, PU, PU, PU] [] (G, M, T) K else pm_Run d 287 34 [.inr (.inr (.inl l0)), .inl l1, .inl l2, .inl l3, PU, PU, PU] [] (G, M, T) K := by
  refine (px_if_ne (off := 5) (tgt := 36) (by decide +kernel)).trans ?_
  exact Iff.rfl
theorem b287_34 {d : Nat} {G : PG} {M T : PH} {K : PV → PS → Prop} {l0 l1 l2 l3 : Int} : pm_Run d 287 34 [.inr (.inr (.inl l0)), .inl l1, .inl l2, .inl l3, PU, PU, PU] [] (G, M, T) K ↔ K (.inl (-1)) (G, M, T) := by
  refine (px_go (by decide +kernel : pm_fe 287 34 = some (.iconst (-1), 1)) rfl).trans ?_
  refine (px_ri (by decide +kernel)).trans ?_
  exact Iff.rfl
theorem b287_36 {d : Nat} {G : PG} {M T : PH} {K : PV → PS → Prop} {l0 l1 l2 l3 : Int} (h1 : pm_ob G l0 12) : pm_Run d 287 36 [.inr (.inr (.inl l0)), .inl l1, .inl l2, .inl l3, PU, PU, PU] [] (G, M, T) K ↔ pm_Call d 232 [.inr (.inr (.inl l0)), .inl 1, .inl 0] (G, M, T) (fun r S1 => pm_Run d 287 42 [.inr (.inr (.inl l0)), .inl l1, .inl l2, .inl l3, PU, PU, PU] (pm_push r []) S1 K) := by
  refine (px_go (by decide +kernel : pm_fe 287 36 = some (.aload_n 0, 1)) rfl).trans ?_
  refine (px_go (by decide +kernel : pm_fe 287 37 = some (.iconst 1, 1)) rfl).trans ?_
  refine (px_go (by decide +kernel : pm_fe 287 38 = some (.iconst 0, 1)) rfl).trans ?_
  refine (px_v2 (idx := 445) (m' := 232) (ci := 12) (by decide +kernel)).trans ((and_iff_right ⟨h1, (by simp [pm_wl_n, pm_wl_c, pm_w] : pm_wl [] ≤ 8)⟩).trans ?_)
  exact Iff.rfl
theorem b287_42 {d : Nat} {G : PG} {M T : PH} {K : PV → PS → Prop} {l0 l1 l2 l3 : Int} : pm_Run d 287 42 [.inr (.inr (.inl l0)), .inl l1, .inl l2, .inl l3, PU, PU, PU] [] (G, M, T) K ↔ pm_Run d 287 48 [.inr (.inr (.inl l0)), .inl l1, .inl l2, .inl l3, .inl (-1), .inl 0, PU] [] (G, M, T) K := by
  refine (px_go (by decide +kernel : pm_fe 287 42 = some (.iconst (-1), 1)) rfl).trans ?_
  refine (px_go (by decide +kernel : pm_fe 287 43 = some (.istore 4, 2)) rfl).trans ?_
  refine (px_go (by decide +kernel : pm_fe 287 45 = some (.iconst 0, 1)) rfl).trans ?_
  refine (px_go (by decide +kernel : pm_fe 287 46 = some (.istore 5, 2)) rfl).trans ?_
  exact Iff.rfl
theorem b287_48 {d : Nat} {G : PG} {M T : PH} {K : PV → PS → Prop} {l0 l1 l2 l3 l4 l5 : Int} {l6 : PV} (h1 : pm_ob G l0 12) : pm_Run d 287 48 [.inr (.inr (.inl l0)), .inl l1, .inl l2, .inl l3, .inl l4, .inl l5, l6] [] (G, M, T) K ↔ pm_Call d 285 [.inr (.inr (.inl l0)), .inl 11] (G, M, T) (fun r S1 => pm_Run d 287 56 [.inr (.inr (.inl l0)), .inl l1, .inl l2, .inl l3, .inl l4, .inl l5, l6] (pm_push r [.inl l5]) S1 K) := by
  refine (px_go (by decide +kernel : pm_fe 287 48 = some (.iload 5, 2)) rfl).trans ?_
  refine (px_go (by decide +kernel : pm_fe 287 50 = some (.aload_n 0, 1)) rfl).trans ?_
  refine (px_go (by decide +kernel : pm_fe 287 51 = some (.bipush 11, 2)) rfl).trans ?_
  refine (px_v1 (idx := 586) (m' := 285) (ci := 12) (by decide +kernel)).trans ((and_iff_right ⟨h1, (by simp [pm_wl_n, pm_wl_c, pm_w] : pm_wl [.inl l5] ≤ 8)⟩).trans ?_)
  exact Iff.rfl
theorem b287_56 {d : Nat} {G : PG} {M T : PH} {K : PV → PS → Prop} {l0 l1 l2 l3 l4 l5 s0 s1 : Int} {l6 : PV} : pm_Run d 287 56 [.inr (.inr (.inl l0)), .inl l1, .inl l2, .inl l3, .inl l4, .inl l5, l6] [.inl s0, .inl s1] (G, M, T) K ↔ if pm_sg s0 ≤ pm_sg s1 then pm_Run d 287 125 [.inr (.inr (.inl l0)), .inl l1, .inl l2, .inl l3, .inl l4, .inl l5, l6] [] (G, M, T) K else pm_Run d 287 59 [.inr (.inr (.inl l0)), .inl l1, .inl l2, .inl l3, .inl l4, .inl l5, l6] [] (G, M, T) K := by
  refine (px_ic_ge (off := 69) (tgt := 125) (by decide +kernel)).trans ?_
  exact Iff.rfl
theorem b287_59 {d : Nat} {G : PG} {M T : PH} {K : PV → PS → Prop} {l0 l1 l2 l3 l4 l5 : Int} {l6 : PV} (h1 : pm_ob G l0 12) : pm_Run d 287 59 [.inr (.inr (.inl l0)), .inl l1, .inl l2, .inl l3, .inl l4, .inl l5, l6] [] (G, M, T) K ↔ pm_Call d 284 [.inr (.inr (.inl l0)), .inl 1, .inl l1, .inl l5, .inl 11] (G, M, T) (fun r S1 => pm_Run d 287 69 [.inr (.inr (.inl l0)), .inl l1, .inl l2, .inl l3, .inl l4, .inl l5, l6] (pm_push r []) S1 K) := by
  refine (px_go (by decide +kernel : pm_fe 287 59 = some (.aload_n 0, 1)) rfl).trans ?_
  refine (px_go (by decide +kernel : pm_fe 287 60 = some (.iconst 1, 1)) rfl).trans ?_
  refine (px_go (by decide +kernel : pm_fe 287 61 = some (.iload_n 1, 1)) rfl).trans ?_
  refine (px_go (by decide +kernel : pm_fe 287 62 = some (.iload 5, 2)) rfl).trans ?_
  refine (px_go (by decide +kernel : pm_fe 287 64 = some (.bipush 11, 2)) rfl).trans ?_
  refine (px_v4 (idx := 589) (m' := 284) (ci := 12) (by decide +kernel)).trans ((and_iff_right ⟨h1, (by simp [pm_wl_n, pm_wl_c, pm_w] : pm_wl [] ≤ 8)⟩).trans ?_)
  exact Iff.rfl
theorem b287_69 {d : Nat} {G : PG} {M T : PH} {K : PV → PS → Prop} {l0 l1 l2 l3 l4 l5 s0 : Int} {l6 : PV} : pm_Run d 287 69 [.inr (.inr (.inl l0)), .inl l1, .inl l2, .inl l3, .inl l4, .inl l5, l6] [.inl s0] (G, M, T) K ↔ if pm_sg l4 = pm_sg (-1) then pm_Run d 287 87 [.inr (.inr (.inl l0)), .inl l1, .inl l2, .inl l3, .inl l4, .inl l5, .inl s0] [] (G, M, T) K else pm_Run d 287 77 [.inr (.inr (.inl l0)), .inl l1, .inl l2, .inl l3, .inl l4, .inl l5, .inl s0] [] (G, M, T) K := by
  refine (px_go (by decide +kernel : pm_fe 287 69 = some (.istore 6, 2)) rfl).trans ?_
  refine (px_go (by decide +kernel : pm_fe 287 71 = some (.iload 4, 2)) rfl).trans ?_
  refine (px_go (by decide +kernel : pm_fe 287 73 = some (.iconst (-1), 1)) rfl).trans ?_
  refine (px_ic_eq (off := 13) (tgt := 87) (by decide +kernel)).trans ?_
  exact Iff.rfl
theorem b287_77 {d : Nat} {G : PG} {M T : PH} {K : PV → PS → Prop} {l0 l1 l2 l3 l4 l5 l6 : Int} : pm_Run d 287 77 [.inr (.inr (.inl l0)), .inl l1, .inl l2, .inl l3, .inl l4, .inl l5, .inl l6] [] (G, M, T) K ↔ if pm_sg l6 < pm_sg l4 then pm_Run d 287 87 [.inr (.inr (.inl l0)), .inl l1, .inl l2, .inl l3, .inl l4, .inl l5, .inl l6] [] (G, M, T) K else pm_Run d 287 84 [.inr (.inr (.inl l0)), .inl l1, .inl l2, .inl l3, .inl l4, .inl l5, .inl l6] [] (G, M, T) K := by
  refine (px_go (by decide +kernel : pm_fe 287 77 = some (.iload 6, 2)) rfl).trans ?_
  refine (px_go (by decide +kernel : pm_fe 287 79 = some (.iload 4, 2)) rfl).trans ?_
  refine (px_ic_lt (off := 6) (tgt := 87) (by decide +kernel)).trans ?_
  exact Iff.rfl
theorem b287_84 {d : Nat} {G : PG} {M T : PH} {K : PV → PS → Prop} {l0 l1 l2 l3 l4 l5 l6 : Int} : pm_Run d 287 84 [.inr (.inr (.inl l0)), .inl l1, .inl l2, .inl l3, .inl l4, .inl l5, .inl l6] [] (G, M, T) K ↔ pm_Run d 287 119 [.inr (.inr (.inl l0)), .inl l1, .inl l2, .inl l3, .inl l4, .inl l5, .inl l6] [] (G, M, T) K := by
  refine (px_goto (off := 35) (tgt := 119) (by decide +kernel)).trans ?_
  exact Iff.rfl
theorem b287_87 {d : Nat} {G : PG} {M T : PH} {K : PV → PS → Prop} {l0 l1 l2 l3 l4 l5 l6 : Int} (h1 : pm_ob G l0 12) : pm_Run d 287 87 [.inr (.inr (.inl l0)), .inl l1, .inl l2, .inl l3, .inl l4, .inl l5, .inl l6] [] (G, M, T) K ↔ pm_Call d 255 [.inr (.inr (.inl l0)), .inl 1] (G, M, T) (fun r S1 => pm_Run d 287 92 [.inr (.inr (.inl l0)), .inl l1, .inl l2, .inl l3, .inl l4, .inl l5, .inl l6] (pm_push r []) S1 K) := by
  refine (px_go (by decide +kernel : pm_fe 287 87 = some (.aload_n 0, 1)) rfl).trans ?_
  refine (px_go (by decide +kernel : pm_fe 287 88 = some (.iconst 1, 1)) rfl).trans ?_
  refine (px_v1 (idx := 513) (m' := 255) (ci := 12) (by decide +kernel)).trans ((and_iff_right ⟨h1, (by simp [pm_wl_n, pm_wl_c, pm_w] : pm_wl [] ≤ 8)⟩).trans ?_)
  exact Iff.rfl
theorem b287_92 {d : Nat} {G : PG} {M T : PH} {K : PV → PS → Prop} {l0 l1 l2 l3 l4 l5 l6 : Int} (h1 : pm_ob G l0 12) : pm_Run d 287 92 [.inr (.inr (.inl l0)), .inl l1, .inl l2, .inl l3, .inl l4, .inl l5, .inl l6] [] (G, M, T) K ↔ pm_Call d 230 [.inr (.inr (.inl l0)), .inl l1] (G, M, T) (fun r S1 => pm_Run d 287 101 [.inr (.inr (.inl l0)), .inl l1, .inl l2, .inl l3, .inl l4, .inl l5, .inl l6] (pm_push r [.inr (.inr (.inl (T l0.toNat 68)))]) S1 K) := by
  refine (px_go (by decide +kernel : pm_fe 287 92 = some (.aload_n 0, 1)) rfl).trans ?_
  refine (px_get2 (idx := 219) (ci := 12) (k := 68) (by decide +kernel)).trans ((and_iff_right h1).trans ?_)
  refine (px_go (by decide +kernel : pm_fe 287 96 = some (.aload_n 0, 1)) rfl).trans ?_
  refine (px_go (by decide +kernel : pm_fe 287 97 = some (.iload_n 1, 1)) rfl).trans ?_
  refine (px_v1 (idx := 503) (m' := 230) (ci := 12) (by decide +kernel)).trans ((and_iff_right ⟨h1, (by simp [pm_wl_n, pm_wl_c, pm_w] : pm_wl [.inr (.inr (.inl (T l0.toNat 68)))] ≤ 8)⟩).trans ?_)
  exact Iff.rfl
theorem b287_101 {d : Nat} {G : PG} {M T : PH} {K : PV → PS → Prop} {l0 l1 l2 l3 l4 l5 l6 s0 s1 : Int} (h1 : pm_ar G s1 100 s0) : pm_Run d 287 101 [.inr (.inr (.inl l0)), .inl l1, .inl l2, .inl l3, .inl l4, .inl l5, .inl l6] [.inl s0, .inr (.inr (.inl s1))] (G, M, T) K ↔ if pm_sg l2 ≤ pm_sg (M s1.toNat (pm_sg s0).toNat) then pm_Run d 287 109 [.inr (.inr (.inl l0)), .inl l1, .inl l2, .inl l3, .inl l4, .inl l5, .inl l6] [] (G, M, T) K else pm_Run d 287 106 [.inr (.inr (.inl l0)), .inl l1, .inl l2, .inl l3, .inl l4, .inl l5, .inl l6] [] (G, M, T) K := by
  refine (px_iaload (by decide +kernel) h1).trans ?_
  refine (px_go (by decide +kernel : pm_fe 287 102 = some (.iload_n 2, 1)) rfl).trans ?_
  refine (px_ic_ge (off := 6) (tgt := 109) (by decide +kernel)).trans ?_
  exact Iff.rfl
theorem b287_106 {d : Nat} {G : PG} {M T : PH} {K : PV → PS → Prop} {l0 l1 l2 l3 l4 l5 l6 : Int} : pm_Run d 287 106 [.inr (.inr (.inl l0)), .inl l1, .inl l2, .inl l3, .inl l4, .inl l5, .inl l6] [] (G, M, T) K ↔ pm_Run d 287 119 [.inr (.inr (.inl l0)), .inl l1, .inl l2, .inl l3, .inl l4, .inl l5, .inl l6] [] (G, M, T) K := by
  refine (px_goto (off := 13) (tgt := 119) (by decide +kernel)).trans ?_
  exact Iff.rfl
theorem b287_109 {d : Nat} {G : PG} {M T : PH} {K : PV → PS → Prop} {l0 l1 l2 l3 l4 l5 l6 : Int} (h1 : pm_ob G l0 12) : pm_Run d 287 109 [.inr (.inr (.inl l0)), .inl l1, .inl l2, .inl l3, .inl l4, .inl l5, .inl l6] [] (G, M, T) K ↔ pm_Call d 286 [.inr (.inr (.inl l0)), .inl 1, .inl l1] (G, M, T) (fun r S1 => pm_Run d 287 119 [.inr (.inr (.inl l0)), .inl l1, .inl l2, .inl l3, .inl l6, .inl l5, .inl l6] (pm_push r []) S1 K) := by
  refine (px_go (by decide +kernel : pm_fe 287 109 = some (.iload 6, 2)) rfl).trans ?_
  refine (px_go (by decide +kernel : pm_fe 287 111 = some (.istore 4, 2)) rfl).trans ?_
  refine (px_go (by decide +kernel : pm_fe 287 113 = some (.aload_n 0, 1)) rfl).trans ?_
  refine (px_go (by decide +kernel : pm_fe 287 114 = some (.iconst 1, 1)) rfl).trans ?_
  refine (px_go (by decide +kernel : pm_fe 287 115 = some (.iload_n 1, 1)) rfl).trans ?_
  refine (px_v2 (idx := 593) (m' := 286) (ci := 12) (by decide +kernel)).trans ((and_iff_right ⟨h1, (by simp [pm_wl_n, pm_wl_c, pm_w] : pm_wl [] ≤ 8)⟩).trans ?_)
  exact Iff.rfl
theorem b287_119 {d : Nat} {G : PG} {M T : PH} {K : PV → PS → Prop} {l0 l1 l2 l3 l4 l5 l6 : Int} : pm_Run d 287 119 [.inr (.inr (.inl l0)), .inl l1, .inl l2, .inl l3, .inl l4, .inl l5, .inl l6] [] (G, M, T) K ↔ pm_Run d 287 48 [.inr (.inr (.inl l0)), .inl l1, .inl l2, .inl l3, .inl l4, .inl (l5 + 1), .inl l6] [] (G, M, T) K := by
  refine (px_go (by decide +kernel : pm_fe 287 119 = some (.iinc 5 1, 3)) rfl).trans ?_
  refine (px_goto (off := (-74)) (tgt := 48) (by decide +kernel)).trans ?_
  exact Iff.rfl
theorem b287_125 {d : Nat} {G : PG} {M T : PH} {K : PV → PS → Prop} {l0 l1 l2 l3 l4 l5 : Int} {l6 : PV} : pm_Run d 287 125 [.inr (.inr (.inl l0)), .inl l1, .inl l2, .inl l3, .inl l4, .inl l5, l6] [] (G, M, T) K ↔ if pm_sg l4 = pm_sg (-1) then pm_Run d 287 136 [.inr (.inr (.inl l0)), .inl l1, .inl l2, .inl l3, .inl l4, .inl l5, l6] [] (G, M, T) K else pm_Run d 287 131 [.inr (.inr (.inl l0)), .inl l1, .inl l2, .inl l3, .inl l4, .inl l5, l6] [] (G, M, T) K := by
  refine (px_go (by decide +kernel : pm_fe 287 125 = some (.iload 4, 2)) rfl).trans ?_
  refine (px_go (by decide +kernel : pm_fe 287 127 = some (.iconst (-1), 1)) rfl).trans ?_
  refine (px_ic_eq (off := 8) (tgt := 136) (by decide +kernel)).trans ?_
  exact Iff.rfl
theorem b287_131 {d : Nat} {G : PG} {M T : PH} {K : PV → PS → Prop} {l0 l1 l2 l3 l4 l5 : Int} {l6 : PV} : pm_Run d 287 131 [.inr (.inr (.inl l0)), .inl l1, .inl l2, .inl l3, .inl l4, .inl l5, l6] [] (G, M, T) K ↔ if pm_sg l3 ≠ pm_sg (-1) then pm_Run d 287 141 [.inr (.inr (.inl l0)), .inl l1, .inl l2, .inl l3, .inl l4, .inl l5, l6] [] (G, M, T) K else pm_Run d 287 136 [.inr (.inr (.inl l0)), .inl l1, .inl l2, .inl l3, .inl l4, .inl l5, l6] [] (G, M, T) K := by
  refine (px_go (by decide +kernel : pm_fe 287 131 = some (.iload_n 3, 1)) rfl).trans ?_
  refine (px_go (by decide +kernel : pm_fe 287 132 = some (.iconst (-1), 1)) rfl).trans ?_
  refine (px_ic_ne (off := 8) (tgt := 141) (by decide +kernel)).trans ?_
  exact Iff.rfl
theorem b287_136 {d : Nat} {G : PG} {M T : PH} {K : PV → PS → Prop} {l0 l1 l2 l3 l4 l5 : Int} {l6 : PV} : pm_Run d 287 136 [.inr (.inr (.inl l0)), .inl l1, .inl l2, .inl l3, .inl l4, .inl l5, l6] [] (G, M, T) K ↔ pm_Run d 287 147 [.inr (.inr (.inl l0)), .inl l1, .inl l2, .inl l3, .inl l4, .inl l5, l6] [.inl l4] (G, M, T) K := by
  refine (px_go (by decide +kernel : pm_fe 287 136 = some (.iload 4, 2)) rfl).trans ?_
  refine (px_goto (off := 9) (tgt := 147) (by decide +kernel)).trans ?_
  exact Iff.rfl
theorem b287_141 {d : Nat} {G : PG} {M T : PH} {K : PV → PS → Prop} {l0 l1 l2 l3 l4 l5 : Int} {l6 : PV} (h1 : pm_ob G l0 12) (h2 : pm_ar G (T l0.toNat 69) 100 l3) : pm_Run d 287 141 [.inr (.inr (.inl l0)), .inl l1, .inl l2, .inl l3, .inl l4, .inl l5, l6] [] (G, M, T) K ↔ pm_Run d 287 147 [.inr (.inr (.inl l0)), .inl l1, .inl l2, .inl l3, .inl l4, .inl l5, l6] [.inl (M (T l0.toNat 69).toNat (pm_sg l3).toNat)] (G, M, T) K := by
  refine (px_go (by decide +kernel : pm_fe 287 141 = some (.aload_n 0, 1)) rfl).trans ?_
  refine (px_get2 (idx := 222) (ci := 12) (k := 69) (by decide +kernel)).trans ((and_iff_right h1).trans ?_)
  refine (px_go (by decide +kernel : pm_fe 287 145 = some (.iload_n 3, 1)) rfl).trans ?_
  refine (px_iaload (by decide +kernel) h2).trans ?_
  exact Iff.rfl
theorem b287_147 {d : Nat} {G : PG} {M T : PH} {K : PV → PS → Prop} {l0 l1 l2 l3 l4 l5 s0 : Int} {l6 : PV} : pm_Run d 287 147 [.inr (.inr (.inl l0)), .inl l1, .inl l2, .inl l3, .inl l4, .inl l5, l6] [.inl s0] (G, M, T) K ↔ K (.inl s0) (G, M, T) := by
  refine (px_ri (by decide +kernel)).trans ?_
  exact Iff.rfl
-- X12_gainOf gainOf(II)I
theorem en288 {d : Nat} {a p0 p1 : Int} {S : PS} {K : PV → PS → Prop} : pm_Call (d + 1) 288 [.inr (.inr (.inl a)), .inl p0, .inl p1] S K ↔ pm_Run d 288 0 [.inr (.inr (.inl a)), .inl p0, .inl p1] [] S K := pm_Call_s.trans (and_iff_right (show 3 ≤ pm_ml 288 from by decide +kernel))
theorem b288_0 {d : Nat} {G : PG} {M T : PH} {K : PV → PS → Prop} {l0 l1 l2 : Int} (h1 : pm_ob G l0 12) : pm_Run d 288 0 [.inr (.inr (.inl l0)), .inl l1, .inl l2] [] (G, M, T) K ↔ pm_Call d 255 [.inr (.inr (.inl l0)), .inl l1] (G, M, T) (fun r S1 => pm_Run d 288 5 [.inr (.inr (.inl l0)), .inl l1, .inl l2] (pm_push r []) S1 K) := by
  refine (px_go (by decide +kernel : pm_fe 288 0 = some (.aload_n 0, 1)) rfl).trans ?_
  refine (px_go (by decide +kernel : pm_fe 288 1 = some (.iload_n 1, 1)) rfl).trans ?_
  refine (px_v1 (idx := 513) (m' := 255) (ci := 12) (by decide +kernel)).trans ((and_iff_right ⟨h1, (by simp [pm_wl_n, pm_wl_c, pm_w] : pm_wl [] ≤ 8)⟩).trans ?_)
  exact Iff.rfl
theorem b288_5 {d : Nat} {G : PG} {M T : PH} {K : PV → PS → Prop} {l0 l1 l2 : Int} (h1 : pm_ob G l0 12) : pm_Run d 288 5 [.inr (.inr (.inl l0)), .inl l1, .inl l2] [] (G, M, T) K ↔ pm_Call d 230 [.inr (.inr (.inl l0)), .inl l2] (G, M, T) (fun r S1 => pm_Run d 288 14 [.inr (.inr (.inl l0)), .inl l1, .inl l2] (pm_push r [.inr (.inr (.inl (T l0.toNat 68)))]) S1 K) := by
  refine (px_go (by decide +kernel : pm_fe 288 5 = some (.aload_n 0, 1)) rfl).trans ?_
  refine (px_get2 (idx := 219) (ci := 12) (k := 68) (by decide +kernel)).trans ((and_iff_right h1).trans ?_)
  refine (px_go (by decide +kernel : pm_fe 288 9 = some (.aload_n 0, 1)) rfl).trans ?_
  refine (px_go (by decide +kernel : pm_fe 288 10 = some (.iload_n 2, 1)) rfl).trans ?_
  refine (px_v1 (idx := 503) (m' := 230) (ci := 12) (by decide +kernel)).trans ((and_iff_right ⟨h1, (by simp [pm_wl_n, pm_wl_c, pm_w] : pm_wl [.inr (.inr (.inl (T l0.toNat 68)))] ≤ 8)⟩).trans ?_)
  exact Iff.rfl
theorem b288_14 {d : Nat} {G : PG} {M T : PH} {K : PV → PS → Prop} {l0 l1 l2 s0 s1 : Int} (h1 : pm_ar G s1 100 s0) (h2 : pm_ob G l0 12) : pm_Run d 288 14 [.inr (.inr (.inl l0)), .inl l1, .inl l2] [.inl s0, .inr (.inr (.inl s1))] (G, M, T) K ↔ pm_Call d 239 [.inr (.inr (.inl l0)), .inl l1, .inl l2] (G, M, T) (fun r S1 => pm_Run d 288 21 [.inr (.inr (.inl l0)), .inl l1, .inl l2] (pm_push r [.inl (M s1.toNat (pm_sg s0).toNat)]) S1 K) := by
  refine (px_iaload (by decide +kernel) h1).trans ?_
  refine (px_go (by decide +kernel : pm_fe 288 15 = some (.aload_n 0, 1)) rfl).trans ?_
  refine (px_go (by decide +kernel : pm_fe 288 16 = some (.iload_n 1, 1)) rfl).trans ?_
  refine (px_go (by decide +kernel : pm_fe 288 17 = some (.iload_n 2, 1)) rfl).trans ?_
  refine (px_v2 (idx := 457) (m' := 239) (ci := 12) (by decide +kernel)).trans ((and_iff_right ⟨h2, (by simp [pm_wl_n, pm_wl_c, pm_w] : pm_wl [.inl (M s1.toNat (pm_sg s0).toNat)] ≤ 8)⟩).trans ?_)
  exact Iff.rfl
theorem b288_21 {d : Nat} {G : PG} {M T : PH} {K : PV → PS → Prop} {l0 l1 l2 s0 s1 : Int} : pm_Run d 288 21 [.inr (.inr (.inl l0)), .inl l1, .inl l2] [.inl s0, .inl s1] (G, M, T) K ↔ K (.inl (s1 - s0)) (G, M, T) := by
  refine (px_go (by decide +kernel : pm_fe 288 21 = some (.isub, 1)) rfl).trans ?_
  refine (px_ri (by decide +kernel)).trans ?_
  exact Iff.rfl
-- X12_isLow isLow(II)Z
theorem en289 {d : Nat} {a p0 p1 : Int} {S : PS} {K : PV → PS → Prop} : pm_Call (d + 1) 289 [.inr (.inr (.inl a)), .inl p0, .inl p1] S K ↔ pm_Run d 289 0 [.inr (.inr (.inl a)), .inl p0, .inl p1, PU] [] S K := pm_Call_s.trans (and_iff_right (show 3 ≤ pm_ml 289 from by decide +kernel))
theorem b289_0 {d : Nat} {G : PG} {M T : PH} {K : PV → PS → Prop} {l0 l1 l2 : Int} : pm_Run d 289 0 [.inr (.inr (.inl l0)), .inl l1, .inl l2, PU] [] (G, M, T) K ↔ pm_Run d 289 2 [.inr (.inr (.inl l0)), .inl l1, .inl l2, .inl 0] [] (G, M, T) K := by
  refine (px_go (by decide +kernel : pm_fe 289 0 = some (.iconst 0, 1)) rfl).trans ?_
  refine (px_go (by decide +kernel : pm_fe 289 1 = some (.istore_n 3, 1)) rfl).trans ?_
  exact Iff.rfl
theorem b289_2 {d : Nat} {G : PG} {M T : PH} {K : PV → PS → Prop} {l0 l1 l2 l3 : Int} (h1 : pm_ob G l0 12) (h2 : pm_ar G (T l0.toNat 15) 100 (M l0.toNat 13)) : pm_Run d 289 2 [.inr (.inr (.inl l0)), .inl l1, .inl l2, .inl l3] [] (G, M, T) K ↔ if pm_sg (M (T l0.toNat 15).toNat (pm_sg (M l0.toNat 13)).toNat) ≤ pm_sg l3 then pm_Run d 289 42 [.inr (.inr (.inl l0)), .inl l1, .inl l2, .inl l3] [] (G, M, T) K else pm_Run d 289 15 [.inr (.inr (.inl l0)), .inl l1, .inl l2, .inl l3] [] (G, M, T) K := by
  refine (px_go (by decide +kernel : pm_fe 289 2 = some (.iload_n 3, 1)) rfl).trans ?_
  refine (px_go (by decide +kernel : pm_fe 289 3 = some (.aload_n 0, 1)) rfl).trans ?_
  refine (px_get2 (idx := 57) (ci := 12) (k := 15) (by decide +kernel)).trans ((and_iff_right h1).trans ?_)
  refine (px_go (by decide +kernel : pm_fe 289 7 = some (.aload_n 0, 1)) rfl).trans ?_
  refine (px_get0 (idx := 51) (ci := 12) (k := 13) (by decide +kernel)).trans ((and_iff_right h1).trans ?_)
  refine (px_iaload (by decide +kernel) h2).trans ?_
  refine (px_ic_ge (off := 30) (tgt := 42) (by decide +kernel)).trans ?_
  exact Iff.rfl
theorem b289_15 {d : Nat} {G : PG} {M T : PH} {K : PV → PS → Prop} {l0 l1 l2 l3 : Int} (h1 : pm_ob G l0 12) (h2 : pm_ar G (T l0.toNat 58) 100 (((24 * l1) + (3 * l2)) + l3)) : pm_Run d 289 15 [.inr (.inr (.inl l0)), .inl l1, .inl l2, .inl l3] [] (G, M, T) K ↔ if pm_sg (M (T l0.toNat 58).toNat (pm_sg (((24 * l1) + (3 * l2)) + l3)).toNat) ≤ pm_sg 4 then pm_Run d 289 36 [.inr (.inr (.inl l0)), .inl l1, .inl l2, .inl l3] [] (G, M, T) K else pm_Run d 289 34 [.inr (.inr (.inl l0)), .inl l1, .inl l2, .inl l3] [] (G, M, T) K := by
  refine (px_go (by decide +kernel : pm_fe 289 15 = some (.aload_n 0, 1)) rfl).trans ?_
  refine (px_get2 (idx := 189) (ci := 12) (k := 58) (by decide +kernel)).trans ((and_iff_right h1).trans ?_)
  refine (px_go (by decide +kernel : pm_fe 289 19 = some (.bipush 24, 2)) rfl).trans ?_
  refine (px_go (by decide +kernel : pm_fe 289 21 = some (.iload_n 1, 1)) rfl).trans ?_
  refine (px_go (by decide +kernel : pm_fe 289 22 = some (.imul, 1)) rfl).trans ?_
  refine (px_go (by decide +kernel : pm_fe 289 23 = some (.iconst 3, 1)) rfl).trans ?_
  refine (px_go (by decide +kernel : pm_fe 289 24 = some (.iload_n 2, 1)) rfl).trans ?_
  refine (px_go (by decide +kernel : pm_fe 289 25 = some (.imul, 1)) rfl).trans ?_
  refine (px_go (by decide +kernel : pm_fe 289 26 = some (.iadd, 1)) rfl).trans ?_
  refine (px_go (by decide +kernel : pm_fe 289 27 = some (.iload_n 3, 1)) rfl).trans ?_
  refine (px_go (by decide +kernel : pm_fe 289 28 = some (.iadd, 1)) rfl).trans ?_
  refine (px_iaload (by decide +kernel) h2).trans ?_
  refine (px_go (by decide +kernel : pm_fe 289 30 = some (.iconst 4, 1)) rfl).trans ?_
  refine (px_ic_le (off := 5) (tgt := 36) (by decide +kernel)).trans ?_
  exact Iff.rfl
theorem b289_34 {d : Nat} {G : PG} {M T : PH} {K : PV → PS → Prop} {l0 l1 l2 l3 : Int} : pm_Run d 289 34 [.inr (.inr (.inl l0)), .inl l1, .inl l2, .inl l3] [] (G, M, T) K ↔ K (.inl 0) (G, M, T) := by
  refine (px_go (by decide +kernel : pm_fe 289 34 = some (.iconst 0, 1)) rfl).trans ?_
  refine (px_rz (by decide +kernel)).trans ((and_iff_right (by decide : (0 : Int) = (0 : Int) ∨ (0 : Int) = (1 : Int))).trans ?_)
  exact Iff.rfl
theorem b289_36 {d : Nat} {G : PG} {M T : PH} {K : PV → PS → Prop} {l0 l1 l2 l3 : Int} : pm_Run d 289 36 [.inr (.inr (.inl l0)), .inl l1, .inl l2, .inl l3] [] (G, M, T) K ↔ pm_Run d 289 2 [.inr (.inr (.inl l0)), .inl l1, .inl l2, .inl (l3 + 1)] [] (G, M, T) K := by
  refine (px_go (by decide +kernel : pm_fe 289 36 = some (.iinc 3 1, 3)) rfl).trans ?_
  refine (px_goto (off := (-37)) (tgt := 2) (by decide +kernel)).trans ?_
  exact Iff.rfl
theorem b289_42 {d : Nat} {G : PG} {M T : PH} {K : PV → PS → Prop} {l0 l1 l2 l3 : Int} : pm_Run d 289 42 [.inr (.inr (.inl l0)), .inl l1, .inl l2, .inl l3] [] (G, M, T) K ↔ K (.inl 1) (G, M, T) := by
  refine (px_go (by decide +kernel : pm_fe 289 42 = some (.iconst 1, 1)) rfl).trans ?_
  refine (px_rz (by decide +kernel)).trans ((and_iff_right (by decide : (1 : Int) = (0 : Int) ∨ (1 : Int) = (1 : Int))).trans ?_)
  exact Iff.rfl
-- X12_takesBest takesBest(I)Z
theorem en290 {d : Nat} {a p0 : Int} {S : PS} {K : PV → PS → Prop} : pm_Call (d + 1) 290 [.inr (.inr (.inl a)), .inl p0] S K ↔ pm_Run d 290 0 [.inr (.inr (.inl a)), .inl p0, PU, PU, PU, PU, PU] [] S K := pm_Call_s.trans (and_iff_right (show 2 ≤ pm_ml 290 from by decide +kernel))
theorem b290_0 {d : Nat} {G : PG} {M T : PH} {K : PV → PS → Prop} {l0 l1 : Int} (h1 : pm_ob G l0 12) : pm_Run d 290 0 [.inr (.inr (.inl l0)), .inl l1, PU, PU, PU, PU, PU] [] (G, M, T) K ↔ pm_Call d 289 [.inr (.inr (.inl l0)), .inl 1, .inl l1] (G, M, T) (fun r S1 => pm_Run d 290 8 [.inr (.inr (.inl l0)), .inl l1, .inl 0, PU, PU, PU, PU] (pm_push r []) S1 K) := by
  refine (px_go (by decide +kernel : pm_fe 290 0 = some (.iconst 0, 1)) rfl).trans ?_
  refine (px_go (by decide +kernel : pm_fe 290 1 = some (.istore_n 2, 1)) rfl).trans ?_
  refine (px_go (by decide +kernel : pm_fe 290 2 = some (.aload_n 0, 1)) rfl).trans ?_
  refine (px_go (by decide +kernel : pm_fe 290 3 = some (.iconst 1, 1)) rfl).trans ?_
  refine (px_go (by decide +kernel : pm_fe 290 4 = some (.iload_n 1, 1)) rfl).trans ?_
  refine (px_v2 (idx := 596) (m' := 289) (ci := 12) (by decide +kernel)).trans ((and_iff_right ⟨h1, (by simp [pm_wl_n, pm_wl_c, pm_w] : pm_wl [] ≤ 8)⟩).trans ?_)
  exact Iff.rfl
theorem b290_8 {d : Nat} {G : PG} {M T : PH} {K : PV → PS → Prop} {l0 l1 l2 s0 : Int} : pm_Run d 290 8 [.inr (.inr (.inl l0)), .inl l1, .inl l2, PU, PU, PU, PU] [.inl s0] (G, M, T) K ↔ pm_Run d 290 12 [.inr (.inr (.inl l0)), .inl l1, .inl l2, .inl s0, .inl 0, PU, PU] [] (G, M, T) K := by
  refine (px_go (by decide +kernel : pm_fe 290 8 = some (.istore_n 3, 1)) rfl).trans ?_
  refine (px_go (by decide +kernel : pm_fe 290 9 = some (.iconst 0, 1)) rfl).trans ?_
  refine (px_go (by decide +kernel : pm_fe 290 10 = some (.istore 4, 2)) rfl).trans ?_
  exact Iff.rfl
theorem b290_12 {d : Nat} {G : PG} {M T : PH} {K : PV → PS → Prop} {l0 l1 l2 l3 l4 : Int} (h1 : pm_ob G l0 12) (h2 : pm_ar G (T l0.toNat 15) 100 (M l0.toNat 13)) : pm_Run d 290 12 [.inr (.inr (.inl l0)), .inl l1, .inl l2, .inl l3, .inl l4, PU, PU] [] (G, M, T) K ↔ if pm_sg (M (T l0.toNat 15).toNat (pm_sg (M l0.toNat 13)).toNat) ≤ pm_sg l4 then pm_Run d 290 52 [.inr (.inr (.inl l0)), .inl l1, .inl l2, .inl l3, .inl l4, PU, PU] [] (G, M, T) K else pm_Run d 290 26 [.inr (.inr (.inl l0)), .inl l1, .inl l2, .inl l3, .inl l4, PU, PU] [] (G, M, T) K := by
  refine (px_go (by decide +kernel : pm_fe 290 12 = some (.iload 4, 2)) rfl).trans ?_
  refine (px_go (by decide +kernel : pm_fe 290 14 = some (.aload_n 0, 1)) rfl).trans ?_
  refine (px_get2 (idx := 57) (ci := 12) (k := 15) (by decide +kernel)).trans ((and_iff_right h1).trans ?_)
  refine (px_go (by decide +kernel : pm_fe 290 18 = some (.aload_n 0, 1)) rfl).trans ?_
  refine (px_get0 (idx := 51) (ci := 12) (k := 13) (by decide +kernel)).trans ((and_iff_right h1).trans ?_)
  refine (px_iaload (by decide +kernel) h2).trans ?_
  refine (px_ic_ge (off := 29) (tgt := 52) (by decide +kernel)).trans ?_
  exact Iff.rfl
theorem b290_26 {d : Nat} {G : PG} {M T : PH} {K : PV → PS → Prop} {l0 l1 l2 l3 l4 : Int} (h1 : pm_ob G l0 12) (h2 : pm_ar G (T l0.toNat 58) 100 ((24 + (3 * l1)) + l4)) : pm_Run d 290 26 [.inr (.inr (.inl l0)), .inl l1, .inl l2, .inl l3, .inl l4, PU, PU] [] (G, M, T) K ↔ pm_Run d 290 12 [.inr (.inr (.inl l0)), .inl l1, .inl ((21 * l2) + (M (T l0.toNat 58).toNat (pm_sg ((24 + (3 * l1)) + l4)).toNat)), .inl l3, .inl (l4 + 1), PU, PU] [] (G, M, T) K := by
  refine (px_go (by decide +kernel : pm_fe 290 26 = some (.bipush 21, 2)) rfl).trans ?_
  refine (px_go (by decide +kernel : pm_fe 290 28 = some (.iload_n 2, 1)) rfl).trans ?_
  refine (px_go (by decide +kernel : pm_fe 290 29 = some (.imul, 1)) rfl).trans ?_
  refine (px_go (by decide +kernel : pm_fe 290 30 = some (.aload_n 0, 1)) rfl).trans ?_
  refine (px_get2 (idx := 189) (ci := 12) (k := 58) (by decide +kernel)).trans ((and_iff_right h1).trans ?_)
  refine (px_go (by decide +kernel : pm_fe 290 34 = some (.bipush 24, 2)) rfl).trans ?_
  refine (px_go (by decide +kernel : pm_fe 290 36 = some (.iconst 3, 1)) rfl).trans ?_
  refine (px_go (by decide +kernel : pm_fe 290 37 = some (.iload_n 1, 1)) rfl).trans ?_
  refine (px_go (by decide +kernel : pm_fe 290 38 = some (.imul, 1)) rfl).trans ?_
  refine (px_go (by decide +kernel : pm_fe 290 39 = some (.iadd, 1)) rfl).trans ?_
  refine (px_go (by decide +kernel : pm_fe 290 40 = some (.iload 4, 2)) rfl).trans ?_
  refine (px_go (by decide +kernel : pm_fe 290 42 = some (.iadd, 1)) rfl).trans ?_
  refine (px_iaload (by decide +kernel) h2).trans ?_
  refine (px_go (by decide +kernel : pm_fe 290 44 = some (.iadd, 1)) rfl).trans ?_
  refine (px_go (by decide +kernel : pm_fe 290 45 = some (.istore_n 2, 1)) rfl).trans ?_
  refine (px_go (by decide +kernel : pm_fe 290 46 = some (.iinc 4 1, 3)) rfl).trans ?_
  refine (px_goto (off := (-37)) (tgt := 12) (by decide +kernel)).trans ?_
  exact Iff.rfl
theorem b290_52 {d : Nat} {G : PG} {M T : PH} {K : PV → PS → Prop} {l0 l1 l2 l3 l4 : Int} : pm_Run d 290 52 [.inr (.inr (.inl l0)), .inl l1, .inl l2, .inl l3, .inl l4, PU, PU] [] (G, M, T) K ↔ if pm_sg l3 = 0 then pm_Run d 290 65 [.inr (.inr (.inl l0)), .inl l1, .inl l2, .inl l3, .inl l4, PU, PU] [] (G, M, T) K else pm_Run d 290 56 [.inr (.inr (.inl l0)), .inl l1, .inl l2, .inl l3, .inl l4, PU, PU] [] (G, M, T) K := by
  refine (px_go (by decide +kernel : pm_fe 290 52 = some (.iload_n 3, 1)) rfl).trans ?_
  refine (px_if_eq (off := 12) (tgt := 65) (by decide +kernel)).trans ?_
  exact Iff.rfl
theorem b290_56 {d : Nat} {G : PG} {M T : PH} {K : PV → PS → Prop} {l0 l1 l2 l3 l4 : Int} (h1 : pm_ob G l0 12) : pm_Run d 290 56 [.inr (.inr (.inl l0)), .inl l1, .inl l2, .inl l3, .inl l4, PU, PU] [] (G, M, T) K ↔ pm_Call d 288 [.inr (.inr (.inl l0)), .inl 1, .inl l1] (G, M, T) (fun r S1 => pm_Run d 290 62 [.inr (.inr (.inl l0)), .inl l1, .inl l2, .inl l3, .inl l4, PU, PU] (pm_push r []) S1 K) := by
  refine (px_go (by decide +kernel : pm_fe 290 56 = some (.aload_n 0, 1)) rfl).trans ?_
  refine (px_go (by decide +kernel : pm_fe 290 57 = some (.iconst 1, 1)) rfl).trans ?_
  refine (px_go (by decide +kernel : pm_fe 290 58 = some (.iload_n 1, 1)) rfl).trans ?_
  refine (px_v2 (idx := 599) (m' := 288) (ci := 12) (by decide +kernel)).trans ((and_iff_right ⟨h1, (by simp [pm_wl_n, pm_wl_c, pm_w] : pm_wl [] ≤ 8)⟩).trans ?_)
  exact Iff.rfl
theorem b290_62 {d : Nat} {G : PG} {M T : PH} {K : PV → PS → Prop} {l0 l1 l2 l3 l4 s0 : Int} : pm_Run d 290 62 [.inr (.inr (.inl l0)), .inl l1, .inl l2, .inl l3, .inl l4, PU, PU] [.inl s0] (G, M, T) K ↔ pm_Run d 290 68 [.inr (.inr (.inl l0)), .inl l1, .inl l2, .inl l3, .inl l4, PU, PU] [.inl s0] (G, M, T) K := by
  refine (px_goto (off := 6) (tgt := 68) (by decide +kernel)).trans ?_
  exact Iff.rfl
theorem b290_65 {d : Nat} {G : PG} {M T : PH} {K : PV → PS → Prop} {l0 l1 l2 l3 l4 : Int} : pm_Run d 290 65 [.inr (.inr (.inl l0)), .inl l1, .inl l2, .inl l3, .inl l4, PU, PU] [] (G, M, T) K ↔ pm_Run d 290 68 [.inr (.inr (.inl l0)), .inl l1, .inl l2, .inl l3, .inl l4, PU, PU] [.inl (-1000000000)] (G, M, T) K := by
  refine (px_ldcI (idx := 559) (n := 3) (x := (-1000000000)) (by decide +kernel)).trans ?_
  exact Iff.rfl
theorem b290_68 {d : Nat} {G : PG} {M T : PH} {K : PV → PS → Prop} {l0 l1 l2 l3 l4 s0 : Int} (h1 : pm_ob G l0 12) : pm_Run d 290 68 [.inr (.inr (.inl l0)), .inl l1, .inl l2, .inl l3, .inl l4, PU, PU] [.inl s0] (G, M, T) K ↔ pm_Call d 286 [.inr (.inr (.inl l0)), .inl 1, .inl l1] (G, M, T) (fun r S1 => pm_Run d 290 76 [.inr (.inr (.inl l0)), .inl l1, .inl l2, .inl l3, .inl s0, PU, PU] (pm_push r []) S1 K) := by
  refine (px_go (by decide +kernel : pm_fe 290 68 = some (.istore 4, 2)) rfl).trans ?_
  refine (px_go (by decide +kernel : pm_fe 290 70 = some (.aload_n 0, 1)) rfl).trans ?_
  refine (px_go (by decide +kernel : pm_fe 290 71 = some (.iconst 1, 1)) rfl).trans ?_
  refine (px_go (by decide +kernel : pm_fe 290 72 = some (.iload_n 1, 1)) rfl).trans ?_
  refine (px_v2 (idx := 593) (m' := 286) (ci := 12) (by decide +kernel)).trans ((and_iff_right ⟨h1, (by simp [pm_wl_n, pm_wl_c, pm_w] : pm_wl [] ≤ 8)⟩).trans ?_)
  exact Iff.rfl
theorem b290_76 {d : Nat} {G : PG} {M T : PH} {K : PV → PS → Prop} {l0 l1 l2 l3 l4 : Int} : pm_Run d 290 76 [.inr (.inr (.inl l0)), .inl l1, .inl l2, .inl l3, .inl l4, PU, PU] [] (G, M, T) K ↔ pm_Run d 290 79 [.inr (.inr (.inl l0)), .inl l1, .inl l2, .inl l3, .inl l4, .inl 0, PU] [] (G, M, T) K := by
  refine (px_go (by decide +kernel : pm_fe 290 76 = some (.iconst 0, 1)) rfl).trans ?_
  refine (px_go (by decide +kernel : pm_fe 290 77 = some (.istore 5, 2)) rfl).trans ?_
  exact Iff.rfl
theorem b290_79 {d : Nat} {G : PG} {M T : PH} {K : PV → PS → Prop} {l0 l1 l2 l3 l4 l5 : Int} {l6 : PV} (h1 : pm_ob G l0 12) : pm_Run d 290 79 [.inr (.inr (.inl l0)), .inl l1, .inl l2, .inl l3, .inl l4, .inl l5, l6] [] (G, M, T) K ↔ pm_Call d 285 [.inr (.inr (.inl l0)), .inl 5] (G, M, T) (fun r S1 => pm_Run d 290 86 [.inr (.inr (.inl l0)), .inl l1, .inl l2, .inl l3, .inl l4, .inl l5, l6] (pm_push r [.inl l5]) S1 K) := by
  refine (px_go (by decide +kernel : pm_fe 290 79 = some (.iload 5, 2)) rfl).trans ?_
  refine (px_go (by decide +kernel : pm_fe 290 81 = some (.aload_n 0, 1)) rfl).trans ?_
  refine (px_go (by decide +kernel : pm_fe 290 82 = some (.iconst 5, 1)) rfl).trans ?_
  refine (px_v1 (idx := 586) (m' := 285) (ci := 12) (by decide +kernel)).trans ((and_iff_right ⟨h1, (by simp [pm_wl_n, pm_wl_c, pm_w] : pm_wl [.inl l5] ≤ 8)⟩).trans ?_)
  exact Iff.rfl
theorem b290_86 {d : Nat} {G : PG} {M T : PH} {K : PV → PS → Prop} {l0 l1 l2 l3 l4 l5 s0 s1 : Int} {l6 : PV} : pm_Run d 290 86 [.inr (.inr (.inl l0)), .inl l1, .inl l2, .inl l3, .inl l4, .inl l5, l6] [.inl s0, .inl s1] (G, M, T) K ↔ if pm_sg s0 ≤ pm_sg s1 then pm_Run d 290 133 [.inr (.inr (.inl l0)), .inl l1, .inl l2, .inl l3, .inl l4, .inl l5, l6] [] (G, M, T) K else pm_Run d 290 89 [.inr (.inr (.inl l0)), .inl l1, .inl l2, .inl l3, .inl l4, .inl l5, l6] [] (G, M, T) K := by
  refine (px_ic_ge (off := 47) (tgt := 133) (by decide +kernel)).trans ?_
  exact Iff.rfl
theorem b290_89 {d : Nat} {G : PG} {M T : PH} {K : PV → PS → Prop} {l0 l1 l2 l3 l4 l5 : Int} {l6 : PV} (h1 : pm_ob G l0 12) : pm_Run d 290 89 [.inr (.inr (.inl l0)), .inl l1, .inl l2, .inl l3, .inl l4, .inl l5, l6] [] (G, M, T) K ↔ pm_Call d 284 [.inr (.inr (.inl l0)), .inl 1, .inl l1, .inl l5, .inl 5] (G, M, T) (fun r S1 => pm_Run d 290 98 [.inr (.inr (.inl l0)), .inl l1, .inl l2, .inl l3, .inl l4, .inl l5, l6] (pm_push r []) S1 K) := by
  refine (px_go (by decide +kernel : pm_fe 290 89 = some (.aload_n 0, 1)) rfl).trans ?_
  refine (px_go (by decide +kernel : pm_fe 290 90 = some (.iconst 1, 1)) rfl).trans ?_
  refine (px_go (by decide +kernel : pm_fe 290 91 = some (.iload_n 1, 1)) rfl).trans ?_
  refine (px_go (by decide +kernel : pm_fe 290 92 = some (.iload 5, 2)) rfl).trans ?_
  refine (px_go (by decide +kernel : pm_fe 290 94 = some (.iconst 5, 1)) rfl).trans ?_
  refine (px_v4 (idx := 589) (m' := 284) (ci := 12) (by decide +kernel)).trans ((and_iff_right ⟨h1, (by simp [pm_wl_n, pm_wl_c, pm_w] : pm_wl [] ≤ 8)⟩).trans ?_)
  exact Iff.rfl
theorem b290_98 {d : Nat} {G : PG} {M T : PH} {K : PV → PS → Prop} {l0 l1 l2 l3 l4 l5 s0 : Int} {l6 : PV} (h1 : pm_ob G l0 12) : pm_Run d 290 98 [.inr (.inr (.inl l0)), .inl l1, .inl l2, .inl l3, .inl l4, .inl l5, l6] [.inl s0] (G, M, T) K ↔ pm_Call d 288 [.inr (.inr (.inl l0)), .inl 1, .inl l1] (G, M, T) (fun r S1 => pm_Run d 290 105 [.inr (.inr (.inl l0)), .inl l1, .inl l2, .inl l3, .inl l4, .inl l5, l6] (pm_push r []) S1 K) := by
  refine (px_go (by decide +kernel : pm_fe 290 98 = some (.pop, 1)) rfl).trans ?_
  refine (px_go (by decide +kernel : pm_fe 290 99 = some (.aload_n 0, 1)) rfl).trans ?_
  refine (px_go (by decide +kernel : pm_fe 290 100 = some (.iconst 1, 1)) rfl).trans ?_
  refine (px_go (by decide +kernel : pm_fe 290 101 = some (.iload_n 1, 1)) rfl).trans ?_
  refine (px_v2 (idx := 599) (m' := 288) (ci := 12) (by decide +kernel)).trans ((and_iff_right ⟨h1, (by simp [pm_wl_n, pm_wl_c, pm_w] : pm_wl [] ≤ 8)⟩).trans ?_)
  exact Iff.rfl
theorem b290_105 {d : Nat} {G : PG} {M T : PH} {K : PV → PS → Prop} {l0 l1 l2 l3 l4 l5 s0 : Int} {l6 : PV} : pm_Run d 290 105 [.inr (.inr (.inl l0)), .inl l1, .inl l2, .inl l3, .inl l4, .inl l5, l6] [.inl s0] (G, M, T) K ↔ if pm_sg l4 < pm_sg s0 then pm_Run d 290 117 [.inr (.inr (.inl l0)), .inl l1, .inl l2, .inl l3, .inl l4, .inl l5, .inl s0] [] (G, M, T) K else pm_Run d 290 114 [.inr (.inr (.inl l0)), .inl l1, .inl l2, .inl l3, .inl l4, .inl l5, .inl s0] [] (G, M, T) K := by
  refine (px_go (by decide +kernel : pm_fe 290 105 = some (.istore 6, 2)) rfl).trans ?_
  refine (px_go (by decide +kernel : pm_fe 290 107 = some (.iload 6, 2)) rfl).trans ?_
  refine (px_go (by decide +kernel : pm_fe 290 109 = some (.iload 4, 2)) rfl).trans ?_
  refine (px_ic_gt (off := 6) (tgt := 117) (by decide +kernel)).trans ?_
  exact Iff.rfl
theorem b290_114 {d : Nat} {G : PG} {M T : PH} {K : PV → PS → Prop} {l0 l1 l2 l3 l4 l5 l6 : Int} : pm_Run d 290 114 [.inr (.inr (.inl l0)), .inl l1, .inl l2, .inl l3, .inl l4, .inl l5, .inl l6] [] (G, M, T) K ↔ pm_Run d 290 127 [.inr (.inr (.inl l0)), .inl l1, .inl l2, .inl l3, .inl l4, .inl l5, .inl l6] [] (G, M, T) K := by
  refine (px_goto (off := 13) (tgt := 127) (by decide +kernel)).trans ?_
  exact Iff.rfl
theorem b290_117 {d : Nat} {G : PG} {M T : PH} {K : PV → PS → Prop} {l0 l1 l2 l3 l4 l5 l6 : Int} (h1 : pm_ob G l0 12) : pm_Run d 290 117 [.inr (.inr (.inl l0)), .inl l1, .inl l2, .inl l3, .inl l4, .inl l5, .inl l6] [] (G, M, T) K ↔ pm_Call d 286 [.inr (.inr (.inl l0)), .inl 1, .inl l1] (G, M, T) (fun r S1 => pm_Run d 290 127 [.inr (.inr (.inl l0)), .inl l1, .inl l2, .inl l3, .inl l6, .inl l5, .inl l6] (pm_push r []) S1 K) := by
  refine (px_go (by decide +kernel : pm_fe 290 117 = some (.iload 6, 2)) rfl).trans ?_
  refine (px_go (by decide +kernel : pm_fe 290 119 = some (.istore 4, 2)) rfl).trans ?_
  refine (px_go (by decide +kernel : pm_fe 290 121 = some (.aload_n 0, 1)) rfl).trans ?_
  refine (px_go (by decide +kernel : pm_fe 290 122 = some (.iconst 1, 1)) rfl).trans ?_
  refine (px_go (by decide +kernel : pm_fe 290 123 = some (.iload_n 1, 1)) rfl).trans ?_
  refine (px_v2 (idx := 593) (m' := 286) (ci := 12) (by decide +kernel)).trans ((and_iff_right ⟨h1, (by simp [pm_wl_n, pm_wl_c, pm_w] : pm_wl [] ≤ 8)⟩).trans ?_)
  exact Iff.rfl
theorem b290_127 {d : Nat} {G : PG} {M T : PH} {K : PV → PS → Prop} {l0 l1 l2 l3 l4 l5 l6 : Int} : pm_Run d 290 127 [.inr (.inr (.inl l0)), .inl l1, .inl l2, .inl l3, .inl l4, .inl l5, .inl l6] [] (G, M, T) K ↔ pm_Run d 290 79 [.inr (.inr (.inl l0)), .inl l1, .inl l2, .inl l3, .inl l4, .inl (l5 + 1), .inl l6] [] (G, M, T) K := by
  refine (px_go (by decide +kernel : pm_fe 290 127 = some (.iinc 5 1, 3)) rfl).trans ?_
  refine (px_goto (off := (-51)) (tgt := 79) (by decide +kernel)).trans ?_
  exact Iff.rfl
theorem b290_133 {d : Nat} {G : PG} {M T : PH} {K : PV → PS → Prop} {l0 l1 l2 l3 l4 l5 : Int} {l6 : PV} : pm_Run d 290 133 [.inr (.inr (.inl l0)), .inl l1, .inl l2, .inl l3, .inl l4, .inl l5, l6] [] (G, M, T) K ↔ pm_Run d 290 139 [.inr (.inr (.inl l0)), .inl l1, .inl l2, .inl l3, .inl l4, .inl 0, .inl 0] [] (G, M, T) K := by
  refine (px_go (by decide +kernel : pm_fe 290 133 = some (.iconst 0, 1)) rfl).trans ?_
  refine (px_go (by decide +kernel : pm_fe 290 134 = some (.istore 5, 2)) rfl).trans ?_
  refine (px_go (by decide +kernel : pm_fe 290 136 = some (.iconst 0, 1)) rfl).trans ?_
  refine (px_go (by decide +kernel : pm_fe 290 137 = some (.istore 6, 2)) rfl).trans ?_
  exact Iff.rfl
theorem b290_139 {d : Nat} {G : PG} {M T : PH} {K : PV → PS → Prop} {l0 l1 l2 l3 l4 l5 l6 : Int} (h1 : pm_ob G l0 12) (h2 : pm_ar G (T l0.toNat 15) 100 (M l0.toNat 13)) : pm_Run d 290 139 [.inr (.inr (.inl l0)), .inl l1, .inl l2, .inl l3, .inl l4, .inl l5, .inl l6] [] (G, M, T) K ↔ if pm_sg (M (T l0.toNat 15).toNat (pm_sg (M l0.toNat 13)).toNat) ≤ pm_sg l6 then pm_Run d 290 195 [.inr (.inr (.inl l0)), .inl l1, .inl l2, .inl l3, .inl l4, .inl l5, .inl l6] [] (G, M, T) K else pm_Run d 290 153 [.inr (.inr (.inl l0)), .inl l1, .inl l2, .inl l3, .inl l4, .inl l5, .inl l6] [] (G, M, T) K := by
  refine (px_go (by decide +kernel : pm_fe 290 139 = some (.iload 6, 2)) rfl).trans ?_
  refine (px_go (by decide +kernel : pm_fe 290 141 = some (.aload_n 0, 1)) rfl).trans ?_
  refine (px_get2 (idx := 57) (ci := 12) (k := 15) (by decide +kernel)).trans ((and_iff_right h1).trans ?_)
  refine (px_go (by decide +kernel : pm_fe 290 145 = some (.aload_n 0, 1)) rfl).trans ?_
  refine (px_get0 (idx := 51) (ci := 12) (k := 13) (by decide +kernel)).trans ((and_iff_right h1).trans ?_)
  refine (px_iaload (by decide +kernel) h2).trans ?_
  refine (px_ic_ge (off := 45) (tgt := 195) (by decide +kernel)).trans ?_
  exact Iff.rfl
theorem b290_153 {d : Nat} {G : PG} {M T : PH} {K : PV → PS → Prop} {l0 l1 l2 l3 l4 l5 l6 : Int} (h1 : pm_ob G l0 12) (h2 : pm_ar G (T l0.toNat 69) 100 l6) (h3 : pm_ar G (T l0.toNat 58) 100 ((24 + (3 * l1)) + l6)) : pm_Run d 290 153 [.inr (.inr (.inl l0)), .inl l1, .inl l2, .inl l3, .inl l4, .inl l5, .inl l6] [] (G, M, T) K ↔ pm_Run d 290 139 [.inr (.inr (.inl l0)), .inl l1, .inl l2, .inl l3, .inl l4, .inl ((21 * l5) + ((pm_sa M (T l0.toNat 58).toNat (pm_up (M (T l0.toNat 58).toNat) (pm_sg ((24 + (3 * l1)) + l6)).toNat (M (T l0.toNat 69).toNat (pm_sg l6).toNat))) (T l0.toNat 69).toNat (pm_sg l6).toNat)), .inl (l6 + 1)] [] (G, pm_sa M (T l0.toNat 58).toNat (pm_up (M (T l0.toNat 58).toNat) (pm_sg ((24 + (3 * l1)) + l6)).toNat (M (T l0.toNat 69).toNat (pm_sg l6).toNat)), T) K := by
  refine (px_go (by decide +kernel : pm_fe 290 153 = some (.aload_n 0, 1)) rfl).trans ?_
  refine (px_get2 (idx := 189) (ci := 12) (k := 58) (by decide +kernel)).trans ((and_iff_right h1).trans ?_)
  refine (px_go (by decide +kernel : pm_fe 290 157 = some (.bipush 24, 2)) rfl).trans ?_
  refine (px_go (by decide +kernel : pm_fe 290 159 = some (.iconst 3, 1)) rfl).trans ?_
  refine (px_go (by decide +kernel : pm_fe 290 160 = some (.iload_n 1, 1)) rfl).trans ?_
  refine (px_go (by decide +kernel : pm_fe 290 161 = some (.imul, 1)) rfl).trans ?_
  refine (px_go (by decide +kernel : pm_fe 290 162 = some (.iadd, 1)) rfl).trans ?_
  refine (px_go (by decide +kernel : pm_fe 290 163 = some (.iload 6, 2)) rfl).trans ?_
  refine (px_go (by decide +kernel : pm_fe 290 165 = some (.iadd, 1)) rfl).trans ?_
  refine (px_go (by decide +kernel : pm_fe 290 166 = some (.aload_n 0, 1)) rfl).trans ?_
  refine (px_get2 (idx := 222) (ci := 12) (k := 69) (by decide +kernel)).trans ((and_iff_right h1).trans ?_)
  refine (px_go (by decide +kernel : pm_fe 290 170 = some (.iload 6, 2)) rfl).trans ?_
  refine (px_iaload (by decide +kernel) h2).trans ?_
  refine (px_iastore (by decide +kernel)).trans ((and_iff_right h3).trans ?_)
  refine (px_go (by decide +kernel : pm_fe 290 174 = some (.bipush 21, 2)) rfl).trans ?_
  refine (px_go (by decide +kernel : pm_fe 290 176 = some (.iload 5, 2)) rfl).trans ?_
  refine (px_go (by decide +kernel : pm_fe 290 178 = some (.imul, 1)) rfl).trans ?_
  refine (px_go (by decide +kernel : pm_fe 290 179 = some (.aload_n 0, 1)) rfl).trans ?_
  refine (px_get2 (idx := 222) (ci := 12) (k := 69) (by decide +kernel)).trans ((and_iff_right h1).trans ?_)
  refine (px_go (by decide +kernel : pm_fe 290 183 = some (.iload 6, 2)) rfl).trans ?_
  refine (px_iaload (by decide +kernel) h2).trans ?_
  refine (px_go (by decide +kernel : pm_fe 290 186 = some (.iadd, 1)) rfl).trans ?_
  refine (px_go (by decide +kernel : pm_fe 290 187 = some (.istore 5, 2)) rfl).trans ?_
  refine (px_go (by decide +kernel : pm_fe 290 189 = some (.iinc 6 1, 3)) rfl).trans ?_
  refine (px_goto (off := (-53)) (tgt := 139) (by decide +kernel)).trans ?_
  exact Iff.rfl
theorem b290_195 {d : Nat} {G : PG} {M T : PH} {K : PV → PS → Prop} {l0 l1 l2 l3 l4 l5 l6 : Int} : pm_Run d 290 195 [.inr (.inr (.inl l0)), .inl l1, .inl l2, .inl l3, .inl l4, .inl l5, .inl l6] [] (G, M, T) K ↔ if pm_sg l5 = pm_sg l2 then pm_Run d 290 205 [.inr (.inr (.inl l0)), .inl l1, .inl l2, .inl l3, .inl l4, .inl l5, .inl l6] [] (G, M, T) K else pm_Run d 290 201 [.inr (.inr (.inl l0)), .inl l1, .inl l2, .inl l3, .inl l4, .inl l5, .inl l6] [] (G, M, T) K := by
  refine (px_go (by decide +kernel : pm_fe 290 195 = some (.iload 5, 2)) rfl).trans ?_
  refine (px_go (by decide +kernel : pm_fe 290 197 = some (.iload_n 2, 1)) rfl).trans ?_
  refine (px_ic_eq (off := 7) (tgt := 205) (by decide +kernel)).trans ?_
  exact Iff.rfl
theorem b290_201 {d : Nat} {G : PG} {M T : PH} {K : PV → PS → Prop} {l0 l1 l2 l3 l4 l5 l6 : Int} : pm_Run d 290 201 [.inr (.inr (.inl l0)), .inl l1, .inl l2, .inl l3, .inl l4, .inl l5, .inl l6] [] (G, M, T) K ↔ pm_Run d 290 206 [.inr (.inr (.inl l0)), .inl l1, .inl l2, .inl l3, .inl l4, .inl l5, .inl l6] [.inl 1] (G, M, T) K := by
  refine (px_go (by decide +kernel : pm_fe 290 201 = some (.iconst 1, 1)) rfl).trans ?_
  refine (px_goto (off := 4) (tgt := 206) (by decide +kernel)).trans ?_
  exact Iff.rfl
theorem b290_205 {d : Nat} {G : PG} {M T : PH} {K : PV → PS → Prop} {l0 l1 l2 l3 l4 l5 l6 : Int} : pm_Run d 290 205 [.inr (.inr (.inl l0)), .inl l1, .inl l2, .inl l3, .inl l4, .inl l5, .inl l6] [] (G, M, T) K ↔ pm_Run d 290 206 [.inr (.inr (.inl l0)), .inl l1, .inl l2, .inl l3, .inl l4, .inl l5, .inl l6] [.inl 0] (G, M, T) K := by
  refine (px_go (by decide +kernel : pm_fe 290 205 = some (.iconst 0, 1)) rfl).trans ?_
  exact Iff.rfl
theorem b290_206 {d : Nat} {G : PG} {M T : PH} {K : PV → PS → Prop} {l0 l1 l2 l3 l4 l5 l6 s0 : Int} (h1 : s0 = 0 ∨ s0 = 1) : pm_Run d 290 206 [.inr (.inr (.inl l0)), .inl l1, .inl l2, .inl l3, .inl l4, .inl l5, .inl l6] [.inl s0] (G, M, T) K ↔ K (.inl s0) (G, M, T) := by
  refine (px_rz (by decide +kernel)).trans ((and_iff_right h1).trans ?_)
  exact Iff.rfl
