-- X5_pair pair(II)I
theorem r55_0 {d : Nat} {X : Nat × (Nat → Int)} {v : Nat → Int} {M : PH} {K : PV → PS → Prop} {l0 l1 : Int} : pm_Run d 55 0 [vI l0, vI l1] [] (GF X, M, PTF v) K ↔ K (vI ((l0 * 3) + l1)) (GF X, M, PTF v) := by
  refine (px_go (by decide +kernel : pm_fe 55 0 = some (.iload_n 0, 1)) rfl).trans ?_
  refine (px_go (by decide +kernel : pm_fe 55 1 = some (.iconst 3, 1)) rfl).trans ?_
  refine (px_go (by decide +kernel : pm_fe 55 2 = some (.imul, 1)) rfl).trans ?_
  refine (px_go (by decide +kernel : pm_fe 55 3 = some (.iload_n 1, 1)) rfl).trans ?_
  refine (px_go (by decide +kernel : pm_fe 55 4 = some (.iadd, 1)) rfl).trans ?_
  refine (px_ri (by decide +kernel)).trans ?_
  exact Iff.rfl
-- X5_copyFrom copyFrom(LMoonTender$Moment;)V
theorem r56_0 {d : Nat} {b b2 : Nat} {X : Nat × (Nat → Int)} {v : Nat → Int} {M : PH} {K : PV → PS → Prop} (hb : isMo b) (hb2 : isMo b2) : pm_Run d 56 0 [vA b, vA b2] [] (GF X, M, PTF v) K ↔ pm_Run d 56 8 [vA b, vA b2] [] (GF X, pm_sa M b (pm_up (M b) 0 (M b2 0)), PTF v) K := by
  refine (px_go (by decide +kernel : pm_fe 56 0 = some (.aload_n 0, 1)) rfl).trans ?_
  refine (px_go (by decide +kernel : pm_fe 56 1 = some (.aload_n 1, 1)) rfl).trans ?_
  refine (ry_get0 (idx := 27) (ci := 5) (k := 0) (mos0 hb2) (by decide +kernel)).trans ?_
  refine (ry_put0 (idx := 27) (ci := 5) (k := 0) (mos0 hb) (by decide +kernel)).trans ?_
  exact Iff.rfl
theorem r56_8 {d : Nat} {b b2 : Nat} {X : Nat × (Nat → Int)} {v : Nat → Int} {M : PH} {K : PV → PS → Prop} (hb : isMo b) (hb2 : isMo b2) (h1 : (b2 + 1) ≠ (b + 1)) : pm_Run d 56 8 [vA b, vA b2] [] (GF X, M, PTF v) K ↔ pm_Run d 56 26 [vA b, vA b2] [] (GF X, pm_sa M (b + 1) (pm_cp (M (b2 + 1)) (M (b + 1)) 0 0 3), PTF v) K := by
  refine (px_go (by decide +kernel : pm_fe 56 8 = some (.aload_n 1, 1)) rfl).trans ?_
  refine (ry_get2 (idx := 9) (ci := 5) (k := 1) (mos0 hb2) (mop1 hb2) (by decide +kernel)).trans ?_
  refine (px_go (by decide +kernel : pm_fe 56 12 = some (.iconst 0, 1)) rfl).trans ?_
  refine (px_go (by decide +kernel : pm_fe 56 13 = some (.aload_n 0, 1)) rfl).trans ?_
  refine (ry_get2 (idx := 9) (ci := 5) (k := 1) (mos0 hb) (mop1 hb) (by decide +kernel)).trans ?_
  refine (px_go (by decide +kernel : pm_fe 56 17 = some (.iconst 0, 1)) rfl).trans ?_
  refine (px_go (by decide +kernel : pm_fe 56 18 = some (.aload_n 0, 1)) rfl).trans ?_
  refine (ry_get2 (idx := 9) (ci := 5) (k := 1) (mos0 hb) (mop1 hb) (by decide +kernel)).trans ?_
  refine (ry_alen (mos1 hb) (by decide) (by decide +kernel)).trans ?_
  refine (ry_acpy (idx := 31) (mos1 hb2) (mos1 hb) h1 (by decide : (0 : Int) ≤ (0 : Int) ∧ (0 : Int) ≤ (0 : Int) ∧ (0 : Int) ≤ (3 : Int) ∧ (0 : Int) + (3 : Int) ≤ (3 : Int) ∧ (0 : Int) + (3 : Int) ≤ (3 : Int)) (by simp [pm_wl_n, pm_wl_c, pm_w] : pm_wl [] ≤ 8) (by decide +kernel)).trans ?_
  exact Iff.rfl
theorem r56_26 {d : Nat} {b b2 : Nat} {X : Nat × (Nat → Int)} {v : Nat → Int} {M : PH} {K : PV → PS → Prop} (hb : isMo b) (hb2 : isMo b2) (h1 : (b2 + 2) ≠ (b + 2)) : pm_Run d 56 26 [vA b, vA b2] [] (GF X, M, PTF v) K ↔ pm_Run d 56 44 [vA b, vA b2] [] (GF X, pm_sa M (b + 2) (pm_cp (M (b2 + 2)) (M (b + 2)) 0 0 3), PTF v) K := by
  refine (px_go (by decide +kernel : pm_fe 56 26 = some (.aload_n 1, 1)) rfl).trans ?_
  refine (ry_get2 (idx := 15) (ci := 5) (k := 2) (mos0 hb2) (mop2 hb2) (by decide +kernel)).trans ?_
  refine (px_go (by decide +kernel : pm_fe 56 30 = some (.iconst 0, 1)) rfl).trans ?_
  refine (px_go (by decide +kernel : pm_fe 56 31 = some (.aload_n 0, 1)) rfl).trans ?_
  refine (ry_get2 (idx := 15) (ci := 5) (k := 2) (mos0 hb) (mop2 hb) (by decide +kernel)).trans ?_
  refine (px_go (by decide +kernel : pm_fe 56 35 = some (.iconst 0, 1)) rfl).trans ?_
  refine (px_go (by decide +kernel : pm_fe 56 36 = some (.aload_n 0, 1)) rfl).trans ?_
  refine (ry_get2 (idx := 15) (ci := 5) (k := 2) (mos0 hb) (mop2 hb) (by decide +kernel)).trans ?_
  refine (ry_alen (mos2 hb) (by decide) (by decide +kernel)).trans ?_
  refine (ry_acpy (idx := 31) (mos2 hb2) (mos2 hb) h1 (by decide : (0 : Int) ≤ (0 : Int) ∧ (0 : Int) ≤ (0 : Int) ∧ (0 : Int) ≤ (3 : Int) ∧ (0 : Int) + (3 : Int) ≤ (3 : Int) ∧ (0 : Int) + (3 : Int) ≤ (3 : Int)) (by simp [pm_wl_n, pm_wl_c, pm_w] : pm_wl [] ≤ 8) (by decide +kernel)).trans ?_
  exact Iff.rfl
theorem r56_44 {d : Nat} {b b2 : Nat} {X : Nat × (Nat → Int)} {v : Nat → Int} {M : PH} {K : PV → PS → Prop} (hb : isMo b) (hb2 : isMo b2) (h1 : (b2 + 3) ≠ (b + 3)) : pm_Run d 56 44 [vA b, vA b2] [] (GF X, M, PTF v) K ↔ pm_Run d 56 62 [vA b, vA b2] [] (GF X, pm_sa M (b + 3) (pm_cp (M (b2 + 3)) (M (b + 3)) 0 0 8), PTF v) K := by
  refine (px_go (by decide +kernel : pm_fe 56 44 = some (.aload_n 1, 1)) rfl).trans ?_
  refine (ry_get2 (idx := 18) (ci := 5) (k := 3) (mos0 hb2) (mop3 hb2) (by decide +kernel)).trans ?_
  refine (px_go (by decide +kernel : pm_fe 56 48 = some (.iconst 0, 1)) rfl).trans ?_
  refine (px_go (by decide +kernel : pm_fe 56 49 = some (.aload_n 0, 1)) rfl).trans ?_
  refine (ry_get2 (idx := 18) (ci := 5) (k := 3) (mos0 hb) (mop3 hb) (by decide +kernel)).trans ?_
  refine (px_go (by decide +kernel : pm_fe 56 53 = some (.iconst 0, 1)) rfl).trans ?_
  refine (px_go (by decide +kernel : pm_fe 56 54 = some (.aload_n 0, 1)) rfl).trans ?_
  refine (ry_get2 (idx := 18) (ci := 5) (k := 3) (mos0 hb) (mop3 hb) (by decide +kernel)).trans ?_
  refine (ry_alen (mos3 hb) (by decide) (by decide +kernel)).trans ?_
  refine (ry_acpy (idx := 31) (mos3 hb2) (mos3 hb) h1 (by decide : (0 : Int) ≤ (0 : Int) ∧ (0 : Int) ≤ (0 : Int) ∧ (0 : Int) ≤ (8 : Int) ∧ (0 : Int) + (8 : Int) ≤ (8 : Int) ∧ (0 : Int) + (8 : Int) ≤ (8 : Int)) (by simp [pm_wl_n, pm_wl_c, pm_w] : pm_wl [] ≤ 8) (by decide +kernel)).trans ?_
  exact Iff.rfl
theorem r56_62 {d : Nat} {b b2 : Nat} {X : Nat × (Nat → Int)} {v : Nat → Int} {M : PH} {K : PV → PS → Prop} (hb : isMo b) (hb2 : isMo b2) (h1 : (b2 + 4) ≠ (b + 4)) : pm_Run d 56 62 [vA b, vA b2] [] (GF X, M, PTF v) K ↔ pm_Run d 56 80 [vA b, vA b2] [] (GF X, pm_sa M (b + 4) (pm_cp (M (b2 + 4)) (M (b + 4)) 0 0 24), PTF v) K := by
  refine (px_go (by decide +kernel : pm_fe 56 62 = some (.aload_n 1, 1)) rfl).trans ?_
  refine (ry_get2 (idx := 21) (ci := 5) (k := 4) (mos0 hb2) (mop4 hb2) (by decide +kernel)).trans ?_
  refine (px_go (by decide +kernel : pm_fe 56 66 = some (.iconst 0, 1)) rfl).trans ?_
  refine (px_go (by decide +kernel : pm_fe 56 67 = some (.aload_n 0, 1)) rfl).trans ?_
  refine (ry_get2 (idx := 21) (ci := 5) (k := 4) (mos0 hb) (mop4 hb) (by decide +kernel)).trans ?_
  refine (px_go (by decide +kernel : pm_fe 56 71 = some (.iconst 0, 1)) rfl).trans ?_
  refine (px_go (by decide +kernel : pm_fe 56 72 = some (.aload_n 0, 1)) rfl).trans ?_
  refine (ry_get2 (idx := 21) (ci := 5) (k := 4) (mos0 hb) (mop4 hb) (by decide +kernel)).trans ?_
  refine (ry_alen (mos4 hb) (by decide) (by decide +kernel)).trans ?_
  refine (ry_acpy (idx := 31) (mos4 hb2) (mos4 hb) h1 (by decide : (0 : Int) ≤ (0 : Int) ∧ (0 : Int) ≤ (0 : Int) ∧ (0 : Int) ≤ (24 : Int) ∧ (0 : Int) + (24 : Int) ≤ (24 : Int) ∧ (0 : Int) + (24 : Int) ≤ (24 : Int)) (by simp [pm_wl_n, pm_wl_c, pm_w] : pm_wl [] ≤ 8) (by decide +kernel)).trans ?_
  exact Iff.rfl
theorem r56_80 {d : Nat} {b b2 : Nat} {X : Nat × (Nat → Int)} {v : Nat → Int} {M : PH} {K : PV → PS → Prop} (hb : isMo b) (hb2 : isMo b2) (h1 : (b2 + 5) ≠ (b + 5)) : pm_Run d 56 80 [vA b, vA b2] [] (GF X, M, PTF v) K ↔ K PU (GF X, pm_sa M (b + 5) (pm_cp (M (b2 + 5)) (M (b + 5)) 0 0 24), PTF v) := by
  refine (px_go (by decide +kernel : pm_fe 56 80 = some (.aload_n 1, 1)) rfl).trans ?_
  refine (ry_get2 (idx := 24) (ci := 5) (k := 5) (mos0 hb2) (mop5 hb2) (by decide +kernel)).trans ?_
  refine (px_go (by decide +kernel : pm_fe 56 84 = some (.iconst 0, 1)) rfl).trans ?_
  refine (px_go (by decide +kernel : pm_fe 56 85 = some (.aload_n 0, 1)) rfl).trans ?_
  refine (ry_get2 (idx := 24) (ci := 5) (k := 5) (mos0 hb) (mop5 hb) (by decide +kernel)).trans ?_
  refine (px_go (by decide +kernel : pm_fe 56 89 = some (.iconst 0, 1)) rfl).trans ?_
  refine (px_go (by decide +kernel : pm_fe 56 90 = some (.aload_n 0, 1)) rfl).trans ?_
  refine (ry_get2 (idx := 24) (ci := 5) (k := 5) (mos0 hb) (mop5 hb) (by decide +kernel)).trans ?_
  refine (ry_alen (mos5 hb) (by decide) (by decide +kernel)).trans ?_
  refine (ry_acpy (idx := 31) (mos5 hb2) (mos5 hb) h1 (by decide : (0 : Int) ≤ (0 : Int) ∧ (0 : Int) ≤ (0 : Int) ∧ (0 : Int) ≤ (24 : Int) ∧ (0 : Int) + (24 : Int) ≤ (24 : Int) ∧ (0 : Int) + (24 : Int) ≤ (24 : Int)) (by simp [pm_wl_n, pm_wl_c, pm_w] : pm_wl [] ≤ 8) (by decide +kernel)).trans ?_
  refine (px_rv (by decide +kernel)).trans ?_
  exact Iff.rfl
-- X5_clear clear()V
theorem r57_0 {d : Nat} {b : Nat} {X : Nat × (Nat → Int)} {v : Nat → Int} {M : PH} {K : PV → PS → Prop} (hb : isMo b) : pm_Run d 57 0 [vA b] [] (GF X, M, PTF v) K ↔ pm_Run d 57 5 [vA b] [] (GF X, pm_sa M b (pm_up (M b) 0 0), PTF v) K := by
  refine (px_go (by decide +kernel : pm_fe 57 0 = some (.aload_n 0, 1)) rfl).trans ?_
  refine (px_go (by decide +kernel : pm_fe 57 1 = some (.iconst 0, 1)) rfl).trans ?_
  refine (ry_put0 (idx := 27) (ci := 5) (k := 0) (mos0 hb) (by decide +kernel)).trans ?_
  exact Iff.rfl
theorem r57_5 {d : Nat} {b : Nat} {X : Nat × (Nat → Int)} {v : Nat → Int} {M : PH} {K : PV → PS → Prop} (hb : isMo b) : pm_Run d 57 5 [vA b] [] (GF X, M, PTF v) K ↔ pm_Call d 307 [vA (b + 1), vI 0] (GF X, M, PTF v) (fun r9 S1 => pm_Run d 57 13 [vA b] (pm_push r9 []) S1 K) := by
  refine (px_go (by decide +kernel : pm_fe 57 5 = some (.aload_n 0, 1)) rfl).trans ?_
  refine (ry_get2 (idx := 9) (ci := 5) (k := 1) (mos0 hb) (mop1 hb) (by decide +kernel)).trans ?_
  refine (px_go (by decide +kernel : pm_fe 57 9 = some (.iconst 0, 1)) rfl).trans ?_
  refine (px_s2 (idx := 37) (m' := 307) (nest := 0) (by decide +kernel)).trans ((and_iff_right (by simp [pm_wl_n, pm_wl_c, pm_w] : pm_wl [] ≤ 8)).trans ?_)
  exact Iff.rfl
theorem r57_13 {d : Nat} {b : Nat} {X : Nat × (Nat → Int)} {v : Nat → Int} {M : PH} {K : PV → PS → Prop} (hb : isMo b) : pm_Run d 57 13 [vA b] [] (GF X, M, PTF v) K ↔ pm_Call d 307 [vA (b + 2), vI 0] (GF X, M, PTF v) (fun r9 S1 => pm_Run d 57 21 [vA b] (pm_push r9 []) S1 K) := by
  refine (px_go (by decide +kernel : pm_fe 57 13 = some (.aload_n 0, 1)) rfl).trans ?_
  refine (ry_get2 (idx := 15) (ci := 5) (k := 2) (mos0 hb) (mop2 hb) (by decide +kernel)).trans ?_
  refine (px_go (by decide +kernel : pm_fe 57 17 = some (.iconst 0, 1)) rfl).trans ?_
  refine (px_s2 (idx := 37) (m' := 307) (nest := 0) (by decide +kernel)).trans ((and_iff_right (by simp [pm_wl_n, pm_wl_c, pm_w] : pm_wl [] ≤ 8)).trans ?_)
  exact Iff.rfl
theorem r57_21 {d : Nat} {b : Nat} {X : Nat × (Nat → Int)} {v : Nat → Int} {M : PH} {K : PV → PS → Prop} (hb : isMo b) : pm_Run d 57 21 [vA b] [] (GF X, M, PTF v) K ↔ pm_Call d 307 [vA (b + 3), vI 0] (GF X, M, PTF v) (fun r9 S1 => pm_Run d 57 29 [vA b] (pm_push r9 []) S1 K) := by
  refine (px_go (by decide +kernel : pm_fe 57 21 = some (.aload_n 0, 1)) rfl).trans ?_
  refine (ry_get2 (idx := 18) (ci := 5) (k := 3) (mos0 hb) (mop3 hb) (by decide +kernel)).trans ?_
  refine (px_go (by decide +kernel : pm_fe 57 25 = some (.iconst 0, 1)) rfl).trans ?_
  refine (px_s2 (idx := 37) (m' := 307) (nest := 0) (by decide +kernel)).trans ((and_iff_right (by simp [pm_wl_n, pm_wl_c, pm_w] : pm_wl [] ≤ 8)).trans ?_)
  exact Iff.rfl
theorem r57_29 {d : Nat} {b : Nat} {X : Nat × (Nat → Int)} {v : Nat → Int} {M : PH} {K : PV → PS → Prop} (hb : isMo b) : pm_Run d 57 29 [vA b] [] (GF X, M, PTF v) K ↔ pm_Call d 307 [vA (b + 4), vI 0] (GF X, M, PTF v) (fun r9 S1 => pm_Run d 57 37 [vA b] (pm_push r9 []) S1 K) := by
  refine (px_go (by decide +kernel : pm_fe 57 29 = some (.aload_n 0, 1)) rfl).trans ?_
  refine (ry_get2 (idx := 21) (ci := 5) (k := 4) (mos0 hb) (mop4 hb) (by decide +kernel)).trans ?_
  refine (px_go (by decide +kernel : pm_fe 57 33 = some (.iconst 0, 1)) rfl).trans ?_
  refine (px_s2 (idx := 37) (m' := 307) (nest := 0) (by decide +kernel)).trans ((and_iff_right (by simp [pm_wl_n, pm_wl_c, pm_w] : pm_wl [] ≤ 8)).trans ?_)
  exact Iff.rfl
theorem r57_37 {d : Nat} {b : Nat} {X : Nat × (Nat → Int)} {v : Nat → Int} {M : PH} {K : PV → PS → Prop} (hb : isMo b) : pm_Run d 57 37 [vA b] [] (GF X, M, PTF v) K ↔ pm_Call d 307 [vA (b + 5), vI 0] (GF X, M, PTF v) (fun r9 S1 => pm_Run d 57 45 [vA b] (pm_push r9 []) S1 K) := by
  refine (px_go (by decide +kernel : pm_fe 57 37 = some (.aload_n 0, 1)) rfl).trans ?_
  refine (ry_get2 (idx := 24) (ci := 5) (k := 5) (mos0 hb) (mop5 hb) (by decide +kernel)).trans ?_
  refine (px_go (by decide +kernel : pm_fe 57 41 = some (.iconst 0, 1)) rfl).trans ?_
  refine (px_s2 (idx := 37) (m' := 307) (nest := 0) (by decide +kernel)).trans ((and_iff_right (by simp [pm_wl_n, pm_wl_c, pm_w] : pm_wl [] ≤ 8)).trans ?_)
  exact Iff.rfl
theorem r57_45 {d : Nat} {b : Nat} {X : Nat × (Nat → Int)} {v : Nat → Int} {M : PH} {K : PV → PS → Prop} : pm_Run d 57 45 [vA b] [] (GF X, M, PTF v) K ↔ K PU (GF X, M, PTF v) := by
  refine (px_rv (by decide +kernel)).trans ?_
  exact Iff.rfl
-- X5_offeredTo offeredTo(I)I
theorem r58_0 {d : Nat} {b : Nat} {X : Nat × (Nat → Int)} {v : Nat → Int} {M : PH} {K : PV → PS → Prop} {l1 : Int} : pm_Run d 58 0 [vA b, vI l1, PU, PU] [] (GF X, M, PTF v) K ↔ pm_Run d 58 4 [vA b, vI l1, vI 0, vI 0] [] (GF X, M, PTF v) K := by
  refine (px_go (by decide +kernel : pm_fe 58 0 = some (.iconst 0, 1)) rfl).trans ?_
  refine (px_go (by decide +kernel : pm_fe 58 1 = some (.istore_n 2, 1)) rfl).trans ?_
  refine (px_go (by decide +kernel : pm_fe 58 2 = some (.iconst 0, 1)) rfl).trans ?_
  refine (px_go (by decide +kernel : pm_fe 58 3 = some (.istore_n 3, 1)) rfl).trans ?_
  exact Iff.rfl
theorem r58_4 {d : Nat} {b : Nat} {X : Nat × (Nat → Int)} {v : Nat → Int} {M : PH} {K : PV → PS → Prop} {l1 l2 l3 : Int} (h1 : inR l3) : pm_Run d 58 4 [vA b, vI l1, vI l2, vI l3] [] (GF X, M, PTF v) K ↔ if 8 ≤ l3 then pm_Run d 58 29 [vA b, vI l1, vI l2, vI l3] [] (GF X, M, PTF v) K else pm_Run d 58 10 [vA b, vI l1, vI l2, vI l3] [] (GF X, M, PTF v) K := by
  refine (px_go (by decide +kernel : pm_fe 58 4 = some (.iload_n 3, 1)) rfl).trans ?_
  refine (px_go (by decide +kernel : pm_fe 58 5 = some (.bipush 8, 2)) rfl).trans ?_
  refine (ry_ic_ge (off := 22) (tgt := 29) h1 (by decide : (-2147483648 ≤ (8 : Int) ∧ (8 : Int) < 2147483648)) (by decide +kernel)).trans ?_
  exact Iff.rfl
theorem r58_10 {d : Nat} {b : Nat} {X : Nat × (Nat → Int)} {v : Nat → Int} {M : PH} {K : PV → PS → Prop} {l1 l2 l3 : Int} (hb : isMo b) (h1 : 0 ≤ ((l3 * 3) + l1)) (h2 : ((l3 * 3) + l1) < 24) : pm_Run d 58 10 [vA b, vI l1, vI l2, vI l3] [] (GF X, M, PTF v) K ↔ pm_Run d 58 4 [vA b, vI l1, vI (l2 + (M (b + 4) ((l3 * 3) + l1).toNat)), vI (l3 + 1)] [] (GF X, M, PTF v) K := by
  refine (px_go (by decide +kernel : pm_fe 58 10 = some (.iload_n 2, 1)) rfl).trans ?_
  refine (px_go (by decide +kernel : pm_fe 58 11 = some (.aload_n 0, 1)) rfl).trans ?_
  refine (ry_get2 (idx := 21) (ci := 5) (k := 4) (mos0 hb) (mop4 hb) (by decide +kernel)).trans ?_
  refine (px_go (by decide +kernel : pm_fe 58 15 = some (.iload_n 3, 1)) rfl).trans ?_
  refine (px_go (by decide +kernel : pm_fe 58 16 = some (.iconst 3, 1)) rfl).trans ?_
  refine (px_go (by decide +kernel : pm_fe 58 17 = some (.imul, 1)) rfl).trans ?_
  refine (px_go (by decide +kernel : pm_fe 58 18 = some (.iload_n 1, 1)) rfl).trans ?_
  refine (px_go (by decide +kernel : pm_fe 58 19 = some (.iadd, 1)) rfl).trans ?_
  refine (ry_iald (mos4 hb) h1 h2 (by decide +kernel)).trans ?_
  refine (px_go (by decide +kernel : pm_fe 58 21 = some (.iadd, 1)) rfl).trans ?_
  refine (px_go (by decide +kernel : pm_fe 58 22 = some (.istore_n 2, 1)) rfl).trans ?_
  refine (px_go (by decide +kernel : pm_fe 58 23 = some (.iinc 3 1, 3)) rfl).trans ?_
  refine (px_goto (off := (-22)) (tgt := 4) (by decide +kernel)).trans ?_
  exact Iff.rfl
theorem r58_29 {d : Nat} {b : Nat} {X : Nat × (Nat → Int)} {v : Nat → Int} {M : PH} {K : PV → PS → Prop} {l1 l2 l3 : Int} : pm_Run d 58 29 [vA b, vI l1, vI l2, vI l3] [] (GF X, M, PTF v) K ↔ K (vI l2) (GF X, M, PTF v) := by
  refine (px_go (by decide +kernel : pm_fe 58 29 = some (.iload_n 2, 1)) rfl).trans ?_
  refine (px_ri (by decide +kernel)).trans ?_
  exact Iff.rfl
-- X5_dueTo dueTo(I)I
theorem r59_0 {d : Nat} {b : Nat} {X : Nat × (Nat → Int)} {v : Nat → Int} {M : PH} {K : PV → PS → Prop} {l1 : Int} : pm_Run d 59 0 [vA b, vI l1, PU, PU] [] (GF X, M, PTF v) K ↔ pm_Run d 59 4 [vA b, vI l1, vI 0, vI 0] [] (GF X, M, PTF v) K := by
  refine (px_go (by decide +kernel : pm_fe 59 0 = some (.iconst 0, 1)) rfl).trans ?_
  refine (px_go (by decide +kernel : pm_fe 59 1 = some (.istore_n 2, 1)) rfl).trans ?_
  refine (px_go (by decide +kernel : pm_fe 59 2 = some (.iconst 0, 1)) rfl).trans ?_
  refine (px_go (by decide +kernel : pm_fe 59 3 = some (.istore_n 3, 1)) rfl).trans ?_
  exact Iff.rfl
theorem r59_4 {d : Nat} {b : Nat} {X : Nat × (Nat → Int)} {v : Nat → Int} {M : PH} {K : PV → PS → Prop} {l1 l2 l3 : Int} (h1 : inR l3) : pm_Run d 59 4 [vA b, vI l1, vI l2, vI l3] [] (GF X, M, PTF v) K ↔ if 8 ≤ l3 then pm_Run d 59 29 [vA b, vI l1, vI l2, vI l3] [] (GF X, M, PTF v) K else pm_Run d 59 10 [vA b, vI l1, vI l2, vI l3] [] (GF X, M, PTF v) K := by
  refine (px_go (by decide +kernel : pm_fe 59 4 = some (.iload_n 3, 1)) rfl).trans ?_
  refine (px_go (by decide +kernel : pm_fe 59 5 = some (.bipush 8, 2)) rfl).trans ?_
  refine (ry_ic_ge (off := 22) (tgt := 29) h1 (by decide : (-2147483648 ≤ (8 : Int) ∧ (8 : Int) < 2147483648)) (by decide +kernel)).trans ?_
  exact Iff.rfl
theorem r59_10 {d : Nat} {b : Nat} {X : Nat × (Nat → Int)} {v : Nat → Int} {M : PH} {K : PV → PS → Prop} {l1 l2 l3 : Int} (hb : isMo b) (h1 : 0 ≤ ((l3 * 3) + l1)) (h2 : ((l3 * 3) + l1) < 24) : pm_Run d 59 10 [vA b, vI l1, vI l2, vI l3] [] (GF X, M, PTF v) K ↔ pm_Run d 59 4 [vA b, vI l1, vI (l2 + (M (b + 5) ((l3 * 3) + l1).toNat)), vI (l3 + 1)] [] (GF X, M, PTF v) K := by
  refine (px_go (by decide +kernel : pm_fe 59 10 = some (.iload_n 2, 1)) rfl).trans ?_
  refine (px_go (by decide +kernel : pm_fe 59 11 = some (.aload_n 0, 1)) rfl).trans ?_
  refine (ry_get2 (idx := 24) (ci := 5) (k := 5) (mos0 hb) (mop5 hb) (by decide +kernel)).trans ?_
  refine (px_go (by decide +kernel : pm_fe 59 15 = some (.iload_n 3, 1)) rfl).trans ?_
  refine (px_go (by decide +kernel : pm_fe 59 16 = some (.iconst 3, 1)) rfl).trans ?_
  refine (px_go (by decide +kernel : pm_fe 59 17 = some (.imul, 1)) rfl).trans ?_
  refine (px_go (by decide +kernel : pm_fe 59 18 = some (.iload_n 1, 1)) rfl).trans ?_
  refine (px_go (by decide +kernel : pm_fe 59 19 = some (.iadd, 1)) rfl).trans ?_
  refine (ry_iald (mos5 hb) h1 h2 (by decide +kernel)).trans ?_
  refine (px_go (by decide +kernel : pm_fe 59 21 = some (.iadd, 1)) rfl).trans ?_
  refine (px_go (by decide +kernel : pm_fe 59 22 = some (.istore_n 2, 1)) rfl).trans ?_
  refine (px_go (by decide +kernel : pm_fe 59 23 = some (.iinc 3 1, 3)) rfl).trans ?_
  refine (px_goto (off := (-22)) (tgt := 4) (by decide +kernel)).trans ?_
  exact Iff.rfl
theorem r59_29 {d : Nat} {b : Nat} {X : Nat × (Nat → Int)} {v : Nat → Int} {M : PH} {K : PV → PS → Prop} {l1 l2 l3 : Int} : pm_Run d 59 29 [vA b, vI l1, vI l2, vI l3] [] (GF X, M, PTF v) K ↔ K (vI l2) (GF X, M, PTF v) := by
  refine (px_go (by decide +kernel : pm_fe 59 29 = some (.iload_n 2, 1)) rfl).trans ?_
  refine (px_ri (by decide +kernel)).trans ?_
  exact Iff.rfl
-- X5_offeredBy offeredBy(I)I
theorem r60_0 {d : Nat} {b : Nat} {X : Nat × (Nat → Int)} {v : Nat → Int} {M : PH} {K : PV → PS → Prop} {l1 : Int} : pm_Run d 60 0 [vA b, vI l1, PU, PU] [] (GF X, M, PTF v) K ↔ pm_Run d 60 4 [vA b, vI l1, vI 0, vI 0] [] (GF X, M, PTF v) K := by
  refine (px_go (by decide +kernel : pm_fe 60 0 = some (.iconst 0, 1)) rfl).trans ?_
  refine (px_go (by decide +kernel : pm_fe 60 1 = some (.istore_n 2, 1)) rfl).trans ?_
  refine (px_go (by decide +kernel : pm_fe 60 2 = some (.iconst 0, 1)) rfl).trans ?_
  refine (px_go (by decide +kernel : pm_fe 60 3 = some (.istore_n 3, 1)) rfl).trans ?_
  exact Iff.rfl
theorem r60_4 {d : Nat} {b : Nat} {X : Nat × (Nat → Int)} {v : Nat → Int} {M : PH} {K : PV → PS → Prop} {l1 l2 l3 : Int} (h1 : inR l3) : pm_Run d 60 4 [vA b, vI l1, vI l2, vI l3] [] (GF X, M, PTF v) K ↔ if 3 ≤ l3 then pm_Run d 60 28 [vA b, vI l1, vI l2, vI l3] [] (GF X, M, PTF v) K else pm_Run d 60 9 [vA b, vI l1, vI l2, vI l3] [] (GF X, M, PTF v) K := by
  refine (px_go (by decide +kernel : pm_fe 60 4 = some (.iload_n 3, 1)) rfl).trans ?_
  refine (px_go (by decide +kernel : pm_fe 60 5 = some (.iconst 3, 1)) rfl).trans ?_
  refine (ry_ic_ge (off := 22) (tgt := 28) h1 (by decide : (-2147483648 ≤ (3 : Int) ∧ (3 : Int) < 2147483648)) (by decide +kernel)).trans ?_
  exact Iff.rfl
theorem r60_9 {d : Nat} {b : Nat} {X : Nat × (Nat → Int)} {v : Nat → Int} {M : PH} {K : PV → PS → Prop} {l1 l2 l3 : Int} (hb : isMo b) (h1 : 0 ≤ ((l1 * 3) + l3)) (h2 : ((l1 * 3) + l3) < 24) : pm_Run d 60 9 [vA b, vI l1, vI l2, vI l3] [] (GF X, M, PTF v) K ↔ pm_Run d 60 4 [vA b, vI l1, vI (l2 + (M (b + 4) ((l1 * 3) + l3).toNat)), vI (l3 + 1)] [] (GF X, M, PTF v) K := by
  refine (px_go (by decide +kernel : pm_fe 60 9 = some (.iload_n 2, 1)) rfl).trans ?_
  refine (px_go (by decide +kernel : pm_fe 60 10 = some (.aload_n 0, 1)) rfl).trans ?_
  refine (ry_get2 (idx := 21) (ci := 5) (k := 4) (mos0 hb) (mop4 hb) (by decide +kernel)).trans ?_
  refine (px_go (by decide +kernel : pm_fe 60 14 = some (.iload_n 1, 1)) rfl).trans ?_
  refine (px_go (by decide +kernel : pm_fe 60 15 = some (.iconst 3, 1)) rfl).trans ?_
  refine (px_go (by decide +kernel : pm_fe 60 16 = some (.imul, 1)) rfl).trans ?_
  refine (px_go (by decide +kernel : pm_fe 60 17 = some (.iload_n 3, 1)) rfl).trans ?_
  refine (px_go (by decide +kernel : pm_fe 60 18 = some (.iadd, 1)) rfl).trans ?_
  refine (ry_iald (mos4 hb) h1 h2 (by decide +kernel)).trans ?_
  refine (px_go (by decide +kernel : pm_fe 60 20 = some (.iadd, 1)) rfl).trans ?_
  refine (px_go (by decide +kernel : pm_fe 60 21 = some (.istore_n 2, 1)) rfl).trans ?_
  refine (px_go (by decide +kernel : pm_fe 60 22 = some (.iinc 3 1, 3)) rfl).trans ?_
  refine (px_goto (off := (-21)) (tgt := 4) (by decide +kernel)).trans ?_
  exact Iff.rfl
theorem r60_28 {d : Nat} {b : Nat} {X : Nat × (Nat → Int)} {v : Nat → Int} {M : PH} {K : PV → PS → Prop} {l1 l2 l3 : Int} : pm_Run d 60 28 [vA b, vI l1, vI l2, vI l3] [] (GF X, M, PTF v) K ↔ K (vI l2) (GF X, M, PTF v) := by
  refine (px_go (by decide +kernel : pm_fe 60 28 = some (.iload_n 2, 1)) rfl).trans ?_
  refine (px_ri (by decide +kernel)).trans ?_
  exact Iff.rfl
-- X5_dueFrom dueFrom(I)I
theorem r61_0 {d : Nat} {b : Nat} {X : Nat × (Nat → Int)} {v : Nat → Int} {M : PH} {K : PV → PS → Prop} {l1 : Int} : pm_Run d 61 0 [vA b, vI l1, PU, PU] [] (GF X, M, PTF v) K ↔ pm_Run d 61 4 [vA b, vI l1, vI 0, vI 0] [] (GF X, M, PTF v) K := by
  refine (px_go (by decide +kernel : pm_fe 61 0 = some (.iconst 0, 1)) rfl).trans ?_
  refine (px_go (by decide +kernel : pm_fe 61 1 = some (.istore_n 2, 1)) rfl).trans ?_
  refine (px_go (by decide +kernel : pm_fe 61 2 = some (.iconst 0, 1)) rfl).trans ?_
  refine (px_go (by decide +kernel : pm_fe 61 3 = some (.istore_n 3, 1)) rfl).trans ?_
  exact Iff.rfl
theorem r61_4 {d : Nat} {b : Nat} {X : Nat × (Nat → Int)} {v : Nat → Int} {M : PH} {K : PV → PS → Prop} {l1 l2 l3 : Int} (h1 : inR l3) : pm_Run d 61 4 [vA b, vI l1, vI l2, vI l3] [] (GF X, M, PTF v) K ↔ if 3 ≤ l3 then pm_Run d 61 28 [vA b, vI l1, vI l2, vI l3] [] (GF X, M, PTF v) K else pm_Run d 61 9 [vA b, vI l1, vI l2, vI l3] [] (GF X, M, PTF v) K := by
  refine (px_go (by decide +kernel : pm_fe 61 4 = some (.iload_n 3, 1)) rfl).trans ?_
  refine (px_go (by decide +kernel : pm_fe 61 5 = some (.iconst 3, 1)) rfl).trans ?_
  refine (ry_ic_ge (off := 22) (tgt := 28) h1 (by decide : (-2147483648 ≤ (3 : Int) ∧ (3 : Int) < 2147483648)) (by decide +kernel)).trans ?_
  exact Iff.rfl
theorem r61_9 {d : Nat} {b : Nat} {X : Nat × (Nat → Int)} {v : Nat → Int} {M : PH} {K : PV → PS → Prop} {l1 l2 l3 : Int} (hb : isMo b) (h1 : 0 ≤ ((l1 * 3) + l3)) (h2 : ((l1 * 3) + l3) < 24) : pm_Run d 61 9 [vA b, vI l1, vI l2, vI l3] [] (GF X, M, PTF v) K ↔ pm_Run d 61 4 [vA b, vI l1, vI (l2 + (M (b + 5) ((l1 * 3) + l3).toNat)), vI (l3 + 1)] [] (GF X, M, PTF v) K := by
  refine (px_go (by decide +kernel : pm_fe 61 9 = some (.iload_n 2, 1)) rfl).trans ?_
  refine (px_go (by decide +kernel : pm_fe 61 10 = some (.aload_n 0, 1)) rfl).trans ?_
  refine (ry_get2 (idx := 24) (ci := 5) (k := 5) (mos0 hb) (mop5 hb) (by decide +kernel)).trans ?_
  refine (px_go (by decide +kernel : pm_fe 61 14 = some (.iload_n 1, 1)) rfl).trans ?_
  refine (px_go (by decide +kernel : pm_fe 61 15 = some (.iconst 3, 1)) rfl).trans ?_
  refine (px_go (by decide +kernel : pm_fe 61 16 = some (.imul, 1)) rfl).trans ?_
  refine (px_go (by decide +kernel : pm_fe 61 17 = some (.iload_n 3, 1)) rfl).trans ?_
  refine (px_go (by decide +kernel : pm_fe 61 18 = some (.iadd, 1)) rfl).trans ?_
  refine (ry_iald (mos5 hb) h1 h2 (by decide +kernel)).trans ?_
  refine (px_go (by decide +kernel : pm_fe 61 20 = some (.iadd, 1)) rfl).trans ?_
  refine (px_go (by decide +kernel : pm_fe 61 21 = some (.istore_n 2, 1)) rfl).trans ?_
  refine (px_go (by decide +kernel : pm_fe 61 22 = some (.iinc 3 1, 3)) rfl).trans ?_
  refine (px_goto (off := (-21)) (tgt := 4) (by decide +kernel)).trans ?_
  exact Iff.rfl
theorem r61_28 {d : Nat} {b : Nat} {X : Nat × (Nat → Int)} {v : Nat → Int} {M : PH} {K : PV → PS → Prop} {l1 l2 l3 : Int} : pm_Run d 61 28 [vA b, vI l1, vI l2, vI l3] [] (GF X, M, PTF v) K ↔ K (vI l2) (GF X, M, PTF v) := by
  refine (px_go (by decide +kernel : pm_fe 61 28 = some (.iload_n 2, 1)) rfl).trans ?_
  refine (px_ri (by decide +kernel)).trans ?_
  exact Iff.rfl
-- X5_offeredInAll offeredInAll()I
theorem r62_0 {d : Nat} {b : Nat} {X : Nat × (Nat → Int)} {v : Nat → Int} {M : PH} {K : PV → PS → Prop} (hb : isMo b) : pm_Run d 62 0 [vA b] [] (GF X, M, PTF v) K ↔ pm_Call d 65 [vA (b + 4)] (GF X, M, PTF v) (fun r9 S1 => pm_Run d 62 7 [vA b] (pm_push r9 []) S1 K) := by
  refine (px_go (by decide +kernel : pm_fe 62 0 = some (.aload_n 0, 1)) rfl).trans ?_
  refine (ry_get2 (idx := 21) (ci := 5) (k := 4) (mos0 hb) (mop4 hb) (by decide +kernel)).trans ?_
  refine (px_s1 (idx := 43) (m' := 65) (nest := 0) (by decide +kernel)).trans ((and_iff_right (by simp [pm_wl_n, pm_wl_c, pm_w] : pm_wl [] ≤ 8)).trans ?_)
  exact Iff.rfl
theorem r62_7 {d : Nat} {b : Nat} {X : Nat × (Nat → Int)} {v : Nat → Int} {M : PH} {K : PV → PS → Prop} {s0 : Int} : pm_Run d 62 7 [vA b] [vI s0] (GF X, M, PTF v) K ↔ K (vI s0) (GF X, M, PTF v) := by
  refine (px_ri (by decide +kernel)).trans ?_
  exact Iff.rfl
-- X5_coinsInPurses coinsInPurses()I
theorem r63_0 {d : Nat} {b : Nat} {X : Nat × (Nat → Int)} {v : Nat → Int} {M : PH} {K : PV → PS → Prop} (hb : isMo b) : pm_Run d 63 0 [vA b] [] (GF X, M, PTF v) K ↔ pm_Call d 65 [vA (b + 3)] (GF X, M, PTF v) (fun r9 S1 => pm_Run d 63 7 [vA b] (pm_push r9 []) S1 K) := by
  refine (px_go (by decide +kernel : pm_fe 63 0 = some (.aload_n 0, 1)) rfl).trans ?_
  refine (ry_get2 (idx := 18) (ci := 5) (k := 3) (mos0 hb) (mop3 hb) (by decide +kernel)).trans ?_
  refine (px_s1 (idx := 43) (m' := 65) (nest := 0) (by decide +kernel)).trans ((and_iff_right (by simp [pm_wl_n, pm_wl_c, pm_w] : pm_wl [] ≤ 8)).trans ?_)
  exact Iff.rfl
theorem r63_7 {d : Nat} {b : Nat} {X : Nat × (Nat → Int)} {v : Nat → Int} {M : PH} {K : PV → PS → Prop} {s0 : Int} : pm_Run d 63 7 [vA b] [vI s0] (GF X, M, PTF v) K ↔ K (vI s0) (GF X, M, PTF v) := by
  refine (px_ri (by decide +kernel)).trans ?_
  exact Iff.rfl
-- X5_coinsDue coinsDue()I
theorem r64_0 {d : Nat} {b : Nat} {X : Nat × (Nat → Int)} {v : Nat → Int} {M : PH} {K : PV → PS → Prop} (hb : isMo b) : pm_Run d 64 0 [vA b] [] (GF X, M, PTF v) K ↔ pm_Call d 65 [vA (b + 5)] (GF X, M, PTF v) (fun r9 S1 => pm_Run d 64 7 [vA b] (pm_push r9 []) S1 K) := by
  refine (px_go (by decide +kernel : pm_fe 64 0 = some (.aload_n 0, 1)) rfl).trans ?_
  refine (ry_get2 (idx := 24) (ci := 5) (k := 5) (mos0 hb) (mop5 hb) (by decide +kernel)).trans ?_
  refine (px_s1 (idx := 43) (m' := 65) (nest := 0) (by decide +kernel)).trans ((and_iff_right (by simp [pm_wl_n, pm_wl_c, pm_w] : pm_wl [] ≤ 8)).trans ?_)
  exact Iff.rfl
theorem r64_7 {d : Nat} {b : Nat} {X : Nat × (Nat → Int)} {v : Nat → Int} {M : PH} {K : PV → PS → Prop} {s0 : Int} : pm_Run d 64 7 [vA b] [vI s0] (GF X, M, PTF v) K ↔ K (vI s0) (GF X, M, PTF v) := by
  refine (px_ri (by decide +kernel)).trans ?_
  exact Iff.rfl
-- X5_sumOf sumOf([I)I
theorem r65_0 {d : Nat} {r nr : Nat} {X : Nat × (Nat → Int)} {v : Nat → Int} {M : PH} {K : PV → PS → Prop} : pm_Run d 65 0 [vA r, PU, PU] [] (GF X, M, PTF v) K ↔ pm_Run d 65 4 [vA r, vI 0, vI 0] [] (GF X, M, PTF v) K := by
  refine (px_go (by decide +kernel : pm_fe 65 0 = some (.iconst 0, 1)) rfl).trans ?_
  refine (px_go (by decide +kernel : pm_fe 65 1 = some (.istore_n 1, 1)) rfl).trans ?_
  refine (px_go (by decide +kernel : pm_fe 65 2 = some (.iconst 0, 1)) rfl).trans ?_
  refine (px_go (by decide +kernel : pm_fe 65 3 = some (.istore_n 2, 1)) rfl).trans ?_
  exact Iff.rfl
theorem r65_4 {d : Nat} {r nr : Nat} {X : Nat × (Nat → Int)} {v : Nat → Int} {M : PH} {K : PV → PS → Prop} {l1 l2 : Int} (hr : r < 283 ∧ SHF r = (100, nr)) (h1 : inR l2) (h2 : inR (nr : Int)) : pm_Run d 65 4 [vA r, vI l1, vI l2] [] (GF X, M, PTF v) K ↔ if (nr : Int) ≤ l2 then pm_Run d 65 22 [vA r, vI l1, vI l2] [] (GF X, M, PTF v) K else pm_Run d 65 10 [vA r, vI l1, vI l2] [] (GF X, M, PTF v) K := by
  refine (px_go (by decide +kernel : pm_fe 65 4 = some (.iload_n 2, 1)) rfl).trans ?_
  refine (px_go (by decide +kernel : pm_fe 65 5 = some (.aload_n 0, 1)) rfl).trans ?_
  refine (ry_alen hr (by decide) (by decide +kernel)).trans ?_
  refine (ry_ic_ge (off := 15) (tgt := 22) h1 h2 (by decide +kernel)).trans ?_
  exact Iff.rfl
theorem r65_10 {d : Nat} {r nr : Nat} {X : Nat × (Nat → Int)} {v : Nat → Int} {M : PH} {K : PV → PS → Prop} {l1 l2 : Int} (hr : r < 283 ∧ SHF r = (100, nr)) (h1 : 0 ≤ l2) (h2 : l2 < nr) : pm_Run d 65 10 [vA r, vI l1, vI l2] [] (GF X, M, PTF v) K ↔ pm_Run d 65 4 [vA r, vI (l1 + (M r l2.toNat)), vI (l2 + 1)] [] (GF X, M, PTF v) K := by
  refine (px_go (by decide +kernel : pm_fe 65 10 = some (.iload_n 1, 1)) rfl).trans ?_
  refine (px_go (by decide +kernel : pm_fe 65 11 = some (.aload_n 0, 1)) rfl).trans ?_
  refine (px_go (by decide +kernel : pm_fe 65 12 = some (.iload_n 2, 1)) rfl).trans ?_
  refine (ry_iald hr h1 h2 (by decide +kernel)).trans ?_
  refine (px_go (by decide +kernel : pm_fe 65 14 = some (.iadd, 1)) rfl).trans ?_
  refine (px_go (by decide +kernel : pm_fe 65 15 = some (.istore_n 1, 1)) rfl).trans ?_
  refine (px_go (by decide +kernel : pm_fe 65 16 = some (.iinc 2 1, 3)) rfl).trans ?_
  refine (px_goto (off := (-15)) (tgt := 4) (by decide +kernel)).trans ?_
  exact Iff.rfl
theorem r65_22 {d : Nat} {r nr : Nat} {X : Nat × (Nat → Int)} {v : Nat → Int} {M : PH} {K : PV → PS → Prop} {l1 l2 : Int} : pm_Run d 65 22 [vA r, vI l1, vI l2] [] (GF X, M, PTF v) K ↔ K (vI l1) (GF X, M, PTF v) := by
  refine (px_go (by decide +kernel : pm_fe 65 22 = some (.iload_n 1, 1)) rfl).trans ?_
  refine (px_ri (by decide +kernel)).trans ?_
  exact Iff.rfl
