-- X12_is is(III)Z
theorem r179_0 {d : Nat} {X : Nat × (Nat → Int)} {v : Nat → Int} {M : PH} {K : PV → PS → Prop} {l0 l1 l2 : Int} (h1 : inR l0) (h2 : inR l1) : pm_Run d 179 0 [vI l0, vI l1, vI l2] [] (GF X, M, PTF v) K ↔ if l0 < l1 then pm_Run d 179 14 [vI l0, vI l1, vI l2] [] (GF X, M, PTF v) K else pm_Run d 179 5 [vI l0, vI l1, vI l2] [] (GF X, M, PTF v) K := by
  refine (px_go (by decide +kernel : pm_fe 179 0 = some (.iload_n 0, 1)) rfl).trans ?_
  refine (px_go (by decide +kernel : pm_fe 179 1 = some (.iload_n 1, 1)) rfl).trans ?_
  refine (ry_ic_lt (off := 12) (tgt := 14) h1 h2 (by decide +kernel)).trans ?_
  exact Iff.rfl
theorem r179_5 {d : Nat} {X : Nat × (Nat → Int)} {v : Nat → Int} {M : PH} {K : PV → PS → Prop} {l0 l1 l2 : Int} (h1 : inR l0) (h2 : inR l2) : pm_Run d 179 5 [vI l0, vI l1, vI l2] [] (GF X, M, PTF v) K ↔ if l2 < l0 then pm_Run d 179 14 [vI l0, vI l1, vI l2] [] (GF X, M, PTF v) K else pm_Run d 179 10 [vI l0, vI l1, vI l2] [] (GF X, M, PTF v) K := by
  refine (px_go (by decide +kernel : pm_fe 179 5 = some (.iload_n 0, 1)) rfl).trans ?_
  refine (px_go (by decide +kernel : pm_fe 179 6 = some (.iload_n 2, 1)) rfl).trans ?_
  refine (ry_ic_gt (off := 7) (tgt := 14) h1 h2 (by decide +kernel)).trans ?_
  exact Iff.rfl
theorem r179_10 {d : Nat} {X : Nat × (Nat → Int)} {v : Nat → Int} {M : PH} {K : PV → PS → Prop} {l0 l1 l2 : Int} : pm_Run d 179 10 [vI l0, vI l1, vI l2] [] (GF X, M, PTF v) K ↔ pm_Run d 179 15 [vI l0, vI l1, vI l2] [vI 1] (GF X, M, PTF v) K := by
  refine (px_go (by decide +kernel : pm_fe 179 10 = some (.iconst 1, 1)) rfl).trans ?_
  refine (px_goto (off := 4) (tgt := 15) (by decide +kernel)).trans ?_
  exact Iff.rfl
theorem r179_14 {d : Nat} {X : Nat × (Nat → Int)} {v : Nat → Int} {M : PH} {K : PV → PS → Prop} {l0 l1 l2 : Int} : pm_Run d 179 14 [vI l0, vI l1, vI l2] [] (GF X, M, PTF v) K ↔ pm_Run d 179 15 [vI l0, vI l1, vI l2] [vI 0] (GF X, M, PTF v) K := by
  refine (px_go (by decide +kernel : pm_fe 179 14 = some (.iconst 0, 1)) rfl).trans ?_
  exact Iff.rfl
theorem r179_15 {d : Nat} {X : Nat × (Nat → Int)} {v : Nat → Int} {M : PH} {K : PV → PS → Prop} {l0 l1 l2 s0 : Int} (h1 : s0 = 0 ∨ s0 = 1) : pm_Run d 179 15 [vI l0, vI l1, vI l2] [vI s0] (GF X, M, PTF v) K ↔ K (vI s0) (GF X, M, PTF v) := by
  refine (px_rz (by decide +kernel)).trans ((and_iff_right h1).trans ?_)
  exact Iff.rfl
-- X12_put put(I)V
theorem r180_0 {d : Nat} {X : Nat × (Nat → Int)} {v : Nat → Int} {M : PH} {K : PV → PS → Prop} {l1 : Int} : pm_Run d 180 0 [vA 234, vI l1, PU] [] (GF X, M, PTF v) K ↔ pm_Run d 180 3 [vA 234, vI l1, vI 24] [] (GF X, M, PTF v) K := by
  refine (px_go (by decide +kernel : pm_fe 180 0 = some (.bipush 24, 2)) rfl).trans ?_
  refine (px_go (by decide +kernel : pm_fe 180 2 = some (.istore_n 2, 1)) rfl).trans ?_
  exact Iff.rfl
theorem r180_3 {d : Nat} {X : Nat × (Nat → Int)} {v : Nat → Int} {M : PH} {K : PV → PS → Prop} {l1 l2 : Int} (h1 : inR l2) : pm_Run d 180 3 [vA 234, vI l1, vI l2] [] (GF X, M, PTF v) K ↔ if l2 < 0 then pm_Run d 180 39 [vA 234, vI l1, vI l2] [] (GF X, M, PTF v) K else pm_Run d 180 7 [vA 234, vI l1, vI l2] [] (GF X, M, PTF v) K := by
  refine (px_go (by decide +kernel : pm_fe 180 3 = some (.iload_n 2, 1)) rfl).trans ?_
  refine (ry_if_lt (off := 35) (tgt := 39) h1 (by decide +kernel)).trans ?_
  exact Iff.rfl
theorem r180_7 {d : Nat} {X : Nat × (Nat → Int)} {v : Nat → Int} {M : PH} {K : PV → PS → Prop} {l1 l2 : Int} (h1 : 0 ≤ (M 234 1)) (h2 : (M 234 1) < 1800) : pm_Run d 180 7 [vA 234, vI l1, vI l2] [] (GF X, M, PTF v) K ↔ pm_Run d 180 23 [vA 234, vI l1, vI l2] [] (GF X, pm_sa M 235 (pm_up (M 235) (M 234 1).toNat (pm_and (pm_shr l1 l2) 255)), PTF v) K := by
  refine (px_go (by decide +kernel : pm_fe 180 7 = some (.aload_n 0, 1)) rfl).trans ?_
  refine (ry_get2 (idx := 7) (ci := 12) (k := 0) (by decide +kernel : 234 < 283 ∧ SHF 234 = (12, 76)) (ptf_l (a := 234) (k := 0) (n := 235) (by decide +kernel)) (by decide +kernel)).trans ?_
  refine (px_go (by decide +kernel : pm_fe 180 11 = some (.aload_n 0, 1)) rfl).trans ?_
  refine (ry_get0 (idx := 13) (ci := 12) (k := 1) (by decide +kernel : 234 < 283 ∧ SHF 234 = (12, 76)) (by decide +kernel)).trans ?_
  refine (px_go (by decide +kernel : pm_fe 180 15 = some (.iload_n 1, 1)) rfl).trans ?_
  refine (px_go (by decide +kernel : pm_fe 180 16 = some (.iload_n 2, 1)) rfl).trans ?_
  refine (px_go (by decide +kernel : pm_fe 180 17 = some (.ishr, 1)) rfl).trans ?_
  refine (px_go (by decide +kernel : pm_fe 180 18 = some (.sipush 255, 3)) rfl).trans ?_
  refine (px_go (by decide +kernel : pm_fe 180 21 = some (.iand, 1)) rfl).trans ?_
  refine (ry_iast (by decide +kernel : 235 < 283 ∧ SHF 235 = (100, 1800)) h1 h2 (by decide +kernel)).trans ?_
  exact Iff.rfl
theorem r180_23 {d : Nat} {X : Nat × (Nat → Int)} {v : Nat → Int} {M : PH} {K : PV → PS → Prop} {l1 l2 : Int} : pm_Run d 180 23 [vA 234, vI l1, vI l2] [] (GF X, M, PTF v) K ↔ pm_Run d 180 33 [vA 234, vI l1, vI l2] [] (GF X, pm_sa M 234 (pm_up (M 234) 1 ((M 234 1) + 1)), PTF v) K := by
  refine (px_go (by decide +kernel : pm_fe 180 23 = some (.aload_n 0, 1)) rfl).trans ?_
  refine (px_go (by decide +kernel : pm_fe 180 24 = some (.dup, 1)) rfl).trans ?_
  refine (ry_get0 (idx := 13) (ci := 12) (k := 1) (by decide +kernel : 234 < 283 ∧ SHF 234 = (12, 76)) (by decide +kernel)).trans ?_
  refine (px_go (by decide +kernel : pm_fe 180 28 = some (.iconst 1, 1)) rfl).trans ?_
  refine (px_go (by decide +kernel : pm_fe 180 29 = some (.iadd, 1)) rfl).trans ?_
  refine (ry_put0 (idx := 13) (ci := 12) (k := 1) (by decide +kernel : 234 < 283 ∧ SHF 234 = (12, 76)) (by decide +kernel)).trans ?_
  exact Iff.rfl
theorem r180_33 {d : Nat} {X : Nat × (Nat → Int)} {v : Nat → Int} {M : PH} {K : PV → PS → Prop} {l1 l2 : Int} : pm_Run d 180 33 [vA 234, vI l1, vI l2] [] (GF X, M, PTF v) K ↔ pm_Run d 180 3 [vA 234, vI l1, vI (l2 + (-8))] [] (GF X, M, PTF v) K := by
  refine (px_go (by decide +kernel : pm_fe 180 33 = some (.iinc 2 (-8), 3)) rfl).trans ?_
  refine (px_goto (off := (-33)) (tgt := 3) (by decide +kernel)).trans ?_
  exact Iff.rfl
theorem r180_39 {d : Nat} {X : Nat × (Nat → Int)} {v : Nat → Int} {M : PH} {K : PV → PS → Prop} {l1 l2 : Int} : pm_Run d 180 39 [vA 234, vI l1, vI l2] [] (GF X, M, PTF v) K ↔ K PU (GF X, M, PTF v) := by
  refine (px_rv (by decide +kernel)).trans ?_
  exact Iff.rfl
-- X12_feed feed(IIIII)I
theorem r181_0 {d : Nat} {X : Nat × (Nat → Int)} {v : Nat → Int} {M : PH} {K : PV → PS → Prop} {l1 l2 l3 l4 l5 : Int} (h1 : inR ((M 234 1) + 20)) : pm_Run d 181 0 [vA 234, vI l1, vI l2, vI l3, vI l4, vI l5] [] (GF X, M, PTF v) K ↔ if (M 234 1) + 20 ≤ 1600 then pm_Run d 181 19 [vA 234, vI l1, vI l2, vI l3, vI l4, vI l5] [] (GF X, M, PTF v) K else pm_Run d 181 13 [vA 234, vI l1, vI l2, vI l3, vI l4, vI l5] [] (GF X, M, PTF v) K := by
  refine (px_go (by decide +kernel : pm_fe 181 0 = some (.aload_n 0, 1)) rfl).trans ?_
  refine (ry_get0 (idx := 13) (ci := 12) (k := 1) (by decide +kernel : 234 < 283 ∧ SHF 234 = (12, 76)) (by decide +kernel)).trans ?_
  refine (px_go (by decide +kernel : pm_fe 181 4 = some (.bipush 20, 2)) rfl).trans ?_
  refine (px_go (by decide +kernel : pm_fe 181 6 = some (.iadd, 1)) rfl).trans ?_
  refine (px_go (by decide +kernel : pm_fe 181 7 = some (.sipush 1600, 3)) rfl).trans ?_
  refine (ry_ic_le (off := 9) (tgt := 19) h1 (by decide : (-2147483648 ≤ (1600 : Int) ∧ (1600 : Int) < 2147483648)) (by decide +kernel)).trans ?_
  exact Iff.rfl
theorem r181_13 {d : Nat} {X : Nat × (Nat → Int)} {v : Nat → Int} {M : PH} {K : PV → PS → Prop} {l1 l2 l3 l4 l5 : Int} : pm_Run d 181 13 [vA 234, vI l1, vI l2, vI l3, vI l4, vI l5] [] (GF X, M, PTF v) K ↔ pm_Call d 224 [vA 234, vI 0] (GF X, M, PTF v) (fun r9 S1 => pm_Run d 181 18 [vA 234, vI l1, vI l2, vI l3, vI l4, vI l5] (pm_push r9 []) S1 K) := by
  refine (px_go (by decide +kernel : pm_fe 181 13 = some (.aload_n 0, 1)) rfl).trans ?_
  refine (px_go (by decide +kernel : pm_fe 181 14 = some (.iconst 0, 1)) rfl).trans ?_
  refine (ry_v1 (idx := 243) (m' := 224) (ci := 12) (by decide +kernel : 234 < 283 ∧ SHF 234 = (12, 76)) (by simp [pm_wl_n, pm_wl_c, pm_w] : pm_wl [] ≤ 8) (by decide +kernel)).trans ?_
  exact Iff.rfl
theorem r181_18 {d : Nat} {X : Nat × (Nat → Int)} {v : Nat → Int} {M : PH} {K : PV → PS → Prop} {l1 l2 l3 l4 l5 s0 : Int} : pm_Run d 181 18 [vA 234, vI l1, vI l2, vI l3, vI l4, vI l5] [vI s0] (GF X, M, PTF v) K ↔ K (vI s0) (GF X, M, PTF v) := by
  refine (px_ri (by decide +kernel)).trans ?_
  exact Iff.rfl
theorem r181_19 {d : Nat} {X : Nat × (Nat → Int)} {v : Nat → Int} {M : PH} {K : PV → PS → Prop} {l1 l2 l3 l4 l5 : Int} : pm_Run d 181 19 [vA 234, vI l1, vI l2, vI l3, vI l4, vI l5] [] (GF X, M, PTF v) K ↔ pm_Call d 180 [vA 234, vI l1] (GF X, M, PTF v) (fun r9 S1 => pm_Run d 181 24 [vA 234, vI l1, vI l2, vI l3, vI l4, vI l5] (pm_push r9 []) S1 K) := by
  refine (px_go (by decide +kernel : pm_fe 181 19 = some (.aload_n 0, 1)) rfl).trans ?_
  refine (px_go (by decide +kernel : pm_fe 181 20 = some (.iload_n 1, 1)) rfl).trans ?_
  refine (ry_v1 (idx := 247) (m' := 180) (ci := 12) (by decide +kernel : 234 < 283 ∧ SHF 234 = (12, 76)) (by simp [pm_wl_n, pm_wl_c, pm_w] : pm_wl [] ≤ 8) (by decide +kernel)).trans ?_
  exact Iff.rfl
theorem r181_24 {d : Nat} {X : Nat × (Nat → Int)} {v : Nat → Int} {M : PH} {K : PV → PS → Prop} {l1 l2 l3 l4 l5 : Int} : pm_Run d 181 24 [vA 234, vI l1, vI l2, vI l3, vI l4, vI l5] [] (GF X, M, PTF v) K ↔ pm_Call d 180 [vA 234, vI l2] (GF X, M, PTF v) (fun r9 S1 => pm_Run d 181 29 [vA 234, vI l1, vI l2, vI l3, vI l4, vI l5] (pm_push r9 []) S1 K) := by
  refine (px_go (by decide +kernel : pm_fe 181 24 = some (.aload_n 0, 1)) rfl).trans ?_
  refine (px_go (by decide +kernel : pm_fe 181 25 = some (.iload_n 2, 1)) rfl).trans ?_
  refine (ry_v1 (idx := 247) (m' := 180) (ci := 12) (by decide +kernel : 234 < 283 ∧ SHF 234 = (12, 76)) (by simp [pm_wl_n, pm_wl_c, pm_w] : pm_wl [] ≤ 8) (by decide +kernel)).trans ?_
  exact Iff.rfl
theorem r181_29 {d : Nat} {X : Nat × (Nat → Int)} {v : Nat → Int} {M : PH} {K : PV → PS → Prop} {l1 l2 l3 l4 l5 : Int} : pm_Run d 181 29 [vA 234, vI l1, vI l2, vI l3, vI l4, vI l5] [] (GF X, M, PTF v) K ↔ pm_Call d 180 [vA 234, vI l3] (GF X, M, PTF v) (fun r9 S1 => pm_Run d 181 34 [vA 234, vI l1, vI l2, vI l3, vI l4, vI l5] (pm_push r9 []) S1 K) := by
  refine (px_go (by decide +kernel : pm_fe 181 29 = some (.aload_n 0, 1)) rfl).trans ?_
  refine (px_go (by decide +kernel : pm_fe 181 30 = some (.iload_n 3, 1)) rfl).trans ?_
  refine (ry_v1 (idx := 247) (m' := 180) (ci := 12) (by decide +kernel : 234 < 283 ∧ SHF 234 = (12, 76)) (by simp [pm_wl_n, pm_wl_c, pm_w] : pm_wl [] ≤ 8) (by decide +kernel)).trans ?_
  exact Iff.rfl
theorem r181_34 {d : Nat} {X : Nat × (Nat → Int)} {v : Nat → Int} {M : PH} {K : PV → PS → Prop} {l1 l2 l3 l4 l5 : Int} : pm_Run d 181 34 [vA 234, vI l1, vI l2, vI l3, vI l4, vI l5] [] (GF X, M, PTF v) K ↔ pm_Call d 180 [vA 234, vI l4] (GF X, M, PTF v) (fun r9 S1 => pm_Run d 181 40 [vA 234, vI l1, vI l2, vI l3, vI l4, vI l5] (pm_push r9 []) S1 K) := by
  refine (px_go (by decide +kernel : pm_fe 181 34 = some (.aload_n 0, 1)) rfl).trans ?_
  refine (px_go (by decide +kernel : pm_fe 181 35 = some (.iload 4, 2)) rfl).trans ?_
  refine (ry_v1 (idx := 247) (m' := 180) (ci := 12) (by decide +kernel : 234 < 283 ∧ SHF 234 = (12, 76)) (by simp [pm_wl_n, pm_wl_c, pm_w] : pm_wl [] ≤ 8) (by decide +kernel)).trans ?_
  exact Iff.rfl
theorem r181_40 {d : Nat} {X : Nat × (Nat → Int)} {v : Nat → Int} {M : PH} {K : PV → PS → Prop} {l1 l2 l3 l4 l5 : Int} : pm_Run d 181 40 [vA 234, vI l1, vI l2, vI l3, vI l4, vI l5] [] (GF X, M, PTF v) K ↔ pm_Call d 180 [vA 234, vI l5] (GF X, M, PTF v) (fun r9 S1 => pm_Run d 181 46 [vA 234, vI l1, vI l2, vI l3, vI l4, vI l5] (pm_push r9 []) S1 K) := by
  refine (px_go (by decide +kernel : pm_fe 181 40 = some (.aload_n 0, 1)) rfl).trans ?_
  refine (px_go (by decide +kernel : pm_fe 181 41 = some (.iload 5, 2)) rfl).trans ?_
  refine (ry_v1 (idx := 247) (m' := 180) (ci := 12) (by decide +kernel : 234 < 283 ∧ SHF 234 = (12, 76)) (by simp [pm_wl_n, pm_wl_c, pm_w] : pm_wl [] ≤ 8) (by decide +kernel)).trans ?_
  exact Iff.rfl
theorem r181_46 {d : Nat} {X : Nat × (Nat → Int)} {v : Nat → Int} {M : PH} {K : PV → PS → Prop} {l1 l2 l3 l4 l5 : Int} : pm_Run d 181 46 [vA 234, vI l1, vI l2, vI l3, vI l4, vI l5] [] (GF X, M, PTF v) K ↔ K (vI (M 234 1)) (GF X, M, PTF v) := by
  refine (px_go (by decide +kernel : pm_fe 181 46 = some (.aload_n 0, 1)) rfl).trans ?_
  refine (ry_get0 (idx := 13) (ci := 12) (k := 1) (by decide +kernel : 234 < 283 ∧ SHF 234 = (12, 76)) (by decide +kernel)).trans ?_
  refine (px_ri (by decide +kernel)).trans ?_
  exact Iff.rfl
-- X12_end end(I)Z
theorem r182_0 {d : Nat} {X : Nat × (Nat → Int)} {v : Nat → Int} {M : PH} {K : PV → PS → Prop} {l1 : Int} (h1 : inR l1) : pm_Run d 182 0 [vA 234, vI l1] [] (GF X, M, PTF v) K ↔ if l1 < 0 then pm_Run d 182 12 [vA 234, vI l1] [] (GF X, M, PTF v) K else pm_Run d 182 4 [vA 234, vI l1] [] (GF X, M, PTF v) K := by
  refine (px_go (by decide +kernel : pm_fe 182 0 = some (.iload_n 1, 1)) rfl).trans ?_
  refine (ry_if_lt (off := 11) (tgt := 12) h1 (by decide +kernel)).trans ?_
  exact Iff.rfl
theorem r182_4 {d : Nat} {X : Nat × (Nat → Int)} {v : Nat → Int} {M : PH} {K : PV → PS → Prop} {l1 : Int} (h1 : inR l1) (h2 : inR (M 234 1)) : pm_Run d 182 4 [vA 234, vI l1] [] (GF X, M, PTF v) K ↔ if l1 ≤ M 234 1 then pm_Run d 182 26 [vA 234, vI l1] [] (GF X, M, PTF v) K else pm_Run d 182 12 [vA 234, vI l1] [] (GF X, M, PTF v) K := by
  refine (px_go (by decide +kernel : pm_fe 182 4 = some (.iload_n 1, 1)) rfl).trans ?_
  refine (px_go (by decide +kernel : pm_fe 182 5 = some (.aload_n 0, 1)) rfl).trans ?_
  refine (ry_get0 (idx := 13) (ci := 12) (k := 1) (by decide +kernel : 234 < 283 ∧ SHF 234 = (12, 76)) (by decide +kernel)).trans ?_
  refine (ry_ic_le (off := 17) (tgt := 26) h1 h2 (by decide +kernel)).trans ?_
  exact Iff.rfl
theorem r182_12 {d : Nat} {X : Nat × (Nat → Int)} {v : Nat → Int} {M : PH} {K : PV → PS → Prop} {l1 : Int} : pm_Run d 182 12 [vA 234, vI l1] [] (GF X, M, PTF v) K ↔ pm_Call d 224 [vA 234, vI 0] (GF X, M, PTF v) (fun r9 S1 => pm_Run d 182 17 [vA 234, vI l1] (pm_push r9 []) S1 K) := by
  refine (px_go (by decide +kernel : pm_fe 182 12 = some (.aload_n 0, 1)) rfl).trans ?_
  refine (px_go (by decide +kernel : pm_fe 182 13 = some (.iconst 0, 1)) rfl).trans ?_
  refine (ry_v1 (idx := 243) (m' := 224) (ci := 12) (by decide +kernel : 234 < 283 ∧ SHF 234 = (12, 76)) (by simp [pm_wl_n, pm_wl_c, pm_w] : pm_wl [] ≤ 8) (by decide +kernel)).trans ?_
  exact Iff.rfl
theorem r182_17 {d : Nat} {X : Nat × (Nat → Int)} {v : Nat → Int} {M : PH} {K : PV → PS → Prop} {l1 s0 : Int} (h1 : inR s0) : pm_Run d 182 17 [vA 234, vI l1] [vI s0] (GF X, M, PTF v) K ↔ if s0 < 0 then pm_Run d 182 24 [vA 234, vI l1] [] (GF X, M, PTF v) K else pm_Run d 182 20 [vA 234, vI l1] [] (GF X, M, PTF v) K := by
  refine (ry_if_lt (off := 7) (tgt := 24) h1 (by decide +kernel)).trans ?_
  exact Iff.rfl
theorem r182_20 {d : Nat} {X : Nat × (Nat → Int)} {v : Nat → Int} {M : PH} {K : PV → PS → Prop} {l1 : Int} : pm_Run d 182 20 [vA 234, vI l1] [] (GF X, M, PTF v) K ↔ pm_Run d 182 25 [vA 234, vI l1] [vI 1] (GF X, M, PTF v) K := by
  refine (px_go (by decide +kernel : pm_fe 182 20 = some (.iconst 1, 1)) rfl).trans ?_
  refine (px_goto (off := 4) (tgt := 25) (by decide +kernel)).trans ?_
  exact Iff.rfl
theorem r182_24 {d : Nat} {X : Nat × (Nat → Int)} {v : Nat → Int} {M : PH} {K : PV → PS → Prop} {l1 : Int} : pm_Run d 182 24 [vA 234, vI l1] [] (GF X, M, PTF v) K ↔ pm_Run d 182 25 [vA 234, vI l1] [vI 0] (GF X, M, PTF v) K := by
  refine (px_go (by decide +kernel : pm_fe 182 24 = some (.iconst 0, 1)) rfl).trans ?_
  exact Iff.rfl
theorem r182_25 {d : Nat} {X : Nat × (Nat → Int)} {v : Nat → Int} {M : PH} {K : PV → PS → Prop} {l1 s0 : Int} (h1 : s0 = 0 ∨ s0 = 1) : pm_Run d 182 25 [vA 234, vI l1] [vI s0] (GF X, M, PTF v) K ↔ K (vI s0) (GF X, M, PTF v) := by
  refine (px_rz (by decide +kernel)).trans ((and_iff_right h1).trans ?_)
  exact Iff.rfl
theorem r182_26 {d : Nat} {X : Nat × (Nat → Int)} {v : Nat → Int} {M : PH} {K : PV → PS → Prop} {l1 : Int} : pm_Run d 182 26 [vA 234, vI l1] [] (GF X, M, PTF v) K ↔ pm_Run d 182 31 [vA 234, vI l1] [] (GF X, pm_sa M 234 (pm_up (M 234) 1 l1), PTF v) K := by
  refine (px_go (by decide +kernel : pm_fe 182 26 = some (.aload_n 0, 1)) rfl).trans ?_
  refine (px_go (by decide +kernel : pm_fe 182 27 = some (.iload_n 1, 1)) rfl).trans ?_
  refine (ry_put0 (idx := 13) (ci := 12) (k := 1) (by decide +kernel : 234 < 283 ∧ SHF 234 = (12, 76)) (by decide +kernel)).trans ?_
  exact Iff.rfl
theorem r182_31 {d : Nat} {X : Nat × (Nat → Int)} {v : Nat → Int} {M : PH} {K : PV → PS → Prop} {l1 : Int} : pm_Run d 182 31 [vA 234, vI l1] [] (GF X, M, PTF v) K ↔ K (vI 1) (GF X, M, PTF v) := by
  refine (px_go (by decide +kernel : pm_fe 182 31 = some (.iconst 1, 1)) rfl).trans ?_
  refine (px_rz (by decide +kernel)).trans ((and_iff_right (by decide : (1 : Int) = (0 : Int) ∨ (1 : Int) = (1 : Int))).trans ?_)
  exact Iff.rfl
-- X12_blame blame(II)V
theorem r183_0 {d : Nat} {X : Nat × (Nat → Int)} {v : Nat → Int} {M : PH} {K : PV → PS → Prop} {l1 l2 : Int} (h1 : inR (M 234 8)) : pm_Run d 183 0 [vA 234, vI l1, vI l2] [] (GF X, M, PTF v) K ↔ if M 234 8 ≤ 0 then pm_Run d 183 8 [vA 234, vI l1, vI l2] [] (GF X, M, PTF v) K else pm_Run d 183 7 [vA 234, vI l1, vI l2] [] (GF X, M, PTF v) K := by
  refine (px_go (by decide +kernel : pm_fe 183 0 = some (.aload_n 0, 1)) rfl).trans ?_
  refine (ry_get0 (idx := 36) (ci := 12) (k := 8) (by decide +kernel : 234 < 283 ∧ SHF 234 = (12, 76)) (by decide +kernel)).trans ?_
  refine (ry_if_le (off := 4) (tgt := 8) h1 (by decide +kernel)).trans ?_
  exact Iff.rfl
theorem r183_7 {d : Nat} {X : Nat × (Nat → Int)} {v : Nat → Int} {M : PH} {K : PV → PS → Prop} {l1 l2 : Int} : pm_Run d 183 7 [vA 234, vI l1, vI l2] [] (GF X, M, PTF v) K ↔ K PU (GF X, M, PTF v) := by
  refine (px_rv (by decide +kernel)).trans ?_
  exact Iff.rfl
theorem r183_8 {d : Nat} {X : Nat × (Nat → Int)} {v : Nat → Int} {M : PH} {K : PV → PS → Prop} {l1 l2 : Int} : pm_Run d 183 8 [vA 234, vI l1, vI l2] [] (GF X, M, PTF v) K ↔ pm_Run d 183 13 [vA 234, vI l1, vI l2] [] (GF X, pm_sa M 234 (pm_up (M 234) 8 l1), PTF v) K := by
  refine (px_go (by decide +kernel : pm_fe 183 8 = some (.aload_n 0, 1)) rfl).trans ?_
  refine (px_go (by decide +kernel : pm_fe 183 9 = some (.iload_n 1, 1)) rfl).trans ?_
  refine (ry_put0 (idx := 36) (ci := 12) (k := 8) (by decide +kernel : 234 < 283 ∧ SHF 234 = (12, 76)) (by decide +kernel)).trans ?_
  exact Iff.rfl
theorem r183_13 {d : Nat} {X : Nat × (Nat → Int)} {v : Nat → Int} {M : PH} {K : PV → PS → Prop} {l1 l2 : Int} : pm_Run d 183 13 [vA 234, vI l1, vI l2] [] (GF X, M, PTF v) K ↔ K PU (GF X, pm_sa M 234 (pm_up (M 234) 9 l2), PTF v) := by
  refine (px_go (by decide +kernel : pm_fe 183 13 = some (.aload_n 0, 1)) rfl).trans ?_
  refine (px_go (by decide +kernel : pm_fe 183 14 = some (.iload_n 2, 1)) rfl).trans ?_
  refine (ry_put0 (idx := 39) (ci := 12) (k := 9) (by decide +kernel : 234 < 283 ∧ SHF 234 = (12, 76)) (by decide +kernel)).trans ?_
  refine (px_rv (by decide +kernel)).trans ?_
  exact Iff.rfl
-- X12_isLetter isLetter(I)Z
theorem r184_0 {d : Nat} {X : Nat × (Nat → Int)} {v : Nat → Int} {M : PH} {K : PV → PS → Prop} {l0 : Int} (h1 : inR l0) : pm_Run d 184 0 [vI l0] [] (GF X, M, PTF v) K ↔ if l0 < 97 then pm_Run d 184 16 [vI l0] [] (GF X, M, PTF v) K else pm_Run d 184 6 [vI l0] [] (GF X, M, PTF v) K := by
  refine (px_go (by decide +kernel : pm_fe 184 0 = some (.iload_n 0, 1)) rfl).trans ?_
  refine (px_go (by decide +kernel : pm_fe 184 1 = some (.bipush 97, 2)) rfl).trans ?_
  refine (ry_ic_lt (off := 13) (tgt := 16) h1 (by decide : (-2147483648 ≤ (97 : Int) ∧ (97 : Int) < 2147483648)) (by decide +kernel)).trans ?_
  exact Iff.rfl
theorem r184_6 {d : Nat} {X : Nat × (Nat → Int)} {v : Nat → Int} {M : PH} {K : PV → PS → Prop} {l0 : Int} (h1 : inR l0) : pm_Run d 184 6 [vI l0] [] (GF X, M, PTF v) K ↔ if 122 < l0 then pm_Run d 184 16 [vI l0] [] (GF X, M, PTF v) K else pm_Run d 184 12 [vI l0] [] (GF X, M, PTF v) K := by
  refine (px_go (by decide +kernel : pm_fe 184 6 = some (.iload_n 0, 1)) rfl).trans ?_
  refine (px_go (by decide +kernel : pm_fe 184 7 = some (.bipush 122, 2)) rfl).trans ?_
  refine (ry_ic_gt (off := 7) (tgt := 16) h1 (by decide : (-2147483648 ≤ (122 : Int) ∧ (122 : Int) < 2147483648)) (by decide +kernel)).trans ?_
  exact Iff.rfl
theorem r184_12 {d : Nat} {X : Nat × (Nat → Int)} {v : Nat → Int} {M : PH} {K : PV → PS → Prop} {l0 : Int} : pm_Run d 184 12 [vI l0] [] (GF X, M, PTF v) K ↔ pm_Run d 184 17 [vI l0] [vI 1] (GF X, M, PTF v) K := by
  refine (px_go (by decide +kernel : pm_fe 184 12 = some (.iconst 1, 1)) rfl).trans ?_
  refine (px_goto (off := 4) (tgt := 17) (by decide +kernel)).trans ?_
  exact Iff.rfl
theorem r184_16 {d : Nat} {X : Nat × (Nat → Int)} {v : Nat → Int} {M : PH} {K : PV → PS → Prop} {l0 : Int} : pm_Run d 184 16 [vI l0] [] (GF X, M, PTF v) K ↔ pm_Run d 184 17 [vI l0] [vI 0] (GF X, M, PTF v) K := by
  refine (px_go (by decide +kernel : pm_fe 184 16 = some (.iconst 0, 1)) rfl).trans ?_
  exact Iff.rfl
theorem r184_17 {d : Nat} {X : Nat × (Nat → Int)} {v : Nat → Int} {M : PH} {K : PV → PS → Prop} {l0 s0 : Int} (h1 : s0 = 0 ∨ s0 = 1) : pm_Run d 184 17 [vI l0] [vI s0] (GF X, M, PTF v) K ↔ K (vI s0) (GF X, M, PTF v) := by
  refine (px_rz (by decide +kernel)).trans ((and_iff_right h1).trans ?_)
  exact Iff.rfl
-- X12_isDigit isDigit(I)Z
theorem r185_0 {d : Nat} {X : Nat × (Nat → Int)} {v : Nat → Int} {M : PH} {K : PV → PS → Prop} {l0 : Int} (h1 : inR l0) : pm_Run d 185 0 [vI l0] [] (GF X, M, PTF v) K ↔ if l0 < 48 then pm_Run d 185 16 [vI l0] [] (GF X, M, PTF v) K else pm_Run d 185 6 [vI l0] [] (GF X, M, PTF v) K := by
  refine (px_go (by decide +kernel : pm_fe 185 0 = some (.iload_n 0, 1)) rfl).trans ?_
  refine (px_go (by decide +kernel : pm_fe 185 1 = some (.bipush 48, 2)) rfl).trans ?_
  refine (ry_ic_lt (off := 13) (tgt := 16) h1 (by decide : (-2147483648 ≤ (48 : Int) ∧ (48 : Int) < 2147483648)) (by decide +kernel)).trans ?_
  exact Iff.rfl
theorem r185_6 {d : Nat} {X : Nat × (Nat → Int)} {v : Nat → Int} {M : PH} {K : PV → PS → Prop} {l0 : Int} (h1 : inR l0) : pm_Run d 185 6 [vI l0] [] (GF X, M, PTF v) K ↔ if 57 < l0 then pm_Run d 185 16 [vI l0] [] (GF X, M, PTF v) K else pm_Run d 185 12 [vI l0] [] (GF X, M, PTF v) K := by
  refine (px_go (by decide +kernel : pm_fe 185 6 = some (.iload_n 0, 1)) rfl).trans ?_
  refine (px_go (by decide +kernel : pm_fe 185 7 = some (.bipush 57, 2)) rfl).trans ?_
  refine (ry_ic_gt (off := 7) (tgt := 16) h1 (by decide : (-2147483648 ≤ (57 : Int) ∧ (57 : Int) < 2147483648)) (by decide +kernel)).trans ?_
  exact Iff.rfl
theorem r185_12 {d : Nat} {X : Nat × (Nat → Int)} {v : Nat → Int} {M : PH} {K : PV → PS → Prop} {l0 : Int} : pm_Run d 185 12 [vI l0] [] (GF X, M, PTF v) K ↔ pm_Run d 185 17 [vI l0] [vI 1] (GF X, M, PTF v) K := by
  refine (px_go (by decide +kernel : pm_fe 185 12 = some (.iconst 1, 1)) rfl).trans ?_
  refine (px_goto (off := 4) (tgt := 17) (by decide +kernel)).trans ?_
  exact Iff.rfl
theorem r185_16 {d : Nat} {X : Nat × (Nat → Int)} {v : Nat → Int} {M : PH} {K : PV → PS → Prop} {l0 : Int} : pm_Run d 185 16 [vI l0] [] (GF X, M, PTF v) K ↔ pm_Run d 185 17 [vI l0] [vI 0] (GF X, M, PTF v) K := by
  refine (px_go (by decide +kernel : pm_fe 185 16 = some (.iconst 0, 1)) rfl).trans ?_
  exact Iff.rfl
theorem r185_17 {d : Nat} {X : Nat × (Nat → Int)} {v : Nat → Int} {M : PH} {K : PV → PS → Prop} {l0 s0 : Int} (h1 : s0 = 0 ∨ s0 = 1) : pm_Run d 185 17 [vI l0] [vI s0] (GF X, M, PTF v) K ↔ K (vI s0) (GF X, M, PTF v) := by
  refine (px_rz (by decide +kernel)).trans ((and_iff_right h1).trans ?_)
  exact Iff.rfl
-- X12_lex lex()V
theorem r186_0 {d : Nat} {X : Nat × (Nat → Int)} {v : Nat → Int} {M : PH} {K : PV → PS → Prop} (h1 : inR (M 234 12)) : pm_Run d 186 0 [vA 234] [] (GF X, M, PTF v) K ↔ if M 234 12 = (-1) then pm_Run d 186 17 [vA 234] [] (GF X, M, PTF v) K else pm_Run d 186 8 [vA 234] [] (GF X, M, PTF v) K := by
  refine (px_go (by decide +kernel : pm_fe 186 0 = some (.aload_n 0, 1)) rfl).trans ?_
  refine (ry_get0 (idx := 48) (ci := 12) (k := 12) (by decide +kernel : 234 < 283 ∧ SHF 234 = (12, 76)) (by decide +kernel)).trans ?_
  refine (px_go (by decide +kernel : pm_fe 186 4 = some (.iconst (-1), 1)) rfl).trans ?_
  refine (ry_ic_eq (off := 12) (tgt := 17) h1 (by decide : (-2147483648 ≤ ((-1) : Int) ∧ ((-1) : Int) < 2147483648)) (by decide +kernel)).trans ?_
  exact Iff.rfl
theorem r186_8 {d : Nat} {X : Nat × (Nat → Int)} {v : Nat → Int} {M : PH} {K : PV → PS → Prop} : pm_Run d 186 8 [vA 234] [] (GF X, M, PTF v) K ↔ pm_Call d 183 [vA 234, vI 1, vI (M 234 12)] (GF X, M, PTF v) (fun r9 S1 => pm_Run d 186 17 [vA 234] (pm_push r9 []) S1 K) := by
  refine (px_go (by decide +kernel : pm_fe 186 8 = some (.aload_n 0, 1)) rfl).trans ?_
  refine (px_go (by decide +kernel : pm_fe 186 9 = some (.iconst 1, 1)) rfl).trans ?_
  refine (px_go (by decide +kernel : pm_fe 186 10 = some (.aload_n 0, 1)) rfl).trans ?_
  refine (ry_get0 (idx := 48) (ci := 12) (k := 12) (by decide +kernel : 234 < 283 ∧ SHF 234 = (12, 76)) (by decide +kernel)).trans ?_
  refine (ry_v2 (idx := 251) (m' := 183) (ci := 12) (by decide +kernel : 234 < 283 ∧ SHF 234 = (12, 76)) (by simp [pm_wl_n, pm_wl_c, pm_w] : pm_wl [] ≤ 8) (by decide +kernel)).trans ?_
  exact Iff.rfl
theorem r186_17 {d : Nat} {X : Nat × (Nat → Int)} {v : Nat → Int} {M : PH} {K : PV → PS → Prop} : pm_Run d 186 17 [vA 234] [] (GF X, M, PTF v) K ↔ K PU (GF X, M, PTF v) := by
  refine (px_rv (by decide +kernel)).trans ?_
  exact Iff.rfl
-- X12_ahead ahead()V
theorem r187_0 {d : Nat} {X : Nat × (Nat → Int)} {v : Nat → Int} {M : PH} {K : PV → PS → Prop} : pm_Run d 187 0 [vA 234, PU, PU, PU, PU, PU] [] (GF X, M, PTF v) K ↔ pm_Run d 187 5 [vA 234, vI (M 234 5), PU, PU, PU, PU] [] (GF X, M, PTF v) K := by
  refine (px_go (by decide +kernel : pm_fe 187 0 = some (.aload_n 0, 1)) rfl).trans ?_
  refine (ry_get0 (idx := 26) (ci := 12) (k := 5) (by decide +kernel : 234 < 283 ∧ SHF 234 = (12, 76)) (by decide +kernel)).trans ?_
  refine (px_go (by decide +kernel : pm_fe 187 4 = some (.istore_n 1, 1)) rfl).trans ?_
  exact Iff.rfl
theorem r187_5 {d : Nat} {X : Nat × (Nat → Int)} {v : Nat → Int} {M : PH} {K : PV → PS → Prop} {l1 : Int} (h1 : inR l1) (h2 : inR (M 234 2)) : pm_Run d 187 5 [vA 234, vI l1, PU, PU, PU, PU] [] (GF X, M, PTF v) K ↔ if M 234 2 ≤ l1 then pm_Run d 187 41 [vA 234, vI l1, PU, PU, PU, PU] [] (GF X, M, PTF v) K else pm_Run d 187 13 [vA 234, vI l1, PU, PU, PU, PU] [] (GF X, M, PTF v) K := by
  refine (px_go (by decide +kernel : pm_fe 187 5 = some (.iload_n 1, 1)) rfl).trans ?_
  refine (px_go (by decide +kernel : pm_fe 187 6 = some (.aload_n 0, 1)) rfl).trans ?_
  refine (ry_get0 (idx := 17) (ci := 12) (k := 2) (by decide +kernel : 234 < 283 ∧ SHF 234 = (12, 76)) (by decide +kernel)).trans ?_
  refine (ry_ic_ge (off := 31) (tgt := 41) h1 h2 (by decide +kernel)).trans ?_
  exact Iff.rfl
theorem r187_13 {d : Nat} {X : Nat × (Nat → Int)} {v : Nat → Int} {M : PH} {K : PV → PS → Prop} {l1 : Int} (h1 : 0 ≤ l1) (h2 : l1 < 1800) (h3 : inR (M 235 l1.toNat)) : pm_Run d 187 13 [vA 234, vI l1, PU, PU, PU, PU] [] (GF X, M, PTF v) K ↔ if M 235 l1.toNat = 32 then pm_Run d 187 35 [vA 234, vI l1, PU, PU, PU, PU] [] (GF X, M, PTF v) K else pm_Run d 187 24 [vA 234, vI l1, PU, PU, PU, PU] [] (GF X, M, PTF v) K := by
  refine (px_go (by decide +kernel : pm_fe 187 13 = some (.aload_n 0, 1)) rfl).trans ?_
  refine (ry_get2 (idx := 7) (ci := 12) (k := 0) (by decide +kernel : 234 < 283 ∧ SHF 234 = (12, 76)) (ptf_l (a := 234) (k := 0) (n := 235) (by decide +kernel)) (by decide +kernel)).trans ?_
  refine (px_go (by decide +kernel : pm_fe 187 17 = some (.iload_n 1, 1)) rfl).trans ?_
  refine (ry_iald (by decide +kernel : 235 < 283 ∧ SHF 235 = (100, 1800)) h1 h2 (by decide +kernel)).trans ?_
  refine (px_go (by decide +kernel : pm_fe 187 19 = some (.bipush 32, 2)) rfl).trans ?_
  refine (ry_ic_eq (off := 14) (tgt := 35) h3 (by decide : (-2147483648 ≤ (32 : Int) ∧ (32 : Int) < 2147483648)) (by decide +kernel)).trans ?_
  exact Iff.rfl
theorem r187_24 {d : Nat} {X : Nat × (Nat → Int)} {v : Nat → Int} {M : PH} {K : PV → PS → Prop} {l1 : Int} (h1 : 0 ≤ l1) (h2 : l1 < 1800) (h3 : inR (M 235 l1.toNat)) : pm_Run d 187 24 [vA 234, vI l1, PU, PU, PU, PU] [] (GF X, M, PTF v) K ↔ if M 235 l1.toNat ≠ 10 then pm_Run d 187 41 [vA 234, vI l1, PU, PU, PU, PU] [] (GF X, M, PTF v) K else pm_Run d 187 35 [vA 234, vI l1, PU, PU, PU, PU] [] (GF X, M, PTF v) K := by
  refine (px_go (by decide +kernel : pm_fe 187 24 = some (.aload_n 0, 1)) rfl).trans ?_
  refine (ry_get2 (idx := 7) (ci := 12) (k := 0) (by decide +kernel : 234 < 283 ∧ SHF 234 = (12, 76)) (ptf_l (a := 234) (k := 0) (n := 235) (by decide +kernel)) (by decide +kernel)).trans ?_
  refine (px_go (by decide +kernel : pm_fe 187 28 = some (.iload_n 1, 1)) rfl).trans ?_
  refine (ry_iald (by decide +kernel : 235 < 283 ∧ SHF 235 = (100, 1800)) h1 h2 (by decide +kernel)).trans ?_
  refine (px_go (by decide +kernel : pm_fe 187 30 = some (.bipush 10, 2)) rfl).trans ?_
  refine (ry_ic_ne (off := 9) (tgt := 41) h3 (by decide : (-2147483648 ≤ (10 : Int) ∧ (10 : Int) < 2147483648)) (by decide +kernel)).trans ?_
  exact Iff.rfl
theorem r187_35 {d : Nat} {X : Nat × (Nat → Int)} {v : Nat → Int} {M : PH} {K : PV → PS → Prop} {l1 : Int} : pm_Run d 187 35 [vA 234, vI l1, PU, PU, PU, PU] [] (GF X, M, PTF v) K ↔ pm_Run d 187 5 [vA 234, vI (l1 + 1), PU, PU, PU, PU] [] (GF X, M, PTF v) K := by
  refine (px_go (by decide +kernel : pm_fe 187 35 = some (.iinc 1 1, 3)) rfl).trans ?_
  refine (px_goto (off := (-33)) (tgt := 5) (by decide +kernel)).trans ?_
  exact Iff.rfl
theorem r187_41 {d : Nat} {X : Nat × (Nat → Int)} {v : Nat → Int} {M : PH} {K : PV → PS → Prop} {l1 : Int} : pm_Run d 187 41 [vA 234, vI l1, PU, PU, PU, PU] [] (GF X, M, PTF v) K ↔ pm_Run d 187 46 [vA 234, vI l1, PU, PU, PU, PU] [] (GF X, pm_sa M 234 (pm_up (M 234) 4 l1), PTF v) K := by
  refine (px_go (by decide +kernel : pm_fe 187 41 = some (.aload_n 0, 1)) rfl).trans ?_
  refine (px_go (by decide +kernel : pm_fe 187 42 = some (.iload_n 1, 1)) rfl).trans ?_
  refine (ry_put0 (idx := 23) (ci := 12) (k := 4) (by decide +kernel : 234 < 283 ∧ SHF 234 = (12, 76)) (by decide +kernel)).trans ?_
  exact Iff.rfl
theorem r187_46 {d : Nat} {X : Nat × (Nat → Int)} {v : Nat → Int} {M : PH} {K : PV → PS → Prop} {l1 : Int} : pm_Run d 187 46 [vA 234, vI l1, PU, PU, PU, PU] [] (GF X, M, PTF v) K ↔ pm_Run d 187 51 [vA 234, vI l1, PU, PU, PU, PU] [] (GF X, pm_sa M 234 (pm_up (M 234) 5 l1), PTF v) K := by
  refine (px_go (by decide +kernel : pm_fe 187 46 = some (.aload_n 0, 1)) rfl).trans ?_
  refine (px_go (by decide +kernel : pm_fe 187 47 = some (.iload_n 1, 1)) rfl).trans ?_
  refine (ry_put0 (idx := 26) (ci := 12) (k := 5) (by decide +kernel : 234 < 283 ∧ SHF 234 = (12, 76)) (by decide +kernel)).trans ?_
  exact Iff.rfl
theorem r187_51 {d : Nat} {X : Nat × (Nat → Int)} {v : Nat → Int} {M : PH} {K : PV → PS → Prop} {l1 : Int} : pm_Run d 187 51 [vA 234, vI l1, PU, PU, PU, PU] [] (GF X, M, PTF v) K ↔ pm_Run d 187 56 [vA 234, vI l1, PU, PU, PU, PU] [] (GF X, pm_sa M 234 (pm_up (M 234) 3 0), PTF v) K := by
  refine (px_go (by decide +kernel : pm_fe 187 51 = some (.aload_n 0, 1)) rfl).trans ?_
  refine (px_go (by decide +kernel : pm_fe 187 52 = some (.iconst 0, 1)) rfl).trans ?_
  refine (ry_put0 (idx := 20) (ci := 12) (k := 3) (by decide +kernel : 234 < 283 ∧ SHF 234 = (12, 76)) (by decide +kernel)).trans ?_
  exact Iff.rfl
theorem r187_56 {d : Nat} {X : Nat × (Nat → Int)} {v : Nat → Int} {M : PH} {K : PV → PS → Prop} {l1 : Int} : pm_Run d 187 56 [vA 234, vI l1, PU, PU, PU, PU] [] (GF X, M, PTF v) K ↔ pm_Run d 187 61 [vA 234, vI l1, PU, PU, PU, PU] [] (GF X, pm_sa M 234 (pm_up (M 234) 12 (-1)), PTF v) K := by
  refine (px_go (by decide +kernel : pm_fe 187 56 = some (.aload_n 0, 1)) rfl).trans ?_
  refine (px_go (by decide +kernel : pm_fe 187 57 = some (.iconst (-1), 1)) rfl).trans ?_
  refine (ry_put0 (idx := 48) (ci := 12) (k := 12) (by decide +kernel : 234 < 283 ∧ SHF 234 = (12, 76)) (by decide +kernel)).trans ?_
  exact Iff.rfl
theorem r187_61 {d : Nat} {X : Nat × (Nat → Int)} {v : Nat → Int} {M : PH} {K : PV → PS → Prop} {l1 : Int} (h1 : inR l1) (h2 : inR (M 234 2)) : pm_Run d 187 61 [vA 234, vI l1, PU, PU, PU, PU] [] (GF X, M, PTF v) K ↔ if l1 < M 234 2 then pm_Run d 187 70 [vA 234, vI l1, PU, PU, PU, PU] [] (GF X, M, PTF v) K else pm_Run d 187 69 [vA 234, vI l1, PU, PU, PU, PU] [] (GF X, M, PTF v) K := by
  refine (px_go (by decide +kernel : pm_fe 187 61 = some (.iload_n 1, 1)) rfl).trans ?_
  refine (px_go (by decide +kernel : pm_fe 187 62 = some (.aload_n 0, 1)) rfl).trans ?_
  refine (ry_get0 (idx := 17) (ci := 12) (k := 2) (by decide +kernel : 234 < 283 ∧ SHF 234 = (12, 76)) (by decide +kernel)).trans ?_
  refine (ry_ic_lt (off := 4) (tgt := 70) h1 h2 (by decide +kernel)).trans ?_
  exact Iff.rfl
theorem r187_69 {d : Nat} {X : Nat × (Nat → Int)} {v : Nat → Int} {M : PH} {K : PV → PS → Prop} {l1 : Int} : pm_Run d 187 69 [vA 234, vI l1, PU, PU, PU, PU] [] (GF X, M, PTF v) K ↔ K PU (GF X, M, PTF v) := by
  refine (px_rv (by decide +kernel)).trans ?_
  exact Iff.rfl
theorem r187_70 {d : Nat} {X : Nat × (Nat → Int)} {v : Nat → Int} {M : PH} {K : PV → PS → Prop} {l1 : Int} (h1 : 0 ≤ l1) (h2 : l1 < 1800) : pm_Run d 187 70 [vA 234, vI l1, PU, PU, PU, PU] [] (GF X, M, PTF v) K ↔ pm_Call d 184 [vI (M 235 l1.toNat)] (GF X, M, PTF v) (fun r9 S1 => pm_Run d 187 79 [vA 234, vI l1, PU, PU, PU, PU] (pm_push r9 []) S1 K) := by
  refine (px_go (by decide +kernel : pm_fe 187 70 = some (.aload_n 0, 1)) rfl).trans ?_
  refine (ry_get2 (idx := 7) (ci := 12) (k := 0) (by decide +kernel : 234 < 283 ∧ SHF 234 = (12, 76)) (ptf_l (a := 234) (k := 0) (n := 235) (by decide +kernel)) (by decide +kernel)).trans ?_
  refine (px_go (by decide +kernel : pm_fe 187 74 = some (.iload_n 1, 1)) rfl).trans ?_
  refine (ry_iald (by decide +kernel : 235 < 283 ∧ SHF 235 = (100, 1800)) h1 h2 (by decide +kernel)).trans ?_
  refine (px_s1 (idx := 255) (m' := 184) (nest := 0) (by decide +kernel)).trans ((and_iff_right (by simp [pm_wl_n, pm_wl_c, pm_w] : pm_wl [] ≤ 8)).trans ?_)
  exact Iff.rfl
theorem r187_79 {d : Nat} {X : Nat × (Nat → Int)} {v : Nat → Int} {M : PH} {K : PV → PS → Prop} {l1 s0 : Int} (h1 : 0 ≤ l1) (h2 : l1 < 1800) : pm_Run d 187 79 [vA 234, vI l1, PU, PU, PU, PU] [vI s0] (GF X, M, PTF v) K ↔ pm_Call d 185 [vI (M 235 l1.toNat)] (GF X, M, PTF v) (fun r9 S1 => pm_Run d 187 89 [vA 234, vI l1, vI s0, PU, PU, PU] (pm_push r9 []) S1 K) := by
  refine (px_go (by decide +kernel : pm_fe 187 79 = some (.istore_n 2, 1)) rfl).trans ?_
  refine (px_go (by decide +kernel : pm_fe 187 80 = some (.aload_n 0, 1)) rfl).trans ?_
  refine (ry_get2 (idx := 7) (ci := 12) (k := 0) (by decide +kernel : 234 < 283 ∧ SHF 234 = (12, 76)) (ptf_l (a := 234) (k := 0) (n := 235) (by decide +kernel)) (by decide +kernel)).trans ?_
  refine (px_go (by decide +kernel : pm_fe 187 84 = some (.iload_n 1, 1)) rfl).trans ?_
  refine (ry_iald (by decide +kernel : 235 < 283 ∧ SHF 235 = (100, 1800)) h1 h2 (by decide +kernel)).trans ?_
  refine (px_s1 (idx := 259) (m' := 185) (nest := 0) (by decide +kernel)).trans ((and_iff_right (by simp [pm_wl_n, pm_wl_c, pm_w] : pm_wl [] ≤ 8)).trans ?_)
  exact Iff.rfl
theorem r187_89 {d : Nat} {X : Nat × (Nat → Int)} {v : Nat → Int} {M : PH} {K : PV → PS → Prop} {l1 l2 s0 : Int} (h1 : inR l2) : pm_Run d 187 89 [vA 234, vI l1, vI l2, PU, PU, PU] [vI s0] (GF X, M, PTF v) K ↔ if l2 ≠ 0 then pm_Run d 187 98 [vA 234, vI l1, vI l2, vI s0, PU, PU] [] (GF X, M, PTF v) K else pm_Run d 187 94 [vA 234, vI l1, vI l2, vI s0, PU, PU] [] (GF X, M, PTF v) K := by
  refine (px_go (by decide +kernel : pm_fe 187 89 = some (.istore_n 3, 1)) rfl).trans ?_
  refine (px_go (by decide +kernel : pm_fe 187 90 = some (.iload_n 2, 1)) rfl).trans ?_
  refine (ry_if_ne (off := 7) (tgt := 98) h1 (by decide +kernel)).trans ?_
  exact Iff.rfl
theorem r187_94 {d : Nat} {X : Nat × (Nat → Int)} {v : Nat → Int} {M : PH} {K : PV → PS → Prop} {l1 l2 l3 : Int} (h1 : inR l3) : pm_Run d 187 94 [vA 234, vI l1, vI l2, vI l3, PU, PU] [] (GF X, M, PTF v) K ↔ if l3 = 0 then pm_Run d 187 135 [vA 234, vI l1, vI l2, vI l3, PU, PU] [] (GF X, M, PTF v) K else pm_Run d 187 98 [vA 234, vI l1, vI l2, vI l3, PU, PU] [] (GF X, M, PTF v) K := by
  refine (px_go (by decide +kernel : pm_fe 187 94 = some (.iload_n 3, 1)) rfl).trans ?_
  refine (ry_if_eq (off := 40) (tgt := 135) h1 (by decide +kernel)).trans ?_
  exact Iff.rfl
theorem r187_98 {d : Nat} {X : Nat × (Nat → Int)} {v : Nat → Int} {M : PH} {K : PV → PS → Prop} {l1 l2 l3 : Int} (h1 : inR l1) : pm_Run d 187 98 [vA 234, vI l1, vI l2, vI l3, PU, PU] [] (GF X, M, PTF v) K ↔ if l1 ≤ 0 then pm_Run d 187 135 [vA 234, vI l1, vI l2, vI l3, PU, PU] [] (GF X, M, PTF v) K else pm_Run d 187 102 [vA 234, vI l1, vI l2, vI l3, PU, PU] [] (GF X, M, PTF v) K := by
  refine (px_go (by decide +kernel : pm_fe 187 98 = some (.iload_n 1, 1)) rfl).trans ?_
  refine (ry_if_le (off := 36) (tgt := 135) h1 (by decide +kernel)).trans ?_
  exact Iff.rfl
theorem r187_102 {d : Nat} {X : Nat × (Nat → Int)} {v : Nat → Int} {M : PH} {K : PV → PS → Prop} {l1 l2 l3 : Int} (h1 : 0 ≤ (l1 - 1)) (h2 : (l1 - 1) < 1800) : pm_Run d 187 102 [vA 234, vI l1, vI l2, vI l3, PU, PU] [] (GF X, M, PTF v) K ↔ pm_Call d 184 [vI (M 235 (l1 - 1).toNat)] (GF X, M, PTF v) (fun r9 S1 => pm_Run d 187 113 [vA 234, vI l1, vI l2, vI l3, PU, PU] (pm_push r9 []) S1 K) := by
  refine (px_go (by decide +kernel : pm_fe 187 102 = some (.aload_n 0, 1)) rfl).trans ?_
  refine (ry_get2 (idx := 7) (ci := 12) (k := 0) (by decide +kernel : 234 < 283 ∧ SHF 234 = (12, 76)) (ptf_l (a := 234) (k := 0) (n := 235) (by decide +kernel)) (by decide +kernel)).trans ?_
  refine (px_go (by decide +kernel : pm_fe 187 106 = some (.iload_n 1, 1)) rfl).trans ?_
  refine (px_go (by decide +kernel : pm_fe 187 107 = some (.iconst 1, 1)) rfl).trans ?_
  refine (px_go (by decide +kernel : pm_fe 187 108 = some (.isub, 1)) rfl).trans ?_
  refine (ry_iald (by decide +kernel : 235 < 283 ∧ SHF 235 = (100, 1800)) h1 h2 (by decide +kernel)).trans ?_
  refine (px_s1 (idx := 255) (m' := 184) (nest := 0) (by decide +kernel)).trans ((and_iff_right (by simp [pm_wl_n, pm_wl_c, pm_w] : pm_wl [] ≤ 8)).trans ?_)
  exact Iff.rfl
theorem r187_113 {d : Nat} {X : Nat × (Nat → Int)} {v : Nat → Int} {M : PH} {K : PV → PS → Prop} {l1 l2 l3 s0 : Int} (h1 : inR s0) : pm_Run d 187 113 [vA 234, vI l1, vI l2, vI l3, PU, PU] [vI s0] (GF X, M, PTF v) K ↔ if s0 ≠ 0 then pm_Run d 187 130 [vA 234, vI l1, vI l2, vI l3, PU, PU] [] (GF X, M, PTF v) K else pm_Run d 187 116 [vA 234, vI l1, vI l2, vI l3, PU, PU] [] (GF X, M, PTF v) K := by
  refine (ry_if_ne (off := 17) (tgt := 130) h1 (by decide +kernel)).trans ?_
  exact Iff.rfl
theorem r187_116 {d : Nat} {X : Nat × (Nat → Int)} {v : Nat → Int} {M : PH} {K : PV → PS → Prop} {l1 l2 l3 : Int} (h1 : 0 ≤ (l1 - 1)) (h2 : (l1 - 1) < 1800) : pm_Run d 187 116 [vA 234, vI l1, vI l2, vI l3, PU, PU] [] (GF X, M, PTF v) K ↔ pm_Call d 185 [vI (M 235 (l1 - 1).toNat)] (GF X, M, PTF v) (fun r9 S1 => pm_Run d 187 127 [vA 234, vI l1, vI l2, vI l3, PU, PU] (pm_push r9 []) S1 K) := by
  refine (px_go (by decide +kernel : pm_fe 187 116 = some (.aload_n 0, 1)) rfl).trans ?_
  refine (ry_get2 (idx := 7) (ci := 12) (k := 0) (by decide +kernel : 234 < 283 ∧ SHF 234 = (12, 76)) (ptf_l (a := 234) (k := 0) (n := 235) (by decide +kernel)) (by decide +kernel)).trans ?_
  refine (px_go (by decide +kernel : pm_fe 187 120 = some (.iload_n 1, 1)) rfl).trans ?_
  refine (px_go (by decide +kernel : pm_fe 187 121 = some (.iconst 1, 1)) rfl).trans ?_
  refine (px_go (by decide +kernel : pm_fe 187 122 = some (.isub, 1)) rfl).trans ?_
  refine (ry_iald (by decide +kernel : 235 < 283 ∧ SHF 235 = (100, 1800)) h1 h2 (by decide +kernel)).trans ?_
  refine (px_s1 (idx := 259) (m' := 185) (nest := 0) (by decide +kernel)).trans ((and_iff_right (by simp [pm_wl_n, pm_wl_c, pm_w] : pm_wl [] ≤ 8)).trans ?_)
  exact Iff.rfl
theorem r187_127 {d : Nat} {X : Nat × (Nat → Int)} {v : Nat → Int} {M : PH} {K : PV → PS → Prop} {l1 l2 l3 s0 : Int} (h1 : inR s0) : pm_Run d 187 127 [vA 234, vI l1, vI l2, vI l3, PU, PU] [vI s0] (GF X, M, PTF v) K ↔ if s0 = 0 then pm_Run d 187 135 [vA 234, vI l1, vI l2, vI l3, PU, PU] [] (GF X, M, PTF v) K else pm_Run d 187 130 [vA 234, vI l1, vI l2, vI l3, PU, PU] [] (GF X, M, PTF v) K := by
  refine (ry_if_eq (off := 8) (tgt := 135) h1 (by decide +kernel)).trans ?_
  exact Iff.rfl
theorem r187_130 {d : Nat} {X : Nat × (Nat → Int)} {v : Nat → Int} {M : PH} {K : PV → PS → Prop} {l1 l2 l3 : Int} : pm_Run d 187 130 [vA 234, vI l1, vI l2, vI l3, PU, PU] [] (GF X, M, PTF v) K ↔ pm_Run d 187 135 [vA 234, vI l1, vI l2, vI l3, PU, PU] [] (GF X, pm_sa M 234 (pm_up (M 234) 12 l1), PTF v) K := by
  refine (px_go (by decide +kernel : pm_fe 187 130 = some (.aload_n 0, 1)) rfl).trans ?_
  refine (px_go (by decide +kernel : pm_fe 187 131 = some (.iload_n 1, 1)) rfl).trans ?_
  refine (ry_put0 (idx := 48) (ci := 12) (k := 12) (by decide +kernel : 234 < 283 ∧ SHF 234 = (12, 76)) (by decide +kernel)).trans ?_
  exact Iff.rfl
theorem r187_135 {d : Nat} {X : Nat × (Nat → Int)} {v : Nat → Int} {M : PH} {K : PV → PS → Prop} {l1 l2 l3 : Int} : pm_Run d 187 135 [vA 234, vI l1, vI l2, vI l3, PU, PU] [] (GF X, M, PTF v) K ↔ pm_Run d 187 140 [vA 234, vI l1, vI l2, vI l3, PU, PU] [] (GF X, pm_sa M 234 (pm_up (M 234) 6 0), PTF v) K := by
  refine (px_go (by decide +kernel : pm_fe 187 135 = some (.aload_n 0, 1)) rfl).trans ?_
  refine (px_go (by decide +kernel : pm_fe 187 136 = some (.iconst 0, 1)) rfl).trans ?_
  refine (ry_put0 (idx := 29) (ci := 12) (k := 6) (by decide +kernel : 234 < 283 ∧ SHF 234 = (12, 76)) (by decide +kernel)).trans ?_
  exact Iff.rfl
theorem r187_140 {d : Nat} {X : Nat × (Nat → Int)} {v : Nat → Int} {M : PH} {K : PV → PS → Prop} {l1 l2 l3 : Int} : pm_Run d 187 140 [vA 234, vI l1, vI l2, vI l3, PU, PU] [] (GF X, M, PTF v) K ↔ pm_Run d 187 145 [vA 234, vI l1, vI l2, vI l3, PU, PU] [] (GF X, pm_sa M 234 (pm_up (M 234) 7 0), PTF v) K := by
  refine (px_go (by decide +kernel : pm_fe 187 140 = some (.aload_n 0, 1)) rfl).trans ?_
  refine (px_go (by decide +kernel : pm_fe 187 141 = some (.lconst 0, 1)) rfl).trans ?_
  refine (ry_put1 (idx := 32) (ci := 12) (k := 7) (by decide +kernel : 234 < 283 ∧ SHF 234 = (12, 76)) (by decide +kernel)).trans ?_
  exact Iff.rfl
theorem r187_145 {d : Nat} {X : Nat × (Nat → Int)} {v : Nat → Int} {M : PH} {K : PV → PS → Prop} {l1 l2 l3 : Int} : pm_Run d 187 145 [vA 234, vI l1, vI l2, vI l3, PU, PU] [] (GF X, M, PTF v) K ↔ pm_Run d 187 150 [vA 234, vI l1, vI l2, vI l3, PU, PU] [] (GF X, pm_sa M 234 (pm_up (M 234) 3 3), PTF v) K := by
  refine (px_go (by decide +kernel : pm_fe 187 145 = some (.aload_n 0, 1)) rfl).trans ?_
  refine (px_go (by decide +kernel : pm_fe 187 146 = some (.iconst 3, 1)) rfl).trans ?_
  refine (ry_put0 (idx := 20) (ci := 12) (k := 3) (by decide +kernel : 234 < 283 ∧ SHF 234 = (12, 76)) (by decide +kernel)).trans ?_
  exact Iff.rfl
theorem r187_150 {d : Nat} {X : Nat × (Nat → Int)} {v : Nat → Int} {M : PH} {K : PV → PS → Prop} {l1 l2 l3 : Int} : pm_Run d 187 150 [vA 234, vI l1, vI l2, vI l3, PU, PU] [] (GF X, M, PTF v) K ↔ pm_Run d 187 157 [vA 234, vI l1, vI l2, vI l3, PU, PU] [] (GF X, pm_sa M 234 (pm_up (M 234) 5 (l1 + 1)), PTF v) K := by
  refine (px_go (by decide +kernel : pm_fe 187 150 = some (.aload_n 0, 1)) rfl).trans ?_
  refine (px_go (by decide +kernel : pm_fe 187 151 = some (.iload_n 1, 1)) rfl).trans ?_
  refine (px_go (by decide +kernel : pm_fe 187 152 = some (.iconst 1, 1)) rfl).trans ?_
  refine (px_go (by decide +kernel : pm_fe 187 153 = some (.iadd, 1)) rfl).trans ?_
  refine (ry_put0 (idx := 26) (ci := 12) (k := 5) (by decide +kernel : 234 < 283 ∧ SHF 234 = (12, 76)) (by decide +kernel)).trans ?_
  exact Iff.rfl
theorem r187_157 {d : Nat} {X : Nat × (Nat → Int)} {v : Nat → Int} {M : PH} {K : PV → PS → Prop} {l1 l2 l3 : Int} (h1 : inR l2) : pm_Run d 187 157 [vA 234, vI l1, vI l2, vI l3, PU, PU] [] (GF X, M, PTF v) K ↔ if l2 ≠ 0 then pm_Run d 187 176 [vA 234, vI l1, vI l2, vI l3, PU, PU] [] (GF X, M, PTF v) K else pm_Run d 187 161 [vA 234, vI l1, vI l2, vI l3, PU, PU] [] (GF X, M, PTF v) K := by
  refine (px_go (by decide +kernel : pm_fe 187 157 = some (.iload_n 2, 1)) rfl).trans ?_
  refine (ry_if_ne (off := 18) (tgt := 176) h1 (by decide +kernel)).trans ?_
  exact Iff.rfl
theorem r187_161 {d : Nat} {X : Nat × (Nat → Int)} {v : Nat → Int} {M : PH} {K : PV → PS → Prop} {l1 l2 l3 : Int} (h1 : inR l3) : pm_Run d 187 161 [vA 234, vI l1, vI l2, vI l3, PU, PU] [] (GF X, M, PTF v) K ↔ if l3 ≠ 0 then pm_Run d 187 176 [vA 234, vI l1, vI l2, vI l3, PU, PU] [] (GF X, M, PTF v) K else pm_Run d 187 165 [vA 234, vI l1, vI l2, vI l3, PU, PU] [] (GF X, M, PTF v) K := by
  refine (px_go (by decide +kernel : pm_fe 187 161 = some (.iload_n 3, 1)) rfl).trans ?_
  refine (ry_if_ne (off := 14) (tgt := 176) h1 (by decide +kernel)).trans ?_
  exact Iff.rfl
theorem r187_165 {d : Nat} {X : Nat × (Nat → Int)} {v : Nat → Int} {M : PH} {K : PV → PS → Prop} {l1 l2 l3 : Int} (h1 : 0 ≤ l1) (h2 : l1 < 1800) : pm_Run d 187 165 [vA 234, vI l1, vI l2, vI l3, PU, PU] [] (GF X, M, PTF v) K ↔ K PU (GF X, pm_sa M 234 (pm_up (M 234) 6 (M 235 l1.toNat)), PTF v) := by
  refine (px_go (by decide +kernel : pm_fe 187 165 = some (.aload_n 0, 1)) rfl).trans ?_
  refine (px_go (by decide +kernel : pm_fe 187 166 = some (.aload_n 0, 1)) rfl).trans ?_
  refine (ry_get2 (idx := 7) (ci := 12) (k := 0) (by decide +kernel : 234 < 283 ∧ SHF 234 = (12, 76)) (ptf_l (a := 234) (k := 0) (n := 235) (by decide +kernel)) (by decide +kernel)).trans ?_
  refine (px_go (by decide +kernel : pm_fe 187 170 = some (.iload_n 1, 1)) rfl).trans ?_
  refine (ry_iald (by decide +kernel : 235 < 283 ∧ SHF 235 = (100, 1800)) h1 h2 (by decide +kernel)).trans ?_
  refine (ry_put0 (idx := 29) (ci := 12) (k := 6) (by decide +kernel : 234 < 283 ∧ SHF 234 = (12, 76)) (by decide +kernel)).trans ?_
  refine (px_rv (by decide +kernel)).trans ?_
  exact Iff.rfl
theorem r187_176 {d : Nat} {X : Nat × (Nat → Int)} {v : Nat → Int} {M : PH} {K : PV → PS → Prop} {l1 l2 l3 : Int} (h1 : inR l2) : pm_Run d 187 176 [vA 234, vI l1, vI l2, vI l3, PU, PU] [] (GF X, M, PTF v) K ↔ if l2 = 0 then pm_Run d 187 185 [vA 234, vI l1, vI l2, vI l3, PU, PU] [vA 234] (GF X, M, PTF v) K else pm_Run d 187 181 [vA 234, vI l1, vI l2, vI l3, PU, PU] [vA 234] (GF X, M, PTF v) K := by
  refine (px_go (by decide +kernel : pm_fe 187 176 = some (.aload_n 0, 1)) rfl).trans ?_
  refine (px_go (by decide +kernel : pm_fe 187 177 = some (.iload_n 2, 1)) rfl).trans ?_
  refine (ry_if_eq (off := 7) (tgt := 185) h1 (by decide +kernel)).trans ?_
  exact Iff.rfl
theorem r187_181 {d : Nat} {X : Nat × (Nat → Int)} {v : Nat → Int} {M : PH} {K : PV → PS → Prop} {l1 l2 l3 : Int} : pm_Run d 187 181 [vA 234, vI l1, vI l2, vI l3, PU, PU] [vA 234] (GF X, M, PTF v) K ↔ pm_Run d 187 186 [vA 234, vI l1, vI l2, vI l3, PU, PU] [vI 1, vA 234] (GF X, M, PTF v) K := by
  refine (px_go (by decide +kernel : pm_fe 187 181 = some (.iconst 1, 1)) rfl).trans ?_
  refine (px_goto (off := 4) (tgt := 186) (by decide +kernel)).trans ?_
  exact Iff.rfl
theorem r187_185 {d : Nat} {X : Nat × (Nat → Int)} {v : Nat → Int} {M : PH} {K : PV → PS → Prop} {l1 l2 l3 : Int} : pm_Run d 187 185 [vA 234, vI l1, vI l2, vI l3, PU, PU] [vA 234] (GF X, M, PTF v) K ↔ pm_Run d 187 186 [vA 234, vI l1, vI l2, vI l3, PU, PU] [vI 2, vA 234] (GF X, M, PTF v) K := by
  refine (px_go (by decide +kernel : pm_fe 187 185 = some (.iconst 2, 1)) rfl).trans ?_
  exact Iff.rfl
theorem r187_186 {d : Nat} {X : Nat × (Nat → Int)} {v : Nat → Int} {M : PH} {K : PV → PS → Prop} {l1 l2 l3 s0 : Int} : pm_Run d 187 186 [vA 234, vI l1, vI l2, vI l3, PU, PU] [vI s0, vA 234] (GF X, M, PTF v) K ↔ pm_Run d 187 189 [vA 234, vI l1, vI l2, vI l3, PU, PU] [] (GF X, pm_sa M 234 (pm_up (M 234) 3 s0), PTF v) K := by
  refine (ry_put0 (idx := 20) (ci := 12) (k := 3) (by decide +kernel : 234 < 283 ∧ SHF 234 = (12, 76)) (by decide +kernel)).trans ?_
  exact Iff.rfl
theorem r187_189 {d : Nat} {X : Nat × (Nat → Int)} {v : Nat → Int} {M : PH} {K : PV → PS → Prop} {l1 l2 l3 : Int} (h1 : inR l2) : pm_Run d 187 189 [vA 234, vI l1, vI l2, vI l3, PU, PU] [] (GF X, M, PTF v) K ↔ if l2 = 0 then pm_Run d 187 198 [vA 234, vI l1, vI l2, vI l3, PU, PU] [] (GF X, M, PTF v) K else pm_Run d 187 193 [vA 234, vI l1, vI l2, vI l3, PU, PU] [] (GF X, M, PTF v) K := by
  refine (px_go (by decide +kernel : pm_fe 187 189 = some (.iload_n 2, 1)) rfl).trans ?_
  refine (ry_if_eq (off := 8) (tgt := 198) h1 (by decide +kernel)).trans ?_
  exact Iff.rfl
theorem r187_193 {d : Nat} {X : Nat × (Nat → Int)} {v : Nat → Int} {M : PH} {K : PV → PS → Prop} {l1 l2 l3 : Int} : pm_Run d 187 193 [vA 234, vI l1, vI l2, vI l3, PU, PU] [] (GF X, M, PTF v) K ↔ pm_Run d 187 199 [vA 234, vI l1, vI l2, vI l3, PU, PU] [vI 6] (GF X, M, PTF v) K := by
  refine (px_go (by decide +kernel : pm_fe 187 193 = some (.bipush 6, 2)) rfl).trans ?_
  refine (px_goto (off := 4) (tgt := 199) (by decide +kernel)).trans ?_
  exact Iff.rfl
theorem r187_198 {d : Nat} {X : Nat × (Nat → Int)} {v : Nat → Int} {M : PH} {K : PV → PS → Prop} {l1 l2 l3 : Int} : pm_Run d 187 198 [vA 234, vI l1, vI l2, vI l3, PU, PU] [] (GF X, M, PTF v) K ↔ pm_Run d 187 199 [vA 234, vI l1, vI l2, vI l3, PU, PU] [vI 4] (GF X, M, PTF v) K := by
  refine (px_go (by decide +kernel : pm_fe 187 198 = some (.iconst 4, 1)) rfl).trans ?_
  exact Iff.rfl
theorem r187_199 {d : Nat} {X : Nat × (Nat → Int)} {v : Nat → Int} {M : PH} {K : PV → PS → Prop} {l1 l2 l3 s0 : Int} : pm_Run d 187 199 [vA 234, vI l1, vI l2, vI l3, PU, PU] [vI s0] (GF X, M, PTF v) K ↔ pm_Run d 187 204 [vA 234, vI l1, vI l2, vI l3, vI s0, vI 0] [] (GF X, M, PTF v) K := by
  refine (px_go (by decide +kernel : pm_fe 187 199 = some (.istore 4, 2)) rfl).trans ?_
  refine (px_go (by decide +kernel : pm_fe 187 201 = some (.iconst 0, 1)) rfl).trans ?_
  refine (px_go (by decide +kernel : pm_fe 187 202 = some (.istore 5, 2)) rfl).trans ?_
  exact Iff.rfl
theorem r187_204 {d : Nat} {X : Nat × (Nat → Int)} {v : Nat → Int} {M : PH} {K : PV → PS → Prop} {l1 l2 l3 l4 l5 : Int} (h1 : inR l1) (h2 : inR (M 234 2)) : pm_Run d 187 204 [vA 234, vI l1, vI l2, vI l3, vI l4, vI l5] [] (GF X, M, PTF v) K ↔ if M 234 2 ≤ l1 then pm_Run d 187 334 [vA 234, vI l1, vI l2, vI l3, vI l4, vI l5] [] (GF X, M, PTF v) K else pm_Run d 187 212 [vA 234, vI l1, vI l2, vI l3, vI l4, vI l5] [] (GF X, M, PTF v) K := by
  refine (px_go (by decide +kernel : pm_fe 187 204 = some (.iload_n 1, 1)) rfl).trans ?_
  refine (px_go (by decide +kernel : pm_fe 187 205 = some (.aload_n 0, 1)) rfl).trans ?_
  refine (ry_get0 (idx := 17) (ci := 12) (k := 2) (by decide +kernel : 234 < 283 ∧ SHF 234 = (12, 76)) (by decide +kernel)).trans ?_
  refine (ry_ic_ge (off := 125) (tgt := 334) h1 h2 (by decide +kernel)).trans ?_
  exact Iff.rfl
theorem r187_212 {d : Nat} {X : Nat × (Nat → Int)} {v : Nat → Int} {M : PH} {K : PV → PS → Prop} {l1 l2 l3 l4 l5 : Int} (h1 : inR l2) : pm_Run d 187 212 [vA 234, vI l1, vI l2, vI l3, vI l4, vI l5] [] (GF X, M, PTF v) K ↔ if l2 = 0 then pm_Run d 187 231 [vA 234, vI l1, vI l2, vI l3, vI l4, vI l5] [] (GF X, M, PTF v) K else pm_Run d 187 216 [vA 234, vI l1, vI l2, vI l3, vI l4, vI l5] [] (GF X, M, PTF v) K := by
  refine (px_go (by decide +kernel : pm_fe 187 212 = some (.iload_n 2, 1)) rfl).trans ?_
  refine (ry_if_eq (off := 18) (tgt := 231) h1 (by decide +kernel)).trans ?_
  exact Iff.rfl
theorem r187_216 {d : Nat} {X : Nat × (Nat → Int)} {v : Nat → Int} {M : PH} {K : PV → PS → Prop} {l1 l2 l3 l4 l5 : Int} (h1 : 0 ≤ l1) (h2 : l1 < 1800) : pm_Run d 187 216 [vA 234, vI l1, vI l2, vI l3, vI l4, vI l5] [] (GF X, M, PTF v) K ↔ pm_Call d 184 [vI (M 235 l1.toNat)] (GF X, M, PTF v) (fun r9 S1 => pm_Run d 187 225 [vA 234, vI l1, vI l2, vI l3, vI l4, vI l5] (pm_push r9 []) S1 K) := by
  refine (px_go (by decide +kernel : pm_fe 187 216 = some (.aload_n 0, 1)) rfl).trans ?_
  refine (ry_get2 (idx := 7) (ci := 12) (k := 0) (by decide +kernel : 234 < 283 ∧ SHF 234 = (12, 76)) (ptf_l (a := 234) (k := 0) (n := 235) (by decide +kernel)) (by decide +kernel)).trans ?_
  refine (px_go (by decide +kernel : pm_fe 187 220 = some (.iload_n 1, 1)) rfl).trans ?_
  refine (ry_iald (by decide +kernel : 235 < 283 ∧ SHF 235 = (100, 1800)) h1 h2 (by decide +kernel)).trans ?_
  refine (px_s1 (idx := 255) (m' := 184) (nest := 0) (by decide +kernel)).trans ((and_iff_right (by simp [pm_wl_n, pm_wl_c, pm_w] : pm_wl [] ≤ 8)).trans ?_)
  exact Iff.rfl
theorem r187_225 {d : Nat} {X : Nat × (Nat → Int)} {v : Nat → Int} {M : PH} {K : PV → PS → Prop} {l1 l2 l3 l4 l5 s0 : Int} (h1 : inR s0) : pm_Run d 187 225 [vA 234, vI l1, vI l2, vI l3, vI l4, vI l5] [vI s0] (GF X, M, PTF v) K ↔ if s0 = 0 then pm_Run d 187 334 [vA 234, vI l1, vI l2, vI l3, vI l4, vI l5] [] (GF X, M, PTF v) K else pm_Run d 187 228 [vA 234, vI l1, vI l2, vI l3, vI l4, vI l5] [] (GF X, M, PTF v) K := by
  refine (ry_if_eq (off := 109) (tgt := 334) h1 (by decide +kernel)).trans ?_
  exact Iff.rfl
theorem r187_228 {d : Nat} {X : Nat × (Nat → Int)} {v : Nat → Int} {M : PH} {K : PV → PS → Prop} {l1 l2 l3 l4 l5 : Int} : pm_Run d 187 228 [vA 234, vI l1, vI l2, vI l3, vI l4, vI l5] [] (GF X, M, PTF v) K ↔ pm_Run d 187 243 [vA 234, vI l1, vI l2, vI l3, vI l4, vI l5] [] (GF X, M, PTF v) K := by
  refine (px_goto (off := 15) (tgt := 243) (by decide +kernel)).trans ?_
  exact Iff.rfl
theorem r187_231 {d : Nat} {X : Nat × (Nat → Int)} {v : Nat → Int} {M : PH} {K : PV → PS → Prop} {l1 l2 l3 l4 l5 : Int} (h1 : 0 ≤ l1) (h2 : l1 < 1800) : pm_Run d 187 231 [vA 234, vI l1, vI l2, vI l3, vI l4, vI l5] [] (GF X, M, PTF v) K ↔ pm_Call d 185 [vI (M 235 l1.toNat)] (GF X, M, PTF v) (fun r9 S1 => pm_Run d 187 240 [vA 234, vI l1, vI l2, vI l3, vI l4, vI l5] (pm_push r9 []) S1 K) := by
  refine (px_go (by decide +kernel : pm_fe 187 231 = some (.aload_n 0, 1)) rfl).trans ?_
  refine (ry_get2 (idx := 7) (ci := 12) (k := 0) (by decide +kernel : 234 < 283 ∧ SHF 234 = (12, 76)) (ptf_l (a := 234) (k := 0) (n := 235) (by decide +kernel)) (by decide +kernel)).trans ?_
  refine (px_go (by decide +kernel : pm_fe 187 235 = some (.iload_n 1, 1)) rfl).trans ?_
  refine (ry_iald (by decide +kernel : 235 < 283 ∧ SHF 235 = (100, 1800)) h1 h2 (by decide +kernel)).trans ?_
  refine (px_s1 (idx := 259) (m' := 185) (nest := 0) (by decide +kernel)).trans ((and_iff_right (by simp [pm_wl_n, pm_wl_c, pm_w] : pm_wl [] ≤ 8)).trans ?_)
  exact Iff.rfl
theorem r187_240 {d : Nat} {X : Nat × (Nat → Int)} {v : Nat → Int} {M : PH} {K : PV → PS → Prop} {l1 l2 l3 l4 l5 s0 : Int} (h1 : inR s0) : pm_Run d 187 240 [vA 234, vI l1, vI l2, vI l3, vI l4, vI l5] [vI s0] (GF X, M, PTF v) K ↔ if s0 = 0 then pm_Run d 187 334 [vA 234, vI l1, vI l2, vI l3, vI l4, vI l5] [] (GF X, M, PTF v) K else pm_Run d 187 243 [vA 234, vI l1, vI l2, vI l3, vI l4, vI l5] [] (GF X, M, PTF v) K := by
  refine (ry_if_eq (off := 94) (tgt := 334) h1 (by decide +kernel)).trans ?_
  exact Iff.rfl
theorem r187_243 {d : Nat} {X : Nat × (Nat → Int)} {v : Nat → Int} {M : PH} {K : PV → PS → Prop} {l1 l2 l3 l4 l5 : Int} (h1 : inR l5) (h2 : inR l4) : pm_Run d 187 243 [vA 234, vI l1, vI l2, vI l3, vI l4, vI l5] [] (GF X, M, PTF v) K ↔ if l5 ≠ l4 then pm_Run d 187 263 [vA 234, vI l1, vI l2, vI l3, vI l4, vI l5] [] (GF X, M, PTF v) K else pm_Run d 187 250 [vA 234, vI l1, vI l2, vI l3, vI l4, vI l5] [] (GF X, M, PTF v) K := by
  refine (px_go (by decide +kernel : pm_fe 187 243 = some (.iload 5, 2)) rfl).trans ?_
  refine (px_go (by decide +kernel : pm_fe 187 245 = some (.iload 4, 2)) rfl).trans ?_
  refine (ry_ic_ne (off := 16) (tgt := 263) h1 h2 (by decide +kernel)).trans ?_
  exact Iff.rfl
theorem r187_250 {d : Nat} {X : Nat × (Nat → Int)} {v : Nat → Int} {M : PH} {K : PV → PS → Prop} {l1 l2 l3 l4 l5 : Int} (h1 : inR (M 234 12)) : pm_Run d 187 250 [vA 234, vI l1, vI l2, vI l3, vI l4, vI l5] [] (GF X, M, PTF v) K ↔ if M 234 12 ≠ (-1) then pm_Run d 187 263 [vA 234, vI l1, vI l2, vI l3, vI l4, vI l5] [] (GF X, M, PTF v) K else pm_Run d 187 258 [vA 234, vI l1, vI l2, vI l3, vI l4, vI l5] [] (GF X, M, PTF v) K := by
  refine (px_go (by decide +kernel : pm_fe 187 250 = some (.aload_n 0, 1)) rfl).trans ?_
  refine (ry_get0 (idx := 48) (ci := 12) (k := 12) (by decide +kernel : 234 < 283 ∧ SHF 234 = (12, 76)) (by decide +kernel)).trans ?_
  refine (px_go (by decide +kernel : pm_fe 187 254 = some (.iconst (-1), 1)) rfl).trans ?_
  refine (ry_ic_ne (off := 8) (tgt := 263) h1 (by decide : (-2147483648 ≤ ((-1) : Int) ∧ ((-1) : Int) < 2147483648)) (by decide +kernel)).trans ?_
  exact Iff.rfl
theorem r187_258 {d : Nat} {X : Nat × (Nat → Int)} {v : Nat → Int} {M : PH} {K : PV → PS → Prop} {l1 l2 l3 l4 l5 : Int} : pm_Run d 187 258 [vA 234, vI l1, vI l2, vI l3, vI l4, vI l5] [] (GF X, M, PTF v) K ↔ pm_Run d 187 263 [vA 234, vI l1, vI l2, vI l3, vI l4, vI l5] [] (GF X, pm_sa M 234 (pm_up (M 234) 12 l1), PTF v) K := by
  refine (px_go (by decide +kernel : pm_fe 187 258 = some (.aload_n 0, 1)) rfl).trans ?_
  refine (px_go (by decide +kernel : pm_fe 187 259 = some (.iload_n 1, 1)) rfl).trans ?_
  refine (ry_put0 (idx := 48) (ci := 12) (k := 12) (by decide +kernel : 234 < 283 ∧ SHF 234 = (12, 76)) (by decide +kernel)).trans ?_
  exact Iff.rfl
theorem r187_263 {d : Nat} {X : Nat × (Nat → Int)} {v : Nat → Int} {M : PH} {K : PV → PS → Prop} {l1 l2 l3 l4 l5 : Int} (h1 : inR l5) (h2 : inR l4) : pm_Run d 187 263 [vA 234, vI l1, vI l2, vI l3, vI l4, vI l5] [] (GF X, M, PTF v) K ↔ if l4 ≤ l5 then pm_Run d 187 293 [vA 234, vI l1, vI l2, vI l3, vI l4, vI l5] [] (GF X, M, PTF v) K else pm_Run d 187 270 [vA 234, vI l1, vI l2, vI l3, vI l4, vI l5] [] (GF X, M, PTF v) K := by
  refine (px_go (by decide +kernel : pm_fe 187 263 = some (.iload 5, 2)) rfl).trans ?_
  refine (px_go (by decide +kernel : pm_fe 187 265 = some (.iload 4, 2)) rfl).trans ?_
  refine (ry_ic_ge (off := 26) (tgt := 293) h1 h2 (by decide +kernel)).trans ?_
  exact Iff.rfl
theorem r187_270 {d : Nat} {X : Nat × (Nat → Int)} {v : Nat → Int} {M : PH} {K : PV → PS → Prop} {l1 l2 l3 l4 l5 : Int} (h1 : inR l2) : pm_Run d 187 270 [vA 234, vI l1, vI l2, vI l3, vI l4, vI l5] [] (GF X, M, PTF v) K ↔ if l2 = 0 then pm_Run d 187 293 [vA 234, vI l1, vI l2, vI l3, vI l4, vI l5] [] (GF X, M, PTF v) K else pm_Run d 187 274 [vA 234, vI l1, vI l2, vI l3, vI l4, vI l5] [] (GF X, M, PTF v) K := by
  refine (px_go (by decide +kernel : pm_fe 187 270 = some (.iload_n 2, 1)) rfl).trans ?_
  refine (ry_if_eq (off := 22) (tgt := 293) h1 (by decide +kernel)).trans ?_
  exact Iff.rfl
theorem r187_274 {d : Nat} {X : Nat × (Nat → Int)} {v : Nat → Int} {M : PH} {K : PV → PS → Prop} {l1 l2 l3 l4 l5 : Int} (h1 : 0 ≤ l1) (h2 : l1 < 1800) (h3 : inR (M 235 l1.toNat)) : pm_Run d 187 274 [vA 234, vI l1, vI l2, vI l3, vI l4, vI l5] [] (GF X, M, PTF v) K ↔ pm_Run d 187 293 [vA 234, vI l1, vI l2, vI l3, vI l4, vI l5] [] (GF X, pm_sa M 234 (pm_up (M 234) 7 (pm_lor (pm_lshl (M 234 7) 8) (M 235 l1.toNat))), PTF v) K := by
  refine (px_go (by decide +kernel : pm_fe 187 274 = some (.aload_n 0, 1)) rfl).trans ?_
  refine (px_go (by decide +kernel : pm_fe 187 275 = some (.aload_n 0, 1)) rfl).trans ?_
  refine (ry_get1 (idx := 32) (ci := 12) (k := 7) (by decide +kernel : 234 < 283 ∧ SHF 234 = (12, 76)) (by decide +kernel)).trans ?_
  refine (px_go (by decide +kernel : pm_fe 187 279 = some (.bipush 8, 2)) rfl).trans ?_
  refine (px_go (by decide +kernel : pm_fe 187 281 = some (.lshl, 1)) rfl).trans ?_
  refine (px_go (by decide +kernel : pm_fe 187 282 = some (.aload_n 0, 1)) rfl).trans ?_
  refine (ry_get2 (idx := 7) (ci := 12) (k := 0) (by decide +kernel : 234 < 283 ∧ SHF 234 = (12, 76)) (ptf_l (a := 234) (k := 0) (n := 235) (by decide +kernel)) (by decide +kernel)).trans ?_
  refine (px_go (by decide +kernel : pm_fe 187 286 = some (.iload_n 1, 1)) rfl).trans ?_
  refine (ry_iald (by decide +kernel : 235 < 283 ∧ SHF 235 = (100, 1800)) h1 h2 (by decide +kernel)).trans ?_
  refine (ry_i2l h3 (by decide +kernel)).trans ?_
  refine (px_go (by decide +kernel : pm_fe 187 289 = some (.lor, 1)) rfl).trans ?_
  refine (ry_put1 (idx := 32) (ci := 12) (k := 7) (by decide +kernel : 234 < 283 ∧ SHF 234 = (12, 76)) (by decide +kernel)).trans ?_
  exact Iff.rfl
theorem r187_293 {d : Nat} {X : Nat × (Nat → Int)} {v : Nat → Int} {M : PH} {K : PV → PS → Prop} {l1 l2 l3 l4 l5 : Int} (h1 : inR l5) (h2 : inR l4) : pm_Run d 187 293 [vA 234, vI l1, vI l2, vI l3, vI l4, vI l5] [] (GF X, M, PTF v) K ↔ if l4 ≤ l5 then pm_Run d 187 325 [vA 234, vI l1, vI l2, vI l3, vI l4, vI l5] [] (GF X, M, PTF v) K else pm_Run d 187 300 [vA 234, vI l1, vI l2, vI l3, vI l4, vI l5] [] (GF X, M, PTF v) K := by
  refine (px_go (by decide +kernel : pm_fe 187 293 = some (.iload 5, 2)) rfl).trans ?_
  refine (px_go (by decide +kernel : pm_fe 187 295 = some (.iload 4, 2)) rfl).trans ?_
  refine (ry_ic_ge (off := 28) (tgt := 325) h1 h2 (by decide +kernel)).trans ?_
  exact Iff.rfl
theorem r187_300 {d : Nat} {X : Nat × (Nat → Int)} {v : Nat → Int} {M : PH} {K : PV → PS → Prop} {l1 l2 l3 l4 l5 : Int} (h1 : inR l3) : pm_Run d 187 300 [vA 234, vI l1, vI l2, vI l3, vI l4, vI l5] [] (GF X, M, PTF v) K ↔ if l3 = 0 then pm_Run d 187 325 [vA 234, vI l1, vI l2, vI l3, vI l4, vI l5] [] (GF X, M, PTF v) K else pm_Run d 187 304 [vA 234, vI l1, vI l2, vI l3, vI l4, vI l5] [] (GF X, M, PTF v) K := by
  refine (px_go (by decide +kernel : pm_fe 187 300 = some (.iload_n 3, 1)) rfl).trans ?_
  refine (ry_if_eq (off := 24) (tgt := 325) h1 (by decide +kernel)).trans ?_
  exact Iff.rfl
theorem r187_304 {d : Nat} {X : Nat × (Nat → Int)} {v : Nat → Int} {M : PH} {K : PV → PS → Prop} {l1 l2 l3 l4 l5 : Int} (h1 : 0 ≤ l1) (h2 : l1 < 1800) : pm_Run d 187 304 [vA 234, vI l1, vI l2, vI l3, vI l4, vI l5] [] (GF X, M, PTF v) K ↔ pm_Run d 187 325 [vA 234, vI l1, vI l2, vI l3, vI l4, vI l5] [] (GF X, pm_sa M 234 (pm_up (M 234) 6 (((10 * (M 234 6)) + (M 235 l1.toNat)) - 48)), PTF v) K := by
  refine (px_go (by decide +kernel : pm_fe 187 304 = some (.aload_n 0, 1)) rfl).trans ?_
  refine (px_go (by decide +kernel : pm_fe 187 305 = some (.bipush 10, 2)) rfl).trans ?_
  refine (px_go (by decide +kernel : pm_fe 187 307 = some (.aload_n 0, 1)) rfl).trans ?_
  refine (ry_get0 (idx := 29) (ci := 12) (k := 6) (by decide +kernel : 234 < 283 ∧ SHF 234 = (12, 76)) (by decide +kernel)).trans ?_
  refine (px_go (by decide +kernel : pm_fe 187 311 = some (.imul, 1)) rfl).trans ?_
  refine (px_go (by decide +kernel : pm_fe 187 312 = some (.aload_n 0, 1)) rfl).trans ?_
  refine (ry_get2 (idx := 7) (ci := 12) (k := 0) (by decide +kernel : 234 < 283 ∧ SHF 234 = (12, 76)) (ptf_l (a := 234) (k := 0) (n := 235) (by decide +kernel)) (by decide +kernel)).trans ?_
  refine (px_go (by decide +kernel : pm_fe 187 316 = some (.iload_n 1, 1)) rfl).trans ?_
  refine (ry_iald (by decide +kernel : 235 < 283 ∧ SHF 235 = (100, 1800)) h1 h2 (by decide +kernel)).trans ?_
  refine (px_go (by decide +kernel : pm_fe 187 318 = some (.iadd, 1)) rfl).trans ?_
  refine (px_go (by decide +kernel : pm_fe 187 319 = some (.bipush 48, 2)) rfl).trans ?_
  refine (px_go (by decide +kernel : pm_fe 187 321 = some (.isub, 1)) rfl).trans ?_
  refine (ry_put0 (idx := 29) (ci := 12) (k := 6) (by decide +kernel : 234 < 283 ∧ SHF 234 = (12, 76)) (by decide +kernel)).trans ?_
  exact Iff.rfl
theorem r187_325 {d : Nat} {X : Nat × (Nat → Int)} {v : Nat → Int} {M : PH} {K : PV → PS → Prop} {l1 l2 l3 l4 l5 : Int} : pm_Run d 187 325 [vA 234, vI l1, vI l2, vI l3, vI l4, vI l5] [] (GF X, M, PTF v) K ↔ pm_Run d 187 204 [vA 234, vI (l1 + 1), vI l2, vI l3, vI l4, vI (l5 + 1)] [] (GF X, M, PTF v) K := by
  refine (px_go (by decide +kernel : pm_fe 187 325 = some (.iinc 5 1, 3)) rfl).trans ?_
  refine (px_go (by decide +kernel : pm_fe 187 328 = some (.iinc 1 1, 3)) rfl).trans ?_
  refine (px_goto (off := (-127)) (tgt := 204) (by decide +kernel)).trans ?_
  exact Iff.rfl
theorem r187_334 {d : Nat} {X : Nat × (Nat → Int)} {v : Nat → Int} {M : PH} {K : PV → PS → Prop} {l1 l2 l3 l4 l5 : Int} : pm_Run d 187 334 [vA 234, vI l1, vI l2, vI l3, vI l4, vI l5] [] (GF X, M, PTF v) K ↔ K PU (GF X, pm_sa M 234 (pm_up (M 234) 5 l1), PTF v) := by
  refine (px_go (by decide +kernel : pm_fe 187 334 = some (.aload_n 0, 1)) rfl).trans ?_
  refine (px_go (by decide +kernel : pm_fe 187 335 = some (.iload_n 1, 1)) rfl).trans ?_
  refine (ry_put0 (idx := 26) (ci := 12) (k := 5) (by decide +kernel : 234 < 283 ∧ SHF 234 = (12, 76)) (by decide +kernel)).trans ?_
  refine (px_rv (by decide +kernel)).trans ?_
  exact Iff.rfl
-- X12_isSign isSign(I)Z
theorem r188_0 {d : Nat} {X : Nat × (Nat → Int)} {v : Nat → Int} {M : PH} {K : PV → PS → Prop} {l1 : Int} (h1 : inR (M 234 3)) : pm_Run d 188 0 [vA 234, vI l1] [] (GF X, M, PTF v) K ↔ if M 234 3 ≠ 3 then pm_Run d 188 20 [vA 234, vI l1] [] (GF X, M, PTF v) K else pm_Run d 188 8 [vA 234, vI l1] [] (GF X, M, PTF v) K := by
  refine (px_go (by decide +kernel : pm_fe 188 0 = some (.aload_n 0, 1)) rfl).trans ?_
  refine (ry_get0 (idx := 20) (ci := 12) (k := 3) (by decide +kernel : 234 < 283 ∧ SHF 234 = (12, 76)) (by decide +kernel)).trans ?_
  refine (px_go (by decide +kernel : pm_fe 188 4 = some (.iconst 3, 1)) rfl).trans ?_
  refine (ry_ic_ne (off := 15) (tgt := 20) h1 (by decide : (-2147483648 ≤ (3 : Int) ∧ (3 : Int) < 2147483648)) (by decide +kernel)).trans ?_
  exact Iff.rfl
theorem r188_8 {d : Nat} {X : Nat × (Nat → Int)} {v : Nat → Int} {M : PH} {K : PV → PS → Prop} {l1 : Int} (h1 : inR (M 234 6)) (h2 : inR l1) : pm_Run d 188 8 [vA 234, vI l1] [] (GF X, M, PTF v) K ↔ if M 234 6 ≠ l1 then pm_Run d 188 20 [vA 234, vI l1] [] (GF X, M, PTF v) K else pm_Run d 188 16 [vA 234, vI l1] [] (GF X, M, PTF v) K := by
  refine (px_go (by decide +kernel : pm_fe 188 8 = some (.aload_n 0, 1)) rfl).trans ?_
  refine (ry_get0 (idx := 29) (ci := 12) (k := 6) (by decide +kernel : 234 < 283 ∧ SHF 234 = (12, 76)) (by decide +kernel)).trans ?_
  refine (px_go (by decide +kernel : pm_fe 188 12 = some (.iload_n 1, 1)) rfl).trans ?_
  refine (ry_ic_ne (off := 7) (tgt := 20) h1 h2 (by decide +kernel)).trans ?_
  exact Iff.rfl
theorem r188_16 {d : Nat} {X : Nat × (Nat → Int)} {v : Nat → Int} {M : PH} {K : PV → PS → Prop} {l1 : Int} : pm_Run d 188 16 [vA 234, vI l1] [] (GF X, M, PTF v) K ↔ pm_Run d 188 21 [vA 234, vI l1] [vI 1] (GF X, M, PTF v) K := by
  refine (px_go (by decide +kernel : pm_fe 188 16 = some (.iconst 1, 1)) rfl).trans ?_
  refine (px_goto (off := 4) (tgt := 21) (by decide +kernel)).trans ?_
  exact Iff.rfl
theorem r188_20 {d : Nat} {X : Nat × (Nat → Int)} {v : Nat → Int} {M : PH} {K : PV → PS → Prop} {l1 : Int} : pm_Run d 188 20 [vA 234, vI l1] [] (GF X, M, PTF v) K ↔ pm_Run d 188 21 [vA 234, vI l1] [vI 0] (GF X, M, PTF v) K := by
  refine (px_go (by decide +kernel : pm_fe 188 20 = some (.iconst 0, 1)) rfl).trans ?_
  exact Iff.rfl
theorem r188_21 {d : Nat} {X : Nat × (Nat → Int)} {v : Nat → Int} {M : PH} {K : PV → PS → Prop} {l1 s0 : Int} (h1 : s0 = 0 ∨ s0 = 1) : pm_Run d 188 21 [vA 234, vI l1] [vI s0] (GF X, M, PTF v) K ↔ K (vI s0) (GF X, M, PTF v) := by
  refine (px_rz (by decide +kernel)).trans ((and_iff_right h1).trans ?_)
  exact Iff.rfl
-- X12_isWord isWord(J)Z
theorem r189_0 {d : Nat} {X : Nat × (Nat → Int)} {v : Nat → Int} {M : PH} {K : PV → PS → Prop} {l1 : Int} (h1 : inR (M 234 3)) : pm_Run d 189 0 [vA 234, vL l1, PU] [] (GF X, M, PTF v) K ↔ if M 234 3 ≠ 1 then pm_Run d 189 21 [vA 234, vL l1, PU] [] (GF X, M, PTF v) K else pm_Run d 189 8 [vA 234, vL l1, PU] [] (GF X, M, PTF v) K := by
  refine (px_go (by decide +kernel : pm_fe 189 0 = some (.aload_n 0, 1)) rfl).trans ?_
  refine (ry_get0 (idx := 20) (ci := 12) (k := 3) (by decide +kernel : 234 < 283 ∧ SHF 234 = (12, 76)) (by decide +kernel)).trans ?_
  refine (px_go (by decide +kernel : pm_fe 189 4 = some (.iconst 1, 1)) rfl).trans ?_
  refine (ry_ic_ne (off := 16) (tgt := 21) h1 (by decide : (-2147483648 ≤ (1 : Int) ∧ (1 : Int) < 2147483648)) (by decide +kernel)).trans ?_
  exact Iff.rfl
theorem r189_8 {d : Nat} {X : Nat × (Nat → Int)} {v : Nat → Int} {M : PH} {K : PV → PS → Prop} {l1 : Int} (h1 : inL (M 234 7)) (h2 : inL l1) (h3 : inR (pm_cm (M 234 7) l1)) : pm_Run d 189 8 [vA 234, vL l1, PU] [] (GF X, M, PTF v) K ↔ if pm_cm (M 234 7) l1 ≠ 0 then pm_Run d 189 21 [vA 234, vL l1, PU] [] (GF X, M, PTF v) K else pm_Run d 189 17 [vA 234, vL l1, PU] [] (GF X, M, PTF v) K := by
  refine (px_go (by decide +kernel : pm_fe 189 8 = some (.aload_n 0, 1)) rfl).trans ?_
  refine (ry_get1 (idx := 32) (ci := 12) (k := 7) (by decide +kernel : 234 < 283 ∧ SHF 234 = (12, 76)) (by decide +kernel)).trans ?_
  refine (px_go (by decide +kernel : pm_fe 189 12 = some (.lload_n 1, 1)) rfl).trans ?_
  refine (ry_lcmp h1 h2 (by decide +kernel)).trans ?_
  refine (ry_if_ne (off := 7) (tgt := 21) h3 (by decide +kernel)).trans ?_
  exact Iff.rfl
theorem r189_17 {d : Nat} {X : Nat × (Nat → Int)} {v : Nat → Int} {M : PH} {K : PV → PS → Prop} {l1 : Int} : pm_Run d 189 17 [vA 234, vL l1, PU] [] (GF X, M, PTF v) K ↔ pm_Run d 189 22 [vA 234, vL l1, PU] [vI 1] (GF X, M, PTF v) K := by
  refine (px_go (by decide +kernel : pm_fe 189 17 = some (.iconst 1, 1)) rfl).trans ?_
  refine (px_goto (off := 4) (tgt := 22) (by decide +kernel)).trans ?_
  exact Iff.rfl
theorem r189_21 {d : Nat} {X : Nat × (Nat → Int)} {v : Nat → Int} {M : PH} {K : PV → PS → Prop} {l1 : Int} : pm_Run d 189 21 [vA 234, vL l1, PU] [] (GF X, M, PTF v) K ↔ pm_Run d 189 22 [vA 234, vL l1, PU] [vI 0] (GF X, M, PTF v) K := by
  refine (px_go (by decide +kernel : pm_fe 189 21 = some (.iconst 0, 1)) rfl).trans ?_
  exact Iff.rfl
theorem r189_22 {d : Nat} {X : Nat × (Nat → Int)} {v : Nat → Int} {M : PH} {K : PV → PS → Prop} {l1 s0 : Int} (h1 : s0 = 0 ∨ s0 = 1) : pm_Run d 189 22 [vA 234, vL l1, PU] [vI s0] (GF X, M, PTF v) K ↔ K (vI s0) (GF X, M, PTF v) := by
  refine (px_rz (by decide +kernel)).trans ((and_iff_right h1).trans ?_)
  exact Iff.rfl
-- X12_must must(I)V
theorem r190_0 {d : Nat} {X : Nat × (Nat → Int)} {v : Nat → Int} {M : PH} {K : PV → PS → Prop} {l1 : Int} : pm_Run d 190 0 [vA 234, vI l1] [] (GF X, M, PTF v) K ↔ pm_Call d 186 [vA 234] (GF X, M, PTF v) (fun r9 S1 => pm_Run d 190 4 [vA 234, vI l1] (pm_push r9 []) S1 K) := by
  refine (px_go (by decide +kernel : pm_fe 190 0 = some (.aload_n 0, 1)) rfl).trans ?_
  refine (ry_v0 (idx := 262) (m' := 186) (ci := 12) (by decide +kernel : 234 < 283 ∧ SHF 234 = (12, 76)) (by simp [pm_wl_n, pm_wl_c, pm_w] : pm_wl [] ≤ 8) (by decide +kernel)).trans ?_
  exact Iff.rfl
theorem r190_4 {d : Nat} {X : Nat × (Nat → Int)} {v : Nat → Int} {M : PH} {K : PV → PS → Prop} {l1 : Int} : pm_Run d 190 4 [vA 234, vI l1] [] (GF X, M, PTF v) K ↔ pm_Call d 188 [vA 234, vI l1] (GF X, M, PTF v) (fun r9 S1 => pm_Run d 190 9 [vA 234, vI l1] (pm_push r9 []) S1 K) := by
  refine (px_go (by decide +kernel : pm_fe 190 4 = some (.aload_n 0, 1)) rfl).trans ?_
  refine (px_go (by decide +kernel : pm_fe 190 5 = some (.iload_n 1, 1)) rfl).trans ?_
  refine (ry_v1 (idx := 265) (m' := 188) (ci := 12) (by decide +kernel : 234 < 283 ∧ SHF 234 = (12, 76)) (by simp [pm_wl_n, pm_wl_c, pm_w] : pm_wl [] ≤ 8) (by decide +kernel)).trans ?_
  exact Iff.rfl
theorem r190_9 {d : Nat} {X : Nat × (Nat → Int)} {v : Nat → Int} {M : PH} {K : PV → PS → Prop} {l1 s0 : Int} (h1 : inR s0) : pm_Run d 190 9 [vA 234, vI l1] [vI s0] (GF X, M, PTF v) K ↔ if s0 ≠ 0 then pm_Run d 190 21 [vA 234, vI l1] [] (GF X, M, PTF v) K else pm_Run d 190 12 [vA 234, vI l1] [] (GF X, M, PTF v) K := by
  refine (ry_if_ne (off := 12) (tgt := 21) h1 (by decide +kernel)).trans ?_
  exact Iff.rfl
theorem r190_12 {d : Nat} {X : Nat × (Nat → Int)} {v : Nat → Int} {M : PH} {K : PV → PS → Prop} {l1 : Int} : pm_Run d 190 12 [vA 234, vI l1] [] (GF X, M, PTF v) K ↔ pm_Call d 183 [vA 234, vI 1, vI (M 234 4)] (GF X, M, PTF v) (fun r9 S1 => pm_Run d 190 21 [vA 234, vI l1] (pm_push r9 []) S1 K) := by
  refine (px_go (by decide +kernel : pm_fe 190 12 = some (.aload_n 0, 1)) rfl).trans ?_
  refine (px_go (by decide +kernel : pm_fe 190 13 = some (.iconst 1, 1)) rfl).trans ?_
  refine (px_go (by decide +kernel : pm_fe 190 14 = some (.aload_n 0, 1)) rfl).trans ?_
  refine (ry_get0 (idx := 23) (ci := 12) (k := 4) (by decide +kernel : 234 < 283 ∧ SHF 234 = (12, 76)) (by decide +kernel)).trans ?_
  refine (ry_v2 (idx := 251) (m' := 183) (ci := 12) (by decide +kernel : 234 < 283 ∧ SHF 234 = (12, 76)) (by simp [pm_wl_n, pm_wl_c, pm_w] : pm_wl [] ≤ 8) (by decide +kernel)).trans ?_
  exact Iff.rfl
theorem r190_21 {d : Nat} {X : Nat × (Nat → Int)} {v : Nat → Int} {M : PH} {K : PV → PS → Prop} {l1 : Int} (h1 : inR (M 234 8)) : pm_Run d 190 21 [vA 234, vI l1] [] (GF X, M, PTF v) K ↔ if M 234 8 ≠ 0 then pm_Run d 190 32 [vA 234, vI l1] [] (GF X, M, PTF v) K else pm_Run d 190 28 [vA 234, vI l1] [] (GF X, M, PTF v) K := by
  refine (px_go (by decide +kernel : pm_fe 190 21 = some (.aload_n 0, 1)) rfl).trans ?_
  refine (ry_get0 (idx := 36) (ci := 12) (k := 8) (by decide +kernel : 234 < 283 ∧ SHF 234 = (12, 76)) (by decide +kernel)).trans ?_
  refine (ry_if_ne (off := 7) (tgt := 32) h1 (by decide +kernel)).trans ?_
  exact Iff.rfl
theorem r190_28 {d : Nat} {X : Nat × (Nat → Int)} {v : Nat → Int} {M : PH} {K : PV → PS → Prop} {l1 : Int} : pm_Run d 190 28 [vA 234, vI l1] [] (GF X, M, PTF v) K ↔ pm_Call d 187 [vA 234] (GF X, M, PTF v) (fun r9 S1 => pm_Run d 190 32 [vA 234, vI l1] (pm_push r9 []) S1 K) := by
  refine (px_go (by decide +kernel : pm_fe 190 28 = some (.aload_n 0, 1)) rfl).trans ?_
  refine (ry_v0 (idx := 268) (m' := 187) (ci := 12) (by decide +kernel : 234 < 283 ∧ SHF 234 = (12, 76)) (by simp [pm_wl_n, pm_wl_c, pm_w] : pm_wl [] ≤ 8) (by decide +kernel)).trans ?_
  exact Iff.rfl
theorem r190_32 {d : Nat} {X : Nat × (Nat → Int)} {v : Nat → Int} {M : PH} {K : PV → PS → Prop} {l1 : Int} : pm_Run d 190 32 [vA 234, vI l1] [] (GF X, M, PTF v) K ↔ K PU (GF X, M, PTF v) := by
  refine (px_rv (by decide +kernel)).trans ?_
  exact Iff.rfl
-- X12_isOwn isOwn(J)Z
theorem r191_0 {d : Nat} {X : Nat × (Nat → Int)} {v : Nat → Int} {M : PH} {K : PV → PS → Prop} {l1 : Int} (h1 : inL l1) (h2 : inR (pm_cm l1 7562593)) : pm_Run d 191 0 [vA 234, vL l1, PU] [] (GF X, M, PTF v) K ↔ if pm_cm l1 7562593 = 0 then pm_Run d 191 40 [vA 234, vL l1, PU] [] (GF X, M, PTF v) K else pm_Run d 191 8 [vA 234, vL l1, PU] [] (GF X, M, PTF v) K := by
  refine (px_go (by decide +kernel : pm_fe 191 0 = some (.lload_n 1, 1)) rfl).trans ?_
  refine (px_ldcL (idx := 271) (x := 7562593) (by decide +kernel)).trans ?_
  refine (ry_lcmp h1 (by decide : (-9223372036854775808 ≤ (7562593 : Int) ∧ (7562593 : Int) < 9223372036854775808)) (by decide +kernel)).trans ?_
  refine (ry_if_eq (off := 35) (tgt := 40) h2 (by decide +kernel)).trans ?_
  exact Iff.rfl
theorem r191_8 {d : Nat} {X : Nat × (Nat → Int)} {v : Nat → Int} {M : PH} {K : PV → PS → Prop} {l1 : Int} (h1 : inL l1) (h2 : inR (pm_cm l1 1836019566)) : pm_Run d 191 8 [vA 234, vL l1, PU] [] (GF X, M, PTF v) K ↔ if pm_cm l1 1836019566 = 0 then pm_Run d 191 40 [vA 234, vL l1, PU] [] (GF X, M, PTF v) K else pm_Run d 191 16 [vA 234, vL l1, PU] [] (GF X, M, PTF v) K := by
  refine (px_go (by decide +kernel : pm_fe 191 8 = some (.lload_n 1, 1)) rfl).trans ?_
  refine (px_ldcL (idx := 273) (x := 1836019566) (by decide +kernel)).trans ?_
  refine (ry_lcmp h1 (by decide : (-9223372036854775808 ≤ (1836019566 : Int) ∧ (1836019566 : Int) < 9223372036854775808)) (by decide +kernel)).trans ?_
  refine (ry_if_eq (off := 27) (tgt := 40) h2 (by decide +kernel)).trans ?_
  exact Iff.rfl
theorem r191_16 {d : Nat} {X : Nat × (Nat → Int)} {v : Nat → Int} {M : PH} {K : PV → PS → Prop} {l1 : Int} (h1 : inL l1) (h2 : inR (pm_cm l1 24948)) : pm_Run d 191 16 [vA 234, vL l1, PU] [] (GF X, M, PTF v) K ↔ if pm_cm l1 24948 = 0 then pm_Run d 191 40 [vA 234, vL l1, PU] [] (GF X, M, PTF v) K else pm_Run d 191 24 [vA 234, vL l1, PU] [] (GF X, M, PTF v) K := by
  refine (px_go (by decide +kernel : pm_fe 191 16 = some (.lload_n 1, 1)) rfl).trans ?_
  refine (px_ldcL (idx := 275) (x := 24948) (by decide +kernel)).trans ?_
  refine (ry_lcmp h1 (by decide : (-9223372036854775808 ≤ (24948 : Int) ∧ (24948 : Int) < 9223372036854775808)) (by decide +kernel)).trans ?_
  refine (ry_if_eq (off := 19) (tgt := 40) h2 (by decide +kernel)).trans ?_
  exact Iff.rfl
theorem r191_24 {d : Nat} {X : Nat × (Nat → Int)} {v : Nat → Int} {M : PH} {K : PV → PS → Prop} {l1 : Int} (h1 : inL l1) (h2 : inR (pm_cm l1 1735353715)) : pm_Run d 191 24 [vA 234, vL l1, PU] [] (GF X, M, PTF v) K ↔ if pm_cm l1 1735353715 = 0 then pm_Run d 191 40 [vA 234, vL l1, PU] [] (GF X, M, PTF v) K else pm_Run d 191 32 [vA 234, vL l1, PU] [] (GF X, M, PTF v) K := by
  refine (px_go (by decide +kernel : pm_fe 191 24 = some (.lload_n 1, 1)) rfl).trans ?_
  refine (px_ldcL (idx := 277) (x := 1735353715) (by decide +kernel)).trans ?_
  refine (ry_lcmp h1 (by decide : (-9223372036854775808 ≤ (1735353715 : Int) ∧ (1735353715 : Int) < 9223372036854775808)) (by decide +kernel)).trans ?_
  refine (ry_if_eq (off := 11) (tgt := 40) h2 (by decide +kernel)).trans ?_
  exact Iff.rfl
theorem r191_32 {d : Nat} {X : Nat × (Nat → Int)} {v : Nat → Int} {M : PH} {K : PV → PS → Prop} {l1 : Int} (h1 : inL l1) (h2 : inR (pm_cm l1 127978976601458)) : pm_Run d 191 32 [vA 234, vL l1, PU] [] (GF X, M, PTF v) K ↔ if pm_cm l1 127978976601458 ≠ 0 then pm_Run d 191 42 [vA 234, vL l1, PU] [] (GF X, M, PTF v) K else pm_Run d 191 40 [vA 234, vL l1, PU] [] (GF X, M, PTF v) K := by
  refine (px_go (by decide +kernel : pm_fe 191 32 = some (.lload_n 1, 1)) rfl).trans ?_
  refine (px_ldcL (idx := 279) (x := 127978976601458) (by decide +kernel)).trans ?_
  refine (ry_lcmp h1 (by decide : (-9223372036854775808 ≤ (127978976601458 : Int) ∧ (127978976601458 : Int) < 9223372036854775808)) (by decide +kernel)).trans ?_
  refine (ry_if_ne (off := 5) (tgt := 42) h2 (by decide +kernel)).trans ?_
  exact Iff.rfl
theorem r191_40 {d : Nat} {X : Nat × (Nat → Int)} {v : Nat → Int} {M : PH} {K : PV → PS → Prop} {l1 : Int} : pm_Run d 191 40 [vA 234, vL l1, PU] [] (GF X, M, PTF v) K ↔ K (vI 1) (GF X, M, PTF v) := by
  refine (px_go (by decide +kernel : pm_fe 191 40 = some (.iconst 1, 1)) rfl).trans ?_
  refine (px_rz (by decide +kernel)).trans ((and_iff_right (by decide : (1 : Int) = (0 : Int) ∨ (1 : Int) = (1 : Int))).trans ?_)
  exact Iff.rfl
theorem r191_42 {d : Nat} {X : Nat × (Nat → Int)} {v : Nat → Int} {M : PH} {K : PV → PS → Prop} {l1 : Int} (h1 : inL l1) (h2 : inR (pm_cm l1 114767740170098)) : pm_Run d 191 42 [vA 234, vL l1, PU] [] (GF X, M, PTF v) K ↔ if pm_cm l1 114767740170098 = 0 then pm_Run d 191 82 [vA 234, vL l1, PU] [] (GF X, M, PTF v) K else pm_Run d 191 50 [vA 234, vL l1, PU] [] (GF X, M, PTF v) K := by
  refine (px_go (by decide +kernel : pm_fe 191 42 = some (.lload_n 1, 1)) rfl).trans ?_
  refine (px_ldcL (idx := 281) (x := 114767740170098) (by decide +kernel)).trans ?_
  refine (ry_lcmp h1 (by decide : (-9223372036854775808 ≤ (114767740170098 : Int) ∧ (114767740170098 : Int) < 9223372036854775808)) (by decide +kernel)).trans ?_
  refine (ry_if_eq (off := 35) (tgt := 82) h2 (by decide +kernel)).trans ?_
  exact Iff.rfl
theorem r191_50 {d : Nat} {X : Nat × (Nat → Int)} {v : Nat → Int} {M : PH} {K : PV → PS → Prop} {l1 : Int} (h1 : inL l1) (h2 : inR (pm_cm l1 483006772069)) : pm_Run d 191 50 [vA 234, vL l1, PU] [] (GF X, M, PTF v) K ↔ if pm_cm l1 483006772069 = 0 then pm_Run d 191 82 [vA 234, vL l1, PU] [] (GF X, M, PTF v) K else pm_Run d 191 58 [vA 234, vL l1, PU] [] (GF X, M, PTF v) K := by
  refine (px_go (by decide +kernel : pm_fe 191 50 = some (.lload_n 1, 1)) rfl).trans ?_
  refine (px_ldcL (idx := 283) (x := 483006772069) (by decide +kernel)).trans ?_
  refine (ry_lcmp h1 (by decide : (-9223372036854775808 ≤ (483006772069 : Int) ∧ (483006772069 : Int) < 9223372036854775808)) (by decide +kernel)).trans ?_
  refine (ry_if_eq (off := 27) (tgt := 82) h2 (by decide +kernel)).trans ?_
  exact Iff.rfl
theorem r191_58 {d : Nat} {X : Nat × (Nat → Int)} {v : Nat → Int} {M : PH} {K : PV → PS → Prop} {l1 : Int} (h1 : inL l1) (h2 : inR (pm_cm l1 431198598248)) : pm_Run d 191 58 [vA 234, vL l1, PU] [] (GF X, M, PTF v) K ↔ if pm_cm l1 431198598248 = 0 then pm_Run d 191 82 [vA 234, vL l1, PU] [] (GF X, M, PTF v) K else pm_Run d 191 66 [vA 234, vL l1, PU] [] (GF X, M, PTF v) K := by
  refine (px_go (by decide +kernel : pm_fe 191 58 = some (.lload_n 1, 1)) rfl).trans ?_
  refine (px_ldcL (idx := 285) (x := 431198598248) (by decide +kernel)).trans ?_
  refine (ry_lcmp h1 (by decide : (-9223372036854775808 ≤ (431198598248 : Int) ∧ (431198598248 : Int) < 9223372036854775808)) (by decide +kernel)).trans ?_
  refine (ry_if_eq (off := 19) (tgt := 82) h2 (by decide +kernel)).trans ?_
  exact Iff.rfl
theorem r191_66 {d : Nat} {X : Nat × (Nat → Int)} {v : Nat → Int} {M : PH} {K : PV → PS → Prop} {l1 : Int} (h1 : inL l1) (h2 : inR (pm_cm l1 1885436275)) : pm_Run d 191 66 [vA 234, vL l1, PU] [] (GF X, M, PTF v) K ↔ if pm_cm l1 1885436275 = 0 then pm_Run d 191 82 [vA 234, vL l1, PU] [] (GF X, M, PTF v) K else pm_Run d 191 74 [vA 234, vL l1, PU] [] (GF X, M, PTF v) K := by
  refine (px_go (by decide +kernel : pm_fe 191 66 = some (.lload_n 1, 1)) rfl).trans ?_
  refine (px_ldcL (idx := 287) (x := 1885436275) (by decide +kernel)).trans ?_
  refine (ry_lcmp h1 (by decide : (-9223372036854775808 ≤ (1885436275 : Int) ∧ (1885436275 : Int) < 9223372036854775808)) (by decide +kernel)).trans ?_
  refine (ry_if_eq (off := 11) (tgt := 82) h2 (by decide +kernel)).trans ?_
  exact Iff.rfl
theorem r191_74 {d : Nat} {X : Nat × (Nat → Int)} {v : Nat → Int} {M : PH} {K : PV → PS → Prop} {l1 : Int} (h1 : inL l1) (h2 : inR (pm_cm l1 1870095731)) : pm_Run d 191 74 [vA 234, vL l1, PU] [] (GF X, M, PTF v) K ↔ if pm_cm l1 1870095731 ≠ 0 then pm_Run d 191 84 [vA 234, vL l1, PU] [] (GF X, M, PTF v) K else pm_Run d 191 82 [vA 234, vL l1, PU] [] (GF X, M, PTF v) K := by
  refine (px_go (by decide +kernel : pm_fe 191 74 = some (.lload_n 1, 1)) rfl).trans ?_
  refine (px_ldcL (idx := 289) (x := 1870095731) (by decide +kernel)).trans ?_
  refine (ry_lcmp h1 (by decide : (-9223372036854775808 ≤ (1870095731 : Int) ∧ (1870095731 : Int) < 9223372036854775808)) (by decide +kernel)).trans ?_
  refine (ry_if_ne (off := 5) (tgt := 84) h2 (by decide +kernel)).trans ?_
  exact Iff.rfl
theorem r191_82 {d : Nat} {X : Nat × (Nat → Int)} {v : Nat → Int} {M : PH} {K : PV → PS → Prop} {l1 : Int} : pm_Run d 191 82 [vA 234, vL l1, PU] [] (GF X, M, PTF v) K ↔ K (vI 1) (GF X, M, PTF v) := by
  refine (px_go (by decide +kernel : pm_fe 191 82 = some (.iconst 1, 1)) rfl).trans ?_
  refine (px_rz (by decide +kernel)).trans ((and_iff_right (by decide : (1 : Int) = (0 : Int) ∨ (1 : Int) = (1 : Int))).trans ?_)
  exact Iff.rfl
theorem r191_84 {d : Nat} {X : Nat × (Nat → Int)} {v : Nat → Int} {M : PH} {K : PV → PS → Prop} {l1 : Int} (h1 : inL l1) (h2 : inR (pm_cm l1 109317142704997)) : pm_Run d 191 84 [vA 234, vL l1, PU] [] (GF X, M, PTF v) K ↔ if pm_cm l1 109317142704997 = 0 then pm_Run d 191 124 [vA 234, vL l1, PU] [] (GF X, M, PTF v) K else pm_Run d 191 92 [vA 234, vL l1, PU] [] (GF X, M, PTF v) K := by
  refine (px_go (by decide +kernel : pm_fe 191 84 = some (.lload_n 1, 1)) rfl).trans ?_
  refine (px_ldcL (idx := 291) (x := 109317142704997) (by decide +kernel)).trans ?_
  refine (ry_lcmp h1 (by decide : (-9223372036854775808 ≤ (109317142704997 : Int) ∧ (109317142704997 : Int) < 9223372036854775808)) (by decide +kernel)).trans ?_
  refine (ry_if_eq (off := 35) (tgt := 124) h2 (by decide +kernel)).trans ?_
  exact Iff.rfl
theorem r191_92 {d : Nat} {X : Nat × (Nat → Int)} {v : Nat → Int} {M : PH} {K : PV → PS → Prop} {l1 : Int} (h1 : inL l1) (h2 : inR (pm_cm l1 1886743660)) : pm_Run d 191 92 [vA 234, vL l1, PU] [] (GF X, M, PTF v) K ↔ if pm_cm l1 1886743660 = 0 then pm_Run d 191 124 [vA 234, vL l1, PU] [] (GF X, M, PTF v) K else pm_Run d 191 100 [vA 234, vL l1, PU] [] (GF X, M, PTF v) K := by
  refine (px_go (by decide +kernel : pm_fe 191 92 = some (.lload_n 1, 1)) rfl).trans ?_
  refine (px_ldcL (idx := 293) (x := 1886743660) (by decide +kernel)).trans ?_
  refine (ry_lcmp h1 (by decide : (-9223372036854775808 ≤ (1886743660 : Int) ∧ (1886743660 : Int) < 9223372036854775808)) (by decide +kernel)).trans ?_
  refine (ry_if_eq (off := 27) (tgt := 124) h2 (by decide +kernel)).trans ?_
  exact Iff.rfl
theorem r191_100 {d : Nat} {X : Nat × (Nat → Int)} {v : Nat → Int} {M : PH} {K : PV → PS → Prop} {l1 : Int} (h1 : inL l1) (h2 : inR (pm_cm l1 435426586227)) : pm_Run d 191 100 [vA 234, vL l1, PU] [] (GF X, M, PTF v) K ↔ if pm_cm l1 435426586227 = 0 then pm_Run d 191 124 [vA 234, vL l1, PU] [] (GF X, M, PTF v) K else pm_Run d 191 108 [vA 234, vL l1, PU] [] (GF X, M, PTF v) K := by
  refine (px_go (by decide +kernel : pm_fe 191 100 = some (.lload_n 1, 1)) rfl).trans ?_
  refine (px_ldcL (idx := 295) (x := 435426586227) (by decide +kernel)).trans ?_
  refine (ry_lcmp h1 (by decide : (-9223372036854775808 ≤ (435426586227 : Int) ∧ (435426586227 : Int) < 9223372036854775808)) (by decide +kernel)).trans ?_
  refine (ry_if_eq (off := 19) (tgt := 124) h2 (by decide +kernel)).trans ?_
  exact Iff.rfl
theorem r191_108 {d : Nat} {X : Nat × (Nat → Int)} {v : Nat → Int} {M : PH} {K : PV → PS → Prop} {l1 : Int} (h1 : inL l1) (h2 : inR (pm_cm l1 465558725996)) : pm_Run d 191 108 [vA 234, vL l1, PU] [] (GF X, M, PTF v) K ↔ if pm_cm l1 465558725996 = 0 then pm_Run d 191 124 [vA 234, vL l1, PU] [] (GF X, M, PTF v) K else pm_Run d 191 116 [vA 234, vL l1, PU] [] (GF X, M, PTF v) K := by
  refine (px_go (by decide +kernel : pm_fe 191 108 = some (.lload_n 1, 1)) rfl).trans ?_
  refine (px_ldcL (idx := 297) (x := 465558725996) (by decide +kernel)).trans ?_
  refine (ry_lcmp h1 (by decide : (-9223372036854775808 ≤ (465558725996 : Int) ∧ (465558725996 : Int) < 9223372036854775808)) (by decide +kernel)).trans ?_
  refine (ry_if_eq (off := 11) (tgt := 124) h2 (by decide +kernel)).trans ?_
  exact Iff.rfl
theorem r191_116 {d : Nat} {X : Nat × (Nat → Int)} {v : Nat → Int} {M : PH} {K : PV → PS → Prop} {l1 : Int} (h1 : inL l1) (h2 : inR (pm_cm l1 1937075307)) : pm_Run d 191 116 [vA 234, vL l1, PU] [] (GF X, M, PTF v) K ↔ if pm_cm l1 1937075307 ≠ 0 then pm_Run d 191 126 [vA 234, vL l1, PU] [] (GF X, M, PTF v) K else pm_Run d 191 124 [vA 234, vL l1, PU] [] (GF X, M, PTF v) K := by
  refine (px_go (by decide +kernel : pm_fe 191 116 = some (.lload_n 1, 1)) rfl).trans ?_
  refine (px_ldcL (idx := 299) (x := 1937075307) (by decide +kernel)).trans ?_
  refine (ry_lcmp h1 (by decide : (-9223372036854775808 ≤ (1937075307 : Int) ∧ (1937075307 : Int) < 9223372036854775808)) (by decide +kernel)).trans ?_
  refine (ry_if_ne (off := 5) (tgt := 126) h2 (by decide +kernel)).trans ?_
  exact Iff.rfl
theorem r191_124 {d : Nat} {X : Nat × (Nat → Int)} {v : Nat → Int} {M : PH} {K : PV → PS → Prop} {l1 : Int} : pm_Run d 191 124 [vA 234, vL l1, PU] [] (GF X, M, PTF v) K ↔ K (vI 1) (GF X, M, PTF v) := by
  refine (px_go (by decide +kernel : pm_fe 191 124 = some (.iconst 1, 1)) rfl).trans ?_
  refine (px_rz (by decide +kernel)).trans ((and_iff_right (by decide : (1 : Int) = (0 : Int) ∨ (1 : Int) = (1 : Int))).trans ?_)
  exact Iff.rfl
theorem r191_126 {d : Nat} {X : Nat × (Nat → Int)} {v : Nat → Int} {M : PH} {K : PV → PS → Prop} {l1 : Int} (h1 : inL l1) (h2 : inR (pm_cm l1 114784769370228)) : pm_Run d 191 126 [vA 234, vL l1, PU] [] (GF X, M, PTF v) K ↔ if pm_cm l1 114784769370228 = 0 then pm_Run d 191 166 [vA 234, vL l1, PU] [] (GF X, M, PTF v) K else pm_Run d 191 134 [vA 234, vL l1, PU] [] (GF X, M, PTF v) K := by
  refine (px_go (by decide +kernel : pm_fe 191 126 = some (.lload_n 1, 1)) rfl).trans ?_
  refine (px_ldcL (idx := 301) (x := 114784769370228) (by decide +kernel)).trans ?_
  refine (ry_lcmp h1 (by decide : (-9223372036854775808 ≤ (114784769370228 : Int) ∧ (114784769370228 : Int) < 9223372036854775808)) (by decide +kernel)).trans ?_
  refine (ry_if_eq (off := 35) (tgt := 166) h2 (by decide +kernel)).trans ?_
  exact Iff.rfl
theorem r191_134 {d : Nat} {X : Nat × (Nat → Int)} {v : Nat → Int} {M : PH} {K : PV → PS → Prop} {l1 : Int} (h1 : inL l1) (h2 : inR (pm_cm l1 1885432164)) : pm_Run d 191 134 [vA 234, vL l1, PU] [] (GF X, M, PTF v) K ↔ if pm_cm l1 1885432164 = 0 then pm_Run d 191 166 [vA 234, vL l1, PU] [] (GF X, M, PTF v) K else pm_Run d 191 142 [vA 234, vL l1, PU] [] (GF X, M, PTF v) K := by
  refine (px_go (by decide +kernel : pm_fe 191 134 = some (.lload_n 1, 1)) rfl).trans ?_
  refine (px_ldcL (idx := 303) (x := 1885432164) (by decide +kernel)).trans ?_
  refine (ry_lcmp h1 (by decide : (-9223372036854775808 ≤ (1885432164 : Int) ∧ (1885432164 : Int) < 9223372036854775808)) (by decide +kernel)).trans ?_
  refine (ry_if_eq (off := 27) (tgt := 166) h2 (by decide +kernel)).trans ?_
  exact Iff.rfl
theorem r191_142 {d : Nat} {X : Nat × (Nat → Int)} {v : Nat → Int} {M : PH} {K : PV → PS → Prop} {l1 : Int} (h1 : inL l1) (h2 : inR (pm_cm l1 6583653)) : pm_Run d 191 142 [vA 234, vL l1, PU] [] (GF X, M, PTF v) K ↔ if pm_cm l1 6583653 = 0 then pm_Run d 191 166 [vA 234, vL l1, PU] [] (GF X, M, PTF v) K else pm_Run d 191 150 [vA 234, vL l1, PU] [] (GF X, M, PTF v) K := by
  refine (px_go (by decide +kernel : pm_fe 191 142 = some (.lload_n 1, 1)) rfl).trans ?_
  refine (px_ldcL (idx := 305) (x := 6583653) (by decide +kernel)).trans ?_
  refine (ry_lcmp h1 (by decide : (-9223372036854775808 ≤ (6583653 : Int) ∧ (6583653 : Int) < 9223372036854775808)) (by decide +kernel)).trans ?_
  refine (ry_if_eq (off := 19) (tgt := 166) h2 (by decide +kernel)).trans ?_
  exact Iff.rfl
theorem r191_150 {d : Nat} {X : Nat × (Nat → Int)} {v : Nat → Int} {M : PH} {K : PV → PS → Prop} {l1 : Int} (h1 : inL l1) (h2 : inR (pm_cm l1 6709618)) : pm_Run d 191 150 [vA 234, vL l1, PU] [] (GF X, M, PTF v) K ↔ if pm_cm l1 6709618 = 0 then pm_Run d 191 166 [vA 234, vL l1, PU] [] (GF X, M, PTF v) K else pm_Run d 191 158 [vA 234, vL l1, PU] [] (GF X, M, PTF v) K := by
  refine (px_go (by decide +kernel : pm_fe 191 150 = some (.lload_n 1, 1)) rfl).trans ?_
  refine (px_ldcL (idx := 307) (x := 6709618) (by decide +kernel)).trans ?_
  refine (ry_lcmp h1 (by decide : (-9223372036854775808 ≤ (6709618 : Int) ∧ (6709618 : Int) < 9223372036854775808)) (by decide +kernel)).trans ?_
  refine (ry_if_eq (off := 11) (tgt := 166) h2 (by decide +kernel)).trans ?_
  exact Iff.rfl
theorem r191_158 {d : Nat} {X : Nat × (Nat → Int)} {v : Nat → Int} {M : PH} {K : PV → PS → Prop} {l1 : Int} (h1 : inL l1) (h2 : inR (pm_cm l1 495891278707)) : pm_Run d 191 158 [vA 234, vL l1, PU] [] (GF X, M, PTF v) K ↔ if pm_cm l1 495891278707 ≠ 0 then pm_Run d 191 168 [vA 234, vL l1, PU] [] (GF X, M, PTF v) K else pm_Run d 191 166 [vA 234, vL l1, PU] [] (GF X, M, PTF v) K := by
  refine (px_go (by decide +kernel : pm_fe 191 158 = some (.lload_n 1, 1)) rfl).trans ?_
  refine (px_ldcL (idx := 309) (x := 495891278707) (by decide +kernel)).trans ?_
  refine (ry_lcmp h1 (by decide : (-9223372036854775808 ≤ (495891278707 : Int) ∧ (495891278707 : Int) < 9223372036854775808)) (by decide +kernel)).trans ?_
  refine (ry_if_ne (off := 5) (tgt := 168) h2 (by decide +kernel)).trans ?_
  exact Iff.rfl
theorem r191_166 {d : Nat} {X : Nat × (Nat → Int)} {v : Nat → Int} {M : PH} {K : PV → PS → Prop} {l1 : Int} : pm_Run d 191 166 [vA 234, vL l1, PU] [] (GF X, M, PTF v) K ↔ K (vI 1) (GF X, M, PTF v) := by
  refine (px_go (by decide +kernel : pm_fe 191 166 = some (.iconst 1, 1)) rfl).trans ?_
  refine (px_rz (by decide +kernel)).trans ((and_iff_right (by decide : (1 : Int) = (0 : Int) ∨ (1 : Int) = (1 : Int))).trans ?_)
  exact Iff.rfl
theorem r191_168 {d : Nat} {X : Nat × (Nat → Int)} {v : Nat → Int} {M : PH} {K : PV → PS → Prop} {l1 : Int} (h1 : inL l1) (h2 : inR (pm_cm l1 491395637612)) : pm_Run d 191 168 [vA 234, vL l1, PU] [] (GF X, M, PTF v) K ↔ if pm_cm l1 491395637612 = 0 then pm_Run d 191 208 [vA 234, vL l1, PU] [] (GF X, M, PTF v) K else pm_Run d 191 176 [vA 234, vL l1, PU] [] (GF X, M, PTF v) K := by
  refine (px_go (by decide +kernel : pm_fe 191 168 = some (.lload_n 1, 1)) rfl).trans ?_
  refine (px_ldcL (idx := 311) (x := 491395637612) (by decide +kernel)).trans ?_
  refine (ry_lcmp h1 (by decide : (-9223372036854775808 ≤ (491395637612 : Int) ∧ (491395637612 : Int) < 9223372036854775808)) (by decide +kernel)).trans ?_
  refine (ry_if_eq (off := 35) (tgt := 208) h2 (by decide +kernel)).trans ?_
  exact Iff.rfl
theorem r191_176 {d : Nat} {X : Nat × (Nat → Int)} {v : Nat → Int} {M : PH} {K : PV → PS → Prop} {l1 : Int} (h1 : inL l1) (h2 : inR (pm_cm l1 1752135026)) : pm_Run d 191 176 [vA 234, vL l1, PU] [] (GF X, M, PTF v) K ↔ if pm_cm l1 1752135026 = 0 then pm_Run d 191 208 [vA 234, vL l1, PU] [] (GF X, M, PTF v) K else pm_Run d 191 184 [vA 234, vL l1, PU] [] (GF X, M, PTF v) K := by
  refine (px_go (by decide +kernel : pm_fe 191 176 = some (.lload_n 1, 1)) rfl).trans ?_
  refine (px_ldcL (idx := 313) (x := 1752135026) (by decide +kernel)).trans ?_
  refine (ry_lcmp h1 (by decide : (-9223372036854775808 ≤ (1752135026 : Int) ∧ (1752135026 : Int) < 9223372036854775808)) (by decide +kernel)).trans ?_
  refine (ry_if_eq (off := 27) (tgt := 208) h2 (by decide +kernel)).trans ?_
  exact Iff.rfl
theorem r191_184 {d : Nat} {X : Nat × (Nat → Int)} {v : Nat → Int} {M : PH} {K : PV → PS → Prop} {l1 : Int} (h1 : inL l1) (h2 : inR (pm_cm l1 482854658917)) : pm_Run d 191 184 [vA 234, vL l1, PU] [] (GF X, M, PTF v) K ↔ if pm_cm l1 482854658917 = 0 then pm_Run d 191 208 [vA 234, vL l1, PU] [] (GF X, M, PTF v) K else pm_Run d 191 192 [vA 234, vL l1, PU] [] (GF X, M, PTF v) K := by
  refine (px_go (by decide +kernel : pm_fe 191 184 = some (.lload_n 1, 1)) rfl).trans ?_
  refine (px_ldcL (idx := 315) (x := 482854658917) (by decide +kernel)).trans ?_
  refine (ry_lcmp h1 (by decide : (-9223372036854775808 ≤ (482854658917 : Int) ∧ (482854658917 : Int) < 9223372036854775808)) (by decide +kernel)).trans ?_
  refine (ry_if_eq (off := 19) (tgt := 208) h2 (by decide +kernel)).trans ?_
  exact Iff.rfl
theorem r191_192 {d : Nat} {X : Nat × (Nat → Int)} {v : Nat → Int} {M : PH} {K : PV → PS → Prop} {l1 : Int} (h1 : inL l1) (h2 : inR (pm_cm l1 28530)) : pm_Run d 191 192 [vA 234, vL l1, PU] [] (GF X, M, PTF v) K ↔ if pm_cm l1 28530 = 0 then pm_Run d 191 208 [vA 234, vL l1, PU] [] (GF X, M, PTF v) K else pm_Run d 191 200 [vA 234, vL l1, PU] [] (GF X, M, PTF v) K := by
  refine (px_go (by decide +kernel : pm_fe 191 192 = some (.lload_n 1, 1)) rfl).trans ?_
  refine (px_ldcL (idx := 317) (x := 28530) (by decide +kernel)).trans ?_
  refine (ry_lcmp h1 (by decide : (-9223372036854775808 ≤ (28530 : Int) ∧ (28530 : Int) < 9223372036854775808)) (by decide +kernel)).trans ?_
  refine (ry_if_eq (off := 11) (tgt := 208) h2 (by decide +kernel)).trans ?_
  exact Iff.rfl
theorem r191_200 {d : Nat} {X : Nat × (Nat → Int)} {v : Nat → Int} {M : PH} {K : PV → PS → Prop} {l1 : Int} (h1 : inL l1) (h2 : inR (pm_cm l1 6385252)) : pm_Run d 191 200 [vA 234, vL l1, PU] [] (GF X, M, PTF v) K ↔ if pm_cm l1 6385252 ≠ 0 then pm_Run d 191 210 [vA 234, vL l1, PU] [] (GF X, M, PTF v) K else pm_Run d 191 208 [vA 234, vL l1, PU] [] (GF X, M, PTF v) K := by
  refine (px_go (by decide +kernel : pm_fe 191 200 = some (.lload_n 1, 1)) rfl).trans ?_
  refine (px_ldcL (idx := 319) (x := 6385252) (by decide +kernel)).trans ?_
  refine (ry_lcmp h1 (by decide : (-9223372036854775808 ≤ (6385252 : Int) ∧ (6385252 : Int) < 9223372036854775808)) (by decide +kernel)).trans ?_
  refine (ry_if_ne (off := 5) (tgt := 210) h2 (by decide +kernel)).trans ?_
  exact Iff.rfl
theorem r191_208 {d : Nat} {X : Nat × (Nat → Int)} {v : Nat → Int} {M : PH} {K : PV → PS → Prop} {l1 : Int} : pm_Run d 191 208 [vA 234, vL l1, PU] [] (GF X, M, PTF v) K ↔ K (vI 1) (GF X, M, PTF v) := by
  refine (px_go (by decide +kernel : pm_fe 191 208 = some (.iconst 1, 1)) rfl).trans ?_
  refine (px_rz (by decide +kernel)).trans ((and_iff_right (by decide : (1 : Int) = (0 : Int) ∨ (1 : Int) = (1 : Int))).trans ?_)
  exact Iff.rfl
theorem r191_210 {d : Nat} {X : Nat × (Nat → Int)} {v : Nat → Int} {M : PH} {K : PV → PS → Prop} {l1 : Int} (h1 : inL l1) (h2 : inR (pm_cm l1 7237492)) : pm_Run d 191 210 [vA 234, vL l1, PU] [] (GF X, M, PTF v) K ↔ if pm_cm l1 7237492 = 0 then pm_Run d 191 242 [vA 234, vL l1, PU] [] (GF X, M, PTF v) K else pm_Run d 191 218 [vA 234, vL l1, PU] [] (GF X, M, PTF v) K := by
  refine (px_go (by decide +kernel : pm_fe 191 210 = some (.lload_n 1, 1)) rfl).trans ?_
  refine (px_ldcL (idx := 321) (x := 7237492) (by decide +kernel)).trans ?_
  refine (ry_lcmp h1 (by decide : (-9223372036854775808 ≤ (7237492 : Int) ∧ (7237492 : Int) < 9223372036854775808)) (by decide +kernel)).trans ?_
  refine (ry_if_eq (off := 27) (tgt := 242) h2 (by decide +kernel)).trans ?_
  exact Iff.rfl
theorem r191_218 {d : Nat} {X : Nat × (Nat → Int)} {v : Nat → Int} {M : PH} {K : PV → PS → Prop} {l1 : Int} (h1 : inL l1) (h2 : inR (pm_cm l1 6384748)) : pm_Run d 191 218 [vA 234, vL l1, PU] [] (GF X, M, PTF v) K ↔ if pm_cm l1 6384748 = 0 then pm_Run d 191 242 [vA 234, vL l1, PU] [] (GF X, M, PTF v) K else pm_Run d 191 226 [vA 234, vL l1, PU] [] (GF X, M, PTF v) K := by
  refine (px_go (by decide +kernel : pm_fe 191 218 = some (.lload_n 1, 1)) rfl).trans ?_
  refine (px_ldcL (idx := 323) (x := 6384748) (by decide +kernel)).trans ?_
  refine (ry_lcmp h1 (by decide : (-9223372036854775808 ≤ (6384748 : Int) ∧ (6384748 : Int) < 9223372036854775808)) (by decide +kernel)).trans ?_
  refine (ry_if_eq (off := 19) (tgt := 242) h2 (by decide +kernel)).trans ?_
  exact Iff.rfl
theorem r191_226 {d : Nat} {X : Nat × (Nat → Int)} {v : Nat → Int} {M : PH} {K : PV → PS → Prop} {l1 : Int} (h1 : inL l1) (h2 : inR (pm_cm l1 7170414)) : pm_Run d 191 226 [vA 234, vL l1, PU] [] (GF X, M, PTF v) K ↔ if pm_cm l1 7170414 = 0 then pm_Run d 191 242 [vA 234, vL l1, PU] [] (GF X, M, PTF v) K else pm_Run d 191 234 [vA 234, vL l1, PU] [] (GF X, M, PTF v) K := by
  refine (px_go (by decide +kernel : pm_fe 191 226 = some (.lload_n 1, 1)) rfl).trans ?_
  refine (px_ldcL (idx := 325) (x := 7170414) (by decide +kernel)).trans ?_
  refine (ry_lcmp h1 (by decide : (-9223372036854775808 ≤ (7170414 : Int) ∧ (7170414 : Int) < 9223372036854775808)) (by decide +kernel)).trans ?_
  refine (ry_if_eq (off := 11) (tgt := 242) h2 (by decide +kernel)).trans ?_
  exact Iff.rfl
theorem r191_234 {d : Nat} {X : Nat × (Nat → Int)} {v : Nat → Int} {M : PH} {K : PV → PS → Prop} {l1 : Int} (h1 : inL l1) (h2 : inR (pm_cm l1 7168376)) : pm_Run d 191 234 [vA 234, vL l1, PU] [] (GF X, M, PTF v) K ↔ if pm_cm l1 7168376 ≠ 0 then pm_Run d 191 244 [vA 234, vL l1, PU] [] (GF X, M, PTF v) K else pm_Run d 191 242 [vA 234, vL l1, PU] [] (GF X, M, PTF v) K := by
  refine (px_go (by decide +kernel : pm_fe 191 234 = some (.lload_n 1, 1)) rfl).trans ?_
  refine (px_ldcL (idx := 327) (x := 7168376) (by decide +kernel)).trans ?_
  refine (ry_lcmp h1 (by decide : (-9223372036854775808 ≤ (7168376 : Int) ∧ (7168376 : Int) < 9223372036854775808)) (by decide +kernel)).trans ?_
  refine (ry_if_ne (off := 5) (tgt := 244) h2 (by decide +kernel)).trans ?_
  exact Iff.rfl
theorem r191_242 {d : Nat} {X : Nat × (Nat → Int)} {v : Nat → Int} {M : PH} {K : PV → PS → Prop} {l1 : Int} : pm_Run d 191 242 [vA 234, vL l1, PU] [] (GF X, M, PTF v) K ↔ K (vI 1) (GF X, M, PTF v) := by
  refine (px_go (by decide +kernel : pm_fe 191 242 = some (.iconst 1, 1)) rfl).trans ?_
  refine (px_rz (by decide +kernel)).trans ((and_iff_right (by decide : (1 : Int) = (0 : Int) ∨ (1 : Int) = (1 : Int))).trans ?_)
  exact Iff.rfl
theorem r191_244 {d : Nat} {X : Nat × (Nat → Int)} {v : Nat → Int} {M : PH} {K : PV → PS → Prop} {l1 : Int} : pm_Run d 191 244 [vA 234, vL l1, PU] [] (GF X, M, PTF v) K ↔ K (vI 0) (GF X, M, PTF v) := by
  refine (px_go (by decide +kernel : pm_fe 191 244 = some (.iconst 0, 1)) rfl).trans ?_
  refine (px_rz (by decide +kernel)).trans ((and_iff_right (by decide : (0 : Int) = (0 : Int) ∨ (0 : Int) = (1 : Int))).trans ?_)
  exact Iff.rfl
-- X12_manyOf manyOf(II)I
theorem r192_0 {d : Nat} {X : Nat × (Nat → Int)} {v : Nat → Int} {M : PH} {K : PV → PS → Prop} {l1 l2 : Int} (h1 : inR l2) : pm_Run d 192 0 [vA 234, vI l1, vI l2] [] (GF X, M, PTF v) K ↔ if l2 ≠ 0 then pm_Run d 192 13 [vA 234, vI l1, vI l2] [] (GF X, M, PTF v) K else pm_Run d 192 4 [vA 234, vI l1, vI l2] [] (GF X, M, PTF v) K := by
  refine (px_go (by decide +kernel : pm_fe 192 0 = some (.iload_n 2, 1)) rfl).trans ?_
  refine (ry_if_ne (off := 12) (tgt := 13) h1 (by decide +kernel)).trans ?_
  exact Iff.rfl
theorem r192_4 {d : Nat} {X : Nat × (Nat → Int)} {v : Nat → Int} {M : PH} {K : PV → PS → Prop} {l1 l2 : Int} (h1 : 0 ≤ l1) (h2 : l1 < 2) : pm_Run d 192 4 [vA 234, vI l1, vI l2] [] (GF X, M, PTF v) K ↔ pm_Run d 192 19 [vA 234, vI l1, vI l2] [vI (M 237 l1.toNat)] (GF X, M, PTF v) K := by
  refine (px_go (by decide +kernel : pm_fe 192 4 = some (.aload_n 0, 1)) rfl).trans ?_
  refine (ry_get2 (idx := 57) (ci := 12) (k := 15) (by decide +kernel : 234 < 283 ∧ SHF 234 = (12, 76)) (ptf_l (a := 234) (k := 15) (n := 237) (by decide +kernel)) (by decide +kernel)).trans ?_
  refine (px_go (by decide +kernel : pm_fe 192 8 = some (.iload_n 1, 1)) rfl).trans ?_
  refine (ry_iald (by decide +kernel : 237 < 283 ∧ SHF 237 = (100, 2)) h1 h2 (by decide +kernel)).trans ?_
  refine (px_goto (off := 9) (tgt := 19) (by decide +kernel)).trans ?_
  exact Iff.rfl
theorem r192_13 {d : Nat} {X : Nat × (Nat → Int)} {v : Nat → Int} {M : PH} {K : PV → PS → Prop} {l1 l2 : Int} (h1 : 0 ≤ l1) (h2 : l1 < 2) : pm_Run d 192 13 [vA 234, vI l1, vI l2] [] (GF X, M, PTF v) K ↔ pm_Run d 192 19 [vA 234, vI l1, vI l2] [vI (M 241 l1.toNat)] (GF X, M, PTF v) K := by
  refine (px_go (by decide +kernel : pm_fe 192 13 = some (.aload_n 0, 1)) rfl).trans ?_
  refine (ry_get2 (idx := 69) (ci := 12) (k := 19) (by decide +kernel : 234 < 283 ∧ SHF 234 = (12, 76)) (ptf_l (a := 234) (k := 19) (n := 241) (by decide +kernel)) (by decide +kernel)).trans ?_
  refine (px_go (by decide +kernel : pm_fe 192 17 = some (.iload_n 1, 1)) rfl).trans ?_
  refine (ry_iald (by decide +kernel : 241 < 283 ∧ SHF 241 = (100, 2)) h1 h2 (by decide +kernel)).trans ?_
  exact Iff.rfl
theorem r192_19 {d : Nat} {X : Nat × (Nat → Int)} {v : Nat → Int} {M : PH} {K : PV → PS → Prop} {l1 l2 s0 : Int} : pm_Run d 192 19 [vA 234, vI l1, vI l2] [vI s0] (GF X, M, PTF v) K ↔ K (vI s0) (GF X, M, PTF v) := by
  refine (px_ri (by decide +kernel)).trans ?_
  exact Iff.rfl
-- X12_nameOf nameOf(III)J
theorem r193_0 {d : Nat} {X : Nat × (Nat → Int)} {v : Nat → Int} {M : PH} {K : PV → PS → Prop} {l1 l2 l3 : Int} (h1 : inR l2) : pm_Run d 193 0 [vA 234, vI l1, vI l2, vI l3] [] (GF X, M, PTF v) K ↔ if l2 ≠ 0 then pm_Run d 193 17 [vA 234, vI l1, vI l2, vI l3] [] (GF X, M, PTF v) K else pm_Run d 193 4 [vA 234, vI l1, vI l2, vI l3] [] (GF X, M, PTF v) K := by
  refine (px_go (by decide +kernel : pm_fe 193 0 = some (.iload_n 2, 1)) rfl).trans ?_
  refine (ry_if_ne (off := 16) (tgt := 17) h1 (by decide +kernel)).trans ?_
  exact Iff.rfl
theorem r193_4 {d : Nat} {X : Nat × (Nat → Int)} {v : Nat → Int} {M : PH} {K : PV → PS → Prop} {l1 l2 l3 : Int} (h1 : 0 ≤ ((3 * l1) + l3)) (h2 : ((3 * l1) + l3) < 6) : pm_Run d 193 4 [vA 234, vI l1, vI l2, vI l3] [] (GF X, M, PTF v) K ↔ pm_Run d 193 28 [vA 234, vI l1, vI l2, vI l3] [vL (M 261 ((3 * l1) + l3).toNat)] (GF X, M, PTF v) K := by
  refine (px_go (by decide +kernel : pm_fe 193 4 = some (.aload_n 0, 1)) rfl).trans ?_
  refine (ry_get2 (idx := 129) (ci := 12) (k := 39) (by decide +kernel : 234 < 283 ∧ SHF 234 = (12, 76)) (ptf_l (a := 234) (k := 39) (n := 261) (by decide +kernel)) (by decide +kernel)).trans ?_
  refine (px_go (by decide +kernel : pm_fe 193 8 = some (.iconst 3, 1)) rfl).trans ?_
  refine (px_go (by decide +kernel : pm_fe 193 9 = some (.iload_n 1, 1)) rfl).trans ?_
  refine (px_go (by decide +kernel : pm_fe 193 10 = some (.imul, 1)) rfl).trans ?_
  refine (px_go (by decide +kernel : pm_fe 193 11 = some (.iload_n 3, 1)) rfl).trans ?_
  refine (px_go (by decide +kernel : pm_fe 193 12 = some (.iadd, 1)) rfl).trans ?_
  refine (ry_lald (by decide +kernel : 261 < 283 ∧ SHF 261 = (103, 6)) h1 h2 (by decide +kernel)).trans ?_
  refine (px_goto (off := 14) (tgt := 28) (by decide +kernel)).trans ?_
  exact Iff.rfl
theorem r193_17 {d : Nat} {X : Nat × (Nat → Int)} {v : Nat → Int} {M : PH} {K : PV → PS → Prop} {l1 l2 l3 : Int} (h1 : 0 ≤ ((8 * l1) + l3)) (h2 : ((8 * l1) + l3) < 16) : pm_Run d 193 17 [vA 234, vI l1, vI l2, vI l3] [] (GF X, M, PTF v) K ↔ pm_Run d 193 28 [vA 234, vI l1, vI l2, vI l3] [vL (M 262 ((8 * l1) + l3).toNat)] (GF X, M, PTF v) K := by
  refine (px_go (by decide +kernel : pm_fe 193 17 = some (.aload_n 0, 1)) rfl).trans ?_
  refine (ry_get2 (idx := 133) (ci := 12) (k := 40) (by decide +kernel : 234 < 283 ∧ SHF 234 = (12, 76)) (ptf_l (a := 234) (k := 40) (n := 262) (by decide +kernel)) (by decide +kernel)).trans ?_
  refine (px_go (by decide +kernel : pm_fe 193 21 = some (.bipush 8, 2)) rfl).trans ?_
  refine (px_go (by decide +kernel : pm_fe 193 23 = some (.iload_n 1, 1)) rfl).trans ?_
  refine (px_go (by decide +kernel : pm_fe 193 24 = some (.imul, 1)) rfl).trans ?_
  refine (px_go (by decide +kernel : pm_fe 193 25 = some (.iload_n 3, 1)) rfl).trans ?_
  refine (px_go (by decide +kernel : pm_fe 193 26 = some (.iadd, 1)) rfl).trans ?_
  refine (ry_lald (by decide +kernel : 262 < 283 ∧ SHF 262 = (103, 16)) h1 h2 (by decide +kernel)).trans ?_
  exact Iff.rfl
theorem r193_28 {d : Nat} {X : Nat × (Nat → Int)} {v : Nat → Int} {M : PH} {K : PV → PS → Prop} {l1 l2 l3 s0 : Int} : pm_Run d 193 28 [vA 234, vI l1, vI l2, vI l3] [vL s0] (GF X, M, PTF v) K ↔ K (vL s0) (GF X, M, PTF v) := by
  refine (px_rl (by decide +kernel)).trans ?_
  exact Iff.rfl
-- X12_named named(IJ)I
theorem r194_0 {d : Nat} {X : Nat × (Nat → Int)} {v : Nat → Int} {M : PH} {K : PV → PS → Prop} {l1 l2 : Int} : pm_Run d 194 0 [vA 234, vI l1, vL l2, PU, PU] [] (GF X, M, PTF v) K ↔ pm_Run d 194 3 [vA 234, vI l1, vL l2, PU, vI 0] [] (GF X, M, PTF v) K := by
  refine (px_go (by decide +kernel : pm_fe 194 0 = some (.iconst 0, 1)) rfl).trans ?_
  refine (px_go (by decide +kernel : pm_fe 194 1 = some (.istore 4, 2)) rfl).trans ?_
  exact Iff.rfl
theorem r194_3 {d : Nat} {X : Nat × (Nat → Int)} {v : Nat → Int} {M : PH} {K : PV → PS → Prop} {l1 l2 l4 : Int} : pm_Run d 194 3 [vA 234, vI l1, vL l2, PU, vI l4] [] (GF X, M, PTF v) K ↔ pm_Call d 192 [vA 234, vI (M 234 42), vI l1] (GF X, M, PTF v) (fun r9 S1 => pm_Run d 194 14 [vA 234, vI l1, vL l2, PU, vI l4] (pm_push r9 [vI l4]) S1 K) := by
  refine (px_go (by decide +kernel : pm_fe 194 3 = some (.iload 4, 2)) rfl).trans ?_
  refine (px_go (by decide +kernel : pm_fe 194 5 = some (.aload_n 0, 1)) rfl).trans ?_
  refine (px_go (by decide +kernel : pm_fe 194 6 = some (.aload_n 0, 1)) rfl).trans ?_
  refine (ry_get0 (idx := 139) (ci := 12) (k := 42) (by decide +kernel : 234 < 283 ∧ SHF 234 = (12, 76)) (by decide +kernel)).trans ?_
  refine (px_go (by decide +kernel : pm_fe 194 10 = some (.iload_n 1, 1)) rfl).trans ?_
  refine (ry_v2 (idx := 329) (m' := 192) (ci := 12) (by decide +kernel : 234 < 283 ∧ SHF 234 = (12, 76)) (by simp [pm_wl_n, pm_wl_c, pm_w] : pm_wl [vI l4] ≤ 8) (by decide +kernel)).trans ?_
  exact Iff.rfl
theorem r194_14 {d : Nat} {X : Nat × (Nat → Int)} {v : Nat → Int} {M : PH} {K : PV → PS → Prop} {l1 l2 l4 s0 s1 : Int} (h1 : inR s1) (h2 : inR s0) : pm_Run d 194 14 [vA 234, vI l1, vL l2, PU, vI l4] [vI s0, vI s1] (GF X, M, PTF v) K ↔ if s0 ≤ s1 then pm_Run d 194 42 [vA 234, vI l1, vL l2, PU, vI l4] [] (GF X, M, PTF v) K else pm_Run d 194 17 [vA 234, vI l1, vL l2, PU, vI l4] [] (GF X, M, PTF v) K := by
  refine (ry_ic_ge (off := 28) (tgt := 42) h1 h2 (by decide +kernel)).trans ?_
  exact Iff.rfl
theorem r194_17 {d : Nat} {X : Nat × (Nat → Int)} {v : Nat → Int} {M : PH} {K : PV → PS → Prop} {l1 l2 l4 : Int} : pm_Run d 194 17 [vA 234, vI l1, vL l2, PU, vI l4] [] (GF X, M, PTF v) K ↔ pm_Call d 193 [vA 234, vI (M 234 42), vI l1, vI l4] (GF X, M, PTF v) (fun r9 S1 => pm_Run d 194 28 [vA 234, vI l1, vL l2, PU, vI l4] (pm_push r9 []) S1 K) := by
  refine (px_go (by decide +kernel : pm_fe 194 17 = some (.aload_n 0, 1)) rfl).trans ?_
  refine (px_go (by decide +kernel : pm_fe 194 18 = some (.aload_n 0, 1)) rfl).trans ?_
  refine (ry_get0 (idx := 139) (ci := 12) (k := 42) (by decide +kernel : 234 < 283 ∧ SHF 234 = (12, 76)) (by decide +kernel)).trans ?_
  refine (px_go (by decide +kernel : pm_fe 194 22 = some (.iload_n 1, 1)) rfl).trans ?_
  refine (px_go (by decide +kernel : pm_fe 194 23 = some (.iload 4, 2)) rfl).trans ?_
  refine (ry_v3 (idx := 333) (m' := 193) (ci := 12) (by decide +kernel : 234 < 283 ∧ SHF 234 = (12, 76)) (by simp [pm_wl_n, pm_wl_c, pm_w] : pm_wl [] ≤ 8) (by decide +kernel)).trans ?_
  exact Iff.rfl
theorem r194_28 {d : Nat} {X : Nat × (Nat → Int)} {v : Nat → Int} {M : PH} {K : PV → PS → Prop} {l1 l2 l4 s0 : Int} (h1 : inL s0) (h2 : inL l2) (h3 : inR (pm_cm s0 l2)) : pm_Run d 194 28 [vA 234, vI l1, vL l2, PU, vI l4] [vL s0] (GF X, M, PTF v) K ↔ if pm_cm s0 l2 ≠ 0 then pm_Run d 194 36 [vA 234, vI l1, vL l2, PU, vI l4] [] (GF X, M, PTF v) K else pm_Run d 194 33 [vA 234, vI l1, vL l2, PU, vI l4] [] (GF X, M, PTF v) K := by
  refine (px_go (by decide +kernel : pm_fe 194 28 = some (.lload_n 2, 1)) rfl).trans ?_
  refine (ry_lcmp h1 h2 (by decide +kernel)).trans ?_
  refine (ry_if_ne (off := 6) (tgt := 36) h3 (by decide +kernel)).trans ?_
  exact Iff.rfl
theorem r194_33 {d : Nat} {X : Nat × (Nat → Int)} {v : Nat → Int} {M : PH} {K : PV → PS → Prop} {l1 l2 l4 : Int} : pm_Run d 194 33 [vA 234, vI l1, vL l2, PU, vI l4] [] (GF X, M, PTF v) K ↔ K (vI l4) (GF X, M, PTF v) := by
  refine (px_go (by decide +kernel : pm_fe 194 33 = some (.iload 4, 2)) rfl).trans ?_
  refine (px_ri (by decide +kernel)).trans ?_
  exact Iff.rfl
theorem r194_36 {d : Nat} {X : Nat × (Nat → Int)} {v : Nat → Int} {M : PH} {K : PV → PS → Prop} {l1 l2 l4 : Int} : pm_Run d 194 36 [vA 234, vI l1, vL l2, PU, vI l4] [] (GF X, M, PTF v) K ↔ pm_Run d 194 3 [vA 234, vI l1, vL l2, PU, vI (l4 + 1)] [] (GF X, M, PTF v) K := by
  refine (px_go (by decide +kernel : pm_fe 194 36 = some (.iinc 4 1, 3)) rfl).trans ?_
  refine (px_goto (off := (-36)) (tgt := 3) (by decide +kernel)).trans ?_
  exact Iff.rfl
theorem r194_42 {d : Nat} {X : Nat × (Nat → Int)} {v : Nat → Int} {M : PH} {K : PV → PS → Prop} {l1 l2 l4 : Int} : pm_Run d 194 42 [vA 234, vI l1, vL l2, PU, vI l4] [] (GF X, M, PTF v) K ↔ K (vI (-1)) (GF X, M, PTF v) := by
  refine (px_go (by decide +kernel : pm_fe 194 42 = some (.iconst (-1), 1)) rfl).trans ?_
  refine (px_ri (by decide +kernel)).trans ?_
  exact Iff.rfl
-- X12_lookedAt lookedAt(II)I
theorem r195_0 {d : Nat} {X : Nat × (Nat → Int)} {v : Nat → Int} {M : PH} {K : PV → PS → Prop} {l1 l2 : Int} : pm_Run d 195 0 [vA 234, vI l1, vI l2] [] (GF X, M, PTF v) K ↔ pm_Call d 186 [vA 234] (GF X, M, PTF v) (fun r9 S1 => pm_Run d 195 4 [vA 234, vI l1, vI l2] (pm_push r9 []) S1 K) := by
  refine (px_go (by decide +kernel : pm_fe 195 0 = some (.aload_n 0, 1)) rfl).trans ?_
  refine (ry_v0 (idx := 262) (m' := 186) (ci := 12) (by decide +kernel : 234 < 283 ∧ SHF 234 = (12, 76)) (by simp [pm_wl_n, pm_wl_c, pm_w] : pm_wl [] ≤ 8) (by decide +kernel)).trans ?_
  exact Iff.rfl
theorem r195_4 {d : Nat} {X : Nat × (Nat → Int)} {v : Nat → Int} {M : PH} {K : PV → PS → Prop} {l1 l2 : Int} (h1 : inR (M 234 8)) : pm_Run d 195 4 [vA 234, vI l1, vI l2] [] (GF X, M, PTF v) K ↔ if M 234 8 ≤ 0 then pm_Run d 195 13 [vA 234, vI l1, vI l2] [] (GF X, M, PTF v) K else pm_Run d 195 11 [vA 234, vI l1, vI l2] [] (GF X, M, PTF v) K := by
  refine (px_go (by decide +kernel : pm_fe 195 4 = some (.aload_n 0, 1)) rfl).trans ?_
  refine (ry_get0 (idx := 36) (ci := 12) (k := 8) (by decide +kernel : 234 < 283 ∧ SHF 234 = (12, 76)) (by decide +kernel)).trans ?_
  refine (ry_if_le (off := 5) (tgt := 13) h1 (by decide +kernel)).trans ?_
  exact Iff.rfl
theorem r195_11 {d : Nat} {X : Nat × (Nat → Int)} {v : Nat → Int} {M : PH} {K : PV → PS → Prop} {l1 l2 : Int} : pm_Run d 195 11 [vA 234, vI l1, vI l2] [] (GF X, M, PTF v) K ↔ K (vI 0) (GF X, M, PTF v) := by
  refine (px_go (by decide +kernel : pm_fe 195 11 = some (.iconst 0, 1)) rfl).trans ?_
  refine (px_ri (by decide +kernel)).trans ?_
  exact Iff.rfl
theorem r195_13 {d : Nat} {X : Nat × (Nat → Int)} {v : Nat → Int} {M : PH} {K : PV → PS → Prop} {l1 l2 : Int} (h1 : inR (M 234 3)) : pm_Run d 195 13 [vA 234, vI l1, vI l2] [] (GF X, M, PTF v) K ↔ if M 234 3 = 2 then pm_Run d 195 30 [vA 234, vI l1, vI l2] [] (GF X, M, PTF v) K else pm_Run d 195 21 [vA 234, vI l1, vI l2] [] (GF X, M, PTF v) K := by
  refine (px_go (by decide +kernel : pm_fe 195 13 = some (.aload_n 0, 1)) rfl).trans ?_
  refine (ry_get0 (idx := 20) (ci := 12) (k := 3) (by decide +kernel : 234 < 283 ∧ SHF 234 = (12, 76)) (by decide +kernel)).trans ?_
  refine (px_go (by decide +kernel : pm_fe 195 17 = some (.iconst 2, 1)) rfl).trans ?_
  refine (ry_ic_eq (off := 12) (tgt := 30) h1 (by decide : (-2147483648 ≤ (2 : Int) ∧ (2 : Int) < 2147483648)) (by decide +kernel)).trans ?_
  exact Iff.rfl
theorem r195_21 {d : Nat} {X : Nat × (Nat → Int)} {v : Nat → Int} {M : PH} {K : PV → PS → Prop} {l1 l2 : Int} : pm_Run d 195 21 [vA 234, vI l1, vI l2] [] (GF X, M, PTF v) K ↔ pm_Call d 183 [vA 234, vI 1, vI (M 234 4)] (GF X, M, PTF v) (fun r9 S1 => pm_Run d 195 30 [vA 234, vI l1, vI l2] (pm_push r9 []) S1 K) := by
  refine (px_go (by decide +kernel : pm_fe 195 21 = some (.aload_n 0, 1)) rfl).trans ?_
  refine (px_go (by decide +kernel : pm_fe 195 22 = some (.iconst 1, 1)) rfl).trans ?_
  refine (px_go (by decide +kernel : pm_fe 195 23 = some (.aload_n 0, 1)) rfl).trans ?_
  refine (ry_get0 (idx := 23) (ci := 12) (k := 4) (by decide +kernel : 234 < 283 ∧ SHF 234 = (12, 76)) (by decide +kernel)).trans ?_
  refine (ry_v2 (idx := 251) (m' := 183) (ci := 12) (by decide +kernel : 234 < 283 ∧ SHF 234 = (12, 76)) (by simp [pm_wl_n, pm_wl_c, pm_w] : pm_wl [] ≤ 8) (by decide +kernel)).trans ?_
  exact Iff.rfl
theorem r195_30 {d : Nat} {X : Nat × (Nat → Int)} {v : Nat → Int} {M : PH} {K : PV → PS → Prop} {l1 l2 : Int} (h1 : inR (M 234 8)) : pm_Run d 195 30 [vA 234, vI l1, vI l2] [] (GF X, M, PTF v) K ↔ if M 234 8 ≠ 0 then pm_Run d 195 58 [vA 234, vI l1, vI l2] [] (GF X, M, PTF v) K else pm_Run d 195 37 [vA 234, vI l1, vI l2] [] (GF X, M, PTF v) K := by
  refine (px_go (by decide +kernel : pm_fe 195 30 = some (.aload_n 0, 1)) rfl).trans ?_
  refine (ry_get0 (idx := 36) (ci := 12) (k := 8) (by decide +kernel : 234 < 283 ∧ SHF 234 = (12, 76)) (by decide +kernel)).trans ?_
  refine (ry_if_ne (off := 24) (tgt := 58) h1 (by decide +kernel)).trans ?_
  exact Iff.rfl
theorem r195_37 {d : Nat} {X : Nat × (Nat → Int)} {v : Nat → Int} {M : PH} {K : PV → PS → Prop} {l1 l2 : Int} : pm_Run d 195 37 [vA 234, vI l1, vI l2] [] (GF X, M, PTF v) K ↔ pm_Call d 179 [vI (M 234 6), vI l1, vI l2] (GF X, M, PTF v) (fun r9 S1 => pm_Run d 195 46 [vA 234, vI l1, vI l2] (pm_push r9 []) S1 K) := by
  refine (px_go (by decide +kernel : pm_fe 195 37 = some (.aload_n 0, 1)) rfl).trans ?_
  refine (ry_get0 (idx := 29) (ci := 12) (k := 6) (by decide +kernel : 234 < 283 ∧ SHF 234 = (12, 76)) (by decide +kernel)).trans ?_
  refine (px_go (by decide +kernel : pm_fe 195 41 = some (.iload_n 1, 1)) rfl).trans ?_
  refine (px_go (by decide +kernel : pm_fe 195 42 = some (.iload_n 2, 1)) rfl).trans ?_
  refine (px_s3 (idx := 337) (m' := 179) (nest := 0) (by decide +kernel)).trans ((and_iff_right (by simp [pm_wl_n, pm_wl_c, pm_w] : pm_wl [] ≤ 8)).trans ?_)
  exact Iff.rfl
theorem r195_46 {d : Nat} {X : Nat × (Nat → Int)} {v : Nat → Int} {M : PH} {K : PV → PS → Prop} {l1 l2 s0 : Int} (h1 : inR s0) : pm_Run d 195 46 [vA 234, vI l1, vI l2] [vI s0] (GF X, M, PTF v) K ↔ if s0 ≠ 0 then pm_Run d 195 58 [vA 234, vI l1, vI l2] [] (GF X, M, PTF v) K else pm_Run d 195 49 [vA 234, vI l1, vI l2] [] (GF X, M, PTF v) K := by
  refine (ry_if_ne (off := 12) (tgt := 58) h1 (by decide +kernel)).trans ?_
  exact Iff.rfl
theorem r195_49 {d : Nat} {X : Nat × (Nat → Int)} {v : Nat → Int} {M : PH} {K : PV → PS → Prop} {l1 l2 : Int} : pm_Run d 195 49 [vA 234, vI l1, vI l2] [] (GF X, M, PTF v) K ↔ pm_Call d 183 [vA 234, vI 4, vI (M 234 4)] (GF X, M, PTF v) (fun r9 S1 => pm_Run d 195 58 [vA 234, vI l1, vI l2] (pm_push r9 []) S1 K) := by
  refine (px_go (by decide +kernel : pm_fe 195 49 = some (.aload_n 0, 1)) rfl).trans ?_
  refine (px_go (by decide +kernel : pm_fe 195 50 = some (.iconst 4, 1)) rfl).trans ?_
  refine (px_go (by decide +kernel : pm_fe 195 51 = some (.aload_n 0, 1)) rfl).trans ?_
  refine (ry_get0 (idx := 23) (ci := 12) (k := 4) (by decide +kernel : 234 < 283 ∧ SHF 234 = (12, 76)) (by decide +kernel)).trans ?_
  refine (ry_v2 (idx := 251) (m' := 183) (ci := 12) (by decide +kernel : 234 < 283 ∧ SHF 234 = (12, 76)) (by simp [pm_wl_n, pm_wl_c, pm_w] : pm_wl [] ≤ 8) (by decide +kernel)).trans ?_
  exact Iff.rfl
theorem r195_58 {d : Nat} {X : Nat × (Nat → Int)} {v : Nat → Int} {M : PH} {K : PV → PS → Prop} {l1 l2 : Int} (h1 : inR (M 234 8)) : pm_Run d 195 58 [vA 234, vI l1, vI l2] [] (GF X, M, PTF v) K ↔ if M 234 8 ≤ 0 then pm_Run d 195 69 [vA 234, vI l1, vI l2] [] (GF X, M, PTF v) K else pm_Run d 195 65 [vA 234, vI l1, vI l2] [] (GF X, M, PTF v) K := by
  refine (px_go (by decide +kernel : pm_fe 195 58 = some (.aload_n 0, 1)) rfl).trans ?_
  refine (ry_get0 (idx := 36) (ci := 12) (k := 8) (by decide +kernel : 234 < 283 ∧ SHF 234 = (12, 76)) (by decide +kernel)).trans ?_
  refine (ry_if_le (off := 7) (tgt := 69) h1 (by decide +kernel)).trans ?_
  exact Iff.rfl
theorem r195_65 {d : Nat} {X : Nat × (Nat → Int)} {v : Nat → Int} {M : PH} {K : PV → PS → Prop} {l1 l2 : Int} : pm_Run d 195 65 [vA 234, vI l1, vI l2] [] (GF X, M, PTF v) K ↔ pm_Run d 195 73 [vA 234, vI l1, vI l2] [vI 0] (GF X, M, PTF v) K := by
  refine (px_go (by decide +kernel : pm_fe 195 65 = some (.iconst 0, 1)) rfl).trans ?_
  refine (px_goto (off := 7) (tgt := 73) (by decide +kernel)).trans ?_
  exact Iff.rfl
theorem r195_69 {d : Nat} {X : Nat × (Nat → Int)} {v : Nat → Int} {M : PH} {K : PV → PS → Prop} {l1 l2 : Int} : pm_Run d 195 69 [vA 234, vI l1, vI l2] [] (GF X, M, PTF v) K ↔ pm_Run d 195 73 [vA 234, vI l1, vI l2] [vI (M 234 6)] (GF X, M, PTF v) K := by
  refine (px_go (by decide +kernel : pm_fe 195 69 = some (.aload_n 0, 1)) rfl).trans ?_
  refine (ry_get0 (idx := 29) (ci := 12) (k := 6) (by decide +kernel : 234 < 283 ∧ SHF 234 = (12, 76)) (by decide +kernel)).trans ?_
  exact Iff.rfl
theorem r195_73 {d : Nat} {X : Nat × (Nat → Int)} {v : Nat → Int} {M : PH} {K : PV → PS → Prop} {l1 l2 s0 : Int} : pm_Run d 195 73 [vA 234, vI l1, vI l2] [vI s0] (GF X, M, PTF v) K ↔ K (vI s0) (GF X, M, PTF v) := by
  refine (px_ri (by decide +kernel)).trans ?_
  exact Iff.rfl
-- X12_number number(II)I
theorem r196_0 {d : Nat} {X : Nat × (Nat → Int)} {v : Nat → Int} {M : PH} {K : PV → PS → Prop} {l1 l2 : Int} : pm_Run d 196 0 [vA 234, vI l1, vI l2, PU] [] (GF X, M, PTF v) K ↔ pm_Call d 195 [vA 234, vI l1, vI l2] (GF X, M, PTF v) (fun r9 S1 => pm_Run d 196 6 [vA 234, vI l1, vI l2, PU] (pm_push r9 []) S1 K) := by
  refine (px_go (by decide +kernel : pm_fe 196 0 = some (.aload_n 0, 1)) rfl).trans ?_
  refine (px_go (by decide +kernel : pm_fe 196 1 = some (.iload_n 1, 1)) rfl).trans ?_
  refine (px_go (by decide +kernel : pm_fe 196 2 = some (.iload_n 2, 1)) rfl).trans ?_
  refine (ry_v2 (idx := 341) (m' := 195) (ci := 12) (by decide +kernel : 234 < 283 ∧ SHF 234 = (12, 76)) (by simp [pm_wl_n, pm_wl_c, pm_w] : pm_wl [] ≤ 8) (by decide +kernel)).trans ?_
  exact Iff.rfl
theorem r196_6 {d : Nat} {X : Nat × (Nat → Int)} {v : Nat → Int} {M : PH} {K : PV → PS → Prop} {l1 l2 s0 : Int} (h1 : inR (M 234 8)) : pm_Run d 196 6 [vA 234, vI l1, vI l2, PU] [vI s0] (GF X, M, PTF v) K ↔ if M 234 8 ≠ 0 then pm_Run d 196 18 [vA 234, vI l1, vI l2, vI s0] [] (GF X, M, PTF v) K else pm_Run d 196 14 [vA 234, vI l1, vI l2, vI s0] [] (GF X, M, PTF v) K := by
  refine (px_go (by decide +kernel : pm_fe 196 6 = some (.istore_n 3, 1)) rfl).trans ?_
  refine (px_go (by decide +kernel : pm_fe 196 7 = some (.aload_n 0, 1)) rfl).trans ?_
  refine (ry_get0 (idx := 36) (ci := 12) (k := 8) (by decide +kernel : 234 < 283 ∧ SHF 234 = (12, 76)) (by decide +kernel)).trans ?_
  refine (ry_if_ne (off := 7) (tgt := 18) h1 (by decide +kernel)).trans ?_
  exact Iff.rfl
theorem r196_14 {d : Nat} {X : Nat × (Nat → Int)} {v : Nat → Int} {M : PH} {K : PV → PS → Prop} {l1 l2 l3 : Int} : pm_Run d 196 14 [vA 234, vI l1, vI l2, vI l3] [] (GF X, M, PTF v) K ↔ pm_Call d 187 [vA 234] (GF X, M, PTF v) (fun r9 S1 => pm_Run d 196 18 [vA 234, vI l1, vI l2, vI l3] (pm_push r9 []) S1 K) := by
  refine (px_go (by decide +kernel : pm_fe 196 14 = some (.aload_n 0, 1)) rfl).trans ?_
  refine (ry_v0 (idx := 268) (m' := 187) (ci := 12) (by decide +kernel : 234 < 283 ∧ SHF 234 = (12, 76)) (by simp [pm_wl_n, pm_wl_c, pm_w] : pm_wl [] ≤ 8) (by decide +kernel)).trans ?_
  exact Iff.rfl
theorem r196_18 {d : Nat} {X : Nat × (Nat → Int)} {v : Nat → Int} {M : PH} {K : PV → PS → Prop} {l1 l2 l3 : Int} : pm_Run d 196 18 [vA 234, vI l1, vI l2, vI l3] [] (GF X, M, PTF v) K ↔ K (vI l3) (GF X, M, PTF v) := by
  refine (px_go (by decide +kernel : pm_fe 196 18 = some (.iload_n 3, 1)) rfl).trans ?_
  refine (px_ri (by decide +kernel)).trans ?_
  exact Iff.rfl
-- X12_add add(II)V
theorem r197_0 {d : Nat} {X : Nat × (Nat → Int)} {v : Nat → Int} {M : PH} {K : PV → PS → Prop} {l1 l2 : Int} (h1 : 0 ≤ ((1600 * (M 234 42)) + (M 234 41))) (h2 : ((1600 * (M 234 42)) + (M 234 41)) < 3200) : pm_Run d 197 0 [vA 234, vI l1, vI l2] [] (GF X, M, PTF v) K ↔ pm_Run d 197 19 [vA 234, vI l1, vI l2] [] (GF X, pm_sa M 259 (pm_up (M 259) ((1600 * (M 234 42)) + (M 234 41)).toNat l1), PTF v) K := by
  refine (px_go (by decide +kernel : pm_fe 197 0 = some (.aload_n 0, 1)) rfl).trans ?_
  refine (ry_get2 (idx := 123) (ci := 12) (k := 37) (by decide +kernel : 234 < 283 ∧ SHF 234 = (12, 76)) (ptf_l (a := 234) (k := 37) (n := 259) (by decide +kernel)) (by decide +kernel)).trans ?_
  refine (px_go (by decide +kernel : pm_fe 197 4 = some (.sipush 1600, 3)) rfl).trans ?_
  refine (px_go (by decide +kernel : pm_fe 197 7 = some (.aload_n 0, 1)) rfl).trans ?_
  refine (ry_get0 (idx := 139) (ci := 12) (k := 42) (by decide +kernel : 234 < 283 ∧ SHF 234 = (12, 76)) (by decide +kernel)).trans ?_
  refine (px_go (by decide +kernel : pm_fe 197 11 = some (.imul, 1)) rfl).trans ?_
  refine (px_go (by decide +kernel : pm_fe 197 12 = some (.aload_n 0, 1)) rfl).trans ?_
  refine (ry_get0 (idx := 136) (ci := 12) (k := 41) (by decide +kernel : 234 < 283 ∧ SHF 234 = (12, 76)) (by decide +kernel)).trans ?_
  refine (px_go (by decide +kernel : pm_fe 197 16 = some (.iadd, 1)) rfl).trans ?_
  refine (px_go (by decide +kernel : pm_fe 197 17 = some (.iload_n 1, 1)) rfl).trans ?_
  refine (ry_iast (by decide +kernel : 259 < 283 ∧ SHF 259 = (100, 3200)) h1 h2 (by decide +kernel)).trans ?_
  exact Iff.rfl
theorem r197_19 {d : Nat} {X : Nat × (Nat → Int)} {v : Nat → Int} {M : PH} {K : PV → PS → Prop} {l1 l2 : Int} (h1 : 0 ≤ ((1600 * (M 234 42)) + (M 234 41))) (h2 : ((1600 * (M 234 42)) + (M 234 41)) < 3200) : pm_Run d 197 19 [vA 234, vI l1, vI l2] [] (GF X, M, PTF v) K ↔ pm_Run d 197 38 [vA 234, vI l1, vI l2] [] (GF X, pm_sa M 260 (pm_up (M 260) ((1600 * (M 234 42)) + (M 234 41)).toNat l2), PTF v) K := by
  refine (px_go (by decide +kernel : pm_fe 197 19 = some (.aload_n 0, 1)) rfl).trans ?_
  refine (ry_get2 (idx := 126) (ci := 12) (k := 38) (by decide +kernel : 234 < 283 ∧ SHF 234 = (12, 76)) (ptf_l (a := 234) (k := 38) (n := 260) (by decide +kernel)) (by decide +kernel)).trans ?_
  refine (px_go (by decide +kernel : pm_fe 197 23 = some (.sipush 1600, 3)) rfl).trans ?_
  refine (px_go (by decide +kernel : pm_fe 197 26 = some (.aload_n 0, 1)) rfl).trans ?_
  refine (ry_get0 (idx := 139) (ci := 12) (k := 42) (by decide +kernel : 234 < 283 ∧ SHF 234 = (12, 76)) (by decide +kernel)).trans ?_
  refine (px_go (by decide +kernel : pm_fe 197 30 = some (.imul, 1)) rfl).trans ?_
  refine (px_go (by decide +kernel : pm_fe 197 31 = some (.aload_n 0, 1)) rfl).trans ?_
  refine (ry_get0 (idx := 136) (ci := 12) (k := 41) (by decide +kernel : 234 < 283 ∧ SHF 234 = (12, 76)) (by decide +kernel)).trans ?_
  refine (px_go (by decide +kernel : pm_fe 197 35 = some (.iadd, 1)) rfl).trans ?_
  refine (px_go (by decide +kernel : pm_fe 197 36 = some (.iload_n 2, 1)) rfl).trans ?_
  refine (ry_iast (by decide +kernel : 260 < 283 ∧ SHF 260 = (100, 3200)) h1 h2 (by decide +kernel)).trans ?_
  exact Iff.rfl
theorem r197_38 {d : Nat} {X : Nat × (Nat → Int)} {v : Nat → Int} {M : PH} {K : PV → PS → Prop} {l1 l2 : Int} : pm_Run d 197 38 [vA 234, vI l1, vI l2] [] (GF X, M, PTF v) K ↔ K PU (GF X, pm_sa M 234 (pm_up (M 234) 41 ((M 234 41) + 1)), PTF v) := by
  refine (px_go (by decide +kernel : pm_fe 197 38 = some (.aload_n 0, 1)) rfl).trans ?_
  refine (px_go (by decide +kernel : pm_fe 197 39 = some (.dup, 1)) rfl).trans ?_
  refine (ry_get0 (idx := 136) (ci := 12) (k := 41) (by decide +kernel : 234 < 283 ∧ SHF 234 = (12, 76)) (by decide +kernel)).trans ?_
  refine (px_go (by decide +kernel : pm_fe 197 43 = some (.iconst 1, 1)) rfl).trans ?_
  refine (px_go (by decide +kernel : pm_fe 197 44 = some (.iadd, 1)) rfl).trans ?_
  refine (ry_put0 (idx := 136) (ci := 12) (k := 41) (by decide +kernel : 234 < 283 ∧ SHF 234 = (12, 76)) (by decide +kernel)).trans ?_
  refine (px_rv (by decide +kernel)).trans ?_
  exact Iff.rfl
-- X12_rank rank(I)I
theorem r198_0 {d : Nat} {X : Nat × (Nat → Int)} {v : Nat → Int} {M : PH} {K : PV → PS → Prop} {l0 : Int} (h1 : inR l0) : pm_Run d 198 0 [vI l0] [] (GF X, M, PTF v) K ↔ if l0 ≠ 21 then pm_Run d 198 10 [vI l0] [] (GF X, M, PTF v) K else pm_Run d 198 6 [vI l0] [] (GF X, M, PTF v) K := by
  refine (px_go (by decide +kernel : pm_fe 198 0 = some (.iload_n 0, 1)) rfl).trans ?_
  refine (px_go (by decide +kernel : pm_fe 198 1 = some (.bipush 21, 2)) rfl).trans ?_
  refine (ry_ic_ne (off := 7) (tgt := 10) h1 (by decide : (-2147483648 ≤ (21 : Int) ∧ (21 : Int) < 2147483648)) (by decide +kernel)).trans ?_
  exact Iff.rfl
theorem r198_6 {d : Nat} {X : Nat × (Nat → Int)} {v : Nat → Int} {M : PH} {K : PV → PS → Prop} {l0 : Int} : pm_Run d 198 6 [vI l0] [] (GF X, M, PTF v) K ↔ pm_Run d 198 70 [vI l0] [vI 1] (GF X, M, PTF v) K := by
  refine (px_go (by decide +kernel : pm_fe 198 6 = some (.iconst 1, 1)) rfl).trans ?_
  refine (px_goto (off := 63) (tgt := 70) (by decide +kernel)).trans ?_
  exact Iff.rfl
theorem r198_10 {d : Nat} {X : Nat × (Nat → Int)} {v : Nat → Int} {M : PH} {K : PV → PS → Prop} {l0 : Int} (h1 : inR l0) : pm_Run d 198 10 [vI l0] [] (GF X, M, PTF v) K ↔ if l0 ≠ 20 then pm_Run d 198 20 [vI l0] [] (GF X, M, PTF v) K else pm_Run d 198 16 [vI l0] [] (GF X, M, PTF v) K := by
  refine (px_go (by decide +kernel : pm_fe 198 10 = some (.iload_n 0, 1)) rfl).trans ?_
  refine (px_go (by decide +kernel : pm_fe 198 11 = some (.bipush 20, 2)) rfl).trans ?_
  refine (ry_ic_ne (off := 7) (tgt := 20) h1 (by decide : (-2147483648 ≤ (20 : Int) ∧ (20 : Int) < 2147483648)) (by decide +kernel)).trans ?_
  exact Iff.rfl
theorem r198_16 {d : Nat} {X : Nat × (Nat → Int)} {v : Nat → Int} {M : PH} {K : PV → PS → Prop} {l0 : Int} : pm_Run d 198 16 [vI l0] [] (GF X, M, PTF v) K ↔ pm_Run d 198 70 [vI l0] [vI 2] (GF X, M, PTF v) K := by
  refine (px_go (by decide +kernel : pm_fe 198 16 = some (.iconst 2, 1)) rfl).trans ?_
  refine (px_goto (off := 53) (tgt := 70) (by decide +kernel)).trans ?_
  exact Iff.rfl
theorem r198_20 {d : Nat} {X : Nat × (Nat → Int)} {v : Nat → Int} {M : PH} {K : PV → PS → Prop} {l0 : Int} (h1 : inR l0) : pm_Run d 198 20 [vI l0] [] (GF X, M, PTF v) K ↔ if l0 ≠ 22 then pm_Run d 198 30 [vI l0] [] (GF X, M, PTF v) K else pm_Run d 198 26 [vI l0] [] (GF X, M, PTF v) K := by
  refine (px_go (by decide +kernel : pm_fe 198 20 = some (.iload_n 0, 1)) rfl).trans ?_
  refine (px_go (by decide +kernel : pm_fe 198 21 = some (.bipush 22, 2)) rfl).trans ?_
  refine (ry_ic_ne (off := 7) (tgt := 30) h1 (by decide : (-2147483648 ≤ (22 : Int) ∧ (22 : Int) < 2147483648)) (by decide +kernel)).trans ?_
  exact Iff.rfl
theorem r198_26 {d : Nat} {X : Nat × (Nat → Int)} {v : Nat → Int} {M : PH} {K : PV → PS → Prop} {l0 : Int} : pm_Run d 198 26 [vI l0] [] (GF X, M, PTF v) K ↔ pm_Run d 198 70 [vI l0] [vI 3] (GF X, M, PTF v) K := by
  refine (px_go (by decide +kernel : pm_fe 198 26 = some (.iconst 3, 1)) rfl).trans ?_
  refine (px_goto (off := 43) (tgt := 70) (by decide +kernel)).trans ?_
  exact Iff.rfl
theorem r198_30 {d : Nat} {X : Nat × (Nat → Int)} {v : Nat → Int} {M : PH} {K : PV → PS → Prop} {l0 : Int} (h1 : inR l0) : pm_Run d 198 30 [vI l0] [] (GF X, M, PTF v) K ↔ if l0 = 17 then pm_Run d 198 48 [vI l0] [] (GF X, M, PTF v) K else pm_Run d 198 36 [vI l0] [] (GF X, M, PTF v) K := by
  refine (px_go (by decide +kernel : pm_fe 198 30 = some (.iload_n 0, 1)) rfl).trans ?_
  refine (px_go (by decide +kernel : pm_fe 198 31 = some (.bipush 17, 2)) rfl).trans ?_
  refine (ry_ic_eq (off := 15) (tgt := 48) h1 (by decide : (-2147483648 ≤ (17 : Int) ∧ (17 : Int) < 2147483648)) (by decide +kernel)).trans ?_
  exact Iff.rfl
theorem r198_36 {d : Nat} {X : Nat × (Nat → Int)} {v : Nat → Int} {M : PH} {K : PV → PS → Prop} {l0 : Int} (h1 : inR l0) : pm_Run d 198 36 [vI l0] [] (GF X, M, PTF v) K ↔ if l0 = 18 then pm_Run d 198 48 [vI l0] [] (GF X, M, PTF v) K else pm_Run d 198 42 [vI l0] [] (GF X, M, PTF v) K := by
  refine (px_go (by decide +kernel : pm_fe 198 36 = some (.iload_n 0, 1)) rfl).trans ?_
  refine (px_go (by decide +kernel : pm_fe 198 37 = some (.bipush 18, 2)) rfl).trans ?_
  refine (ry_ic_eq (off := 9) (tgt := 48) h1 (by decide : (-2147483648 ≤ (18 : Int) ∧ (18 : Int) < 2147483648)) (by decide +kernel)).trans ?_
  exact Iff.rfl
theorem r198_42 {d : Nat} {X : Nat × (Nat → Int)} {v : Nat → Int} {M : PH} {K : PV → PS → Prop} {l0 : Int} (h1 : inR l0) : pm_Run d 198 42 [vI l0] [] (GF X, M, PTF v) K ↔ if l0 ≠ 19 then pm_Run d 198 52 [vI l0] [] (GF X, M, PTF v) K else pm_Run d 198 48 [vI l0] [] (GF X, M, PTF v) K := by
  refine (px_go (by decide +kernel : pm_fe 198 42 = some (.iload_n 0, 1)) rfl).trans ?_
  refine (px_go (by decide +kernel : pm_fe 198 43 = some (.bipush 19, 2)) rfl).trans ?_
  refine (ry_ic_ne (off := 7) (tgt := 52) h1 (by decide : (-2147483648 ≤ (19 : Int) ∧ (19 : Int) < 2147483648)) (by decide +kernel)).trans ?_
  exact Iff.rfl
theorem r198_48 {d : Nat} {X : Nat × (Nat → Int)} {v : Nat → Int} {M : PH} {K : PV → PS → Prop} {l0 : Int} : pm_Run d 198 48 [vI l0] [] (GF X, M, PTF v) K ↔ pm_Run d 198 70 [vI l0] [vI 4] (GF X, M, PTF v) K := by
  refine (px_go (by decide +kernel : pm_fe 198 48 = some (.iconst 4, 1)) rfl).trans ?_
  refine (px_goto (off := 21) (tgt := 70) (by decide +kernel)).trans ?_
  exact Iff.rfl
theorem r198_52 {d : Nat} {X : Nat × (Nat → Int)} {v : Nat → Int} {M : PH} {K : PV → PS → Prop} {l0 : Int} (h1 : inR l0) : pm_Run d 198 52 [vI l0] [] (GF X, M, PTF v) K ↔ if l0 = 10 then pm_Run d 198 64 [vI l0] [] (GF X, M, PTF v) K else pm_Run d 198 58 [vI l0] [] (GF X, M, PTF v) K := by
  refine (px_go (by decide +kernel : pm_fe 198 52 = some (.iload_n 0, 1)) rfl).trans ?_
  refine (px_go (by decide +kernel : pm_fe 198 53 = some (.bipush 10, 2)) rfl).trans ?_
  refine (ry_ic_eq (off := 9) (tgt := 64) h1 (by decide : (-2147483648 ≤ (10 : Int) ∧ (10 : Int) < 2147483648)) (by decide +kernel)).trans ?_
  exact Iff.rfl
theorem r198_58 {d : Nat} {X : Nat × (Nat → Int)} {v : Nat → Int} {M : PH} {K : PV → PS → Prop} {l0 : Int} (h1 : inR l0) : pm_Run d 198 58 [vI l0] [] (GF X, M, PTF v) K ↔ if l0 ≠ 11 then pm_Run d 198 68 [vI l0] [] (GF X, M, PTF v) K else pm_Run d 198 64 [vI l0] [] (GF X, M, PTF v) K := by
  refine (px_go (by decide +kernel : pm_fe 198 58 = some (.iload_n 0, 1)) rfl).trans ?_
  refine (px_go (by decide +kernel : pm_fe 198 59 = some (.bipush 11, 2)) rfl).trans ?_
  refine (ry_ic_ne (off := 7) (tgt := 68) h1 (by decide : (-2147483648 ≤ (11 : Int) ∧ (11 : Int) < 2147483648)) (by decide +kernel)).trans ?_
  exact Iff.rfl
theorem r198_64 {d : Nat} {X : Nat × (Nat → Int)} {v : Nat → Int} {M : PH} {K : PV → PS → Prop} {l0 : Int} : pm_Run d 198 64 [vI l0] [] (GF X, M, PTF v) K ↔ pm_Run d 198 70 [vI l0] [vI 5] (GF X, M, PTF v) K := by
  refine (px_go (by decide +kernel : pm_fe 198 64 = some (.iconst 5, 1)) rfl).trans ?_
  refine (px_goto (off := 5) (tgt := 70) (by decide +kernel)).trans ?_
  exact Iff.rfl
theorem r198_68 {d : Nat} {X : Nat × (Nat → Int)} {v : Nat → Int} {M : PH} {K : PV → PS → Prop} {l0 : Int} : pm_Run d 198 68 [vI l0] [] (GF X, M, PTF v) K ↔ pm_Run d 198 70 [vI l0] [vI 6] (GF X, M, PTF v) K := by
  refine (px_go (by decide +kernel : pm_fe 198 68 = some (.bipush 6, 2)) rfl).trans ?_
  exact Iff.rfl
theorem r198_70 {d : Nat} {X : Nat × (Nat → Int)} {v : Nat → Int} {M : PH} {K : PV → PS → Prop} {l0 s0 : Int} : pm_Run d 198 70 [vI l0] [vI s0] (GF X, M, PTF v) K ↔ K (vI s0) (GF X, M, PTF v) := by
  refine (px_ri (by decide +kernel)).trans ?_
  exact Iff.rfl
-- X12_joins joins(I)V
theorem r199_0 {d : Nat} {X : Nat × (Nat → Int)} {v : Nat → Int} {M : PH} {K : PV → PS → Prop} {l1 : Int} (h1 : 0 ≤ ((M 234 48) - 1)) (h2 : ((M 234 48) - 1) < 20) (h3 : inR (M 234 51)) (h4 : inR (M 267 ((M 234 48) - 1).toNat)) : pm_Run d 199 0 [vA 234, vI l1] [] (GF X, M, PTF v) K ↔ if M 234 51 ≤ M 267 ((M 234 48) - 1).toNat then pm_Run d 199 87 [vA 234, vI l1] [] (GF X, M, PTF v) K else pm_Run d 199 18 [vA 234, vI l1] [] (GF X, M, PTF v) K := by
  refine (px_go (by decide +kernel : pm_fe 199 0 = some (.aload_n 0, 1)) rfl).trans ?_
  refine (ry_get0 (idx := 167) (ci := 12) (k := 51) (by decide +kernel : 234 < 283 ∧ SHF 234 = (12, 76)) (by decide +kernel)).trans ?_
  refine (px_go (by decide +kernel : pm_fe 199 4 = some (.aload_n 0, 1)) rfl).trans ?_
  refine (ry_get2 (idx := 155) (ci := 12) (k := 47) (by decide +kernel : 234 < 283 ∧ SHF 234 = (12, 76)) (ptf_l (a := 234) (k := 47) (n := 267) (by decide +kernel)) (by decide +kernel)).trans ?_
  refine (px_go (by decide +kernel : pm_fe 199 8 = some (.aload_n 0, 1)) rfl).trans ?_
  refine (ry_get0 (idx := 158) (ci := 12) (k := 48) (by decide +kernel : 234 < 283 ∧ SHF 234 = (12, 76)) (by decide +kernel)).trans ?_
  refine (px_go (by decide +kernel : pm_fe 199 12 = some (.iconst 1, 1)) rfl).trans ?_
  refine (px_go (by decide +kernel : pm_fe 199 13 = some (.isub, 1)) rfl).trans ?_
  refine (ry_iald (by decide +kernel : 267 < 283 ∧ SHF 267 = (100, 20)) h1 h2 (by decide +kernel)).trans ?_
  refine (ry_ic_le (off := 72) (tgt := 87) h3 h4 (by decide +kernel)).trans ?_
  exact Iff.rfl
theorem r199_18 {d : Nat} {X : Nat × (Nat → Int)} {v : Nat → Int} {M : PH} {K : PV → PS → Prop} {l1 : Int} (h1 : 0 ≤ ((M 234 51) - 1)) (h2 : ((M 234 51) - 1) < 500) : pm_Run d 199 18 [vA 234, vI l1] [] (GF X, M, PTF v) K ↔ pm_Call d 198 [vI (M 268 ((M 234 51) - 1).toNat)] (GF X, M, PTF v) (fun r9 S1 => pm_Run d 199 32 [vA 234, vI l1] (pm_push r9 []) S1 K) := by
  refine (px_go (by decide +kernel : pm_fe 199 18 = some (.aload_n 0, 1)) rfl).trans ?_
  refine (ry_get2 (idx := 164) (ci := 12) (k := 50) (by decide +kernel : 234 < 283 ∧ SHF 234 = (12, 76)) (ptf_l (a := 234) (k := 50) (n := 268) (by decide +kernel)) (by decide +kernel)).trans ?_
  refine (px_go (by decide +kernel : pm_fe 199 22 = some (.aload_n 0, 1)) rfl).trans ?_
  refine (ry_get0 (idx := 167) (ci := 12) (k := 51) (by decide +kernel : 234 < 283 ∧ SHF 234 = (12, 76)) (by decide +kernel)).trans ?_
  refine (px_go (by decide +kernel : pm_fe 199 26 = some (.iconst 1, 1)) rfl).trans ?_
  refine (px_go (by decide +kernel : pm_fe 199 27 = some (.isub, 1)) rfl).trans ?_
  refine (ry_iald (by decide +kernel : 268 < 283 ∧ SHF 268 = (100, 500)) h1 h2 (by decide +kernel)).trans ?_
  refine (px_s1 (idx := 344) (m' := 198) (nest := 0) (by decide +kernel)).trans ((and_iff_right (by simp [pm_wl_n, pm_wl_c, pm_w] : pm_wl [] ≤ 8)).trans ?_)
  exact Iff.rfl
theorem r199_32 {d : Nat} {X : Nat × (Nat → Int)} {v : Nat → Int} {M : PH} {K : PV → PS → Prop} {l1 s0 : Int} (h1 : inR s0) (h2 : inR l1) : pm_Run d 199 32 [vA 234, vI l1] [vI s0] (GF X, M, PTF v) K ↔ if s0 < l1 then pm_Run d 199 87 [vA 234, vI l1] [] (GF X, M, PTF v) K else pm_Run d 199 36 [vA 234, vI l1] [] (GF X, M, PTF v) K := by
  refine (px_go (by decide +kernel : pm_fe 199 32 = some (.iload_n 1, 1)) rfl).trans ?_
  refine (ry_ic_lt (off := 54) (tgt := 87) h1 h2 (by decide +kernel)).trans ?_
  exact Iff.rfl
theorem r199_36 {d : Nat} {X : Nat × (Nat → Int)} {v : Nat → Int} {M : PH} {K : PV → PS → Prop} {l1 : Int} : pm_Run d 199 36 [vA 234, vI l1] [] (GF X, M, PTF v) K ↔ pm_Run d 199 46 [vA 234, vI l1] [] (GF X, pm_sa M 234 (pm_up (M 234) 51 ((M 234 51) - 1)), PTF v) K := by
  refine (px_go (by decide +kernel : pm_fe 199 36 = some (.aload_n 0, 1)) rfl).trans ?_
  refine (px_go (by decide +kernel : pm_fe 199 37 = some (.dup, 1)) rfl).trans ?_
  refine (ry_get0 (idx := 167) (ci := 12) (k := 51) (by decide +kernel : 234 < 283 ∧ SHF 234 = (12, 76)) (by decide +kernel)).trans ?_
  refine (px_go (by decide +kernel : pm_fe 199 41 = some (.iconst 1, 1)) rfl).trans ?_
  refine (px_go (by decide +kernel : pm_fe 199 42 = some (.isub, 1)) rfl).trans ?_
  refine (ry_put0 (idx := 167) (ci := 12) (k := 51) (by decide +kernel : 234 < 283 ∧ SHF 234 = (12, 76)) (by decide +kernel)).trans ?_
  exact Iff.rfl
theorem r199_46 {d : Nat} {X : Nat × (Nat → Int)} {v : Nat → Int} {M : PH} {K : PV → PS → Prop} {l1 : Int} (h1 : 0 ≤ (M 234 51)) (h2 : (M 234 51) < 500) : pm_Run d 199 46 [vA 234, vI l1] [] (GF X, M, PTF v) K ↔ pm_Call d 197 [vA 234, vI (M 268 (M 234 51).toNat), vI 0] (GF X, M, PTF v) (fun r9 S1 => pm_Run d 199 60 [vA 234, vI l1] (pm_push r9 []) S1 K) := by
  refine (px_go (by decide +kernel : pm_fe 199 46 = some (.aload_n 0, 1)) rfl).trans ?_
  refine (px_go (by decide +kernel : pm_fe 199 47 = some (.aload_n 0, 1)) rfl).trans ?_
  refine (ry_get2 (idx := 164) (ci := 12) (k := 50) (by decide +kernel : 234 < 283 ∧ SHF 234 = (12, 76)) (ptf_l (a := 234) (k := 50) (n := 268) (by decide +kernel)) (by decide +kernel)).trans ?_
  refine (px_go (by decide +kernel : pm_fe 199 51 = some (.aload_n 0, 1)) rfl).trans ?_
  refine (ry_get0 (idx := 167) (ci := 12) (k := 51) (by decide +kernel : 234 < 283 ∧ SHF 234 = (12, 76)) (by decide +kernel)).trans ?_
  refine (ry_iald (by decide +kernel : 268 < 283 ∧ SHF 268 = (100, 500)) h1 h2 (by decide +kernel)).trans ?_
  refine (px_go (by decide +kernel : pm_fe 199 56 = some (.iconst 0, 1)) rfl).trans ?_
  refine (ry_v2 (idx := 347) (m' := 197) (ci := 12) (by decide +kernel : 234 < 283 ∧ SHF 234 = (12, 76)) (by simp [pm_wl_n, pm_wl_c, pm_w] : pm_wl [] ≤ 8) (by decide +kernel)).trans ?_
  exact Iff.rfl
theorem r199_60 {d : Nat} {X : Nat × (Nat → Int)} {v : Nat → Int} {M : PH} {K : PV → PS → Prop} {l1 : Int} (h1 : 0 ≤ (M 234 51)) (h2 : (M 234 51) < 500) (h3 : inR (M 268 (M 234 51).toNat)) : pm_Run d 199 60 [vA 234, vI l1] [] (GF X, M, PTF v) K ↔ if M 268 (M 234 51).toNat ≠ 22 then pm_Run d 199 0 [vA 234, vI l1] [] (GF X, M, PTF v) K else pm_Run d 199 74 [vA 234, vI l1] [] (GF X, M, PTF v) K := by
  refine (px_go (by decide +kernel : pm_fe 199 60 = some (.aload_n 0, 1)) rfl).trans ?_
  refine (ry_get2 (idx := 164) (ci := 12) (k := 50) (by decide +kernel : 234 < 283 ∧ SHF 234 = (12, 76)) (ptf_l (a := 234) (k := 50) (n := 268) (by decide +kernel)) (by decide +kernel)).trans ?_
  refine (px_go (by decide +kernel : pm_fe 199 64 = some (.aload_n 0, 1)) rfl).trans ?_
  refine (ry_get0 (idx := 167) (ci := 12) (k := 51) (by decide +kernel : 234 < 283 ∧ SHF 234 = (12, 76)) (by decide +kernel)).trans ?_
  refine (ry_iald (by decide +kernel : 268 < 283 ∧ SHF 268 = (100, 500)) h1 h2 (by decide +kernel)).trans ?_
  refine (px_go (by decide +kernel : pm_fe 199 69 = some (.bipush 22, 2)) rfl).trans ?_
  refine (ry_ic_ne (off := (-71)) (tgt := 0) h3 (by decide : (-2147483648 ≤ (22 : Int) ∧ (22 : Int) < 2147483648)) (by decide +kernel)).trans ?_
  exact Iff.rfl
theorem r199_74 {d : Nat} {X : Nat × (Nat → Int)} {v : Nat → Int} {M : PH} {K : PV → PS → Prop} {l1 : Int} : pm_Run d 199 74 [vA 234, vI l1] [] (GF X, M, PTF v) K ↔ pm_Run d 199 0 [vA 234, vI l1] [] (GF X, pm_sa M 234 (pm_up (M 234) 49 ((M 234 49) - 1)), PTF v) K := by
  refine (px_go (by decide +kernel : pm_fe 199 74 = some (.aload_n 0, 1)) rfl).trans ?_
  refine (px_go (by decide +kernel : pm_fe 199 75 = some (.dup, 1)) rfl).trans ?_
  refine (ry_get0 (idx := 161) (ci := 12) (k := 49) (by decide +kernel : 234 < 283 ∧ SHF 234 = (12, 76)) (by decide +kernel)).trans ?_
  refine (px_go (by decide +kernel : pm_fe 199 79 = some (.iconst 1, 1)) rfl).trans ?_
  refine (px_go (by decide +kernel : pm_fe 199 80 = some (.isub, 1)) rfl).trans ?_
  refine (ry_put0 (idx := 161) (ci := 12) (k := 49) (by decide +kernel : 234 < 283 ∧ SHF 234 = (12, 76)) (by decide +kernel)).trans ?_
  refine (px_goto (off := (-84)) (tgt := 0) (by decide +kernel)).trans ?_
  exact Iff.rfl
theorem r199_87 {d : Nat} {X : Nat × (Nat → Int)} {v : Nat → Int} {M : PH} {K : PV → PS → Prop} {l1 : Int} : pm_Run d 199 87 [vA 234, vI l1] [] (GF X, M, PTF v) K ↔ K PU (GF X, M, PTF v) := by
  refine (px_rv (by decide +kernel)).trans ?_
  exact Iff.rfl
-- X12_holdsBack holdsBack(I)V
theorem r200_0 {d : Nat} {X : Nat × (Nat → Int)} {v : Nat → Int} {M : PH} {K : PV → PS → Prop} {l1 : Int} (h1 : 0 ≤ (M 234 51)) (h2 : (M 234 51) < 500) : pm_Run d 200 0 [vA 234, vI l1] [] (GF X, M, PTF v) K ↔ pm_Run d 200 10 [vA 234, vI l1] [] (GF X, pm_sa M 268 (pm_up (M 268) (M 234 51).toNat l1), PTF v) K := by
  refine (px_go (by decide +kernel : pm_fe 200 0 = some (.aload_n 0, 1)) rfl).trans ?_
  refine (ry_get2 (idx := 164) (ci := 12) (k := 50) (by decide +kernel : 234 < 283 ∧ SHF 234 = (12, 76)) (ptf_l (a := 234) (k := 50) (n := 268) (by decide +kernel)) (by decide +kernel)).trans ?_
  refine (px_go (by decide +kernel : pm_fe 200 4 = some (.aload_n 0, 1)) rfl).trans ?_
  refine (ry_get0 (idx := 167) (ci := 12) (k := 51) (by decide +kernel : 234 < 283 ∧ SHF 234 = (12, 76)) (by decide +kernel)).trans ?_
  refine (px_go (by decide +kernel : pm_fe 200 8 = some (.iload_n 1, 1)) rfl).trans ?_
  refine (ry_iast (by decide +kernel : 268 < 283 ∧ SHF 268 = (100, 500)) h1 h2 (by decide +kernel)).trans ?_
  exact Iff.rfl
theorem r200_10 {d : Nat} {X : Nat × (Nat → Int)} {v : Nat → Int} {M : PH} {K : PV → PS → Prop} {l1 : Int} : pm_Run d 200 10 [vA 234, vI l1] [] (GF X, M, PTF v) K ↔ K PU (GF X, pm_sa M 234 (pm_up (M 234) 51 ((M 234 51) + 1)), PTF v) := by
  refine (px_go (by decide +kernel : pm_fe 200 10 = some (.aload_n 0, 1)) rfl).trans ?_
  refine (px_go (by decide +kernel : pm_fe 200 11 = some (.dup, 1)) rfl).trans ?_
  refine (ry_get0 (idx := 167) (ci := 12) (k := 51) (by decide +kernel : 234 < 283 ∧ SHF 234 = (12, 76)) (by decide +kernel)).trans ?_
  refine (px_go (by decide +kernel : pm_fe 200 15 = some (.iconst 1, 1)) rfl).trans ?_
  refine (px_go (by decide +kernel : pm_fe 200 16 = some (.iadd, 1)) rfl).trans ?_
  refine (ry_put0 (idx := 167) (ci := 12) (k := 51) (by decide +kernel : 234 < 283 ∧ SHF 234 = (12, 76)) (by decide +kernel)).trans ?_
  refine (px_rv (by decide +kernel)).trans ?_
  exact Iff.rfl
-- X12_pushes pushes(I)V
theorem r201_0 {d : Nat} {X : Nat × (Nat → Int)} {v : Nat → Int} {M : PH} {K : PV → PS → Prop} {l1 : Int} (h1 : 0 ≤ (M 234 48)) (h2 : (M 234 48) < 20) : pm_Run d 201 0 [vA 234, vI l1] [] (GF X, M, PTF v) K ↔ pm_Run d 201 10 [vA 234, vI l1] [] (GF X, pm_sa M 263 (pm_up (M 263) (M 234 48).toNat l1), PTF v) K := by
  refine (px_go (by decide +kernel : pm_fe 201 0 = some (.aload_n 0, 1)) rfl).trans ?_
  refine (ry_get2 (idx := 142) (ci := 12) (k := 43) (by decide +kernel : 234 < 283 ∧ SHF 234 = (12, 76)) (ptf_l (a := 234) (k := 43) (n := 263) (by decide +kernel)) (by decide +kernel)).trans ?_
  refine (px_go (by decide +kernel : pm_fe 201 4 = some (.aload_n 0, 1)) rfl).trans ?_
  refine (ry_get0 (idx := 158) (ci := 12) (k := 48) (by decide +kernel : 234 < 283 ∧ SHF 234 = (12, 76)) (by decide +kernel)).trans ?_
  refine (px_go (by decide +kernel : pm_fe 201 8 = some (.iload_n 1, 1)) rfl).trans ?_
  refine (ry_iast (by decide +kernel : 263 < 283 ∧ SHF 263 = (100, 20)) h1 h2 (by decide +kernel)).trans ?_
  exact Iff.rfl
theorem r201_10 {d : Nat} {X : Nat × (Nat → Int)} {v : Nat → Int} {M : PH} {K : PV → PS → Prop} {l1 : Int} (h1 : 0 ≤ (M 234 48)) (h2 : (M 234 48) < 20) : pm_Run d 201 10 [vA 234, vI l1] [] (GF X, M, PTF v) K ↔ pm_Run d 201 20 [vA 234, vI l1] [] (GF X, pm_sa M 264 (pm_up (M 264) (M 234 48).toNat 0), PTF v) K := by
  refine (px_go (by decide +kernel : pm_fe 201 10 = some (.aload_n 0, 1)) rfl).trans ?_
  refine (ry_get2 (idx := 145) (ci := 12) (k := 44) (by decide +kernel : 234 < 283 ∧ SHF 234 = (12, 76)) (ptf_l (a := 234) (k := 44) (n := 264) (by decide +kernel)) (by decide +kernel)).trans ?_
  refine (px_go (by decide +kernel : pm_fe 201 14 = some (.aload_n 0, 1)) rfl).trans ?_
  refine (ry_get0 (idx := 158) (ci := 12) (k := 48) (by decide +kernel : 234 < 283 ∧ SHF 234 = (12, 76)) (by decide +kernel)).trans ?_
  refine (px_go (by decide +kernel : pm_fe 201 18 = some (.iconst 0, 1)) rfl).trans ?_
  refine (ry_iast (by decide +kernel : 264 < 283 ∧ SHF 264 = (100, 20)) h1 h2 (by decide +kernel)).trans ?_
  exact Iff.rfl
theorem r201_20 {d : Nat} {X : Nat × (Nat → Int)} {v : Nat → Int} {M : PH} {K : PV → PS → Prop} {l1 : Int} (h1 : 0 ≤ (M 234 48)) (h2 : (M 234 48) < 20) : pm_Run d 201 20 [vA 234, vI l1] [] (GF X, M, PTF v) K ↔ pm_Run d 201 30 [vA 234, vI l1] [] (GF X, pm_sa M 265 (pm_up (M 265) (M 234 48).toNat 1), PTF v) K := by
  refine (px_go (by decide +kernel : pm_fe 201 20 = some (.aload_n 0, 1)) rfl).trans ?_
  refine (ry_get2 (idx := 148) (ci := 12) (k := 45) (by decide +kernel : 234 < 283 ∧ SHF 234 = (12, 76)) (ptf_l (a := 234) (k := 45) (n := 265) (by decide +kernel)) (by decide +kernel)).trans ?_
  refine (px_go (by decide +kernel : pm_fe 201 24 = some (.aload_n 0, 1)) rfl).trans ?_
  refine (ry_get0 (idx := 158) (ci := 12) (k := 48) (by decide +kernel : 234 < 283 ∧ SHF 234 = (12, 76)) (by decide +kernel)).trans ?_
  refine (px_go (by decide +kernel : pm_fe 201 28 = some (.iconst 1, 1)) rfl).trans ?_
  refine (ry_zast (by decide +kernel : 265 < 283 ∧ SHF 265 = (102, 20)) h1 h2 (by decide : (1 : Int) = (0 : Int) ∨ (1 : Int) = (1 : Int)) (by decide +kernel)).trans ?_
  exact Iff.rfl
theorem r201_30 {d : Nat} {X : Nat × (Nat → Int)} {v : Nat → Int} {M : PH} {K : PV → PS → Prop} {l1 : Int} (h1 : 0 ≤ (M 234 48)) (h2 : (M 234 48) < 20) : pm_Run d 201 30 [vA 234, vI l1] [] (GF X, M, PTF v) K ↔ pm_Run d 201 43 [vA 234, vI l1] [] (GF X, pm_sa M 267 (pm_up (M 267) (M 234 48).toNat (M 234 51)), PTF v) K := by
  refine (px_go (by decide +kernel : pm_fe 201 30 = some (.aload_n 0, 1)) rfl).trans ?_
  refine (ry_get2 (idx := 155) (ci := 12) (k := 47) (by decide +kernel : 234 < 283 ∧ SHF 234 = (12, 76)) (ptf_l (a := 234) (k := 47) (n := 267) (by decide +kernel)) (by decide +kernel)).trans ?_
  refine (px_go (by decide +kernel : pm_fe 201 34 = some (.aload_n 0, 1)) rfl).trans ?_
  refine (ry_get0 (idx := 158) (ci := 12) (k := 48) (by decide +kernel : 234 < 283 ∧ SHF 234 = (12, 76)) (by decide +kernel)).trans ?_
  refine (px_go (by decide +kernel : pm_fe 201 38 = some (.aload_n 0, 1)) rfl).trans ?_
  refine (ry_get0 (idx := 167) (ci := 12) (k := 51) (by decide +kernel : 234 < 283 ∧ SHF 234 = (12, 76)) (by decide +kernel)).trans ?_
  refine (ry_iast (by decide +kernel : 267 < 283 ∧ SHF 267 = (100, 20)) h1 h2 (by decide +kernel)).trans ?_
  exact Iff.rfl
theorem r201_43 {d : Nat} {X : Nat × (Nat → Int)} {v : Nat → Int} {M : PH} {K : PV → PS → Prop} {l1 : Int} : pm_Run d 201 43 [vA 234, vI l1] [] (GF X, M, PTF v) K ↔ K PU (GF X, pm_sa M 234 (pm_up (M 234) 48 ((M 234 48) + 1)), PTF v) := by
  refine (px_go (by decide +kernel : pm_fe 201 43 = some (.aload_n 0, 1)) rfl).trans ?_
  refine (px_go (by decide +kernel : pm_fe 201 44 = some (.dup, 1)) rfl).trans ?_
  refine (ry_get0 (idx := 158) (ci := 12) (k := 48) (by decide +kernel : 234 < 283 ∧ SHF 234 = (12, 76)) (by decide +kernel)).trans ?_
  refine (px_go (by decide +kernel : pm_fe 201 48 = some (.iconst 1, 1)) rfl).trans ?_
  refine (px_go (by decide +kernel : pm_fe 201 49 = some (.iadd, 1)) rfl).trans ?_
  refine (ry_put0 (idx := 158) (ci := 12) (k := 48) (by decide +kernel : 234 < 283 ∧ SHF 234 = (12, 76)) (by decide +kernel)).trans ?_
  refine (px_rv (by decide +kernel)).trans ?_
  exact Iff.rfl
-- X12_opens opens(I)V
theorem r202_0 {d : Nat} {X : Nat × (Nat → Int)} {v : Nat → Int} {M : PH} {K : PV → PS → Prop} {l1 : Int} (h1 : inR (M 234 49)) : pm_Run d 202 0 [vA 234, vI l1] [] (GF X, M, PTF v) K ↔ if M 234 49 ≠ 7 then pm_Run d 202 18 [vA 234, vI l1] [] (GF X, M, PTF v) K else pm_Run d 202 9 [vA 234, vI l1] [] (GF X, M, PTF v) K := by
  refine (px_go (by decide +kernel : pm_fe 202 0 = some (.aload_n 0, 1)) rfl).trans ?_
  refine (ry_get0 (idx := 161) (ci := 12) (k := 49) (by decide +kernel : 234 < 283 ∧ SHF 234 = (12, 76)) (by decide +kernel)).trans ?_
  refine (px_go (by decide +kernel : pm_fe 202 4 = some (.bipush 7, 2)) rfl).trans ?_
  refine (ry_ic_ne (off := 12) (tgt := 18) h1 (by decide : (-2147483648 ≤ (7 : Int) ∧ (7 : Int) < 2147483648)) (by decide +kernel)).trans ?_
  exact Iff.rfl
theorem r202_9 {d : Nat} {X : Nat × (Nat → Int)} {v : Nat → Int} {M : PH} {K : PV → PS → Prop} {l1 : Int} : pm_Run d 202 9 [vA 234, vI l1] [] (GF X, M, PTF v) K ↔ pm_Call d 183 [vA 234, vI 5, vI (M 234 4)] (GF X, M, PTF v) (fun r9 S1 => pm_Run d 202 18 [vA 234, vI l1] (pm_push r9 []) S1 K) := by
  refine (px_go (by decide +kernel : pm_fe 202 9 = some (.aload_n 0, 1)) rfl).trans ?_
  refine (px_go (by decide +kernel : pm_fe 202 10 = some (.iconst 5, 1)) rfl).trans ?_
  refine (px_go (by decide +kernel : pm_fe 202 11 = some (.aload_n 0, 1)) rfl).trans ?_
  refine (ry_get0 (idx := 23) (ci := 12) (k := 4) (by decide +kernel : 234 < 283 ∧ SHF 234 = (12, 76)) (by decide +kernel)).trans ?_
  refine (ry_v2 (idx := 251) (m' := 183) (ci := 12) (by decide +kernel : 234 < 283 ∧ SHF 234 = (12, 76)) (by simp [pm_wl_n, pm_wl_c, pm_w] : pm_wl [] ≤ 8) (by decide +kernel)).trans ?_
  exact Iff.rfl
theorem r202_18 {d : Nat} {X : Nat × (Nat → Int)} {v : Nat → Int} {M : PH} {K : PV → PS → Prop} {l1 : Int} (h1 : inR (M 234 8)) : pm_Run d 202 18 [vA 234, vI l1] [] (GF X, M, PTF v) K ↔ if M 234 8 ≤ 0 then pm_Run d 202 26 [vA 234, vI l1] [] (GF X, M, PTF v) K else pm_Run d 202 25 [vA 234, vI l1] [] (GF X, M, PTF v) K := by
  refine (px_go (by decide +kernel : pm_fe 202 18 = some (.aload_n 0, 1)) rfl).trans ?_
  refine (ry_get0 (idx := 36) (ci := 12) (k := 8) (by decide +kernel : 234 < 283 ∧ SHF 234 = (12, 76)) (by decide +kernel)).trans ?_
  refine (ry_if_le (off := 4) (tgt := 26) h1 (by decide +kernel)).trans ?_
  exact Iff.rfl
theorem r202_25 {d : Nat} {X : Nat × (Nat → Int)} {v : Nat → Int} {M : PH} {K : PV → PS → Prop} {l1 : Int} : pm_Run d 202 25 [vA 234, vI l1] [] (GF X, M, PTF v) K ↔ K PU (GF X, M, PTF v) := by
  refine (px_rv (by decide +kernel)).trans ?_
  exact Iff.rfl
theorem r202_26 {d : Nat} {X : Nat × (Nat → Int)} {v : Nat → Int} {M : PH} {K : PV → PS → Prop} {l1 : Int} : pm_Run d 202 26 [vA 234, vI l1] [] (GF X, M, PTF v) K ↔ pm_Run d 202 36 [vA 234, vI l1] [] (GF X, pm_sa M 234 (pm_up (M 234) 49 ((M 234 49) + 1)), PTF v) K := by
  refine (px_go (by decide +kernel : pm_fe 202 26 = some (.aload_n 0, 1)) rfl).trans ?_
  refine (px_go (by decide +kernel : pm_fe 202 27 = some (.dup, 1)) rfl).trans ?_
  refine (ry_get0 (idx := 161) (ci := 12) (k := 49) (by decide +kernel : 234 < 283 ∧ SHF 234 = (12, 76)) (by decide +kernel)).trans ?_
  refine (px_go (by decide +kernel : pm_fe 202 31 = some (.iconst 1, 1)) rfl).trans ?_
  refine (px_go (by decide +kernel : pm_fe 202 32 = some (.iadd, 1)) rfl).trans ?_
  refine (ry_put0 (idx := 161) (ci := 12) (k := 49) (by decide +kernel : 234 < 283 ∧ SHF 234 = (12, 76)) (by decide +kernel)).trans ?_
  exact Iff.rfl
theorem r202_36 {d : Nat} {X : Nat × (Nat → Int)} {v : Nat → Int} {M : PH} {K : PV → PS → Prop} {l1 : Int} : pm_Run d 202 36 [vA 234, vI l1] [] (GF X, M, PTF v) K ↔ pm_Call d 187 [vA 234] (GF X, M, PTF v) (fun r9 S1 => pm_Run d 202 40 [vA 234, vI l1] (pm_push r9 []) S1 K) := by
  refine (px_go (by decide +kernel : pm_fe 202 36 = some (.aload_n 0, 1)) rfl).trans ?_
  refine (ry_v0 (idx := 268) (m' := 187) (ci := 12) (by decide +kernel : 234 < 283 ∧ SHF 234 = (12, 76)) (by simp [pm_wl_n, pm_wl_c, pm_w] : pm_wl [] ≤ 8) (by decide +kernel)).trans ?_
  exact Iff.rfl
theorem r202_40 {d : Nat} {X : Nat × (Nat → Int)} {v : Nat → Int} {M : PH} {K : PV → PS → Prop} {l1 : Int} : pm_Run d 202 40 [vA 234, vI l1] [] (GF X, M, PTF v) K ↔ pm_Call d 201 [vA 234, vI l1] (GF X, M, PTF v) (fun r9 S1 => pm_Run d 202 45 [vA 234, vI l1] (pm_push r9 []) S1 K) := by
  refine (px_go (by decide +kernel : pm_fe 202 40 = some (.aload_n 0, 1)) rfl).trans ?_
  refine (px_go (by decide +kernel : pm_fe 202 41 = some (.iload_n 1, 1)) rfl).trans ?_
  refine (ry_v1 (idx := 350) (m' := 201) (ci := 12) (by decide +kernel : 234 < 283 ∧ SHF 234 = (12, 76)) (by simp [pm_wl_n, pm_wl_c, pm_w] : pm_wl [] ≤ 8) (by decide +kernel)).trans ?_
  exact Iff.rfl
theorem r202_45 {d : Nat} {X : Nat × (Nat → Int)} {v : Nat → Int} {M : PH} {K : PV → PS → Prop} {l1 : Int} : pm_Run d 202 45 [vA 234, vI l1] [] (GF X, M, PTF v) K ↔ K PU (GF X, M, PTF v) := by
  refine (px_rv (by decide +kernel)).trans ?_
  exact Iff.rfl
-- X12_isTest isTest(I)Z
theorem r203_0 {d : Nat} {X : Nat × (Nat → Int)} {v : Nat → Int} {M : PH} {K : PV → PS → Prop} {l0 : Int} (h1 : inR l0) : pm_Run d 203 0 [vI l0] [] (GF X, M, PTF v) K ↔ if l0 = 1 then pm_Run d 203 10 [vI l0] [] (GF X, M, PTF v) K else pm_Run d 203 5 [vI l0] [] (GF X, M, PTF v) K := by
  refine (px_go (by decide +kernel : pm_fe 203 0 = some (.iload_n 0, 1)) rfl).trans ?_
  refine (px_go (by decide +kernel : pm_fe 203 1 = some (.iconst 1, 1)) rfl).trans ?_
  refine (ry_ic_eq (off := 8) (tgt := 10) h1 (by decide : (-2147483648 ≤ (1 : Int) ∧ (1 : Int) < 2147483648)) (by decide +kernel)).trans ?_
  exact Iff.rfl
theorem r203_5 {d : Nat} {X : Nat × (Nat → Int)} {v : Nat → Int} {M : PH} {K : PV → PS → Prop} {l0 : Int} (h1 : inR l0) : pm_Run d 203 5 [vI l0] [] (GF X, M, PTF v) K ↔ if l0 ≠ 5 then pm_Run d 203 14 [vI l0] [] (GF X, M, PTF v) K else pm_Run d 203 10 [vI l0] [] (GF X, M, PTF v) K := by
  refine (px_go (by decide +kernel : pm_fe 203 5 = some (.iload_n 0, 1)) rfl).trans ?_
  refine (px_go (by decide +kernel : pm_fe 203 6 = some (.iconst 5, 1)) rfl).trans ?_
  refine (ry_ic_ne (off := 7) (tgt := 14) h1 (by decide : (-2147483648 ≤ (5 : Int) ∧ (5 : Int) < 2147483648)) (by decide +kernel)).trans ?_
  exact Iff.rfl
theorem r203_10 {d : Nat} {X : Nat × (Nat → Int)} {v : Nat → Int} {M : PH} {K : PV → PS → Prop} {l0 : Int} : pm_Run d 203 10 [vI l0] [] (GF X, M, PTF v) K ↔ pm_Run d 203 15 [vI l0] [vI 1] (GF X, M, PTF v) K := by
  refine (px_go (by decide +kernel : pm_fe 203 10 = some (.iconst 1, 1)) rfl).trans ?_
  refine (px_goto (off := 4) (tgt := 15) (by decide +kernel)).trans ?_
  exact Iff.rfl
theorem r203_14 {d : Nat} {X : Nat × (Nat → Int)} {v : Nat → Int} {M : PH} {K : PV → PS → Prop} {l0 : Int} : pm_Run d 203 14 [vI l0] [] (GF X, M, PTF v) K ↔ pm_Run d 203 15 [vI l0] [vI 0] (GF X, M, PTF v) K := by
  refine (px_go (by decide +kernel : pm_fe 203 14 = some (.iconst 0, 1)) rfl).trans ?_
  exact Iff.rfl
theorem r203_15 {d : Nat} {X : Nat × (Nat → Int)} {v : Nat → Int} {M : PH} {K : PV → PS → Prop} {l0 s0 : Int} (h1 : s0 = 0 ∨ s0 = 1) : pm_Run d 203 15 [vI l0] [vI s0] (GF X, M, PTF v) K ↔ K (vI s0) (GF X, M, PTF v) := by
  refine (px_rz (by decide +kernel)).trans ((and_iff_right h1).trans ?_)
  exact Iff.rfl
-- X12_operand operand()Z
theorem r204_0 {d : Nat} {X : Nat × (Nat → Int)} {v : Nat → Int} {M : PH} {K : PV → PS → Prop} : pm_Run d 204 0 [vA 234, PU, PU, PU] [] (GF X, M, PTF v) K ↔ pm_Call d 186 [vA 234] (GF X, M, PTF v) (fun r9 S1 => pm_Run d 204 4 [vA 234, PU, PU, PU] (pm_push r9 []) S1 K) := by
  refine (px_go (by decide +kernel : pm_fe 204 0 = some (.aload_n 0, 1)) rfl).trans ?_
  refine (ry_v0 (idx := 262) (m' := 186) (ci := 12) (by decide +kernel : 234 < 283 ∧ SHF 234 = (12, 76)) (by simp [pm_wl_n, pm_wl_c, pm_w] : pm_wl [] ≤ 8) (by decide +kernel)).trans ?_
  exact Iff.rfl
theorem r204_4 {d : Nat} {X : Nat × (Nat → Int)} {v : Nat → Int} {M : PH} {K : PV → PS → Prop} (h1 : inR (M 234 8)) : pm_Run d 204 4 [vA 234, PU, PU, PU] [] (GF X, M, PTF v) K ↔ if M 234 8 ≤ 0 then pm_Run d 204 13 [vA 234, PU, PU, PU] [] (GF X, M, PTF v) K else pm_Run d 204 11 [vA 234, PU, PU, PU] [] (GF X, M, PTF v) K := by
  refine (px_go (by decide +kernel : pm_fe 204 4 = some (.aload_n 0, 1)) rfl).trans ?_
  refine (ry_get0 (idx := 36) (ci := 12) (k := 8) (by decide +kernel : 234 < 283 ∧ SHF 234 = (12, 76)) (by decide +kernel)).trans ?_
  refine (ry_if_le (off := 5) (tgt := 13) h1 (by decide +kernel)).trans ?_
  exact Iff.rfl
theorem r204_11 {d : Nat} {X : Nat × (Nat → Int)} {v : Nat → Int} {M : PH} {K : PV → PS → Prop} : pm_Run d 204 11 [vA 234, PU, PU, PU] [] (GF X, M, PTF v) K ↔ K (vI 1) (GF X, M, PTF v) := by
  refine (px_go (by decide +kernel : pm_fe 204 11 = some (.iconst 1, 1)) rfl).trans ?_
  refine (px_rz (by decide +kernel)).trans ((and_iff_right (by decide : (1 : Int) = (0 : Int) ∨ (1 : Int) = (1 : Int))).trans ?_)
  exact Iff.rfl
theorem r204_13 {d : Nat} {X : Nat × (Nat → Int)} {v : Nat → Int} {M : PH} {K : PV → PS → Prop} (h1 : 0 ≤ ((M 234 48) - 1)) (h2 : ((M 234 48) - 1) < 20) : pm_Run d 204 13 [vA 234, PU, PU, PU] [] (GF X, M, PTF v) K ↔ pm_Call d 203 [vI (M 263 ((M 234 48) - 1).toNat)] (GF X, M, PTF v) (fun r9 S1 => pm_Run d 204 29 [vA 234, vI ((M 234 48) - 1), PU, PU] (pm_push r9 []) S1 K) := by
  refine (px_go (by decide +kernel : pm_fe 204 13 = some (.aload_n 0, 1)) rfl).trans ?_
  refine (ry_get0 (idx := 158) (ci := 12) (k := 48) (by decide +kernel : 234 < 283 ∧ SHF 234 = (12, 76)) (by decide +kernel)).trans ?_
  refine (px_go (by decide +kernel : pm_fe 204 17 = some (.iconst 1, 1)) rfl).trans ?_
  refine (px_go (by decide +kernel : pm_fe 204 18 = some (.isub, 1)) rfl).trans ?_
  refine (px_go (by decide +kernel : pm_fe 204 19 = some (.istore_n 1, 1)) rfl).trans ?_
  refine (px_go (by decide +kernel : pm_fe 204 20 = some (.aload_n 0, 1)) rfl).trans ?_
  refine (ry_get2 (idx := 142) (ci := 12) (k := 43) (by decide +kernel : 234 < 283 ∧ SHF 234 = (12, 76)) (ptf_l (a := 234) (k := 43) (n := 263) (by decide +kernel)) (by decide +kernel)).trans ?_
  refine (px_go (by decide +kernel : pm_fe 204 24 = some (.iload_n 1, 1)) rfl).trans ?_
  refine (ry_iald (by decide +kernel : 263 < 283 ∧ SHF 263 = (100, 20)) h1 h2 (by decide +kernel)).trans ?_
  refine (px_s1 (idx := 353) (m' := 203) (nest := 0) (by decide +kernel)).trans ((and_iff_right (by simp [pm_wl_n, pm_wl_c, pm_w] : pm_wl [] ≤ 8)).trans ?_)
  exact Iff.rfl
theorem r204_29 {d : Nat} {X : Nat × (Nat → Int)} {v : Nat → Int} {M : PH} {K : PV → PS → Prop} {l1 s0 : Int} (h1 : inR s0) : pm_Run d 204 29 [vA 234, vI l1, PU, PU] [vI s0] (GF X, M, PTF v) K ↔ if s0 = 0 then pm_Run d 204 45 [vA 234, vI l1, PU, PU] [] (GF X, M, PTF v) K else pm_Run d 204 32 [vA 234, vI l1, PU, PU] [] (GF X, M, PTF v) K := by
  refine (ry_if_eq (off := 16) (tgt := 45) h1 (by decide +kernel)).trans ?_
  exact Iff.rfl
theorem r204_32 {d : Nat} {X : Nat × (Nat → Int)} {v : Nat → Int} {M : PH} {K : PV → PS → Prop} {l1 : Int} (h1 : 0 ≤ l1) (h2 : l1 < 20) (h3 : inR (M 265 l1.toNat)) : pm_Run d 204 32 [vA 234, vI l1, PU, PU] [] (GF X, M, PTF v) K ↔ if M 265 l1.toNat = 0 then pm_Run d 204 45 [vA 234, vI l1, PU, PU] [] (GF X, M, PTF v) K else pm_Run d 204 41 [vA 234, vI l1, PU, PU] [] (GF X, M, PTF v) K := by
  refine (px_go (by decide +kernel : pm_fe 204 32 = some (.aload_n 0, 1)) rfl).trans ?_
  refine (ry_get2 (idx := 148) (ci := 12) (k := 45) (by decide +kernel : 234 < 283 ∧ SHF 234 = (12, 76)) (ptf_l (a := 234) (k := 45) (n := 265) (by decide +kernel)) (by decide +kernel)).trans ?_
  refine (px_go (by decide +kernel : pm_fe 204 36 = some (.iload_n 1, 1)) rfl).trans ?_
  refine (ry_zald (by decide +kernel : 265 < 283 ∧ SHF 265 = (102, 20)) h1 h2 (by decide +kernel)).trans ?_
  refine (ry_if_eq (off := 7) (tgt := 45) h3 (by decide +kernel)).trans ?_
  exact Iff.rfl
theorem r204_41 {d : Nat} {X : Nat × (Nat → Int)} {v : Nat → Int} {M : PH} {K : PV → PS → Prop} {l1 : Int} : pm_Run d 204 41 [vA 234, vI l1, PU, PU] [] (GF X, M, PTF v) K ↔ pm_Run d 204 46 [vA 234, vI l1, PU, PU] [vI 1] (GF X, M, PTF v) K := by
  refine (px_go (by decide +kernel : pm_fe 204 41 = some (.iconst 1, 1)) rfl).trans ?_
  refine (px_goto (off := 4) (tgt := 46) (by decide +kernel)).trans ?_
  exact Iff.rfl
theorem r204_45 {d : Nat} {X : Nat × (Nat → Int)} {v : Nat → Int} {M : PH} {K : PV → PS → Prop} {l1 : Int} : pm_Run d 204 45 [vA 234, vI l1, PU, PU] [] (GF X, M, PTF v) K ↔ pm_Run d 204 46 [vA 234, vI l1, PU, PU] [vI 0] (GF X, M, PTF v) K := by
  refine (px_go (by decide +kernel : pm_fe 204 45 = some (.iconst 0, 1)) rfl).trans ?_
  exact Iff.rfl
theorem r204_46 {d : Nat} {X : Nat × (Nat → Int)} {v : Nat → Int} {M : PH} {K : PV → PS → Prop} {l1 s0 : Int} (h1 : inR s0) : pm_Run d 204 46 [vA 234, vI l1, PU, PU] [vI s0] (GF X, M, PTF v) K ↔ if s0 = 0 then pm_Run d 204 110 [vA 234, vI l1, vI s0, PU] [] (GF X, M, PTF v) K else pm_Run d 204 51 [vA 234, vI l1, vI s0, PU] [] (GF X, M, PTF v) K := by
  refine (px_go (by decide +kernel : pm_fe 204 46 = some (.istore_n 2, 1)) rfl).trans ?_
  refine (px_go (by decide +kernel : pm_fe 204 47 = some (.iload_n 2, 1)) rfl).trans ?_
  refine (ry_if_eq (off := 62) (tgt := 110) h1 (by decide +kernel)).trans ?_
  exact Iff.rfl
theorem r204_51 {d : Nat} {X : Nat × (Nat → Int)} {v : Nat → Int} {M : PH} {K : PV → PS → Prop} {l1 l2 : Int} : pm_Run d 204 51 [vA 234, vI l1, vI l2, PU] [] (GF X, M, PTF v) K ↔ pm_Call d 189 [vA 234, vL 7237492] (GF X, M, PTF v) (fun r9 S1 => pm_Run d 204 58 [vA 234, vI l1, vI l2, PU] (pm_push r9 []) S1 K) := by
  refine (px_go (by decide +kernel : pm_fe 204 51 = some (.aload_n 0, 1)) rfl).trans ?_
  refine (px_ldcL (idx := 321) (x := 7237492) (by decide +kernel)).trans ?_
  refine (ry_v1 (idx := 356) (m' := 189) (ci := 12) (by decide +kernel : 234 < 283 ∧ SHF 234 = (12, 76)) (by simp [pm_wl_n, pm_wl_c, pm_w] : pm_wl [] ≤ 8) (by decide +kernel)).trans ?_
  exact Iff.rfl
theorem r204_58 {d : Nat} {X : Nat × (Nat → Int)} {v : Nat → Int} {M : PH} {K : PV → PS → Prop} {l1 l2 s0 : Int} (h1 : inR s0) : pm_Run d 204 58 [vA 234, vI l1, vI l2, PU] [vI s0] (GF X, M, PTF v) K ↔ if s0 = 0 then pm_Run d 204 110 [vA 234, vI l1, vI l2, PU] [] (GF X, M, PTF v) K else pm_Run d 204 61 [vA 234, vI l1, vI l2, PU] [] (GF X, M, PTF v) K := by
  refine (ry_if_eq (off := 52) (tgt := 110) h1 (by decide +kernel)).trans ?_
  exact Iff.rfl
theorem r204_61 {d : Nat} {X : Nat × (Nat → Int)} {v : Nat → Int} {M : PH} {K : PV → PS → Prop} {l1 l2 : Int} (h1 : inR (M 234 49)) : pm_Run d 204 61 [vA 234, vI l1, vI l2, PU] [] (GF X, M, PTF v) K ↔ if M 234 49 ≠ 7 then pm_Run d 204 79 [vA 234, vI l1, vI l2, PU] [] (GF X, M, PTF v) K else pm_Run d 204 70 [vA 234, vI l1, vI l2, PU] [] (GF X, M, PTF v) K := by
  refine (px_go (by decide +kernel : pm_fe 204 61 = some (.aload_n 0, 1)) rfl).trans ?_
  refine (ry_get0 (idx := 161) (ci := 12) (k := 49) (by decide +kernel : 234 < 283 ∧ SHF 234 = (12, 76)) (by decide +kernel)).trans ?_
  refine (px_go (by decide +kernel : pm_fe 204 65 = some (.bipush 7, 2)) rfl).trans ?_
  refine (ry_ic_ne (off := 12) (tgt := 79) h1 (by decide : (-2147483648 ≤ (7 : Int) ∧ (7 : Int) < 2147483648)) (by decide +kernel)).trans ?_
  exact Iff.rfl
theorem r204_70 {d : Nat} {X : Nat × (Nat → Int)} {v : Nat → Int} {M : PH} {K : PV → PS → Prop} {l1 l2 : Int} : pm_Run d 204 70 [vA 234, vI l1, vI l2, PU] [] (GF X, M, PTF v) K ↔ pm_Call d 183 [vA 234, vI 5, vI (M 234 4)] (GF X, M, PTF v) (fun r9 S1 => pm_Run d 204 79 [vA 234, vI l1, vI l2, PU] (pm_push r9 []) S1 K) := by
  refine (px_go (by decide +kernel : pm_fe 204 70 = some (.aload_n 0, 1)) rfl).trans ?_
  refine (px_go (by decide +kernel : pm_fe 204 71 = some (.iconst 5, 1)) rfl).trans ?_
  refine (px_go (by decide +kernel : pm_fe 204 72 = some (.aload_n 0, 1)) rfl).trans ?_
  refine (ry_get0 (idx := 23) (ci := 12) (k := 4) (by decide +kernel : 234 < 283 ∧ SHF 234 = (12, 76)) (by decide +kernel)).trans ?_
  refine (ry_v2 (idx := 251) (m' := 183) (ci := 12) (by decide +kernel : 234 < 283 ∧ SHF 234 = (12, 76)) (by simp [pm_wl_n, pm_wl_c, pm_w] : pm_wl [] ≤ 8) (by decide +kernel)).trans ?_
  exact Iff.rfl
theorem r204_79 {d : Nat} {X : Nat × (Nat → Int)} {v : Nat → Int} {M : PH} {K : PV → PS → Prop} {l1 l2 : Int} (h1 : inR (M 234 8)) : pm_Run d 204 79 [vA 234, vI l1, vI l2, PU] [] (GF X, M, PTF v) K ↔ if M 234 8 ≤ 0 then pm_Run d 204 88 [vA 234, vI l1, vI l2, PU] [] (GF X, M, PTF v) K else pm_Run d 204 86 [vA 234, vI l1, vI l2, PU] [] (GF X, M, PTF v) K := by
  refine (px_go (by decide +kernel : pm_fe 204 79 = some (.aload_n 0, 1)) rfl).trans ?_
  refine (ry_get0 (idx := 36) (ci := 12) (k := 8) (by decide +kernel : 234 < 283 ∧ SHF 234 = (12, 76)) (by decide +kernel)).trans ?_
  refine (ry_if_le (off := 5) (tgt := 88) h1 (by decide +kernel)).trans ?_
  exact Iff.rfl
theorem r204_86 {d : Nat} {X : Nat × (Nat → Int)} {v : Nat → Int} {M : PH} {K : PV → PS → Prop} {l1 l2 : Int} : pm_Run d 204 86 [vA 234, vI l1, vI l2, PU] [] (GF X, M, PTF v) K ↔ K (vI 1) (GF X, M, PTF v) := by
  refine (px_go (by decide +kernel : pm_fe 204 86 = some (.iconst 1, 1)) rfl).trans ?_
  refine (px_rz (by decide +kernel)).trans ((and_iff_right (by decide : (1 : Int) = (0 : Int) ∨ (1 : Int) = (1 : Int))).trans ?_)
  exact Iff.rfl
theorem r204_88 {d : Nat} {X : Nat × (Nat → Int)} {v : Nat → Int} {M : PH} {K : PV → PS → Prop} {l1 l2 : Int} : pm_Run d 204 88 [vA 234, vI l1, vI l2, PU] [] (GF X, M, PTF v) K ↔ pm_Run d 204 98 [vA 234, vI l1, vI l2, PU] [] (GF X, pm_sa M 234 (pm_up (M 234) 49 ((M 234 49) + 1)), PTF v) K := by
  refine (px_go (by decide +kernel : pm_fe 204 88 = some (.aload_n 0, 1)) rfl).trans ?_
  refine (px_go (by decide +kernel : pm_fe 204 89 = some (.dup, 1)) rfl).trans ?_
  refine (ry_get0 (idx := 161) (ci := 12) (k := 49) (by decide +kernel : 234 < 283 ∧ SHF 234 = (12, 76)) (by decide +kernel)).trans ?_
  refine (px_go (by decide +kernel : pm_fe 204 93 = some (.iconst 1, 1)) rfl).trans ?_
  refine (px_go (by decide +kernel : pm_fe 204 94 = some (.iadd, 1)) rfl).trans ?_
  refine (ry_put0 (idx := 161) (ci := 12) (k := 49) (by decide +kernel : 234 < 283 ∧ SHF 234 = (12, 76)) (by decide +kernel)).trans ?_
  exact Iff.rfl
theorem r204_98 {d : Nat} {X : Nat × (Nat → Int)} {v : Nat → Int} {M : PH} {K : PV → PS → Prop} {l1 l2 : Int} : pm_Run d 204 98 [vA 234, vI l1, vI l2, PU] [] (GF X, M, PTF v) K ↔ pm_Call d 200 [vA 234, vI 22] (GF X, M, PTF v) (fun r9 S1 => pm_Run d 204 104 [vA 234, vI l1, vI l2, PU] (pm_push r9 []) S1 K) := by
  refine (px_go (by decide +kernel : pm_fe 204 98 = some (.aload_n 0, 1)) rfl).trans ?_
  refine (px_go (by decide +kernel : pm_fe 204 99 = some (.bipush 22, 2)) rfl).trans ?_
  refine (ry_v1 (idx := 360) (m' := 200) (ci := 12) (by decide +kernel : 234 < 283 ∧ SHF 234 = (12, 76)) (by simp [pm_wl_n, pm_wl_c, pm_w] : pm_wl [] ≤ 8) (by decide +kernel)).trans ?_
  exact Iff.rfl
theorem r204_104 {d : Nat} {X : Nat × (Nat → Int)} {v : Nat → Int} {M : PH} {K : PV → PS → Prop} {l1 l2 : Int} : pm_Run d 204 104 [vA 234, vI l1, vI l2, PU] [] (GF X, M, PTF v) K ↔ pm_Call d 187 [vA 234] (GF X, M, PTF v) (fun r9 S1 => pm_Run d 204 108 [vA 234, vI l1, vI l2, PU] (pm_push r9 []) S1 K) := by
  refine (px_go (by decide +kernel : pm_fe 204 104 = some (.aload_n 0, 1)) rfl).trans ?_
  refine (ry_v0 (idx := 268) (m' := 187) (ci := 12) (by decide +kernel : 234 < 283 ∧ SHF 234 = (12, 76)) (by simp [pm_wl_n, pm_wl_c, pm_w] : pm_wl [] ≤ 8) (by decide +kernel)).trans ?_
  exact Iff.rfl
theorem r204_108 {d : Nat} {X : Nat × (Nat → Int)} {v : Nat → Int} {M : PH} {K : PV → PS → Prop} {l1 l2 : Int} : pm_Run d 204 108 [vA 234, vI l1, vI l2, PU] [] (GF X, M, PTF v) K ↔ K (vI 0) (GF X, M, PTF v) := by
  refine (px_go (by decide +kernel : pm_fe 204 108 = some (.iconst 0, 1)) rfl).trans ?_
  refine (px_rz (by decide +kernel)).trans ((and_iff_right (by decide : (0 : Int) = (0 : Int) ∨ (0 : Int) = (1 : Int))).trans ?_)
  exact Iff.rfl
theorem r204_110 {d : Nat} {X : Nat × (Nat → Int)} {v : Nat → Int} {M : PH} {K : PV → PS → Prop} {l1 l2 : Int} (h1 : 0 ≤ l1) (h2 : l1 < 20) : pm_Run d 204 110 [vA 234, vI l1, vI l2, PU] [] (GF X, M, PTF v) K ↔ pm_Run d 204 117 [vA 234, vI l1, vI l2, PU] [] (GF X, pm_sa M 265 (pm_up (M 265) l1.toNat 0), PTF v) K := by
  refine (px_go (by decide +kernel : pm_fe 204 110 = some (.aload_n 0, 1)) rfl).trans ?_
  refine (ry_get2 (idx := 148) (ci := 12) (k := 45) (by decide +kernel : 234 < 283 ∧ SHF 234 = (12, 76)) (ptf_l (a := 234) (k := 45) (n := 265) (by decide +kernel)) (by decide +kernel)).trans ?_
  refine (px_go (by decide +kernel : pm_fe 204 114 = some (.iload_n 1, 1)) rfl).trans ?_
  refine (px_go (by decide +kernel : pm_fe 204 115 = some (.iconst 0, 1)) rfl).trans ?_
  refine (ry_zast (by decide +kernel : 265 < 283 ∧ SHF 265 = (102, 20)) h1 h2 (by decide : (0 : Int) = (0 : Int) ∨ (0 : Int) = (1 : Int)) (by decide +kernel)).trans ?_
  exact Iff.rfl
theorem r204_117 {d : Nat} {X : Nat × (Nat → Int)} {v : Nat → Int} {M : PH} {K : PV → PS → Prop} {l1 l2 : Int} (h1 : inR l2) : pm_Run d 204 117 [vA 234, vI l1, vI l2, PU] [] (GF X, M, PTF v) K ↔ if l2 = 0 then pm_Run d 204 137 [vA 234, vI l1, vI l2, PU] [] (GF X, M, PTF v) K else pm_Run d 204 121 [vA 234, vI l1, vI l2, PU] [] (GF X, M, PTF v) K := by
  refine (px_go (by decide +kernel : pm_fe 204 117 = some (.iload_n 2, 1)) rfl).trans ?_
  refine (ry_if_eq (off := 19) (tgt := 137) h1 (by decide +kernel)).trans ?_
  exact Iff.rfl
theorem r204_121 {d : Nat} {X : Nat × (Nat → Int)} {v : Nat → Int} {M : PH} {K : PV → PS → Prop} {l1 l2 : Int} : pm_Run d 204 121 [vA 234, vI l1, vI l2, PU] [] (GF X, M, PTF v) K ↔ pm_Call d 188 [vA 234, vI 91] (GF X, M, PTF v) (fun r9 S1 => pm_Run d 204 127 [vA 234, vI l1, vI l2, PU] (pm_push r9 []) S1 K) := by
  refine (px_go (by decide +kernel : pm_fe 204 121 = some (.aload_n 0, 1)) rfl).trans ?_
  refine (px_go (by decide +kernel : pm_fe 204 122 = some (.bipush 91, 2)) rfl).trans ?_
  refine (ry_v1 (idx := 265) (m' := 188) (ci := 12) (by decide +kernel : 234 < 283 ∧ SHF 234 = (12, 76)) (by simp [pm_wl_n, pm_wl_c, pm_w] : pm_wl [] ≤ 8) (by decide +kernel)).trans ?_
  exact Iff.rfl
theorem r204_127 {d : Nat} {X : Nat × (Nat → Int)} {v : Nat → Int} {M : PH} {K : PV → PS → Prop} {l1 l2 s0 : Int} (h1 : inR s0) : pm_Run d 204 127 [vA 234, vI l1, vI l2, PU] [vI s0] (GF X, M, PTF v) K ↔ if s0 = 0 then pm_Run d 204 137 [vA 234, vI l1, vI l2, PU] [] (GF X, M, PTF v) K else pm_Run d 204 130 [vA 234, vI l1, vI l2, PU] [] (GF X, M, PTF v) K := by
  refine (ry_if_eq (off := 10) (tgt := 137) h1 (by decide +kernel)).trans ?_
  exact Iff.rfl
theorem r204_130 {d : Nat} {X : Nat × (Nat → Int)} {v : Nat → Int} {M : PH} {K : PV → PS → Prop} {l1 l2 : Int} : pm_Run d 204 130 [vA 234, vI l1, vI l2, PU] [] (GF X, M, PTF v) K ↔ pm_Call d 202 [vA 234, vI 5] (GF X, M, PTF v) (fun r9 S1 => pm_Run d 204 135 [vA 234, vI l1, vI l2, PU] (pm_push r9 []) S1 K) := by
  refine (px_go (by decide +kernel : pm_fe 204 130 = some (.aload_n 0, 1)) rfl).trans ?_
  refine (px_go (by decide +kernel : pm_fe 204 131 = some (.iconst 5, 1)) rfl).trans ?_
  refine (ry_v1 (idx := 363) (m' := 202) (ci := 12) (by decide +kernel : 234 < 283 ∧ SHF 234 = (12, 76)) (by simp [pm_wl_n, pm_wl_c, pm_w] : pm_wl [] ≤ 8) (by decide +kernel)).trans ?_
  exact Iff.rfl
theorem r204_135 {d : Nat} {X : Nat × (Nat → Int)} {v : Nat → Int} {M : PH} {K : PV → PS → Prop} {l1 l2 : Int} : pm_Run d 204 135 [vA 234, vI l1, vI l2, PU] [] (GF X, M, PTF v) K ↔ K (vI 0) (GF X, M, PTF v) := by
  refine (px_go (by decide +kernel : pm_fe 204 135 = some (.iconst 0, 1)) rfl).trans ?_
  refine (px_rz (by decide +kernel)).trans ((and_iff_right (by decide : (0 : Int) = (0 : Int) ∨ (0 : Int) = (1 : Int))).trans ?_)
  exact Iff.rfl
theorem r204_137 {d : Nat} {X : Nat × (Nat → Int)} {v : Nat → Int} {M : PH} {K : PV → PS → Prop} {l1 l2 : Int} (h1 : inR l2) : pm_Run d 204 137 [vA 234, vI l1, vI l2, PU] [] (GF X, M, PTF v) K ↔ if l2 = 0 then pm_Run d 204 171 [vA 234, vI l1, vI l2, PU] [] (GF X, M, PTF v) K else pm_Run d 204 141 [vA 234, vI l1, vI l2, PU] [] (GF X, M, PTF v) K := by
  refine (px_go (by decide +kernel : pm_fe 204 137 = some (.iload_n 2, 1)) rfl).trans ?_
  refine (ry_if_eq (off := 33) (tgt := 171) h1 (by decide +kernel)).trans ?_
  exact Iff.rfl
theorem r204_141 {d : Nat} {X : Nat × (Nat → Int)} {v : Nat → Int} {M : PH} {K : PV → PS → Prop} {l1 l2 : Int} : pm_Run d 204 141 [vA 234, vI l1, vI l2, PU] [] (GF X, M, PTF v) K ↔ pm_Call d 189 [vA 234, vL 6384748] (GF X, M, PTF v) (fun r9 S1 => pm_Run d 204 148 [vA 234, vI l1, vI l2, PU] (pm_push r9 []) S1 K) := by
  refine (px_go (by decide +kernel : pm_fe 204 141 = some (.aload_n 0, 1)) rfl).trans ?_
  refine (px_ldcL (idx := 323) (x := 6384748) (by decide +kernel)).trans ?_
  refine (ry_v1 (idx := 356) (m' := 189) (ci := 12) (by decide +kernel : 234 < 283 ∧ SHF 234 = (12, 76)) (by simp [pm_wl_n, pm_wl_c, pm_w] : pm_wl [] ≤ 8) (by decide +kernel)).trans ?_
  exact Iff.rfl
theorem r204_148 {d : Nat} {X : Nat × (Nat → Int)} {v : Nat → Int} {M : PH} {K : PV → PS → Prop} {l1 l2 s0 : Int} (h1 : inR s0) : pm_Run d 204 148 [vA 234, vI l1, vI l2, PU] [vI s0] (GF X, M, PTF v) K ↔ if s0 = 0 then pm_Run d 204 171 [vA 234, vI l1, vI l2, PU] [] (GF X, M, PTF v) K else pm_Run d 204 151 [vA 234, vI l1, vI l2, PU] [] (GF X, M, PTF v) K := by
  refine (ry_if_eq (off := 23) (tgt := 171) h1 (by decide +kernel)).trans ?_
  exact Iff.rfl
theorem r204_151 {d : Nat} {X : Nat × (Nat → Int)} {v : Nat → Int} {M : PH} {K : PV → PS → Prop} {l1 l2 : Int} : pm_Run d 204 151 [vA 234, vI l1, vI l2, PU] [] (GF X, M, PTF v) K ↔ pm_Call d 197 [vA 234, vI 30, vI 0] (GF X, M, PTF v) (fun r9 S1 => pm_Run d 204 158 [vA 234, vI l1, vI l2, PU] (pm_push r9 []) S1 K) := by
  refine (px_go (by decide +kernel : pm_fe 204 151 = some (.aload_n 0, 1)) rfl).trans ?_
  refine (px_go (by decide +kernel : pm_fe 204 152 = some (.bipush 30, 2)) rfl).trans ?_
  refine (px_go (by decide +kernel : pm_fe 204 154 = some (.iconst 0, 1)) rfl).trans ?_
  refine (ry_v2 (idx := 347) (m' := 197) (ci := 12) (by decide +kernel : 234 < 283 ∧ SHF 234 = (12, 76)) (by simp [pm_wl_n, pm_wl_c, pm_w] : pm_wl [] ≤ 8) (by decide +kernel)).trans ?_
  exact Iff.rfl
theorem r204_158 {d : Nat} {X : Nat × (Nat → Int)} {v : Nat → Int} {M : PH} {K : PV → PS → Prop} {l1 l2 : Int} (h1 : 0 ≤ l1) (h2 : l1 < 20) : pm_Run d 204 158 [vA 234, vI l1, vI l2, PU] [] (GF X, M, PTF v) K ↔ pm_Run d 204 165 [vA 234, vI l1, vI l2, PU] [] (GF X, pm_sa M 264 (pm_up (M 264) l1.toNat 2), PTF v) K := by
  refine (px_go (by decide +kernel : pm_fe 204 158 = some (.aload_n 0, 1)) rfl).trans ?_
  refine (ry_get2 (idx := 145) (ci := 12) (k := 44) (by decide +kernel : 234 < 283 ∧ SHF 234 = (12, 76)) (ptf_l (a := 234) (k := 44) (n := 264) (by decide +kernel)) (by decide +kernel)).trans ?_
  refine (px_go (by decide +kernel : pm_fe 204 162 = some (.iload_n 1, 1)) rfl).trans ?_
  refine (px_go (by decide +kernel : pm_fe 204 163 = some (.iconst 2, 1)) rfl).trans ?_
  refine (ry_iast (by decide +kernel : 264 < 283 ∧ SHF 264 = (100, 20)) h1 h2 (by decide +kernel)).trans ?_
  exact Iff.rfl
theorem r204_165 {d : Nat} {X : Nat × (Nat → Int)} {v : Nat → Int} {M : PH} {K : PV → PS → Prop} {l1 l2 : Int} : pm_Run d 204 165 [vA 234, vI l1, vI l2, PU] [] (GF X, M, PTF v) K ↔ pm_Call d 187 [vA 234] (GF X, M, PTF v) (fun r9 S1 => pm_Run d 204 169 [vA 234, vI l1, vI l2, PU] (pm_push r9 []) S1 K) := by
  refine (px_go (by decide +kernel : pm_fe 204 165 = some (.aload_n 0, 1)) rfl).trans ?_
  refine (ry_v0 (idx := 268) (m' := 187) (ci := 12) (by decide +kernel : 234 < 283 ∧ SHF 234 = (12, 76)) (by simp [pm_wl_n, pm_wl_c, pm_w] : pm_wl [] ≤ 8) (by decide +kernel)).trans ?_
  exact Iff.rfl
theorem r204_169 {d : Nat} {X : Nat × (Nat → Int)} {v : Nat → Int} {M : PH} {K : PV → PS → Prop} {l1 l2 : Int} : pm_Run d 204 169 [vA 234, vI l1, vI l2, PU] [] (GF X, M, PTF v) K ↔ K (vI 1) (GF X, M, PTF v) := by
  refine (px_go (by decide +kernel : pm_fe 204 169 = some (.iconst 1, 1)) rfl).trans ?_
  refine (px_rz (by decide +kernel)).trans ((and_iff_right (by decide : (1 : Int) = (0 : Int) ∨ (1 : Int) = (1 : Int))).trans ?_)
  exact Iff.rfl
theorem r204_171 {d : Nat} {X : Nat × (Nat → Int)} {v : Nat → Int} {M : PH} {K : PV → PS → Prop} {l1 l2 : Int} : pm_Run d 204 171 [vA 234, vI l1, vI l2, PU] [] (GF X, M, PTF v) K ↔ pm_Call d 188 [vA 234, vI 40] (GF X, M, PTF v) (fun r9 S1 => pm_Run d 204 177 [vA 234, vI l1, vI l2, PU] (pm_push r9 []) S1 K) := by
  refine (px_go (by decide +kernel : pm_fe 204 171 = some (.aload_n 0, 1)) rfl).trans ?_
  refine (px_go (by decide +kernel : pm_fe 204 172 = some (.bipush 40, 2)) rfl).trans ?_
  refine (ry_v1 (idx := 265) (m' := 188) (ci := 12) (by decide +kernel : 234 < 283 ∧ SHF 234 = (12, 76)) (by simp [pm_wl_n, pm_wl_c, pm_w] : pm_wl [] ≤ 8) (by decide +kernel)).trans ?_
  exact Iff.rfl
theorem r204_177 {d : Nat} {X : Nat × (Nat → Int)} {v : Nat → Int} {M : PH} {K : PV → PS → Prop} {l1 l2 s0 : Int} (h1 : inR s0) : pm_Run d 204 177 [vA 234, vI l1, vI l2, PU] [vI s0] (GF X, M, PTF v) K ↔ if s0 = 0 then pm_Run d 204 187 [vA 234, vI l1, vI l2, PU] [] (GF X, M, PTF v) K else pm_Run d 204 180 [vA 234, vI l1, vI l2, PU] [] (GF X, M, PTF v) K := by
  refine (ry_if_eq (off := 10) (tgt := 187) h1 (by decide +kernel)).trans ?_
  exact Iff.rfl
theorem r204_180 {d : Nat} {X : Nat × (Nat → Int)} {v : Nat → Int} {M : PH} {K : PV → PS → Prop} {l1 l2 : Int} : pm_Run d 204 180 [vA 234, vI l1, vI l2, PU] [] (GF X, M, PTF v) K ↔ pm_Call d 202 [vA 234, vI 2] (GF X, M, PTF v) (fun r9 S1 => pm_Run d 204 185 [vA 234, vI l1, vI l2, PU] (pm_push r9 []) S1 K) := by
  refine (px_go (by decide +kernel : pm_fe 204 180 = some (.aload_n 0, 1)) rfl).trans ?_
  refine (px_go (by decide +kernel : pm_fe 204 181 = some (.iconst 2, 1)) rfl).trans ?_
  refine (ry_v1 (idx := 363) (m' := 202) (ci := 12) (by decide +kernel : 234 < 283 ∧ SHF 234 = (12, 76)) (by simp [pm_wl_n, pm_wl_c, pm_w] : pm_wl [] ≤ 8) (by decide +kernel)).trans ?_
  exact Iff.rfl
theorem r204_185 {d : Nat} {X : Nat × (Nat → Int)} {v : Nat → Int} {M : PH} {K : PV → PS → Prop} {l1 l2 : Int} : pm_Run d 204 185 [vA 234, vI l1, vI l2, PU] [] (GF X, M, PTF v) K ↔ K (vI 0) (GF X, M, PTF v) := by
  refine (px_go (by decide +kernel : pm_fe 204 185 = some (.iconst 0, 1)) rfl).trans ?_
  refine (px_rz (by decide +kernel)).trans ((and_iff_right (by decide : (0 : Int) = (0 : Int) ∨ (0 : Int) = (1 : Int))).trans ?_)
  exact Iff.rfl
theorem r204_187 {d : Nat} {X : Nat × (Nat → Int)} {v : Nat → Int} {M : PH} {K : PV → PS → Prop} {l1 l2 : Int} : pm_Run d 204 187 [vA 234, vI l1, vI l2, PU] [] (GF X, M, PTF v) K ↔ pm_Call d 189 [vA 234, vL 7170414] (GF X, M, PTF v) (fun r9 S1 => pm_Run d 204 194 [vA 234, vI l1, vI l2, PU] (pm_push r9 []) S1 K) := by
  refine (px_go (by decide +kernel : pm_fe 204 187 = some (.aload_n 0, 1)) rfl).trans ?_
  refine (px_ldcL (idx := 325) (x := 7170414) (by decide +kernel)).trans ?_
  refine (ry_v1 (idx := 356) (m' := 189) (ci := 12) (by decide +kernel : 234 < 283 ∧ SHF 234 = (12, 76)) (by simp [pm_wl_n, pm_wl_c, pm_w] : pm_wl [] ≤ 8) (by decide +kernel)).trans ?_
  exact Iff.rfl
theorem r204_194 {d : Nat} {X : Nat × (Nat → Int)} {v : Nat → Int} {M : PH} {K : PV → PS → Prop} {l1 l2 s0 : Int} (h1 : inR s0) : pm_Run d 204 194 [vA 234, vI l1, vI l2, PU] [vI s0] (GF X, M, PTF v) K ↔ if s0 ≠ 0 then pm_Run d 204 207 [vA 234, vI l1, vI l2, PU] [] (GF X, M, PTF v) K else pm_Run d 204 197 [vA 234, vI l1, vI l2, PU] [] (GF X, M, PTF v) K := by
  refine (ry_if_ne (off := 13) (tgt := 207) h1 (by decide +kernel)).trans ?_
  exact Iff.rfl
theorem r204_197 {d : Nat} {X : Nat × (Nat → Int)} {v : Nat → Int} {M : PH} {K : PV → PS → Prop} {l1 l2 : Int} : pm_Run d 204 197 [vA 234, vI l1, vI l2, PU] [] (GF X, M, PTF v) K ↔ pm_Call d 189 [vA 234, vL 7168376] (GF X, M, PTF v) (fun r9 S1 => pm_Run d 204 204 [vA 234, vI l1, vI l2, PU] (pm_push r9 []) S1 K) := by
  refine (px_go (by decide +kernel : pm_fe 204 197 = some (.aload_n 0, 1)) rfl).trans ?_
  refine (px_ldcL (idx := 327) (x := 7168376) (by decide +kernel)).trans ?_
  refine (ry_v1 (idx := 356) (m' := 189) (ci := 12) (by decide +kernel : 234 < 283 ∧ SHF 234 = (12, 76)) (by simp [pm_wl_n, pm_wl_c, pm_w] : pm_wl [] ≤ 8) (by decide +kernel)).trans ?_
  exact Iff.rfl
theorem r204_204 {d : Nat} {X : Nat × (Nat → Int)} {v : Nat → Int} {M : PH} {K : PV → PS → Prop} {l1 l2 s0 : Int} (h1 : inR s0) : pm_Run d 204 204 [vA 234, vI l1, vI l2, PU] [vI s0] (GF X, M, PTF v) K ↔ if s0 = 0 then pm_Run d 204 277 [vA 234, vI l1, vI l2, PU] [] (GF X, M, PTF v) K else pm_Run d 204 207 [vA 234, vI l1, vI l2, PU] [] (GF X, M, PTF v) K := by
  refine (ry_if_eq (off := 73) (tgt := 277) h1 (by decide +kernel)).trans ?_
  exact Iff.rfl
theorem r204_207 {d : Nat} {X : Nat × (Nat → Int)} {v : Nat → Int} {M : PH} {K : PV → PS → Prop} {l1 l2 : Int} : pm_Run d 204 207 [vA 234, vI l1, vI l2, PU] [] (GF X, M, PTF v) K ↔ pm_Call d 189 [vA 234, vL 7170414] (GF X, M, PTF v) (fun r9 S1 => pm_Run d 204 214 [vA 234, vI l1, vI l2, PU] (pm_push r9 []) S1 K) := by
  refine (px_go (by decide +kernel : pm_fe 204 207 = some (.aload_n 0, 1)) rfl).trans ?_
  refine (px_ldcL (idx := 325) (x := 7170414) (by decide +kernel)).trans ?_
  refine (ry_v1 (idx := 356) (m' := 189) (ci := 12) (by decide +kernel : 234 < 283 ∧ SHF 234 = (12, 76)) (by simp [pm_wl_n, pm_wl_c, pm_w] : pm_wl [] ≤ 8) (by decide +kernel)).trans ?_
  exact Iff.rfl
theorem r204_214 {d : Nat} {X : Nat × (Nat → Int)} {v : Nat → Int} {M : PH} {K : PV → PS → Prop} {l1 l2 s0 : Int} (h1 : inR s0) : pm_Run d 204 214 [vA 234, vI l1, vI l2, PU] [vI s0] (GF X, M, PTF v) K ↔ if s0 = 0 then pm_Run d 204 222 [vA 234, vI l1, vI l2, PU] [] (GF X, M, PTF v) K else pm_Run d 204 217 [vA 234, vI l1, vI l2, PU] [] (GF X, M, PTF v) K := by
  refine (ry_if_eq (off := 8) (tgt := 222) h1 (by decide +kernel)).trans ?_
  exact Iff.rfl
theorem r204_217 {d : Nat} {X : Nat × (Nat → Int)} {v : Nat → Int} {M : PH} {K : PV → PS → Prop} {l1 l2 : Int} : pm_Run d 204 217 [vA 234, vI l1, vI l2, PU] [] (GF X, M, PTF v) K ↔ pm_Run d 204 224 [vA 234, vI l1, vI l2, PU] [vI 15] (GF X, M, PTF v) K := by
  refine (px_go (by decide +kernel : pm_fe 204 217 = some (.bipush 15, 2)) rfl).trans ?_
  refine (px_goto (off := 5) (tgt := 224) (by decide +kernel)).trans ?_
  exact Iff.rfl
theorem r204_222 {d : Nat} {X : Nat × (Nat → Int)} {v : Nat → Int} {M : PH} {K : PV → PS → Prop} {l1 l2 : Int} : pm_Run d 204 222 [vA 234, vI l1, vI l2, PU] [] (GF X, M, PTF v) K ↔ pm_Run d 204 224 [vA 234, vI l1, vI l2, PU] [vI 16] (GF X, M, PTF v) K := by
  refine (px_go (by decide +kernel : pm_fe 204 222 = some (.bipush 16, 2)) rfl).trans ?_
  exact Iff.rfl
theorem r204_224 {d : Nat} {X : Nat × (Nat → Int)} {v : Nat → Int} {M : PH} {K : PV → PS → Prop} {l1 l2 s0 : Int} : pm_Run d 204 224 [vA 234, vI l1, vI l2, PU] [vI s0] (GF X, M, PTF v) K ↔ pm_Call d 187 [vA 234] (GF X, M, PTF v) (fun r9 S1 => pm_Run d 204 229 [vA 234, vI l1, vI l2, vI s0] (pm_push r9 []) S1 K) := by
  refine (px_go (by decide +kernel : pm_fe 204 224 = some (.istore_n 3, 1)) rfl).trans ?_
  refine (px_go (by decide +kernel : pm_fe 204 225 = some (.aload_n 0, 1)) rfl).trans ?_
  refine (ry_v0 (idx := 268) (m' := 187) (ci := 12) (by decide +kernel : 234 < 283 ∧ SHF 234 = (12, 76)) (by simp [pm_wl_n, pm_wl_c, pm_w] : pm_wl [] ≤ 8) (by decide +kernel)).trans ?_
  exact Iff.rfl
theorem r204_229 {d : Nat} {X : Nat × (Nat → Int)} {v : Nat → Int} {M : PH} {K : PV → PS → Prop} {l1 l2 l3 : Int} : pm_Run d 204 229 [vA 234, vI l1, vI l2, vI l3] [] (GF X, M, PTF v) K ↔ pm_Call d 186 [vA 234] (GF X, M, PTF v) (fun r9 S1 => pm_Run d 204 233 [vA 234, vI l1, vI l2, vI l3] (pm_push r9 []) S1 K) := by
  refine (px_go (by decide +kernel : pm_fe 204 229 = some (.aload_n 0, 1)) rfl).trans ?_
  refine (ry_v0 (idx := 262) (m' := 186) (ci := 12) (by decide +kernel : 234 < 283 ∧ SHF 234 = (12, 76)) (by simp [pm_wl_n, pm_wl_c, pm_w] : pm_wl [] ≤ 8) (by decide +kernel)).trans ?_
  exact Iff.rfl
theorem r204_233 {d : Nat} {X : Nat × (Nat → Int)} {v : Nat → Int} {M : PH} {K : PV → PS → Prop} {l1 l2 l3 : Int} : pm_Run d 204 233 [vA 234, vI l1, vI l2, vI l3] [] (GF X, M, PTF v) K ↔ pm_Call d 188 [vA 234, vI 40] (GF X, M, PTF v) (fun r9 S1 => pm_Run d 204 239 [vA 234, vI l1, vI l2, vI l3] (pm_push r9 []) S1 K) := by
  refine (px_go (by decide +kernel : pm_fe 204 233 = some (.aload_n 0, 1)) rfl).trans ?_
  refine (px_go (by decide +kernel : pm_fe 204 234 = some (.bipush 40, 2)) rfl).trans ?_
  refine (ry_v1 (idx := 265) (m' := 188) (ci := 12) (by decide +kernel : 234 < 283 ∧ SHF 234 = (12, 76)) (by simp [pm_wl_n, pm_wl_c, pm_w] : pm_wl [] ≤ 8) (by decide +kernel)).trans ?_
  exact Iff.rfl
theorem r204_239 {d : Nat} {X : Nat × (Nat → Int)} {v : Nat → Int} {M : PH} {K : PV → PS → Prop} {l1 l2 l3 s0 : Int} (h1 : inR s0) : pm_Run d 204 239 [vA 234, vI l1, vI l2, vI l3] [vI s0] (GF X, M, PTF v) K ↔ if s0 ≠ 0 then pm_Run d 204 251 [vA 234, vI l1, vI l2, vI l3] [] (GF X, M, PTF v) K else pm_Run d 204 242 [vA 234, vI l1, vI l2, vI l3] [] (GF X, M, PTF v) K := by
  refine (ry_if_ne (off := 12) (tgt := 251) h1 (by decide +kernel)).trans ?_
  exact Iff.rfl
theorem r204_242 {d : Nat} {X : Nat × (Nat → Int)} {v : Nat → Int} {M : PH} {K : PV → PS → Prop} {l1 l2 l3 : Int} : pm_Run d 204 242 [vA 234, vI l1, vI l2, vI l3] [] (GF X, M, PTF v) K ↔ pm_Call d 183 [vA 234, vI 1, vI (M 234 4)] (GF X, M, PTF v) (fun r9 S1 => pm_Run d 204 251 [vA 234, vI l1, vI l2, vI l3] (pm_push r9 []) S1 K) := by
  refine (px_go (by decide +kernel : pm_fe 204 242 = some (.aload_n 0, 1)) rfl).trans ?_
  refine (px_go (by decide +kernel : pm_fe 204 243 = some (.iconst 1, 1)) rfl).trans ?_
  refine (px_go (by decide +kernel : pm_fe 204 244 = some (.aload_n 0, 1)) rfl).trans ?_
  refine (ry_get0 (idx := 23) (ci := 12) (k := 4) (by decide +kernel : 234 < 283 ∧ SHF 234 = (12, 76)) (by decide +kernel)).trans ?_
  refine (ry_v2 (idx := 251) (m' := 183) (ci := 12) (by decide +kernel : 234 < 283 ∧ SHF 234 = (12, 76)) (by simp [pm_wl_n, pm_wl_c, pm_w] : pm_wl [] ≤ 8) (by decide +kernel)).trans ?_
  exact Iff.rfl
theorem r204_251 {d : Nat} {X : Nat × (Nat → Int)} {v : Nat → Int} {M : PH} {K : PV → PS → Prop} {l1 l2 l3 : Int} : pm_Run d 204 251 [vA 234, vI l1, vI l2, vI l3] [] (GF X, M, PTF v) K ↔ pm_Call d 202 [vA 234, vI 3] (GF X, M, PTF v) (fun r9 S1 => pm_Run d 204 256 [vA 234, vI l1, vI l2, vI l3] (pm_push r9 []) S1 K) := by
  refine (px_go (by decide +kernel : pm_fe 204 251 = some (.aload_n 0, 1)) rfl).trans ?_
  refine (px_go (by decide +kernel : pm_fe 204 252 = some (.iconst 3, 1)) rfl).trans ?_
  refine (ry_v1 (idx := 363) (m' := 202) (ci := 12) (by decide +kernel : 234 < 283 ∧ SHF 234 = (12, 76)) (by simp [pm_wl_n, pm_wl_c, pm_w] : pm_wl [] ≤ 8) (by decide +kernel)).trans ?_
  exact Iff.rfl
theorem r204_256 {d : Nat} {X : Nat × (Nat → Int)} {v : Nat → Int} {M : PH} {K : PV → PS → Prop} {l1 l2 l3 : Int} (h1 : inR (M 234 8)) : pm_Run d 204 256 [vA 234, vI l1, vI l2, vI l3] [] (GF X, M, PTF v) K ↔ if M 234 8 ≠ 0 then pm_Run d 204 275 [vA 234, vI l1, vI l2, vI l3] [] (GF X, M, PTF v) K else pm_Run d 204 263 [vA 234, vI l1, vI l2, vI l3] [] (GF X, M, PTF v) K := by
  refine (px_go (by decide +kernel : pm_fe 204 256 = some (.aload_n 0, 1)) rfl).trans ?_
  refine (ry_get0 (idx := 36) (ci := 12) (k := 8) (by decide +kernel : 234 < 283 ∧ SHF 234 = (12, 76)) (by decide +kernel)).trans ?_
  refine (ry_if_ne (off := 15) (tgt := 275) h1 (by decide +kernel)).trans ?_
  exact Iff.rfl
theorem r204_263 {d : Nat} {X : Nat × (Nat → Int)} {v : Nat → Int} {M : PH} {K : PV → PS → Prop} {l1 l2 l3 : Int} (h1 : 0 ≤ ((M 234 48) - 1)) (h2 : ((M 234 48) - 1) < 20) : pm_Run d 204 263 [vA 234, vI l1, vI l2, vI l3] [] (GF X, M, PTF v) K ↔ pm_Run d 204 275 [vA 234, vI l1, vI l2, vI l3] [] (GF X, pm_sa M 266 (pm_up (M 266) ((M 234 48) - 1).toNat l3), PTF v) K := by
  refine (px_go (by decide +kernel : pm_fe 204 263 = some (.aload_n 0, 1)) rfl).trans ?_
  refine (ry_get2 (idx := 152) (ci := 12) (k := 46) (by decide +kernel : 234 < 283 ∧ SHF 234 = (12, 76)) (ptf_l (a := 234) (k := 46) (n := 266) (by decide +kernel)) (by decide +kernel)).trans ?_
  refine (px_go (by decide +kernel : pm_fe 204 267 = some (.aload_n 0, 1)) rfl).trans ?_
  refine (ry_get0 (idx := 158) (ci := 12) (k := 48) (by decide +kernel : 234 < 283 ∧ SHF 234 = (12, 76)) (by decide +kernel)).trans ?_
  refine (px_go (by decide +kernel : pm_fe 204 271 = some (.iconst 1, 1)) rfl).trans ?_
  refine (px_go (by decide +kernel : pm_fe 204 272 = some (.isub, 1)) rfl).trans ?_
  refine (px_go (by decide +kernel : pm_fe 204 273 = some (.iload_n 3, 1)) rfl).trans ?_
  refine (ry_iast (by decide +kernel : 266 < 283 ∧ SHF 266 = (100, 20)) h1 h2 (by decide +kernel)).trans ?_
  exact Iff.rfl
theorem r204_275 {d : Nat} {X : Nat × (Nat → Int)} {v : Nat → Int} {M : PH} {K : PV → PS → Prop} {l1 l2 l3 : Int} : pm_Run d 204 275 [vA 234, vI l1, vI l2, vI l3] [] (GF X, M, PTF v) K ↔ K (vI 0) (GF X, M, PTF v) := by
  refine (px_go (by decide +kernel : pm_fe 204 275 = some (.iconst 0, 1)) rfl).trans ?_
  refine (px_rz (by decide +kernel)).trans ((and_iff_right (by decide : (0 : Int) = (0 : Int) ∨ (0 : Int) = (1 : Int))).trans ?_)
  exact Iff.rfl
theorem r204_277 {d : Nat} {X : Nat × (Nat → Int)} {v : Nat → Int} {M : PH} {K : PV → PS → Prop} {l1 l2 : Int} (h1 : inR (M 234 3)) : pm_Run d 204 277 [vA 234, vI l1, vI l2, PU] [] (GF X, M, PTF v) K ↔ if M 234 3 ≠ 2 then pm_Run d 204 289 [vA 234, vI l1, vI l2, PU] [] (GF X, M, PTF v) K else pm_Run d 204 285 [vA 234, vI l1, vI l2, PU] [] (GF X, M, PTF v) K := by
  refine (px_go (by decide +kernel : pm_fe 204 277 = some (.aload_n 0, 1)) rfl).trans ?_
  refine (ry_get0 (idx := 20) (ci := 12) (k := 3) (by decide +kernel : 234 < 283 ∧ SHF 234 = (12, 76)) (by decide +kernel)).trans ?_
  refine (px_go (by decide +kernel : pm_fe 204 281 = some (.iconst 2, 1)) rfl).trans ?_
  refine (ry_ic_ne (off := 7) (tgt := 289) h1 (by decide : (-2147483648 ≤ (2 : Int) ∧ (2 : Int) < 2147483648)) (by decide +kernel)).trans ?_
  exact Iff.rfl
theorem r204_285 {d : Nat} {X : Nat × (Nat → Int)} {v : Nat → Int} {M : PH} {K : PV → PS → Prop} {l1 l2 : Int} : pm_Run d 204 285 [vA 234, vI l1, vI l2, PU] [] (GF X, M, PTF v) K ↔ pm_Run d 204 450 [vA 234, vI l1, vI l2, PU] [vI 0] (GF X, M, PTF v) K := by
  refine (px_go (by decide +kernel : pm_fe 204 285 = some (.iconst 0, 1)) rfl).trans ?_
  refine (px_goto (off := 164) (tgt := 450) (by decide +kernel)).trans ?_
  exact Iff.rfl
theorem r204_289 {d : Nat} {X : Nat × (Nat → Int)} {v : Nat → Int} {M : PH} {K : PV → PS → Prop} {l1 l2 : Int} : pm_Run d 204 289 [vA 234, vI l1, vI l2, PU] [] (GF X, M, PTF v) K ↔ pm_Call d 189 [vA 234, vL 114784769370228] (GF X, M, PTF v) (fun r9 S1 => pm_Run d 204 296 [vA 234, vI l1, vI l2, PU] (pm_push r9 []) S1 K) := by
  refine (px_go (by decide +kernel : pm_fe 204 289 = some (.aload_n 0, 1)) rfl).trans ?_
  refine (px_ldcL (idx := 301) (x := 114784769370228) (by decide +kernel)).trans ?_
  refine (ry_v1 (idx := 356) (m' := 189) (ci := 12) (by decide +kernel : 234 < 283 ∧ SHF 234 = (12, 76)) (by simp [pm_wl_n, pm_wl_c, pm_w] : pm_wl [] ≤ 8) (by decide +kernel)).trans ?_
  exact Iff.rfl
theorem r204_296 {d : Nat} {X : Nat × (Nat → Int)} {v : Nat → Int} {M : PH} {K : PV → PS → Prop} {l1 l2 s0 : Int} (h1 : inR s0) : pm_Run d 204 296 [vA 234, vI l1, vI l2, PU] [vI s0] (GF X, M, PTF v) K ↔ if s0 = 0 then pm_Run d 204 303 [vA 234, vI l1, vI l2, PU] [] (GF X, M, PTF v) K else pm_Run d 204 299 [vA 234, vI l1, vI l2, PU] [] (GF X, M, PTF v) K := by
  refine (ry_if_eq (off := 7) (tgt := 303) h1 (by decide +kernel)).trans ?_
  exact Iff.rfl
theorem r204_299 {d : Nat} {X : Nat × (Nat → Int)} {v : Nat → Int} {M : PH} {K : PV → PS → Prop} {l1 l2 : Int} : pm_Run d 204 299 [vA 234, vI l1, vI l2, PU] [] (GF X, M, PTF v) K ↔ pm_Run d 204 450 [vA 234, vI l1, vI l2, PU] [vI 1] (GF X, M, PTF v) K := by
  refine (px_go (by decide +kernel : pm_fe 204 299 = some (.iconst 1, 1)) rfl).trans ?_
  refine (px_goto (off := 150) (tgt := 450) (by decide +kernel)).trans ?_
  exact Iff.rfl
theorem r204_303 {d : Nat} {X : Nat × (Nat → Int)} {v : Nat → Int} {M : PH} {K : PV → PS → Prop} {l1 l2 : Int} : pm_Run d 204 303 [vA 234, vI l1, vI l2, PU] [] (GF X, M, PTF v) K ↔ pm_Call d 189 [vA 234, vL 431198598248] (GF X, M, PTF v) (fun r9 S1 => pm_Run d 204 310 [vA 234, vI l1, vI l2, PU] (pm_push r9 []) S1 K) := by
  refine (px_go (by decide +kernel : pm_fe 204 303 = some (.aload_n 0, 1)) rfl).trans ?_
  refine (px_ldcL (idx := 285) (x := 431198598248) (by decide +kernel)).trans ?_
  refine (ry_v1 (idx := 356) (m' := 189) (ci := 12) (by decide +kernel : 234 < 283 ∧ SHF 234 = (12, 76)) (by simp [pm_wl_n, pm_wl_c, pm_w] : pm_wl [] ≤ 8) (by decide +kernel)).trans ?_
  exact Iff.rfl
theorem r204_310 {d : Nat} {X : Nat × (Nat → Int)} {v : Nat → Int} {M : PH} {K : PV → PS → Prop} {l1 l2 s0 : Int} (h1 : inR s0) : pm_Run d 204 310 [vA 234, vI l1, vI l2, PU] [vI s0] (GF X, M, PTF v) K ↔ if s0 = 0 then pm_Run d 204 317 [vA 234, vI l1, vI l2, PU] [] (GF X, M, PTF v) K else pm_Run d 204 313 [vA 234, vI l1, vI l2, PU] [] (GF X, M, PTF v) K := by
  refine (ry_if_eq (off := 7) (tgt := 317) h1 (by decide +kernel)).trans ?_
  exact Iff.rfl
theorem r204_313 {d : Nat} {X : Nat × (Nat → Int)} {v : Nat → Int} {M : PH} {K : PV → PS → Prop} {l1 l2 : Int} : pm_Run d 204 313 [vA 234, vI l1, vI l2, PU] [] (GF X, M, PTF v) K ↔ pm_Run d 204 450 [vA 234, vI l1, vI l2, PU] [vI 2] (GF X, M, PTF v) K := by
  refine (px_go (by decide +kernel : pm_fe 204 313 = some (.iconst 2, 1)) rfl).trans ?_
  refine (px_goto (off := 136) (tgt := 450) (by decide +kernel)).trans ?_
  exact Iff.rfl
theorem r204_317 {d : Nat} {X : Nat × (Nat → Int)} {v : Nat → Int} {M : PH} {K : PV → PS → Prop} {l1 l2 : Int} : pm_Run d 204 317 [vA 234, vI l1, vI l2, PU] [] (GF X, M, PTF v) K ↔ pm_Call d 189 [vA 234, vL 483006772069] (GF X, M, PTF v) (fun r9 S1 => pm_Run d 204 324 [vA 234, vI l1, vI l2, PU] (pm_push r9 []) S1 K) := by
  refine (px_go (by decide +kernel : pm_fe 204 317 = some (.aload_n 0, 1)) rfl).trans ?_
  refine (px_ldcL (idx := 283) (x := 483006772069) (by decide +kernel)).trans ?_
  refine (ry_v1 (idx := 356) (m' := 189) (ci := 12) (by decide +kernel : 234 < 283 ∧ SHF 234 = (12, 76)) (by simp [pm_wl_n, pm_wl_c, pm_w] : pm_wl [] ≤ 8) (by decide +kernel)).trans ?_
  exact Iff.rfl
theorem r204_324 {d : Nat} {X : Nat × (Nat → Int)} {v : Nat → Int} {M : PH} {K : PV → PS → Prop} {l1 l2 s0 : Int} (h1 : inR s0) : pm_Run d 204 324 [vA 234, vI l1, vI l2, PU] [vI s0] (GF X, M, PTF v) K ↔ if s0 = 0 then pm_Run d 204 331 [vA 234, vI l1, vI l2, PU] [] (GF X, M, PTF v) K else pm_Run d 204 327 [vA 234, vI l1, vI l2, PU] [] (GF X, M, PTF v) K := by
  refine (ry_if_eq (off := 7) (tgt := 331) h1 (by decide +kernel)).trans ?_
  exact Iff.rfl
theorem r204_327 {d : Nat} {X : Nat × (Nat → Int)} {v : Nat → Int} {M : PH} {K : PV → PS → Prop} {l1 l2 : Int} : pm_Run d 204 327 [vA 234, vI l1, vI l2, PU] [] (GF X, M, PTF v) K ↔ pm_Run d 204 450 [vA 234, vI l1, vI l2, PU] [vI 3] (GF X, M, PTF v) K := by
  refine (px_go (by decide +kernel : pm_fe 204 327 = some (.iconst 3, 1)) rfl).trans ?_
  refine (px_goto (off := 122) (tgt := 450) (by decide +kernel)).trans ?_
  exact Iff.rfl
theorem r204_331 {d : Nat} {X : Nat × (Nat → Int)} {v : Nat → Int} {M : PH} {K : PV → PS → Prop} {l1 l2 : Int} : pm_Run d 204 331 [vA 234, vI l1, vI l2, PU] [] (GF X, M, PTF v) K ↔ pm_Call d 189 [vA 234, vL 1885432164] (GF X, M, PTF v) (fun r9 S1 => pm_Run d 204 338 [vA 234, vI l1, vI l2, PU] (pm_push r9 []) S1 K) := by
  refine (px_go (by decide +kernel : pm_fe 204 331 = some (.aload_n 0, 1)) rfl).trans ?_
  refine (px_ldcL (idx := 303) (x := 1885432164) (by decide +kernel)).trans ?_
  refine (ry_v1 (idx := 356) (m' := 189) (ci := 12) (by decide +kernel : 234 < 283 ∧ SHF 234 = (12, 76)) (by simp [pm_wl_n, pm_wl_c, pm_w] : pm_wl [] ≤ 8) (by decide +kernel)).trans ?_
  exact Iff.rfl
theorem r204_338 {d : Nat} {X : Nat × (Nat → Int)} {v : Nat → Int} {M : PH} {K : PV → PS → Prop} {l1 l2 s0 : Int} (h1 : inR s0) : pm_Run d 204 338 [vA 234, vI l1, vI l2, PU] [vI s0] (GF X, M, PTF v) K ↔ if s0 = 0 then pm_Run d 204 345 [vA 234, vI l1, vI l2, PU] [] (GF X, M, PTF v) K else pm_Run d 204 341 [vA 234, vI l1, vI l2, PU] [] (GF X, M, PTF v) K := by
  refine (ry_if_eq (off := 7) (tgt := 345) h1 (by decide +kernel)).trans ?_
  exact Iff.rfl
theorem r204_341 {d : Nat} {X : Nat × (Nat → Int)} {v : Nat → Int} {M : PH} {K : PV → PS → Prop} {l1 l2 : Int} : pm_Run d 204 341 [vA 234, vI l1, vI l2, PU] [] (GF X, M, PTF v) K ↔ pm_Run d 204 450 [vA 234, vI l1, vI l2, PU] [vI 4] (GF X, M, PTF v) K := by
  refine (px_go (by decide +kernel : pm_fe 204 341 = some (.iconst 4, 1)) rfl).trans ?_
  refine (px_goto (off := 108) (tgt := 450) (by decide +kernel)).trans ?_
  exact Iff.rfl
theorem r204_345 {d : Nat} {X : Nat × (Nat → Int)} {v : Nat → Int} {M : PH} {K : PV → PS → Prop} {l1 l2 : Int} : pm_Run d 204 345 [vA 234, vI l1, vI l2, PU] [] (GF X, M, PTF v) K ↔ pm_Call d 189 [vA 234, vL 6583653] (GF X, M, PTF v) (fun r9 S1 => pm_Run d 204 352 [vA 234, vI l1, vI l2, PU] (pm_push r9 []) S1 K) := by
  refine (px_go (by decide +kernel : pm_fe 204 345 = some (.aload_n 0, 1)) rfl).trans ?_
  refine (px_ldcL (idx := 305) (x := 6583653) (by decide +kernel)).trans ?_
  refine (ry_v1 (idx := 356) (m' := 189) (ci := 12) (by decide +kernel : 234 < 283 ∧ SHF 234 = (12, 76)) (by simp [pm_wl_n, pm_wl_c, pm_w] : pm_wl [] ≤ 8) (by decide +kernel)).trans ?_
  exact Iff.rfl
theorem r204_352 {d : Nat} {X : Nat × (Nat → Int)} {v : Nat → Int} {M : PH} {K : PV → PS → Prop} {l1 l2 s0 : Int} (h1 : inR s0) : pm_Run d 204 352 [vA 234, vI l1, vI l2, PU] [vI s0] (GF X, M, PTF v) K ↔ if s0 = 0 then pm_Run d 204 359 [vA 234, vI l1, vI l2, PU] [] (GF X, M, PTF v) K else pm_Run d 204 355 [vA 234, vI l1, vI l2, PU] [] (GF X, M, PTF v) K := by
  refine (ry_if_eq (off := 7) (tgt := 359) h1 (by decide +kernel)).trans ?_
  exact Iff.rfl
theorem r204_355 {d : Nat} {X : Nat × (Nat → Int)} {v : Nat → Int} {M : PH} {K : PV → PS → Prop} {l1 l2 : Int} : pm_Run d 204 355 [vA 234, vI l1, vI l2, PU] [] (GF X, M, PTF v) K ↔ pm_Run d 204 450 [vA 234, vI l1, vI l2, PU] [vI 5] (GF X, M, PTF v) K := by
  refine (px_go (by decide +kernel : pm_fe 204 355 = some (.iconst 5, 1)) rfl).trans ?_
  refine (px_goto (off := 94) (tgt := 450) (by decide +kernel)).trans ?_
  exact Iff.rfl
theorem r204_359 {d : Nat} {X : Nat × (Nat → Int)} {v : Nat → Int} {M : PH} {K : PV → PS → Prop} {l1 l2 : Int} : pm_Run d 204 359 [vA 234, vI l1, vI l2, PU] [] (GF X, M, PTF v) K ↔ pm_Call d 189 [vA 234, vL 6709618] (GF X, M, PTF v) (fun r9 S1 => pm_Run d 204 366 [vA 234, vI l1, vI l2, PU] (pm_push r9 []) S1 K) := by
  refine (px_go (by decide +kernel : pm_fe 204 359 = some (.aload_n 0, 1)) rfl).trans ?_
  refine (px_ldcL (idx := 307) (x := 6709618) (by decide +kernel)).trans ?_
  refine (ry_v1 (idx := 356) (m' := 189) (ci := 12) (by decide +kernel : 234 < 283 ∧ SHF 234 = (12, 76)) (by simp [pm_wl_n, pm_wl_c, pm_w] : pm_wl [] ≤ 8) (by decide +kernel)).trans ?_
  exact Iff.rfl
theorem r204_366 {d : Nat} {X : Nat × (Nat → Int)} {v : Nat → Int} {M : PH} {K : PV → PS → Prop} {l1 l2 s0 : Int} (h1 : inR s0) : pm_Run d 204 366 [vA 234, vI l1, vI l2, PU] [vI s0] (GF X, M, PTF v) K ↔ if s0 = 0 then pm_Run d 204 374 [vA 234, vI l1, vI l2, PU] [] (GF X, M, PTF v) K else pm_Run d 204 369 [vA 234, vI l1, vI l2, PU] [] (GF X, M, PTF v) K := by
  refine (ry_if_eq (off := 8) (tgt := 374) h1 (by decide +kernel)).trans ?_
  exact Iff.rfl
theorem r204_369 {d : Nat} {X : Nat × (Nat → Int)} {v : Nat → Int} {M : PH} {K : PV → PS → Prop} {l1 l2 : Int} : pm_Run d 204 369 [vA 234, vI l1, vI l2, PU] [] (GF X, M, PTF v) K ↔ pm_Run d 204 450 [vA 234, vI l1, vI l2, PU] [vI 6] (GF X, M, PTF v) K := by
  refine (px_go (by decide +kernel : pm_fe 204 369 = some (.bipush 6, 2)) rfl).trans ?_
  refine (px_goto (off := 79) (tgt := 450) (by decide +kernel)).trans ?_
  exact Iff.rfl
theorem r204_374 {d : Nat} {X : Nat × (Nat → Int)} {v : Nat → Int} {M : PH} {K : PV → PS → Prop} {l1 l2 : Int} : pm_Run d 204 374 [vA 234, vI l1, vI l2, PU] [] (GF X, M, PTF v) K ↔ pm_Call d 189 [vA 234, vL 127978976601458] (GF X, M, PTF v) (fun r9 S1 => pm_Run d 204 381 [vA 234, vI l1, vI l2, PU] (pm_push r9 []) S1 K) := by
  refine (px_go (by decide +kernel : pm_fe 204 374 = some (.aload_n 0, 1)) rfl).trans ?_
  refine (px_ldcL (idx := 279) (x := 127978976601458) (by decide +kernel)).trans ?_
  refine (ry_v1 (idx := 356) (m' := 189) (ci := 12) (by decide +kernel : 234 < 283 ∧ SHF 234 = (12, 76)) (by simp [pm_wl_n, pm_wl_c, pm_w] : pm_wl [] ≤ 8) (by decide +kernel)).trans ?_
  exact Iff.rfl
theorem r204_381 {d : Nat} {X : Nat × (Nat → Int)} {v : Nat → Int} {M : PH} {K : PV → PS → Prop} {l1 l2 s0 : Int} (h1 : inR s0) : pm_Run d 204 381 [vA 234, vI l1, vI l2, PU] [vI s0] (GF X, M, PTF v) K ↔ if s0 = 0 then pm_Run d 204 389 [vA 234, vI l1, vI l2, PU] [] (GF X, M, PTF v) K else pm_Run d 204 384 [vA 234, vI l1, vI l2, PU] [] (GF X, M, PTF v) K := by
  refine (ry_if_eq (off := 8) (tgt := 389) h1 (by decide +kernel)).trans ?_
  exact Iff.rfl
theorem r204_384 {d : Nat} {X : Nat × (Nat → Int)} {v : Nat → Int} {M : PH} {K : PV → PS → Prop} {l1 l2 : Int} : pm_Run d 204 384 [vA 234, vI l1, vI l2, PU] [] (GF X, M, PTF v) K ↔ pm_Run d 204 450 [vA 234, vI l1, vI l2, PU] [vI 7] (GF X, M, PTF v) K := by
  refine (px_go (by decide +kernel : pm_fe 204 384 = some (.bipush 7, 2)) rfl).trans ?_
  refine (px_goto (off := 64) (tgt := 450) (by decide +kernel)).trans ?_
  exact Iff.rfl
theorem r204_389 {d : Nat} {X : Nat × (Nat → Int)} {v : Nat → Int} {M : PH} {K : PV → PS → Prop} {l1 l2 : Int} : pm_Run d 204 389 [vA 234, vI l1, vI l2, PU] [] (GF X, M, PTF v) K ↔ pm_Call d 189 [vA 234, vL 495891278707] (GF X, M, PTF v) (fun r9 S1 => pm_Run d 204 396 [vA 234, vI l1, vI l2, PU] (pm_push r9 []) S1 K) := by
  refine (px_go (by decide +kernel : pm_fe 204 389 = some (.aload_n 0, 1)) rfl).trans ?_
  refine (px_ldcL (idx := 309) (x := 495891278707) (by decide +kernel)).trans ?_
  refine (ry_v1 (idx := 356) (m' := 189) (ci := 12) (by decide +kernel : 234 < 283 ∧ SHF 234 = (12, 76)) (by simp [pm_wl_n, pm_wl_c, pm_w] : pm_wl [] ≤ 8) (by decide +kernel)).trans ?_
  exact Iff.rfl
theorem r204_396 {d : Nat} {X : Nat × (Nat → Int)} {v : Nat → Int} {M : PH} {K : PV → PS → Prop} {l1 l2 s0 : Int} (h1 : inR s0) : pm_Run d 204 396 [vA 234, vI l1, vI l2, PU] [vI s0] (GF X, M, PTF v) K ↔ if s0 = 0 then pm_Run d 204 404 [vA 234, vI l1, vI l2, PU] [] (GF X, M, PTF v) K else pm_Run d 204 399 [vA 234, vI l1, vI l2, PU] [] (GF X, M, PTF v) K := by
  refine (ry_if_eq (off := 8) (tgt := 404) h1 (by decide +kernel)).trans ?_
  exact Iff.rfl
theorem r204_399 {d : Nat} {X : Nat × (Nat → Int)} {v : Nat → Int} {M : PH} {K : PV → PS → Prop} {l1 l2 : Int} : pm_Run d 204 399 [vA 234, vI l1, vI l2, PU] [] (GF X, M, PTF v) K ↔ pm_Run d 204 450 [vA 234, vI l1, vI l2, PU] [vI 8] (GF X, M, PTF v) K := by
  refine (px_go (by decide +kernel : pm_fe 204 399 = some (.bipush 8, 2)) rfl).trans ?_
  refine (px_goto (off := 49) (tgt := 450) (by decide +kernel)).trans ?_
  exact Iff.rfl
theorem r204_404 {d : Nat} {X : Nat × (Nat → Int)} {v : Nat → Int} {M : PH} {K : PV → PS → Prop} {l1 l2 : Int} : pm_Run d 204 404 [vA 234, vI l1, vI l2, PU] [] (GF X, M, PTF v) K ↔ pm_Call d 189 [vA 234, vL 491395637612] (GF X, M, PTF v) (fun r9 S1 => pm_Run d 204 411 [vA 234, vI l1, vI l2, PU] (pm_push r9 []) S1 K) := by
  refine (px_go (by decide +kernel : pm_fe 204 404 = some (.aload_n 0, 1)) rfl).trans ?_
  refine (px_ldcL (idx := 311) (x := 491395637612) (by decide +kernel)).trans ?_
  refine (ry_v1 (idx := 356) (m' := 189) (ci := 12) (by decide +kernel : 234 < 283 ∧ SHF 234 = (12, 76)) (by simp [pm_wl_n, pm_wl_c, pm_w] : pm_wl [] ≤ 8) (by decide +kernel)).trans ?_
  exact Iff.rfl
theorem r204_411 {d : Nat} {X : Nat × (Nat → Int)} {v : Nat → Int} {M : PH} {K : PV → PS → Prop} {l1 l2 s0 : Int} (h1 : inR s0) : pm_Run d 204 411 [vA 234, vI l1, vI l2, PU] [vI s0] (GF X, M, PTF v) K ↔ if s0 = 0 then pm_Run d 204 419 [vA 234, vI l1, vI l2, PU] [] (GF X, M, PTF v) K else pm_Run d 204 414 [vA 234, vI l1, vI l2, PU] [] (GF X, M, PTF v) K := by
  refine (ry_if_eq (off := 8) (tgt := 419) h1 (by decide +kernel)).trans ?_
  exact Iff.rfl
theorem r204_414 {d : Nat} {X : Nat × (Nat → Int)} {v : Nat → Int} {M : PH} {K : PV → PS → Prop} {l1 l2 : Int} : pm_Run d 204 414 [vA 234, vI l1, vI l2, PU] [] (GF X, M, PTF v) K ↔ pm_Run d 204 450 [vA 234, vI l1, vI l2, PU] [vI 9] (GF X, M, PTF v) K := by
  refine (px_go (by decide +kernel : pm_fe 204 414 = some (.bipush 9, 2)) rfl).trans ?_
  refine (px_goto (off := 34) (tgt := 450) (by decide +kernel)).trans ?_
  exact Iff.rfl
theorem r204_419 {d : Nat} {X : Nat × (Nat → Int)} {v : Nat → Int} {M : PH} {K : PV → PS → Prop} {l1 l2 : Int} : pm_Run d 204 419 [vA 234, vI l1, vI l2, PU] [] (GF X, M, PTF v) K ↔ pm_Call d 189 [vA 234, vL 1752135026] (GF X, M, PTF v) (fun r9 S1 => pm_Run d 204 426 [vA 234, vI l1, vI l2, PU] (pm_push r9 []) S1 K) := by
  refine (px_go (by decide +kernel : pm_fe 204 419 = some (.aload_n 0, 1)) rfl).trans ?_
  refine (px_ldcL (idx := 313) (x := 1752135026) (by decide +kernel)).trans ?_
  refine (ry_v1 (idx := 356) (m' := 189) (ci := 12) (by decide +kernel : 234 < 283 ∧ SHF 234 = (12, 76)) (by simp [pm_wl_n, pm_wl_c, pm_w] : pm_wl [] ≤ 8) (by decide +kernel)).trans ?_
  exact Iff.rfl
theorem r204_426 {d : Nat} {X : Nat × (Nat → Int)} {v : Nat → Int} {M : PH} {K : PV → PS → Prop} {l1 l2 s0 : Int} (h1 : inR s0) : pm_Run d 204 426 [vA 234, vI l1, vI l2, PU] [vI s0] (GF X, M, PTF v) K ↔ if s0 = 0 then pm_Run d 204 434 [vA 234, vI l1, vI l2, PU] [] (GF X, M, PTF v) K else pm_Run d 204 429 [vA 234, vI l1, vI l2, PU] [] (GF X, M, PTF v) K := by
  refine (ry_if_eq (off := 8) (tgt := 434) h1 (by decide +kernel)).trans ?_
  exact Iff.rfl
theorem r204_429 {d : Nat} {X : Nat × (Nat → Int)} {v : Nat → Int} {M : PH} {K : PV → PS → Prop} {l1 l2 : Int} : pm_Run d 204 429 [vA 234, vI l1, vI l2, PU] [] (GF X, M, PTF v) K ↔ pm_Run d 204 450 [vA 234, vI l1, vI l2, PU] [vI 31] (GF X, M, PTF v) K := by
  refine (px_go (by decide +kernel : pm_fe 204 429 = some (.bipush 31, 2)) rfl).trans ?_
  refine (px_goto (off := 19) (tgt := 450) (by decide +kernel)).trans ?_
  exact Iff.rfl
theorem r204_434 {d : Nat} {X : Nat × (Nat → Int)} {v : Nat → Int} {M : PH} {K : PV → PS → Prop} {l1 l2 : Int} : pm_Run d 204 434 [vA 234, vI l1, vI l2, PU] [] (GF X, M, PTF v) K ↔ pm_Call d 189 [vA 234, vL 482854658917] (GF X, M, PTF v) (fun r9 S1 => pm_Run d 204 441 [vA 234, vI l1, vI l2, PU] (pm_push r9 []) S1 K) := by
  refine (px_go (by decide +kernel : pm_fe 204 434 = some (.aload_n 0, 1)) rfl).trans ?_
  refine (px_ldcL (idx := 315) (x := 482854658917) (by decide +kernel)).trans ?_
  refine (ry_v1 (idx := 356) (m' := 189) (ci := 12) (by decide +kernel : 234 < 283 ∧ SHF 234 = (12, 76)) (by simp [pm_wl_n, pm_wl_c, pm_w] : pm_wl [] ≤ 8) (by decide +kernel)).trans ?_
  exact Iff.rfl
theorem r204_441 {d : Nat} {X : Nat × (Nat → Int)} {v : Nat → Int} {M : PH} {K : PV → PS → Prop} {l1 l2 s0 : Int} (h1 : inR s0) : pm_Run d 204 441 [vA 234, vI l1, vI l2, PU] [vI s0] (GF X, M, PTF v) K ↔ if s0 = 0 then pm_Run d 204 449 [vA 234, vI l1, vI l2, PU] [] (GF X, M, PTF v) K else pm_Run d 204 444 [vA 234, vI l1, vI l2, PU] [] (GF X, M, PTF v) K := by
  refine (ry_if_eq (off := 8) (tgt := 449) h1 (by decide +kernel)).trans ?_
  exact Iff.rfl
theorem r204_444 {d : Nat} {X : Nat × (Nat → Int)} {v : Nat → Int} {M : PH} {K : PV → PS → Prop} {l1 l2 : Int} : pm_Run d 204 444 [vA 234, vI l1, vI l2, PU] [] (GF X, M, PTF v) K ↔ pm_Run d 204 450 [vA 234, vI l1, vI l2, PU] [vI 32] (GF X, M, PTF v) K := by
  refine (px_go (by decide +kernel : pm_fe 204 444 = some (.bipush 32, 2)) rfl).trans ?_
  refine (px_goto (off := 4) (tgt := 450) (by decide +kernel)).trans ?_
  exact Iff.rfl
theorem r204_449 {d : Nat} {X : Nat × (Nat → Int)} {v : Nat → Int} {M : PH} {K : PV → PS → Prop} {l1 l2 : Int} : pm_Run d 204 449 [vA 234, vI l1, vI l2, PU] [] (GF X, M, PTF v) K ↔ pm_Run d 204 450 [vA 234, vI l1, vI l2, PU] [vI (-1)] (GF X, M, PTF v) K := by
  refine (px_go (by decide +kernel : pm_fe 204 449 = some (.iconst (-1), 1)) rfl).trans ?_
  exact Iff.rfl
theorem r204_450 {d : Nat} {X : Nat × (Nat → Int)} {v : Nat → Int} {M : PH} {K : PV → PS → Prop} {l1 l2 s0 : Int} (h1 : inR s0) : pm_Run d 204 450 [vA 234, vI l1, vI l2, PU] [vI s0] (GF X, M, PTF v) K ↔ if s0 ≠ (-1) then pm_Run d 204 465 [vA 234, vI l1, vI l2, vI s0] [] (GF X, M, PTF v) K else pm_Run d 204 456 [vA 234, vI l1, vI l2, vI s0] [] (GF X, M, PTF v) K := by
  refine (px_go (by decide +kernel : pm_fe 204 450 = some (.istore_n 3, 1)) rfl).trans ?_
  refine (px_go (by decide +kernel : pm_fe 204 451 = some (.iload_n 3, 1)) rfl).trans ?_
  refine (px_go (by decide +kernel : pm_fe 204 452 = some (.iconst (-1), 1)) rfl).trans ?_
  refine (ry_ic_ne (off := 12) (tgt := 465) h1 (by decide : (-2147483648 ≤ ((-1) : Int) ∧ ((-1) : Int) < 2147483648)) (by decide +kernel)).trans ?_
  exact Iff.rfl
theorem r204_456 {d : Nat} {X : Nat × (Nat → Int)} {v : Nat → Int} {M : PH} {K : PV → PS → Prop} {l1 l2 l3 : Int} : pm_Run d 204 456 [vA 234, vI l1, vI l2, vI l3] [] (GF X, M, PTF v) K ↔ pm_Call d 183 [vA 234, vI 1, vI (M 234 4)] (GF X, M, PTF v) (fun r9 S1 => pm_Run d 204 465 [vA 234, vI l1, vI l2, vI l3] (pm_push r9 []) S1 K) := by
  refine (px_go (by decide +kernel : pm_fe 204 456 = some (.aload_n 0, 1)) rfl).trans ?_
  refine (px_go (by decide +kernel : pm_fe 204 457 = some (.iconst 1, 1)) rfl).trans ?_
  refine (px_go (by decide +kernel : pm_fe 204 458 = some (.aload_n 0, 1)) rfl).trans ?_
  refine (ry_get0 (idx := 23) (ci := 12) (k := 4) (by decide +kernel : 234 < 283 ∧ SHF 234 = (12, 76)) (by decide +kernel)).trans ?_
  refine (ry_v2 (idx := 251) (m' := 183) (ci := 12) (by decide +kernel : 234 < 283 ∧ SHF 234 = (12, 76)) (by simp [pm_wl_n, pm_wl_c, pm_w] : pm_wl [] ≤ 8) (by decide +kernel)).trans ?_
  exact Iff.rfl
theorem r204_465 {d : Nat} {X : Nat × (Nat → Int)} {v : Nat → Int} {M : PH} {K : PV → PS → Prop} {l1 l2 l3 : Int} (h1 : inR (M 234 8)) : pm_Run d 204 465 [vA 234, vI l1, vI l2, vI l3] [] (GF X, M, PTF v) K ↔ if M 234 8 ≤ 0 then pm_Run d 204 474 [vA 234, vI l1, vI l2, vI l3] [] (GF X, M, PTF v) K else pm_Run d 204 472 [vA 234, vI l1, vI l2, vI l3] [] (GF X, M, PTF v) K := by
  refine (px_go (by decide +kernel : pm_fe 204 465 = some (.aload_n 0, 1)) rfl).trans ?_
  refine (ry_get0 (idx := 36) (ci := 12) (k := 8) (by decide +kernel : 234 < 283 ∧ SHF 234 = (12, 76)) (by decide +kernel)).trans ?_
  refine (ry_if_le (off := 5) (tgt := 474) h1 (by decide +kernel)).trans ?_
  exact Iff.rfl
theorem r204_472 {d : Nat} {X : Nat × (Nat → Int)} {v : Nat → Int} {M : PH} {K : PV → PS → Prop} {l1 l2 l3 : Int} : pm_Run d 204 472 [vA 234, vI l1, vI l2, vI l3] [] (GF X, M, PTF v) K ↔ K (vI 1) (GF X, M, PTF v) := by
  refine (px_go (by decide +kernel : pm_fe 204 472 = some (.iconst 1, 1)) rfl).trans ?_
  refine (px_rz (by decide +kernel)).trans ((and_iff_right (by decide : (1 : Int) = (0 : Int) ∨ (1 : Int) = (1 : Int))).trans ?_)
  exact Iff.rfl
theorem r204_474 {d : Nat} {X : Nat × (Nat → Int)} {v : Nat → Int} {M : PH} {K : PV → PS → Prop} {l1 l2 l3 : Int} : pm_Run d 204 474 [vA 234, vI l1, vI l2, vI l3] [] (GF X, M, PTF v) K ↔ pm_Call d 197 [vA 234, vI l3, vI (M 234 6)] (GF X, M, PTF v) (fun r9 S1 => pm_Run d 204 483 [vA 234, vI l1, vI l2, vI l3] (pm_push r9 []) S1 K) := by
  refine (px_go (by decide +kernel : pm_fe 204 474 = some (.aload_n 0, 1)) rfl).trans ?_
  refine (px_go (by decide +kernel : pm_fe 204 475 = some (.iload_n 3, 1)) rfl).trans ?_
  refine (px_go (by decide +kernel : pm_fe 204 476 = some (.aload_n 0, 1)) rfl).trans ?_
  refine (ry_get0 (idx := 29) (ci := 12) (k := 6) (by decide +kernel : 234 < 283 ∧ SHF 234 = (12, 76)) (by decide +kernel)).trans ?_
  refine (ry_v2 (idx := 347) (m' := 197) (ci := 12) (by decide +kernel : 234 < 283 ∧ SHF 234 = (12, 76)) (by simp [pm_wl_n, pm_wl_c, pm_w] : pm_wl [] ≤ 8) (by decide +kernel)).trans ?_
  exact Iff.rfl
theorem r204_483 {d : Nat} {X : Nat × (Nat → Int)} {v : Nat → Int} {M : PH} {K : PV → PS → Prop} {l1 l2 l3 : Int} : pm_Run d 204 483 [vA 234, vI l1, vI l2, vI l3] [] (GF X, M, PTF v) K ↔ pm_Call d 187 [vA 234] (GF X, M, PTF v) (fun r9 S1 => pm_Run d 204 487 [vA 234, vI l1, vI l2, vI l3] (pm_push r9 []) S1 K) := by
  refine (px_go (by decide +kernel : pm_fe 204 483 = some (.aload_n 0, 1)) rfl).trans ?_
  refine (ry_v0 (idx := 268) (m' := 187) (ci := 12) (by decide +kernel : 234 < 283 ∧ SHF 234 = (12, 76)) (by simp [pm_wl_n, pm_wl_c, pm_w] : pm_wl [] ≤ 8) (by decide +kernel)).trans ?_
  exact Iff.rfl
theorem r204_487 {d : Nat} {X : Nat × (Nat → Int)} {v : Nat → Int} {M : PH} {K : PV → PS → Prop} {l1 l2 l3 : Int} : pm_Run d 204 487 [vA 234, vI l1, vI l2, vI l3] [] (GF X, M, PTF v) K ↔ K (vI 1) (GF X, M, PTF v) := by
  refine (px_go (by decide +kernel : pm_fe 204 487 = some (.iconst 1, 1)) rfl).trans ?_
  refine (px_rz (by decide +kernel)).trans ((and_iff_right (by decide : (1 : Int) = (0 : Int) ∨ (1 : Int) = (1 : Int))).trans ?_)
  exact Iff.rfl
-- X12_goesOn goesOn()Z
theorem r205_0 {d : Nat} {X : Nat × (Nat → Int)} {v : Nat → Int} {M : PH} {K : PV → PS → Prop} : pm_Run d 205 0 [vA 234, PU, PU, PU, PU] [] (GF X, M, PTF v) K ↔ pm_Call d 186 [vA 234] (GF X, M, PTF v) (fun r9 S1 => pm_Run d 205 4 [vA 234, PU, PU, PU, PU] (pm_push r9 []) S1 K) := by
  refine (px_go (by decide +kernel : pm_fe 205 0 = some (.aload_n 0, 1)) rfl).trans ?_
  refine (ry_v0 (idx := 262) (m' := 186) (ci := 12) (by decide +kernel : 234 < 283 ∧ SHF 234 = (12, 76)) (by simp [pm_wl_n, pm_wl_c, pm_w] : pm_wl [] ≤ 8) (by decide +kernel)).trans ?_
  exact Iff.rfl
theorem r205_4 {d : Nat} {X : Nat × (Nat → Int)} {v : Nat → Int} {M : PH} {K : PV → PS → Prop} (h1 : inR (M 234 8)) : pm_Run d 205 4 [vA 234, PU, PU, PU, PU] [] (GF X, M, PTF v) K ↔ if M 234 8 ≤ 0 then pm_Run d 205 13 [vA 234, PU, PU, PU, PU] [] (GF X, M, PTF v) K else pm_Run d 205 11 [vA 234, PU, PU, PU, PU] [] (GF X, M, PTF v) K := by
  refine (px_go (by decide +kernel : pm_fe 205 4 = some (.aload_n 0, 1)) rfl).trans ?_
  refine (ry_get0 (idx := 36) (ci := 12) (k := 8) (by decide +kernel : 234 < 283 ∧ SHF 234 = (12, 76)) (by decide +kernel)).trans ?_
  refine (ry_if_le (off := 5) (tgt := 13) h1 (by decide +kernel)).trans ?_
  exact Iff.rfl
theorem r205_11 {d : Nat} {X : Nat × (Nat → Int)} {v : Nat → Int} {M : PH} {K : PV → PS → Prop} : pm_Run d 205 11 [vA 234, PU, PU, PU, PU] [] (GF X, M, PTF v) K ↔ K (vI 0) (GF X, M, PTF v) := by
  refine (px_go (by decide +kernel : pm_fe 205 11 = some (.iconst 0, 1)) rfl).trans ?_
  refine (px_rz (by decide +kernel)).trans ((and_iff_right (by decide : (0 : Int) = (0 : Int) ∨ (0 : Int) = (1 : Int))).trans ?_)
  exact Iff.rfl
theorem r205_13 {d : Nat} {X : Nat × (Nat → Int)} {v : Nat → Int} {M : PH} {K : PV → PS → Prop} (h1 : 0 ≤ ((M 234 48) - 1)) (h2 : ((M 234 48) - 1) < 20) : pm_Run d 205 13 [vA 234, PU, PU, PU, PU] [] (GF X, M, PTF v) K ↔ pm_Call d 203 [vI (M 263 ((M 234 48) - 1).toNat)] (GF X, M, PTF v) (fun r9 S1 => pm_Run d 205 31 [vA 234, vI ((M 234 48) - 1), vI (M 263 ((M 234 48) - 1).toNat), PU, PU] (pm_push r9 []) S1 K) := by
  refine (px_go (by decide +kernel : pm_fe 205 13 = some (.aload_n 0, 1)) rfl).trans ?_
  refine (ry_get0 (idx := 158) (ci := 12) (k := 48) (by decide +kernel : 234 < 283 ∧ SHF 234 = (12, 76)) (by decide +kernel)).trans ?_
  refine (px_go (by decide +kernel : pm_fe 205 17 = some (.iconst 1, 1)) rfl).trans ?_
  refine (px_go (by decide +kernel : pm_fe 205 18 = some (.isub, 1)) rfl).trans ?_
  refine (px_go (by decide +kernel : pm_fe 205 19 = some (.istore_n 1, 1)) rfl).trans ?_
  refine (px_go (by decide +kernel : pm_fe 205 20 = some (.aload_n 0, 1)) rfl).trans ?_
  refine (ry_get2 (idx := 142) (ci := 12) (k := 43) (by decide +kernel : 234 < 283 ∧ SHF 234 = (12, 76)) (ptf_l (a := 234) (k := 43) (n := 263) (by decide +kernel)) (by decide +kernel)).trans ?_
  refine (px_go (by decide +kernel : pm_fe 205 24 = some (.iload_n 1, 1)) rfl).trans ?_
  refine (ry_iald (by decide +kernel : 263 < 283 ∧ SHF 263 = (100, 20)) h1 h2 (by decide +kernel)).trans ?_
  refine (px_go (by decide +kernel : pm_fe 205 26 = some (.istore_n 2, 1)) rfl).trans ?_
  refine (px_go (by decide +kernel : pm_fe 205 27 = some (.iload_n 2, 1)) rfl).trans ?_
  refine (px_s1 (idx := 353) (m' := 203) (nest := 0) (by decide +kernel)).trans ((and_iff_right (by simp [pm_wl_n, pm_wl_c, pm_w] : pm_wl [] ≤ 8)).trans ?_)
  exact Iff.rfl
theorem r205_31 {d : Nat} {X : Nat × (Nat → Int)} {v : Nat → Int} {M : PH} {K : PV → PS → Prop} {l1 l2 s0 : Int} (h1 : 0 ≤ l1) (h2 : l1 < 20) (h3 : inR (M 264 l1.toNat)) : pm_Run d 205 31 [vA 234, vI l1, vI l2, PU, PU] [vI s0] (GF X, M, PTF v) K ↔ if 2 ≤ M 264 l1.toNat then pm_Run d 205 188 [vA 234, vI l1, vI l2, vI s0, PU] [] (GF X, M, PTF v) K else pm_Run d 205 42 [vA 234, vI l1, vI l2, vI s0, PU] [] (GF X, M, PTF v) K := by
  refine (px_go (by decide +kernel : pm_fe 205 31 = some (.istore_n 3, 1)) rfl).trans ?_
  refine (px_go (by decide +kernel : pm_fe 205 32 = some (.aload_n 0, 1)) rfl).trans ?_
  refine (ry_get2 (idx := 145) (ci := 12) (k := 44) (by decide +kernel : 234 < 283 ∧ SHF 234 = (12, 76)) (ptf_l (a := 234) (k := 44) (n := 264) (by decide +kernel)) (by decide +kernel)).trans ?_
  refine (px_go (by decide +kernel : pm_fe 205 36 = some (.iload_n 1, 1)) rfl).trans ?_
  refine (ry_iald (by decide +kernel : 264 < 283 ∧ SHF 264 = (100, 20)) h1 h2 (by decide +kernel)).trans ?_
  refine (px_go (by decide +kernel : pm_fe 205 38 = some (.iconst 2, 1)) rfl).trans ?_
  refine (ry_ic_ge (off := 149) (tgt := 188) h3 (by decide : (-2147483648 ≤ (2 : Int) ∧ (2 : Int) < 2147483648)) (by decide +kernel)).trans ?_
  exact Iff.rfl
theorem r205_42 {d : Nat} {X : Nat × (Nat → Int)} {v : Nat → Int} {M : PH} {K : PV → PS → Prop} {l1 l2 l3 : Int} : pm_Run d 205 42 [vA 234, vI l1, vI l2, vI l3, PU] [] (GF X, M, PTF v) K ↔ pm_Call d 188 [vA 234, vI 43] (GF X, M, PTF v) (fun r9 S1 => pm_Run d 205 48 [vA 234, vI l1, vI l2, vI l3, PU] (pm_push r9 []) S1 K) := by
  refine (px_go (by decide +kernel : pm_fe 205 42 = some (.aload_n 0, 1)) rfl).trans ?_
  refine (px_go (by decide +kernel : pm_fe 205 43 = some (.bipush 43, 2)) rfl).trans ?_
  refine (ry_v1 (idx := 265) (m' := 188) (ci := 12) (by decide +kernel : 234 < 283 ∧ SHF 234 = (12, 76)) (by simp [pm_wl_n, pm_wl_c, pm_w] : pm_wl [] ≤ 8) (by decide +kernel)).trans ?_
  exact Iff.rfl
theorem r205_48 {d : Nat} {X : Nat × (Nat → Int)} {v : Nat → Int} {M : PH} {K : PV → PS → Prop} {l1 l2 l3 s0 : Int} (h1 : inR s0) : pm_Run d 205 48 [vA 234, vI l1, vI l2, vI l3, PU] [vI s0] (GF X, M, PTF v) K ↔ if s0 ≠ 0 then pm_Run d 205 87 [vA 234, vI l1, vI l2, vI l3, PU] [] (GF X, M, PTF v) K else pm_Run d 205 51 [vA 234, vI l1, vI l2, vI l3, PU] [] (GF X, M, PTF v) K := by
  refine (ry_if_ne (off := 39) (tgt := 87) h1 (by decide +kernel)).trans ?_
  exact Iff.rfl
theorem r205_51 {d : Nat} {X : Nat × (Nat → Int)} {v : Nat → Int} {M : PH} {K : PV → PS → Prop} {l1 l2 l3 : Int} : pm_Run d 205 51 [vA 234, vI l1, vI l2, vI l3, PU] [] (GF X, M, PTF v) K ↔ pm_Call d 188 [vA 234, vI 45] (GF X, M, PTF v) (fun r9 S1 => pm_Run d 205 57 [vA 234, vI l1, vI l2, vI l3, PU] (pm_push r9 []) S1 K) := by
  refine (px_go (by decide +kernel : pm_fe 205 51 = some (.aload_n 0, 1)) rfl).trans ?_
  refine (px_go (by decide +kernel : pm_fe 205 52 = some (.bipush 45, 2)) rfl).trans ?_
  refine (ry_v1 (idx := 265) (m' := 188) (ci := 12) (by decide +kernel : 234 < 283 ∧ SHF 234 = (12, 76)) (by simp [pm_wl_n, pm_wl_c, pm_w] : pm_wl [] ≤ 8) (by decide +kernel)).trans ?_
  exact Iff.rfl
theorem r205_57 {d : Nat} {X : Nat × (Nat → Int)} {v : Nat → Int} {M : PH} {K : PV → PS → Prop} {l1 l2 l3 s0 : Int} (h1 : inR s0) : pm_Run d 205 57 [vA 234, vI l1, vI l2, vI l3, PU] [vI s0] (GF X, M, PTF v) K ↔ if s0 ≠ 0 then pm_Run d 205 87 [vA 234, vI l1, vI l2, vI l3, PU] [] (GF X, M, PTF v) K else pm_Run d 205 60 [vA 234, vI l1, vI l2, vI l3, PU] [] (GF X, M, PTF v) K := by
  refine (ry_if_ne (off := 30) (tgt := 87) h1 (by decide +kernel)).trans ?_
  exact Iff.rfl
theorem r205_60 {d : Nat} {X : Nat × (Nat → Int)} {v : Nat → Int} {M : PH} {K : PV → PS → Prop} {l1 l2 l3 : Int} : pm_Run d 205 60 [vA 234, vI l1, vI l2, vI l3, PU] [] (GF X, M, PTF v) K ↔ pm_Call d 188 [vA 234, vI 42] (GF X, M, PTF v) (fun r9 S1 => pm_Run d 205 66 [vA 234, vI l1, vI l2, vI l3, PU] (pm_push r9 []) S1 K) := by
  refine (px_go (by decide +kernel : pm_fe 205 60 = some (.aload_n 0, 1)) rfl).trans ?_
  refine (px_go (by decide +kernel : pm_fe 205 61 = some (.bipush 42, 2)) rfl).trans ?_
  refine (ry_v1 (idx := 265) (m' := 188) (ci := 12) (by decide +kernel : 234 < 283 ∧ SHF 234 = (12, 76)) (by simp [pm_wl_n, pm_wl_c, pm_w] : pm_wl [] ≤ 8) (by decide +kernel)).trans ?_
  exact Iff.rfl
theorem r205_66 {d : Nat} {X : Nat × (Nat → Int)} {v : Nat → Int} {M : PH} {K : PV → PS → Prop} {l1 l2 l3 s0 : Int} (h1 : inR s0) : pm_Run d 205 66 [vA 234, vI l1, vI l2, vI l3, PU] [vI s0] (GF X, M, PTF v) K ↔ if s0 ≠ 0 then pm_Run d 205 87 [vA 234, vI l1, vI l2, vI l3, PU] [] (GF X, M, PTF v) K else pm_Run d 205 69 [vA 234, vI l1, vI l2, vI l3, PU] [] (GF X, M, PTF v) K := by
  refine (ry_if_ne (off := 21) (tgt := 87) h1 (by decide +kernel)).trans ?_
  exact Iff.rfl
theorem r205_69 {d : Nat} {X : Nat × (Nat → Int)} {v : Nat → Int} {M : PH} {K : PV → PS → Prop} {l1 l2 l3 : Int} : pm_Run d 205 69 [vA 234, vI l1, vI l2, vI l3, PU] [] (GF X, M, PTF v) K ↔ pm_Call d 188 [vA 234, vI 47] (GF X, M, PTF v) (fun r9 S1 => pm_Run d 205 75 [vA 234, vI l1, vI l2, vI l3, PU] (pm_push r9 []) S1 K) := by
  refine (px_go (by decide +kernel : pm_fe 205 69 = some (.aload_n 0, 1)) rfl).trans ?_
  refine (px_go (by decide +kernel : pm_fe 205 70 = some (.bipush 47, 2)) rfl).trans ?_
  refine (ry_v1 (idx := 265) (m' := 188) (ci := 12) (by decide +kernel : 234 < 283 ∧ SHF 234 = (12, 76)) (by simp [pm_wl_n, pm_wl_c, pm_w] : pm_wl [] ≤ 8) (by decide +kernel)).trans ?_
  exact Iff.rfl
theorem r205_75 {d : Nat} {X : Nat × (Nat → Int)} {v : Nat → Int} {M : PH} {K : PV → PS → Prop} {l1 l2 l3 s0 : Int} (h1 : inR s0) : pm_Run d 205 75 [vA 234, vI l1, vI l2, vI l3, PU] [vI s0] (GF X, M, PTF v) K ↔ if s0 ≠ 0 then pm_Run d 205 87 [vA 234, vI l1, vI l2, vI l3, PU] [] (GF X, M, PTF v) K else pm_Run d 205 78 [vA 234, vI l1, vI l2, vI l3, PU] [] (GF X, M, PTF v) K := by
  refine (ry_if_ne (off := 12) (tgt := 87) h1 (by decide +kernel)).trans ?_
  exact Iff.rfl
theorem r205_78 {d : Nat} {X : Nat × (Nat → Int)} {v : Nat → Int} {M : PH} {K : PV → PS → Prop} {l1 l2 l3 : Int} : pm_Run d 205 78 [vA 234, vI l1, vI l2, vI l3, PU] [] (GF X, M, PTF v) K ↔ pm_Call d 188 [vA 234, vI 37] (GF X, M, PTF v) (fun r9 S1 => pm_Run d 205 84 [vA 234, vI l1, vI l2, vI l3, PU] (pm_push r9 []) S1 K) := by
  refine (px_go (by decide +kernel : pm_fe 205 78 = some (.aload_n 0, 1)) rfl).trans ?_
  refine (px_go (by decide +kernel : pm_fe 205 79 = some (.bipush 37, 2)) rfl).trans ?_
  refine (ry_v1 (idx := 265) (m' := 188) (ci := 12) (by decide +kernel : 234 < 283 ∧ SHF 234 = (12, 76)) (by simp [pm_wl_n, pm_wl_c, pm_w] : pm_wl [] ≤ 8) (by decide +kernel)).trans ?_
  exact Iff.rfl
theorem r205_84 {d : Nat} {X : Nat × (Nat → Int)} {v : Nat → Int} {M : PH} {K : PV → PS → Prop} {l1 l2 l3 s0 : Int} (h1 : inR s0) : pm_Run d 205 84 [vA 234, vI l1, vI l2, vI l3, PU] [vI s0] (GF X, M, PTF v) K ↔ if s0 = 0 then pm_Run d 205 188 [vA 234, vI l1, vI l2, vI l3, PU] [] (GF X, M, PTF v) K else pm_Run d 205 87 [vA 234, vI l1, vI l2, vI l3, PU] [] (GF X, M, PTF v) K := by
  refine (ry_if_eq (off := 104) (tgt := 188) h1 (by decide +kernel)).trans ?_
  exact Iff.rfl
theorem r205_87 {d : Nat} {X : Nat × (Nat → Int)} {v : Nat → Int} {M : PH} {K : PV → PS → Prop} {l1 l2 l3 : Int} : pm_Run d 205 87 [vA 234, vI l1, vI l2, vI l3, PU] [] (GF X, M, PTF v) K ↔ pm_Call d 188 [vA 234, vI 43] (GF X, M, PTF v) (fun r9 S1 => pm_Run d 205 94 [vA 234, vI l1, vI l2, vI l3, PU] (pm_push r9 [vA 234]) S1 K) := by
  refine (px_go (by decide +kernel : pm_fe 205 87 = some (.aload_n 0, 1)) rfl).trans ?_
  refine (px_go (by decide +kernel : pm_fe 205 88 = some (.aload_n 0, 1)) rfl).trans ?_
  refine (px_go (by decide +kernel : pm_fe 205 89 = some (.bipush 43, 2)) rfl).trans ?_
  refine (ry_v1 (idx := 265) (m' := 188) (ci := 12) (by decide +kernel : 234 < 283 ∧ SHF 234 = (12, 76)) (by simp [pm_wl_n, pm_wl_c, pm_w] : pm_wl [vA 234] ≤ 8) (by decide +kernel)).trans ?_
  exact Iff.rfl
theorem r205_94 {d : Nat} {X : Nat × (Nat → Int)} {v : Nat → Int} {M : PH} {K : PV → PS → Prop} {l1 l2 l3 s0 : Int} (h1 : inR s0) : pm_Run d 205 94 [vA 234, vI l1, vI l2, vI l3, PU] [vI s0, vA 234] (GF X, M, PTF v) K ↔ if s0 ≠ 0 then pm_Run d 205 106 [vA 234, vI l1, vI l2, vI l3, PU] [vA 234] (GF X, M, PTF v) K else pm_Run d 205 97 [vA 234, vI l1, vI l2, vI l3, PU] [vA 234] (GF X, M, PTF v) K := by
  refine (ry_if_ne (off := 12) (tgt := 106) h1 (by decide +kernel)).trans ?_
  exact Iff.rfl
theorem r205_97 {d : Nat} {X : Nat × (Nat → Int)} {v : Nat → Int} {M : PH} {K : PV → PS → Prop} {l1 l2 l3 : Int} : pm_Run d 205 97 [vA 234, vI l1, vI l2, vI l3, PU] [vA 234] (GF X, M, PTF v) K ↔ pm_Call d 188 [vA 234, vI 45] (GF X, M, PTF v) (fun r9 S1 => pm_Run d 205 103 [vA 234, vI l1, vI l2, vI l3, PU] (pm_push r9 [vA 234]) S1 K) := by
  refine (px_go (by decide +kernel : pm_fe 205 97 = some (.aload_n 0, 1)) rfl).trans ?_
  refine (px_go (by decide +kernel : pm_fe 205 98 = some (.bipush 45, 2)) rfl).trans ?_
  refine (ry_v1 (idx := 265) (m' := 188) (ci := 12) (by decide +kernel : 234 < 283 ∧ SHF 234 = (12, 76)) (by simp [pm_wl_n, pm_wl_c, pm_w] : pm_wl [vA 234] ≤ 8) (by decide +kernel)).trans ?_
  exact Iff.rfl
theorem r205_103 {d : Nat} {X : Nat × (Nat → Int)} {v : Nat → Int} {M : PH} {K : PV → PS → Prop} {l1 l2 l3 s0 : Int} (h1 : inR s0) : pm_Run d 205 103 [vA 234, vI l1, vI l2, vI l3, PU] [vI s0, vA 234] (GF X, M, PTF v) K ↔ if s0 = 0 then pm_Run d 205 110 [vA 234, vI l1, vI l2, vI l3, PU] [vA 234] (GF X, M, PTF v) K else pm_Run d 205 106 [vA 234, vI l1, vI l2, vI l3, PU] [vA 234] (GF X, M, PTF v) K := by
  refine (ry_if_eq (off := 7) (tgt := 110) h1 (by decide +kernel)).trans ?_
  exact Iff.rfl
theorem r205_106 {d : Nat} {X : Nat × (Nat → Int)} {v : Nat → Int} {M : PH} {K : PV → PS → Prop} {l1 l2 l3 : Int} : pm_Run d 205 106 [vA 234, vI l1, vI l2, vI l3, PU] [vA 234] (GF X, M, PTF v) K ↔ pm_Run d 205 112 [vA 234, vI l1, vI l2, vI l3, PU] [vI 5, vA 234] (GF X, M, PTF v) K := by
  refine (px_go (by decide +kernel : pm_fe 205 106 = some (.iconst 5, 1)) rfl).trans ?_
  refine (px_goto (off := 5) (tgt := 112) (by decide +kernel)).trans ?_
  exact Iff.rfl
theorem r205_110 {d : Nat} {X : Nat × (Nat → Int)} {v : Nat → Int} {M : PH} {K : PV → PS → Prop} {l1 l2 l3 : Int} : pm_Run d 205 110 [vA 234, vI l1, vI l2, vI l3, PU] [vA 234] (GF X, M, PTF v) K ↔ pm_Run d 205 112 [vA 234, vI l1, vI l2, vI l3, PU] [vI 6, vA 234] (GF X, M, PTF v) K := by
  refine (px_go (by decide +kernel : pm_fe 205 110 = some (.bipush 6, 2)) rfl).trans ?_
  exact Iff.rfl
theorem r205_112 {d : Nat} {X : Nat × (Nat → Int)} {v : Nat → Int} {M : PH} {K : PV → PS → Prop} {l1 l2 l3 s0 : Int} : pm_Run d 205 112 [vA 234, vI l1, vI l2, vI l3, PU] [vI s0, vA 234] (GF X, M, PTF v) K ↔ pm_Call d 199 [vA 234, vI s0] (GF X, M, PTF v) (fun r9 S1 => pm_Run d 205 115 [vA 234, vI l1, vI l2, vI l3, PU] (pm_push r9 []) S1 K) := by
  refine (ry_v1 (idx := 366) (m' := 199) (ci := 12) (by decide +kernel : 234 < 283 ∧ SHF 234 = (12, 76)) (by simp [pm_wl_n, pm_wl_c, pm_w] : pm_wl [] ≤ 8) (by decide +kernel)).trans ?_
  exact Iff.rfl
theorem r205_115 {d : Nat} {X : Nat × (Nat → Int)} {v : Nat → Int} {M : PH} {K : PV → PS → Prop} {l1 l2 l3 : Int} : pm_Run d 205 115 [vA 234, vI l1, vI l2, vI l3, PU] [] (GF X, M, PTF v) K ↔ pm_Call d 188 [vA 234, vI 43] (GF X, M, PTF v) (fun r9 S1 => pm_Run d 205 122 [vA 234, vI l1, vI l2, vI l3, PU] (pm_push r9 [vA 234]) S1 K) := by
  refine (px_go (by decide +kernel : pm_fe 205 115 = some (.aload_n 0, 1)) rfl).trans ?_
  refine (px_go (by decide +kernel : pm_fe 205 116 = some (.aload_n 0, 1)) rfl).trans ?_
  refine (px_go (by decide +kernel : pm_fe 205 117 = some (.bipush 43, 2)) rfl).trans ?_
  refine (ry_v1 (idx := 265) (m' := 188) (ci := 12) (by decide +kernel : 234 < 283 ∧ SHF 234 = (12, 76)) (by simp [pm_wl_n, pm_wl_c, pm_w] : pm_wl [vA 234] ≤ 8) (by decide +kernel)).trans ?_
  exact Iff.rfl
theorem r205_122 {d : Nat} {X : Nat × (Nat → Int)} {v : Nat → Int} {M : PH} {K : PV → PS → Prop} {l1 l2 l3 s0 : Int} (h1 : inR s0) : pm_Run d 205 122 [vA 234, vI l1, vI l2, vI l3, PU] [vI s0, vA 234] (GF X, M, PTF v) K ↔ if s0 = 0 then pm_Run d 205 130 [vA 234, vI l1, vI l2, vI l3, PU] [vA 234] (GF X, M, PTF v) K else pm_Run d 205 125 [vA 234, vI l1, vI l2, vI l3, PU] [vA 234] (GF X, M, PTF v) K := by
  refine (ry_if_eq (off := 8) (tgt := 130) h1 (by decide +kernel)).trans ?_
  exact Iff.rfl
theorem r205_125 {d : Nat} {X : Nat × (Nat → Int)} {v : Nat → Int} {M : PH} {K : PV → PS → Prop} {l1 l2 l3 : Int} : pm_Run d 205 125 [vA 234, vI l1, vI l2, vI l3, PU] [vA 234] (GF X, M, PTF v) K ↔ pm_Run d 205 174 [vA 234, vI l1, vI l2, vI l3, PU] [vI 10, vA 234] (GF X, M, PTF v) K := by
  refine (px_go (by decide +kernel : pm_fe 205 125 = some (.bipush 10, 2)) rfl).trans ?_
  refine (px_goto (off := 47) (tgt := 174) (by decide +kernel)).trans ?_
  exact Iff.rfl
theorem r205_130 {d : Nat} {X : Nat × (Nat → Int)} {v : Nat → Int} {M : PH} {K : PV → PS → Prop} {l1 l2 l3 : Int} : pm_Run d 205 130 [vA 234, vI l1, vI l2, vI l3, PU] [vA 234] (GF X, M, PTF v) K ↔ pm_Call d 188 [vA 234, vI 45] (GF X, M, PTF v) (fun r9 S1 => pm_Run d 205 136 [vA 234, vI l1, vI l2, vI l3, PU] (pm_push r9 [vA 234]) S1 K) := by
  refine (px_go (by decide +kernel : pm_fe 205 130 = some (.aload_n 0, 1)) rfl).trans ?_
  refine (px_go (by decide +kernel : pm_fe 205 131 = some (.bipush 45, 2)) rfl).trans ?_
  refine (ry_v1 (idx := 265) (m' := 188) (ci := 12) (by decide +kernel : 234 < 283 ∧ SHF 234 = (12, 76)) (by simp [pm_wl_n, pm_wl_c, pm_w] : pm_wl [vA 234] ≤ 8) (by decide +kernel)).trans ?_
  exact Iff.rfl
theorem r205_136 {d : Nat} {X : Nat × (Nat → Int)} {v : Nat → Int} {M : PH} {K : PV → PS → Prop} {l1 l2 l3 s0 : Int} (h1 : inR s0) : pm_Run d 205 136 [vA 234, vI l1, vI l2, vI l3, PU] [vI s0, vA 234] (GF X, M, PTF v) K ↔ if s0 = 0 then pm_Run d 205 144 [vA 234, vI l1, vI l2, vI l3, PU] [vA 234] (GF X, M, PTF v) K else pm_Run d 205 139 [vA 234, vI l1, vI l2, vI l3, PU] [vA 234] (GF X, M, PTF v) K := by
  refine (ry_if_eq (off := 8) (tgt := 144) h1 (by decide +kernel)).trans ?_
  exact Iff.rfl
theorem r205_139 {d : Nat} {X : Nat × (Nat → Int)} {v : Nat → Int} {M : PH} {K : PV → PS → Prop} {l1 l2 l3 : Int} : pm_Run d 205 139 [vA 234, vI l1, vI l2, vI l3, PU] [vA 234] (GF X, M, PTF v) K ↔ pm_Run d 205 174 [vA 234, vI l1, vI l2, vI l3, PU] [vI 11, vA 234] (GF X, M, PTF v) K := by
  refine (px_go (by decide +kernel : pm_fe 205 139 = some (.bipush 11, 2)) rfl).trans ?_
  refine (px_goto (off := 33) (tgt := 174) (by decide +kernel)).trans ?_
  exact Iff.rfl
theorem r205_144 {d : Nat} {X : Nat × (Nat → Int)} {v : Nat → Int} {M : PH} {K : PV → PS → Prop} {l1 l2 l3 : Int} : pm_Run d 205 144 [vA 234, vI l1, vI l2, vI l3, PU] [vA 234] (GF X, M, PTF v) K ↔ pm_Call d 188 [vA 234, vI 42] (GF X, M, PTF v) (fun r9 S1 => pm_Run d 205 150 [vA 234, vI l1, vI l2, vI l3, PU] (pm_push r9 [vA 234]) S1 K) := by
  refine (px_go (by decide +kernel : pm_fe 205 144 = some (.aload_n 0, 1)) rfl).trans ?_
  refine (px_go (by decide +kernel : pm_fe 205 145 = some (.bipush 42, 2)) rfl).trans ?_
  refine (ry_v1 (idx := 265) (m' := 188) (ci := 12) (by decide +kernel : 234 < 283 ∧ SHF 234 = (12, 76)) (by simp [pm_wl_n, pm_wl_c, pm_w] : pm_wl [vA 234] ≤ 8) (by decide +kernel)).trans ?_
  exact Iff.rfl
theorem r205_150 {d : Nat} {X : Nat × (Nat → Int)} {v : Nat → Int} {M : PH} {K : PV → PS → Prop} {l1 l2 l3 s0 : Int} (h1 : inR s0) : pm_Run d 205 150 [vA 234, vI l1, vI l2, vI l3, PU] [vI s0, vA 234] (GF X, M, PTF v) K ↔ if s0 = 0 then pm_Run d 205 158 [vA 234, vI l1, vI l2, vI l3, PU] [vA 234] (GF X, M, PTF v) K else pm_Run d 205 153 [vA 234, vI l1, vI l2, vI l3, PU] [vA 234] (GF X, M, PTF v) K := by
  refine (ry_if_eq (off := 8) (tgt := 158) h1 (by decide +kernel)).trans ?_
  exact Iff.rfl
theorem r205_153 {d : Nat} {X : Nat × (Nat → Int)} {v : Nat → Int} {M : PH} {K : PV → PS → Prop} {l1 l2 l3 : Int} : pm_Run d 205 153 [vA 234, vI l1, vI l2, vI l3, PU] [vA 234] (GF X, M, PTF v) K ↔ pm_Run d 205 174 [vA 234, vI l1, vI l2, vI l3, PU] [vI 12, vA 234] (GF X, M, PTF v) K := by
  refine (px_go (by decide +kernel : pm_fe 205 153 = some (.bipush 12, 2)) rfl).trans ?_
  refine (px_goto (off := 19) (tgt := 174) (by decide +kernel)).trans ?_
  exact Iff.rfl
theorem r205_158 {d : Nat} {X : Nat × (Nat → Int)} {v : Nat → Int} {M : PH} {K : PV → PS → Prop} {l1 l2 l3 : Int} : pm_Run d 205 158 [vA 234, vI l1, vI l2, vI l3, PU] [vA 234] (GF X, M, PTF v) K ↔ pm_Call d 188 [vA 234, vI 47] (GF X, M, PTF v) (fun r9 S1 => pm_Run d 205 164 [vA 234, vI l1, vI l2, vI l3, PU] (pm_push r9 [vA 234]) S1 K) := by
  refine (px_go (by decide +kernel : pm_fe 205 158 = some (.aload_n 0, 1)) rfl).trans ?_
  refine (px_go (by decide +kernel : pm_fe 205 159 = some (.bipush 47, 2)) rfl).trans ?_
  refine (ry_v1 (idx := 265) (m' := 188) (ci := 12) (by decide +kernel : 234 < 283 ∧ SHF 234 = (12, 76)) (by simp [pm_wl_n, pm_wl_c, pm_w] : pm_wl [vA 234] ≤ 8) (by decide +kernel)).trans ?_
  exact Iff.rfl
theorem r205_164 {d : Nat} {X : Nat × (Nat → Int)} {v : Nat → Int} {M : PH} {K : PV → PS → Prop} {l1 l2 l3 s0 : Int} (h1 : inR s0) : pm_Run d 205 164 [vA 234, vI l1, vI l2, vI l3, PU] [vI s0, vA 234] (GF X, M, PTF v) K ↔ if s0 = 0 then pm_Run d 205 172 [vA 234, vI l1, vI l2, vI l3, PU] [vA 234] (GF X, M, PTF v) K else pm_Run d 205 167 [vA 234, vI l1, vI l2, vI l3, PU] [vA 234] (GF X, M, PTF v) K := by
  refine (ry_if_eq (off := 8) (tgt := 172) h1 (by decide +kernel)).trans ?_
  exact Iff.rfl
theorem r205_167 {d : Nat} {X : Nat × (Nat → Int)} {v : Nat → Int} {M : PH} {K : PV → PS → Prop} {l1 l2 l3 : Int} : pm_Run d 205 167 [vA 234, vI l1, vI l2, vI l3, PU] [vA 234] (GF X, M, PTF v) K ↔ pm_Run d 205 174 [vA 234, vI l1, vI l2, vI l3, PU] [vI 13, vA 234] (GF X, M, PTF v) K := by
  refine (px_go (by decide +kernel : pm_fe 205 167 = some (.bipush 13, 2)) rfl).trans ?_
  refine (px_goto (off := 5) (tgt := 174) (by decide +kernel)).trans ?_
  exact Iff.rfl
theorem r205_172 {d : Nat} {X : Nat × (Nat → Int)} {v : Nat → Int} {M : PH} {K : PV → PS → Prop} {l1 l2 l3 : Int} : pm_Run d 205 172 [vA 234, vI l1, vI l2, vI l3, PU] [vA 234] (GF X, M, PTF v) K ↔ pm_Run d 205 174 [vA 234, vI l1, vI l2, vI l3, PU] [vI 14, vA 234] (GF X, M, PTF v) K := by
  refine (px_go (by decide +kernel : pm_fe 205 172 = some (.bipush 14, 2)) rfl).trans ?_
  exact Iff.rfl
theorem r205_174 {d : Nat} {X : Nat × (Nat → Int)} {v : Nat → Int} {M : PH} {K : PV → PS → Prop} {l1 l2 l3 s0 : Int} : pm_Run d 205 174 [vA 234, vI l1, vI l2, vI l3, PU] [vI s0, vA 234] (GF X, M, PTF v) K ↔ pm_Call d 200 [vA 234, vI s0] (GF X, M, PTF v) (fun r9 S1 => pm_Run d 205 177 [vA 234, vI l1, vI l2, vI l3, PU] (pm_push r9 []) S1 K) := by
  refine (ry_v1 (idx := 360) (m' := 200) (ci := 12) (by decide +kernel : 234 < 283 ∧ SHF 234 = (12, 76)) (by simp [pm_wl_n, pm_wl_c, pm_w] : pm_wl [] ≤ 8) (by decide +kernel)).trans ?_
  exact Iff.rfl
theorem r205_177 {d : Nat} {X : Nat × (Nat → Int)} {v : Nat → Int} {M : PH} {K : PV → PS → Prop} {l1 l2 l3 : Int} : pm_Run d 205 177 [vA 234, vI l1, vI l2, vI l3, PU] [] (GF X, M, PTF v) K ↔ pm_Call d 187 [vA 234] (GF X, M, PTF v) (fun r9 S1 => pm_Run d 205 181 [vA 234, vI l1, vI l2, vI l3, PU] (pm_push r9 []) S1 K) := by
  refine (px_go (by decide +kernel : pm_fe 205 177 = some (.aload_n 0, 1)) rfl).trans ?_
  refine (ry_v0 (idx := 268) (m' := 187) (ci := 12) (by decide +kernel : 234 < 283 ∧ SHF 234 = (12, 76)) (by simp [pm_wl_n, pm_wl_c, pm_w] : pm_wl [] ≤ 8) (by decide +kernel)).trans ?_
  exact Iff.rfl
theorem r205_181 {d : Nat} {X : Nat × (Nat → Int)} {v : Nat → Int} {M : PH} {K : PV → PS → Prop} {l1 l2 l3 : Int} : pm_Run d 205 181 [vA 234, vI l1, vI l2, vI l3, PU] [] (GF X, M, PTF v) K ↔ pm_Run d 205 186 [vA 234, vI l1, vI l2, vI l3, PU] [] (GF X, pm_sa M 234 (pm_up (M 234) 52 0), PTF v) K := by
  refine (px_go (by decide +kernel : pm_fe 205 181 = some (.aload_n 0, 1)) rfl).trans ?_
  refine (px_go (by decide +kernel : pm_fe 205 182 = some (.iconst 0, 1)) rfl).trans ?_
  refine (ry_put3 (idx := 170) (ci := 12) (k := 52) (by decide +kernel : 234 < 283 ∧ SHF 234 = (12, 76)) (by decide : (0 : Int) = (0 : Int) ∨ (0 : Int) = (1 : Int)) (by decide +kernel)).trans ?_
  exact Iff.rfl
theorem r205_186 {d : Nat} {X : Nat × (Nat → Int)} {v : Nat → Int} {M : PH} {K : PV → PS → Prop} {l1 l2 l3 : Int} : pm_Run d 205 186 [vA 234, vI l1, vI l2, vI l3, PU] [] (GF X, M, PTF v) K ↔ K (vI 1) (GF X, M, PTF v) := by
  refine (px_go (by decide +kernel : pm_fe 205 186 = some (.iconst 1, 1)) rfl).trans ?_
  refine (px_rz (by decide +kernel)).trans ((and_iff_right (by decide : (1 : Int) = (0 : Int) ∨ (1 : Int) = (1 : Int))).trans ?_)
  exact Iff.rfl
theorem r205_188 {d : Nat} {X : Nat × (Nat → Int)} {v : Nat → Int} {M : PH} {K : PV → PS → Prop} {l1 l2 l3 : Int} (h1 : inR l3) : pm_Run d 205 188 [vA 234, vI l1, vI l2, vI l3, PU] [] (GF X, M, PTF v) K ↔ if l3 = 0 then pm_Run d 205 285 [vA 234, vI l1, vI l2, vI l3, PU] [] (GF X, M, PTF v) K else pm_Run d 205 192 [vA 234, vI l1, vI l2, vI l3, PU] [] (GF X, M, PTF v) K := by
  refine (px_go (by decide +kernel : pm_fe 205 188 = some (.iload_n 3, 1)) rfl).trans ?_
  refine (ry_if_eq (off := 96) (tgt := 285) h1 (by decide +kernel)).trans ?_
  exact Iff.rfl
theorem r205_192 {d : Nat} {X : Nat × (Nat → Int)} {v : Nat → Int} {M : PH} {K : PV → PS → Prop} {l1 l2 l3 : Int} (h1 : 0 ≤ l1) (h2 : l1 < 20) (h3 : inR (M 264 l1.toNat)) : pm_Run d 205 192 [vA 234, vI l1, vI l2, vI l3, PU] [] (GF X, M, PTF v) K ↔ if M 264 l1.toNat ≠ 0 then pm_Run d 205 285 [vA 234, vI l1, vI l2, vI l3, PU] [] (GF X, M, PTF v) K else pm_Run d 205 201 [vA 234, vI l1, vI l2, vI l3, PU] [] (GF X, M, PTF v) K := by
  refine (px_go (by decide +kernel : pm_fe 205 192 = some (.aload_n 0, 1)) rfl).trans ?_
  refine (ry_get2 (idx := 145) (ci := 12) (k := 44) (by decide +kernel : 234 < 283 ∧ SHF 234 = (12, 76)) (ptf_l (a := 234) (k := 44) (n := 264) (by decide +kernel)) (by decide +kernel)).trans ?_
  refine (px_go (by decide +kernel : pm_fe 205 196 = some (.iload_n 1, 1)) rfl).trans ?_
  refine (ry_iald (by decide +kernel : 264 < 283 ∧ SHF 264 = (100, 20)) h1 h2 (by decide +kernel)).trans ?_
  refine (ry_if_ne (off := 87) (tgt := 285) h3 (by decide +kernel)).trans ?_
  exact Iff.rfl
theorem r205_201 {d : Nat} {X : Nat × (Nat → Int)} {v : Nat → Int} {M : PH} {K : PV → PS → Prop} {l1 l2 l3 : Int} : pm_Run d 205 201 [vA 234, vI l1, vI l2, vI l3, PU] [] (GF X, M, PTF v) K ↔ pm_Call d 188 [vA 234, vI 60] (GF X, M, PTF v) (fun r9 S1 => pm_Run d 205 207 [vA 234, vI l1, vI l2, vI l3, PU] (pm_push r9 []) S1 K) := by
  refine (px_go (by decide +kernel : pm_fe 205 201 = some (.aload_n 0, 1)) rfl).trans ?_
  refine (px_go (by decide +kernel : pm_fe 205 202 = some (.bipush 60, 2)) rfl).trans ?_
  refine (ry_v1 (idx := 265) (m' := 188) (ci := 12) (by decide +kernel : 234 < 283 ∧ SHF 234 = (12, 76)) (by simp [pm_wl_n, pm_wl_c, pm_w] : pm_wl [] ≤ 8) (by decide +kernel)).trans ?_
  exact Iff.rfl
theorem r205_207 {d : Nat} {X : Nat × (Nat → Int)} {v : Nat → Int} {M : PH} {K : PV → PS → Prop} {l1 l2 l3 s0 : Int} (h1 : inR s0) : pm_Run d 205 207 [vA 234, vI l1, vI l2, vI l3, PU] [vI s0] (GF X, M, PTF v) K ↔ if s0 ≠ 0 then pm_Run d 205 228 [vA 234, vI l1, vI l2, vI l3, PU] [] (GF X, M, PTF v) K else pm_Run d 205 210 [vA 234, vI l1, vI l2, vI l3, PU] [] (GF X, M, PTF v) K := by
  refine (ry_if_ne (off := 21) (tgt := 228) h1 (by decide +kernel)).trans ?_
  exact Iff.rfl
theorem r205_210 {d : Nat} {X : Nat × (Nat → Int)} {v : Nat → Int} {M : PH} {K : PV → PS → Prop} {l1 l2 l3 : Int} : pm_Run d 205 210 [vA 234, vI l1, vI l2, vI l3, PU] [] (GF X, M, PTF v) K ↔ pm_Call d 188 [vA 234, vI 62] (GF X, M, PTF v) (fun r9 S1 => pm_Run d 205 216 [vA 234, vI l1, vI l2, vI l3, PU] (pm_push r9 []) S1 K) := by
  refine (px_go (by decide +kernel : pm_fe 205 210 = some (.aload_n 0, 1)) rfl).trans ?_
  refine (px_go (by decide +kernel : pm_fe 205 211 = some (.bipush 62, 2)) rfl).trans ?_
  refine (ry_v1 (idx := 265) (m' := 188) (ci := 12) (by decide +kernel : 234 < 283 ∧ SHF 234 = (12, 76)) (by simp [pm_wl_n, pm_wl_c, pm_w] : pm_wl [] ≤ 8) (by decide +kernel)).trans ?_
  exact Iff.rfl
theorem r205_216 {d : Nat} {X : Nat × (Nat → Int)} {v : Nat → Int} {M : PH} {K : PV → PS → Prop} {l1 l2 l3 s0 : Int} (h1 : inR s0) : pm_Run d 205 216 [vA 234, vI l1, vI l2, vI l3, PU] [vI s0] (GF X, M, PTF v) K ↔ if s0 ≠ 0 then pm_Run d 205 228 [vA 234, vI l1, vI l2, vI l3, PU] [] (GF X, M, PTF v) K else pm_Run d 205 219 [vA 234, vI l1, vI l2, vI l3, PU] [] (GF X, M, PTF v) K := by
  refine (ry_if_ne (off := 12) (tgt := 228) h1 (by decide +kernel)).trans ?_
  exact Iff.rfl
theorem r205_219 {d : Nat} {X : Nat × (Nat → Int)} {v : Nat → Int} {M : PH} {K : PV → PS → Prop} {l1 l2 l3 : Int} : pm_Run d 205 219 [vA 234, vI l1, vI l2, vI l3, PU] [] (GF X, M, PTF v) K ↔ pm_Call d 188 [vA 234, vI 61] (GF X, M, PTF v) (fun r9 S1 => pm_Run d 205 225 [vA 234, vI l1, vI l2, vI l3, PU] (pm_push r9 []) S1 K) := by
  refine (px_go (by decide +kernel : pm_fe 205 219 = some (.aload_n 0, 1)) rfl).trans ?_
  refine (px_go (by decide +kernel : pm_fe 205 220 = some (.bipush 61, 2)) rfl).trans ?_
  refine (ry_v1 (idx := 265) (m' := 188) (ci := 12) (by decide +kernel : 234 < 283 ∧ SHF 234 = (12, 76)) (by simp [pm_wl_n, pm_wl_c, pm_w] : pm_wl [] ≤ 8) (by decide +kernel)).trans ?_
  exact Iff.rfl
theorem r205_225 {d : Nat} {X : Nat × (Nat → Int)} {v : Nat → Int} {M : PH} {K : PV → PS → Prop} {l1 l2 l3 s0 : Int} (h1 : inR s0) : pm_Run d 205 225 [vA 234, vI l1, vI l2, vI l3, PU] [vI s0] (GF X, M, PTF v) K ↔ if s0 = 0 then pm_Run d 205 285 [vA 234, vI l1, vI l2, vI l3, PU] [] (GF X, M, PTF v) K else pm_Run d 205 228 [vA 234, vI l1, vI l2, vI l3, PU] [] (GF X, M, PTF v) K := by
  refine (ry_if_eq (off := 60) (tgt := 285) h1 (by decide +kernel)).trans ?_
  exact Iff.rfl
theorem r205_228 {d : Nat} {X : Nat × (Nat → Int)} {v : Nat → Int} {M : PH} {K : PV → PS → Prop} {l1 l2 l3 : Int} : pm_Run d 205 228 [vA 234, vI l1, vI l2, vI l3, PU] [] (GF X, M, PTF v) K ↔ pm_Call d 199 [vA 234, vI 5] (GF X, M, PTF v) (fun r9 S1 => pm_Run d 205 233 [vA 234, vI l1, vI l2, vI l3, PU] (pm_push r9 []) S1 K) := by
  refine (px_go (by decide +kernel : pm_fe 205 228 = some (.aload_n 0, 1)) rfl).trans ?_
  refine (px_go (by decide +kernel : pm_fe 205 229 = some (.iconst 5, 1)) rfl).trans ?_
  refine (ry_v1 (idx := 366) (m' := 199) (ci := 12) (by decide +kernel : 234 < 283 ∧ SHF 234 = (12, 76)) (by simp [pm_wl_n, pm_wl_c, pm_w] : pm_wl [] ≤ 8) (by decide +kernel)).trans ?_
  exact Iff.rfl
theorem r205_233 {d : Nat} {X : Nat × (Nat → Int)} {v : Nat → Int} {M : PH} {K : PV → PS → Prop} {l1 l2 l3 : Int} : pm_Run d 205 233 [vA 234, vI l1, vI l2, vI l3, PU] [] (GF X, M, PTF v) K ↔ pm_Call d 188 [vA 234, vI 60] (GF X, M, PTF v) (fun r9 S1 => pm_Run d 205 240 [vA 234, vI l1, vI l2, vI l3, PU] (pm_push r9 [vA 234]) S1 K) := by
  refine (px_go (by decide +kernel : pm_fe 205 233 = some (.aload_n 0, 1)) rfl).trans ?_
  refine (px_go (by decide +kernel : pm_fe 205 234 = some (.aload_n 0, 1)) rfl).trans ?_
  refine (px_go (by decide +kernel : pm_fe 205 235 = some (.bipush 60, 2)) rfl).trans ?_
  refine (ry_v1 (idx := 265) (m' := 188) (ci := 12) (by decide +kernel : 234 < 283 ∧ SHF 234 = (12, 76)) (by simp [pm_wl_n, pm_wl_c, pm_w] : pm_wl [vA 234] ≤ 8) (by decide +kernel)).trans ?_
  exact Iff.rfl
theorem r205_240 {d : Nat} {X : Nat × (Nat → Int)} {v : Nat → Int} {M : PH} {K : PV → PS → Prop} {l1 l2 l3 s0 : Int} (h1 : inR s0) : pm_Run d 205 240 [vA 234, vI l1, vI l2, vI l3, PU] [vI s0, vA 234] (GF X, M, PTF v) K ↔ if s0 = 0 then pm_Run d 205 248 [vA 234, vI l1, vI l2, vI l3, PU] [vA 234] (GF X, M, PTF v) K else pm_Run d 205 243 [vA 234, vI l1, vI l2, vI l3, PU] [vA 234] (GF X, M, PTF v) K := by
  refine (ry_if_eq (off := 8) (tgt := 248) h1 (by decide +kernel)).trans ?_
  exact Iff.rfl
theorem r205_243 {d : Nat} {X : Nat × (Nat → Int)} {v : Nat → Int} {M : PH} {K : PV → PS → Prop} {l1 l2 l3 : Int} : pm_Run d 205 243 [vA 234, vI l1, vI l2, vI l3, PU] [vA 234] (GF X, M, PTF v) K ↔ pm_Run d 205 264 [vA 234, vI l1, vI l2, vI l3, PU] [vI 17, vA 234] (GF X, M, PTF v) K := by
  refine (px_go (by decide +kernel : pm_fe 205 243 = some (.bipush 17, 2)) rfl).trans ?_
  refine (px_goto (off := 19) (tgt := 264) (by decide +kernel)).trans ?_
  exact Iff.rfl
theorem r205_248 {d : Nat} {X : Nat × (Nat → Int)} {v : Nat → Int} {M : PH} {K : PV → PS → Prop} {l1 l2 l3 : Int} : pm_Run d 205 248 [vA 234, vI l1, vI l2, vI l3, PU] [vA 234] (GF X, M, PTF v) K ↔ pm_Call d 188 [vA 234, vI 62] (GF X, M, PTF v) (fun r9 S1 => pm_Run d 205 254 [vA 234, vI l1, vI l2, vI l3, PU] (pm_push r9 [vA 234]) S1 K) := by
  refine (px_go (by decide +kernel : pm_fe 205 248 = some (.aload_n 0, 1)) rfl).trans ?_
  refine (px_go (by decide +kernel : pm_fe 205 249 = some (.bipush 62, 2)) rfl).trans ?_
  refine (ry_v1 (idx := 265) (m' := 188) (ci := 12) (by decide +kernel : 234 < 283 ∧ SHF 234 = (12, 76)) (by simp [pm_wl_n, pm_wl_c, pm_w] : pm_wl [vA 234] ≤ 8) (by decide +kernel)).trans ?_
  exact Iff.rfl
theorem r205_254 {d : Nat} {X : Nat × (Nat → Int)} {v : Nat → Int} {M : PH} {K : PV → PS → Prop} {l1 l2 l3 s0 : Int} (h1 : inR s0) : pm_Run d 205 254 [vA 234, vI l1, vI l2, vI l3, PU] [vI s0, vA 234] (GF X, M, PTF v) K ↔ if s0 = 0 then pm_Run d 205 262 [vA 234, vI l1, vI l2, vI l3, PU] [vA 234] (GF X, M, PTF v) K else pm_Run d 205 257 [vA 234, vI l1, vI l2, vI l3, PU] [vA 234] (GF X, M, PTF v) K := by
  refine (ry_if_eq (off := 8) (tgt := 262) h1 (by decide +kernel)).trans ?_
  exact Iff.rfl
theorem r205_257 {d : Nat} {X : Nat × (Nat → Int)} {v : Nat → Int} {M : PH} {K : PV → PS → Prop} {l1 l2 l3 : Int} : pm_Run d 205 257 [vA 234, vI l1, vI l2, vI l3, PU] [vA 234] (GF X, M, PTF v) K ↔ pm_Run d 205 264 [vA 234, vI l1, vI l2, vI l3, PU] [vI 18, vA 234] (GF X, M, PTF v) K := by
  refine (px_go (by decide +kernel : pm_fe 205 257 = some (.bipush 18, 2)) rfl).trans ?_
  refine (px_goto (off := 5) (tgt := 264) (by decide +kernel)).trans ?_
  exact Iff.rfl
theorem r205_262 {d : Nat} {X : Nat × (Nat → Int)} {v : Nat → Int} {M : PH} {K : PV → PS → Prop} {l1 l2 l3 : Int} : pm_Run d 205 262 [vA 234, vI l1, vI l2, vI l3, PU] [vA 234] (GF X, M, PTF v) K ↔ pm_Run d 205 264 [vA 234, vI l1, vI l2, vI l3, PU] [vI 19, vA 234] (GF X, M, PTF v) K := by
  refine (px_go (by decide +kernel : pm_fe 205 262 = some (.bipush 19, 2)) rfl).trans ?_
  exact Iff.rfl
theorem r205_264 {d : Nat} {X : Nat × (Nat → Int)} {v : Nat → Int} {M : PH} {K : PV → PS → Prop} {l1 l2 l3 s0 : Int} : pm_Run d 205 264 [vA 234, vI l1, vI l2, vI l3, PU] [vI s0, vA 234] (GF X, M, PTF v) K ↔ pm_Call d 200 [vA 234, vI s0] (GF X, M, PTF v) (fun r9 S1 => pm_Run d 205 267 [vA 234, vI l1, vI l2, vI l3, PU] (pm_push r9 []) S1 K) := by
  refine (ry_v1 (idx := 360) (m' := 200) (ci := 12) (by decide +kernel : 234 < 283 ∧ SHF 234 = (12, 76)) (by simp [pm_wl_n, pm_wl_c, pm_w] : pm_wl [] ≤ 8) (by decide +kernel)).trans ?_
  exact Iff.rfl
theorem r205_267 {d : Nat} {X : Nat × (Nat → Int)} {v : Nat → Int} {M : PH} {K : PV → PS → Prop} {l1 l2 l3 : Int} (h1 : 0 ≤ l1) (h2 : l1 < 20) : pm_Run d 205 267 [vA 234, vI l1, vI l2, vI l3, PU] [] (GF X, M, PTF v) K ↔ pm_Run d 205 274 [vA 234, vI l1, vI l2, vI l3, PU] [] (GF X, pm_sa M 264 (pm_up (M 264) l1.toNat 1), PTF v) K := by
  refine (px_go (by decide +kernel : pm_fe 205 267 = some (.aload_n 0, 1)) rfl).trans ?_
  refine (ry_get2 (idx := 145) (ci := 12) (k := 44) (by decide +kernel : 234 < 283 ∧ SHF 234 = (12, 76)) (ptf_l (a := 234) (k := 44) (n := 264) (by decide +kernel)) (by decide +kernel)).trans ?_
  refine (px_go (by decide +kernel : pm_fe 205 271 = some (.iload_n 1, 1)) rfl).trans ?_
  refine (px_go (by decide +kernel : pm_fe 205 272 = some (.iconst 1, 1)) rfl).trans ?_
  refine (ry_iast (by decide +kernel : 264 < 283 ∧ SHF 264 = (100, 20)) h1 h2 (by decide +kernel)).trans ?_
  exact Iff.rfl
theorem r205_274 {d : Nat} {X : Nat × (Nat → Int)} {v : Nat → Int} {M : PH} {K : PV → PS → Prop} {l1 l2 l3 : Int} : pm_Run d 205 274 [vA 234, vI l1, vI l2, vI l3, PU] [] (GF X, M, PTF v) K ↔ pm_Call d 187 [vA 234] (GF X, M, PTF v) (fun r9 S1 => pm_Run d 205 278 [vA 234, vI l1, vI l2, vI l3, PU] (pm_push r9 []) S1 K) := by
  refine (px_go (by decide +kernel : pm_fe 205 274 = some (.aload_n 0, 1)) rfl).trans ?_
  refine (ry_v0 (idx := 268) (m' := 187) (ci := 12) (by decide +kernel : 234 < 283 ∧ SHF 234 = (12, 76)) (by simp [pm_wl_n, pm_wl_c, pm_w] : pm_wl [] ≤ 8) (by decide +kernel)).trans ?_
  exact Iff.rfl
theorem r205_278 {d : Nat} {X : Nat × (Nat → Int)} {v : Nat → Int} {M : PH} {K : PV → PS → Prop} {l1 l2 l3 : Int} : pm_Run d 205 278 [vA 234, vI l1, vI l2, vI l3, PU] [] (GF X, M, PTF v) K ↔ pm_Run d 205 283 [vA 234, vI l1, vI l2, vI l3, PU] [] (GF X, pm_sa M 234 (pm_up (M 234) 52 0), PTF v) K := by
  refine (px_go (by decide +kernel : pm_fe 205 278 = some (.aload_n 0, 1)) rfl).trans ?_
  refine (px_go (by decide +kernel : pm_fe 205 279 = some (.iconst 0, 1)) rfl).trans ?_
  refine (ry_put3 (idx := 170) (ci := 12) (k := 52) (by decide +kernel : 234 < 283 ∧ SHF 234 = (12, 76)) (by decide : (0 : Int) = (0 : Int) ∨ (0 : Int) = (1 : Int)) (by decide +kernel)).trans ?_
  exact Iff.rfl
theorem r205_283 {d : Nat} {X : Nat × (Nat → Int)} {v : Nat → Int} {M : PH} {K : PV → PS → Prop} {l1 l2 l3 : Int} : pm_Run d 205 283 [vA 234, vI l1, vI l2, vI l3, PU] [] (GF X, M, PTF v) K ↔ K (vI 1) (GF X, M, PTF v) := by
  refine (px_go (by decide +kernel : pm_fe 205 283 = some (.iconst 1, 1)) rfl).trans ?_
  refine (px_rz (by decide +kernel)).trans ((and_iff_right (by decide : (1 : Int) = (0 : Int) ∨ (1 : Int) = (1 : Int))).trans ?_)
  exact Iff.rfl
theorem r205_285 {d : Nat} {X : Nat × (Nat → Int)} {v : Nat → Int} {M : PH} {K : PV → PS → Prop} {l1 l2 l3 : Int} (h1 : inR l3) : pm_Run d 205 285 [vA 234, vI l1, vI l2, vI l3, PU] [] (GF X, M, PTF v) K ↔ if l3 = 0 then pm_Run d 205 400 [vA 234, vI l1, vI l2, vI l3, PU] [] (GF X, M, PTF v) K else pm_Run d 205 289 [vA 234, vI l1, vI l2, vI l3, PU] [] (GF X, M, PTF v) K := by
  refine (px_go (by decide +kernel : pm_fe 205 285 = some (.iload_n 3, 1)) rfl).trans ?_
  refine (ry_if_eq (off := 114) (tgt := 400) h1 (by decide +kernel)).trans ?_
  exact Iff.rfl
theorem r205_289 {d : Nat} {X : Nat × (Nat → Int)} {v : Nat → Int} {M : PH} {K : PV → PS → Prop} {l1 l2 l3 : Int} : pm_Run d 205 289 [vA 234, vI l1, vI l2, vI l3, PU] [] (GF X, M, PTF v) K ↔ pm_Call d 189 [vA 234, vL 6385252] (GF X, M, PTF v) (fun r9 S1 => pm_Run d 205 296 [vA 234, vI l1, vI l2, vI l3, PU] (pm_push r9 []) S1 K) := by
  refine (px_go (by decide +kernel : pm_fe 205 289 = some (.aload_n 0, 1)) rfl).trans ?_
  refine (px_ldcL (idx := 319) (x := 6385252) (by decide +kernel)).trans ?_
  refine (ry_v1 (idx := 356) (m' := 189) (ci := 12) (by decide +kernel : 234 < 283 ∧ SHF 234 = (12, 76)) (by simp [pm_wl_n, pm_wl_c, pm_w] : pm_wl [] ≤ 8) (by decide +kernel)).trans ?_
  exact Iff.rfl
theorem r205_296 {d : Nat} {X : Nat × (Nat → Int)} {v : Nat → Int} {M : PH} {K : PV → PS → Prop} {l1 l2 l3 s0 : Int} (h1 : inR s0) : pm_Run d 205 296 [vA 234, vI l1, vI l2, vI l3, PU] [vI s0] (GF X, M, PTF v) K ↔ if s0 ≠ 0 then pm_Run d 205 309 [vA 234, vI l1, vI l2, vI l3, PU] [] (GF X, M, PTF v) K else pm_Run d 205 299 [vA 234, vI l1, vI l2, vI l3, PU] [] (GF X, M, PTF v) K := by
  refine (ry_if_ne (off := 13) (tgt := 309) h1 (by decide +kernel)).trans ?_
  exact Iff.rfl
theorem r205_299 {d : Nat} {X : Nat × (Nat → Int)} {v : Nat → Int} {M : PH} {K : PV → PS → Prop} {l1 l2 l3 : Int} : pm_Run d 205 299 [vA 234, vI l1, vI l2, vI l3, PU] [] (GF X, M, PTF v) K ↔ pm_Call d 189 [vA 234, vL 28530] (GF X, M, PTF v) (fun r9 S1 => pm_Run d 205 306 [vA 234, vI l1, vI l2, vI l3, PU] (pm_push r9 []) S1 K) := by
  refine (px_go (by decide +kernel : pm_fe 205 299 = some (.aload_n 0, 1)) rfl).trans ?_
  refine (px_ldcL (idx := 317) (x := 28530) (by decide +kernel)).trans ?_
  refine (ry_v1 (idx := 356) (m' := 189) (ci := 12) (by decide +kernel : 234 < 283 ∧ SHF 234 = (12, 76)) (by simp [pm_wl_n, pm_wl_c, pm_w] : pm_wl [] ≤ 8) (by decide +kernel)).trans ?_
  exact Iff.rfl
theorem r205_306 {d : Nat} {X : Nat × (Nat → Int)} {v : Nat → Int} {M : PH} {K : PV → PS → Prop} {l1 l2 l3 s0 : Int} (h1 : inR s0) : pm_Run d 205 306 [vA 234, vI l1, vI l2, vI l3, PU] [vI s0] (GF X, M, PTF v) K ↔ if s0 = 0 then pm_Run d 205 400 [vA 234, vI l1, vI l2, vI l3, PU] [] (GF X, M, PTF v) K else pm_Run d 205 309 [vA 234, vI l1, vI l2, vI l3, PU] [] (GF X, M, PTF v) K := by
  refine (ry_if_eq (off := 94) (tgt := 400) h1 (by decide +kernel)).trans ?_
  exact Iff.rfl
theorem r205_309 {d : Nat} {X : Nat × (Nat → Int)} {v : Nat → Int} {M : PH} {K : PV → PS → Prop} {l1 l2 l3 : Int} (h1 : 0 ≤ l1) (h2 : l1 < 20) (h3 : inR (M 264 l1.toNat)) : pm_Run d 205 309 [vA 234, vI l1, vI l2, vI l3, PU] [] (GF X, M, PTF v) K ↔ if M 264 l1.toNat ≠ 0 then pm_Run d 205 327 [vA 234, vI l1, vI l2, vI l3, PU] [] (GF X, M, PTF v) K else pm_Run d 205 318 [vA 234, vI l1, vI l2, vI l3, PU] [] (GF X, M, PTF v) K := by
  refine (px_go (by decide +kernel : pm_fe 205 309 = some (.aload_n 0, 1)) rfl).trans ?_
  refine (ry_get2 (idx := 145) (ci := 12) (k := 44) (by decide +kernel : 234 < 283 ∧ SHF 234 = (12, 76)) (ptf_l (a := 234) (k := 44) (n := 264) (by decide +kernel)) (by decide +kernel)).trans ?_
  refine (px_go (by decide +kernel : pm_fe 205 313 = some (.iload_n 1, 1)) rfl).trans ?_
  refine (ry_iald (by decide +kernel : 264 < 283 ∧ SHF 264 = (100, 20)) h1 h2 (by decide +kernel)).trans ?_
  refine (ry_if_ne (off := 12) (tgt := 327) h3 (by decide +kernel)).trans ?_
  exact Iff.rfl
theorem r205_318 {d : Nat} {X : Nat × (Nat → Int)} {v : Nat → Int} {M : PH} {K : PV → PS → Prop} {l1 l2 l3 : Int} : pm_Run d 205 318 [vA 234, vI l1, vI l2, vI l3, PU] [] (GF X, M, PTF v) K ↔ pm_Call d 183 [vA 234, vI 1, vI (M 234 4)] (GF X, M, PTF v) (fun r9 S1 => pm_Run d 205 327 [vA 234, vI l1, vI l2, vI l3, PU] (pm_push r9 []) S1 K) := by
  refine (px_go (by decide +kernel : pm_fe 205 318 = some (.aload_n 0, 1)) rfl).trans ?_
  refine (px_go (by decide +kernel : pm_fe 205 319 = some (.iconst 1, 1)) rfl).trans ?_
  refine (px_go (by decide +kernel : pm_fe 205 320 = some (.aload_n 0, 1)) rfl).trans ?_
  refine (ry_get0 (idx := 23) (ci := 12) (k := 4) (by decide +kernel : 234 < 283 ∧ SHF 234 = (12, 76)) (by decide +kernel)).trans ?_
  refine (ry_v2 (idx := 251) (m' := 183) (ci := 12) (by decide +kernel : 234 < 283 ∧ SHF 234 = (12, 76)) (by simp [pm_wl_n, pm_wl_c, pm_w] : pm_wl [] ≤ 8) (by decide +kernel)).trans ?_
  exact Iff.rfl
theorem r205_327 {d : Nat} {X : Nat × (Nat → Int)} {v : Nat → Int} {M : PH} {K : PV → PS → Prop} {l1 l2 l3 : Int} (h1 : inR (M 234 8)) : pm_Run d 205 327 [vA 234, vI l1, vI l2, vI l3, PU] [] (GF X, M, PTF v) K ↔ if M 234 8 ≤ 0 then pm_Run d 205 336 [vA 234, vI l1, vI l2, vI l3, PU] [] (GF X, M, PTF v) K else pm_Run d 205 334 [vA 234, vI l1, vI l2, vI l3, PU] [] (GF X, M, PTF v) K := by
  refine (px_go (by decide +kernel : pm_fe 205 327 = some (.aload_n 0, 1)) rfl).trans ?_
  refine (ry_get0 (idx := 36) (ci := 12) (k := 8) (by decide +kernel : 234 < 283 ∧ SHF 234 = (12, 76)) (by decide +kernel)).trans ?_
  refine (ry_if_le (off := 5) (tgt := 336) h1 (by decide +kernel)).trans ?_
  exact Iff.rfl
theorem r205_334 {d : Nat} {X : Nat × (Nat → Int)} {v : Nat → Int} {M : PH} {K : PV → PS → Prop} {l1 l2 l3 : Int} : pm_Run d 205 334 [vA 234, vI l1, vI l2, vI l3, PU] [] (GF X, M, PTF v) K ↔ K (vI 0) (GF X, M, PTF v) := by
  refine (px_go (by decide +kernel : pm_fe 205 334 = some (.iconst 0, 1)) rfl).trans ?_
  refine (px_rz (by decide +kernel)).trans ((and_iff_right (by decide : (0 : Int) = (0 : Int) ∨ (0 : Int) = (1 : Int))).trans ?_)
  exact Iff.rfl
theorem r205_336 {d : Nat} {X : Nat × (Nat → Int)} {v : Nat → Int} {M : PH} {K : PV → PS → Prop} {l1 l2 l3 : Int} : pm_Run d 205 336 [vA 234, vI l1, vI l2, vI l3, PU] [] (GF X, M, PTF v) K ↔ pm_Call d 189 [vA 234, vL 6385252] (GF X, M, PTF v) (fun r9 S1 => pm_Run d 205 343 [vA 234, vI l1, vI l2, vI l3, PU] (pm_push r9 []) S1 K) := by
  refine (px_go (by decide +kernel : pm_fe 205 336 = some (.aload_n 0, 1)) rfl).trans ?_
  refine (px_ldcL (idx := 319) (x := 6385252) (by decide +kernel)).trans ?_
  refine (ry_v1 (idx := 356) (m' := 189) (ci := 12) (by decide +kernel : 234 < 283 ∧ SHF 234 = (12, 76)) (by simp [pm_wl_n, pm_wl_c, pm_w] : pm_wl [] ≤ 8) (by decide +kernel)).trans ?_
  exact Iff.rfl
theorem r205_343 {d : Nat} {X : Nat × (Nat → Int)} {v : Nat → Int} {M : PH} {K : PV → PS → Prop} {l1 l2 l3 s0 : Int} (h1 : inR s0) : pm_Run d 205 343 [vA 234, vI l1, vI l2, vI l3, PU] [vI s0] (GF X, M, PTF v) K ↔ if s0 = 0 then pm_Run d 205 355 [vA 234, vI l1, vI l2, vI l3, vI s0] [vA 234] (GF X, M, PTF v) K else pm_Run d 205 351 [vA 234, vI l1, vI l2, vI l3, vI s0] [vA 234] (GF X, M, PTF v) K := by
  refine (px_go (by decide +kernel : pm_fe 205 343 = some (.istore 4, 2)) rfl).trans ?_
  refine (px_go (by decide +kernel : pm_fe 205 345 = some (.aload_n 0, 1)) rfl).trans ?_
  refine (px_go (by decide +kernel : pm_fe 205 346 = some (.iload 4, 2)) rfl).trans ?_
  refine (ry_if_eq (off := 7) (tgt := 355) h1 (by decide +kernel)).trans ?_
  exact Iff.rfl
theorem r205_351 {d : Nat} {X : Nat × (Nat → Int)} {v : Nat → Int} {M : PH} {K : PV → PS → Prop} {l1 l2 l3 l4 : Int} : pm_Run d 205 351 [vA 234, vI l1, vI l2, vI l3, vI l4] [vA 234] (GF X, M, PTF v) K ↔ pm_Run d 205 356 [vA 234, vI l1, vI l2, vI l3, vI l4] [vI 2, vA 234] (GF X, M, PTF v) K := by
  refine (px_go (by decide +kernel : pm_fe 205 351 = some (.iconst 2, 1)) rfl).trans ?_
  refine (px_goto (off := 4) (tgt := 356) (by decide +kernel)).trans ?_
  exact Iff.rfl
theorem r205_355 {d : Nat} {X : Nat × (Nat → Int)} {v : Nat → Int} {M : PH} {K : PV → PS → Prop} {l1 l2 l3 l4 : Int} : pm_Run d 205 355 [vA 234, vI l1, vI l2, vI l3, vI l4] [vA 234] (GF X, M, PTF v) K ↔ pm_Run d 205 356 [vA 234, vI l1, vI l2, vI l3, vI l4] [vI 1, vA 234] (GF X, M, PTF v) K := by
  refine (px_go (by decide +kernel : pm_fe 205 355 = some (.iconst 1, 1)) rfl).trans ?_
  exact Iff.rfl
theorem r205_356 {d : Nat} {X : Nat × (Nat → Int)} {v : Nat → Int} {M : PH} {K : PV → PS → Prop} {l1 l2 l3 l4 s0 : Int} : pm_Run d 205 356 [vA 234, vI l1, vI l2, vI l3, vI l4] [vI s0, vA 234] (GF X, M, PTF v) K ↔ pm_Call d 199 [vA 234, vI s0] (GF X, M, PTF v) (fun r9 S1 => pm_Run d 205 359 [vA 234, vI l1, vI l2, vI l3, vI l4] (pm_push r9 []) S1 K) := by
  refine (ry_v1 (idx := 366) (m' := 199) (ci := 12) (by decide +kernel : 234 < 283 ∧ SHF 234 = (12, 76)) (by simp [pm_wl_n, pm_wl_c, pm_w] : pm_wl [] ≤ 8) (by decide +kernel)).trans ?_
  exact Iff.rfl
theorem r205_359 {d : Nat} {X : Nat × (Nat → Int)} {v : Nat → Int} {M : PH} {K : PV → PS → Prop} {l1 l2 l3 l4 : Int} (h1 : inR l4) : pm_Run d 205 359 [vA 234, vI l1, vI l2, vI l3, vI l4] [] (GF X, M, PTF v) K ↔ if l4 = 0 then pm_Run d 205 370 [vA 234, vI l1, vI l2, vI l3, vI l4] [vA 234] (GF X, M, PTF v) K else pm_Run d 205 365 [vA 234, vI l1, vI l2, vI l3, vI l4] [vA 234] (GF X, M, PTF v) K := by
  refine (px_go (by decide +kernel : pm_fe 205 359 = some (.aload_n 0, 1)) rfl).trans ?_
  refine (px_go (by decide +kernel : pm_fe 205 360 = some (.iload 4, 2)) rfl).trans ?_
  refine (ry_if_eq (off := 8) (tgt := 370) h1 (by decide +kernel)).trans ?_
  exact Iff.rfl
theorem r205_365 {d : Nat} {X : Nat × (Nat → Int)} {v : Nat → Int} {M : PH} {K : PV → PS → Prop} {l1 l2 l3 l4 : Int} : pm_Run d 205 365 [vA 234, vI l1, vI l2, vI l3, vI l4] [vA 234] (GF X, M, PTF v) K ↔ pm_Run d 205 372 [vA 234, vI l1, vI l2, vI l3, vI l4] [vI 20, vA 234] (GF X, M, PTF v) K := by
  refine (px_go (by decide +kernel : pm_fe 205 365 = some (.bipush 20, 2)) rfl).trans ?_
  refine (px_goto (off := 5) (tgt := 372) (by decide +kernel)).trans ?_
  exact Iff.rfl
theorem r205_370 {d : Nat} {X : Nat × (Nat → Int)} {v : Nat → Int} {M : PH} {K : PV → PS → Prop} {l1 l2 l3 l4 : Int} : pm_Run d 205 370 [vA 234, vI l1, vI l2, vI l3, vI l4] [vA 234] (GF X, M, PTF v) K ↔ pm_Run d 205 372 [vA 234, vI l1, vI l2, vI l3, vI l4] [vI 21, vA 234] (GF X, M, PTF v) K := by
  refine (px_go (by decide +kernel : pm_fe 205 370 = some (.bipush 21, 2)) rfl).trans ?_
  exact Iff.rfl
theorem r205_372 {d : Nat} {X : Nat × (Nat → Int)} {v : Nat → Int} {M : PH} {K : PV → PS → Prop} {l1 l2 l3 l4 s0 : Int} : pm_Run d 205 372 [vA 234, vI l1, vI l2, vI l3, vI l4] [vI s0, vA 234] (GF X, M, PTF v) K ↔ pm_Call d 200 [vA 234, vI s0] (GF X, M, PTF v) (fun r9 S1 => pm_Run d 205 375 [vA 234, vI l1, vI l2, vI l3, vI l4] (pm_push r9 []) S1 K) := by
  refine (ry_v1 (idx := 360) (m' := 200) (ci := 12) (by decide +kernel : 234 < 283 ∧ SHF 234 = (12, 76)) (by simp [pm_wl_n, pm_wl_c, pm_w] : pm_wl [] ≤ 8) (by decide +kernel)).trans ?_
  exact Iff.rfl
theorem r205_375 {d : Nat} {X : Nat × (Nat → Int)} {v : Nat → Int} {M : PH} {K : PV → PS → Prop} {l1 l2 l3 l4 : Int} (h1 : 0 ≤ l1) (h2 : l1 < 20) : pm_Run d 205 375 [vA 234, vI l1, vI l2, vI l3, vI l4] [] (GF X, M, PTF v) K ↔ pm_Run d 205 382 [vA 234, vI l1, vI l2, vI l3, vI l4] [] (GF X, pm_sa M 264 (pm_up (M 264) l1.toNat 0), PTF v) K := by
  refine (px_go (by decide +kernel : pm_fe 205 375 = some (.aload_n 0, 1)) rfl).trans ?_
  refine (ry_get2 (idx := 145) (ci := 12) (k := 44) (by decide +kernel : 234 < 283 ∧ SHF 234 = (12, 76)) (ptf_l (a := 234) (k := 44) (n := 264) (by decide +kernel)) (by decide +kernel)).trans ?_
  refine (px_go (by decide +kernel : pm_fe 205 379 = some (.iload_n 1, 1)) rfl).trans ?_
  refine (px_go (by decide +kernel : pm_fe 205 380 = some (.iconst 0, 1)) rfl).trans ?_
  refine (ry_iast (by decide +kernel : 264 < 283 ∧ SHF 264 = (100, 20)) h1 h2 (by decide +kernel)).trans ?_
  exact Iff.rfl
theorem r205_382 {d : Nat} {X : Nat × (Nat → Int)} {v : Nat → Int} {M : PH} {K : PV → PS → Prop} {l1 l2 l3 l4 : Int} (h1 : 0 ≤ l1) (h2 : l1 < 20) : pm_Run d 205 382 [vA 234, vI l1, vI l2, vI l3, vI l4] [] (GF X, M, PTF v) K ↔ pm_Run d 205 389 [vA 234, vI l1, vI l2, vI l3, vI l4] [] (GF X, pm_sa M 265 (pm_up (M 265) l1.toNat 1), PTF v) K := by
  refine (px_go (by decide +kernel : pm_fe 205 382 = some (.aload_n 0, 1)) rfl).trans ?_
  refine (ry_get2 (idx := 148) (ci := 12) (k := 45) (by decide +kernel : 234 < 283 ∧ SHF 234 = (12, 76)) (ptf_l (a := 234) (k := 45) (n := 265) (by decide +kernel)) (by decide +kernel)).trans ?_
  refine (px_go (by decide +kernel : pm_fe 205 386 = some (.iload_n 1, 1)) rfl).trans ?_
  refine (px_go (by decide +kernel : pm_fe 205 387 = some (.iconst 1, 1)) rfl).trans ?_
  refine (ry_zast (by decide +kernel : 265 < 283 ∧ SHF 265 = (102, 20)) h1 h2 (by decide : (1 : Int) = (0 : Int) ∨ (1 : Int) = (1 : Int)) (by decide +kernel)).trans ?_
  exact Iff.rfl
theorem r205_389 {d : Nat} {X : Nat × (Nat → Int)} {v : Nat → Int} {M : PH} {K : PV → PS → Prop} {l1 l2 l3 l4 : Int} : pm_Run d 205 389 [vA 234, vI l1, vI l2, vI l3, vI l4] [] (GF X, M, PTF v) K ↔ pm_Call d 187 [vA 234] (GF X, M, PTF v) (fun r9 S1 => pm_Run d 205 393 [vA 234, vI l1, vI l2, vI l3, vI l4] (pm_push r9 []) S1 K) := by
  refine (px_go (by decide +kernel : pm_fe 205 389 = some (.aload_n 0, 1)) rfl).trans ?_
  refine (ry_v0 (idx := 268) (m' := 187) (ci := 12) (by decide +kernel : 234 < 283 ∧ SHF 234 = (12, 76)) (by simp [pm_wl_n, pm_wl_c, pm_w] : pm_wl [] ≤ 8) (by decide +kernel)).trans ?_
  exact Iff.rfl
theorem r205_393 {d : Nat} {X : Nat × (Nat → Int)} {v : Nat → Int} {M : PH} {K : PV → PS → Prop} {l1 l2 l3 l4 : Int} : pm_Run d 205 393 [vA 234, vI l1, vI l2, vI l3, vI l4] [] (GF X, M, PTF v) K ↔ pm_Run d 205 398 [vA 234, vI l1, vI l2, vI l3, vI l4] [] (GF X, pm_sa M 234 (pm_up (M 234) 52 0), PTF v) K := by
  refine (px_go (by decide +kernel : pm_fe 205 393 = some (.aload_n 0, 1)) rfl).trans ?_
  refine (px_go (by decide +kernel : pm_fe 205 394 = some (.iconst 0, 1)) rfl).trans ?_
  refine (ry_put3 (idx := 170) (ci := 12) (k := 52) (by decide +kernel : 234 < 283 ∧ SHF 234 = (12, 76)) (by decide : (0 : Int) = (0 : Int) ∨ (0 : Int) = (1 : Int)) (by decide +kernel)).trans ?_
  exact Iff.rfl
theorem r205_398 {d : Nat} {X : Nat × (Nat → Int)} {v : Nat → Int} {M : PH} {K : PV → PS → Prop} {l1 l2 l3 l4 : Int} : pm_Run d 205 398 [vA 234, vI l1, vI l2, vI l3, vI l4] [] (GF X, M, PTF v) K ↔ K (vI 1) (GF X, M, PTF v) := by
  refine (px_go (by decide +kernel : pm_fe 205 398 = some (.iconst 1, 1)) rfl).trans ?_
  refine (px_rz (by decide +kernel)).trans ((and_iff_right (by decide : (1 : Int) = (0 : Int) ∨ (1 : Int) = (1 : Int))).trans ?_)
  exact Iff.rfl
theorem r205_400 {d : Nat} {X : Nat × (Nat → Int)} {v : Nat → Int} {M : PH} {K : PV → PS → Prop} {l1 l2 l3 : Int} (h1 : inR l3) : pm_Run d 205 400 [vA 234, vI l1, vI l2, vI l3, PU] [] (GF X, M, PTF v) K ↔ if l3 = 0 then pm_Run d 205 422 [vA 234, vI l1, vI l2, vI l3, PU] [] (GF X, M, PTF v) K else pm_Run d 205 404 [vA 234, vI l1, vI l2, vI l3, PU] [] (GF X, M, PTF v) K := by
  refine (px_go (by decide +kernel : pm_fe 205 400 = some (.iload_n 3, 1)) rfl).trans ?_
  refine (ry_if_eq (off := 21) (tgt := 422) h1 (by decide +kernel)).trans ?_
  exact Iff.rfl
theorem r205_404 {d : Nat} {X : Nat × (Nat → Int)} {v : Nat → Int} {M : PH} {K : PV → PS → Prop} {l1 l2 l3 : Int} (h1 : 0 ≤ l1) (h2 : l1 < 20) (h3 : inR (M 264 l1.toNat)) : pm_Run d 205 404 [vA 234, vI l1, vI l2, vI l3, PU] [] (GF X, M, PTF v) K ↔ if M 264 l1.toNat ≠ 0 then pm_Run d 205 422 [vA 234, vI l1, vI l2, vI l3, PU] [] (GF X, M, PTF v) K else pm_Run d 205 413 [vA 234, vI l1, vI l2, vI l3, PU] [] (GF X, M, PTF v) K := by
  refine (px_go (by decide +kernel : pm_fe 205 404 = some (.aload_n 0, 1)) rfl).trans ?_
  refine (ry_get2 (idx := 145) (ci := 12) (k := 44) (by decide +kernel : 234 < 283 ∧ SHF 234 = (12, 76)) (ptf_l (a := 234) (k := 44) (n := 264) (by decide +kernel)) (by decide +kernel)).trans ?_
  refine (px_go (by decide +kernel : pm_fe 205 408 = some (.iload_n 1, 1)) rfl).trans ?_
  refine (ry_iald (by decide +kernel : 264 < 283 ∧ SHF 264 = (100, 20)) h1 h2 (by decide +kernel)).trans ?_
  refine (ry_if_ne (off := 12) (tgt := 422) h3 (by decide +kernel)).trans ?_
  exact Iff.rfl
theorem r205_413 {d : Nat} {X : Nat × (Nat → Int)} {v : Nat → Int} {M : PH} {K : PV → PS → Prop} {l1 l2 l3 : Int} : pm_Run d 205 413 [vA 234, vI l1, vI l2, vI l3, PU] [] (GF X, M, PTF v) K ↔ pm_Call d 183 [vA 234, vI 1, vI (M 234 4)] (GF X, M, PTF v) (fun r9 S1 => pm_Run d 205 422 [vA 234, vI l1, vI l2, vI l3, PU] (pm_push r9 []) S1 K) := by
  refine (px_go (by decide +kernel : pm_fe 205 413 = some (.aload_n 0, 1)) rfl).trans ?_
  refine (px_go (by decide +kernel : pm_fe 205 414 = some (.iconst 1, 1)) rfl).trans ?_
  refine (px_go (by decide +kernel : pm_fe 205 415 = some (.aload_n 0, 1)) rfl).trans ?_
  refine (ry_get0 (idx := 23) (ci := 12) (k := 4) (by decide +kernel : 234 < 283 ∧ SHF 234 = (12, 76)) (by decide +kernel)).trans ?_
  refine (ry_v2 (idx := 251) (m' := 183) (ci := 12) (by decide +kernel : 234 < 283 ∧ SHF 234 = (12, 76)) (by simp [pm_wl_n, pm_wl_c, pm_w] : pm_wl [] ≤ 8) (by decide +kernel)).trans ?_
  exact Iff.rfl
theorem r205_422 {d : Nat} {X : Nat × (Nat → Int)} {v : Nat → Int} {M : PH} {K : PV → PS → Prop} {l1 l2 l3 : Int} (h1 : inR l2) : pm_Run d 205 422 [vA 234, vI l1, vI l2, vI l3, PU] [] (GF X, M, PTF v) K ↔ if 2 ≤ l2 then pm_Run d 205 441 [vA 234, vI l1, vI l2, vI l3, PU] [] (GF X, M, PTF v) K else pm_Run d 205 427 [vA 234, vI l1, vI l2, vI l3, PU] [] (GF X, M, PTF v) K := by
  refine (px_go (by decide +kernel : pm_fe 205 422 = some (.iload_n 2, 1)) rfl).trans ?_
  refine (px_go (by decide +kernel : pm_fe 205 423 = some (.iconst 2, 1)) rfl).trans ?_
  refine (ry_ic_ge (off := 17) (tgt := 441) h1 (by decide : (-2147483648 ≤ (2 : Int) ∧ (2 : Int) < 2147483648)) (by decide +kernel)).trans ?_
  exact Iff.rfl
theorem r205_427 {d : Nat} {X : Nat × (Nat → Int)} {v : Nat → Int} {M : PH} {K : PV → PS → Prop} {l1 l2 l3 : Int} (h1 : inR (M 234 8)) : pm_Run d 205 427 [vA 234, vI l1, vI l2, vI l3, PU] [] (GF X, M, PTF v) K ↔ if M 234 8 ≠ 0 then pm_Run d 205 439 [vA 234, vI l1, vI l2, vI l3, PU] [] (GF X, M, PTF v) K else pm_Run d 205 434 [vA 234, vI l1, vI l2, vI l3, PU] [] (GF X, M, PTF v) K := by
  refine (px_go (by decide +kernel : pm_fe 205 427 = some (.aload_n 0, 1)) rfl).trans ?_
  refine (ry_get0 (idx := 36) (ci := 12) (k := 8) (by decide +kernel : 234 < 283 ∧ SHF 234 = (12, 76)) (by decide +kernel)).trans ?_
  refine (ry_if_ne (off := 8) (tgt := 439) h1 (by decide +kernel)).trans ?_
  exact Iff.rfl
theorem r205_434 {d : Nat} {X : Nat × (Nat → Int)} {v : Nat → Int} {M : PH} {K : PV → PS → Prop} {l1 l2 l3 : Int} : pm_Run d 205 434 [vA 234, vI l1, vI l2, vI l3, PU] [] (GF X, M, PTF v) K ↔ pm_Call d 199 [vA 234, vI 1] (GF X, M, PTF v) (fun r9 S1 => pm_Run d 205 439 [vA 234, vI l1, vI l2, vI l3, PU] (pm_push r9 []) S1 K) := by
  refine (px_go (by decide +kernel : pm_fe 205 434 = some (.aload_n 0, 1)) rfl).trans ?_
  refine (px_go (by decide +kernel : pm_fe 205 435 = some (.iconst 1, 1)) rfl).trans ?_
  refine (ry_v1 (idx := 366) (m' := 199) (ci := 12) (by decide +kernel : 234 < 283 ∧ SHF 234 = (12, 76)) (by simp [pm_wl_n, pm_wl_c, pm_w] : pm_wl [] ≤ 8) (by decide +kernel)).trans ?_
  exact Iff.rfl
theorem r205_439 {d : Nat} {X : Nat × (Nat → Int)} {v : Nat → Int} {M : PH} {K : PV → PS → Prop} {l1 l2 l3 : Int} : pm_Run d 205 439 [vA 234, vI l1, vI l2, vI l3, PU] [] (GF X, M, PTF v) K ↔ K (vI 0) (GF X, M, PTF v) := by
  refine (px_go (by decide +kernel : pm_fe 205 439 = some (.iconst 0, 1)) rfl).trans ?_
  refine (px_rz (by decide +kernel)).trans ((and_iff_right (by decide : (0 : Int) = (0 : Int) ∨ (0 : Int) = (1 : Int))).trans ?_)
  exact Iff.rfl
theorem r205_441 {d : Nat} {X : Nat × (Nat → Int)} {v : Nat → Int} {M : PH} {K : PV → PS → Prop} {l1 l2 l3 : Int} (h1 : inR l2) : pm_Run d 205 441 [vA 234, vI l1, vI l2, vI l3, PU] [] (GF X, M, PTF v) K ↔ if l2 ≠ 3 then pm_Run d 205 496 [vA 234, vI l1, vI l2, vI l3, PU] [] (GF X, M, PTF v) K else pm_Run d 205 446 [vA 234, vI l1, vI l2, vI l3, PU] [] (GF X, M, PTF v) K := by
  refine (px_go (by decide +kernel : pm_fe 205 441 = some (.iload_n 2, 1)) rfl).trans ?_
  refine (px_go (by decide +kernel : pm_fe 205 442 = some (.iconst 3, 1)) rfl).trans ?_
  refine (ry_ic_ne (off := 53) (tgt := 496) h1 (by decide : (-2147483648 ≤ (3 : Int) ∧ (3 : Int) < 2147483648)) (by decide +kernel)).trans ?_
  exact Iff.rfl
theorem r205_446 {d : Nat} {X : Nat × (Nat → Int)} {v : Nat → Int} {M : PH} {K : PV → PS → Prop} {l1 l2 l3 : Int} : pm_Run d 205 446 [vA 234, vI l1, vI l2, vI l3, PU] [] (GF X, M, PTF v) K ↔ pm_Call d 188 [vA 234, vI 44] (GF X, M, PTF v) (fun r9 S1 => pm_Run d 205 452 [vA 234, vI l1, vI l2, vI l3, PU] (pm_push r9 []) S1 K) := by
  refine (px_go (by decide +kernel : pm_fe 205 446 = some (.aload_n 0, 1)) rfl).trans ?_
  refine (px_go (by decide +kernel : pm_fe 205 447 = some (.bipush 44, 2)) rfl).trans ?_
  refine (ry_v1 (idx := 265) (m' := 188) (ci := 12) (by decide +kernel : 234 < 283 ∧ SHF 234 = (12, 76)) (by simp [pm_wl_n, pm_wl_c, pm_w] : pm_wl [] ≤ 8) (by decide +kernel)).trans ?_
  exact Iff.rfl
theorem r205_452 {d : Nat} {X : Nat × (Nat → Int)} {v : Nat → Int} {M : PH} {K : PV → PS → Prop} {l1 l2 l3 s0 : Int} (h1 : inR s0) : pm_Run d 205 452 [vA 234, vI l1, vI l2, vI l3, PU] [vI s0] (GF X, M, PTF v) K ↔ if s0 ≠ 0 then pm_Run d 205 464 [vA 234, vI l1, vI l2, vI l3, PU] [] (GF X, M, PTF v) K else pm_Run d 205 455 [vA 234, vI l1, vI l2, vI l3, PU] [] (GF X, M, PTF v) K := by
  refine (ry_if_ne (off := 12) (tgt := 464) h1 (by decide +kernel)).trans ?_
  exact Iff.rfl
theorem r205_455 {d : Nat} {X : Nat × (Nat → Int)} {v : Nat → Int} {M : PH} {K : PV → PS → Prop} {l1 l2 l3 : Int} : pm_Run d 205 455 [vA 234, vI l1, vI l2, vI l3, PU] [] (GF X, M, PTF v) K ↔ pm_Call d 183 [vA 234, vI 1, vI (M 234 4)] (GF X, M, PTF v) (fun r9 S1 => pm_Run d 205 464 [vA 234, vI l1, vI l2, vI l3, PU] (pm_push r9 []) S1 K) := by
  refine (px_go (by decide +kernel : pm_fe 205 455 = some (.aload_n 0, 1)) rfl).trans ?_
  refine (px_go (by decide +kernel : pm_fe 205 456 = some (.iconst 1, 1)) rfl).trans ?_
  refine (px_go (by decide +kernel : pm_fe 205 457 = some (.aload_n 0, 1)) rfl).trans ?_
  refine (ry_get0 (idx := 23) (ci := 12) (k := 4) (by decide +kernel : 234 < 283 ∧ SHF 234 = (12, 76)) (by decide +kernel)).trans ?_
  refine (ry_v2 (idx := 251) (m' := 183) (ci := 12) (by decide +kernel : 234 < 283 ∧ SHF 234 = (12, 76)) (by simp [pm_wl_n, pm_wl_c, pm_w] : pm_wl [] ≤ 8) (by decide +kernel)).trans ?_
  exact Iff.rfl
theorem r205_464 {d : Nat} {X : Nat × (Nat → Int)} {v : Nat → Int} {M : PH} {K : PV → PS → Prop} {l1 l2 l3 : Int} (h1 : inR (M 234 8)) : pm_Run d 205 464 [vA 234, vI l1, vI l2, vI l3, PU] [] (GF X, M, PTF v) K ↔ if M 234 8 ≤ 0 then pm_Run d 205 473 [vA 234, vI l1, vI l2, vI l3, PU] [] (GF X, M, PTF v) K else pm_Run d 205 471 [vA 234, vI l1, vI l2, vI l3, PU] [] (GF X, M, PTF v) K := by
  refine (px_go (by decide +kernel : pm_fe 205 464 = some (.aload_n 0, 1)) rfl).trans ?_
  refine (ry_get0 (idx := 36) (ci := 12) (k := 8) (by decide +kernel : 234 < 283 ∧ SHF 234 = (12, 76)) (by decide +kernel)).trans ?_
  refine (ry_if_le (off := 5) (tgt := 473) h1 (by decide +kernel)).trans ?_
  exact Iff.rfl
theorem r205_471 {d : Nat} {X : Nat × (Nat → Int)} {v : Nat → Int} {M : PH} {K : PV → PS → Prop} {l1 l2 l3 : Int} : pm_Run d 205 471 [vA 234, vI l1, vI l2, vI l3, PU] [] (GF X, M, PTF v) K ↔ K (vI 0) (GF X, M, PTF v) := by
  refine (px_go (by decide +kernel : pm_fe 205 471 = some (.iconst 0, 1)) rfl).trans ?_
  refine (px_rz (by decide +kernel)).trans ((and_iff_right (by decide : (0 : Int) = (0 : Int) ∨ (0 : Int) = (1 : Int))).trans ?_)
  exact Iff.rfl
theorem r205_473 {d : Nat} {X : Nat × (Nat → Int)} {v : Nat → Int} {M : PH} {K : PV → PS → Prop} {l1 l2 l3 : Int} : pm_Run d 205 473 [vA 234, vI l1, vI l2, vI l3, PU] [] (GF X, M, PTF v) K ↔ pm_Call d 199 [vA 234, vI 1] (GF X, M, PTF v) (fun r9 S1 => pm_Run d 205 478 [vA 234, vI l1, vI l2, vI l3, PU] (pm_push r9 []) S1 K) := by
  refine (px_go (by decide +kernel : pm_fe 205 473 = some (.aload_n 0, 1)) rfl).trans ?_
  refine (px_go (by decide +kernel : pm_fe 205 474 = some (.iconst 1, 1)) rfl).trans ?_
  refine (ry_v1 (idx := 366) (m' := 199) (ci := 12) (by decide +kernel : 234 < 283 ∧ SHF 234 = (12, 76)) (by simp [pm_wl_n, pm_wl_c, pm_w] : pm_wl [] ≤ 8) (by decide +kernel)).trans ?_
  exact Iff.rfl
theorem r205_478 {d : Nat} {X : Nat × (Nat → Int)} {v : Nat → Int} {M : PH} {K : PV → PS → Prop} {l1 l2 l3 : Int} (h1 : 0 ≤ l1) (h2 : l1 < 20) : pm_Run d 205 478 [vA 234, vI l1, vI l2, vI l3, PU] [] (GF X, M, PTF v) K ↔ pm_Run d 205 485 [vA 234, vI l1, vI l2, vI l3, PU] [] (GF X, pm_sa M 263 (pm_up (M 263) l1.toNat 4), PTF v) K := by
  refine (px_go (by decide +kernel : pm_fe 205 478 = some (.aload_n 0, 1)) rfl).trans ?_
  refine (ry_get2 (idx := 142) (ci := 12) (k := 43) (by decide +kernel : 234 < 283 ∧ SHF 234 = (12, 76)) (ptf_l (a := 234) (k := 43) (n := 263) (by decide +kernel)) (by decide +kernel)).trans ?_
  refine (px_go (by decide +kernel : pm_fe 205 482 = some (.iload_n 1, 1)) rfl).trans ?_
  refine (px_go (by decide +kernel : pm_fe 205 483 = some (.iconst 4, 1)) rfl).trans ?_
  refine (ry_iast (by decide +kernel : 263 < 283 ∧ SHF 263 = (100, 20)) h1 h2 (by decide +kernel)).trans ?_
  exact Iff.rfl
theorem r205_485 {d : Nat} {X : Nat × (Nat → Int)} {v : Nat → Int} {M : PH} {K : PV → PS → Prop} {l1 l2 l3 : Int} : pm_Run d 205 485 [vA 234, vI l1, vI l2, vI l3, PU] [] (GF X, M, PTF v) K ↔ pm_Call d 187 [vA 234] (GF X, M, PTF v) (fun r9 S1 => pm_Run d 205 489 [vA 234, vI l1, vI l2, vI l3, PU] (pm_push r9 []) S1 K) := by
  refine (px_go (by decide +kernel : pm_fe 205 485 = some (.aload_n 0, 1)) rfl).trans ?_
  refine (ry_v0 (idx := 268) (m' := 187) (ci := 12) (by decide +kernel : 234 < 283 ∧ SHF 234 = (12, 76)) (by simp [pm_wl_n, pm_wl_c, pm_w] : pm_wl [] ≤ 8) (by decide +kernel)).trans ?_
  exact Iff.rfl
theorem r205_489 {d : Nat} {X : Nat × (Nat → Int)} {v : Nat → Int} {M : PH} {K : PV → PS → Prop} {l1 l2 l3 : Int} : pm_Run d 205 489 [vA 234, vI l1, vI l2, vI l3, PU] [] (GF X, M, PTF v) K ↔ pm_Run d 205 494 [vA 234, vI l1, vI l2, vI l3, PU] [] (GF X, pm_sa M 234 (pm_up (M 234) 52 0), PTF v) K := by
  refine (px_go (by decide +kernel : pm_fe 205 489 = some (.aload_n 0, 1)) rfl).trans ?_
  refine (px_go (by decide +kernel : pm_fe 205 490 = some (.iconst 0, 1)) rfl).trans ?_
  refine (ry_put3 (idx := 170) (ci := 12) (k := 52) (by decide +kernel : 234 < 283 ∧ SHF 234 = (12, 76)) (by decide : (0 : Int) = (0 : Int) ∨ (0 : Int) = (1 : Int)) (by decide +kernel)).trans ?_
  exact Iff.rfl
theorem r205_494 {d : Nat} {X : Nat × (Nat → Int)} {v : Nat → Int} {M : PH} {K : PV → PS → Prop} {l1 l2 l3 : Int} : pm_Run d 205 494 [vA 234, vI l1, vI l2, vI l3, PU] [] (GF X, M, PTF v) K ↔ K (vI 1) (GF X, M, PTF v) := by
  refine (px_go (by decide +kernel : pm_fe 205 494 = some (.iconst 1, 1)) rfl).trans ?_
  refine (px_rz (by decide +kernel)).trans ((and_iff_right (by decide : (1 : Int) = (0 : Int) ∨ (1 : Int) = (1 : Int))).trans ?_)
  exact Iff.rfl
theorem r205_496 {d : Nat} {X : Nat × (Nat → Int)} {v : Nat → Int} {M : PH} {K : PV → PS → Prop} {l1 l2 l3 : Int} (h1 : inR l2) : pm_Run d 205 496 [vA 234, vI l1, vI l2, vI l3, PU] [] (GF X, M, PTF v) K ↔ if l2 ≠ 5 then pm_Run d 205 507 [vA 234, vI l1, vI l2, vI l3, PU] [vA 234] (GF X, M, PTF v) K else pm_Run d 205 502 [vA 234, vI l1, vI l2, vI l3, PU] [vA 234] (GF X, M, PTF v) K := by
  refine (px_go (by decide +kernel : pm_fe 205 496 = some (.aload_n 0, 1)) rfl).trans ?_
  refine (px_go (by decide +kernel : pm_fe 205 497 = some (.iload_n 2, 1)) rfl).trans ?_
  refine (px_go (by decide +kernel : pm_fe 205 498 = some (.iconst 5, 1)) rfl).trans ?_
  refine (ry_ic_ne (off := 8) (tgt := 507) h1 (by decide : (-2147483648 ≤ (5 : Int) ∧ (5 : Int) < 2147483648)) (by decide +kernel)).trans ?_
  exact Iff.rfl
theorem r205_502 {d : Nat} {X : Nat × (Nat → Int)} {v : Nat → Int} {M : PH} {K : PV → PS → Prop} {l1 l2 l3 : Int} : pm_Run d 205 502 [vA 234, vI l1, vI l2, vI l3, PU] [vA 234] (GF X, M, PTF v) K ↔ pm_Run d 205 509 [vA 234, vI l1, vI l2, vI l3, PU] [vI 93, vA 234] (GF X, M, PTF v) K := by
  refine (px_go (by decide +kernel : pm_fe 205 502 = some (.bipush 93, 2)) rfl).trans ?_
  refine (px_goto (off := 5) (tgt := 509) (by decide +kernel)).trans ?_
  exact Iff.rfl
theorem r205_507 {d : Nat} {X : Nat × (Nat → Int)} {v : Nat → Int} {M : PH} {K : PV → PS → Prop} {l1 l2 l3 : Int} : pm_Run d 205 507 [vA 234, vI l1, vI l2, vI l3, PU] [vA 234] (GF X, M, PTF v) K ↔ pm_Run d 205 509 [vA 234, vI l1, vI l2, vI l3, PU] [vI 41, vA 234] (GF X, M, PTF v) K := by
  refine (px_go (by decide +kernel : pm_fe 205 507 = some (.bipush 41, 2)) rfl).trans ?_
  exact Iff.rfl
theorem r205_509 {d : Nat} {X : Nat × (Nat → Int)} {v : Nat → Int} {M : PH} {K : PV → PS → Prop} {l1 l2 l3 s0 : Int} : pm_Run d 205 509 [vA 234, vI l1, vI l2, vI l3, PU] [vI s0, vA 234] (GF X, M, PTF v) K ↔ pm_Call d 188 [vA 234, vI s0] (GF X, M, PTF v) (fun r9 S1 => pm_Run d 205 512 [vA 234, vI l1, vI l2, vI l3, PU] (pm_push r9 []) S1 K) := by
  refine (ry_v1 (idx := 265) (m' := 188) (ci := 12) (by decide +kernel : 234 < 283 ∧ SHF 234 = (12, 76)) (by simp [pm_wl_n, pm_wl_c, pm_w] : pm_wl [] ≤ 8) (by decide +kernel)).trans ?_
  exact Iff.rfl
theorem r205_512 {d : Nat} {X : Nat × (Nat → Int)} {v : Nat → Int} {M : PH} {K : PV → PS → Prop} {l1 l2 l3 s0 : Int} (h1 : inR s0) : pm_Run d 205 512 [vA 234, vI l1, vI l2, vI l3, PU] [vI s0] (GF X, M, PTF v) K ↔ if s0 ≠ 0 then pm_Run d 205 524 [vA 234, vI l1, vI l2, vI l3, PU] [] (GF X, M, PTF v) K else pm_Run d 205 515 [vA 234, vI l1, vI l2, vI l3, PU] [] (GF X, M, PTF v) K := by
  refine (ry_if_ne (off := 12) (tgt := 524) h1 (by decide +kernel)).trans ?_
  exact Iff.rfl
theorem r205_515 {d : Nat} {X : Nat × (Nat → Int)} {v : Nat → Int} {M : PH} {K : PV → PS → Prop} {l1 l2 l3 : Int} : pm_Run d 205 515 [vA 234, vI l1, vI l2, vI l3, PU] [] (GF X, M, PTF v) K ↔ pm_Call d 183 [vA 234, vI 1, vI (M 234 4)] (GF X, M, PTF v) (fun r9 S1 => pm_Run d 205 524 [vA 234, vI l1, vI l2, vI l3, PU] (pm_push r9 []) S1 K) := by
  refine (px_go (by decide +kernel : pm_fe 205 515 = some (.aload_n 0, 1)) rfl).trans ?_
  refine (px_go (by decide +kernel : pm_fe 205 516 = some (.iconst 1, 1)) rfl).trans ?_
  refine (px_go (by decide +kernel : pm_fe 205 517 = some (.aload_n 0, 1)) rfl).trans ?_
  refine (ry_get0 (idx := 23) (ci := 12) (k := 4) (by decide +kernel : 234 < 283 ∧ SHF 234 = (12, 76)) (by decide +kernel)).trans ?_
  refine (ry_v2 (idx := 251) (m' := 183) (ci := 12) (by decide +kernel : 234 < 283 ∧ SHF 234 = (12, 76)) (by simp [pm_wl_n, pm_wl_c, pm_w] : pm_wl [] ≤ 8) (by decide +kernel)).trans ?_
  exact Iff.rfl
theorem r205_524 {d : Nat} {X : Nat × (Nat → Int)} {v : Nat → Int} {M : PH} {K : PV → PS → Prop} {l1 l2 l3 : Int} (h1 : inR (M 234 8)) : pm_Run d 205 524 [vA 234, vI l1, vI l2, vI l3, PU] [] (GF X, M, PTF v) K ↔ if M 234 8 ≤ 0 then pm_Run d 205 533 [vA 234, vI l1, vI l2, vI l3, PU] [] (GF X, M, PTF v) K else pm_Run d 205 531 [vA 234, vI l1, vI l2, vI l3, PU] [] (GF X, M, PTF v) K := by
  refine (px_go (by decide +kernel : pm_fe 205 524 = some (.aload_n 0, 1)) rfl).trans ?_
  refine (ry_get0 (idx := 36) (ci := 12) (k := 8) (by decide +kernel : 234 < 283 ∧ SHF 234 = (12, 76)) (by decide +kernel)).trans ?_
  refine (ry_if_le (off := 5) (tgt := 533) h1 (by decide +kernel)).trans ?_
  exact Iff.rfl
theorem r205_531 {d : Nat} {X : Nat × (Nat → Int)} {v : Nat → Int} {M : PH} {K : PV → PS → Prop} {l1 l2 l3 : Int} : pm_Run d 205 531 [vA 234, vI l1, vI l2, vI l3, PU] [] (GF X, M, PTF v) K ↔ K (vI 0) (GF X, M, PTF v) := by
  refine (px_go (by decide +kernel : pm_fe 205 531 = some (.iconst 0, 1)) rfl).trans ?_
  refine (px_rz (by decide +kernel)).trans ((and_iff_right (by decide : (0 : Int) = (0 : Int) ∨ (0 : Int) = (1 : Int))).trans ?_)
  exact Iff.rfl
theorem r205_533 {d : Nat} {X : Nat × (Nat → Int)} {v : Nat → Int} {M : PH} {K : PV → PS → Prop} {l1 l2 l3 : Int} : pm_Run d 205 533 [vA 234, vI l1, vI l2, vI l3, PU] [] (GF X, M, PTF v) K ↔ pm_Call d 199 [vA 234, vI 1] (GF X, M, PTF v) (fun r9 S1 => pm_Run d 205 538 [vA 234, vI l1, vI l2, vI l3, PU] (pm_push r9 []) S1 K) := by
  refine (px_go (by decide +kernel : pm_fe 205 533 = some (.aload_n 0, 1)) rfl).trans ?_
  refine (px_go (by decide +kernel : pm_fe 205 534 = some (.iconst 1, 1)) rfl).trans ?_
  refine (ry_v1 (idx := 366) (m' := 199) (ci := 12) (by decide +kernel : 234 < 283 ∧ SHF 234 = (12, 76)) (by simp [pm_wl_n, pm_wl_c, pm_w] : pm_wl [] ≤ 8) (by decide +kernel)).trans ?_
  exact Iff.rfl
theorem r205_538 {d : Nat} {X : Nat × (Nat → Int)} {v : Nat → Int} {M : PH} {K : PV → PS → Prop} {l1 l2 l3 : Int} : pm_Run d 205 538 [vA 234, vI l1, vI l2, vI l3, PU] [] (GF X, M, PTF v) K ↔ pm_Run d 205 548 [vA 234, vI l1, vI l2, vI l3, PU] [] (GF X, pm_sa M 234 (pm_up (M 234) 48 ((M 234 48) - 1)), PTF v) K := by
  refine (px_go (by decide +kernel : pm_fe 205 538 = some (.aload_n 0, 1)) rfl).trans ?_
  refine (px_go (by decide +kernel : pm_fe 205 539 = some (.dup, 1)) rfl).trans ?_
  refine (ry_get0 (idx := 158) (ci := 12) (k := 48) (by decide +kernel : 234 < 283 ∧ SHF 234 = (12, 76)) (by decide +kernel)).trans ?_
  refine (px_go (by decide +kernel : pm_fe 205 543 = some (.iconst 1, 1)) rfl).trans ?_
  refine (px_go (by decide +kernel : pm_fe 205 544 = some (.isub, 1)) rfl).trans ?_
  refine (ry_put0 (idx := 158) (ci := 12) (k := 48) (by decide +kernel : 234 < 283 ∧ SHF 234 = (12, 76)) (by decide +kernel)).trans ?_
  exact Iff.rfl
theorem r205_548 {d : Nat} {X : Nat × (Nat → Int)} {v : Nat → Int} {M : PH} {K : PV → PS → Prop} {l1 l2 l3 : Int} : pm_Run d 205 548 [vA 234, vI l1, vI l2, vI l3, PU] [] (GF X, M, PTF v) K ↔ pm_Run d 205 558 [vA 234, vI l1, vI l2, vI l3, PU] [] (GF X, pm_sa M 234 (pm_up (M 234) 49 ((M 234 49) - 1)), PTF v) K := by
  refine (px_go (by decide +kernel : pm_fe 205 548 = some (.aload_n 0, 1)) rfl).trans ?_
  refine (px_go (by decide +kernel : pm_fe 205 549 = some (.dup, 1)) rfl).trans ?_
  refine (ry_get0 (idx := 161) (ci := 12) (k := 49) (by decide +kernel : 234 < 283 ∧ SHF 234 = (12, 76)) (by decide +kernel)).trans ?_
  refine (px_go (by decide +kernel : pm_fe 205 553 = some (.iconst 1, 1)) rfl).trans ?_
  refine (px_go (by decide +kernel : pm_fe 205 554 = some (.isub, 1)) rfl).trans ?_
  refine (ry_put0 (idx := 161) (ci := 12) (k := 49) (by decide +kernel : 234 < 283 ∧ SHF 234 = (12, 76)) (by decide +kernel)).trans ?_
  exact Iff.rfl
theorem r205_558 {d : Nat} {X : Nat × (Nat → Int)} {v : Nat → Int} {M : PH} {K : PV → PS → Prop} {l1 l2 l3 : Int} (h1 : inR l2) : pm_Run d 205 558 [vA 234, vI l1, vI l2, vI l3, PU] [] (GF X, M, PTF v) K ↔ if l2 ≠ 4 then pm_Run d 205 574 [vA 234, vI l1, vI l2, vI l3, PU] [] (GF X, M, PTF v) K else pm_Run d 205 563 [vA 234, vI l1, vI l2, vI l3, PU] [] (GF X, M, PTF v) K := by
  refine (px_go (by decide +kernel : pm_fe 205 558 = some (.iload_n 2, 1)) rfl).trans ?_
  refine (px_go (by decide +kernel : pm_fe 205 559 = some (.iconst 4, 1)) rfl).trans ?_
  refine (ry_ic_ne (off := 14) (tgt := 574) h1 (by decide : (-2147483648 ≤ (4 : Int) ∧ (4 : Int) < 2147483648)) (by decide +kernel)).trans ?_
  exact Iff.rfl
theorem r205_563 {d : Nat} {X : Nat × (Nat → Int)} {v : Nat → Int} {M : PH} {K : PV → PS → Prop} {l1 l2 l3 : Int} (h1 : 0 ≤ l1) (h2 : l1 < 20) : pm_Run d 205 563 [vA 234, vI l1, vI l2, vI l3, PU] [] (GF X, M, PTF v) K ↔ pm_Call d 197 [vA 234, vI (M 266 l1.toNat), vI 0] (GF X, M, PTF v) (fun r9 S1 => pm_Run d 205 574 [vA 234, vI l1, vI l2, vI l3, PU] (pm_push r9 []) S1 K) := by
  refine (px_go (by decide +kernel : pm_fe 205 563 = some (.aload_n 0, 1)) rfl).trans ?_
  refine (px_go (by decide +kernel : pm_fe 205 564 = some (.aload_n 0, 1)) rfl).trans ?_
  refine (ry_get2 (idx := 152) (ci := 12) (k := 46) (by decide +kernel : 234 < 283 ∧ SHF 234 = (12, 76)) (ptf_l (a := 234) (k := 46) (n := 266) (by decide +kernel)) (by decide +kernel)).trans ?_
  refine (px_go (by decide +kernel : pm_fe 205 568 = some (.iload_n 1, 1)) rfl).trans ?_
  refine (ry_iald (by decide +kernel : 266 < 283 ∧ SHF 266 = (100, 20)) h1 h2 (by decide +kernel)).trans ?_
  refine (px_go (by decide +kernel : pm_fe 205 570 = some (.iconst 0, 1)) rfl).trans ?_
  refine (ry_v2 (idx := 347) (m' := 197) (ci := 12) (by decide +kernel : 234 < 283 ∧ SHF 234 = (12, 76)) (by simp [pm_wl_n, pm_wl_c, pm_w] : pm_wl [] ≤ 8) (by decide +kernel)).trans ?_
  exact Iff.rfl
theorem r205_574 {d : Nat} {X : Nat × (Nat → Int)} {v : Nat → Int} {M : PH} {K : PV → PS → Prop} {l1 l2 l3 : Int} (h1 : inR l2) : pm_Run d 205 574 [vA 234, vI l1, vI l2, vI l3, PU] [] (GF X, M, PTF v) K ↔ if l2 ≠ 5 then pm_Run d 205 591 [vA 234, vI l1, vI l2, vI l3, PU] [] (GF X, M, PTF v) K else pm_Run d 205 579 [vA 234, vI l1, vI l2, vI l3, PU] [] (GF X, M, PTF v) K := by
  refine (px_go (by decide +kernel : pm_fe 205 574 = some (.iload_n 2, 1)) rfl).trans ?_
  refine (px_go (by decide +kernel : pm_fe 205 575 = some (.iconst 5, 1)) rfl).trans ?_
  refine (ry_ic_ne (off := 15) (tgt := 591) h1 (by decide : (-2147483648 ≤ (5 : Int) ∧ (5 : Int) < 2147483648)) (by decide +kernel)).trans ?_
  exact Iff.rfl
theorem r205_579 {d : Nat} {X : Nat × (Nat → Int)} {v : Nat → Int} {M : PH} {K : PV → PS → Prop} {l1 l2 l3 : Int} (h1 : 0 ≤ ((M 234 48) - 1)) (h2 : ((M 234 48) - 1) < 20) : pm_Run d 205 579 [vA 234, vI l1, vI l2, vI l3, PU] [] (GF X, M, PTF v) K ↔ pm_Run d 205 591 [vA 234, vI l1, vI l2, vI l3, PU] [] (GF X, pm_sa M 264 (pm_up (M 264) ((M 234 48) - 1).toNat 2), PTF v) K := by
  refine (px_go (by decide +kernel : pm_fe 205 579 = some (.aload_n 0, 1)) rfl).trans ?_
  refine (ry_get2 (idx := 145) (ci := 12) (k := 44) (by decide +kernel : 234 < 283 ∧ SHF 234 = (12, 76)) (ptf_l (a := 234) (k := 44) (n := 264) (by decide +kernel)) (by decide +kernel)).trans ?_
  refine (px_go (by decide +kernel : pm_fe 205 583 = some (.aload_n 0, 1)) rfl).trans ?_
  refine (ry_get0 (idx := 158) (ci := 12) (k := 48) (by decide +kernel : 234 < 283 ∧ SHF 234 = (12, 76)) (by decide +kernel)).trans ?_
  refine (px_go (by decide +kernel : pm_fe 205 587 = some (.iconst 1, 1)) rfl).trans ?_
  refine (px_go (by decide +kernel : pm_fe 205 588 = some (.isub, 1)) rfl).trans ?_
  refine (px_go (by decide +kernel : pm_fe 205 589 = some (.iconst 2, 1)) rfl).trans ?_
  refine (ry_iast (by decide +kernel : 264 < 283 ∧ SHF 264 = (100, 20)) h1 h2 (by decide +kernel)).trans ?_
  exact Iff.rfl
theorem r205_591 {d : Nat} {X : Nat × (Nat → Int)} {v : Nat → Int} {M : PH} {K : PV → PS → Prop} {l1 l2 l3 : Int} : pm_Run d 205 591 [vA 234, vI l1, vI l2, vI l3, PU] [] (GF X, M, PTF v) K ↔ pm_Call d 187 [vA 234] (GF X, M, PTF v) (fun r9 S1 => pm_Run d 205 595 [vA 234, vI l1, vI l2, vI l3, PU] (pm_push r9 []) S1 K) := by
  refine (px_go (by decide +kernel : pm_fe 205 591 = some (.aload_n 0, 1)) rfl).trans ?_
  refine (ry_v0 (idx := 268) (m' := 187) (ci := 12) (by decide +kernel : 234 < 283 ∧ SHF 234 = (12, 76)) (by simp [pm_wl_n, pm_wl_c, pm_w] : pm_wl [] ≤ 8) (by decide +kernel)).trans ?_
  exact Iff.rfl
theorem r205_595 {d : Nat} {X : Nat × (Nat → Int)} {v : Nat → Int} {M : PH} {K : PV → PS → Prop} {l1 l2 l3 : Int} : pm_Run d 205 595 [vA 234, vI l1, vI l2, vI l3, PU] [] (GF X, M, PTF v) K ↔ K (vI 1) (GF X, M, PTF v) := by
  refine (px_go (by decide +kernel : pm_fe 205 595 = some (.iconst 1, 1)) rfl).trans ?_
  refine (px_rz (by decide +kernel)).trans ((and_iff_right (by decide : (1 : Int) = (0 : Int) ∨ (1 : Int) = (1 : Int))).trans ?_)
  exact Iff.rfl
