-- X12_meet meet(I)I
theorem r296_0 {d : Nat} {X : Nat × (Nat → Int)} {v : Nat → Int} {M : PH} {K : PV → PS → Prop} {l1 : Int} : pm_Run d 296 0 [vA 234, vI l1, PU, PU, PU, PU] [] (GF X, M, PTF v) K ↔ pm_Call d 179 [vI l1, vI 0, vI 1] (GF X, M, PTF v) (fun r9 S1 => pm_Run d 296 6 [vA 234, vI l1, PU, PU, PU, PU] (pm_push r9 []) S1 K) := by
  refine (px_go (by decide +kernel : pm_fe 296 0 = some (.iload_n 1, 1)) rfl).trans ?_
  refine (px_go (by decide +kernel : pm_fe 296 1 = some (.iconst 0, 1)) rfl).trans ?_
  refine (px_go (by decide +kernel : pm_fe 296 2 = some (.iconst 1, 1)) rfl).trans ?_
  refine (px_s3 (idx := 337) (m' := 179) (nest := 0) (by decide +kernel)).trans ((and_iff_right (by simp [pm_wl_n, pm_wl_c, pm_w] : pm_wl [] ≤ 8)).trans ?_)
  exact Iff.rfl
theorem r296_6 {d : Nat} {X : Nat × (Nat → Int)} {v : Nat → Int} {M : PH} {K : PV → PS → Prop} {l1 s0 : Int} (h1 : inR s0) : pm_Run d 296 6 [vA 234, vI l1, PU, PU, PU, PU] [vI s0] (GF X, M, PTF v) K ↔ if s0 = 0 then pm_Run d 296 21 [vA 234, vI l1, PU, PU, PU, PU] [] (GF X, M, PTF v) K else pm_Run d 296 9 [vA 234, vI l1, PU, PU, PU, PU] [] (GF X, M, PTF v) K := by
  refine (ry_if_eq (off := 15) (tgt := 21) h1 (by decide +kernel)).trans ?_
  exact Iff.rfl
theorem r296_9 {d : Nat} {X : Nat × (Nat → Int)} {v : Nat → Int} {M : PH} {K : PV → PS → Prop} {l1 : Int} (h1 : 0 ≤ (M 234 13)) (h2 : (M 234 13) < 2) (h3 : inR (M 237 (M 234 13).toNat)) : pm_Run d 296 9 [vA 234, vI l1, PU, PU, PU, PU] [] (GF X, M, PTF v) K ↔ if M 237 (M 234 13).toNat ≠ 0 then pm_Run d 296 23 [vA 234, vI l1, PU, PU, PU, PU] [] (GF X, M, PTF v) K else pm_Run d 296 21 [vA 234, vI l1, PU, PU, PU, PU] [] (GF X, M, PTF v) K := by
  refine (px_go (by decide +kernel : pm_fe 296 9 = some (.aload_n 0, 1)) rfl).trans ?_
  refine (ry_get2 (idx := 57) (ci := 12) (k := 15) (by decide +kernel : 234 < 283 ∧ SHF 234 = (12, 76)) (ptf_l (a := 234) (k := 15) (n := 237) (by decide +kernel)) (by decide +kernel)).trans ?_
  refine (px_go (by decide +kernel : pm_fe 296 13 = some (.aload_n 0, 1)) rfl).trans ?_
  refine (ry_get0 (idx := 51) (ci := 12) (k := 13) (by decide +kernel : 234 < 283 ∧ SHF 234 = (12, 76)) (by decide +kernel)).trans ?_
  refine (ry_iald (by decide +kernel : 237 < 283 ∧ SHF 237 = (100, 2)) h1 h2 (by decide +kernel)).trans ?_
  refine (ry_if_ne (off := 5) (tgt := 23) h3 (by decide +kernel)).trans ?_
  exact Iff.rfl
theorem r296_21 {d : Nat} {X : Nat × (Nat → Int)} {v : Nat → Int} {M : PH} {K : PV → PS → Prop} {l1 : Int} : pm_Run d 296 21 [vA 234, vI l1, PU, PU, PU, PU] [] (GF X, M, PTF v) K ↔ K (vI (-1)) (GF X, M, PTF v) := by
  refine (px_go (by decide +kernel : pm_fe 296 21 = some (.iconst (-1), 1)) rfl).trans ?_
  refine (px_ri (by decide +kernel)).trans ?_
  exact Iff.rfl
theorem r296_23 {d : Nat} {X : Nat × (Nat → Int)} {v : Nat → Int} {M : PH} {K : PV → PS → Prop} {l1 : Int} : pm_Run d 296 23 [vA 234, vI l1, PU, PU, PU, PU] [] (GF X, M, PTF v) K ↔ pm_Run d 296 25 [vA 234, vI l1, vI 0, PU, PU, PU] [] (GF X, M, PTF v) K := by
  refine (px_go (by decide +kernel : pm_fe 296 23 = some (.iconst 0, 1)) rfl).trans ?_
  refine (px_go (by decide +kernel : pm_fe 296 24 = some (.istore_n 2, 1)) rfl).trans ?_
  exact Iff.rfl
theorem r296_25 {d : Nat} {X : Nat × (Nat → Int)} {v : Nat → Int} {M : PH} {K : PV → PS → Prop} {l1 l2 : Int} {l3 l4 l5 : PV} (h1 : inR l2) : pm_Run d 296 25 [vA 234, vI l1, vI l2, l3, l4, l5] [] (GF X, M, PTF v) K ↔ if 9999 < l2 then pm_Run d 296 166 [vA 234, vI l1, vI l2, l3, l4, l5] [] (GF X, M, PTF v) K else pm_Run d 296 32 [vA 234, vI l1, vI l2, l3, l4, l5] [] (GF X, M, PTF v) K := by
  refine (px_go (by decide +kernel : pm_fe 296 25 = some (.iload_n 2, 1)) rfl).trans ?_
  refine (px_go (by decide +kernel : pm_fe 296 26 = some (.sipush 9999, 3)) rfl).trans ?_
  refine (ry_ic_gt (off := 137) (tgt := 166) h1 (by decide : (-2147483648 ≤ (9999 : Int) ∧ (9999 : Int) < 2147483648)) (by decide +kernel)).trans ?_
  exact Iff.rfl
theorem r296_32 {d : Nat} {X : Nat × (Nat → Int)} {v : Nat → Int} {M : PH} {K : PV → PS → Prop} {l1 l2 : Int} {l3 l4 l5 : PV} (h1 : 0 ≤ (3 * (M 234 13))) (h2 : (3 * (M 234 13)) < 6) (h3 : 0 ≤ (M 234 13)) (h4 : (M 234 13) < 2) (h5 : inR ((M 271 0) + ((M 239 (3 * (M 234 13)).toNat) * l2))) (h6 : inR (M 236 (M 234 13).toNat)) (h7 : (M 236 (M 234 13).toNat) ≠ 0) : pm_Run d 296 32 [vA 234, vI l1, vI l2, l3, l4, l5] [] (GF X, M, PTF v) K ↔ pm_Run d 296 69 [vA 234, vI l1, vI l2, vI 1, vI (((M 271 0) + ((M 239 (3 * (M 234 13)).toNat) * l2)).tmod (M 236 (M 234 13).toNat)), vI 1] [] (GF X, M, PTF v) K := by
  refine (px_go (by decide +kernel : pm_fe 296 32 = some (.iconst 1, 1)) rfl).trans ?_
  refine (px_go (by decide +kernel : pm_fe 296 33 = some (.istore_n 3, 1)) rfl).trans ?_
  refine (px_go (by decide +kernel : pm_fe 296 34 = some (.aload_n 0, 1)) rfl).trans ?_
  refine (ry_get2 (idx := 180) (ci := 12) (k := 55) (by decide +kernel : 234 < 283 ∧ SHF 234 = (12, 76)) (ptf_l (a := 234) (k := 55) (n := 271) (by decide +kernel)) (by decide +kernel)).trans ?_
  refine (px_go (by decide +kernel : pm_fe 296 38 = some (.iconst 0, 1)) rfl).trans ?_
  refine (ry_iald (by decide +kernel : 271 < 283 ∧ SHF 271 = (100, 66)) (by decide : (0 : Int) ≤ (0 : Int)) (by decide : (0 : Int) < (66 : Int)) (by decide +kernel)).trans ?_
  refine (px_go (by decide +kernel : pm_fe 296 40 = some (.aload_n 0, 1)) rfl).trans ?_
  refine (ry_get2 (idx := 63) (ci := 12) (k := 17) (by decide +kernel : 234 < 283 ∧ SHF 234 = (12, 76)) (ptf_l (a := 234) (k := 17) (n := 239) (by decide +kernel)) (by decide +kernel)).trans ?_
  refine (px_go (by decide +kernel : pm_fe 296 44 = some (.iconst 3, 1)) rfl).trans ?_
  refine (px_go (by decide +kernel : pm_fe 296 45 = some (.aload_n 0, 1)) rfl).trans ?_
  refine (ry_get0 (idx := 51) (ci := 12) (k := 13) (by decide +kernel : 234 < 283 ∧ SHF 234 = (12, 76)) (by decide +kernel)).trans ?_
  refine (px_go (by decide +kernel : pm_fe 296 49 = some (.imul, 1)) rfl).trans ?_
  refine (ry_iald (by decide +kernel : 239 < 283 ∧ SHF 239 = (100, 6)) h1 h2 (by decide +kernel)).trans ?_
  refine (px_go (by decide +kernel : pm_fe 296 51 = some (.iload_n 2, 1)) rfl).trans ?_
  refine (px_go (by decide +kernel : pm_fe 296 52 = some (.imul, 1)) rfl).trans ?_
  refine (px_go (by decide +kernel : pm_fe 296 53 = some (.iadd, 1)) rfl).trans ?_
  refine (px_go (by decide +kernel : pm_fe 296 54 = some (.aload_n 0, 1)) rfl).trans ?_
  refine (ry_get2 (idx := 54) (ci := 12) (k := 14) (by decide +kernel : 234 < 283 ∧ SHF 234 = (12, 76)) (ptf_l (a := 234) (k := 14) (n := 236) (by decide +kernel)) (by decide +kernel)).trans ?_
  refine (px_go (by decide +kernel : pm_fe 296 58 = some (.aload_n 0, 1)) rfl).trans ?_
  refine (ry_get0 (idx := 51) (ci := 12) (k := 13) (by decide +kernel : 234 < 283 ∧ SHF 234 = (12, 76)) (by decide +kernel)).trans ?_
  refine (ry_iald (by decide +kernel : 236 < 283 ∧ SHF 236 = (100, 2)) h3 h4 (by decide +kernel)).trans ?_
  refine (ry_irem h5 h6 h7 (by decide +kernel)).trans ?_
  refine (px_go (by decide +kernel : pm_fe 296 64 = some (.istore 4, 2)) rfl).trans ?_
  refine (px_go (by decide +kernel : pm_fe 296 66 = some (.iconst 1, 1)) rfl).trans ?_
  refine (px_go (by decide +kernel : pm_fe 296 67 = some (.istore 5, 2)) rfl).trans ?_
  exact Iff.rfl
theorem r296_69 {d : Nat} {X : Nat × (Nat → Int)} {v : Nat → Int} {M : PH} {K : PV → PS → Prop} {l1 l2 l3 l4 l5 : Int} (h1 : 0 ≤ (M 234 13)) (h2 : (M 234 13) < 2) (h3 : inR l5) (h4 : inR (M 237 (M 234 13).toNat)) : pm_Run d 296 69 [vA 234, vI l1, vI l2, vI l3, vI l4, vI l5] [] (GF X, M, PTF v) K ↔ if M 237 (M 234 13).toNat ≤ l5 then pm_Run d 296 138 [vA 234, vI l1, vI l2, vI l3, vI l4, vI l5] [] (GF X, M, PTF v) K else pm_Run d 296 83 [vA 234, vI l1, vI l2, vI l3, vI l4, vI l5] [] (GF X, M, PTF v) K := by
  refine (px_go (by decide +kernel : pm_fe 296 69 = some (.iload 5, 2)) rfl).trans ?_
  refine (px_go (by decide +kernel : pm_fe 296 71 = some (.aload_n 0, 1)) rfl).trans ?_
  refine (ry_get2 (idx := 57) (ci := 12) (k := 15) (by decide +kernel : 234 < 283 ∧ SHF 234 = (12, 76)) (ptf_l (a := 234) (k := 15) (n := 237) (by decide +kernel)) (by decide +kernel)).trans ?_
  refine (px_go (by decide +kernel : pm_fe 296 75 = some (.aload_n 0, 1)) rfl).trans ?_
  refine (ry_get0 (idx := 51) (ci := 12) (k := 13) (by decide +kernel : 234 < 283 ∧ SHF 234 = (12, 76)) (by decide +kernel)).trans ?_
  refine (ry_iald (by decide +kernel : 237 < 283 ∧ SHF 237 = (100, 2)) h1 h2 (by decide +kernel)).trans ?_
  refine (ry_ic_ge (off := 58) (tgt := 138) h3 h4 (by decide +kernel)).trans ?_
  exact Iff.rfl
theorem r296_83 {d : Nat} {X : Nat × (Nat → Int)} {v : Nat → Int} {M : PH} {K : PV → PS → Prop} {l1 l2 l3 l4 l5 : Int} (h1 : inR l3) : pm_Run d 296 83 [vA 234, vI l1, vI l2, vI l3, vI l4, vI l5] [] (GF X, M, PTF v) K ↔ if l3 = 0 then pm_Run d 296 130 [vA 234, vI l1, vI l2, vI l3, vI l4, vI l5] [] (GF X, M, PTF v) K else pm_Run d 296 87 [vA 234, vI l1, vI l2, vI l3, vI l4, vI l5] [] (GF X, M, PTF v) K := by
  refine (px_go (by decide +kernel : pm_fe 296 83 = some (.iload_n 3, 1)) rfl).trans ?_
  refine (ry_if_eq (off := 46) (tgt := 130) h1 (by decide +kernel)).trans ?_
  exact Iff.rfl
theorem r296_87 {d : Nat} {X : Nat × (Nat → Int)} {v : Nat → Int} {M : PH} {K : PV → PS → Prop} {l1 l2 l3 l4 l5 : Int} (h1 : 0 ≤ l5) (h2 : l5 < 66) (h3 : 0 ≤ ((3 * (M 234 13)) + l5)) (h4 : ((3 * (M 234 13)) + l5) < 6) (h5 : 0 ≤ (M 234 13)) (h6 : (M 234 13) < 2) (h7 : inR ((M 271 l5.toNat) + ((M 239 ((3 * (M 234 13)) + l5).toNat) * l2))) (h8 : inR (M 236 (M 234 13).toNat)) (h9 : (M 236 (M 234 13).toNat) ≠ 0) (h10 : inR (((M 271 l5.toNat) + ((M 239 ((3 * (M 234 13)) + l5).toNat) * l2)).tmod (M 236 (M 234 13).toNat))) (h11 : inR l4) : pm_Run d 296 87 [vA 234, vI l1, vI l2, vI l3, vI l4, vI l5] [] (GF X, M, PTF v) K ↔ if ((M 271 l5.toNat) + ((M 239 ((3 * (M 234 13)) + l5).toNat) * l2)).tmod (M 236 (M 234 13).toNat) ≠ l4 then pm_Run d 296 130 [vA 234, vI l1, vI l2, vI l3, vI l4, vI l5] [] (GF X, M, PTF v) K else pm_Run d 296 126 [vA 234, vI l1, vI l2, vI l3, vI l4, vI l5] [] (GF X, M, PTF v) K := by
  refine (px_go (by decide +kernel : pm_fe 296 87 = some (.aload_n 0, 1)) rfl).trans ?_
  refine (ry_get2 (idx := 180) (ci := 12) (k := 55) (by decide +kernel : 234 < 283 ∧ SHF 234 = (12, 76)) (ptf_l (a := 234) (k := 55) (n := 271) (by decide +kernel)) (by decide +kernel)).trans ?_
  refine (px_go (by decide +kernel : pm_fe 296 91 = some (.iload 5, 2)) rfl).trans ?_
  refine (ry_iald (by decide +kernel : 271 < 283 ∧ SHF 271 = (100, 66)) h1 h2 (by decide +kernel)).trans ?_
  refine (px_go (by decide +kernel : pm_fe 296 94 = some (.aload_n 0, 1)) rfl).trans ?_
  refine (ry_get2 (idx := 63) (ci := 12) (k := 17) (by decide +kernel : 234 < 283 ∧ SHF 234 = (12, 76)) (ptf_l (a := 234) (k := 17) (n := 239) (by decide +kernel)) (by decide +kernel)).trans ?_
  refine (px_go (by decide +kernel : pm_fe 296 98 = some (.iconst 3, 1)) rfl).trans ?_
  refine (px_go (by decide +kernel : pm_fe 296 99 = some (.aload_n 0, 1)) rfl).trans ?_
  refine (ry_get0 (idx := 51) (ci := 12) (k := 13) (by decide +kernel : 234 < 283 ∧ SHF 234 = (12, 76)) (by decide +kernel)).trans ?_
  refine (px_go (by decide +kernel : pm_fe 296 103 = some (.imul, 1)) rfl).trans ?_
  refine (px_go (by decide +kernel : pm_fe 296 104 = some (.iload 5, 2)) rfl).trans ?_
  refine (px_go (by decide +kernel : pm_fe 296 106 = some (.iadd, 1)) rfl).trans ?_
  refine (ry_iald (by decide +kernel : 239 < 283 ∧ SHF 239 = (100, 6)) h3 h4 (by decide +kernel)).trans ?_
  refine (px_go (by decide +kernel : pm_fe 296 108 = some (.iload_n 2, 1)) rfl).trans ?_
  refine (px_go (by decide +kernel : pm_fe 296 109 = some (.imul, 1)) rfl).trans ?_
  refine (px_go (by decide +kernel : pm_fe 296 110 = some (.iadd, 1)) rfl).trans ?_
  refine (px_go (by decide +kernel : pm_fe 296 111 = some (.aload_n 0, 1)) rfl).trans ?_
  refine (ry_get2 (idx := 54) (ci := 12) (k := 14) (by decide +kernel : 234 < 283 ∧ SHF 234 = (12, 76)) (ptf_l (a := 234) (k := 14) (n := 236) (by decide +kernel)) (by decide +kernel)).trans ?_
  refine (px_go (by decide +kernel : pm_fe 296 115 = some (.aload_n 0, 1)) rfl).trans ?_
  refine (ry_get0 (idx := 51) (ci := 12) (k := 13) (by decide +kernel : 234 < 283 ∧ SHF 234 = (12, 76)) (by decide +kernel)).trans ?_
  refine (ry_iald (by decide +kernel : 236 < 283 ∧ SHF 236 = (100, 2)) h5 h6 (by decide +kernel)).trans ?_
  refine (ry_irem h7 h8 h9 (by decide +kernel)).trans ?_
  refine (px_go (by decide +kernel : pm_fe 296 121 = some (.iload 4, 2)) rfl).trans ?_
  refine (ry_ic_ne (off := 7) (tgt := 130) h10 h11 (by decide +kernel)).trans ?_
  exact Iff.rfl
theorem r296_126 {d : Nat} {X : Nat × (Nat → Int)} {v : Nat → Int} {M : PH} {K : PV → PS → Prop} {l1 l2 l3 l4 l5 : Int} : pm_Run d 296 126 [vA 234, vI l1, vI l2, vI l3, vI l4, vI l5] [] (GF X, M, PTF v) K ↔ pm_Run d 296 131 [vA 234, vI l1, vI l2, vI l3, vI l4, vI l5] [vI 1] (GF X, M, PTF v) K := by
  refine (px_go (by decide +kernel : pm_fe 296 126 = some (.iconst 1, 1)) rfl).trans ?_
  refine (px_goto (off := 4) (tgt := 131) (by decide +kernel)).trans ?_
  exact Iff.rfl
theorem r296_130 {d : Nat} {X : Nat × (Nat → Int)} {v : Nat → Int} {M : PH} {K : PV → PS → Prop} {l1 l2 l3 l4 l5 : Int} : pm_Run d 296 130 [vA 234, vI l1, vI l2, vI l3, vI l4, vI l5] [] (GF X, M, PTF v) K ↔ pm_Run d 296 131 [vA 234, vI l1, vI l2, vI l3, vI l4, vI l5] [vI 0] (GF X, M, PTF v) K := by
  refine (px_go (by decide +kernel : pm_fe 296 130 = some (.iconst 0, 1)) rfl).trans ?_
  exact Iff.rfl
theorem r296_131 {d : Nat} {X : Nat × (Nat → Int)} {v : Nat → Int} {M : PH} {K : PV → PS → Prop} {l1 l2 l3 l4 l5 s0 : Int} : pm_Run d 296 131 [vA 234, vI l1, vI l2, vI l3, vI l4, vI l5] [vI s0] (GF X, M, PTF v) K ↔ pm_Run d 296 69 [vA 234, vI l1, vI l2, vI s0, vI l4, vI (l5 + 1)] [] (GF X, M, PTF v) K := by
  refine (px_go (by decide +kernel : pm_fe 296 131 = some (.istore_n 3, 1)) rfl).trans ?_
  refine (px_go (by decide +kernel : pm_fe 296 132 = some (.iinc 5 1, 3)) rfl).trans ?_
  refine (px_goto (off := (-66)) (tgt := 69) (by decide +kernel)).trans ?_
  exact Iff.rfl
theorem r296_138 {d : Nat} {X : Nat × (Nat → Int)} {v : Nat → Int} {M : PH} {K : PV → PS → Prop} {l1 l2 l3 l4 l5 : Int} (h1 : inR l3) : pm_Run d 296 138 [vA 234, vI l1, vI l2, vI l3, vI l4, vI l5] [] (GF X, M, PTF v) K ↔ if l3 = 0 then pm_Run d 296 160 [vA 234, vI l1, vI l2, vI l3, vI l4, vI l5] [] (GF X, M, PTF v) K else pm_Run d 296 142 [vA 234, vI l1, vI l2, vI l3, vI l4, vI l5] [] (GF X, M, PTF v) K := by
  refine (px_go (by decide +kernel : pm_fe 296 138 = some (.iload_n 3, 1)) rfl).trans ?_
  refine (ry_if_eq (off := 21) (tgt := 160) h1 (by decide +kernel)).trans ?_
  exact Iff.rfl
theorem r296_142 {d : Nat} {X : Nat × (Nat → Int)} {v : Nat → Int} {M : PH} {K : PV → PS → Prop} {l1 l2 l3 l4 l5 : Int} (h1 : inR l1) : pm_Run d 296 142 [vA 234, vI l1, vI l2, vI l3, vI l4, vI l5] [] (GF X, M, PTF v) K ↔ if l1 ≠ 0 then pm_Run d 296 157 [vA 234, vI l1, vI l2, vI l3, vI l4, vI l5] [] (GF X, M, PTF v) K else pm_Run d 296 146 [vA 234, vI l1, vI l2, vI l3, vI l4, vI l5] [] (GF X, M, PTF v) K := by
  refine (px_go (by decide +kernel : pm_fe 296 142 = some (.iload_n 1, 1)) rfl).trans ?_
  refine (ry_if_ne (off := 14) (tgt := 157) h1 (by decide +kernel)).trans ?_
  exact Iff.rfl
theorem r296_146 {d : Nat} {X : Nat × (Nat → Int)} {v : Nat → Int} {M : PH} {K : PV → PS → Prop} {l1 l2 l3 l4 l5 : Int} : pm_Run d 296 146 [vA 234, vI l1, vI l2, vI l3, vI l4, vI l5] [] (GF X, M, PTF v) K ↔ pm_Run d 296 159 [vA 234, vI l1, vI l2, vI l3, vI l4, vI l5] [vI ((M 270 0) + l2)] (GF X, M, PTF v) K := by
  refine (px_go (by decide +kernel : pm_fe 296 146 = some (.aload_n 0, 1)) rfl).trans ?_
  refine (ry_get2 (idx := 177) (ci := 12) (k := 54) (by decide +kernel : 234 < 283 ∧ SHF 234 = (12, 76)) (ptf_l (a := 234) (k := 54) (n := 270) (by decide +kernel)) (by decide +kernel)).trans ?_
  refine (px_go (by decide +kernel : pm_fe 296 150 = some (.iconst 0, 1)) rfl).trans ?_
  refine (ry_iald (by decide +kernel : 270 < 283 ∧ SHF 270 = (100, 22)) (by decide : (0 : Int) ≤ (0 : Int)) (by decide : (0 : Int) < (22 : Int)) (by decide +kernel)).trans ?_
  refine (px_go (by decide +kernel : pm_fe 296 152 = some (.iload_n 2, 1)) rfl).trans ?_
  refine (px_go (by decide +kernel : pm_fe 296 153 = some (.iadd, 1)) rfl).trans ?_
  refine (px_goto (off := 5) (tgt := 159) (by decide +kernel)).trans ?_
  exact Iff.rfl
theorem r296_157 {d : Nat} {X : Nat × (Nat → Int)} {v : Nat → Int} {M : PH} {K : PV → PS → Prop} {l1 l2 l3 l4 l5 : Int} : pm_Run d 296 157 [vA 234, vI l1, vI l2, vI l3, vI l4, vI l5] [] (GF X, M, PTF v) K ↔ pm_Run d 296 159 [vA 234, vI l1, vI l2, vI l3, vI l4, vI l5] [vI l4] (GF X, M, PTF v) K := by
  refine (px_go (by decide +kernel : pm_fe 296 157 = some (.iload 4, 2)) rfl).trans ?_
  exact Iff.rfl
theorem r296_159 {d : Nat} {X : Nat × (Nat → Int)} {v : Nat → Int} {M : PH} {K : PV → PS → Prop} {l1 l2 l3 l4 l5 s0 : Int} : pm_Run d 296 159 [vA 234, vI l1, vI l2, vI l3, vI l4, vI l5] [vI s0] (GF X, M, PTF v) K ↔ K (vI s0) (GF X, M, PTF v) := by
  refine (px_ri (by decide +kernel)).trans ?_
  exact Iff.rfl
theorem r296_160 {d : Nat} {X : Nat × (Nat → Int)} {v : Nat → Int} {M : PH} {K : PV → PS → Prop} {l1 l2 l3 l4 l5 : Int} : pm_Run d 296 160 [vA 234, vI l1, vI l2, vI l3, vI l4, vI l5] [] (GF X, M, PTF v) K ↔ pm_Run d 296 25 [vA 234, vI l1, vI (l2 + 1), vI l3, vI l4, vI l5] [] (GF X, M, PTF v) K := by
  refine (px_go (by decide +kernel : pm_fe 296 160 = some (.iinc 2 1, 3)) rfl).trans ?_
  refine (px_goto (off := (-138)) (tgt := 25) (by decide +kernel)).trans ?_
  exact Iff.rfl
theorem r296_166 {d : Nat} {X : Nat × (Nat → Int)} {v : Nat → Int} {M : PH} {K : PV → PS → Prop} {l1 l2 : Int} {l3 l4 l5 : PV} : pm_Run d 296 166 [vA 234, vI l1, vI l2, l3, l4, l5] [] (GF X, M, PTF v) K ↔ K (vI (-1)) (GF X, M, PTF v) := by
  refine (px_go (by decide +kernel : pm_fe 296 166 = some (.iconst (-1), 1)) rfl).trans ?_
  refine (px_ri (by decide +kernel)).trans ?_
  exact Iff.rfl
-- X12_see see()I
theorem r297_0 {d : Nat} {X : Nat × (Nat → Int)} {v : Nat → Int} {M : PH} {K : PV → PS → Prop} : pm_Run d 297 0 [vA 234, PU, PU, PU] [] (GF X, M, PTF v) K ↔ pm_Run d 297 10 [vA 234, vI (M 234 1), PU, PU] [] (GF X, pm_sa M 234 (pm_up (M 234) 1 0), PTF v) K := by
  refine (px_go (by decide +kernel : pm_fe 297 0 = some (.aload_n 0, 1)) rfl).trans ?_
  refine (ry_get0 (idx := 13) (ci := 12) (k := 1) (by decide +kernel : 234 < 283 ∧ SHF 234 = (12, 76)) (by decide +kernel)).trans ?_
  refine (px_go (by decide +kernel : pm_fe 297 4 = some (.istore_n 1, 1)) rfl).trans ?_
  refine (px_go (by decide +kernel : pm_fe 297 5 = some (.aload_n 0, 1)) rfl).trans ?_
  refine (px_go (by decide +kernel : pm_fe 297 6 = some (.iconst 0, 1)) rfl).trans ?_
  refine (ry_put0 (idx := 13) (ci := 12) (k := 1) (by decide +kernel : 234 < 283 ∧ SHF 234 = (12, 76)) (by decide +kernel)).trans ?_
  exact Iff.rfl
theorem r297_10 {d : Nat} {X : Nat × (Nat → Int)} {v : Nat → Int} {M : PH} {K : PV → PS → Prop} {l1 : Int} (h1 : inR l1) : pm_Run d 297 10 [vA 234, vI l1, PU, PU] [] (GF X, M, PTF v) K ↔ if l1 ≤ 0 then pm_Run d 297 30 [vA 234, vI l1, PU, PU] [] (GF X, M, PTF v) K else pm_Run d 297 14 [vA 234, vI l1, PU, PU] [] (GF X, M, PTF v) K := by
  refine (px_go (by decide +kernel : pm_fe 297 10 = some (.iload_n 1, 1)) rfl).trans ?_
  refine (ry_if_le (off := 19) (tgt := 30) h1 (by decide +kernel)).trans ?_
  exact Iff.rfl
theorem r297_14 {d : Nat} {X : Nat × (Nat → Int)} {v : Nat → Int} {M : PH} {K : PV → PS → Prop} {l1 : Int} (h1 : inR l1) (h2 : inR (l1.tmod 3)) : pm_Run d 297 14 [vA 234, vI l1, PU, PU] [] (GF X, M, PTF v) K ↔ if l1.tmod 3 ≠ 0 then pm_Run d 297 30 [vA 234, vI l1, PU, PU] [] (GF X, M, PTF v) K else pm_Run d 297 20 [vA 234, vI l1, PU, PU] [] (GF X, M, PTF v) K := by
  refine (px_go (by decide +kernel : pm_fe 297 14 = some (.iload_n 1, 1)) rfl).trans ?_
  refine (px_go (by decide +kernel : pm_fe 297 15 = some (.iconst 3, 1)) rfl).trans ?_
  refine (ry_irem h1 (by decide : (-2147483648 ≤ (3 : Int) ∧ (3 : Int) < 2147483648)) (by decide : (3 : Int) ≠ (0 : Int)) (by decide +kernel)).trans ?_
  refine (ry_if_ne (off := 13) (tgt := 30) h2 (by decide +kernel)).trans ?_
  exact Iff.rfl
theorem r297_20 {d : Nat} {X : Nat × (Nat → Int)} {v : Nat → Int} {M : PH} {K : PV → PS → Prop} {l1 : Int} (h1 : inR l1) : pm_Run d 297 20 [vA 234, vI l1, PU, PU] [] (GF X, M, PTF v) K ↔ if 60 < l1 then pm_Run d 297 30 [vA 234, vI l1, PU, PU] [] (GF X, M, PTF v) K else pm_Run d 297 26 [vA 234, vI l1, PU, PU] [] (GF X, M, PTF v) K := by
  refine (px_go (by decide +kernel : pm_fe 297 20 = some (.iload_n 1, 1)) rfl).trans ?_
  refine (px_go (by decide +kernel : pm_fe 297 21 = some (.bipush 60, 2)) rfl).trans ?_
  refine (ry_ic_gt (off := 7) (tgt := 30) h1 (by decide : (-2147483648 ≤ (60 : Int) ∧ (60 : Int) < 2147483648)) (by decide +kernel)).trans ?_
  exact Iff.rfl
theorem r297_26 {d : Nat} {X : Nat × (Nat → Int)} {v : Nat → Int} {M : PH} {K : PV → PS → Prop} {l1 : Int} : pm_Run d 297 26 [vA 234, vI l1, PU, PU] [] (GF X, M, PTF v) K ↔ pm_Run d 297 31 [vA 234, vI l1, PU, PU] [vI 1] (GF X, M, PTF v) K := by
  refine (px_go (by decide +kernel : pm_fe 297 26 = some (.iconst 1, 1)) rfl).trans ?_
  refine (px_goto (off := 4) (tgt := 31) (by decide +kernel)).trans ?_
  exact Iff.rfl
theorem r297_30 {d : Nat} {X : Nat × (Nat → Int)} {v : Nat → Int} {M : PH} {K : PV → PS → Prop} {l1 : Int} : pm_Run d 297 30 [vA 234, vI l1, PU, PU] [] (GF X, M, PTF v) K ↔ pm_Run d 297 31 [vA 234, vI l1, PU, PU] [vI 0] (GF X, M, PTF v) K := by
  refine (px_go (by decide +kernel : pm_fe 297 30 = some (.iconst 0, 1)) rfl).trans ?_
  exact Iff.rfl
theorem r297_31 {d : Nat} {X : Nat × (Nat → Int)} {v : Nat → Int} {M : PH} {K : PV → PS → Prop} {l1 s0 : Int} : pm_Run d 297 31 [vA 234, vI l1, PU, PU] [vI s0] (GF X, M, PTF v) K ↔ pm_Run d 297 34 [vA 234, vI l1, vI s0, vI 0] [] (GF X, M, PTF v) K := by
  refine (px_go (by decide +kernel : pm_fe 297 31 = some (.istore_n 2, 1)) rfl).trans ?_
  refine (px_go (by decide +kernel : pm_fe 297 32 = some (.iconst 0, 1)) rfl).trans ?_
  refine (px_go (by decide +kernel : pm_fe 297 33 = some (.istore_n 3, 1)) rfl).trans ?_
  exact Iff.rfl
theorem r297_34 {d : Nat} {X : Nat × (Nat → Int)} {v : Nat → Int} {M : PH} {K : PV → PS → Prop} {l1 l2 l3 : Int} (h1 : inR l3) (h2 : inR l1) : pm_Run d 297 34 [vA 234, vI l1, vI l2, vI l3] [] (GF X, M, PTF v) K ↔ if l1 ≤ l3 then pm_Run d 297 60 [vA 234, vI l1, vI l2, vI l3] [] (GF X, M, PTF v) K else pm_Run d 297 39 [vA 234, vI l1, vI l2, vI l3] [] (GF X, M, PTF v) K := by
  refine (px_go (by decide +kernel : pm_fe 297 34 = some (.iload_n 3, 1)) rfl).trans ?_
  refine (px_go (by decide +kernel : pm_fe 297 35 = some (.iload_n 1, 1)) rfl).trans ?_
  refine (ry_ic_ge (off := 24) (tgt := 60) h1 h2 (by decide +kernel)).trans ?_
  exact Iff.rfl
theorem r297_39 {d : Nat} {X : Nat × (Nat → Int)} {v : Nat → Int} {M : PH} {K : PV → PS → Prop} {l1 l2 l3 : Int} (h1 : inR l2) : pm_Run d 297 39 [vA 234, vI l1, vI l2, vI l3] [] (GF X, M, PTF v) K ↔ if l2 = 0 then pm_Run d 297 60 [vA 234, vI l1, vI l2, vI l3] [] (GF X, M, PTF v) K else pm_Run d 297 43 [vA 234, vI l1, vI l2, vI l3] [] (GF X, M, PTF v) K := by
  refine (px_go (by decide +kernel : pm_fe 297 39 = some (.iload_n 2, 1)) rfl).trans ?_
  refine (ry_if_eq (off := 20) (tgt := 60) h1 (by decide +kernel)).trans ?_
  exact Iff.rfl
theorem r297_43 {d : Nat} {X : Nat × (Nat → Int)} {v : Nat → Int} {M : PH} {K : PV → PS → Prop} {l1 l2 l3 : Int} (h1 : 0 ≤ l3) (h2 : l3 < 1800) : pm_Run d 297 43 [vA 234, vI l1, vI l2, vI l3] [] (GF X, M, PTF v) K ↔ pm_Call d 227 [vA 234, vI (M 235 l3.toNat)] (GF X, M, PTF v) (fun r9 S1 => pm_Run d 297 53 [vA 234, vI l1, vI l2, vI l3] (pm_push r9 []) S1 K) := by
  refine (px_go (by decide +kernel : pm_fe 297 43 = some (.aload_n 0, 1)) rfl).trans ?_
  refine (px_go (by decide +kernel : pm_fe 297 44 = some (.aload_n 0, 1)) rfl).trans ?_
  refine (ry_get2 (idx := 7) (ci := 12) (k := 0) (by decide +kernel : 234 < 283 ∧ SHF 234 = (12, 76)) (ptf_l (a := 234) (k := 0) (n := 235) (by decide +kernel)) (by decide +kernel)).trans ?_
  refine (px_go (by decide +kernel : pm_fe 297 48 = some (.iload_n 3, 1)) rfl).trans ?_
  refine (ry_iald (by decide +kernel : 235 < 283 ∧ SHF 235 = (100, 1800)) h1 h2 (by decide +kernel)).trans ?_
  refine (ry_v1 (idx := 556) (m' := 227) (ci := 12) (by decide +kernel : 234 < 283 ∧ SHF 234 = (12, 76)) (by simp [pm_wl_n, pm_wl_c, pm_w] : pm_wl [] ≤ 8) (by decide +kernel)).trans ?_
  exact Iff.rfl
theorem r297_53 {d : Nat} {X : Nat × (Nat → Int)} {v : Nat → Int} {M : PH} {K : PV → PS → Prop} {l1 l2 l3 s0 : Int} : pm_Run d 297 53 [vA 234, vI l1, vI l2, vI l3] [vI s0] (GF X, M, PTF v) K ↔ pm_Run d 297 34 [vA 234, vI l1, vI s0, vI (l3 + 3)] [] (GF X, M, PTF v) K := by
  refine (px_go (by decide +kernel : pm_fe 297 53 = some (.istore_n 2, 1)) rfl).trans ?_
  refine (px_go (by decide +kernel : pm_fe 297 54 = some (.iinc 3 3, 3)) rfl).trans ?_
  refine (px_goto (off := (-23)) (tgt := 34) (by decide +kernel)).trans ?_
  exact Iff.rfl
theorem r297_60 {d : Nat} {X : Nat × (Nat → Int)} {v : Nat → Int} {M : PH} {K : PV → PS → Prop} {l1 l2 l3 : Int} (h1 : inR l2) : pm_Run d 297 60 [vA 234, vI l1, vI l2, vI l3] [] (GF X, M, PTF v) K ↔ if l2 ≠ 0 then pm_Run d 297 70 [vA 234, vI l1, vI l2, vI l3] [] (GF X, M, PTF v) K else pm_Run d 297 64 [vA 234, vI l1, vI l2, vI l3] [] (GF X, M, PTF v) K := by
  refine (px_go (by decide +kernel : pm_fe 297 60 = some (.iload_n 2, 1)) rfl).trans ?_
  refine (ry_if_ne (off := 9) (tgt := 70) h1 (by decide +kernel)).trans ?_
  exact Iff.rfl
theorem r297_64 {d : Nat} {X : Nat × (Nat → Int)} {v : Nat → Int} {M : PH} {K : PV → PS → Prop} {l1 l2 l3 : Int} : pm_Run d 297 64 [vA 234, vI l1, vI l2, vI l3] [] (GF X, M, PTF v) K ↔ pm_Call d 224 [vA 234, vI 5] (GF X, M, PTF v) (fun r9 S1 => pm_Run d 297 69 [vA 234, vI l1, vI l2, vI l3] (pm_push r9 []) S1 K) := by
  refine (px_go (by decide +kernel : pm_fe 297 64 = some (.aload_n 0, 1)) rfl).trans ?_
  refine (px_go (by decide +kernel : pm_fe 297 65 = some (.iconst 5, 1)) rfl).trans ?_
  refine (ry_v1 (idx := 243) (m' := 224) (ci := 12) (by decide +kernel : 234 < 283 ∧ SHF 234 = (12, 76)) (by simp [pm_wl_n, pm_wl_c, pm_w] : pm_wl [] ≤ 8) (by decide +kernel)).trans ?_
  exact Iff.rfl
theorem r297_69 {d : Nat} {X : Nat × (Nat → Int)} {v : Nat → Int} {M : PH} {K : PV → PS → Prop} {l1 l2 l3 s0 : Int} : pm_Run d 297 69 [vA 234, vI l1, vI l2, vI l3] [vI s0] (GF X, M, PTF v) K ↔ K (vI s0) (GF X, M, PTF v) := by
  refine (px_ri (by decide +kernel)).trans ?_
  exact Iff.rfl
theorem r297_70 {d : Nat} {X : Nat × (Nat → Int)} {v : Nat → Int} {M : PH} {K : PV → PS → Prop} {l1 l2 l3 : Int} (h1 : inR l1) : pm_Run d 297 70 [vA 234, vI l1, vI l2, vI l3] [] (GF X, M, PTF v) K ↔ pm_Run d 297 77 [vA 234, vI l1, vI l2, vI l3] [] (GF X, pm_sa M 234 (pm_up (M 234) 71 (l1.tdiv 3)), PTF v) K := by
  refine (px_go (by decide +kernel : pm_fe 297 70 = some (.aload_n 0, 1)) rfl).trans ?_
  refine (px_go (by decide +kernel : pm_fe 297 71 = some (.iload_n 1, 1)) rfl).trans ?_
  refine (px_go (by decide +kernel : pm_fe 297 72 = some (.iconst 3, 1)) rfl).trans ?_
  refine (ry_idiv h1 (by decide : (-2147483648 ≤ (3 : Int) ∧ (3 : Int) < 2147483648)) (by decide : (3 : Int) ≠ (0 : Int)) (by decide +kernel)).trans ?_
  refine (ry_put0 (idx := 228) (ci := 12) (k := 71) (by decide +kernel : 234 < 283 ∧ SHF 234 = (12, 76)) (by decide +kernel)).trans ?_
  exact Iff.rfl
theorem r297_77 {d : Nat} {X : Nat × (Nat → Int)} {v : Nat → Int} {M : PH} {K : PV → PS → Prop} {l1 l2 l3 : Int} : pm_Run d 297 77 [vA 234, vI l1, vI l2, vI l3] [] (GF X, M, PTF v) K ↔ pm_Run d 297 79 [vA 234, vI l1, vI l2, vI 0] [] (GF X, M, PTF v) K := by
  refine (px_go (by decide +kernel : pm_fe 297 77 = some (.iconst 0, 1)) rfl).trans ?_
  refine (px_go (by decide +kernel : pm_fe 297 78 = some (.istore_n 3, 1)) rfl).trans ?_
  exact Iff.rfl
theorem r297_79 {d : Nat} {X : Nat × (Nat → Int)} {v : Nat → Int} {M : PH} {K : PV → PS → Prop} {l1 l2 l3 : Int} (h1 : inR l3) (h2 : inR (M 234 71)) : pm_Run d 297 79 [vA 234, vI l1, vI l2, vI l3] [] (GF X, M, PTF v) K ↔ if M 234 71 ≤ l3 then pm_Run d 297 141 [vA 234, vI l1, vI l2, vI l3] [] (GF X, M, PTF v) K else pm_Run d 297 87 [vA 234, vI l1, vI l2, vI l3] [] (GF X, M, PTF v) K := by
  refine (px_go (by decide +kernel : pm_fe 297 79 = some (.iload_n 3, 1)) rfl).trans ?_
  refine (px_go (by decide +kernel : pm_fe 297 80 = some (.aload_n 0, 1)) rfl).trans ?_
  refine (ry_get0 (idx := 228) (ci := 12) (k := 71) (by decide +kernel : 234 < 283 ∧ SHF 234 = (12, 76)) (by decide +kernel)).trans ?_
  refine (ry_ic_ge (off := 57) (tgt := 141) h1 h2 (by decide +kernel)).trans ?_
  exact Iff.rfl
theorem r297_87 {d : Nat} {X : Nat × (Nat → Int)} {v : Nat → Int} {M : PH} {K : PV → PS → Prop} {l1 l2 l3 : Int} (h1 : 0 ≤ (3 * l3)) (h2 : (3 * l3) < 1800) (h3 : 0 ≤ l3) (h4 : l3 < 20) : pm_Run d 297 87 [vA 234, vI l1, vI l2, vI l3] [] (GF X, M, PTF v) K ↔ pm_Run d 297 101 [vA 234, vI l1, vI l2, vI l3] [] (GF X, pm_sa M 280 (pm_up (M 280) l3.toNat (M 235 (3 * l3).toNat)), PTF v) K := by
  refine (px_go (by decide +kernel : pm_fe 297 87 = some (.aload_n 0, 1)) rfl).trans ?_
  refine (ry_get2 (idx := 231) (ci := 12) (k := 72) (by decide +kernel : 234 < 283 ∧ SHF 234 = (12, 76)) (ptf_l (a := 234) (k := 72) (n := 280) (by decide +kernel)) (by decide +kernel)).trans ?_
  refine (px_go (by decide +kernel : pm_fe 297 91 = some (.iload_n 3, 1)) rfl).trans ?_
  refine (px_go (by decide +kernel : pm_fe 297 92 = some (.aload_n 0, 1)) rfl).trans ?_
  refine (ry_get2 (idx := 7) (ci := 12) (k := 0) (by decide +kernel : 234 < 283 ∧ SHF 234 = (12, 76)) (ptf_l (a := 234) (k := 0) (n := 235) (by decide +kernel)) (by decide +kernel)).trans ?_
  refine (px_go (by decide +kernel : pm_fe 297 96 = some (.iconst 3, 1)) rfl).trans ?_
  refine (px_go (by decide +kernel : pm_fe 297 97 = some (.iload_n 3, 1)) rfl).trans ?_
  refine (px_go (by decide +kernel : pm_fe 297 98 = some (.imul, 1)) rfl).trans ?_
  refine (ry_iald (by decide +kernel : 235 < 283 ∧ SHF 235 = (100, 1800)) h1 h2 (by decide +kernel)).trans ?_
  refine (ry_iast (by decide +kernel : 280 < 283 ∧ SHF 280 = (100, 20)) h3 h4 (by decide +kernel)).trans ?_
  exact Iff.rfl
theorem r297_101 {d : Nat} {X : Nat × (Nat → Int)} {v : Nat → Int} {M : PH} {K : PV → PS → Prop} {l1 l2 l3 : Int} (h1 : 0 ≤ ((3 * l3) + 1)) (h2 : ((3 * l3) + 1) < 1800) (h3 : 0 ≤ ((3 * l3) + 2)) (h4 : ((3 * l3) + 2) < 1800) (h5 : 0 ≤ l3) (h6 : l3 < 20) : pm_Run d 297 101 [vA 234, vI l1, vI l2, vI l3] [] (GF X, M, PTF v) K ↔ pm_Run d 297 135 [vA 234, vI l1, vI l2, vI l3] [] (GF X, pm_sa M 281 (pm_up (M 281) l3.toNat ((pm_or (pm_shl (M 235 ((3 * l3) + 1).toNat) 8) (M 235 ((3 * l3) + 2).toNat)) - 1000)), PTF v) K := by
  refine (px_go (by decide +kernel : pm_fe 297 101 = some (.aload_n 0, 1)) rfl).trans ?_
  refine (ry_get2 (idx := 234) (ci := 12) (k := 73) (by decide +kernel : 234 < 283 ∧ SHF 234 = (12, 76)) (ptf_l (a := 234) (k := 73) (n := 281) (by decide +kernel)) (by decide +kernel)).trans ?_
  refine (px_go (by decide +kernel : pm_fe 297 105 = some (.iload_n 3, 1)) rfl).trans ?_
  refine (px_go (by decide +kernel : pm_fe 297 106 = some (.aload_n 0, 1)) rfl).trans ?_
  refine (ry_get2 (idx := 7) (ci := 12) (k := 0) (by decide +kernel : 234 < 283 ∧ SHF 234 = (12, 76)) (ptf_l (a := 234) (k := 0) (n := 235) (by decide +kernel)) (by decide +kernel)).trans ?_
  refine (px_go (by decide +kernel : pm_fe 297 110 = some (.iconst 3, 1)) rfl).trans ?_
  refine (px_go (by decide +kernel : pm_fe 297 111 = some (.iload_n 3, 1)) rfl).trans ?_
  refine (px_go (by decide +kernel : pm_fe 297 112 = some (.imul, 1)) rfl).trans ?_
  refine (px_go (by decide +kernel : pm_fe 297 113 = some (.iconst 1, 1)) rfl).trans ?_
  refine (px_go (by decide +kernel : pm_fe 297 114 = some (.iadd, 1)) rfl).trans ?_
  refine (ry_iald (by decide +kernel : 235 < 283 ∧ SHF 235 = (100, 1800)) h1 h2 (by decide +kernel)).trans ?_
  refine (px_go (by decide +kernel : pm_fe 297 116 = some (.bipush 8, 2)) rfl).trans ?_
  refine (px_go (by decide +kernel : pm_fe 297 118 = some (.ishl, 1)) rfl).trans ?_
  refine (px_go (by decide +kernel : pm_fe 297 119 = some (.aload_n 0, 1)) rfl).trans ?_
  refine (ry_get2 (idx := 7) (ci := 12) (k := 0) (by decide +kernel : 234 < 283 ∧ SHF 234 = (12, 76)) (ptf_l (a := 234) (k := 0) (n := 235) (by decide +kernel)) (by decide +kernel)).trans ?_
  refine (px_go (by decide +kernel : pm_fe 297 123 = some (.iconst 3, 1)) rfl).trans ?_
  refine (px_go (by decide +kernel : pm_fe 297 124 = some (.iload_n 3, 1)) rfl).trans ?_
  refine (px_go (by decide +kernel : pm_fe 297 125 = some (.imul, 1)) rfl).trans ?_
  refine (px_go (by decide +kernel : pm_fe 297 126 = some (.iconst 2, 1)) rfl).trans ?_
  refine (px_go (by decide +kernel : pm_fe 297 127 = some (.iadd, 1)) rfl).trans ?_
  refine (ry_iald (by decide +kernel : 235 < 283 ∧ SHF 235 = (100, 1800)) h3 h4 (by decide +kernel)).trans ?_
  refine (px_go (by decide +kernel : pm_fe 297 129 = some (.ior, 1)) rfl).trans ?_
  refine (px_go (by decide +kernel : pm_fe 297 130 = some (.sipush 1000, 3)) rfl).trans ?_
  refine (px_go (by decide +kernel : pm_fe 297 133 = some (.isub, 1)) rfl).trans ?_
  refine (ry_iast (by decide +kernel : 281 < 283 ∧ SHF 281 = (100, 20)) h5 h6 (by decide +kernel)).trans ?_
  exact Iff.rfl
theorem r297_135 {d : Nat} {X : Nat × (Nat → Int)} {v : Nat → Int} {M : PH} {K : PV → PS → Prop} {l1 l2 l3 : Int} : pm_Run d 297 135 [vA 234, vI l1, vI l2, vI l3] [] (GF X, M, PTF v) K ↔ pm_Run d 297 79 [vA 234, vI l1, vI l2, vI (l3 + 1)] [] (GF X, M, PTF v) K := by
  refine (px_go (by decide +kernel : pm_fe 297 135 = some (.iinc 3 1, 3)) rfl).trans ?_
  refine (px_goto (off := (-59)) (tgt := 79) (by decide +kernel)).trans ?_
  exact Iff.rfl
theorem r297_141 {d : Nat} {X : Nat × (Nat → Int)} {v : Nat → Int} {M : PH} {K : PV → PS → Prop} {l1 l2 l3 : Int} : pm_Run d 297 141 [vA 234, vI l1, vI l2, vI l3] [] (GF X, M, PTF v) K ↔ K (vI (M 234 71)) (GF X, M, PTF v) := by
  refine (px_go (by decide +kernel : pm_fe 297 141 = some (.aload_n 0, 1)) rfl).trans ?_
  refine (ry_get0 (idx := 228) (ci := 12) (k := 71) (by decide +kernel : 234 < 283 ∧ SHF 234 = (12, 76)) (by decide +kernel)).trans ?_
  refine (px_ri (by decide +kernel)).trans ?_
  exact Iff.rfl
-- X12_isAsSeen isAsSeen()Z
theorem r298_0 {d : Nat} {X : Nat × (Nat → Int)} {v : Nat → Int} {M : PH} {K : PV → PS → Prop} : pm_Run d 298 0 [vA 234, PU] [] (GF X, M, PTF v) K ↔ pm_Run d 298 2 [vA 234, vI 0] [] (GF X, M, PTF v) K := by
  refine (px_go (by decide +kernel : pm_fe 298 0 = some (.iconst 0, 1)) rfl).trans ?_
  refine (px_go (by decide +kernel : pm_fe 298 1 = some (.istore_n 1, 1)) rfl).trans ?_
  exact Iff.rfl
theorem r298_2 {d : Nat} {X : Nat × (Nat → Int)} {v : Nat → Int} {M : PH} {K : PV → PS → Prop} {l1 : Int} (h1 : inR l1) (h2 : inR (M 234 71)) : pm_Run d 298 2 [vA 234, vI l1] [] (GF X, M, PTF v) K ↔ if M 234 71 ≤ l1 then pm_Run d 298 38 [vA 234, vI l1] [] (GF X, M, PTF v) K else pm_Run d 298 10 [vA 234, vI l1] [] (GF X, M, PTF v) K := by
  refine (px_go (by decide +kernel : pm_fe 298 2 = some (.iload_n 1, 1)) rfl).trans ?_
  refine (px_go (by decide +kernel : pm_fe 298 3 = some (.aload_n 0, 1)) rfl).trans ?_
  refine (ry_get0 (idx := 228) (ci := 12) (k := 71) (by decide +kernel : 234 < 283 ∧ SHF 234 = (12, 76)) (by decide +kernel)).trans ?_
  refine (ry_ic_ge (off := 31) (tgt := 38) h1 h2 (by decide +kernel)).trans ?_
  exact Iff.rfl
theorem r298_10 {d : Nat} {X : Nat × (Nat → Int)} {v : Nat → Int} {M : PH} {K : PV → PS → Prop} {l1 : Int} (h1 : 0 ≤ l1) (h2 : l1 < 20) (h3 : 0 ≤ (M 280 l1.toNat)) (h4 : (M 280 l1.toNat) < 24) (h5 : inR (M 277 (M 280 l1.toNat).toNat)) (h6 : inR (M 281 l1.toNat)) : pm_Run d 298 10 [vA 234, vI l1] [] (GF X, M, PTF v) K ↔ if M 277 (M 280 l1.toNat).toNat = M 281 l1.toNat then pm_Run d 298 32 [vA 234, vI l1] [] (GF X, M, PTF v) K else pm_Run d 298 30 [vA 234, vI l1] [] (GF X, M, PTF v) K := by
  refine (px_go (by decide +kernel : pm_fe 298 10 = some (.aload_n 0, 1)) rfl).trans ?_
  refine (ry_get2 (idx := 219) (ci := 12) (k := 68) (by decide +kernel : 234 < 283 ∧ SHF 234 = (12, 76)) (ptf_l (a := 234) (k := 68) (n := 277) (by decide +kernel)) (by decide +kernel)).trans ?_
  refine (px_go (by decide +kernel : pm_fe 298 14 = some (.aload_n 0, 1)) rfl).trans ?_
  refine (ry_get2 (idx := 231) (ci := 12) (k := 72) (by decide +kernel : 234 < 283 ∧ SHF 234 = (12, 76)) (ptf_l (a := 234) (k := 72) (n := 280) (by decide +kernel)) (by decide +kernel)).trans ?_
  refine (px_go (by decide +kernel : pm_fe 298 18 = some (.iload_n 1, 1)) rfl).trans ?_
  refine (ry_iald (by decide +kernel : 280 < 283 ∧ SHF 280 = (100, 20)) h1 h2 (by decide +kernel)).trans ?_
  refine (ry_iald (by decide +kernel : 277 < 283 ∧ SHF 277 = (100, 24)) h3 h4 (by decide +kernel)).trans ?_
  refine (px_go (by decide +kernel : pm_fe 298 21 = some (.aload_n 0, 1)) rfl).trans ?_
  refine (ry_get2 (idx := 234) (ci := 12) (k := 73) (by decide +kernel : 234 < 283 ∧ SHF 234 = (12, 76)) (ptf_l (a := 234) (k := 73) (n := 281) (by decide +kernel)) (by decide +kernel)).trans ?_
  refine (px_go (by decide +kernel : pm_fe 298 25 = some (.iload_n 1, 1)) rfl).trans ?_
  refine (ry_iald (by decide +kernel : 281 < 283 ∧ SHF 281 = (100, 20)) h1 h2 (by decide +kernel)).trans ?_
  refine (ry_ic_eq (off := 5) (tgt := 32) h5 h6 (by decide +kernel)).trans ?_
  exact Iff.rfl
theorem r298_30 {d : Nat} {X : Nat × (Nat → Int)} {v : Nat → Int} {M : PH} {K : PV → PS → Prop} {l1 : Int} : pm_Run d 298 30 [vA 234, vI l1] [] (GF X, M, PTF v) K ↔ K (vI 0) (GF X, M, PTF v) := by
  refine (px_go (by decide +kernel : pm_fe 298 30 = some (.iconst 0, 1)) rfl).trans ?_
  refine (px_rz (by decide +kernel)).trans ((and_iff_right (by decide : (0 : Int) = (0 : Int) ∨ (0 : Int) = (1 : Int))).trans ?_)
  exact Iff.rfl
theorem r298_32 {d : Nat} {X : Nat × (Nat → Int)} {v : Nat → Int} {M : PH} {K : PV → PS → Prop} {l1 : Int} : pm_Run d 298 32 [vA 234, vI l1] [] (GF X, M, PTF v) K ↔ pm_Run d 298 2 [vA 234, vI (l1 + 1)] [] (GF X, M, PTF v) K := by
  refine (px_go (by decide +kernel : pm_fe 298 32 = some (.iinc 1 1, 3)) rfl).trans ?_
  refine (px_goto (off := (-33)) (tgt := 2) (by decide +kernel)).trans ?_
  exact Iff.rfl
theorem r298_38 {d : Nat} {X : Nat × (Nat → Int)} {v : Nat → Int} {M : PH} {K : PV → PS → Prop} {l1 : Int} : pm_Run d 298 38 [vA 234, vI l1] [] (GF X, M, PTF v) K ↔ K (vI 1) (GF X, M, PTF v) := by
  refine (px_go (by decide +kernel : pm_fe 298 38 = some (.iconst 1, 1)) rfl).trans ?_
  refine (px_rz (by decide +kernel)).trans ((and_iff_right (by decide : (1 : Int) = (0 : Int) ∨ (1 : Int) = (1 : Int))).trans ?_)
  exact Iff.rfl
-- X12_payers payers(I)I
theorem r299_0 {d : Nat} {X : Nat × (Nat → Int)} {v : Nat → Int} {M : PH} {K : PV → PS → Prop} {l1 : Int} (h1 : inR (M 234 71)) : pm_Run d 299 0 [vA 234, vI l1, PU, PU, PU, PU, PU] [] (GF X, M, PTF v) K ↔ if M 234 71 = 0 then pm_Run d 299 16 [vA 234, vI l1, PU, PU, PU, PU, PU] [] (GF X, M, PTF v) K else pm_Run d 299 7 [vA 234, vI l1, PU, PU, PU, PU, PU] [] (GF X, M, PTF v) K := by
  refine (px_go (by decide +kernel : pm_fe 299 0 = some (.aload_n 0, 1)) rfl).trans ?_
  refine (ry_get0 (idx := 228) (ci := 12) (k := 71) (by decide +kernel : 234 < 283 ∧ SHF 234 = (12, 76)) (by decide +kernel)).trans ?_
  refine (ry_if_eq (off := 12) (tgt := 16) h1 (by decide +kernel)).trans ?_
  exact Iff.rfl
theorem r299_7 {d : Nat} {X : Nat × (Nat → Int)} {v : Nat → Int} {M : PH} {K : PV → PS → Prop} {l1 : Int} : pm_Run d 299 7 [vA 234, vI l1, PU, PU, PU, PU, PU] [] (GF X, M, PTF v) K ↔ pm_Call d 179 [vI l1, vI 0, vI 2] (GF X, M, PTF v) (fun r9 S1 => pm_Run d 299 13 [vA 234, vI l1, PU, PU, PU, PU, PU] (pm_push r9 []) S1 K) := by
  refine (px_go (by decide +kernel : pm_fe 299 7 = some (.iload_n 1, 1)) rfl).trans ?_
  refine (px_go (by decide +kernel : pm_fe 299 8 = some (.iconst 0, 1)) rfl).trans ?_
  refine (px_go (by decide +kernel : pm_fe 299 9 = some (.iconst 2, 1)) rfl).trans ?_
  refine (px_s3 (idx := 337) (m' := 179) (nest := 0) (by decide +kernel)).trans ((and_iff_right (by simp [pm_wl_n, pm_wl_c, pm_w] : pm_wl [] ≤ 8)).trans ?_)
  exact Iff.rfl
theorem r299_13 {d : Nat} {X : Nat × (Nat → Int)} {v : Nat → Int} {M : PH} {K : PV → PS → Prop} {l1 s0 : Int} (h1 : inR s0) : pm_Run d 299 13 [vA 234, vI l1, PU, PU, PU, PU, PU] [vI s0] (GF X, M, PTF v) K ↔ if s0 ≠ 0 then pm_Run d 299 18 [vA 234, vI l1, PU, PU, PU, PU, PU] [] (GF X, M, PTF v) K else pm_Run d 299 16 [vA 234, vI l1, PU, PU, PU, PU, PU] [] (GF X, M, PTF v) K := by
  refine (ry_if_ne (off := 5) (tgt := 18) h1 (by decide +kernel)).trans ?_
  exact Iff.rfl
theorem r299_16 {d : Nat} {X : Nat × (Nat → Int)} {v : Nat → Int} {M : PH} {K : PV → PS → Prop} {l1 : Int} : pm_Run d 299 16 [vA 234, vI l1, PU, PU, PU, PU, PU] [] (GF X, M, PTF v) K ↔ K (vI (-1)) (GF X, M, PTF v) := by
  refine (px_go (by decide +kernel : pm_fe 299 16 = some (.iconst (-1), 1)) rfl).trans ?_
  refine (px_ri (by decide +kernel)).trans ?_
  exact Iff.rfl
theorem r299_18 {d : Nat} {X : Nat × (Nat → Int)} {v : Nat → Int} {M : PH} {K : PV → PS → Prop} {l1 : Int} (h1 : 0 ≤ (M 234 13)) (h2 : (M 234 13) < 2) : pm_Run d 299 18 [vA 234, vI l1, PU, PU, PU, PU, PU] [] (GF X, M, PTF v) K ↔ pm_Run d 299 40 [vA 234, vI l1, vI 0, vI ((pm_shl 1 (M 241 (M 234 13).toNat)) - 1), vI 0, vI 0, PU] [] (GF X, M, PTF v) K := by
  refine (px_go (by decide +kernel : pm_fe 299 18 = some (.iconst 0, 1)) rfl).trans ?_
  refine (px_go (by decide +kernel : pm_fe 299 19 = some (.istore_n 2, 1)) rfl).trans ?_
  refine (px_go (by decide +kernel : pm_fe 299 20 = some (.iconst 1, 1)) rfl).trans ?_
  refine (px_go (by decide +kernel : pm_fe 299 21 = some (.aload_n 0, 1)) rfl).trans ?_
  refine (ry_get2 (idx := 69) (ci := 12) (k := 19) (by decide +kernel : 234 < 283 ∧ SHF 234 = (12, 76)) (ptf_l (a := 234) (k := 19) (n := 241) (by decide +kernel)) (by decide +kernel)).trans ?_
  refine (px_go (by decide +kernel : pm_fe 299 25 = some (.aload_n 0, 1)) rfl).trans ?_
  refine (ry_get0 (idx := 51) (ci := 12) (k := 13) (by decide +kernel : 234 < 283 ∧ SHF 234 = (12, 76)) (by decide +kernel)).trans ?_
  refine (ry_iald (by decide +kernel : 241 < 283 ∧ SHF 241 = (100, 2)) h1 h2 (by decide +kernel)).trans ?_
  refine (px_go (by decide +kernel : pm_fe 299 30 = some (.ishl, 1)) rfl).trans ?_
  refine (px_go (by decide +kernel : pm_fe 299 31 = some (.iconst 1, 1)) rfl).trans ?_
  refine (px_go (by decide +kernel : pm_fe 299 32 = some (.isub, 1)) rfl).trans ?_
  refine (px_go (by decide +kernel : pm_fe 299 33 = some (.istore_n 3, 1)) rfl).trans ?_
  refine (px_go (by decide +kernel : pm_fe 299 34 = some (.iconst 0, 1)) rfl).trans ?_
  refine (px_go (by decide +kernel : pm_fe 299 35 = some (.istore 4, 2)) rfl).trans ?_
  refine (px_go (by decide +kernel : pm_fe 299 37 = some (.iconst 0, 1)) rfl).trans ?_
  refine (px_go (by decide +kernel : pm_fe 299 38 = some (.istore 5, 2)) rfl).trans ?_
  exact Iff.rfl
theorem r299_40 {d : Nat} {X : Nat × (Nat → Int)} {v : Nat → Int} {M : PH} {K : PV → PS → Prop} {l1 l2 l3 l4 l5 : Int} {l6 : PV} (h1 : 0 ≤ (M 234 13)) (h2 : (M 234 13) < 2) (h3 : inR l5) (h4 : inR (pm_shl 1 (M 241 (M 234 13).toNat))) : pm_Run d 299 40 [vA 234, vI l1, vI l2, vI l3, vI l4, vI l5, l6] [] (GF X, M, PTF v) K ↔ if pm_shl 1 (M 241 (M 234 13).toNat) ≤ l5 then pm_Run d 299 141 [vA 234, vI l1, vI l2, vI l3, vI l4, vI l5, l6] [] (GF X, M, PTF v) K else pm_Run d 299 56 [vA 234, vI l1, vI l2, vI l3, vI l4, vI l5, l6] [] (GF X, M, PTF v) K := by
  refine (px_go (by decide +kernel : pm_fe 299 40 = some (.iload 5, 2)) rfl).trans ?_
  refine (px_go (by decide +kernel : pm_fe 299 42 = some (.iconst 1, 1)) rfl).trans ?_
  refine (px_go (by decide +kernel : pm_fe 299 43 = some (.aload_n 0, 1)) rfl).trans ?_
  refine (ry_get2 (idx := 69) (ci := 12) (k := 19) (by decide +kernel : 234 < 283 ∧ SHF 234 = (12, 76)) (ptf_l (a := 234) (k := 19) (n := 241) (by decide +kernel)) (by decide +kernel)).trans ?_
  refine (px_go (by decide +kernel : pm_fe 299 47 = some (.aload_n 0, 1)) rfl).trans ?_
  refine (ry_get0 (idx := 51) (ci := 12) (k := 13) (by decide +kernel : 234 < 283 ∧ SHF 234 = (12, 76)) (by decide +kernel)).trans ?_
  refine (ry_iald (by decide +kernel : 241 < 283 ∧ SHF 241 = (100, 2)) h1 h2 (by decide +kernel)).trans ?_
  refine (px_go (by decide +kernel : pm_fe 299 52 = some (.ishl, 1)) rfl).trans ?_
  refine (ry_ic_ge (off := 88) (tgt := 141) h3 h4 (by decide +kernel)).trans ?_
  exact Iff.rfl
theorem r299_56 {d : Nat} {X : Nat × (Nat → Int)} {v : Nat → Int} {M : PH} {K : PV → PS → Prop} {l1 l2 l3 l4 l5 : Int} {l6 : PV} : pm_Run d 299 56 [vA 234, vI l1, vI l2, vI l3, vI l4, vI l5, l6] [] (GF X, M, PTF v) K ↔ pm_Call d 232 [vA 234, vI 1, vI 0] (GF X, M, PTF v) (fun r9 S1 => pm_Run d 299 62 [vA 234, vI l1, vI l2, vI l3, vI l4, vI l5, l6] (pm_push r9 []) S1 K) := by
  refine (px_go (by decide +kernel : pm_fe 299 56 = some (.aload_n 0, 1)) rfl).trans ?_
  refine (px_go (by decide +kernel : pm_fe 299 57 = some (.iconst 1, 1)) rfl).trans ?_
  refine (px_go (by decide +kernel : pm_fe 299 58 = some (.iconst 0, 1)) rfl).trans ?_
  refine (ry_v2 (idx := 445) (m' := 232) (ci := 12) (by decide +kernel : 234 < 283 ∧ SHF 234 = (12, 76)) (by simp [pm_wl_n, pm_wl_c, pm_w] : pm_wl [] ≤ 8) (by decide +kernel)).trans ?_
  exact Iff.rfl
theorem r299_62 {d : Nat} {X : Nat × (Nat → Int)} {v : Nat → Int} {M : PH} {K : PV → PS → Prop} {l1 l2 l3 l4 l5 : Int} {l6 : PV} : pm_Run d 299 62 [vA 234, vI l1, vI l2, vI l3, vI l4, vI l5, l6] [] (GF X, M, PTF v) K ↔ pm_Run d 299 65 [vA 234, vI l1, vI l2, vI l3, vI l4, vI l5, vI 0] [] (GF X, M, PTF v) K := by
  refine (px_go (by decide +kernel : pm_fe 299 62 = some (.iconst 0, 1)) rfl).trans ?_
  refine (px_go (by decide +kernel : pm_fe 299 63 = some (.istore 6, 2)) rfl).trans ?_
  exact Iff.rfl
theorem r299_65 {d : Nat} {X : Nat × (Nat → Int)} {v : Nat → Int} {M : PH} {K : PV → PS → Prop} {l1 l2 l3 l4 l5 l6 : Int} (h1 : 0 ≤ (M 234 13)) (h2 : (M 234 13) < 2) (h3 : inR l6) (h4 : inR (M 241 (M 234 13).toNat)) : pm_Run d 299 65 [vA 234, vI l1, vI l2, vI l3, vI l4, vI l5, vI l6] [] (GF X, M, PTF v) K ↔ if M 241 (M 234 13).toNat ≤ l6 then pm_Run d 299 105 [vA 234, vI l1, vI l2, vI l3, vI l4, vI l5, vI l6] [] (GF X, M, PTF v) K else pm_Run d 299 79 [vA 234, vI l1, vI l2, vI l3, vI l4, vI l5, vI l6] [] (GF X, M, PTF v) K := by
  refine (px_go (by decide +kernel : pm_fe 299 65 = some (.iload 6, 2)) rfl).trans ?_
  refine (px_go (by decide +kernel : pm_fe 299 67 = some (.aload_n 0, 1)) rfl).trans ?_
  refine (ry_get2 (idx := 69) (ci := 12) (k := 19) (by decide +kernel : 234 < 283 ∧ SHF 234 = (12, 76)) (ptf_l (a := 234) (k := 19) (n := 241) (by decide +kernel)) (by decide +kernel)).trans ?_
  refine (px_go (by decide +kernel : pm_fe 299 71 = some (.aload_n 0, 1)) rfl).trans ?_
  refine (ry_get0 (idx := 51) (ci := 12) (k := 13) (by decide +kernel : 234 < 283 ∧ SHF 234 = (12, 76)) (by decide +kernel)).trans ?_
  refine (ry_iald (by decide +kernel : 241 < 283 ∧ SHF 241 = (100, 2)) h1 h2 (by decide +kernel)).trans ?_
  refine (ry_ic_ge (off := 29) (tgt := 105) h3 h4 (by decide +kernel)).trans ?_
  exact Iff.rfl
theorem r299_79 {d : Nat} {X : Nat × (Nat → Int)} {v : Nat → Int} {M : PH} {K : PV → PS → Prop} {l1 l2 l3 l4 l5 l6 : Int} (h1 : inR (pm_and (pm_shr l5 l6) 1)) : pm_Run d 299 79 [vA 234, vI l1, vI l2, vI l3, vI l4, vI l5, vI l6] [] (GF X, M, PTF v) K ↔ if pm_and (pm_shr l5 l6) 1 ≠ 0 then pm_Run d 299 99 [vA 234, vI l1, vI l2, vI l3, vI l4, vI l5, vI l6] [] (GF X, M, PTF v) K else pm_Run d 299 89 [vA 234, vI l1, vI l2, vI l3, vI l4, vI l5, vI l6] [] (GF X, M, PTF v) K := by
  refine (px_go (by decide +kernel : pm_fe 299 79 = some (.iload 5, 2)) rfl).trans ?_
  refine (px_go (by decide +kernel : pm_fe 299 81 = some (.iload 6, 2)) rfl).trans ?_
  refine (px_go (by decide +kernel : pm_fe 299 83 = some (.ishr, 1)) rfl).trans ?_
  refine (px_go (by decide +kernel : pm_fe 299 84 = some (.iconst 1, 1)) rfl).trans ?_
  refine (px_go (by decide +kernel : pm_fe 299 85 = some (.iand, 1)) rfl).trans ?_
  refine (ry_if_ne (off := 13) (tgt := 99) h1 (by decide +kernel)).trans ?_
  exact Iff.rfl
theorem r299_89 {d : Nat} {X : Nat × (Nat → Int)} {v : Nat → Int} {M : PH} {K : PV → PS → Prop} {l1 l2 l3 l4 l5 l6 : Int} : pm_Run d 299 89 [vA 234, vI l1, vI l2, vI l3, vI l4, vI l5, vI l6] [] (GF X, M, PTF v) K ↔ pm_Call d 284 [vA 234, vI 1, vI l6, vI 0, vI 1] (GF X, M, PTF v) (fun r9 S1 => pm_Run d 299 98 [vA 234, vI l1, vI l2, vI l3, vI l4, vI l5, vI l6] (pm_push r9 []) S1 K) := by
  refine (px_go (by decide +kernel : pm_fe 299 89 = some (.aload_n 0, 1)) rfl).trans ?_
  refine (px_go (by decide +kernel : pm_fe 299 90 = some (.iconst 1, 1)) rfl).trans ?_
  refine (px_go (by decide +kernel : pm_fe 299 91 = some (.iload 6, 2)) rfl).trans ?_
  refine (px_go (by decide +kernel : pm_fe 299 93 = some (.iconst 0, 1)) rfl).trans ?_
  refine (px_go (by decide +kernel : pm_fe 299 94 = some (.iconst 1, 1)) rfl).trans ?_
  refine (ry_v4 (idx := 589) (m' := 284) (ci := 12) (by decide +kernel : 234 < 283 ∧ SHF 234 = (12, 76)) (by simp [pm_wl_n, pm_wl_c, pm_w] : pm_wl [] ≤ 8) (by decide +kernel)).trans ?_
  exact Iff.rfl
theorem r299_98 {d : Nat} {X : Nat × (Nat → Int)} {v : Nat → Int} {M : PH} {K : PV → PS → Prop} {l1 l2 l3 l4 l5 l6 s0 : Int} : pm_Run d 299 98 [vA 234, vI l1, vI l2, vI l3, vI l4, vI l5, vI l6] [vI s0] (GF X, M, PTF v) K ↔ pm_Run d 299 99 [vA 234, vI l1, vI l2, vI l3, vI l4, vI l5, vI l6] [] (GF X, M, PTF v) K := by
  refine (px_go (by decide +kernel : pm_fe 299 98 = some (.pop, 1)) rfl).trans ?_
  exact Iff.rfl
theorem r299_99 {d : Nat} {X : Nat × (Nat → Int)} {v : Nat → Int} {M : PH} {K : PV → PS → Prop} {l1 l2 l3 l4 l5 l6 : Int} : pm_Run d 299 99 [vA 234, vI l1, vI l2, vI l3, vI l4, vI l5, vI l6] [] (GF X, M, PTF v) K ↔ pm_Run d 299 65 [vA 234, vI l1, vI l2, vI l3, vI l4, vI l5, vI (l6 + 1)] [] (GF X, M, PTF v) K := by
  refine (px_go (by decide +kernel : pm_fe 299 99 = some (.iinc 6 1, 3)) rfl).trans ?_
  refine (px_goto (off := (-37)) (tgt := 65) (by decide +kernel)).trans ?_
  exact Iff.rfl
theorem r299_105 {d : Nat} {X : Nat × (Nat → Int)} {v : Nat → Int} {M : PH} {K : PV → PS → Prop} {l1 l2 l3 l4 l5 l6 : Int} : pm_Run d 299 105 [vA 234, vI l1, vI l2, vI l3, vI l4, vI l5, vI l6] [] (GF X, M, PTF v) K ↔ pm_Call d 255 [vA 234, vI 1] (GF X, M, PTF v) (fun r9 S1 => pm_Run d 299 110 [vA 234, vI l1, vI l2, vI l3, vI l4, vI l5, vI l6] (pm_push r9 []) S1 K) := by
  refine (px_go (by decide +kernel : pm_fe 299 105 = some (.aload_n 0, 1)) rfl).trans ?_
  refine (px_go (by decide +kernel : pm_fe 299 106 = some (.iconst 1, 1)) rfl).trans ?_
  refine (ry_v1 (idx := 513) (m' := 255) (ci := 12) (by decide +kernel : 234 < 283 ∧ SHF 234 = (12, 76)) (by simp [pm_wl_n, pm_wl_c, pm_w] : pm_wl [] ≤ 8) (by decide +kernel)).trans ?_
  exact Iff.rfl
theorem r299_110 {d : Nat} {X : Nat × (Nat → Int)} {v : Nat → Int} {M : PH} {K : PV → PS → Prop} {l1 l2 l3 l4 l5 l6 : Int} : pm_Run d 299 110 [vA 234, vI l1, vI l2, vI l3, vI l4, vI l5, vI l6] [] (GF X, M, PTF v) K ↔ pm_Call d 298 [vA 234] (GF X, M, PTF v) (fun r9 S1 => pm_Run d 299 114 [vA 234, vI l1, vI l2, vI l3, vI l4, vI l5, vI l6] (pm_push r9 []) S1 K) := by
  refine (px_go (by decide +kernel : pm_fe 299 110 = some (.aload_n 0, 1)) rfl).trans ?_
  refine (ry_v0 (idx := 611) (m' := 298) (ci := 12) (by decide +kernel : 234 < 283 ∧ SHF 234 = (12, 76)) (by simp [pm_wl_n, pm_wl_c, pm_w] : pm_wl [] ≤ 8) (by decide +kernel)).trans ?_
  exact Iff.rfl
theorem r299_114 {d : Nat} {X : Nat × (Nat → Int)} {v : Nat → Int} {M : PH} {K : PV → PS → Prop} {l1 l2 l3 l4 l5 l6 s0 : Int} (h1 : inR s0) : pm_Run d 299 114 [vA 234, vI l1, vI l2, vI l3, vI l4, vI l5, vI l6] [vI s0] (GF X, M, PTF v) K ↔ if s0 ≠ 0 then pm_Run d 299 120 [vA 234, vI l1, vI l2, vI l3, vI l4, vI l5, vI l6] [] (GF X, M, PTF v) K else pm_Run d 299 117 [vA 234, vI l1, vI l2, vI l3, vI l4, vI l5, vI l6] [] (GF X, M, PTF v) K := by
  refine (ry_if_ne (off := 6) (tgt := 120) h1 (by decide +kernel)).trans ?_
  exact Iff.rfl
theorem r299_117 {d : Nat} {X : Nat × (Nat → Int)} {v : Nat → Int} {M : PH} {K : PV → PS → Prop} {l1 l2 l3 l4 l5 l6 : Int} : pm_Run d 299 117 [vA 234, vI l1, vI l2, vI l3, vI l4, vI l5, vI l6] [] (GF X, M, PTF v) K ↔ pm_Run d 299 135 [vA 234, vI l1, vI l2, vI l3, vI l4, vI l5, vI l6] [] (GF X, M, PTF v) K := by
  refine (px_goto (off := 18) (tgt := 135) (by decide +kernel)).trans ?_
  exact Iff.rfl
theorem r299_120 {d : Nat} {X : Nat × (Nat → Int)} {v : Nat → Int} {M : PH} {K : PV → PS → Prop} {l1 l2 l3 l4 l5 l6 : Int} : pm_Run d 299 120 [vA 234, vI l1, vI l2, vI l3, vI l4, vI l5, vI l6] [] (GF X, M, PTF v) K ↔ pm_Run d 299 135 [vA 234, vI l1, vI (l2 + 1), vI (pm_and l3 l5), vI (pm_or l4 l5), vI l5, vI l6] [] (GF X, M, PTF v) K := by
  refine (px_go (by decide +kernel : pm_fe 299 120 = some (.iinc 2 1, 3)) rfl).trans ?_
  refine (px_go (by decide +kernel : pm_fe 299 123 = some (.iload_n 3, 1)) rfl).trans ?_
  refine (px_go (by decide +kernel : pm_fe 299 124 = some (.iload 5, 2)) rfl).trans ?_
  refine (px_go (by decide +kernel : pm_fe 299 126 = some (.iand, 1)) rfl).trans ?_
  refine (px_go (by decide +kernel : pm_fe 299 127 = some (.istore_n 3, 1)) rfl).trans ?_
  refine (px_go (by decide +kernel : pm_fe 299 128 = some (.iload 4, 2)) rfl).trans ?_
  refine (px_go (by decide +kernel : pm_fe 299 130 = some (.iload 5, 2)) rfl).trans ?_
  refine (px_go (by decide +kernel : pm_fe 299 132 = some (.ior, 1)) rfl).trans ?_
  refine (px_go (by decide +kernel : pm_fe 299 133 = some (.istore 4, 2)) rfl).trans ?_
  exact Iff.rfl
theorem r299_135 {d : Nat} {X : Nat × (Nat → Int)} {v : Nat → Int} {M : PH} {K : PV → PS → Prop} {l1 l2 l3 l4 l5 l6 : Int} : pm_Run d 299 135 [vA 234, vI l1, vI l2, vI l3, vI l4, vI l5, vI l6] [] (GF X, M, PTF v) K ↔ pm_Run d 299 40 [vA 234, vI l1, vI l2, vI l3, vI l4, vI (l5 + 1), vI l6] [] (GF X, M, PTF v) K := by
  refine (px_go (by decide +kernel : pm_fe 299 135 = some (.iinc 5 1, 3)) rfl).trans ?_
  refine (px_goto (off := (-98)) (tgt := 40) (by decide +kernel)).trans ?_
  exact Iff.rfl
theorem r299_141 {d : Nat} {X : Nat × (Nat → Int)} {v : Nat → Int} {M : PH} {K : PV → PS → Prop} {l1 l2 l3 l4 l5 : Int} {l6 : PV} (h1 : inR l1) : pm_Run d 299 141 [vA 234, vI l1, vI l2, vI l3, vI l4, vI l5, l6] [] (GF X, M, PTF v) K ↔ if l1 ≠ 0 then pm_Run d 299 149 [vA 234, vI l1, vI l2, vI l3, vI l4, vI l5, l6] [] (GF X, M, PTF v) K else pm_Run d 299 145 [vA 234, vI l1, vI l2, vI l3, vI l4, vI l5, l6] [] (GF X, M, PTF v) K := by
  refine (px_go (by decide +kernel : pm_fe 299 141 = some (.iload_n 1, 1)) rfl).trans ?_
  refine (ry_if_ne (off := 7) (tgt := 149) h1 (by decide +kernel)).trans ?_
  exact Iff.rfl
theorem r299_145 {d : Nat} {X : Nat × (Nat → Int)} {v : Nat → Int} {M : PH} {K : PV → PS → Prop} {l1 l2 l3 l4 l5 : Int} {l6 : PV} : pm_Run d 299 145 [vA 234, vI l1, vI l2, vI l3, vI l4, vI l5, l6] [] (GF X, M, PTF v) K ↔ pm_Run d 299 168 [vA 234, vI l1, vI l2, vI l3, vI l4, vI l5, l6] [vI l2] (GF X, M, PTF v) K := by
  refine (px_go (by decide +kernel : pm_fe 299 145 = some (.iload_n 2, 1)) rfl).trans ?_
  refine (px_goto (off := 22) (tgt := 168) (by decide +kernel)).trans ?_
  exact Iff.rfl
theorem r299_149 {d : Nat} {X : Nat × (Nat → Int)} {v : Nat → Int} {M : PH} {K : PV → PS → Prop} {l1 l2 l3 l4 l5 : Int} {l6 : PV} (h1 : inR l1) : pm_Run d 299 149 [vA 234, vI l1, vI l2, vI l3, vI l4, vI l5, l6] [] (GF X, M, PTF v) K ↔ if l1 ≠ 1 then pm_Run d 299 166 [vA 234, vI l1, vI l2, vI l3, vI l4, vI l5, l6] [] (GF X, M, PTF v) K else pm_Run d 299 154 [vA 234, vI l1, vI l2, vI l3, vI l4, vI l5, l6] [] (GF X, M, PTF v) K := by
  refine (px_go (by decide +kernel : pm_fe 299 149 = some (.iload_n 1, 1)) rfl).trans ?_
  refine (px_go (by decide +kernel : pm_fe 299 150 = some (.iconst 1, 1)) rfl).trans ?_
  refine (ry_ic_ne (off := 15) (tgt := 166) h1 (by decide : (-2147483648 ≤ (1 : Int) ∧ (1 : Int) < 2147483648)) (by decide +kernel)).trans ?_
  exact Iff.rfl
theorem r299_154 {d : Nat} {X : Nat × (Nat → Int)} {v : Nat → Int} {M : PH} {K : PV → PS → Prop} {l1 l2 l3 l4 l5 : Int} {l6 : PV} (h1 : inR l2) : pm_Run d 299 154 [vA 234, vI l1, vI l2, vI l3, vI l4, vI l5, l6] [] (GF X, M, PTF v) K ↔ if l2 ≠ 0 then pm_Run d 299 162 [vA 234, vI l1, vI l2, vI l3, vI l4, vI l5, l6] [] (GF X, M, PTF v) K else pm_Run d 299 158 [vA 234, vI l1, vI l2, vI l3, vI l4, vI l5, l6] [] (GF X, M, PTF v) K := by
  refine (px_go (by decide +kernel : pm_fe 299 154 = some (.iload_n 2, 1)) rfl).trans ?_
  refine (ry_if_ne (off := 7) (tgt := 162) h1 (by decide +kernel)).trans ?_
  exact Iff.rfl
theorem r299_158 {d : Nat} {X : Nat × (Nat → Int)} {v : Nat → Int} {M : PH} {K : PV → PS → Prop} {l1 l2 l3 l4 l5 : Int} {l6 : PV} : pm_Run d 299 158 [vA 234, vI l1, vI l2, vI l3, vI l4, vI l5, l6] [] (GF X, M, PTF v) K ↔ pm_Run d 299 168 [vA 234, vI l1, vI l2, vI l3, vI l4, vI l5, l6] [vI 0] (GF X, M, PTF v) K := by
  refine (px_go (by decide +kernel : pm_fe 299 158 = some (.iconst 0, 1)) rfl).trans ?_
  refine (px_goto (off := 9) (tgt := 168) (by decide +kernel)).trans ?_
  exact Iff.rfl
theorem r299_162 {d : Nat} {X : Nat × (Nat → Int)} {v : Nat → Int} {M : PH} {K : PV → PS → Prop} {l1 l2 l3 l4 l5 : Int} {l6 : PV} : pm_Run d 299 162 [vA 234, vI l1, vI l2, vI l3, vI l4, vI l5, l6] [] (GF X, M, PTF v) K ↔ pm_Run d 299 168 [vA 234, vI l1, vI l2, vI l3, vI l4, vI l5, l6] [vI l3] (GF X, M, PTF v) K := by
  refine (px_go (by decide +kernel : pm_fe 299 162 = some (.iload_n 3, 1)) rfl).trans ?_
  refine (px_goto (off := 5) (tgt := 168) (by decide +kernel)).trans ?_
  exact Iff.rfl
theorem r299_166 {d : Nat} {X : Nat × (Nat → Int)} {v : Nat → Int} {M : PH} {K : PV → PS → Prop} {l1 l2 l3 l4 l5 : Int} {l6 : PV} : pm_Run d 299 166 [vA 234, vI l1, vI l2, vI l3, vI l4, vI l5, l6] [] (GF X, M, PTF v) K ↔ pm_Run d 299 168 [vA 234, vI l1, vI l2, vI l3, vI l4, vI l5, l6] [vI l4] (GF X, M, PTF v) K := by
  refine (px_go (by decide +kernel : pm_fe 299 166 = some (.iload 4, 2)) rfl).trans ?_
  exact Iff.rfl
theorem r299_168 {d : Nat} {X : Nat × (Nat → Int)} {v : Nat → Int} {M : PH} {K : PV → PS → Prop} {l1 l2 l3 l4 l5 s0 : Int} {l6 : PV} : pm_Run d 299 168 [vA 234, vI l1, vI l2, vI l3, vI l4, vI l5, l6] [vI s0] (GF X, M, PTF v) K ↔ K (vI s0) (GF X, M, PTF v) := by
  refine (px_ri (by decide +kernel)).trans ?_
  exact Iff.rfl
-- X12_writes writes(I)V
theorem r300_0 {d : Nat} {X : Nat × (Nat → Int)} {v : Nat → Int} {M : PH} {K : PV → PS → Prop} {l1 : Int} (h1 : 0 ≤ (M 234 75)) (h2 : (M 234 75) < 110) : pm_Run d 300 0 [vA 234, vI l1] [] (GF X, M, PTF v) K ↔ pm_Run d 300 14 [vA 234, vI l1] [] (GF X, pm_sa M 282 (pm_up (M 282) (M 234 75).toNat (pm_and l1 255)), PTF v) K := by
  refine (px_go (by decide +kernel : pm_fe 300 0 = some (.aload_n 0, 1)) rfl).trans ?_
  refine (ry_get2 (idx := 237) (ci := 12) (k := 74) (by decide +kernel : 234 < 283 ∧ SHF 234 = (12, 76)) (ptf_l (a := 234) (k := 74) (n := 282) (by decide +kernel)) (by decide +kernel)).trans ?_
  refine (px_go (by decide +kernel : pm_fe 300 4 = some (.aload_n 0, 1)) rfl).trans ?_
  refine (ry_get0 (idx := 240) (ci := 12) (k := 75) (by decide +kernel : 234 < 283 ∧ SHF 234 = (12, 76)) (by decide +kernel)).trans ?_
  refine (px_go (by decide +kernel : pm_fe 300 8 = some (.iload_n 1, 1)) rfl).trans ?_
  refine (px_go (by decide +kernel : pm_fe 300 9 = some (.sipush 255, 3)) rfl).trans ?_
  refine (px_go (by decide +kernel : pm_fe 300 12 = some (.iand, 1)) rfl).trans ?_
  refine (ry_iast (by decide +kernel : 282 < 283 ∧ SHF 282 = (100, 110)) h1 h2 (by decide +kernel)).trans ?_
  exact Iff.rfl
theorem r300_14 {d : Nat} {X : Nat × (Nat → Int)} {v : Nat → Int} {M : PH} {K : PV → PS → Prop} {l1 : Int} : pm_Run d 300 14 [vA 234, vI l1] [] (GF X, M, PTF v) K ↔ K PU (GF X, pm_sa M 234 (pm_up (M 234) 75 ((M 234 75) + 1)), PTF v) := by
  refine (px_go (by decide +kernel : pm_fe 300 14 = some (.aload_n 0, 1)) rfl).trans ?_
  refine (px_go (by decide +kernel : pm_fe 300 15 = some (.dup, 1)) rfl).trans ?_
  refine (ry_get0 (idx := 240) (ci := 12) (k := 75) (by decide +kernel : 234 < 283 ∧ SHF 234 = (12, 76)) (by decide +kernel)).trans ?_
  refine (px_go (by decide +kernel : pm_fe 300 19 = some (.iconst 1, 1)) rfl).trans ?_
  refine (px_go (by decide +kernel : pm_fe 300 20 = some (.iadd, 1)) rfl).trans ?_
  refine (ry_put0 (idx := 240) (ci := 12) (k := 75) (by decide +kernel : 234 < 283 ∧ SHF 234 = (12, 76)) (by decide +kernel)).trans ?_
  refine (px_rv (by decide +kernel)).trans ?_
  exact Iff.rfl
-- X12_writesTwo writesTwo(I)V
theorem r301_0 {d : Nat} {X : Nat × (Nat → Int)} {v : Nat → Int} {M : PH} {K : PV → PS → Prop} {l1 : Int} : pm_Run d 301 0 [vA 234, vI l1] [] (GF X, M, PTF v) K ↔ pm_Call d 300 [vA 234, vI (pm_shr l1 8)] (GF X, M, PTF v) (fun r9 S1 => pm_Run d 301 8 [vA 234, vI l1] (pm_push r9 []) S1 K) := by
  refine (px_go (by decide +kernel : pm_fe 301 0 = some (.aload_n 0, 1)) rfl).trans ?_
  refine (px_go (by decide +kernel : pm_fe 301 1 = some (.iload_n 1, 1)) rfl).trans ?_
  refine (px_go (by decide +kernel : pm_fe 301 2 = some (.bipush 8, 2)) rfl).trans ?_
  refine (px_go (by decide +kernel : pm_fe 301 4 = some (.ishr, 1)) rfl).trans ?_
  refine (ry_v1 (idx := 614) (m' := 300) (ci := 12) (by decide +kernel : 234 < 283 ∧ SHF 234 = (12, 76)) (by simp [pm_wl_n, pm_wl_c, pm_w] : pm_wl [] ≤ 8) (by decide +kernel)).trans ?_
  exact Iff.rfl
theorem r301_8 {d : Nat} {X : Nat × (Nat → Int)} {v : Nat → Int} {M : PH} {K : PV → PS → Prop} {l1 : Int} : pm_Run d 301 8 [vA 234, vI l1] [] (GF X, M, PTF v) K ↔ pm_Call d 300 [vA 234, vI l1] (GF X, M, PTF v) (fun r9 S1 => pm_Run d 301 13 [vA 234, vI l1] (pm_push r9 []) S1 K) := by
  refine (px_go (by decide +kernel : pm_fe 301 8 = some (.aload_n 0, 1)) rfl).trans ?_
  refine (px_go (by decide +kernel : pm_fe 301 9 = some (.iload_n 1, 1)) rfl).trans ?_
  refine (ry_v1 (idx := 614) (m' := 300) (ci := 12) (by decide +kernel : 234 < 283 ∧ SHF 234 = (12, 76)) (by simp [pm_wl_n, pm_wl_c, pm_w] : pm_wl [] ≤ 8) (by decide +kernel)).trans ?_
  exact Iff.rfl
theorem r301_13 {d : Nat} {X : Nat × (Nat → Int)} {v : Nat → Int} {M : PH} {K : PV → PS → Prop} {l1 : Int} : pm_Run d 301 13 [vA 234, vI l1] [] (GF X, M, PTF v) K ↔ K PU (GF X, M, PTF v) := by
  refine (px_rv (by decide +kernel)).trans ?_
  exact Iff.rfl
-- X12_image image()I
theorem r302_0 {d : Nat} {X : Nat × (Nat → Int)} {v : Nat → Int} {M : PH} {K : PV → PS → Prop} : pm_Run d 302 0 [vA 234, PU, PU] [] (GF X, M, PTF v) K ↔ pm_Run d 302 5 [vA 234, PU, PU] [] (GF X, pm_sa M 234 (pm_up (M 234) 75 0), PTF v) K := by
  refine (px_go (by decide +kernel : pm_fe 302 0 = some (.aload_n 0, 1)) rfl).trans ?_
  refine (px_go (by decide +kernel : pm_fe 302 1 = some (.iconst 0, 1)) rfl).trans ?_
  refine (ry_put0 (idx := 240) (ci := 12) (k := 75) (by decide +kernel : 234 < 283 ∧ SHF 234 = (12, 76)) (by decide +kernel)).trans ?_
  exact Iff.rfl
theorem r302_5 {d : Nat} {X : Nat × (Nat → Int)} {v : Nat → Int} {M : PH} {K : PV → PS → Prop} : pm_Run d 302 5 [vA 234, PU, PU] [] (GF X, M, PTF v) K ↔ pm_Call d 301 [vA 234, vI (M 270 0)] (GF X, M, PTF v) (fun r9 S1 => pm_Run d 302 15 [vA 234, PU, PU] (pm_push r9 []) S1 K) := by
  refine (px_go (by decide +kernel : pm_fe 302 5 = some (.aload_n 0, 1)) rfl).trans ?_
  refine (px_go (by decide +kernel : pm_fe 302 6 = some (.aload_n 0, 1)) rfl).trans ?_
  refine (ry_get2 (idx := 177) (ci := 12) (k := 54) (by decide +kernel : 234 < 283 ∧ SHF 234 = (12, 76)) (ptf_l (a := 234) (k := 54) (n := 270) (by decide +kernel)) (by decide +kernel)).trans ?_
  refine (px_go (by decide +kernel : pm_fe 302 10 = some (.iconst 0, 1)) rfl).trans ?_
  refine (ry_iald (by decide +kernel : 270 < 283 ∧ SHF 270 = (100, 22)) (by decide : (0 : Int) ≤ (0 : Int)) (by decide : (0 : Int) < (22 : Int)) (by decide +kernel)).trans ?_
  refine (ry_v1 (idx := 617) (m' := 301) (ci := 12) (by decide +kernel : 234 < 283 ∧ SHF 234 = (12, 76)) (by simp [pm_wl_n, pm_wl_c, pm_w] : pm_wl [] ≤ 8) (by decide +kernel)).trans ?_
  exact Iff.rfl
theorem r302_15 {d : Nat} {X : Nat × (Nat → Int)} {v : Nat → Int} {M : PH} {K : PV → PS → Prop} : pm_Run d 302 15 [vA 234, PU, PU] [] (GF X, M, PTF v) K ↔ pm_Run d 302 17 [vA 234, vI 0, PU] [] (GF X, M, PTF v) K := by
  refine (px_go (by decide +kernel : pm_fe 302 15 = some (.iconst 0, 1)) rfl).trans ?_
  refine (px_go (by decide +kernel : pm_fe 302 16 = some (.istore_n 1, 1)) rfl).trans ?_
  exact Iff.rfl
theorem r302_17 {d : Nat} {X : Nat × (Nat → Int)} {v : Nat → Int} {M : PH} {K : PV → PS → Prop} {l1 : Int} (h1 : 0 ≤ (M 234 13)) (h2 : (M 234 13) < 2) (h3 : inR l1) (h4 : inR (M 237 (M 234 13).toNat)) : pm_Run d 302 17 [vA 234, vI l1, PU] [] (GF X, M, PTF v) K ↔ if M 237 (M 234 13).toNat ≤ l1 then pm_Run d 302 56 [vA 234, vI l1, PU] [] (GF X, M, PTF v) K else pm_Run d 302 30 [vA 234, vI l1, PU] [] (GF X, M, PTF v) K := by
  refine (px_go (by decide +kernel : pm_fe 302 17 = some (.iload_n 1, 1)) rfl).trans ?_
  refine (px_go (by decide +kernel : pm_fe 302 18 = some (.aload_n 0, 1)) rfl).trans ?_
  refine (ry_get2 (idx := 57) (ci := 12) (k := 15) (by decide +kernel : 234 < 283 ∧ SHF 234 = (12, 76)) (ptf_l (a := 234) (k := 15) (n := 237) (by decide +kernel)) (by decide +kernel)).trans ?_
  refine (px_go (by decide +kernel : pm_fe 302 22 = some (.aload_n 0, 1)) rfl).trans ?_
  refine (ry_get0 (idx := 51) (ci := 12) (k := 13) (by decide +kernel : 234 < 283 ∧ SHF 234 = (12, 76)) (by decide +kernel)).trans ?_
  refine (ry_iald (by decide +kernel : 237 < 283 ∧ SHF 237 = (100, 2)) h1 h2 (by decide +kernel)).trans ?_
  refine (ry_ic_ge (off := 29) (tgt := 56) h3 h4 (by decide +kernel)).trans ?_
  exact Iff.rfl
theorem r302_30 {d : Nat} {X : Nat × (Nat → Int)} {v : Nat → Int} {M : PH} {K : PV → PS → Prop} {l1 : Int} (h1 : 0 ≤ l1) (h2 : l1 < 66) : pm_Run d 302 30 [vA 234, vI l1, PU] [] (GF X, M, PTF v) K ↔ pm_Call d 300 [vA 234, vI (M 271 l1.toNat)] (GF X, M, PTF v) (fun r9 S1 => pm_Run d 302 40 [vA 234, vI l1, PU] (pm_push r9 []) S1 K) := by
  refine (px_go (by decide +kernel : pm_fe 302 30 = some (.aload_n 0, 1)) rfl).trans ?_
  refine (px_go (by decide +kernel : pm_fe 302 31 = some (.aload_n 0, 1)) rfl).trans ?_
  refine (ry_get2 (idx := 180) (ci := 12) (k := 55) (by decide +kernel : 234 < 283 ∧ SHF 234 = (12, 76)) (ptf_l (a := 234) (k := 55) (n := 271) (by decide +kernel)) (by decide +kernel)).trans ?_
  refine (px_go (by decide +kernel : pm_fe 302 35 = some (.iload_n 1, 1)) rfl).trans ?_
  refine (ry_iald (by decide +kernel : 271 < 283 ∧ SHF 271 = (100, 66)) h1 h2 (by decide +kernel)).trans ?_
  refine (ry_v1 (idx := 614) (m' := 300) (ci := 12) (by decide +kernel : 234 < 283 ∧ SHF 234 = (12, 76)) (by simp [pm_wl_n, pm_wl_c, pm_w] : pm_wl [] ≤ 8) (by decide +kernel)).trans ?_
  exact Iff.rfl
theorem r302_40 {d : Nat} {X : Nat × (Nat → Int)} {v : Nat → Int} {M : PH} {K : PV → PS → Prop} {l1 : Int} (h1 : 0 ≤ l1) (h2 : l1 < 66) : pm_Run d 302 40 [vA 234, vI l1, PU] [] (GF X, M, PTF v) K ↔ pm_Call d 300 [vA 234, vI (M 272 l1.toNat)] (GF X, M, PTF v) (fun r9 S1 => pm_Run d 302 50 [vA 234, vI l1, PU] (pm_push r9 []) S1 K) := by
  refine (px_go (by decide +kernel : pm_fe 302 40 = some (.aload_n 0, 1)) rfl).trans ?_
  refine (px_go (by decide +kernel : pm_fe 302 41 = some (.aload_n 0, 1)) rfl).trans ?_
  refine (ry_get2 (idx := 183) (ci := 12) (k := 56) (by decide +kernel : 234 < 283 ∧ SHF 234 = (12, 76)) (ptf_l (a := 234) (k := 56) (n := 272) (by decide +kernel)) (by decide +kernel)).trans ?_
  refine (px_go (by decide +kernel : pm_fe 302 45 = some (.iload_n 1, 1)) rfl).trans ?_
  refine (ry_iald (by decide +kernel : 272 < 283 ∧ SHF 272 = (100, 66)) h1 h2 (by decide +kernel)).trans ?_
  refine (ry_v1 (idx := 614) (m' := 300) (ci := 12) (by decide +kernel : 234 < 283 ∧ SHF 234 = (12, 76)) (by simp [pm_wl_n, pm_wl_c, pm_w] : pm_wl [] ≤ 8) (by decide +kernel)).trans ?_
  exact Iff.rfl
theorem r302_50 {d : Nat} {X : Nat × (Nat → Int)} {v : Nat → Int} {M : PH} {K : PV → PS → Prop} {l1 : Int} : pm_Run d 302 50 [vA 234, vI l1, PU] [] (GF X, M, PTF v) K ↔ pm_Run d 302 17 [vA 234, vI (l1 + 1), PU] [] (GF X, M, PTF v) K := by
  refine (px_go (by decide +kernel : pm_fe 302 50 = some (.iinc 1 1, 3)) rfl).trans ?_
  refine (px_goto (off := (-36)) (tgt := 17) (by decide +kernel)).trans ?_
  exact Iff.rfl
theorem r302_56 {d : Nat} {X : Nat × (Nat → Int)} {v : Nat → Int} {M : PH} {K : PV → PS → Prop} {l1 : Int} : pm_Run d 302 56 [vA 234, vI l1, PU] [] (GF X, M, PTF v) K ↔ pm_Run d 302 58 [vA 234, vI 0, PU] [] (GF X, M, PTF v) K := by
  refine (px_go (by decide +kernel : pm_fe 302 56 = some (.iconst 0, 1)) rfl).trans ?_
  refine (px_go (by decide +kernel : pm_fe 302 57 = some (.istore_n 1, 1)) rfl).trans ?_
  exact Iff.rfl
theorem r302_58 {d : Nat} {X : Nat × (Nat → Int)} {v : Nat → Int} {M : PH} {K : PV → PS → Prop} {l1 : Int} {l2 : PV} (h1 : 0 ≤ (M 234 13)) (h2 : (M 234 13) < 2) (h3 : inR l1) (h4 : inR (M 241 (M 234 13).toNat)) : pm_Run d 302 58 [vA 234, vI l1, l2] [] (GF X, M, PTF v) K ↔ if M 241 (M 234 13).toNat ≤ l1 then pm_Run d 302 136 [vA 234, vI l1, l2] [] (GF X, M, PTF v) K else pm_Run d 302 71 [vA 234, vI l1, l2] [] (GF X, M, PTF v) K := by
  refine (px_go (by decide +kernel : pm_fe 302 58 = some (.iload_n 1, 1)) rfl).trans ?_
  refine (px_go (by decide +kernel : pm_fe 302 59 = some (.aload_n 0, 1)) rfl).trans ?_
  refine (ry_get2 (idx := 69) (ci := 12) (k := 19) (by decide +kernel : 234 < 283 ∧ SHF 234 = (12, 76)) (ptf_l (a := 234) (k := 19) (n := 241) (by decide +kernel)) (by decide +kernel)).trans ?_
  refine (px_go (by decide +kernel : pm_fe 302 63 = some (.aload_n 0, 1)) rfl).trans ?_
  refine (ry_get0 (idx := 51) (ci := 12) (k := 13) (by decide +kernel : 234 < 283 ∧ SHF 234 = (12, 76)) (by decide +kernel)).trans ?_
  refine (ry_iald (by decide +kernel : 241 < 283 ∧ SHF 241 = (100, 2)) h1 h2 (by decide +kernel)).trans ?_
  refine (ry_ic_ge (off := 68) (tgt := 136) h3 h4 (by decide +kernel)).trans ?_
  exact Iff.rfl
theorem r302_71 {d : Nat} {X : Nat × (Nat → Int)} {v : Nat → Int} {M : PH} {K : PV → PS → Prop} {l1 : Int} {l2 : PV} (h1 : 0 ≤ l1) (h2 : l1 < 176) : pm_Run d 302 71 [vA 234, vI l1, l2] [] (GF X, M, PTF v) K ↔ pm_Call d 301 [vA 234, vI (M 273 l1.toNat)] (GF X, M, PTF v) (fun r9 S1 => pm_Run d 302 81 [vA 234, vI l1, l2] (pm_push r9 []) S1 K) := by
  refine (px_go (by decide +kernel : pm_fe 302 71 = some (.aload_n 0, 1)) rfl).trans ?_
  refine (px_go (by decide +kernel : pm_fe 302 72 = some (.aload_n 0, 1)) rfl).trans ?_
  refine (ry_get2 (idx := 186) (ci := 12) (k := 57) (by decide +kernel : 234 < 283 ∧ SHF 234 = (12, 76)) (ptf_l (a := 234) (k := 57) (n := 273) (by decide +kernel)) (by decide +kernel)).trans ?_
  refine (px_go (by decide +kernel : pm_fe 302 76 = some (.iload_n 1, 1)) rfl).trans ?_
  refine (ry_iald (by decide +kernel : 273 < 283 ∧ SHF 273 = (100, 176)) h1 h2 (by decide +kernel)).trans ?_
  refine (ry_v1 (idx := 617) (m' := 301) (ci := 12) (by decide +kernel : 234 < 283 ∧ SHF 234 = (12, 76)) (by simp [pm_wl_n, pm_wl_c, pm_w] : pm_wl [] ≤ 8) (by decide +kernel)).trans ?_
  exact Iff.rfl
theorem r302_81 {d : Nat} {X : Nat × (Nat → Int)} {v : Nat → Int} {M : PH} {K : PV → PS → Prop} {l1 : Int} {l2 : PV} : pm_Run d 302 81 [vA 234, vI l1, l2] [] (GF X, M, PTF v) K ↔ pm_Run d 302 83 [vA 234, vI l1, vI 0] [] (GF X, M, PTF v) K := by
  refine (px_go (by decide +kernel : pm_fe 302 81 = some (.iconst 0, 1)) rfl).trans ?_
  refine (px_go (by decide +kernel : pm_fe 302 82 = some (.istore_n 2, 1)) rfl).trans ?_
  exact Iff.rfl
theorem r302_83 {d : Nat} {X : Nat × (Nat → Int)} {v : Nat → Int} {M : PH} {K : PV → PS → Prop} {l1 l2 : Int} (h1 : 0 ≤ (M 234 13)) (h2 : (M 234 13) < 2) (h3 : inR l2) (h4 : inR (M 237 (M 234 13).toNat)) : pm_Run d 302 83 [vA 234, vI l1, vI l2] [] (GF X, M, PTF v) K ↔ if M 237 (M 234 13).toNat ≤ l2 then pm_Run d 302 130 [vA 234, vI l1, vI l2] [] (GF X, M, PTF v) K else pm_Run d 302 96 [vA 234, vI l1, vI l2] [] (GF X, M, PTF v) K := by
  refine (px_go (by decide +kernel : pm_fe 302 83 = some (.iload_n 2, 1)) rfl).trans ?_
  refine (px_go (by decide +kernel : pm_fe 302 84 = some (.aload_n 0, 1)) rfl).trans ?_
  refine (ry_get2 (idx := 57) (ci := 12) (k := 15) (by decide +kernel : 234 < 283 ∧ SHF 234 = (12, 76)) (ptf_l (a := 234) (k := 15) (n := 237) (by decide +kernel)) (by decide +kernel)).trans ?_
  refine (px_go (by decide +kernel : pm_fe 302 88 = some (.aload_n 0, 1)) rfl).trans ?_
  refine (ry_get0 (idx := 51) (ci := 12) (k := 13) (by decide +kernel : 234 < 283 ∧ SHF 234 = (12, 76)) (by decide +kernel)).trans ?_
  refine (ry_iald (by decide +kernel : 237 < 283 ∧ SHF 237 = (100, 2)) h1 h2 (by decide +kernel)).trans ?_
  refine (ry_ic_ge (off := 37) (tgt := 130) h3 h4 (by decide +kernel)).trans ?_
  exact Iff.rfl
theorem r302_96 {d : Nat} {X : Nat × (Nat → Int)} {v : Nat → Int} {M : PH} {K : PV → PS → Prop} {l1 l2 : Int} (h1 : 0 ≤ ((3 * l1) + l2)) (h2 : ((3 * l1) + l2) < 528) : pm_Run d 302 96 [vA 234, vI l1, vI l2] [] (GF X, M, PTF v) K ↔ pm_Call d 300 [vA 234, vI (M 274 ((3 * l1) + l2).toNat)] (GF X, M, PTF v) (fun r9 S1 => pm_Run d 302 110 [vA 234, vI l1, vI l2] (pm_push r9 []) S1 K) := by
  refine (px_go (by decide +kernel : pm_fe 302 96 = some (.aload_n 0, 1)) rfl).trans ?_
  refine (px_go (by decide +kernel : pm_fe 302 97 = some (.aload_n 0, 1)) rfl).trans ?_
  refine (ry_get2 (idx := 189) (ci := 12) (k := 58) (by decide +kernel : 234 < 283 ∧ SHF 234 = (12, 76)) (ptf_l (a := 234) (k := 58) (n := 274) (by decide +kernel)) (by decide +kernel)).trans ?_
  refine (px_go (by decide +kernel : pm_fe 302 101 = some (.iconst 3, 1)) rfl).trans ?_
  refine (px_go (by decide +kernel : pm_fe 302 102 = some (.iload_n 1, 1)) rfl).trans ?_
  refine (px_go (by decide +kernel : pm_fe 302 103 = some (.imul, 1)) rfl).trans ?_
  refine (px_go (by decide +kernel : pm_fe 302 104 = some (.iload_n 2, 1)) rfl).trans ?_
  refine (px_go (by decide +kernel : pm_fe 302 105 = some (.iadd, 1)) rfl).trans ?_
  refine (ry_iald (by decide +kernel : 274 < 283 ∧ SHF 274 = (100, 528)) h1 h2 (by decide +kernel)).trans ?_
  refine (ry_v1 (idx := 614) (m' := 300) (ci := 12) (by decide +kernel : 234 < 283 ∧ SHF 234 = (12, 76)) (by simp [pm_wl_n, pm_wl_c, pm_w] : pm_wl [] ≤ 8) (by decide +kernel)).trans ?_
  exact Iff.rfl
theorem r302_110 {d : Nat} {X : Nat × (Nat → Int)} {v : Nat → Int} {M : PH} {K : PV → PS → Prop} {l1 l2 : Int} (h1 : 0 ≤ ((3 * l1) + l2)) (h2 : ((3 * l1) + l2) < 528) : pm_Run d 302 110 [vA 234, vI l1, vI l2] [] (GF X, M, PTF v) K ↔ pm_Call d 301 [vA 234, vI (M 275 ((3 * l1) + l2).toNat)] (GF X, M, PTF v) (fun r9 S1 => pm_Run d 302 124 [vA 234, vI l1, vI l2] (pm_push r9 []) S1 K) := by
  refine (px_go (by decide +kernel : pm_fe 302 110 = some (.aload_n 0, 1)) rfl).trans ?_
  refine (px_go (by decide +kernel : pm_fe 302 111 = some (.aload_n 0, 1)) rfl).trans ?_
  refine (ry_get2 (idx := 192) (ci := 12) (k := 59) (by decide +kernel : 234 < 283 ∧ SHF 234 = (12, 76)) (ptf_l (a := 234) (k := 59) (n := 275) (by decide +kernel)) (by decide +kernel)).trans ?_
  refine (px_go (by decide +kernel : pm_fe 302 115 = some (.iconst 3, 1)) rfl).trans ?_
  refine (px_go (by decide +kernel : pm_fe 302 116 = some (.iload_n 1, 1)) rfl).trans ?_
  refine (px_go (by decide +kernel : pm_fe 302 117 = some (.imul, 1)) rfl).trans ?_
  refine (px_go (by decide +kernel : pm_fe 302 118 = some (.iload_n 2, 1)) rfl).trans ?_
  refine (px_go (by decide +kernel : pm_fe 302 119 = some (.iadd, 1)) rfl).trans ?_
  refine (ry_iald (by decide +kernel : 275 < 283 ∧ SHF 275 = (100, 528)) h1 h2 (by decide +kernel)).trans ?_
  refine (ry_v1 (idx := 617) (m' := 301) (ci := 12) (by decide +kernel : 234 < 283 ∧ SHF 234 = (12, 76)) (by simp [pm_wl_n, pm_wl_c, pm_w] : pm_wl [] ≤ 8) (by decide +kernel)).trans ?_
  exact Iff.rfl
theorem r302_124 {d : Nat} {X : Nat × (Nat → Int)} {v : Nat → Int} {M : PH} {K : PV → PS → Prop} {l1 l2 : Int} : pm_Run d 302 124 [vA 234, vI l1, vI l2] [] (GF X, M, PTF v) K ↔ pm_Run d 302 83 [vA 234, vI l1, vI (l2 + 1)] [] (GF X, M, PTF v) K := by
  refine (px_go (by decide +kernel : pm_fe 302 124 = some (.iinc 2 1, 3)) rfl).trans ?_
  refine (px_goto (off := (-44)) (tgt := 83) (by decide +kernel)).trans ?_
  exact Iff.rfl
theorem r302_130 {d : Nat} {X : Nat × (Nat → Int)} {v : Nat → Int} {M : PH} {K : PV → PS → Prop} {l1 l2 : Int} : pm_Run d 302 130 [vA 234, vI l1, vI l2] [] (GF X, M, PTF v) K ↔ pm_Run d 302 58 [vA 234, vI (l1 + 1), vI l2] [] (GF X, M, PTF v) K := by
  refine (px_go (by decide +kernel : pm_fe 302 130 = some (.iinc 1 1, 3)) rfl).trans ?_
  refine (px_goto (off := (-75)) (tgt := 58) (by decide +kernel)).trans ?_
  exact Iff.rfl
theorem r302_136 {d : Nat} {X : Nat × (Nat → Int)} {v : Nat → Int} {M : PH} {K : PV → PS → Prop} {l1 : Int} {l2 : PV} : pm_Run d 302 136 [vA 234, vI l1, l2] [] (GF X, M, PTF v) K ↔ pm_Run d 302 141 [vA 234, vI 89, vI 0] [] (GF X, M, PTF v) K := by
  refine (px_go (by decide +kernel : pm_fe 302 136 = some (.bipush 89, 2)) rfl).trans ?_
  refine (px_go (by decide +kernel : pm_fe 302 138 = some (.istore_n 1, 1)) rfl).trans ?_
  refine (px_go (by decide +kernel : pm_fe 302 139 = some (.iconst 0, 1)) rfl).trans ?_
  refine (px_go (by decide +kernel : pm_fe 302 140 = some (.istore_n 2, 1)) rfl).trans ?_
  exact Iff.rfl
theorem r302_141 {d : Nat} {X : Nat × (Nat → Int)} {v : Nat → Int} {M : PH} {K : PV → PS → Prop} {l1 l2 : Int} (h1 : inR l2) (h2 : inR (M 234 75)) : pm_Run d 302 141 [vA 234, vI l1, vI l2] [] (GF X, M, PTF v) K ↔ if M 234 75 ≤ l2 then pm_Run d 302 170 [vA 234, vI l1, vI l2] [] (GF X, M, PTF v) K else pm_Run d 302 149 [vA 234, vI l1, vI l2] [] (GF X, M, PTF v) K := by
  refine (px_go (by decide +kernel : pm_fe 302 141 = some (.iload_n 2, 1)) rfl).trans ?_
  refine (px_go (by decide +kernel : pm_fe 302 142 = some (.aload_n 0, 1)) rfl).trans ?_
  refine (ry_get0 (idx := 240) (ci := 12) (k := 75) (by decide +kernel : 234 < 283 ∧ SHF 234 = (12, 76)) (by decide +kernel)).trans ?_
  refine (ry_ic_ge (off := 24) (tgt := 170) h1 h2 (by decide +kernel)).trans ?_
  exact Iff.rfl
theorem r302_149 {d : Nat} {X : Nat × (Nat → Int)} {v : Nat → Int} {M : PH} {K : PV → PS → Prop} {l1 l2 : Int} (h1 : 0 ≤ l2) (h2 : l2 < 110) (h3 : inR ((5 * l1) + (M 282 l2.toNat))) : pm_Run d 302 149 [vA 234, vI l1, vI l2] [] (GF X, M, PTF v) K ↔ pm_Run d 302 141 [vA 234, vI (((5 * l1) + (M 282 l2.toNat)).tmod 251), vI (l2 + 1)] [] (GF X, M, PTF v) K := by
  refine (px_go (by decide +kernel : pm_fe 302 149 = some (.iconst 5, 1)) rfl).trans ?_
  refine (px_go (by decide +kernel : pm_fe 302 150 = some (.iload_n 1, 1)) rfl).trans ?_
  refine (px_go (by decide +kernel : pm_fe 302 151 = some (.imul, 1)) rfl).trans ?_
  refine (px_go (by decide +kernel : pm_fe 302 152 = some (.aload_n 0, 1)) rfl).trans ?_
  refine (ry_get2 (idx := 237) (ci := 12) (k := 74) (by decide +kernel : 234 < 283 ∧ SHF 234 = (12, 76)) (ptf_l (a := 234) (k := 74) (n := 282) (by decide +kernel)) (by decide +kernel)).trans ?_
  refine (px_go (by decide +kernel : pm_fe 302 156 = some (.iload_n 2, 1)) rfl).trans ?_
  refine (ry_iald (by decide +kernel : 282 < 283 ∧ SHF 282 = (100, 110)) h1 h2 (by decide +kernel)).trans ?_
  refine (px_go (by decide +kernel : pm_fe 302 158 = some (.iadd, 1)) rfl).trans ?_
  refine (px_go (by decide +kernel : pm_fe 302 159 = some (.sipush 251, 3)) rfl).trans ?_
  refine (ry_irem h3 (by decide : (-2147483648 ≤ (251 : Int) ∧ (251 : Int) < 2147483648)) (by decide : (251 : Int) ≠ (0 : Int)) (by decide +kernel)).trans ?_
  refine (px_go (by decide +kernel : pm_fe 302 163 = some (.istore_n 1, 1)) rfl).trans ?_
  refine (px_go (by decide +kernel : pm_fe 302 164 = some (.iinc 2 1, 3)) rfl).trans ?_
  refine (px_goto (off := (-26)) (tgt := 141) (by decide +kernel)).trans ?_
  exact Iff.rfl
theorem r302_170 {d : Nat} {X : Nat × (Nat → Int)} {v : Nat → Int} {M : PH} {K : PV → PS → Prop} {l1 l2 : Int} : pm_Run d 302 170 [vA 234, vI l1, vI l2] [] (GF X, M, PTF v) K ↔ pm_Call d 300 [vA 234, vI l1] (GF X, M, PTF v) (fun r9 S1 => pm_Run d 302 175 [vA 234, vI l1, vI l2] (pm_push r9 []) S1 K) := by
  refine (px_go (by decide +kernel : pm_fe 302 170 = some (.aload_n 0, 1)) rfl).trans ?_
  refine (px_go (by decide +kernel : pm_fe 302 171 = some (.iload_n 1, 1)) rfl).trans ?_
  refine (ry_v1 (idx := 614) (m' := 300) (ci := 12) (by decide +kernel : 234 < 283 ∧ SHF 234 = (12, 76)) (by simp [pm_wl_n, pm_wl_c, pm_w] : pm_wl [] ≤ 8) (by decide +kernel)).trans ?_
  exact Iff.rfl
theorem r302_175 {d : Nat} {X : Nat × (Nat → Int)} {v : Nat → Int} {M : PH} {K : PV → PS → Prop} {l1 l2 : Int} : pm_Run d 302 175 [vA 234, vI l1, vI l2] [] (GF X, M, PTF v) K ↔ K (vI (M 234 75)) (GF X, M, PTF v) := by
  refine (px_go (by decide +kernel : pm_fe 302 175 = some (.aload_n 0, 1)) rfl).trans ?_
  refine (ry_get0 (idx := 240) (ci := 12) (k := 75) (by decide +kernel : 234 < 283 ∧ SHF 234 = (12, 76)) (by decide +kernel)).trans ?_
  refine (px_ri (by decide +kernel)).trans ?_
  exact Iff.rfl
-- X12_octet octet(I)I
theorem r303_0 {d : Nat} {X : Nat × (Nat → Int)} {v : Nat → Int} {M : PH} {K : PV → PS → Prop} {l1 : Int} : pm_Run d 303 0 [vA 234, vI l1] [] (GF X, M, PTF v) K ↔ pm_Call d 179 [vI l1, vI 0, vI ((M 234 75) - 1)] (GF X, M, PTF v) (fun r9 S1 => pm_Run d 303 11 [vA 234, vI l1] (pm_push r9 []) S1 K) := by
  refine (px_go (by decide +kernel : pm_fe 303 0 = some (.iload_n 1, 1)) rfl).trans ?_
  refine (px_go (by decide +kernel : pm_fe 303 1 = some (.iconst 0, 1)) rfl).trans ?_
  refine (px_go (by decide +kernel : pm_fe 303 2 = some (.aload_n 0, 1)) rfl).trans ?_
  refine (ry_get0 (idx := 240) (ci := 12) (k := 75) (by decide +kernel : 234 < 283 ∧ SHF 234 = (12, 76)) (by decide +kernel)).trans ?_
  refine (px_go (by decide +kernel : pm_fe 303 6 = some (.iconst 1, 1)) rfl).trans ?_
  refine (px_go (by decide +kernel : pm_fe 303 7 = some (.isub, 1)) rfl).trans ?_
  refine (px_s3 (idx := 337) (m' := 179) (nest := 0) (by decide +kernel)).trans ((and_iff_right (by simp [pm_wl_n, pm_wl_c, pm_w] : pm_wl [] ≤ 8)).trans ?_)
  exact Iff.rfl
theorem r303_11 {d : Nat} {X : Nat × (Nat → Int)} {v : Nat → Int} {M : PH} {K : PV → PS → Prop} {l1 s0 : Int} (h1 : inR s0) : pm_Run d 303 11 [vA 234, vI l1] [vI s0] (GF X, M, PTF v) K ↔ if s0 = 0 then pm_Run d 303 23 [vA 234, vI l1] [] (GF X, M, PTF v) K else pm_Run d 303 14 [vA 234, vI l1] [] (GF X, M, PTF v) K := by
  refine (ry_if_eq (off := 12) (tgt := 23) h1 (by decide +kernel)).trans ?_
  exact Iff.rfl
theorem r303_14 {d : Nat} {X : Nat × (Nat → Int)} {v : Nat → Int} {M : PH} {K : PV → PS → Prop} {l1 : Int} (h1 : 0 ≤ l1) (h2 : l1 < 110) : pm_Run d 303 14 [vA 234, vI l1] [] (GF X, M, PTF v) K ↔ pm_Run d 303 24 [vA 234, vI l1] [vI (M 282 l1.toNat)] (GF X, M, PTF v) K := by
  refine (px_go (by decide +kernel : pm_fe 303 14 = some (.aload_n 0, 1)) rfl).trans ?_
  refine (ry_get2 (idx := 237) (ci := 12) (k := 74) (by decide +kernel : 234 < 283 ∧ SHF 234 = (12, 76)) (ptf_l (a := 234) (k := 74) (n := 282) (by decide +kernel)) (by decide +kernel)).trans ?_
  refine (px_go (by decide +kernel : pm_fe 303 18 = some (.iload_n 1, 1)) rfl).trans ?_
  refine (ry_iald (by decide +kernel : 282 < 283 ∧ SHF 282 = (100, 110)) h1 h2 (by decide +kernel)).trans ?_
  refine (px_goto (off := 4) (tgt := 24) (by decide +kernel)).trans ?_
  exact Iff.rfl
theorem r303_23 {d : Nat} {X : Nat × (Nat → Int)} {v : Nat → Int} {M : PH} {K : PV → PS → Prop} {l1 : Int} : pm_Run d 303 23 [vA 234, vI l1] [] (GF X, M, PTF v) K ↔ pm_Run d 303 24 [vA 234, vI l1] [vI (-1)] (GF X, M, PTF v) K := by
  refine (px_go (by decide +kernel : pm_fe 303 23 = some (.iconst (-1), 1)) rfl).trans ?_
  exact Iff.rfl
theorem r303_24 {d : Nat} {X : Nat × (Nat → Int)} {v : Nat → Int} {M : PH} {K : PV → PS → Prop} {l1 s0 : Int} : pm_Run d 303 24 [vA 234, vI l1] [vI s0] (GF X, M, PTF v) K ↔ K (vI s0) (GF X, M, PTF v) := by
  refine (px_ri (by decide +kernel)).trans ?_
  exact Iff.rfl
-- X12_twoBytes twoBytes(I)I
theorem r304_0 {d : Nat} {X : Nat × (Nat → Int)} {v : Nat → Int} {M : PH} {K : PV → PS → Prop} {l1 : Int} (h1 : 0 ≤ l1) (h2 : l1 < 1800) (h3 : 0 ≤ (l1 + 1)) (h4 : (l1 + 1) < 1800) : pm_Run d 304 0 [vA 234, vI l1] [] (GF X, M, PTF v) K ↔ K (vI (pm_or (pm_shl (M 235 l1.toNat) 8) (M 235 (l1 + 1).toNat))) (GF X, M, PTF v) := by
  refine (px_go (by decide +kernel : pm_fe 304 0 = some (.aload_n 0, 1)) rfl).trans ?_
  refine (ry_get2 (idx := 7) (ci := 12) (k := 0) (by decide +kernel : 234 < 283 ∧ SHF 234 = (12, 76)) (ptf_l (a := 234) (k := 0) (n := 235) (by decide +kernel)) (by decide +kernel)).trans ?_
  refine (px_go (by decide +kernel : pm_fe 304 4 = some (.iload_n 1, 1)) rfl).trans ?_
  refine (ry_iald (by decide +kernel : 235 < 283 ∧ SHF 235 = (100, 1800)) h1 h2 (by decide +kernel)).trans ?_
  refine (px_go (by decide +kernel : pm_fe 304 6 = some (.bipush 8, 2)) rfl).trans ?_
  refine (px_go (by decide +kernel : pm_fe 304 8 = some (.ishl, 1)) rfl).trans ?_
  refine (px_go (by decide +kernel : pm_fe 304 9 = some (.aload_n 0, 1)) rfl).trans ?_
  refine (ry_get2 (idx := 7) (ci := 12) (k := 0) (by decide +kernel : 234 < 283 ∧ SHF 234 = (12, 76)) (ptf_l (a := 234) (k := 0) (n := 235) (by decide +kernel)) (by decide +kernel)).trans ?_
  refine (px_go (by decide +kernel : pm_fe 304 13 = some (.iload_n 1, 1)) rfl).trans ?_
  refine (px_go (by decide +kernel : pm_fe 304 14 = some (.iconst 1, 1)) rfl).trans ?_
  refine (px_go (by decide +kernel : pm_fe 304 15 = some (.iadd, 1)) rfl).trans ?_
  refine (ry_iald (by decide +kernel : 235 < 283 ∧ SHF 235 = (100, 1800)) h3 h4 (by decide +kernel)).trans ?_
  refine (px_go (by decide +kernel : pm_fe 304 17 = some (.ior, 1)) rfl).trans ?_
  refine (px_ri (by decide +kernel)).trans ?_
  exact Iff.rfl
-- X12_comesOn comesOn(I)Z
theorem r305_0 {d : Nat} {X : Nat × (Nat → Int)} {v : Nat → Int} {M : PH} {K : PV → PS → Prop} {l1 : Int} (h1 : 0 ≤ (M 234 13)) (h2 : (M 234 13) < 2) : pm_Run d 305 0 [vA 234, vI l1, PU, PU, PU, PU, PU, PU, PU] [] (GF X, M, PTF v) K ↔ pm_Call d 226 [vA 234] (GF X, M, PTF v) (fun r9 S1 => pm_Run d 305 32 [vA 234, vI l1, vI (2 + (2 * (M 237 (M 234 13).toNat))), vI (2 + (3 * (M 237 (M 234 13).toNat))), PU, PU, PU, PU, PU] (pm_push r9 []) S1 K) := by
  refine (px_go (by decide +kernel : pm_fe 305 0 = some (.iconst 2, 1)) rfl).trans ?_
  refine (px_go (by decide +kernel : pm_fe 305 1 = some (.iconst 2, 1)) rfl).trans ?_
  refine (px_go (by decide +kernel : pm_fe 305 2 = some (.aload_n 0, 1)) rfl).trans ?_
  refine (ry_get2 (idx := 57) (ci := 12) (k := 15) (by decide +kernel : 234 < 283 ∧ SHF 234 = (12, 76)) (ptf_l (a := 234) (k := 15) (n := 237) (by decide +kernel)) (by decide +kernel)).trans ?_
  refine (px_go (by decide +kernel : pm_fe 305 6 = some (.aload_n 0, 1)) rfl).trans ?_
  refine (ry_get0 (idx := 51) (ci := 12) (k := 13) (by decide +kernel : 234 < 283 ∧ SHF 234 = (12, 76)) (by decide +kernel)).trans ?_
  refine (ry_iald (by decide +kernel : 237 < 283 ∧ SHF 237 = (100, 2)) h1 h2 (by decide +kernel)).trans ?_
  refine (px_go (by decide +kernel : pm_fe 305 11 = some (.imul, 1)) rfl).trans ?_
  refine (px_go (by decide +kernel : pm_fe 305 12 = some (.iadd, 1)) rfl).trans ?_
  refine (px_go (by decide +kernel : pm_fe 305 13 = some (.istore_n 2, 1)) rfl).trans ?_
  refine (px_go (by decide +kernel : pm_fe 305 14 = some (.iconst 2, 1)) rfl).trans ?_
  refine (px_go (by decide +kernel : pm_fe 305 15 = some (.iconst 3, 1)) rfl).trans ?_
  refine (px_go (by decide +kernel : pm_fe 305 16 = some (.aload_n 0, 1)) rfl).trans ?_
  refine (ry_get2 (idx := 57) (ci := 12) (k := 15) (by decide +kernel : 234 < 283 ∧ SHF 234 = (12, 76)) (ptf_l (a := 234) (k := 15) (n := 237) (by decide +kernel)) (by decide +kernel)).trans ?_
  refine (px_go (by decide +kernel : pm_fe 305 20 = some (.aload_n 0, 1)) rfl).trans ?_
  refine (ry_get0 (idx := 51) (ci := 12) (k := 13) (by decide +kernel : 234 < 283 ∧ SHF 234 = (12, 76)) (by decide +kernel)).trans ?_
  refine (ry_iald (by decide +kernel : 237 < 283 ∧ SHF 237 = (100, 2)) h1 h2 (by decide +kernel)).trans ?_
  refine (px_go (by decide +kernel : pm_fe 305 25 = some (.imul, 1)) rfl).trans ?_
  refine (px_go (by decide +kernel : pm_fe 305 26 = some (.iadd, 1)) rfl).trans ?_
  refine (px_go (by decide +kernel : pm_fe 305 27 = some (.istore_n 3, 1)) rfl).trans ?_
  refine (px_go (by decide +kernel : pm_fe 305 28 = some (.aload_n 0, 1)) rfl).trans ?_
  refine (ry_v0 (idx := 523) (m' := 226) (ci := 12) (by decide +kernel : 234 < 283 ∧ SHF 234 = (12, 76)) (by simp [pm_wl_n, pm_wl_c, pm_w] : pm_wl [] ≤ 8) (by decide +kernel)).trans ?_
  exact Iff.rfl
theorem r305_32 {d : Nat} {X : Nat × (Nat → Int)} {v : Nat → Int} {M : PH} {K : PV → PS → Prop} {l1 l2 l3 s0 : Int} (h1 : inR s0) : pm_Run d 305 32 [vA 234, vI l1, vI l2, vI l3, PU, PU, PU, PU, PU] [vI s0] (GF X, M, PTF v) K ↔ if s0 = 0 then pm_Run d 305 65 [vA 234, vI l1, vI l2, vI l3, PU, PU, PU, PU, PU] [] (GF X, M, PTF v) K else pm_Run d 305 35 [vA 234, vI l1, vI l2, vI l3, PU, PU, PU, PU, PU] [] (GF X, M, PTF v) K := by
  refine (ry_if_eq (off := 33) (tgt := 65) h1 (by decide +kernel)).trans ?_
  exact Iff.rfl
theorem r305_35 {d : Nat} {X : Nat × (Nat → Int)} {v : Nat → Int} {M : PH} {K : PV → PS → Prop} {l1 l2 l3 : Int} (h1 : 0 ≤ (M 234 13)) (h2 : (M 234 13) < 2) (h3 : inR l1) (h4 : inR ((l2 + (l3 * (M 241 (M 234 13).toNat))) + 1)) : pm_Run d 305 35 [vA 234, vI l1, vI l2, vI l3, PU, PU, PU, PU, PU] [] (GF X, M, PTF v) K ↔ if l1 ≠ (l2 + (l3 * (M 241 (M 234 13).toNat))) + 1 then pm_Run d 305 65 [vA 234, vI l1, vI l2, vI l3, PU, PU, PU, PU, PU] [] (GF X, M, PTF v) K else pm_Run d 305 54 [vA 234, vI l1, vI l2, vI l3, PU, PU, PU, PU, PU] [] (GF X, M, PTF v) K := by
  refine (px_go (by decide +kernel : pm_fe 305 35 = some (.iload_n 1, 1)) rfl).trans ?_
  refine (px_go (by decide +kernel : pm_fe 305 36 = some (.iload_n 2, 1)) rfl).trans ?_
  refine (px_go (by decide +kernel : pm_fe 305 37 = some (.iload_n 3, 1)) rfl).trans ?_
  refine (px_go (by decide +kernel : pm_fe 305 38 = some (.aload_n 0, 1)) rfl).trans ?_
  refine (ry_get2 (idx := 69) (ci := 12) (k := 19) (by decide +kernel : 234 < 283 ∧ SHF 234 = (12, 76)) (ptf_l (a := 234) (k := 19) (n := 241) (by decide +kernel)) (by decide +kernel)).trans ?_
  refine (px_go (by decide +kernel : pm_fe 305 42 = some (.aload_n 0, 1)) rfl).trans ?_
  refine (ry_get0 (idx := 51) (ci := 12) (k := 13) (by decide +kernel : 234 < 283 ∧ SHF 234 = (12, 76)) (by decide +kernel)).trans ?_
  refine (ry_iald (by decide +kernel : 241 < 283 ∧ SHF 241 = (100, 2)) h1 h2 (by decide +kernel)).trans ?_
  refine (px_go (by decide +kernel : pm_fe 305 47 = some (.imul, 1)) rfl).trans ?_
  refine (px_go (by decide +kernel : pm_fe 305 48 = some (.iadd, 1)) rfl).trans ?_
  refine (px_go (by decide +kernel : pm_fe 305 49 = some (.iconst 1, 1)) rfl).trans ?_
  refine (px_go (by decide +kernel : pm_fe 305 50 = some (.iadd, 1)) rfl).trans ?_
  refine (ry_ic_ne (off := 14) (tgt := 65) h3 h4 (by decide +kernel)).trans ?_
  exact Iff.rfl
theorem r305_54 {d : Nat} {X : Nat × (Nat → Int)} {v : Nat → Int} {M : PH} {K : PV → PS → Prop} {l1 l2 l3 : Int} : pm_Run d 305 54 [vA 234, vI l1, vI l2, vI l3, PU, PU, PU, PU, PU] [] (GF X, M, PTF v) K ↔ pm_Call d 304 [vA 234, vI 0] (GF X, M, PTF v) (fun r9 S1 => pm_Run d 305 59 [vA 234, vI l1, vI l2, vI l3, PU, PU, PU, PU, PU] (pm_push r9 []) S1 K) := by
  refine (px_go (by decide +kernel : pm_fe 305 54 = some (.aload_n 0, 1)) rfl).trans ?_
  refine (px_go (by decide +kernel : pm_fe 305 55 = some (.iconst 0, 1)) rfl).trans ?_
  refine (ry_v1 (idx := 620) (m' := 304) (ci := 12) (by decide +kernel : 234 < 283 ∧ SHF 234 = (12, 76)) (by simp [pm_wl_n, pm_wl_c, pm_w] : pm_wl [] ≤ 8) (by decide +kernel)).trans ?_
  exact Iff.rfl
theorem r305_59 {d : Nat} {X : Nat × (Nat → Int)} {v : Nat → Int} {M : PH} {K : PV → PS → Prop} {l1 l2 l3 s0 : Int} (h1 : inR s0) : pm_Run d 305 59 [vA 234, vI l1, vI l2, vI l3, PU, PU, PU, PU, PU] [vI s0] (GF X, M, PTF v) K ↔ if s0 ≤ 9999 then pm_Run d 305 67 [vA 234, vI l1, vI l2, vI l3, PU, PU, PU, PU, PU] [] (GF X, M, PTF v) K else pm_Run d 305 65 [vA 234, vI l1, vI l2, vI l3, PU, PU, PU, PU, PU] [] (GF X, M, PTF v) K := by
  refine (px_go (by decide +kernel : pm_fe 305 59 = some (.sipush 9999, 3)) rfl).trans ?_
  refine (ry_ic_le (off := 5) (tgt := 67) h1 (by decide : (-2147483648 ≤ (9999 : Int) ∧ (9999 : Int) < 2147483648)) (by decide +kernel)).trans ?_
  exact Iff.rfl
theorem r305_65 {d : Nat} {X : Nat × (Nat → Int)} {v : Nat → Int} {M : PH} {K : PV → PS → Prop} {l1 l2 l3 : Int} : pm_Run d 305 65 [vA 234, vI l1, vI l2, vI l3, PU, PU, PU, PU, PU] [] (GF X, M, PTF v) K ↔ K (vI 0) (GF X, M, PTF v) := by
  refine (px_go (by decide +kernel : pm_fe 305 65 = some (.iconst 0, 1)) rfl).trans ?_
  refine (px_rz (by decide +kernel)).trans ((and_iff_right (by decide : (0 : Int) = (0 : Int) ∨ (0 : Int) = (1 : Int))).trans ?_)
  exact Iff.rfl
theorem r305_67 {d : Nat} {X : Nat × (Nat → Int)} {v : Nat → Int} {M : PH} {K : PV → PS → Prop} {l1 l2 l3 : Int} : pm_Run d 305 67 [vA 234, vI l1, vI l2, vI l3, PU, PU, PU, PU, PU] [] (GF X, M, PTF v) K ↔ pm_Run d 305 74 [vA 234, vI l1, vI l2, vI l3, vI 89, vI 0, PU, PU, PU] [] (GF X, M, PTF v) K := by
  refine (px_go (by decide +kernel : pm_fe 305 67 = some (.bipush 89, 2)) rfl).trans ?_
  refine (px_go (by decide +kernel : pm_fe 305 69 = some (.istore 4, 2)) rfl).trans ?_
  refine (px_go (by decide +kernel : pm_fe 305 71 = some (.iconst 0, 1)) rfl).trans ?_
  refine (px_go (by decide +kernel : pm_fe 305 72 = some (.istore 5, 2)) rfl).trans ?_
  exact Iff.rfl
theorem r305_74 {d : Nat} {X : Nat × (Nat → Int)} {v : Nat → Int} {M : PH} {K : PV → PS → Prop} {l1 l2 l3 l4 l5 : Int} (h1 : inR l5) (h2 : inR (l1 - 1)) : pm_Run d 305 74 [vA 234, vI l1, vI l2, vI l3, vI l4, vI l5, PU, PU, PU] [] (GF X, M, PTF v) K ↔ if l1 - 1 ≤ l5 then pm_Run d 305 106 [vA 234, vI l1, vI l2, vI l3, vI l4, vI l5, PU, PU, PU] [] (GF X, M, PTF v) K else pm_Run d 305 82 [vA 234, vI l1, vI l2, vI l3, vI l4, vI l5, PU, PU, PU] [] (GF X, M, PTF v) K := by
  refine (px_go (by decide +kernel : pm_fe 305 74 = some (.iload 5, 2)) rfl).trans ?_
  refine (px_go (by decide +kernel : pm_fe 305 76 = some (.iload_n 1, 1)) rfl).trans ?_
  refine (px_go (by decide +kernel : pm_fe 305 77 = some (.iconst 1, 1)) rfl).trans ?_
  refine (px_go (by decide +kernel : pm_fe 305 78 = some (.isub, 1)) rfl).trans ?_
  refine (ry_ic_ge (off := 27) (tgt := 106) h1 h2 (by decide +kernel)).trans ?_
  exact Iff.rfl
theorem r305_82 {d : Nat} {X : Nat × (Nat → Int)} {v : Nat → Int} {M : PH} {K : PV → PS → Prop} {l1 l2 l3 l4 l5 : Int} (h1 : 0 ≤ l5) (h2 : l5 < 1800) (h3 : inR ((5 * l4) + (M 235 l5.toNat))) : pm_Run d 305 82 [vA 234, vI l1, vI l2, vI l3, vI l4, vI l5, PU, PU, PU] [] (GF X, M, PTF v) K ↔ pm_Run d 305 74 [vA 234, vI l1, vI l2, vI l3, vI (((5 * l4) + (M 235 l5.toNat)).tmod 251), vI (l5 + 1), PU, PU, PU] [] (GF X, M, PTF v) K := by
  refine (px_go (by decide +kernel : pm_fe 305 82 = some (.iconst 5, 1)) rfl).trans ?_
  refine (px_go (by decide +kernel : pm_fe 305 83 = some (.iload 4, 2)) rfl).trans ?_
  refine (px_go (by decide +kernel : pm_fe 305 85 = some (.imul, 1)) rfl).trans ?_
  refine (px_go (by decide +kernel : pm_fe 305 86 = some (.aload_n 0, 1)) rfl).trans ?_
  refine (ry_get2 (idx := 7) (ci := 12) (k := 0) (by decide +kernel : 234 < 283 ∧ SHF 234 = (12, 76)) (ptf_l (a := 234) (k := 0) (n := 235) (by decide +kernel)) (by decide +kernel)).trans ?_
  refine (px_go (by decide +kernel : pm_fe 305 90 = some (.iload 5, 2)) rfl).trans ?_
  refine (ry_iald (by decide +kernel : 235 < 283 ∧ SHF 235 = (100, 1800)) h1 h2 (by decide +kernel)).trans ?_
  refine (px_go (by decide +kernel : pm_fe 305 93 = some (.iadd, 1)) rfl).trans ?_
  refine (px_go (by decide +kernel : pm_fe 305 94 = some (.sipush 251, 3)) rfl).trans ?_
  refine (ry_irem h3 (by decide : (-2147483648 ≤ (251 : Int) ∧ (251 : Int) < 2147483648)) (by decide : (251 : Int) ≠ (0 : Int)) (by decide +kernel)).trans ?_
  refine (px_go (by decide +kernel : pm_fe 305 98 = some (.istore 4, 2)) rfl).trans ?_
  refine (px_go (by decide +kernel : pm_fe 305 100 = some (.iinc 5 1, 3)) rfl).trans ?_
  refine (px_goto (off := (-29)) (tgt := 74) (by decide +kernel)).trans ?_
  exact Iff.rfl
theorem r305_106 {d : Nat} {X : Nat × (Nat → Int)} {v : Nat → Int} {M : PH} {K : PV → PS → Prop} {l1 l2 l3 l4 l5 : Int} (h1 : 0 ≤ (l1 - 1)) (h2 : (l1 - 1) < 1800) (h3 : inR (M 235 (l1 - 1).toNat)) (h4 : inR l4) : pm_Run d 305 106 [vA 234, vI l1, vI l2, vI l3, vI l4, vI l5, PU, PU, PU] [] (GF X, M, PTF v) K ↔ if M 235 (l1 - 1).toNat = l4 then pm_Run d 305 121 [vA 234, vI l1, vI l2, vI l3, vI l4, vI l5, PU, PU, PU] [] (GF X, M, PTF v) K else pm_Run d 305 119 [vA 234, vI l1, vI l2, vI l3, vI l4, vI l5, PU, PU, PU] [] (GF X, M, PTF v) K := by
  refine (px_go (by decide +kernel : pm_fe 305 106 = some (.aload_n 0, 1)) rfl).trans ?_
  refine (ry_get2 (idx := 7) (ci := 12) (k := 0) (by decide +kernel : 234 < 283 ∧ SHF 234 = (12, 76)) (ptf_l (a := 234) (k := 0) (n := 235) (by decide +kernel)) (by decide +kernel)).trans ?_
  refine (px_go (by decide +kernel : pm_fe 305 110 = some (.iload_n 1, 1)) rfl).trans ?_
  refine (px_go (by decide +kernel : pm_fe 305 111 = some (.iconst 1, 1)) rfl).trans ?_
  refine (px_go (by decide +kernel : pm_fe 305 112 = some (.isub, 1)) rfl).trans ?_
  refine (ry_iald (by decide +kernel : 235 < 283 ∧ SHF 235 = (100, 1800)) h1 h2 (by decide +kernel)).trans ?_
  refine (px_go (by decide +kernel : pm_fe 305 114 = some (.iload 4, 2)) rfl).trans ?_
  refine (ry_ic_eq (off := 5) (tgt := 121) h3 h4 (by decide +kernel)).trans ?_
  exact Iff.rfl
theorem r305_119 {d : Nat} {X : Nat × (Nat → Int)} {v : Nat → Int} {M : PH} {K : PV → PS → Prop} {l1 l2 l3 l4 l5 : Int} : pm_Run d 305 119 [vA 234, vI l1, vI l2, vI l3, vI l4, vI l5, PU, PU, PU] [] (GF X, M, PTF v) K ↔ K (vI 0) (GF X, M, PTF v) := by
  refine (px_go (by decide +kernel : pm_fe 305 119 = some (.iconst 0, 1)) rfl).trans ?_
  refine (px_rz (by decide +kernel)).trans ((and_iff_right (by decide : (0 : Int) = (0 : Int) ∨ (0 : Int) = (1 : Int))).trans ?_)
  exact Iff.rfl
theorem r305_121 {d : Nat} {X : Nat × (Nat → Int)} {v : Nat → Int} {M : PH} {K : PV → PS → Prop} {l1 l2 l3 l4 l5 : Int} : pm_Run d 305 121 [vA 234, vI l1, vI l2, vI l3, vI l4, vI l5, PU, PU, PU] [] (GF X, M, PTF v) K ↔ pm_Call d 232 [vA 234, vI 1, vI 0] (GF X, M, PTF v) (fun r9 S1 => pm_Run d 305 127 [vA 234, vI l1, vI l2, vI l3, vI l4, vI l5, PU, PU, PU] (pm_push r9 []) S1 K) := by
  refine (px_go (by decide +kernel : pm_fe 305 121 = some (.aload_n 0, 1)) rfl).trans ?_
  refine (px_go (by decide +kernel : pm_fe 305 122 = some (.iconst 1, 1)) rfl).trans ?_
  refine (px_go (by decide +kernel : pm_fe 305 123 = some (.iconst 0, 1)) rfl).trans ?_
  refine (ry_v2 (idx := 445) (m' := 232) (ci := 12) (by decide +kernel : 234 < 283 ∧ SHF 234 = (12, 76)) (by simp [pm_wl_n, pm_wl_c, pm_w] : pm_wl [] ≤ 8) (by decide +kernel)).trans ?_
  exact Iff.rfl
theorem r305_127 {d : Nat} {X : Nat × (Nat → Int)} {v : Nat → Int} {M : PH} {K : PV → PS → Prop} {l1 l2 l3 l4 l5 : Int} : pm_Run d 305 127 [vA 234, vI l1, vI l2, vI l3, vI l4, vI l5, PU, PU, PU] [] (GF X, M, PTF v) K ↔ pm_Call d 304 [vA 234, vI 0] (GF X, M, PTF v) (fun r9 S1 => pm_Run d 305 137 [vA 234, vI l1, vI l2, vI l3, vI l4, vI l5, PU, PU, PU] (pm_push r9 [vI 1, vA 270]) S1 K) := by
  refine (px_go (by decide +kernel : pm_fe 305 127 = some (.aload_n 0, 1)) rfl).trans ?_
  refine (ry_get2 (idx := 177) (ci := 12) (k := 54) (by decide +kernel : 234 < 283 ∧ SHF 234 = (12, 76)) (ptf_l (a := 234) (k := 54) (n := 270) (by decide +kernel)) (by decide +kernel)).trans ?_
  refine (px_go (by decide +kernel : pm_fe 305 131 = some (.iconst 1, 1)) rfl).trans ?_
  refine (px_go (by decide +kernel : pm_fe 305 132 = some (.aload_n 0, 1)) rfl).trans ?_
  refine (px_go (by decide +kernel : pm_fe 305 133 = some (.iconst 0, 1)) rfl).trans ?_
  refine (ry_v1 (idx := 620) (m' := 304) (ci := 12) (by decide +kernel : 234 < 283 ∧ SHF 234 = (12, 76)) (by simp [pm_wl_n, pm_wl_c, pm_w] : pm_wl [vI 1, vA 270] ≤ 8) (by decide +kernel)).trans ?_
  exact Iff.rfl
theorem r305_137 {d : Nat} {X : Nat × (Nat → Int)} {v : Nat → Int} {M : PH} {K : PV → PS → Prop} {l1 l2 l3 l4 l5 s0 s1 : Int} (h1 : 0 ≤ s1) (h2 : s1 < 22) : pm_Run d 305 137 [vA 234, vI l1, vI l2, vI l3, vI l4, vI l5, PU, PU, PU] [vI s0, vI s1, vA 270] (GF X, M, PTF v) K ↔ pm_Run d 305 138 [vA 234, vI l1, vI l2, vI l3, vI l4, vI l5, PU, PU, PU] [] (GF X, pm_sa M 270 (pm_up (M 270) s1.toNat s0), PTF v) K := by
  refine (ry_iast (by decide +kernel : 270 < 283 ∧ SHF 270 = (100, 22)) h1 h2 (by decide +kernel)).trans ?_
  exact Iff.rfl
theorem r305_138 {d : Nat} {X : Nat × (Nat → Int)} {v : Nat → Int} {M : PH} {K : PV → PS → Prop} {l1 l2 l3 l4 l5 : Int} : pm_Run d 305 138 [vA 234, vI l1, vI l2, vI l3, vI l4, vI l5, PU, PU, PU] [] (GF X, M, PTF v) K ↔ pm_Run d 305 141 [vA 234, vI l1, vI l2, vI l3, vI l4, vI 0, PU, PU, PU] [] (GF X, M, PTF v) K := by
  refine (px_go (by decide +kernel : pm_fe 305 138 = some (.iconst 0, 1)) rfl).trans ?_
  refine (px_go (by decide +kernel : pm_fe 305 139 = some (.istore 5, 2)) rfl).trans ?_
  exact Iff.rfl
theorem r305_141 {d : Nat} {X : Nat × (Nat → Int)} {v : Nat → Int} {M : PH} {K : PV → PS → Prop} {l1 l2 l3 l4 l5 : Int} (h1 : 0 ≤ (M 234 13)) (h2 : (M 234 13) < 2) (h3 : inR l5) (h4 : inR (M 237 (M 234 13).toNat)) : pm_Run d 305 141 [vA 234, vI l1, vI l2, vI l3, vI l4, vI l5, PU, PU, PU] [] (GF X, M, PTF v) K ↔ if M 237 (M 234 13).toNat ≤ l5 then pm_Run d 305 237 [vA 234, vI l1, vI l2, vI l3, vI l4, vI l5, PU, PU, PU] [] (GF X, M, PTF v) K else pm_Run d 305 155 [vA 234, vI l1, vI l2, vI l3, vI l4, vI l5, PU, PU, PU] [] (GF X, M, PTF v) K := by
  refine (px_go (by decide +kernel : pm_fe 305 141 = some (.iload 5, 2)) rfl).trans ?_
  refine (px_go (by decide +kernel : pm_fe 305 143 = some (.aload_n 0, 1)) rfl).trans ?_
  refine (ry_get2 (idx := 57) (ci := 12) (k := 15) (by decide +kernel : 234 < 283 ∧ SHF 234 = (12, 76)) (ptf_l (a := 234) (k := 15) (n := 237) (by decide +kernel)) (by decide +kernel)).trans ?_
  refine (px_go (by decide +kernel : pm_fe 305 147 = some (.aload_n 0, 1)) rfl).trans ?_
  refine (ry_get0 (idx := 51) (ci := 12) (k := 13) (by decide +kernel : 234 < 283 ∧ SHF 234 = (12, 76)) (by decide +kernel)).trans ?_
  refine (ry_iald (by decide +kernel : 237 < 283 ∧ SHF 237 = (100, 2)) h1 h2 (by decide +kernel)).trans ?_
  refine (ry_ic_ge (off := 85) (tgt := 237) h3 h4 (by decide +kernel)).trans ?_
  exact Iff.rfl
theorem r305_155 {d : Nat} {X : Nat × (Nat → Int)} {v : Nat → Int} {M : PH} {K : PV → PS → Prop} {l1 l2 l3 l4 l5 : Int} (h1 : 0 ≤ (2 + (2 * l5))) (h2 : (2 + (2 * l5)) < 1800) (h3 : 0 ≤ (3 + l5)) (h4 : (3 + l5) < 66) : pm_Run d 305 155 [vA 234, vI l1, vI l2, vI l3, vI l4, vI l5, PU, PU, PU] [] (GF X, M, PTF v) K ↔ pm_Run d 305 175 [vA 234, vI l1, vI l2, vI l3, vI l4, vI l5, PU, PU, PU] [] (GF X, pm_sa M 271 (pm_up (M 271) (3 + l5).toNat (M 235 (2 + (2 * l5)).toNat)), PTF v) K := by
  refine (px_go (by decide +kernel : pm_fe 305 155 = some (.aload_n 0, 1)) rfl).trans ?_
  refine (ry_get2 (idx := 180) (ci := 12) (k := 55) (by decide +kernel : 234 < 283 ∧ SHF 234 = (12, 76)) (ptf_l (a := 234) (k := 55) (n := 271) (by decide +kernel)) (by decide +kernel)).trans ?_
  refine (px_go (by decide +kernel : pm_fe 305 159 = some (.iconst 3, 1)) rfl).trans ?_
  refine (px_go (by decide +kernel : pm_fe 305 160 = some (.iload 5, 2)) rfl).trans ?_
  refine (px_go (by decide +kernel : pm_fe 305 162 = some (.iadd, 1)) rfl).trans ?_
  refine (px_go (by decide +kernel : pm_fe 305 163 = some (.aload_n 0, 1)) rfl).trans ?_
  refine (ry_get2 (idx := 7) (ci := 12) (k := 0) (by decide +kernel : 234 < 283 ∧ SHF 234 = (12, 76)) (ptf_l (a := 234) (k := 0) (n := 235) (by decide +kernel)) (by decide +kernel)).trans ?_
  refine (px_go (by decide +kernel : pm_fe 305 167 = some (.iconst 2, 1)) rfl).trans ?_
  refine (px_go (by decide +kernel : pm_fe 305 168 = some (.iconst 2, 1)) rfl).trans ?_
  refine (px_go (by decide +kernel : pm_fe 305 169 = some (.iload 5, 2)) rfl).trans ?_
  refine (px_go (by decide +kernel : pm_fe 305 171 = some (.imul, 1)) rfl).trans ?_
  refine (px_go (by decide +kernel : pm_fe 305 172 = some (.iadd, 1)) rfl).trans ?_
  refine (ry_iald (by decide +kernel : 235 < 283 ∧ SHF 235 = (100, 1800)) h1 h2 (by decide +kernel)).trans ?_
  refine (ry_iast (by decide +kernel : 271 < 283 ∧ SHF 271 = (100, 66)) h3 h4 (by decide +kernel)).trans ?_
  exact Iff.rfl
theorem r305_175 {d : Nat} {X : Nat × (Nat → Int)} {v : Nat → Int} {M : PH} {K : PV → PS → Prop} {l1 l2 l3 l4 l5 : Int} (h1 : 0 ≤ (3 + (2 * l5))) (h2 : (3 + (2 * l5)) < 1800) (h3 : 0 ≤ (3 + l5)) (h4 : (3 + l5) < 66) : pm_Run d 305 175 [vA 234, vI l1, vI l2, vI l3, vI l4, vI l5, PU, PU, PU] [] (GF X, M, PTF v) K ↔ pm_Run d 305 195 [vA 234, vI l1, vI l2, vI l3, vI l4, vI l5, PU, PU, PU] [] (GF X, pm_sa M 272 (pm_up (M 272) (3 + l5).toNat (M 235 (3 + (2 * l5)).toNat)), PTF v) K := by
  refine (px_go (by decide +kernel : pm_fe 305 175 = some (.aload_n 0, 1)) rfl).trans ?_
  refine (ry_get2 (idx := 183) (ci := 12) (k := 56) (by decide +kernel : 234 < 283 ∧ SHF 234 = (12, 76)) (ptf_l (a := 234) (k := 56) (n := 272) (by decide +kernel)) (by decide +kernel)).trans ?_
  refine (px_go (by decide +kernel : pm_fe 305 179 = some (.iconst 3, 1)) rfl).trans ?_
  refine (px_go (by decide +kernel : pm_fe 305 180 = some (.iload 5, 2)) rfl).trans ?_
  refine (px_go (by decide +kernel : pm_fe 305 182 = some (.iadd, 1)) rfl).trans ?_
  refine (px_go (by decide +kernel : pm_fe 305 183 = some (.aload_n 0, 1)) rfl).trans ?_
  refine (ry_get2 (idx := 7) (ci := 12) (k := 0) (by decide +kernel : 234 < 283 ∧ SHF 234 = (12, 76)) (ptf_l (a := 234) (k := 0) (n := 235) (by decide +kernel)) (by decide +kernel)).trans ?_
  refine (px_go (by decide +kernel : pm_fe 305 187 = some (.iconst 3, 1)) rfl).trans ?_
  refine (px_go (by decide +kernel : pm_fe 305 188 = some (.iconst 2, 1)) rfl).trans ?_
  refine (px_go (by decide +kernel : pm_fe 305 189 = some (.iload 5, 2)) rfl).trans ?_
  refine (px_go (by decide +kernel : pm_fe 305 191 = some (.imul, 1)) rfl).trans ?_
  refine (px_go (by decide +kernel : pm_fe 305 192 = some (.iadd, 1)) rfl).trans ?_
  refine (ry_iald (by decide +kernel : 235 < 283 ∧ SHF 235 = (100, 1800)) h1 h2 (by decide +kernel)).trans ?_
  refine (ry_iast (by decide +kernel : 272 < 283 ∧ SHF 272 = (100, 66)) h3 h4 (by decide +kernel)).trans ?_
  exact Iff.rfl
theorem r305_195 {d : Nat} {X : Nat × (Nat → Int)} {v : Nat → Int} {M : PH} {K : PV → PS → Prop} {l1 l2 l3 l4 l5 : Int} (h1 : 0 ≤ (2 + (2 * l5))) (h2 : (2 + (2 * l5)) < 1800) : pm_Run d 305 195 [vA 234, vI l1, vI l2, vI l3, vI l4, vI l5, PU, PU, PU] [] (GF X, M, PTF v) K ↔ pm_Call d 227 [vA 234, vI (M 235 (2 + (2 * l5)).toNat)] (GF X, M, PTF v) (fun r9 S1 => pm_Run d 305 210 [vA 234, vI l1, vI l2, vI l3, vI l4, vI l5, PU, PU, PU] (pm_push r9 []) S1 K) := by
  refine (px_go (by decide +kernel : pm_fe 305 195 = some (.aload_n 0, 1)) rfl).trans ?_
  refine (px_go (by decide +kernel : pm_fe 305 196 = some (.aload_n 0, 1)) rfl).trans ?_
  refine (ry_get2 (idx := 7) (ci := 12) (k := 0) (by decide +kernel : 234 < 283 ∧ SHF 234 = (12, 76)) (ptf_l (a := 234) (k := 0) (n := 235) (by decide +kernel)) (by decide +kernel)).trans ?_
  refine (px_go (by decide +kernel : pm_fe 305 200 = some (.iconst 2, 1)) rfl).trans ?_
  refine (px_go (by decide +kernel : pm_fe 305 201 = some (.iconst 2, 1)) rfl).trans ?_
  refine (px_go (by decide +kernel : pm_fe 305 202 = some (.iload 5, 2)) rfl).trans ?_
  refine (px_go (by decide +kernel : pm_fe 305 204 = some (.imul, 1)) rfl).trans ?_
  refine (px_go (by decide +kernel : pm_fe 305 205 = some (.iadd, 1)) rfl).trans ?_
  refine (ry_iald (by decide +kernel : 235 < 283 ∧ SHF 235 = (100, 1800)) h1 h2 (by decide +kernel)).trans ?_
  refine (ry_v1 (idx := 556) (m' := 227) (ci := 12) (by decide +kernel : 234 < 283 ∧ SHF 234 = (12, 76)) (by simp [pm_wl_n, pm_wl_c, pm_w] : pm_wl [] ≤ 8) (by decide +kernel)).trans ?_
  exact Iff.rfl
theorem r305_210 {d : Nat} {X : Nat × (Nat → Int)} {v : Nat → Int} {M : PH} {K : PV → PS → Prop} {l1 l2 l3 l4 l5 s0 : Int} (h1 : inR s0) : pm_Run d 305 210 [vA 234, vI l1, vI l2, vI l3, vI l4, vI l5, PU, PU, PU] [vI s0] (GF X, M, PTF v) K ↔ if s0 = 0 then pm_Run d 305 229 [vA 234, vI l1, vI l2, vI l3, vI l4, vI l5, PU, PU, PU] [] (GF X, M, PTF v) K else pm_Run d 305 213 [vA 234, vI l1, vI l2, vI l3, vI l4, vI l5, PU, PU, PU] [] (GF X, M, PTF v) K := by
  refine (ry_if_eq (off := 19) (tgt := 229) h1 (by decide +kernel)).trans ?_
  exact Iff.rfl
theorem r305_213 {d : Nat} {X : Nat × (Nat → Int)} {v : Nat → Int} {M : PH} {K : PV → PS → Prop} {l1 l2 l3 l4 l5 : Int} (h1 : 0 ≤ (3 + (2 * l5))) (h2 : (3 + (2 * l5)) < 1800) (h3 : inR (M 235 (3 + (2 * l5)).toNat)) : pm_Run d 305 213 [vA 234, vI l1, vI l2, vI l3, vI l4, vI l5, PU, PU, PU] [] (GF X, M, PTF v) K ↔ if M 235 (3 + (2 * l5)).toNat ≤ 9 then pm_Run d 305 231 [vA 234, vI l1, vI l2, vI l3, vI l4, vI l5, PU, PU, PU] [] (GF X, M, PTF v) K else pm_Run d 305 229 [vA 234, vI l1, vI l2, vI l3, vI l4, vI l5, PU, PU, PU] [] (GF X, M, PTF v) K := by
  refine (px_go (by decide +kernel : pm_fe 305 213 = some (.aload_n 0, 1)) rfl).trans ?_
  refine (ry_get2 (idx := 7) (ci := 12) (k := 0) (by decide +kernel : 234 < 283 ∧ SHF 234 = (12, 76)) (ptf_l (a := 234) (k := 0) (n := 235) (by decide +kernel)) (by decide +kernel)).trans ?_
  refine (px_go (by decide +kernel : pm_fe 305 217 = some (.iconst 3, 1)) rfl).trans ?_
  refine (px_go (by decide +kernel : pm_fe 305 218 = some (.iconst 2, 1)) rfl).trans ?_
  refine (px_go (by decide +kernel : pm_fe 305 219 = some (.iload 5, 2)) rfl).trans ?_
  refine (px_go (by decide +kernel : pm_fe 305 221 = some (.imul, 1)) rfl).trans ?_
  refine (px_go (by decide +kernel : pm_fe 305 222 = some (.iadd, 1)) rfl).trans ?_
  refine (ry_iald (by decide +kernel : 235 < 283 ∧ SHF 235 = (100, 1800)) h1 h2 (by decide +kernel)).trans ?_
  refine (px_go (by decide +kernel : pm_fe 305 224 = some (.bipush 9, 2)) rfl).trans ?_
  refine (ry_ic_le (off := 5) (tgt := 231) h3 (by decide : (-2147483648 ≤ (9 : Int) ∧ (9 : Int) < 2147483648)) (by decide +kernel)).trans ?_
  exact Iff.rfl
theorem r305_229 {d : Nat} {X : Nat × (Nat → Int)} {v : Nat → Int} {M : PH} {K : PV → PS → Prop} {l1 l2 l3 l4 l5 : Int} : pm_Run d 305 229 [vA 234, vI l1, vI l2, vI l3, vI l4, vI l5, PU, PU, PU] [] (GF X, M, PTF v) K ↔ K (vI 0) (GF X, M, PTF v) := by
  refine (px_go (by decide +kernel : pm_fe 305 229 = some (.iconst 0, 1)) rfl).trans ?_
  refine (px_rz (by decide +kernel)).trans ((and_iff_right (by decide : (0 : Int) = (0 : Int) ∨ (0 : Int) = (1 : Int))).trans ?_)
  exact Iff.rfl
theorem r305_231 {d : Nat} {X : Nat × (Nat → Int)} {v : Nat → Int} {M : PH} {K : PV → PS → Prop} {l1 l2 l3 l4 l5 : Int} : pm_Run d 305 231 [vA 234, vI l1, vI l2, vI l3, vI l4, vI l5, PU, PU, PU] [] (GF X, M, PTF v) K ↔ pm_Run d 305 141 [vA 234, vI l1, vI l2, vI l3, vI l4, vI (l5 + 1), PU, PU, PU] [] (GF X, M, PTF v) K := by
  refine (px_go (by decide +kernel : pm_fe 305 231 = some (.iinc 5 1, 3)) rfl).trans ?_
  refine (px_goto (off := (-93)) (tgt := 141) (by decide +kernel)).trans ?_
  exact Iff.rfl
theorem r305_237 {d : Nat} {X : Nat × (Nat → Int)} {v : Nat → Int} {M : PH} {K : PV → PS → Prop} {l1 l2 l3 l4 l5 : Int} : pm_Run d 305 237 [vA 234, vI l1, vI l2, vI l3, vI l4, vI l5, PU, PU, PU] [] (GF X, M, PTF v) K ↔ pm_Run d 305 240 [vA 234, vI l1, vI l2, vI l3, vI l4, vI 0, PU, PU, PU] [] (GF X, M, PTF v) K := by
  refine (px_go (by decide +kernel : pm_fe 305 237 = some (.iconst 0, 1)) rfl).trans ?_
  refine (px_go (by decide +kernel : pm_fe 305 238 = some (.istore 5, 2)) rfl).trans ?_
  exact Iff.rfl
theorem r305_240 {d : Nat} {X : Nat × (Nat → Int)} {v : Nat → Int} {M : PH} {K : PV → PS → Prop} {l1 l2 l3 l4 l5 : Int} {l6 l7 l8 : PV} (h1 : 0 ≤ (M 234 13)) (h2 : (M 234 13) < 2) (h3 : inR l5) (h4 : inR (M 241 (M 234 13).toNat)) : pm_Run d 305 240 [vA 234, vI l1, vI l2, vI l3, vI l4, vI l5, l6, l7, l8] [] (GF X, M, PTF v) K ↔ if M 241 (M 234 13).toNat ≤ l5 then pm_Run d 305 405 [vA 234, vI l1, vI l2, vI l3, vI l4, vI l5, l6, l7, l8] [] (GF X, M, PTF v) K else pm_Run d 305 254 [vA 234, vI l1, vI l2, vI l3, vI l4, vI l5, l6, l7, l8] [] (GF X, M, PTF v) K := by
  refine (px_go (by decide +kernel : pm_fe 305 240 = some (.iload 5, 2)) rfl).trans ?_
  refine (px_go (by decide +kernel : pm_fe 305 242 = some (.aload_n 0, 1)) rfl).trans ?_
  refine (ry_get2 (idx := 69) (ci := 12) (k := 19) (by decide +kernel : 234 < 283 ∧ SHF 234 = (12, 76)) (ptf_l (a := 234) (k := 19) (n := 241) (by decide +kernel)) (by decide +kernel)).trans ?_
  refine (px_go (by decide +kernel : pm_fe 305 246 = some (.aload_n 0, 1)) rfl).trans ?_
  refine (ry_get0 (idx := 51) (ci := 12) (k := 13) (by decide +kernel : 234 < 283 ∧ SHF 234 = (12, 76)) (by decide +kernel)).trans ?_
  refine (ry_iald (by decide +kernel : 241 < 283 ∧ SHF 241 = (100, 2)) h1 h2 (by decide +kernel)).trans ?_
  refine (ry_ic_ge (off := 154) (tgt := 405) h3 h4 (by decide +kernel)).trans ?_
  exact Iff.rfl
theorem r305_254 {d : Nat} {X : Nat × (Nat → Int)} {v : Nat → Int} {M : PH} {K : PV → PS → Prop} {l1 l2 l3 l4 l5 : Int} {l6 l7 l8 : PV} : pm_Run d 305 254 [vA 234, vI l1, vI l2, vI l3, vI l4, vI l5, l6, l7, l8] [] (GF X, M, PTF v) K ↔ pm_Call d 304 [vA 234, vI (l2 + (l3 * l5))] (GF X, M, PTF v) (fun r9 S1 => pm_Run d 305 277 [vA 234, vI l1, vI l2, vI l3, vI l4, vI l5, vI (l2 + (l3 * l5)), l7, l8] (pm_push r9 [vI (8 + l5), vA 273]) S1 K) := by
  refine (px_go (by decide +kernel : pm_fe 305 254 = some (.iload_n 2, 1)) rfl).trans ?_
  refine (px_go (by decide +kernel : pm_fe 305 255 = some (.iload_n 3, 1)) rfl).trans ?_
  refine (px_go (by decide +kernel : pm_fe 305 256 = some (.iload 5, 2)) rfl).trans ?_
  refine (px_go (by decide +kernel : pm_fe 305 258 = some (.imul, 1)) rfl).trans ?_
  refine (px_go (by decide +kernel : pm_fe 305 259 = some (.iadd, 1)) rfl).trans ?_
  refine (px_go (by decide +kernel : pm_fe 305 260 = some (.istore 6, 2)) rfl).trans ?_
  refine (px_go (by decide +kernel : pm_fe 305 262 = some (.aload_n 0, 1)) rfl).trans ?_
  refine (ry_get2 (idx := 186) (ci := 12) (k := 57) (by decide +kernel : 234 < 283 ∧ SHF 234 = (12, 76)) (ptf_l (a := 234) (k := 57) (n := 273) (by decide +kernel)) (by decide +kernel)).trans ?_
  refine (px_go (by decide +kernel : pm_fe 305 266 = some (.bipush 8, 2)) rfl).trans ?_
  refine (px_go (by decide +kernel : pm_fe 305 268 = some (.iload 5, 2)) rfl).trans ?_
  refine (px_go (by decide +kernel : pm_fe 305 270 = some (.iadd, 1)) rfl).trans ?_
  refine (px_go (by decide +kernel : pm_fe 305 271 = some (.aload_n 0, 1)) rfl).trans ?_
  refine (px_go (by decide +kernel : pm_fe 305 272 = some (.iload 6, 2)) rfl).trans ?_
  refine (ry_v1 (idx := 620) (m' := 304) (ci := 12) (by decide +kernel : 234 < 283 ∧ SHF 234 = (12, 76)) (by simp [pm_wl_n, pm_wl_c, pm_w] : pm_wl [vI (8 + l5), vA 273] ≤ 8) (by decide +kernel)).trans ?_
  exact Iff.rfl
theorem r305_277 {d : Nat} {X : Nat × (Nat → Int)} {v : Nat → Int} {M : PH} {K : PV → PS → Prop} {l1 l2 l3 l4 l5 l6 s0 s1 : Int} {l7 l8 : PV} (h1 : 0 ≤ s1) (h2 : s1 < 176) : pm_Run d 305 277 [vA 234, vI l1, vI l2, vI l3, vI l4, vI l5, vI l6, l7, l8] [vI s0, vI s1, vA 273] (GF X, M, PTF v) K ↔ pm_Run d 305 278 [vA 234, vI l1, vI l2, vI l3, vI l4, vI l5, vI l6, l7, l8] [] (GF X, pm_sa M 273 (pm_up (M 273) s1.toNat s0), PTF v) K := by
  refine (ry_iast (by decide +kernel : 273 < 283 ∧ SHF 273 = (100, 176)) h1 h2 (by decide +kernel)).trans ?_
  exact Iff.rfl
theorem r305_278 {d : Nat} {X : Nat × (Nat → Int)} {v : Nat → Int} {M : PH} {K : PV → PS → Prop} {l1 l2 l3 l4 l5 l6 : Int} {l7 l8 : PV} : pm_Run d 305 278 [vA 234, vI l1, vI l2, vI l3, vI l4, vI l5, vI l6, l7, l8] [] (GF X, M, PTF v) K ↔ pm_Call d 304 [vA 234, vI l6] (GF X, M, PTF v) (fun r9 S1 => pm_Run d 305 284 [vA 234, vI l1, vI l2, vI l3, vI l4, vI l5, vI l6, l7, l8] (pm_push r9 []) S1 K) := by
  refine (px_go (by decide +kernel : pm_fe 305 278 = some (.aload_n 0, 1)) rfl).trans ?_
  refine (px_go (by decide +kernel : pm_fe 305 279 = some (.iload 6, 2)) rfl).trans ?_
  refine (ry_v1 (idx := 620) (m' := 304) (ci := 12) (by decide +kernel : 234 < 283 ∧ SHF 234 = (12, 76)) (by simp [pm_wl_n, pm_wl_c, pm_w] : pm_wl [] ≤ 8) (by decide +kernel)).trans ?_
  exact Iff.rfl
theorem r305_284 {d : Nat} {X : Nat × (Nat → Int)} {v : Nat → Int} {M : PH} {K : PV → PS → Prop} {l1 l2 l3 l4 l5 l6 s0 : Int} {l7 l8 : PV} (h1 : inR s0) : pm_Run d 305 284 [vA 234, vI l1, vI l2, vI l3, vI l4, vI l5, vI l6, l7, l8] [vI s0] (GF X, M, PTF v) K ↔ if s0 ≤ 9999 then pm_Run d 305 292 [vA 234, vI l1, vI l2, vI l3, vI l4, vI l5, vI l6, l7, l8] [] (GF X, M, PTF v) K else pm_Run d 305 290 [vA 234, vI l1, vI l2, vI l3, vI l4, vI l5, vI l6, l7, l8] [] (GF X, M, PTF v) K := by
  refine (px_go (by decide +kernel : pm_fe 305 284 = some (.sipush 9999, 3)) rfl).trans ?_
  refine (ry_ic_le (off := 5) (tgt := 292) h1 (by decide : (-2147483648 ≤ (9999 : Int) ∧ (9999 : Int) < 2147483648)) (by decide +kernel)).trans ?_
  exact Iff.rfl
theorem r305_290 {d : Nat} {X : Nat × (Nat → Int)} {v : Nat → Int} {M : PH} {K : PV → PS → Prop} {l1 l2 l3 l4 l5 l6 : Int} {l7 l8 : PV} : pm_Run d 305 290 [vA 234, vI l1, vI l2, vI l3, vI l4, vI l5, vI l6, l7, l8] [] (GF X, M, PTF v) K ↔ K (vI 0) (GF X, M, PTF v) := by
  refine (px_go (by decide +kernel : pm_fe 305 290 = some (.iconst 0, 1)) rfl).trans ?_
  refine (px_rz (by decide +kernel)).trans ((and_iff_right (by decide : (0 : Int) = (0 : Int) ∨ (0 : Int) = (1 : Int))).trans ?_)
  exact Iff.rfl
theorem r305_292 {d : Nat} {X : Nat × (Nat → Int)} {v : Nat → Int} {M : PH} {K : PV → PS → Prop} {l1 l2 l3 l4 l5 l6 : Int} {l7 l8 : PV} : pm_Run d 305 292 [vA 234, vI l1, vI l2, vI l3, vI l4, vI l5, vI l6, l7, l8] [] (GF X, M, PTF v) K ↔ pm_Run d 305 295 [vA 234, vI l1, vI l2, vI l3, vI l4, vI l5, vI l6, vI 0, l8] [] (GF X, M, PTF v) K := by
  refine (px_go (by decide +kernel : pm_fe 305 292 = some (.iconst 0, 1)) rfl).trans ?_
  refine (px_go (by decide +kernel : pm_fe 305 293 = some (.istore 7, 2)) rfl).trans ?_
  exact Iff.rfl
theorem r305_295 {d : Nat} {X : Nat × (Nat → Int)} {v : Nat → Int} {M : PH} {K : PV → PS → Prop} {l1 l2 l3 l4 l5 l6 l7 : Int} {l8 : PV} (h1 : 0 ≤ (M 234 13)) (h2 : (M 234 13) < 2) (h3 : inR l7) (h4 : inR (M 237 (M 234 13).toNat)) : pm_Run d 305 295 [vA 234, vI l1, vI l2, vI l3, vI l4, vI l5, vI l6, vI l7, l8] [] (GF X, M, PTF v) K ↔ if M 237 (M 234 13).toNat ≤ l7 then pm_Run d 305 399 [vA 234, vI l1, vI l2, vI l3, vI l4, vI l5, vI l6, vI l7, l8] [] (GF X, M, PTF v) K else pm_Run d 305 309 [vA 234, vI l1, vI l2, vI l3, vI l4, vI l5, vI l6, vI l7, l8] [] (GF X, M, PTF v) K := by
  refine (px_go (by decide +kernel : pm_fe 305 295 = some (.iload 7, 2)) rfl).trans ?_
  refine (px_go (by decide +kernel : pm_fe 305 297 = some (.aload_n 0, 1)) rfl).trans ?_
  refine (ry_get2 (idx := 57) (ci := 12) (k := 15) (by decide +kernel : 234 < 283 ∧ SHF 234 = (12, 76)) (ptf_l (a := 234) (k := 15) (n := 237) (by decide +kernel)) (by decide +kernel)).trans ?_
  refine (px_go (by decide +kernel : pm_fe 305 301 = some (.aload_n 0, 1)) rfl).trans ?_
  refine (ry_get0 (idx := 51) (ci := 12) (k := 13) (by decide +kernel : 234 < 283 ∧ SHF 234 = (12, 76)) (by decide +kernel)).trans ?_
  refine (ry_iald (by decide +kernel : 237 < 283 ∧ SHF 237 = (100, 2)) h1 h2 (by decide +kernel)).trans ?_
  refine (ry_ic_ge (off := 93) (tgt := 399) h3 h4 (by decide +kernel)).trans ?_
  exact Iff.rfl
theorem r305_309 {d : Nat} {X : Nat × (Nat → Int)} {v : Nat → Int} {M : PH} {K : PV → PS → Prop} {l1 l2 l3 l4 l5 l6 l7 : Int} {l8 : PV} (h1 : 0 ≤ ((l6 + 2) + (3 * l7))) (h2 : ((l6 + 2) + (3 * l7)) < 1800) (h3 : 0 ≤ ((24 + (3 * l5)) + l7)) (h4 : ((24 + (3 * l5)) + l7) < 528) : pm_Run d 305 309 [vA 234, vI l1, vI l2, vI l3, vI l4, vI l5, vI l6, vI l7, l8] [] (GF X, M, PTF v) K ↔ pm_Run d 305 342 [vA 234, vI l1, vI l2, vI l3, vI l4, vI l5, vI l6, vI l7, vI ((l6 + 2) + (3 * l7))] [] (GF X, pm_sa M 274 (pm_up (M 274) ((24 + (3 * l5)) + l7).toNat (M 235 ((l6 + 2) + (3 * l7)).toNat)), PTF v) K := by
  refine (px_go (by decide +kernel : pm_fe 305 309 = some (.iload 6, 2)) rfl).trans ?_
  refine (px_go (by decide +kernel : pm_fe 305 311 = some (.iconst 2, 1)) rfl).trans ?_
  refine (px_go (by decide +kernel : pm_fe 305 312 = some (.iadd, 1)) rfl).trans ?_
  refine (px_go (by decide +kernel : pm_fe 305 313 = some (.iconst 3, 1)) rfl).trans ?_
  refine (px_go (by decide +kernel : pm_fe 305 314 = some (.iload 7, 2)) rfl).trans ?_
  refine (px_go (by decide +kernel : pm_fe 305 316 = some (.imul, 1)) rfl).trans ?_
  refine (px_go (by decide +kernel : pm_fe 305 317 = some (.iadd, 1)) rfl).trans ?_
  refine (px_go (by decide +kernel : pm_fe 305 318 = some (.istore 8, 2)) rfl).trans ?_
  refine (px_go (by decide +kernel : pm_fe 305 320 = some (.aload_n 0, 1)) rfl).trans ?_
  refine (ry_get2 (idx := 189) (ci := 12) (k := 58) (by decide +kernel : 234 < 283 ∧ SHF 234 = (12, 76)) (ptf_l (a := 234) (k := 58) (n := 274) (by decide +kernel)) (by decide +kernel)).trans ?_
  refine (px_go (by decide +kernel : pm_fe 305 324 = some (.bipush 24, 2)) rfl).trans ?_
  refine (px_go (by decide +kernel : pm_fe 305 326 = some (.iconst 3, 1)) rfl).trans ?_
  refine (px_go (by decide +kernel : pm_fe 305 327 = some (.iload 5, 2)) rfl).trans ?_
  refine (px_go (by decide +kernel : pm_fe 305 329 = some (.imul, 1)) rfl).trans ?_
  refine (px_go (by decide +kernel : pm_fe 305 330 = some (.iadd, 1)) rfl).trans ?_
  refine (px_go (by decide +kernel : pm_fe 305 331 = some (.iload 7, 2)) rfl).trans ?_
  refine (px_go (by decide +kernel : pm_fe 305 333 = some (.iadd, 1)) rfl).trans ?_
  refine (px_go (by decide +kernel : pm_fe 305 334 = some (.aload_n 0, 1)) rfl).trans ?_
  refine (ry_get2 (idx := 7) (ci := 12) (k := 0) (by decide +kernel : 234 < 283 ∧ SHF 234 = (12, 76)) (ptf_l (a := 234) (k := 0) (n := 235) (by decide +kernel)) (by decide +kernel)).trans ?_
  refine (px_go (by decide +kernel : pm_fe 305 338 = some (.iload 8, 2)) rfl).trans ?_
  refine (ry_iald (by decide +kernel : 235 < 283 ∧ SHF 235 = (100, 1800)) h1 h2 (by decide +kernel)).trans ?_
  refine (ry_iast (by decide +kernel : 274 < 283 ∧ SHF 274 = (100, 528)) h3 h4 (by decide +kernel)).trans ?_
  exact Iff.rfl
theorem r305_342 {d : Nat} {X : Nat × (Nat → Int)} {v : Nat → Int} {M : PH} {K : PV → PS → Prop} {l1 l2 l3 l4 l5 l6 l7 l8 : Int} : pm_Run d 305 342 [vA 234, vI l1, vI l2, vI l3, vI l4, vI l5, vI l6, vI l7, vI l8] [] (GF X, M, PTF v) K ↔ pm_Call d 304 [vA 234, vI (l8 + 1)] (GF X, M, PTF v) (fun r9 S1 => pm_Run d 305 364 [vA 234, vI l1, vI l2, vI l3, vI l4, vI l5, vI l6, vI l7, vI l8] (pm_push r9 [vI ((24 + (3 * l5)) + l7), vA 275]) S1 K) := by
  refine (px_go (by decide +kernel : pm_fe 305 342 = some (.aload_n 0, 1)) rfl).trans ?_
  refine (ry_get2 (idx := 192) (ci := 12) (k := 59) (by decide +kernel : 234 < 283 ∧ SHF 234 = (12, 76)) (ptf_l (a := 234) (k := 59) (n := 275) (by decide +kernel)) (by decide +kernel)).trans ?_
  refine (px_go (by decide +kernel : pm_fe 305 346 = some (.bipush 24, 2)) rfl).trans ?_
  refine (px_go (by decide +kernel : pm_fe 305 348 = some (.iconst 3, 1)) rfl).trans ?_
  refine (px_go (by decide +kernel : pm_fe 305 349 = some (.iload 5, 2)) rfl).trans ?_
  refine (px_go (by decide +kernel : pm_fe 305 351 = some (.imul, 1)) rfl).trans ?_
  refine (px_go (by decide +kernel : pm_fe 305 352 = some (.iadd, 1)) rfl).trans ?_
  refine (px_go (by decide +kernel : pm_fe 305 353 = some (.iload 7, 2)) rfl).trans ?_
  refine (px_go (by decide +kernel : pm_fe 305 355 = some (.iadd, 1)) rfl).trans ?_
  refine (px_go (by decide +kernel : pm_fe 305 356 = some (.aload_n 0, 1)) rfl).trans ?_
  refine (px_go (by decide +kernel : pm_fe 305 357 = some (.iload 8, 2)) rfl).trans ?_
  refine (px_go (by decide +kernel : pm_fe 305 359 = some (.iconst 1, 1)) rfl).trans ?_
  refine (px_go (by decide +kernel : pm_fe 305 360 = some (.iadd, 1)) rfl).trans ?_
  refine (ry_v1 (idx := 620) (m' := 304) (ci := 12) (by decide +kernel : 234 < 283 ∧ SHF 234 = (12, 76)) (by simp [pm_wl_n, pm_wl_c, pm_w] : pm_wl [vI ((24 + (3 * l5)) + l7), vA 275] ≤ 8) (by decide +kernel)).trans ?_
  exact Iff.rfl
theorem r305_364 {d : Nat} {X : Nat × (Nat → Int)} {v : Nat → Int} {M : PH} {K : PV → PS → Prop} {l1 l2 l3 l4 l5 l6 l7 l8 s0 s1 : Int} (h1 : 0 ≤ s1) (h2 : s1 < 528) : pm_Run d 305 364 [vA 234, vI l1, vI l2, vI l3, vI l4, vI l5, vI l6, vI l7, vI l8] [vI s0, vI s1, vA 275] (GF X, M, PTF v) K ↔ pm_Run d 305 365 [vA 234, vI l1, vI l2, vI l3, vI l4, vI l5, vI l6, vI l7, vI l8] [] (GF X, pm_sa M 275 (pm_up (M 275) s1.toNat s0), PTF v) K := by
  refine (ry_iast (by decide +kernel : 275 < 283 ∧ SHF 275 = (100, 528)) h1 h2 (by decide +kernel)).trans ?_
  exact Iff.rfl
theorem r305_365 {d : Nat} {X : Nat × (Nat → Int)} {v : Nat → Int} {M : PH} {K : PV → PS → Prop} {l1 l2 l3 l4 l5 l6 l7 l8 : Int} (h1 : 0 ≤ l8) (h2 : l8 < 1800) (h3 : inR (M 235 l8.toNat)) : pm_Run d 305 365 [vA 234, vI l1, vI l2, vI l3, vI l4, vI l5, vI l6, vI l7, vI l8] [] (GF X, M, PTF v) K ↔ if 20 < M 235 l8.toNat then pm_Run d 305 391 [vA 234, vI l1, vI l2, vI l3, vI l4, vI l5, vI l6, vI l7, vI l8] [] (GF X, M, PTF v) K else pm_Run d 305 377 [vA 234, vI l1, vI l2, vI l3, vI l4, vI l5, vI l6, vI l7, vI l8] [] (GF X, M, PTF v) K := by
  refine (px_go (by decide +kernel : pm_fe 305 365 = some (.aload_n 0, 1)) rfl).trans ?_
  refine (ry_get2 (idx := 7) (ci := 12) (k := 0) (by decide +kernel : 234 < 283 ∧ SHF 234 = (12, 76)) (ptf_l (a := 234) (k := 0) (n := 235) (by decide +kernel)) (by decide +kernel)).trans ?_
  refine (px_go (by decide +kernel : pm_fe 305 369 = some (.iload 8, 2)) rfl).trans ?_
  refine (ry_iald (by decide +kernel : 235 < 283 ∧ SHF 235 = (100, 1800)) h1 h2 (by decide +kernel)).trans ?_
  refine (px_go (by decide +kernel : pm_fe 305 372 = some (.bipush 20, 2)) rfl).trans ?_
  refine (ry_ic_gt (off := 17) (tgt := 391) h3 (by decide : (-2147483648 ≤ (20 : Int) ∧ (20 : Int) < 2147483648)) (by decide +kernel)).trans ?_
  exact Iff.rfl
theorem r305_377 {d : Nat} {X : Nat × (Nat → Int)} {v : Nat → Int} {M : PH} {K : PV → PS → Prop} {l1 l2 l3 l4 l5 l6 l7 l8 : Int} : pm_Run d 305 377 [vA 234, vI l1, vI l2, vI l3, vI l4, vI l5, vI l6, vI l7, vI l8] [] (GF X, M, PTF v) K ↔ pm_Call d 304 [vA 234, vI (l8 + 1)] (GF X, M, PTF v) (fun r9 S1 => pm_Run d 305 385 [vA 234, vI l1, vI l2, vI l3, vI l4, vI l5, vI l6, vI l7, vI l8] (pm_push r9 []) S1 K) := by
  refine (px_go (by decide +kernel : pm_fe 305 377 = some (.aload_n 0, 1)) rfl).trans ?_
  refine (px_go (by decide +kernel : pm_fe 305 378 = some (.iload 8, 2)) rfl).trans ?_
  refine (px_go (by decide +kernel : pm_fe 305 380 = some (.iconst 1, 1)) rfl).trans ?_
  refine (px_go (by decide +kernel : pm_fe 305 381 = some (.iadd, 1)) rfl).trans ?_
  refine (ry_v1 (idx := 620) (m' := 304) (ci := 12) (by decide +kernel : 234 < 283 ∧ SHF 234 = (12, 76)) (by simp [pm_wl_n, pm_wl_c, pm_w] : pm_wl [] ≤ 8) (by decide +kernel)).trans ?_
  exact Iff.rfl
theorem r305_385 {d : Nat} {X : Nat × (Nat → Int)} {v : Nat → Int} {M : PH} {K : PV → PS → Prop} {l1 l2 l3 l4 l5 l6 l7 l8 s0 : Int} (h1 : inR s0) : pm_Run d 305 385 [vA 234, vI l1, vI l2, vI l3, vI l4, vI l5, vI l6, vI l7, vI l8] [vI s0] (GF X, M, PTF v) K ↔ if s0 ≤ 9999 then pm_Run d 305 393 [vA 234, vI l1, vI l2, vI l3, vI l4, vI l5, vI l6, vI l7, vI l8] [] (GF X, M, PTF v) K else pm_Run d 305 391 [vA 234, vI l1, vI l2, vI l3, vI l4, vI l5, vI l6, vI l7, vI l8] [] (GF X, M, PTF v) K := by
  refine (px_go (by decide +kernel : pm_fe 305 385 = some (.sipush 9999, 3)) rfl).trans ?_
  refine (ry_ic_le (off := 5) (tgt := 393) h1 (by decide : (-2147483648 ≤ (9999 : Int) ∧ (9999 : Int) < 2147483648)) (by decide +kernel)).trans ?_
  exact Iff.rfl
theorem r305_391 {d : Nat} {X : Nat × (Nat → Int)} {v : Nat → Int} {M : PH} {K : PV → PS → Prop} {l1 l2 l3 l4 l5 l6 l7 l8 : Int} : pm_Run d 305 391 [vA 234, vI l1, vI l2, vI l3, vI l4, vI l5, vI l6, vI l7, vI l8] [] (GF X, M, PTF v) K ↔ K (vI 0) (GF X, M, PTF v) := by
  refine (px_go (by decide +kernel : pm_fe 305 391 = some (.iconst 0, 1)) rfl).trans ?_
  refine (px_rz (by decide +kernel)).trans ((and_iff_right (by decide : (0 : Int) = (0 : Int) ∨ (0 : Int) = (1 : Int))).trans ?_)
  exact Iff.rfl
theorem r305_393 {d : Nat} {X : Nat × (Nat → Int)} {v : Nat → Int} {M : PH} {K : PV → PS → Prop} {l1 l2 l3 l4 l5 l6 l7 l8 : Int} : pm_Run d 305 393 [vA 234, vI l1, vI l2, vI l3, vI l4, vI l5, vI l6, vI l7, vI l8] [] (GF X, M, PTF v) K ↔ pm_Run d 305 295 [vA 234, vI l1, vI l2, vI l3, vI l4, vI l5, vI l6, vI (l7 + 1), vI l8] [] (GF X, M, PTF v) K := by
  refine (px_go (by decide +kernel : pm_fe 305 393 = some (.iinc 7 1, 3)) rfl).trans ?_
  refine (px_goto (off := (-101)) (tgt := 295) (by decide +kernel)).trans ?_
  exact Iff.rfl
theorem r305_399 {d : Nat} {X : Nat × (Nat → Int)} {v : Nat → Int} {M : PH} {K : PV → PS → Prop} {l1 l2 l3 l4 l5 l6 l7 : Int} {l8 : PV} : pm_Run d 305 399 [vA 234, vI l1, vI l2, vI l3, vI l4, vI l5, vI l6, vI l7, l8] [] (GF X, M, PTF v) K ↔ pm_Run d 305 240 [vA 234, vI l1, vI l2, vI l3, vI l4, vI (l5 + 1), vI l6, vI l7, l8] [] (GF X, M, PTF v) K := by
  refine (px_go (by decide +kernel : pm_fe 305 399 = some (.iinc 5 1, 3)) rfl).trans ?_
  refine (px_goto (off := (-162)) (tgt := 240) (by decide +kernel)).trans ?_
  exact Iff.rfl
theorem r305_405 {d : Nat} {X : Nat × (Nat → Int)} {v : Nat → Int} {M : PH} {K : PV → PS → Prop} {l1 l2 l3 l4 l5 : Int} {l6 l7 l8 : PV} : pm_Run d 305 405 [vA 234, vI l1, vI l2, vI l3, vI l4, vI l5, l6, l7, l8] [] (GF X, M, PTF v) K ↔ K (vI 1) (GF X, M, PTF v) := by
  refine (px_go (by decide +kernel : pm_fe 305 405 = some (.iconst 1, 1)) rfl).trans ?_
  refine (px_rz (by decide +kernel)).trans ((and_iff_right (by decide : (1 : Int) = (0 : Int) ∨ (1 : Int) = (1 : Int))).trans ?_)
  exact Iff.rfl
-- X12_on on()Z
theorem r306_0 {d : Nat} {X : Nat × (Nat → Int)} {v : Nat → Int} {M : PH} {K : PV → PS → Prop} : pm_Run d 306 0 [vA 234, PU] [] (GF X, M, PTF v) K ↔ pm_Run d 306 10 [vA 234, vI (M 234 1)] [] (GF X, pm_sa M 234 (pm_up (M 234) 1 0), PTF v) K := by
  refine (px_go (by decide +kernel : pm_fe 306 0 = some (.aload_n 0, 1)) rfl).trans ?_
  refine (ry_get0 (idx := 13) (ci := 12) (k := 1) (by decide +kernel : 234 < 283 ∧ SHF 234 = (12, 76)) (by decide +kernel)).trans ?_
  refine (px_go (by decide +kernel : pm_fe 306 4 = some (.istore_n 1, 1)) rfl).trans ?_
  refine (px_go (by decide +kernel : pm_fe 306 5 = some (.aload_n 0, 1)) rfl).trans ?_
  refine (px_go (by decide +kernel : pm_fe 306 6 = some (.iconst 0, 1)) rfl).trans ?_
  refine (ry_put0 (idx := 13) (ci := 12) (k := 1) (by decide +kernel : 234 < 283 ∧ SHF 234 = (12, 76)) (by decide +kernel)).trans ?_
  exact Iff.rfl
theorem r306_10 {d : Nat} {X : Nat × (Nat → Int)} {v : Nat → Int} {M : PH} {K : PV → PS → Prop} {l1 : Int} : pm_Run d 306 10 [vA 234, vI l1] [] (GF X, M, PTF v) K ↔ pm_Call d 305 [vA 234, vI l1] (GF X, M, PTF v) (fun r9 S1 => pm_Run d 306 15 [vA 234, vI l1] (pm_push r9 []) S1 K) := by
  refine (px_go (by decide +kernel : pm_fe 306 10 = some (.aload_n 0, 1)) rfl).trans ?_
  refine (px_go (by decide +kernel : pm_fe 306 11 = some (.iload_n 1, 1)) rfl).trans ?_
  refine (ry_v1 (idx := 623) (m' := 305) (ci := 12) (by decide +kernel : 234 < 283 ∧ SHF 234 = (12, 76)) (by simp [pm_wl_n, pm_wl_c, pm_w] : pm_wl [] ≤ 8) (by decide +kernel)).trans ?_
  exact Iff.rfl
theorem r306_15 {d : Nat} {X : Nat × (Nat → Int)} {v : Nat → Int} {M : PH} {K : PV → PS → Prop} {l1 s0 : Int} (h1 : inR s0) : pm_Run d 306 15 [vA 234, vI l1] [vI s0] (GF X, M, PTF v) K ↔ if s0 ≠ 0 then pm_Run d 306 32 [vA 234, vI l1] [] (GF X, M, PTF v) K else pm_Run d 306 18 [vA 234, vI l1] [] (GF X, M, PTF v) K := by
  refine (ry_if_ne (off := 17) (tgt := 32) h1 (by decide +kernel)).trans ?_
  exact Iff.rfl
theorem r306_18 {d : Nat} {X : Nat × (Nat → Int)} {v : Nat → Int} {M : PH} {K : PV → PS → Prop} {l1 : Int} : pm_Run d 306 18 [vA 234, vI l1] [] (GF X, M, PTF v) K ↔ pm_Call d 224 [vA 234, vI 5] (GF X, M, PTF v) (fun r9 S1 => pm_Run d 306 23 [vA 234, vI l1] (pm_push r9 []) S1 K) := by
  refine (px_go (by decide +kernel : pm_fe 306 18 = some (.aload_n 0, 1)) rfl).trans ?_
  refine (px_go (by decide +kernel : pm_fe 306 19 = some (.iconst 5, 1)) rfl).trans ?_
  refine (ry_v1 (idx := 243) (m' := 224) (ci := 12) (by decide +kernel : 234 < 283 ∧ SHF 234 = (12, 76)) (by simp [pm_wl_n, pm_wl_c, pm_w] : pm_wl [] ≤ 8) (by decide +kernel)).trans ?_
  exact Iff.rfl
theorem r306_23 {d : Nat} {X : Nat × (Nat → Int)} {v : Nat → Int} {M : PH} {K : PV → PS → Prop} {l1 s0 : Int} (h1 : inR s0) : pm_Run d 306 23 [vA 234, vI l1] [vI s0] (GF X, M, PTF v) K ↔ if s0 < 0 then pm_Run d 306 30 [vA 234, vI l1] [] (GF X, M, PTF v) K else pm_Run d 306 26 [vA 234, vI l1] [] (GF X, M, PTF v) K := by
  refine (ry_if_lt (off := 7) (tgt := 30) h1 (by decide +kernel)).trans ?_
  exact Iff.rfl
theorem r306_26 {d : Nat} {X : Nat × (Nat → Int)} {v : Nat → Int} {M : PH} {K : PV → PS → Prop} {l1 : Int} : pm_Run d 306 26 [vA 234, vI l1] [] (GF X, M, PTF v) K ↔ pm_Run d 306 31 [vA 234, vI l1] [vI 1] (GF X, M, PTF v) K := by
  refine (px_go (by decide +kernel : pm_fe 306 26 = some (.iconst 1, 1)) rfl).trans ?_
  refine (px_goto (off := 4) (tgt := 31) (by decide +kernel)).trans ?_
  exact Iff.rfl
theorem r306_30 {d : Nat} {X : Nat × (Nat → Int)} {v : Nat → Int} {M : PH} {K : PV → PS → Prop} {l1 : Int} : pm_Run d 306 30 [vA 234, vI l1] [] (GF X, M, PTF v) K ↔ pm_Run d 306 31 [vA 234, vI l1] [vI 0] (GF X, M, PTF v) K := by
  refine (px_go (by decide +kernel : pm_fe 306 30 = some (.iconst 0, 1)) rfl).trans ?_
  exact Iff.rfl
theorem r306_31 {d : Nat} {X : Nat × (Nat → Int)} {v : Nat → Int} {M : PH} {K : PV → PS → Prop} {l1 s0 : Int} (h1 : s0 = 0 ∨ s0 = 1) : pm_Run d 306 31 [vA 234, vI l1] [vI s0] (GF X, M, PTF v) K ↔ K (vI s0) (GF X, M, PTF v) := by
  refine (px_rz (by decide +kernel)).trans ((and_iff_right h1).trans ?_)
  exact Iff.rfl
theorem r306_32 {d : Nat} {X : Nat × (Nat → Int)} {v : Nat → Int} {M : PH} {K : PV → PS → Prop} {l1 : Int} : pm_Run d 306 32 [vA 234, vI l1] [] (GF X, M, PTF v) K ↔ pm_Call d 232 [vA 234, vI 0, vI 1] (GF X, M, PTF v) (fun r9 S1 => pm_Run d 306 38 [vA 234, vI l1] (pm_push r9 []) S1 K) := by
  refine (px_go (by decide +kernel : pm_fe 306 32 = some (.aload_n 0, 1)) rfl).trans ?_
  refine (px_go (by decide +kernel : pm_fe 306 33 = some (.iconst 0, 1)) rfl).trans ?_
  refine (px_go (by decide +kernel : pm_fe 306 34 = some (.iconst 1, 1)) rfl).trans ?_
  refine (ry_v2 (idx := 445) (m' := 232) (ci := 12) (by decide +kernel : 234 < 283 ∧ SHF 234 = (12, 76)) (by simp [pm_wl_n, pm_wl_c, pm_w] : pm_wl [] ≤ 8) (by decide +kernel)).trans ?_
  exact Iff.rfl
theorem r306_38 {d : Nat} {X : Nat × (Nat → Int)} {v : Nat → Int} {M : PH} {K : PV → PS → Prop} {l1 : Int} : pm_Run d 306 38 [vA 234, vI l1] [] (GF X, M, PTF v) K ↔ pm_Run d 306 43 [vA 234, vI l1] [] (GF X, pm_sa M 234 (pm_up (M 234) 61 0), PTF v) K := by
  refine (px_go (by decide +kernel : pm_fe 306 38 = some (.aload_n 0, 1)) rfl).trans ?_
  refine (px_go (by decide +kernel : pm_fe 306 39 = some (.iconst 0, 1)) rfl).trans ?_
  refine (ry_put0 (idx := 198) (ci := 12) (k := 61) (by decide +kernel : 234 < 283 ∧ SHF 234 = (12, 76)) (by decide +kernel)).trans ?_
  exact Iff.rfl
theorem r306_43 {d : Nat} {X : Nat × (Nat → Int)} {v : Nat → Int} {M : PH} {K : PV → PS → Prop} {l1 : Int} : pm_Run d 306 43 [vA 234, vI l1] [] (GF X, M, PTF v) K ↔ K (vI 1) (GF X, M, PTF v) := by
  refine (px_go (by decide +kernel : pm_fe 306 43 = some (.iconst 1, 1)) rfl).trans ?_
  refine (px_rz (by decide +kernel)).trans ((and_iff_right (by decide : (1 : Int) = (0 : Int) ∨ (1 : Int) = (1 : Int))).trans ?_)
  exact Iff.rfl
