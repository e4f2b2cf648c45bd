-- X12_owedAll owedAll(II)I
theorem r265_0 {d : Nat} {X : Nat × (Nat → Int)} {v : Nat → Int} {M : PH} {K : PV → PS → Prop} {l1 l2 : Int} : pm_Run d 265 0 [vA 234, vI l1, vI l2, PU, PU, PU] [] (GF X, M, PTF v) K ↔ pm_Run d 265 5 [vA 234, vI l1, vI l2, vI 0, vI 0, PU] [] (GF X, M, PTF v) K := by
  refine (px_go (by decide +kernel : pm_fe 265 0 = some (.iconst 0, 1)) rfl).trans ?_
  refine (px_go (by decide +kernel : pm_fe 265 1 = some (.istore_n 3, 1)) rfl).trans ?_
  refine (px_go (by decide +kernel : pm_fe 265 2 = some (.iconst 0, 1)) rfl).trans ?_
  refine (px_go (by decide +kernel : pm_fe 265 3 = some (.istore 4, 2)) rfl).trans ?_
  exact Iff.rfl
theorem r265_5 {d : Nat} {X : Nat × (Nat → Int)} {v : Nat → Int} {M : PH} {K : PV → PS → Prop} {l1 l2 l3 l4 : Int} {l5 : PV} (h1 : 0 ≤ (M 234 13)) (h2 : (M 234 13) < 2) (h3 : inR l4) (h4 : inR (M 246 (M 234 13).toNat)) : pm_Run d 265 5 [vA 234, vI l1, vI l2, vI l3, vI l4, l5] [] (GF X, M, PTF v) K ↔ if M 246 (M 234 13).toNat ≤ l4 then pm_Run d 265 76 [vA 234, vI l1, vI l2, vI l3, vI l4, l5] [] (GF X, M, PTF v) K else pm_Run d 265 19 [vA 234, vI l1, vI l2, vI l3, vI l4, l5] [] (GF X, M, PTF v) K := by
  refine (px_go (by decide +kernel : pm_fe 265 5 = some (.iload 4, 2)) rfl).trans ?_
  refine (px_go (by decide +kernel : pm_fe 265 7 = some (.aload_n 0, 1)) rfl).trans ?_
  refine (ry_get2 (idx := 84) (ci := 12) (k := 24) (by decide +kernel : 234 < 283 ∧ SHF 234 = (12, 76)) (ptf_l (a := 234) (k := 24) (n := 246) (by decide +kernel)) (by decide +kernel)).trans ?_
  refine (px_go (by decide +kernel : pm_fe 265 11 = some (.aload_n 0, 1)) rfl).trans ?_
  refine (ry_get0 (idx := 51) (ci := 12) (k := 13) (by decide +kernel : 234 < 283 ∧ SHF 234 = (12, 76)) (by decide +kernel)).trans ?_
  refine (ry_iald (by decide +kernel : 246 < 283 ∧ SHF 246 = (100, 2)) h1 h2 (by decide +kernel)).trans ?_
  refine (ry_ic_ge (off := 60) (tgt := 76) h3 h4 (by decide +kernel)).trans ?_
  exact Iff.rfl
theorem r265_19 {d : Nat} {X : Nat × (Nat → Int)} {v : Nat → Int} {M : PH} {K : PV → PS → Prop} {l1 l2 l3 l4 : Int} {l5 : PV} (h1 : 0 ≤ ((16 * (M 234 13)) + l4)) (h2 : ((16 * (M 234 13)) + l4) < 32) (h3 : inR (M 248 ((16 * (M 234 13)) + l4).toNat)) (h4 : inR l1) : pm_Run d 265 19 [vA 234, vI l1, vI l2, vI l3, vI l4, l5] [] (GF X, M, PTF v) K ↔ if M 248 ((16 * (M 234 13)) + l4).toNat ≠ l1 then pm_Run d 265 67 [vA 234, vI l1, vI l2, vI l3, vI l4, vI ((16 * (M 234 13)) + l4)] [vI l3] (GF X, M, PTF v) K else pm_Run d 265 43 [vA 234, vI l1, vI l2, vI l3, vI l4, vI ((16 * (M 234 13)) + l4)] [vI l3] (GF X, M, PTF v) K := by
  refine (px_go (by decide +kernel : pm_fe 265 19 = some (.bipush 16, 2)) rfl).trans ?_
  refine (px_go (by decide +kernel : pm_fe 265 21 = some (.aload_n 0, 1)) rfl).trans ?_
  refine (ry_get0 (idx := 51) (ci := 12) (k := 13) (by decide +kernel : 234 < 283 ∧ SHF 234 = (12, 76)) (by decide +kernel)).trans ?_
  refine (px_go (by decide +kernel : pm_fe 265 25 = some (.imul, 1)) rfl).trans ?_
  refine (px_go (by decide +kernel : pm_fe 265 26 = some (.iload 4, 2)) rfl).trans ?_
  refine (px_go (by decide +kernel : pm_fe 265 28 = some (.iadd, 1)) rfl).trans ?_
  refine (px_go (by decide +kernel : pm_fe 265 29 = some (.istore 5, 2)) rfl).trans ?_
  refine (px_go (by decide +kernel : pm_fe 265 31 = some (.iload_n 3, 1)) rfl).trans ?_
  refine (px_go (by decide +kernel : pm_fe 265 32 = some (.aload_n 0, 1)) rfl).trans ?_
  refine (ry_get2 (idx := 90) (ci := 12) (k := 26) (by decide +kernel : 234 < 283 ∧ SHF 234 = (12, 76)) (ptf_l (a := 234) (k := 26) (n := 248) (by decide +kernel)) (by decide +kernel)).trans ?_
  refine (px_go (by decide +kernel : pm_fe 265 36 = some (.iload 5, 2)) rfl).trans ?_
  refine (ry_iald (by decide +kernel : 248 < 283 ∧ SHF 248 = (100, 32)) h1 h2 (by decide +kernel)).trans ?_
  refine (px_go (by decide +kernel : pm_fe 265 39 = some (.iload_n 1, 1)) rfl).trans ?_
  refine (ry_ic_ne (off := 27) (tgt := 67) h3 h4 (by decide +kernel)).trans ?_
  exact Iff.rfl
theorem r265_43 {d : Nat} {X : Nat × (Nat → Int)} {v : Nat → Int} {M : PH} {K : PV → PS → Prop} {l1 l2 l3 l4 l5 s0 : Int} (h1 : 0 ≤ l5) (h2 : l5 < 32) (h3 : inR (pm_and (pm_shr l2 (M 247 l5.toNat)) 1)) : pm_Run d 265 43 [vA 234, vI l1, vI l2, vI l3, vI l4, vI l5] [vI s0] (GF X, M, PTF v) K ↔ if pm_and (pm_shr l2 (M 247 l5.toNat)) 1 ≠ 0 then pm_Run d 265 67 [vA 234, vI l1, vI l2, vI l3, vI l4, vI l5] [vI s0] (GF X, M, PTF v) K else pm_Run d 265 57 [vA 234, vI l1, vI l2, vI l3, vI l4, vI l5] [vI s0] (GF X, M, PTF v) K := by
  refine (px_go (by decide +kernel : pm_fe 265 43 = some (.iload_n 2, 1)) rfl).trans ?_
  refine (px_go (by decide +kernel : pm_fe 265 44 = some (.aload_n 0, 1)) rfl).trans ?_
  refine (ry_get2 (idx := 87) (ci := 12) (k := 25) (by decide +kernel : 234 < 283 ∧ SHF 234 = (12, 76)) (ptf_l (a := 234) (k := 25) (n := 247) (by decide +kernel)) (by decide +kernel)).trans ?_
  refine (px_go (by decide +kernel : pm_fe 265 48 = some (.iload 5, 2)) rfl).trans ?_
  refine (ry_iald (by decide +kernel : 247 < 283 ∧ SHF 247 = (100, 32)) h1 h2 (by decide +kernel)).trans ?_
  refine (px_go (by decide +kernel : pm_fe 265 51 = some (.ishr, 1)) rfl).trans ?_
  refine (px_go (by decide +kernel : pm_fe 265 52 = some (.iconst 1, 1)) rfl).trans ?_
  refine (px_go (by decide +kernel : pm_fe 265 53 = some (.iand, 1)) rfl).trans ?_
  refine (ry_if_ne (off := 13) (tgt := 67) h3 (by decide +kernel)).trans ?_
  exact Iff.rfl
theorem r265_57 {d : Nat} {X : Nat × (Nat → Int)} {v : Nat → Int} {M : PH} {K : PV → PS → Prop} {l1 l2 l3 l4 l5 s0 : Int} (h1 : 0 ≤ l5) (h2 : l5 < 32) : pm_Run d 265 57 [vA 234, vI l1, vI l2, vI l3, vI l4, vI l5] [vI s0] (GF X, M, PTF v) K ↔ pm_Run d 265 68 [vA 234, vI l1, vI l2, vI l3, vI l4, vI l5] [vI (M 249 l5.toNat), vI s0] (GF X, M, PTF v) K := by
  refine (px_go (by decide +kernel : pm_fe 265 57 = some (.aload_n 0, 1)) rfl).trans ?_
  refine (ry_get2 (idx := 93) (ci := 12) (k := 27) (by decide +kernel : 234 < 283 ∧ SHF 234 = (12, 76)) (ptf_l (a := 234) (k := 27) (n := 249) (by decide +kernel)) (by decide +kernel)).trans ?_
  refine (px_go (by decide +kernel : pm_fe 265 61 = some (.iload 5, 2)) rfl).trans ?_
  refine (ry_iald (by decide +kernel : 249 < 283 ∧ SHF 249 = (100, 32)) h1 h2 (by decide +kernel)).trans ?_
  refine (px_goto (off := 4) (tgt := 68) (by decide +kernel)).trans ?_
  exact Iff.rfl
theorem r265_67 {d : Nat} {X : Nat × (Nat → Int)} {v : Nat → Int} {M : PH} {K : PV → PS → Prop} {l1 l2 l3 l4 l5 s0 : Int} : pm_Run d 265 67 [vA 234, vI l1, vI l2, vI l3, vI l4, vI l5] [vI s0] (GF X, M, PTF v) K ↔ pm_Run d 265 68 [vA 234, vI l1, vI l2, vI l3, vI l4, vI l5] [vI 0, vI s0] (GF X, M, PTF v) K := by
  refine (px_go (by decide +kernel : pm_fe 265 67 = some (.iconst 0, 1)) rfl).trans ?_
  exact Iff.rfl
theorem r265_68 {d : Nat} {X : Nat × (Nat → Int)} {v : Nat → Int} {M : PH} {K : PV → PS → Prop} {l1 l2 l3 l4 l5 s0 s1 : Int} : pm_Run d 265 68 [vA 234, vI l1, vI l2, vI l3, vI l4, vI l5] [vI s0, vI s1] (GF X, M, PTF v) K ↔ pm_Run d 265 5 [vA 234, vI l1, vI l2, vI (s1 + s0), vI (l4 + 1), vI l5] [] (GF X, M, PTF v) K := by
  refine (px_go (by decide +kernel : pm_fe 265 68 = some (.iadd, 1)) rfl).trans ?_
  refine (px_go (by decide +kernel : pm_fe 265 69 = some (.istore_n 3, 1)) rfl).trans ?_
  refine (px_go (by decide +kernel : pm_fe 265 70 = some (.iinc 4 1, 3)) rfl).trans ?_
  refine (px_goto (off := (-68)) (tgt := 5) (by decide +kernel)).trans ?_
  exact Iff.rfl
theorem r265_76 {d : Nat} {X : Nat × (Nat → Int)} {v : Nat → Int} {M : PH} {K : PV → PS → Prop} {l1 l2 l3 l4 : Int} {l5 : PV} : pm_Run d 265 76 [vA 234, vI l1, vI l2, vI l3, vI l4, l5] [] (GF X, M, PTF v) K ↔ K (vI l3) (GF X, M, PTF v) := by
  refine (px_go (by decide +kernel : pm_fe 265 76 = some (.iload_n 3, 1)) rfl).trans ?_
  refine (px_ri (by decide +kernel)).trans ?_
  exact Iff.rfl
-- X12_failing failing()I
theorem r266_0 {d : Nat} {X : Nat × (Nat → Int)} {v : Nat → Int} {M : PH} {K : PV → PS → Prop} : pm_Run d 266 0 [vA 234, PU, PU, PU, PU] [] (GF X, M, PTF v) K ↔ pm_Run d 266 4 [vA 234, vI 0, vI 1, PU, PU] [] (GF X, M, PTF v) K := by
  refine (px_go (by decide +kernel : pm_fe 266 0 = some (.iconst 0, 1)) rfl).trans ?_
  refine (px_go (by decide +kernel : pm_fe 266 1 = some (.istore_n 1, 1)) rfl).trans ?_
  refine (px_go (by decide +kernel : pm_fe 266 2 = some (.iconst 1, 1)) rfl).trans ?_
  refine (px_go (by decide +kernel : pm_fe 266 3 = some (.istore_n 2, 1)) rfl).trans ?_
  exact Iff.rfl
theorem r266_4 {d : Nat} {X : Nat × (Nat → Int)} {v : Nat → Int} {M : PH} {K : PV → PS → Prop} {l1 l2 : Int} {l3 l4 : PV} (h1 : inR l2) : pm_Run d 266 4 [vA 234, vI l1, vI l2, l3, l4] [] (GF X, M, PTF v) K ↔ if l2 = 0 then pm_Run d 266 84 [vA 234, vI l1, vI l2, l3, l4] [] (GF X, M, PTF v) K else pm_Run d 266 8 [vA 234, vI l1, vI l2, l3, l4] [] (GF X, M, PTF v) K := by
  refine (px_go (by decide +kernel : pm_fe 266 4 = some (.iload_n 2, 1)) rfl).trans ?_
  refine (ry_if_eq (off := 79) (tgt := 84) h1 (by decide +kernel)).trans ?_
  exact Iff.rfl
theorem r266_8 {d : Nat} {X : Nat × (Nat → Int)} {v : Nat → Int} {M : PH} {K : PV → PS → Prop} {l1 l2 : Int} {l3 l4 : PV} : pm_Run d 266 8 [vA 234, vI l1, vI l2, l3, l4] [] (GF X, M, PTF v) K ↔ pm_Run d 266 13 [vA 234, vI l1, vI l2, vI l1, vI 0] [] (GF X, M, PTF v) K := by
  refine (px_go (by decide +kernel : pm_fe 266 8 = some (.iload_n 1, 1)) rfl).trans ?_
  refine (px_go (by decide +kernel : pm_fe 266 9 = some (.istore_n 3, 1)) rfl).trans ?_
  refine (px_go (by decide +kernel : pm_fe 266 10 = some (.iconst 0, 1)) rfl).trans ?_
  refine (px_go (by decide +kernel : pm_fe 266 11 = some (.istore 4, 2)) rfl).trans ?_
  exact Iff.rfl
theorem r266_13 {d : Nat} {X : Nat × (Nat → Int)} {v : Nat → Int} {M : PH} {K : PV → PS → Prop} {l1 l2 l3 l4 : Int} (h1 : 0 ≤ (M 234 13)) (h2 : (M 234 13) < 2) (h3 : inR l4) (h4 : inR (M 241 (M 234 13).toNat)) : pm_Run d 266 13 [vA 234, vI l1, vI l2, vI l3, vI l4] [] (GF X, M, PTF v) K ↔ if M 241 (M 234 13).toNat ≤ l4 then pm_Run d 266 68 [vA 234, vI l1, vI l2, vI l3, vI l4] [] (GF X, M, PTF v) K else pm_Run d 266 27 [vA 234, vI l1, vI l2, vI l3, vI l4] [] (GF X, M, PTF v) K := by
  refine (px_go (by decide +kernel : pm_fe 266 13 = some (.iload 4, 2)) rfl).trans ?_
  refine (px_go (by decide +kernel : pm_fe 266 15 = some (.aload_n 0, 1)) rfl).trans ?_
  refine (ry_get2 (idx := 69) (ci := 12) (k := 19) (by decide +kernel : 234 < 283 ∧ SHF 234 = (12, 76)) (ptf_l (a := 234) (k := 19) (n := 241) (by decide +kernel)) (by decide +kernel)).trans ?_
  refine (px_go (by decide +kernel : pm_fe 266 19 = some (.aload_n 0, 1)) rfl).trans ?_
  refine (ry_get0 (idx := 51) (ci := 12) (k := 13) (by decide +kernel : 234 < 283 ∧ SHF 234 = (12, 76)) (by decide +kernel)).trans ?_
  refine (ry_iald (by decide +kernel : 241 < 283 ∧ SHF 241 = (100, 2)) h1 h2 (by decide +kernel)).trans ?_
  refine (ry_ic_ge (off := 44) (tgt := 68) h3 h4 (by decide +kernel)).trans ?_
  exact Iff.rfl
theorem r266_27 {d : Nat} {X : Nat × (Nat → Int)} {v : Nat → Int} {M : PH} {K : PV → PS → Prop} {l1 l2 l3 l4 : Int} (h1 : 0 ≤ l4) (h2 : l4 < 176) : pm_Run d 266 27 [vA 234, vI l1, vI l2, vI l3, vI l4] [] (GF X, M, PTF v) K ↔ pm_Call d 265 [vA 234, vI l4, vI l1] (GF X, M, PTF v) (fun r9 S1 => pm_Run d 266 42 [vA 234, vI l1, vI l2, vI l3, vI l4] (pm_push r9 [vI (M 273 l4.toNat), vI l3]) S1 K) := by
  refine (px_go (by decide +kernel : pm_fe 266 27 = some (.iload_n 3, 1)) rfl).trans ?_
  refine (px_go (by decide +kernel : pm_fe 266 28 = some (.aload_n 0, 1)) rfl).trans ?_
  refine (ry_get2 (idx := 186) (ci := 12) (k := 57) (by decide +kernel : 234 < 283 ∧ SHF 234 = (12, 76)) (ptf_l (a := 234) (k := 57) (n := 273) (by decide +kernel)) (by decide +kernel)).trans ?_
  refine (px_go (by decide +kernel : pm_fe 266 32 = some (.iload 4, 2)) rfl).trans ?_
  refine (ry_iald (by decide +kernel : 273 < 283 ∧ SHF 273 = (100, 176)) h1 h2 (by decide +kernel)).trans ?_
  refine (px_go (by decide +kernel : pm_fe 266 35 = some (.aload_n 0, 1)) rfl).trans ?_
  refine (px_go (by decide +kernel : pm_fe 266 36 = some (.iload 4, 2)) rfl).trans ?_
  refine (px_go (by decide +kernel : pm_fe 266 38 = some (.iload_n 1, 1)) rfl).trans ?_
  refine (ry_v2 (idx := 538) (m' := 265) (ci := 12) (by decide +kernel : 234 < 283 ∧ SHF 234 = (12, 76)) (by simp [pm_wl_n, pm_wl_c, pm_w] : pm_wl [vI (M 273 l4.toNat), vI l3] ≤ 8) (by decide +kernel)).trans ?_
  exact Iff.rfl
theorem r266_42 {d : Nat} {X : Nat × (Nat → Int)} {v : Nat → Int} {M : PH} {K : PV → PS → Prop} {l1 l2 l3 l4 s0 s1 s2 : Int} : pm_Run d 266 42 [vA 234, vI l1, vI l2, vI l3, vI l4] [vI s0, vI s1, vI s2] (GF X, M, PTF v) K ↔ pm_Call d 264 [vA 234, vI l4] (GF X, M, PTF v) (fun r9 S1 => pm_Run d 266 49 [vA 234, vI l1, vI l2, vI l3, vI l4] (pm_push r9 [vI (s1 + s0), vI s2]) S1 K) := by
  refine (px_go (by decide +kernel : pm_fe 266 42 = some (.iadd, 1)) rfl).trans ?_
  refine (px_go (by decide +kernel : pm_fe 266 43 = some (.aload_n 0, 1)) rfl).trans ?_
  refine (px_go (by decide +kernel : pm_fe 266 44 = some (.iload 4, 2)) rfl).trans ?_
  refine (ry_v1 (idx := 541) (m' := 264) (ci := 12) (by decide +kernel : 234 < 283 ∧ SHF 234 = (12, 76)) (by simp [pm_wl_n, pm_wl_c, pm_w] : pm_wl [vI (s1 + s0), vI s2] ≤ 8) (by decide +kernel)).trans ?_
  exact Iff.rfl
theorem r266_49 {d : Nat} {X : Nat × (Nat → Int)} {v : Nat → Int} {M : PH} {K : PV → PS → Prop} {l1 l2 l3 l4 s0 s1 s2 : Int} (h1 : inR s1) (h2 : inR s0) : pm_Run d 266 49 [vA 234, vI l1, vI l2, vI l3, vI l4] [vI s0, vI s1, vI s2] (GF X, M, PTF v) K ↔ if s0 ≤ s1 then pm_Run d 266 59 [vA 234, vI l1, vI l2, vI l3, vI l4] [vI s2] (GF X, M, PTF v) K else pm_Run d 266 52 [vA 234, vI l1, vI l2, vI l3, vI l4] [vI s2] (GF X, M, PTF v) K := by
  refine (ry_ic_ge (off := 10) (tgt := 59) h1 h2 (by decide +kernel)).trans ?_
  exact Iff.rfl
theorem r266_52 {d : Nat} {X : Nat × (Nat → Int)} {v : Nat → Int} {M : PH} {K : PV → PS → Prop} {l1 l2 l3 l4 s0 : Int} : pm_Run d 266 52 [vA 234, vI l1, vI l2, vI l3, vI l4] [vI s0] (GF X, M, PTF v) K ↔ pm_Run d 266 60 [vA 234, vI l1, vI l2, vI l3, vI l4] [vI (pm_shl 1 l4), vI s0] (GF X, M, PTF v) K := by
  refine (px_go (by decide +kernel : pm_fe 266 52 = some (.iconst 1, 1)) rfl).trans ?_
  refine (px_go (by decide +kernel : pm_fe 266 53 = some (.iload 4, 2)) rfl).trans ?_
  refine (px_go (by decide +kernel : pm_fe 266 55 = some (.ishl, 1)) rfl).trans ?_
  refine (px_goto (off := 4) (tgt := 60) (by decide +kernel)).trans ?_
  exact Iff.rfl
theorem r266_59 {d : Nat} {X : Nat × (Nat → Int)} {v : Nat → Int} {M : PH} {K : PV → PS → Prop} {l1 l2 l3 l4 s0 : Int} : pm_Run d 266 59 [vA 234, vI l1, vI l2, vI l3, vI l4] [vI s0] (GF X, M, PTF v) K ↔ pm_Run d 266 60 [vA 234, vI l1, vI l2, vI l3, vI l4] [vI 0, vI s0] (GF X, M, PTF v) K := by
  refine (px_go (by decide +kernel : pm_fe 266 59 = some (.iconst 0, 1)) rfl).trans ?_
  exact Iff.rfl
theorem r266_60 {d : Nat} {X : Nat × (Nat → Int)} {v : Nat → Int} {M : PH} {K : PV → PS → Prop} {l1 l2 l3 l4 s0 s1 : Int} : pm_Run d 266 60 [vA 234, vI l1, vI l2, vI l3, vI l4] [vI s0, vI s1] (GF X, M, PTF v) K ↔ pm_Run d 266 13 [vA 234, vI l1, vI l2, vI (pm_or s1 s0), vI (l4 + 1)] [] (GF X, M, PTF v) K := by
  refine (px_go (by decide +kernel : pm_fe 266 60 = some (.ior, 1)) rfl).trans ?_
  refine (px_go (by decide +kernel : pm_fe 266 61 = some (.istore_n 3, 1)) rfl).trans ?_
  refine (px_go (by decide +kernel : pm_fe 266 62 = some (.iinc 4 1, 3)) rfl).trans ?_
  refine (px_goto (off := (-52)) (tgt := 13) (by decide +kernel)).trans ?_
  exact Iff.rfl
theorem r266_68 {d : Nat} {X : Nat × (Nat → Int)} {v : Nat → Int} {M : PH} {K : PV → PS → Prop} {l1 l2 l3 l4 : Int} (h1 : inR l3) (h2 : inR l1) : pm_Run d 266 68 [vA 234, vI l1, vI l2, vI l3, vI l4] [] (GF X, M, PTF v) K ↔ if l3 = l1 then pm_Run d 266 77 [vA 234, vI l1, vI l2, vI l3, vI l4] [] (GF X, M, PTF v) K else pm_Run d 266 73 [vA 234, vI l1, vI l2, vI l3, vI l4] [] (GF X, M, PTF v) K := by
  refine (px_go (by decide +kernel : pm_fe 266 68 = some (.iload_n 3, 1)) rfl).trans ?_
  refine (px_go (by decide +kernel : pm_fe 266 69 = some (.iload_n 1, 1)) rfl).trans ?_
  refine (ry_ic_eq (off := 7) (tgt := 77) h1 h2 (by decide +kernel)).trans ?_
  exact Iff.rfl
theorem r266_73 {d : Nat} {X : Nat × (Nat → Int)} {v : Nat → Int} {M : PH} {K : PV → PS → Prop} {l1 l2 l3 l4 : Int} : pm_Run d 266 73 [vA 234, vI l1, vI l2, vI l3, vI l4] [] (GF X, M, PTF v) K ↔ pm_Run d 266 78 [vA 234, vI l1, vI l2, vI l3, vI l4] [vI 1] (GF X, M, PTF v) K := by
  refine (px_go (by decide +kernel : pm_fe 266 73 = some (.iconst 1, 1)) rfl).trans ?_
  refine (px_goto (off := 4) (tgt := 78) (by decide +kernel)).trans ?_
  exact Iff.rfl
theorem r266_77 {d : Nat} {X : Nat × (Nat → Int)} {v : Nat → Int} {M : PH} {K : PV → PS → Prop} {l1 l2 l3 l4 : Int} : pm_Run d 266 77 [vA 234, vI l1, vI l2, vI l3, vI l4] [] (GF X, M, PTF v) K ↔ pm_Run d 266 78 [vA 234, vI l1, vI l2, vI l3, vI l4] [vI 0] (GF X, M, PTF v) K := by
  refine (px_go (by decide +kernel : pm_fe 266 77 = some (.iconst 0, 1)) rfl).trans ?_
  exact Iff.rfl
theorem r266_78 {d : Nat} {X : Nat × (Nat → Int)} {v : Nat → Int} {M : PH} {K : PV → PS → Prop} {l1 l2 l3 l4 s0 : Int} : pm_Run d 266 78 [vA 234, vI l1, vI l2, vI l3, vI l4] [vI s0] (GF X, M, PTF v) K ↔ pm_Run d 266 4 [vA 234, vI l3, vI s0, vI l3, vI l4] [] (GF X, M, PTF v) K := by
  refine (px_go (by decide +kernel : pm_fe 266 78 = some (.istore_n 2, 1)) rfl).trans ?_
  refine (px_go (by decide +kernel : pm_fe 266 79 = some (.iload_n 3, 1)) rfl).trans ?_
  refine (px_go (by decide +kernel : pm_fe 266 80 = some (.istore_n 1, 1)) rfl).trans ?_
  refine (px_goto (off := (-77)) (tgt := 4) (by decide +kernel)).trans ?_
  exact Iff.rfl
theorem r266_84 {d : Nat} {X : Nat × (Nat → Int)} {v : Nat → Int} {M : PH} {K : PV → PS → Prop} {l1 l2 : Int} {l3 l4 : PV} : pm_Run d 266 84 [vA 234, vI l1, vI l2, l3, l4] [] (GF X, M, PTF v) K ↔ K (vI l1) (GF X, M, PTF v) := by
  refine (px_go (by decide +kernel : pm_fe 266 84 = some (.iload_n 1, 1)) rfl).trans ?_
  refine (px_ri (by decide +kernel)).trans ?_
  exact Iff.rfl
-- X12_helpFor helpFor(I)I
theorem r267_0 {d : Nat} {X : Nat × (Nat → Int)} {v : Nat → Int} {M : PH} {K : PV → PS → Prop} {l1 : Int} : pm_Run d 267 0 [vA 234, vI l1, PU] [] (GF X, M, PTF v) K ↔ pm_Call d 264 [vA 234, vI l1] (GF X, M, PTF v) (fun r9 S1 => pm_Run d 267 5 [vA 234, vI l1, PU] (pm_push r9 []) S1 K) := by
  refine (px_go (by decide +kernel : pm_fe 267 0 = some (.aload_n 0, 1)) rfl).trans ?_
  refine (px_go (by decide +kernel : pm_fe 267 1 = some (.iload_n 1, 1)) rfl).trans ?_
  refine (ry_v1 (idx := 541) (m' := 264) (ci := 12) (by decide +kernel : 234 < 283 ∧ SHF 234 = (12, 76)) (by simp [pm_wl_n, pm_wl_c, pm_w] : pm_wl [] ≤ 8) (by decide +kernel)).trans ?_
  exact Iff.rfl
theorem r267_5 {d : Nat} {X : Nat × (Nat → Int)} {v : Nat → Int} {M : PH} {K : PV → PS → Prop} {l1 s0 : Int} (h1 : 0 ≤ l1) (h2 : l1 < 176) : pm_Run d 267 5 [vA 234, vI l1, PU] [vI s0] (GF X, M, PTF v) K ↔ pm_Call d 265 [vA 234, vI l1, vI 0] (GF X, M, PTF v) (fun r9 S1 => pm_Run d 267 18 [vA 234, vI l1, PU] (pm_push r9 [vI (s0 - (M 273 l1.toNat))]) S1 K) := by
  refine (px_go (by decide +kernel : pm_fe 267 5 = some (.aload_n 0, 1)) rfl).trans ?_
  refine (ry_get2 (idx := 186) (ci := 12) (k := 57) (by decide +kernel : 234 < 283 ∧ SHF 234 = (12, 76)) (ptf_l (a := 234) (k := 57) (n := 273) (by decide +kernel)) (by decide +kernel)).trans ?_
  refine (px_go (by decide +kernel : pm_fe 267 9 = some (.iload_n 1, 1)) rfl).trans ?_
  refine (ry_iald (by decide +kernel : 273 < 283 ∧ SHF 273 = (100, 176)) h1 h2 (by decide +kernel)).trans ?_
  refine (px_go (by decide +kernel : pm_fe 267 11 = some (.isub, 1)) rfl).trans ?_
  refine (px_go (by decide +kernel : pm_fe 267 12 = some (.aload_n 0, 1)) rfl).trans ?_
  refine (px_go (by decide +kernel : pm_fe 267 13 = some (.iload_n 1, 1)) rfl).trans ?_
  refine (px_go (by decide +kernel : pm_fe 267 14 = some (.iconst 0, 1)) rfl).trans ?_
  refine (ry_v2 (idx := 538) (m' := 265) (ci := 12) (by decide +kernel : 234 < 283 ∧ SHF 234 = (12, 76)) (by simp [pm_wl_n, pm_wl_c, pm_w] : pm_wl [vI (s0 - (M 273 l1.toNat))] ≤ 8) (by decide +kernel)).trans ?_
  exact Iff.rfl
theorem r267_18 {d : Nat} {X : Nat × (Nat → Int)} {v : Nat → Int} {M : PH} {K : PV → PS → Prop} {l1 s0 s1 : Int} (h1 : inR (s1 - s0)) : pm_Run d 267 18 [vA 234, vI l1, PU] [vI s0, vI s1] (GF X, M, PTF v) K ↔ if 0 ≤ s1 - s0 then pm_Run d 267 28 [vA 234, vI l1, vI (s1 - s0)] [] (GF X, M, PTF v) K else pm_Run d 267 24 [vA 234, vI l1, vI (s1 - s0)] [] (GF X, M, PTF v) K := by
  refine (px_go (by decide +kernel : pm_fe 267 18 = some (.isub, 1)) rfl).trans ?_
  refine (px_go (by decide +kernel : pm_fe 267 19 = some (.istore_n 2, 1)) rfl).trans ?_
  refine (px_go (by decide +kernel : pm_fe 267 20 = some (.iload_n 2, 1)) rfl).trans ?_
  refine (ry_if_ge (off := 7) (tgt := 28) h1 (by decide +kernel)).trans ?_
  exact Iff.rfl
theorem r267_24 {d : Nat} {X : Nat × (Nat → Int)} {v : Nat → Int} {M : PH} {K : PV → PS → Prop} {l1 l2 : Int} : pm_Run d 267 24 [vA 234, vI l1, vI l2] [] (GF X, M, PTF v) K ↔ pm_Run d 267 29 [vA 234, vI l1, vI l2] [vI 0] (GF X, M, PTF v) K := by
  refine (px_go (by decide +kernel : pm_fe 267 24 = some (.iconst 0, 1)) rfl).trans ?_
  refine (px_goto (off := 4) (tgt := 29) (by decide +kernel)).trans ?_
  exact Iff.rfl
theorem r267_28 {d : Nat} {X : Nat × (Nat → Int)} {v : Nat → Int} {M : PH} {K : PV → PS → Prop} {l1 l2 : Int} : pm_Run d 267 28 [vA 234, vI l1, vI l2] [] (GF X, M, PTF v) K ↔ pm_Run d 267 29 [vA 234, vI l1, vI l2] [vI l2] (GF X, M, PTF v) K := by
  refine (px_go (by decide +kernel : pm_fe 267 28 = some (.iload_n 2, 1)) rfl).trans ?_
  exact Iff.rfl
theorem r267_29 {d : Nat} {X : Nat × (Nat → Int)} {v : Nat → Int} {M : PH} {K : PV → PS → Prop} {l1 l2 s0 : Int} : pm_Run d 267 29 [vA 234, vI l1, vI l2] [vI s0] (GF X, M, PTF v) K ↔ K (vI s0) (GF X, M, PTF v) := by
  refine (px_ri (by decide +kernel)).trans ?_
  exact Iff.rfl
-- X12_isStranded isStranded(I)Z
theorem r268_0 {d : Nat} {X : Nat × (Nat → Int)} {v : Nat → Int} {M : PH} {K : PV → PS → Prop} {l1 : Int} : pm_Run d 268 0 [vA 234, vI l1] [] (GF X, M, PTF v) K ↔ pm_Call d 230 [vA 234, vI l1] (GF X, M, PTF v) (fun r9 S1 => pm_Run d 268 9 [vA 234, vI l1] (pm_push r9 [vA 277]) S1 K) := by
  refine (px_go (by decide +kernel : pm_fe 268 0 = some (.aload_n 0, 1)) rfl).trans ?_
  refine (ry_get2 (idx := 219) (ci := 12) (k := 68) (by decide +kernel : 234 < 283 ∧ SHF 234 = (12, 76)) (ptf_l (a := 234) (k := 68) (n := 277) (by decide +kernel)) (by decide +kernel)).trans ?_
  refine (px_go (by decide +kernel : pm_fe 268 4 = some (.aload_n 0, 1)) rfl).trans ?_
  refine (px_go (by decide +kernel : pm_fe 268 5 = some (.iload_n 1, 1)) rfl).trans ?_
  refine (ry_v1 (idx := 503) (m' := 230) (ci := 12) (by decide +kernel : 234 < 283 ∧ SHF 234 = (12, 76)) (by simp [pm_wl_n, pm_wl_c, pm_w] : pm_wl [vA 277] ≤ 8) (by decide +kernel)).trans ?_
  exact Iff.rfl
theorem r268_9 {d : Nat} {X : Nat × (Nat → Int)} {v : Nat → Int} {M : PH} {K : PV → PS → Prop} {l1 s0 : Int} (h1 : 0 ≤ s0) (h2 : s0 < 24) : pm_Run d 268 9 [vA 234, vI l1] [vI s0, vA 277] (GF X, M, PTF v) K ↔ pm_Call d 231 [vA 234, vI l1] (GF X, M, PTF v) (fun r9 S1 => pm_Run d 268 15 [vA 234, vI l1] (pm_push r9 [vI (M 277 s0.toNat)]) S1 K) := by
  refine (ry_iald (by decide +kernel : 277 < 283 ∧ SHF 277 = (100, 24)) h1 h2 (by decide +kernel)).trans ?_
  refine (px_go (by decide +kernel : pm_fe 268 10 = some (.aload_n 0, 1)) rfl).trans ?_
  refine (px_go (by decide +kernel : pm_fe 268 11 = some (.iload_n 1, 1)) rfl).trans ?_
  refine (ry_v1 (idx := 454) (m' := 231) (ci := 12) (by decide +kernel : 234 < 283 ∧ SHF 234 = (12, 76)) (by simp [pm_wl_n, pm_wl_c, pm_w] : pm_wl [vI (M 277 s0.toNat)] ≤ 8) (by decide +kernel)).trans ?_
  exact Iff.rfl
theorem r268_15 {d : Nat} {X : Nat × (Nat → Int)} {v : Nat → Int} {M : PH} {K : PV → PS → Prop} {l1 s0 s1 : Int} (h1 : inR s1) (h2 : inR s0) : pm_Run d 268 15 [vA 234, vI l1] [vI s0, vI s1] (GF X, M, PTF v) K ↔ if s0 ≤ s1 then pm_Run d 268 22 [vA 234, vI l1] [] (GF X, M, PTF v) K else pm_Run d 268 18 [vA 234, vI l1] [] (GF X, M, PTF v) K := by
  refine (ry_ic_ge (off := 7) (tgt := 22) h1 h2 (by decide +kernel)).trans ?_
  exact Iff.rfl
theorem r268_18 {d : Nat} {X : Nat × (Nat → Int)} {v : Nat → Int} {M : PH} {K : PV → PS → Prop} {l1 : Int} : pm_Run d 268 18 [vA 234, vI l1] [] (GF X, M, PTF v) K ↔ pm_Run d 268 23 [vA 234, vI l1] [vI 1] (GF X, M, PTF v) K := by
  refine (px_go (by decide +kernel : pm_fe 268 18 = some (.iconst 1, 1)) rfl).trans ?_
  refine (px_goto (off := 4) (tgt := 23) (by decide +kernel)).trans ?_
  exact Iff.rfl
theorem r268_22 {d : Nat} {X : Nat × (Nat → Int)} {v : Nat → Int} {M : PH} {K : PV → PS → Prop} {l1 : Int} : pm_Run d 268 22 [vA 234, vI l1] [] (GF X, M, PTF v) K ↔ pm_Run d 268 23 [vA 234, vI l1] [vI 0] (GF X, M, PTF v) K := by
  refine (px_go (by decide +kernel : pm_fe 268 22 = some (.iconst 0, 1)) rfl).trans ?_
  exact Iff.rfl
theorem r268_23 {d : Nat} {X : Nat × (Nat → Int)} {v : Nat → Int} {M : PH} {K : PV → PS → Prop} {l1 s0 : Int} (h1 : s0 = 0 ∨ s0 = 1) : pm_Run d 268 23 [vA 234, vI l1] [vI s0] (GF X, M, PTF v) K ↔ K (vI s0) (GF X, M, PTF v) := by
  refine (px_rz (by decide +kernel)).trans ((and_iff_right h1).trans ?_)
  exact Iff.rfl
-- X12_harbor harbor(II)I
theorem r269_0 {d : Nat} {X : Nat × (Nat → Int)} {v : Nat → Int} {M : PH} {K : PV → PS → Prop} {l1 l2 : Int} : pm_Run d 269 0 [vA 234, vI l1, vI l2] [] (GF X, M, PTF v) K ↔ pm_Call d 229 [vA 234, vI l1] (GF X, M, PTF v) (fun r9 S1 => pm_Run d 269 5 [vA 234, vI l1, vI l2] (pm_push r9 []) S1 K) := by
  refine (px_go (by decide +kernel : pm_fe 269 0 = some (.aload_n 0, 1)) rfl).trans ?_
  refine (px_go (by decide +kernel : pm_fe 269 1 = some (.iload_n 1, 1)) rfl).trans ?_
  refine (ry_v1 (idx := 544) (m' := 229) (ci := 12) (by decide +kernel : 234 < 283 ∧ SHF 234 = (12, 76)) (by simp [pm_wl_n, pm_wl_c, pm_w] : pm_wl [] ≤ 8) (by decide +kernel)).trans ?_
  exact Iff.rfl
theorem r269_5 {d : Nat} {X : Nat × (Nat → Int)} {v : Nat → Int} {M : PH} {K : PV → PS → Prop} {l1 l2 s0 : Int} (h1 : inR s0) : pm_Run d 269 5 [vA 234, vI l1, vI l2] [vI s0] (GF X, M, PTF v) K ↔ if s0 ≠ 0 then pm_Run d 269 10 [vA 234, vI l1, vI l2] [] (GF X, M, PTF v) K else pm_Run d 269 8 [vA 234, vI l1, vI l2] [] (GF X, M, PTF v) K := by
  refine (ry_if_ne (off := 5) (tgt := 10) h1 (by decide +kernel)).trans ?_
  exact Iff.rfl
theorem r269_8 {d : Nat} {X : Nat × (Nat → Int)} {v : Nat → Int} {M : PH} {K : PV → PS → Prop} {l1 l2 : Int} : pm_Run d 269 8 [vA 234, vI l1, vI l2] [] (GF X, M, PTF v) K ↔ K (vI (-1)) (GF X, M, PTF v) := by
  refine (px_go (by decide +kernel : pm_fe 269 8 = some (.iconst (-1), 1)) rfl).trans ?_
  refine (px_ri (by decide +kernel)).trans ?_
  exact Iff.rfl
theorem r269_10 {d : Nat} {X : Nat × (Nat → Int)} {v : Nat → Int} {M : PH} {K : PV → PS → Prop} {l1 l2 : Int} (h1 : inR l2) : pm_Run d 269 10 [vA 234, vI l1, vI l2] [] (GF X, M, PTF v) K ↔ pm_Run d 269 (pm_tg 0 [64, 70, 77, 83, 90, 97, 116, 122, 129, 138] 144 l2) [vA 234, vI l1, vI l2] [] (GF X, M, PTF v) K := by
  refine (px_go (by decide +kernel : pm_fe 269 10 = some (.iload_n 2, 1)) rfl).trans ?_
  refine (ry_tsw (lo := 0) (dt := 144) (tl := [64, 70, 77, 83, 90, 97, 116, 122, 129, 138]) h1 (by decide +kernel : pm_fe 269 11 = some (.tableswitch 133 0 9 #[53, 59, 66, 72, 79, 86, 105, 111, 118, 127], 53) ∧ _)).trans ?_
  exact Iff.rfl
theorem r269_64 {d : Nat} {X : Nat × (Nat → Int)} {v : Nat → Int} {M : PH} {K : PV → PS → Prop} {l1 l2 : Int} : pm_Run d 269 64 [vA 234, vI l1, vI l2] [] (GF X, M, PTF v) K ↔ pm_Call d 230 [vA 234, vI l1] (GF X, M, PTF v) (fun r9 S1 => pm_Run d 269 69 [vA 234, vI l1, vI l2] (pm_push r9 []) S1 K) := by
  refine (px_go (by decide +kernel : pm_fe 269 64 = some (.aload_n 0, 1)) rfl).trans ?_
  refine (px_go (by decide +kernel : pm_fe 269 65 = some (.iload_n 1, 1)) rfl).trans ?_
  refine (ry_v1 (idx := 503) (m' := 230) (ci := 12) (by decide +kernel : 234 < 283 ∧ SHF 234 = (12, 76)) (by simp [pm_wl_n, pm_wl_c, pm_w] : pm_wl [] ≤ 8) (by decide +kernel)).trans ?_
  exact Iff.rfl
theorem r269_69 {d : Nat} {X : Nat × (Nat → Int)} {v : Nat → Int} {M : PH} {K : PV → PS → Prop} {l1 l2 s0 : Int} : pm_Run d 269 69 [vA 234, vI l1, vI l2] [vI s0] (GF X, M, PTF v) K ↔ K (vI s0) (GF X, M, PTF v) := by
  refine (px_ri (by decide +kernel)).trans ?_
  exact Iff.rfl
theorem r269_70 {d : Nat} {X : Nat × (Nat → Int)} {v : Nat → Int} {M : PH} {K : PV → PS → Prop} {l1 l2 : Int} (h1 : 0 ≤ l1) (h2 : l1 < 176) : pm_Run d 269 70 [vA 234, vI l1, vI l2] [] (GF X, M, PTF v) K ↔ K (vI (M 273 l1.toNat)) (GF X, M, PTF v) := by
  refine (px_go (by decide +kernel : pm_fe 269 70 = some (.aload_n 0, 1)) rfl).trans ?_
  refine (ry_get2 (idx := 186) (ci := 12) (k := 57) (by decide +kernel : 234 < 283 ∧ SHF 234 = (12, 76)) (ptf_l (a := 234) (k := 57) (n := 273) (by decide +kernel)) (by decide +kernel)).trans ?_
  refine (px_go (by decide +kernel : pm_fe 269 74 = some (.iload_n 1, 1)) rfl).trans ?_
  refine (ry_iald (by decide +kernel : 273 < 283 ∧ SHF 273 = (100, 176)) h1 h2 (by decide +kernel)).trans ?_
  refine (px_ri (by decide +kernel)).trans ?_
  exact Iff.rfl
theorem r269_77 {d : Nat} {X : Nat × (Nat → Int)} {v : Nat → Int} {M : PH} {K : PV → PS → Prop} {l1 l2 : Int} : pm_Run d 269 77 [vA 234, vI l1, vI l2] [] (GF X, M, PTF v) K ↔ pm_Call d 231 [vA 234, vI l1] (GF X, M, PTF v) (fun r9 S1 => pm_Run d 269 82 [vA 234, vI l1, vI l2] (pm_push r9 []) S1 K) := by
  refine (px_go (by decide +kernel : pm_fe 269 77 = some (.aload_n 0, 1)) rfl).trans ?_
  refine (px_go (by decide +kernel : pm_fe 269 78 = some (.iload_n 1, 1)) rfl).trans ?_
  refine (ry_v1 (idx := 454) (m' := 231) (ci := 12) (by decide +kernel : 234 < 283 ∧ SHF 234 = (12, 76)) (by simp [pm_wl_n, pm_wl_c, pm_w] : pm_wl [] ≤ 8) (by decide +kernel)).trans ?_
  exact Iff.rfl
theorem r269_82 {d : Nat} {X : Nat × (Nat → Int)} {v : Nat → Int} {M : PH} {K : PV → PS → Prop} {l1 l2 s0 : Int} : pm_Run d 269 82 [vA 234, vI l1, vI l2] [vI s0] (GF X, M, PTF v) K ↔ K (vI s0) (GF X, M, PTF v) := by
  refine (px_ri (by decide +kernel)).trans ?_
  exact Iff.rfl
theorem r269_83 {d : Nat} {X : Nat × (Nat → Int)} {v : Nat → Int} {M : PH} {K : PV → PS → Prop} {l1 l2 : Int} : pm_Run d 269 83 [vA 234, vI l1, vI l2] [] (GF X, M, PTF v) K ↔ pm_Call d 239 [vA 234, vI 0, vI l1] (GF X, M, PTF v) (fun r9 S1 => pm_Run d 269 89 [vA 234, vI l1, vI l2] (pm_push r9 []) S1 K) := by
  refine (px_go (by decide +kernel : pm_fe 269 83 = some (.aload_n 0, 1)) rfl).trans ?_
  refine (px_go (by decide +kernel : pm_fe 269 84 = some (.iconst 0, 1)) rfl).trans ?_
  refine (px_go (by decide +kernel : pm_fe 269 85 = some (.iload_n 1, 1)) rfl).trans ?_
  refine (ry_v2 (idx := 457) (m' := 239) (ci := 12) (by decide +kernel : 234 < 283 ∧ SHF 234 = (12, 76)) (by simp [pm_wl_n, pm_wl_c, pm_w] : pm_wl [] ≤ 8) (by decide +kernel)).trans ?_
  exact Iff.rfl
theorem r269_89 {d : Nat} {X : Nat × (Nat → Int)} {v : Nat → Int} {M : PH} {K : PV → PS → Prop} {l1 l2 s0 : Int} : pm_Run d 269 89 [vA 234, vI l1, vI l2] [vI s0] (GF X, M, PTF v) K ↔ K (vI s0) (GF X, M, PTF v) := by
  refine (px_ri (by decide +kernel)).trans ?_
  exact Iff.rfl
theorem r269_90 {d : Nat} {X : Nat × (Nat → Int)} {v : Nat → Int} {M : PH} {K : PV → PS → Prop} {l1 l2 : Int} : pm_Run d 269 90 [vA 234, vI l1, vI l2] [] (GF X, M, PTF v) K ↔ pm_Call d 240 [vA 234, vI 0, vI l1] (GF X, M, PTF v) (fun r9 S1 => pm_Run d 269 96 [vA 234, vI l1, vI l2] (pm_push r9 []) S1 K) := by
  refine (px_go (by decide +kernel : pm_fe 269 90 = some (.aload_n 0, 1)) rfl).trans ?_
  refine (px_go (by decide +kernel : pm_fe 269 91 = some (.iconst 0, 1)) rfl).trans ?_
  refine (px_go (by decide +kernel : pm_fe 269 92 = some (.iload_n 1, 1)) rfl).trans ?_
  refine (ry_v2 (idx := 460) (m' := 240) (ci := 12) (by decide +kernel : 234 < 283 ∧ SHF 234 = (12, 76)) (by simp [pm_wl_n, pm_wl_c, pm_w] : pm_wl [] ≤ 8) (by decide +kernel)).trans ?_
  exact Iff.rfl
theorem r269_96 {d : Nat} {X : Nat × (Nat → Int)} {v : Nat → Int} {M : PH} {K : PV → PS → Prop} {l1 l2 s0 : Int} : pm_Run d 269 96 [vA 234, vI l1, vI l2] [vI s0] (GF X, M, PTF v) K ↔ K (vI s0) (GF X, M, PTF v) := by
  refine (px_ri (by decide +kernel)).trans ?_
  exact Iff.rfl
theorem r269_97 {d : Nat} {X : Nat × (Nat → Int)} {v : Nat → Int} {M : PH} {K : PV → PS → Prop} {l1 l2 : Int} : pm_Run d 269 97 [vA 234, vI l1, vI l2] [] (GF X, M, PTF v) K ↔ pm_Call d 255 [vA 234, vI 0] (GF X, M, PTF v) (fun r9 S1 => pm_Run d 269 102 [vA 234, vI l1, vI l2] (pm_push r9 []) S1 K) := by
  refine (px_go (by decide +kernel : pm_fe 269 97 = some (.aload_n 0, 1)) rfl).trans ?_
  refine (px_go (by decide +kernel : pm_fe 269 98 = some (.iconst 0, 1)) rfl).trans ?_
  refine (ry_v1 (idx := 513) (m' := 255) (ci := 12) (by decide +kernel : 234 < 283 ∧ SHF 234 = (12, 76)) (by simp [pm_wl_n, pm_wl_c, pm_w] : pm_wl [] ≤ 8) (by decide +kernel)).trans ?_
  exact Iff.rfl
theorem r269_102 {d : Nat} {X : Nat × (Nat → Int)} {v : Nat → Int} {M : PH} {K : PV → PS → Prop} {l1 l2 : Int} : pm_Run d 269 102 [vA 234, vI l1, vI l2] [] (GF X, M, PTF v) K ↔ pm_Call d 268 [vA 234, vI l1] (GF X, M, PTF v) (fun r9 S1 => pm_Run d 269 107 [vA 234, vI l1, vI l2] (pm_push r9 []) S1 K) := by
  refine (px_go (by decide +kernel : pm_fe 269 102 = some (.aload_n 0, 1)) rfl).trans ?_
  refine (px_go (by decide +kernel : pm_fe 269 103 = some (.iload_n 1, 1)) rfl).trans ?_
  refine (ry_v1 (idx := 547) (m' := 268) (ci := 12) (by decide +kernel : 234 < 283 ∧ SHF 234 = (12, 76)) (by simp [pm_wl_n, pm_wl_c, pm_w] : pm_wl [] ≤ 8) (by decide +kernel)).trans ?_
  exact Iff.rfl
theorem r269_107 {d : Nat} {X : Nat × (Nat → Int)} {v : Nat → Int} {M : PH} {K : PV → PS → Prop} {l1 l2 s0 : Int} (h1 : inR s0) : pm_Run d 269 107 [vA 234, vI l1, vI l2] [vI s0] (GF X, M, PTF v) K ↔ if s0 = 0 then pm_Run d 269 114 [vA 234, vI l1, vI l2] [] (GF X, M, PTF v) K else pm_Run d 269 110 [vA 234, vI l1, vI l2] [] (GF X, M, PTF v) K := by
  refine (ry_if_eq (off := 7) (tgt := 114) h1 (by decide +kernel)).trans ?_
  exact Iff.rfl
theorem r269_110 {d : Nat} {X : Nat × (Nat → Int)} {v : Nat → Int} {M : PH} {K : PV → PS → Prop} {l1 l2 : Int} : pm_Run d 269 110 [vA 234, vI l1, vI l2] [] (GF X, M, PTF v) K ↔ pm_Run d 269 115 [vA 234, vI l1, vI l2] [vI 1] (GF X, M, PTF v) K := by
  refine (px_go (by decide +kernel : pm_fe 269 110 = some (.iconst 1, 1)) rfl).trans ?_
  refine (px_goto (off := 4) (tgt := 115) (by decide +kernel)).trans ?_
  exact Iff.rfl
theorem r269_114 {d : Nat} {X : Nat × (Nat → Int)} {v : Nat → Int} {M : PH} {K : PV → PS → Prop} {l1 l2 : Int} : pm_Run d 269 114 [vA 234, vI l1, vI l2] [] (GF X, M, PTF v) K ↔ pm_Run d 269 115 [vA 234, vI l1, vI l2] [vI 0] (GF X, M, PTF v) K := by
  refine (px_go (by decide +kernel : pm_fe 269 114 = some (.iconst 0, 1)) rfl).trans ?_
  exact Iff.rfl
theorem r269_115 {d : Nat} {X : Nat × (Nat → Int)} {v : Nat → Int} {M : PH} {K : PV → PS → Prop} {l1 l2 s0 : Int} : pm_Run d 269 115 [vA 234, vI l1, vI l2] [vI s0] (GF X, M, PTF v) K ↔ K (vI s0) (GF X, M, PTF v) := by
  refine (px_ri (by decide +kernel)).trans ?_
  exact Iff.rfl
theorem r269_116 {d : Nat} {X : Nat × (Nat → Int)} {v : Nat → Int} {M : PH} {K : PV → PS → Prop} {l1 l2 : Int} : pm_Run d 269 116 [vA 234, vI l1, vI l2] [] (GF X, M, PTF v) K ↔ pm_Call d 264 [vA 234, vI l1] (GF X, M, PTF v) (fun r9 S1 => pm_Run d 269 121 [vA 234, vI l1, vI l2] (pm_push r9 []) S1 K) := by
  refine (px_go (by decide +kernel : pm_fe 269 116 = some (.aload_n 0, 1)) rfl).trans ?_
  refine (px_go (by decide +kernel : pm_fe 269 117 = some (.iload_n 1, 1)) rfl).trans ?_
  refine (ry_v1 (idx := 541) (m' := 264) (ci := 12) (by decide +kernel : 234 < 283 ∧ SHF 234 = (12, 76)) (by simp [pm_wl_n, pm_wl_c, pm_w] : pm_wl [] ≤ 8) (by decide +kernel)).trans ?_
  exact Iff.rfl
theorem r269_121 {d : Nat} {X : Nat × (Nat → Int)} {v : Nat → Int} {M : PH} {K : PV → PS → Prop} {l1 l2 s0 : Int} : pm_Run d 269 121 [vA 234, vI l1, vI l2] [vI s0] (GF X, M, PTF v) K ↔ K (vI s0) (GF X, M, PTF v) := by
  refine (px_ri (by decide +kernel)).trans ?_
  exact Iff.rfl
theorem r269_122 {d : Nat} {X : Nat × (Nat → Int)} {v : Nat → Int} {M : PH} {K : PV → PS → Prop} {l1 l2 : Int} : pm_Run d 269 122 [vA 234, vI l1, vI l2] [] (GF X, M, PTF v) K ↔ pm_Call d 265 [vA 234, vI l1, vI 0] (GF X, M, PTF v) (fun r9 S1 => pm_Run d 269 128 [vA 234, vI l1, vI l2] (pm_push r9 []) S1 K) := by
  refine (px_go (by decide +kernel : pm_fe 269 122 = some (.aload_n 0, 1)) rfl).trans ?_
  refine (px_go (by decide +kernel : pm_fe 269 123 = some (.iload_n 1, 1)) rfl).trans ?_
  refine (px_go (by decide +kernel : pm_fe 269 124 = some (.iconst 0, 1)) rfl).trans ?_
  refine (ry_v2 (idx := 538) (m' := 265) (ci := 12) (by decide +kernel : 234 < 283 ∧ SHF 234 = (12, 76)) (by simp [pm_wl_n, pm_wl_c, pm_w] : pm_wl [] ≤ 8) (by decide +kernel)).trans ?_
  exact Iff.rfl
theorem r269_128 {d : Nat} {X : Nat × (Nat → Int)} {v : Nat → Int} {M : PH} {K : PV → PS → Prop} {l1 l2 s0 : Int} : pm_Run d 269 128 [vA 234, vI l1, vI l2] [vI s0] (GF X, M, PTF v) K ↔ K (vI s0) (GF X, M, PTF v) := by
  refine (px_ri (by decide +kernel)).trans ?_
  exact Iff.rfl
theorem r269_129 {d : Nat} {X : Nat × (Nat → Int)} {v : Nat → Int} {M : PH} {K : PV → PS → Prop} {l1 l2 : Int} : pm_Run d 269 129 [vA 234, vI l1, vI l2] [] (GF X, M, PTF v) K ↔ pm_Call d 266 [vA 234] (GF X, M, PTF v) (fun r9 S1 => pm_Run d 269 133 [vA 234, vI l1, vI l2] (pm_push r9 []) S1 K) := by
  refine (px_go (by decide +kernel : pm_fe 269 129 = some (.aload_n 0, 1)) rfl).trans ?_
  refine (ry_v0 (idx := 550) (m' := 266) (ci := 12) (by decide +kernel : 234 < 283 ∧ SHF 234 = (12, 76)) (by simp [pm_wl_n, pm_wl_c, pm_w] : pm_wl [] ≤ 8) (by decide +kernel)).trans ?_
  exact Iff.rfl
theorem r269_133 {d : Nat} {X : Nat × (Nat → Int)} {v : Nat → Int} {M : PH} {K : PV → PS → Prop} {l1 l2 s0 : Int} : pm_Run d 269 133 [vA 234, vI l1, vI l2] [vI s0] (GF X, M, PTF v) K ↔ K (vI (pm_and (pm_shr s0 l1) 1)) (GF X, M, PTF v) := by
  refine (px_go (by decide +kernel : pm_fe 269 133 = some (.iload_n 1, 1)) rfl).trans ?_
  refine (px_go (by decide +kernel : pm_fe 269 134 = some (.ishr, 1)) rfl).trans ?_
  refine (px_go (by decide +kernel : pm_fe 269 135 = some (.iconst 1, 1)) rfl).trans ?_
  refine (px_go (by decide +kernel : pm_fe 269 136 = some (.iand, 1)) rfl).trans ?_
  refine (px_ri (by decide +kernel)).trans ?_
  exact Iff.rfl
theorem r269_138 {d : Nat} {X : Nat × (Nat → Int)} {v : Nat → Int} {M : PH} {K : PV → PS → Prop} {l1 l2 : Int} : pm_Run d 269 138 [vA 234, vI l1, vI l2] [] (GF X, M, PTF v) K ↔ pm_Call d 267 [vA 234, vI l1] (GF X, M, PTF v) (fun r9 S1 => pm_Run d 269 143 [vA 234, vI l1, vI l2] (pm_push r9 []) S1 K) := by
  refine (px_go (by decide +kernel : pm_fe 269 138 = some (.aload_n 0, 1)) rfl).trans ?_
  refine (px_go (by decide +kernel : pm_fe 269 139 = some (.iload_n 1, 1)) rfl).trans ?_
  refine (ry_v1 (idx := 553) (m' := 267) (ci := 12) (by decide +kernel : 234 < 283 ∧ SHF 234 = (12, 76)) (by simp [pm_wl_n, pm_wl_c, pm_w] : pm_wl [] ≤ 8) (by decide +kernel)).trans ?_
  exact Iff.rfl
theorem r269_143 {d : Nat} {X : Nat × (Nat → Int)} {v : Nat → Int} {M : PH} {K : PV → PS → Prop} {l1 l2 s0 : Int} : pm_Run d 269 143 [vA 234, vI l1, vI l2] [vI s0] (GF X, M, PTF v) K ↔ K (vI s0) (GF X, M, PTF v) := by
  refine (px_ri (by decide +kernel)).trans ?_
  exact Iff.rfl
theorem r269_144 {d : Nat} {X : Nat × (Nat → Int)} {v : Nat → Int} {M : PH} {K : PV → PS → Prop} {l1 l2 : Int} : pm_Run d 269 144 [vA 234, vI l1, vI l2] [] (GF X, M, PTF v) K ↔ K (vI (-1)) (GF X, M, PTF v) := by
  refine (px_go (by decide +kernel : pm_fe 269 144 = some (.iconst (-1), 1)) rfl).trans ?_
  refine (px_ri (by decide +kernel)).trans ?_
  exact Iff.rfl
-- X12_bids bids(III)I
theorem r270_0 {d : Nat} {X : Nat × (Nat → Int)} {v : Nat → Int} {M : PH} {K : PV → PS → Prop} {l1 l2 l3 : Int} : pm_Run d 270 0 [vA 234, vI l1, vI l2, vI l3] [] (GF X, M, PTF v) K ↔ pm_Call d 229 [vA 234, vI l1] (GF X, M, PTF v) (fun r9 S1 => pm_Run d 270 5 [vA 234, vI l1, vI l2, vI l3] (pm_push r9 []) S1 K) := by
  refine (px_go (by decide +kernel : pm_fe 270 0 = some (.aload_n 0, 1)) rfl).trans ?_
  refine (px_go (by decide +kernel : pm_fe 270 1 = some (.iload_n 1, 1)) rfl).trans ?_
  refine (ry_v1 (idx := 544) (m' := 229) (ci := 12) (by decide +kernel : 234 < 283 ∧ SHF 234 = (12, 76)) (by simp [pm_wl_n, pm_wl_c, pm_w] : pm_wl [] ≤ 8) (by decide +kernel)).trans ?_
  exact Iff.rfl
theorem r270_5 {d : Nat} {X : Nat × (Nat → Int)} {v : Nat → Int} {M : PH} {K : PV → PS → Prop} {l1 l2 l3 s0 : Int} (h1 : inR s0) : pm_Run d 270 5 [vA 234, vI l1, vI l2, vI l3] [vI s0] (GF X, M, PTF v) K ↔ if s0 = 0 then pm_Run d 270 16 [vA 234, vI l1, vI l2, vI l3] [] (GF X, M, PTF v) K else pm_Run d 270 8 [vA 234, vI l1, vI l2, vI l3] [] (GF X, M, PTF v) K := by
  refine (ry_if_eq (off := 11) (tgt := 16) h1 (by decide +kernel)).trans ?_
  exact Iff.rfl
theorem r270_8 {d : Nat} {X : Nat × (Nat → Int)} {v : Nat → Int} {M : PH} {K : PV → PS → Prop} {l1 l2 l3 : Int} : pm_Run d 270 8 [vA 234, vI l1, vI l2, vI l3] [] (GF X, M, PTF v) K ↔ pm_Call d 228 [vA 234, vI l2] (GF X, M, PTF v) (fun r9 S1 => pm_Run d 270 13 [vA 234, vI l1, vI l2, vI l3] (pm_push r9 []) S1 K) := by
  refine (px_go (by decide +kernel : pm_fe 270 8 = some (.aload_n 0, 1)) rfl).trans ?_
  refine (px_go (by decide +kernel : pm_fe 270 9 = some (.iload_n 2, 1)) rfl).trans ?_
  refine (ry_v1 (idx := 535) (m' := 228) (ci := 12) (by decide +kernel : 234 < 283 ∧ SHF 234 = (12, 76)) (by simp [pm_wl_n, pm_wl_c, pm_w] : pm_wl [] ≤ 8) (by decide +kernel)).trans ?_
  exact Iff.rfl
theorem r270_13 {d : Nat} {X : Nat × (Nat → Int)} {v : Nat → Int} {M : PH} {K : PV → PS → Prop} {l1 l2 l3 s0 : Int} (h1 : inR s0) : pm_Run d 270 13 [vA 234, vI l1, vI l2, vI l3] [vI s0] (GF X, M, PTF v) K ↔ if s0 ≠ 0 then pm_Run d 270 20 [vA 234, vI l1, vI l2, vI l3] [] (GF X, M, PTF v) K else pm_Run d 270 16 [vA 234, vI l1, vI l2, vI l3] [] (GF X, M, PTF v) K := by
  refine (ry_if_ne (off := 7) (tgt := 20) h1 (by decide +kernel)).trans ?_
  exact Iff.rfl
theorem r270_16 {d : Nat} {X : Nat × (Nat → Int)} {v : Nat → Int} {M : PH} {K : PV → PS → Prop} {l1 l2 l3 : Int} : pm_Run d 270 16 [vA 234, vI l1, vI l2, vI l3] [] (GF X, M, PTF v) K ↔ pm_Run d 270 56 [vA 234, vI l1, vI l2, vI l3] [vI (-1)] (GF X, M, PTF v) K := by
  refine (px_go (by decide +kernel : pm_fe 270 16 = some (.iconst (-1), 1)) rfl).trans ?_
  refine (px_goto (off := 39) (tgt := 56) (by decide +kernel)).trans ?_
  exact Iff.rfl
theorem r270_20 {d : Nat} {X : Nat × (Nat → Int)} {v : Nat → Int} {M : PH} {K : PV → PS → Prop} {l1 l2 l3 : Int} (h1 : inR l3) : pm_Run d 270 20 [vA 234, vI l1, vI l2, vI l3] [] (GF X, M, PTF v) K ↔ if l3 ≠ 0 then pm_Run d 270 37 [vA 234, vI l1, vI l2, vI l3] [] (GF X, M, PTF v) K else pm_Run d 270 24 [vA 234, vI l1, vI l2, vI l3] [] (GF X, M, PTF v) K := by
  refine (px_go (by decide +kernel : pm_fe 270 20 = some (.iload_n 3, 1)) rfl).trans ?_
  refine (ry_if_ne (off := 16) (tgt := 37) h1 (by decide +kernel)).trans ?_
  exact Iff.rfl
theorem r270_24 {d : Nat} {X : Nat × (Nat → Int)} {v : Nat → Int} {M : PH} {K : PV → PS → Prop} {l1 l2 l3 : Int} (h1 : 0 ≤ ((3 * l1) + l2)) (h2 : ((3 * l1) + l2) < 528) : pm_Run d 270 24 [vA 234, vI l1, vI l2, vI l3] [] (GF X, M, PTF v) K ↔ pm_Run d 270 56 [vA 234, vI l1, vI l2, vI l3] [vI (M 274 ((3 * l1) + l2).toNat)] (GF X, M, PTF v) K := by
  refine (px_go (by decide +kernel : pm_fe 270 24 = some (.aload_n 0, 1)) rfl).trans ?_
  refine (ry_get2 (idx := 189) (ci := 12) (k := 58) (by decide +kernel : 234 < 283 ∧ SHF 234 = (12, 76)) (ptf_l (a := 234) (k := 58) (n := 274) (by decide +kernel)) (by decide +kernel)).trans ?_
  refine (px_go (by decide +kernel : pm_fe 270 28 = some (.iconst 3, 1)) rfl).trans ?_
  refine (px_go (by decide +kernel : pm_fe 270 29 = some (.iload_n 1, 1)) rfl).trans ?_
  refine (px_go (by decide +kernel : pm_fe 270 30 = some (.imul, 1)) rfl).trans ?_
  refine (px_go (by decide +kernel : pm_fe 270 31 = some (.iload_n 2, 1)) rfl).trans ?_
  refine (px_go (by decide +kernel : pm_fe 270 32 = some (.iadd, 1)) rfl).trans ?_
  refine (ry_iald (by decide +kernel : 274 < 283 ∧ SHF 274 = (100, 528)) h1 h2 (by decide +kernel)).trans ?_
  refine (px_goto (off := 22) (tgt := 56) (by decide +kernel)).trans ?_
  exact Iff.rfl
theorem r270_37 {d : Nat} {X : Nat × (Nat → Int)} {v : Nat → Int} {M : PH} {K : PV → PS → Prop} {l1 l2 l3 : Int} (h1 : inR l3) : pm_Run d 270 37 [vA 234, vI l1, vI l2, vI l3] [] (GF X, M, PTF v) K ↔ if l3 ≠ 1 then pm_Run d 270 55 [vA 234, vI l1, vI l2, vI l3] [] (GF X, M, PTF v) K else pm_Run d 270 42 [vA 234, vI l1, vI l2, vI l3] [] (GF X, M, PTF v) K := by
  refine (px_go (by decide +kernel : pm_fe 270 37 = some (.iload_n 3, 1)) rfl).trans ?_
  refine (px_go (by decide +kernel : pm_fe 270 38 = some (.iconst 1, 1)) rfl).trans ?_
  refine (ry_ic_ne (off := 16) (tgt := 55) h1 (by decide : (-2147483648 ≤ (1 : Int) ∧ (1 : Int) < 2147483648)) (by decide +kernel)).trans ?_
  exact Iff.rfl
theorem r270_42 {d : Nat} {X : Nat × (Nat → Int)} {v : Nat → Int} {M : PH} {K : PV → PS → Prop} {l1 l2 l3 : Int} (h1 : 0 ≤ ((3 * l1) + l2)) (h2 : ((3 * l1) + l2) < 528) : pm_Run d 270 42 [vA 234, vI l1, vI l2, vI l3] [] (GF X, M, PTF v) K ↔ pm_Run d 270 56 [vA 234, vI l1, vI l2, vI l3] [vI (M 275 ((3 * l1) + l2).toNat)] (GF X, M, PTF v) K := by
  refine (px_go (by decide +kernel : pm_fe 270 42 = some (.aload_n 0, 1)) rfl).trans ?_
  refine (ry_get2 (idx := 192) (ci := 12) (k := 59) (by decide +kernel : 234 < 283 ∧ SHF 234 = (12, 76)) (ptf_l (a := 234) (k := 59) (n := 275) (by decide +kernel)) (by decide +kernel)).trans ?_
  refine (px_go (by decide +kernel : pm_fe 270 46 = some (.iconst 3, 1)) rfl).trans ?_
  refine (px_go (by decide +kernel : pm_fe 270 47 = some (.iload_n 1, 1)) rfl).trans ?_
  refine (px_go (by decide +kernel : pm_fe 270 48 = some (.imul, 1)) rfl).trans ?_
  refine (px_go (by decide +kernel : pm_fe 270 49 = some (.iload_n 2, 1)) rfl).trans ?_
  refine (px_go (by decide +kernel : pm_fe 270 50 = some (.iadd, 1)) rfl).trans ?_
  refine (ry_iald (by decide +kernel : 275 < 283 ∧ SHF 275 = (100, 528)) h1 h2 (by decide +kernel)).trans ?_
  refine (px_goto (off := 4) (tgt := 56) (by decide +kernel)).trans ?_
  exact Iff.rfl
theorem r270_55 {d : Nat} {X : Nat × (Nat → Int)} {v : Nat → Int} {M : PH} {K : PV → PS → Prop} {l1 l2 l3 : Int} : pm_Run d 270 55 [vA 234, vI l1, vI l2, vI l3] [] (GF X, M, PTF v) K ↔ pm_Run d 270 56 [vA 234, vI l1, vI l2, vI l3] [vI (-1)] (GF X, M, PTF v) K := by
  refine (px_go (by decide +kernel : pm_fe 270 55 = some (.iconst (-1), 1)) rfl).trans ?_
  exact Iff.rfl
theorem r270_56 {d : Nat} {X : Nat × (Nat → Int)} {v : Nat → Int} {M : PH} {K : PV → PS → Prop} {l1 l2 l3 s0 : Int} : pm_Run d 270 56 [vA 234, vI l1, vI l2, vI l3] [vI s0] (GF X, M, PTF v) K ↔ K (vI s0) (GF X, M, PTF v) := by
  refine (px_ri (by decide +kernel)).trans ?_
  exact Iff.rfl
-- X12_pull pull(II)I
theorem r271_0 {d : Nat} {X : Nat × (Nat → Int)} {v : Nat → Int} {M : PH} {K : PV → PS → Prop} {l1 l2 : Int} : pm_Run d 271 0 [vA 234, vI l1, vI l2] [] (GF X, M, PTF v) K ↔ pm_Call d 228 [vA 234, vI l1] (GF X, M, PTF v) (fun r9 S1 => pm_Run d 271 5 [vA 234, vI l1, vI l2] (pm_push r9 []) S1 K) := by
  refine (px_go (by decide +kernel : pm_fe 271 0 = some (.aload_n 0, 1)) rfl).trans ?_
  refine (px_go (by decide +kernel : pm_fe 271 1 = some (.iload_n 1, 1)) rfl).trans ?_
  refine (ry_v1 (idx := 535) (m' := 228) (ci := 12) (by decide +kernel : 234 < 283 ∧ SHF 234 = (12, 76)) (by simp [pm_wl_n, pm_wl_c, pm_w] : pm_wl [] ≤ 8) (by decide +kernel)).trans ?_
  exact Iff.rfl
theorem r271_5 {d : Nat} {X : Nat × (Nat → Int)} {v : Nat → Int} {M : PH} {K : PV → PS → Prop} {l1 l2 s0 : Int} (h1 : inR s0) : pm_Run d 271 5 [vA 234, vI l1, vI l2] [vI s0] (GF X, M, PTF v) K ↔ if s0 = 0 then pm_Run d 271 26 [vA 234, vI l1, vI l2] [] (GF X, M, PTF v) K else pm_Run d 271 8 [vA 234, vI l1, vI l2] [] (GF X, M, PTF v) K := by
  refine (ry_if_eq (off := 21) (tgt := 26) h1 (by decide +kernel)).trans ?_
  exact Iff.rfl
theorem r271_8 {d : Nat} {X : Nat × (Nat → Int)} {v : Nat → Int} {M : PH} {K : PV → PS → Prop} {l1 l2 : Int} : pm_Run d 271 8 [vA 234, vI l1, vI l2] [] (GF X, M, PTF v) K ↔ pm_Call d 227 [vA 234, vI l2] (GF X, M, PTF v) (fun r9 S1 => pm_Run d 271 13 [vA 234, vI l1, vI l2] (pm_push r9 []) S1 K) := by
  refine (px_go (by decide +kernel : pm_fe 271 8 = some (.aload_n 0, 1)) rfl).trans ?_
  refine (px_go (by decide +kernel : pm_fe 271 9 = some (.iload_n 2, 1)) rfl).trans ?_
  refine (ry_v1 (idx := 556) (m' := 227) (ci := 12) (by decide +kernel : 234 < 283 ∧ SHF 234 = (12, 76)) (by simp [pm_wl_n, pm_wl_c, pm_w] : pm_wl [] ≤ 8) (by decide +kernel)).trans ?_
  exact Iff.rfl
theorem r271_13 {d : Nat} {X : Nat × (Nat → Int)} {v : Nat → Int} {M : PH} {K : PV → PS → Prop} {l1 l2 s0 : Int} (h1 : inR s0) : pm_Run d 271 13 [vA 234, vI l1, vI l2] [vI s0] (GF X, M, PTF v) K ↔ if s0 = 0 then pm_Run d 271 26 [vA 234, vI l1, vI l2] [] (GF X, M, PTF v) K else pm_Run d 271 16 [vA 234, vI l1, vI l2] [] (GF X, M, PTF v) K := by
  refine (ry_if_eq (off := 13) (tgt := 26) h1 (by decide +kernel)).trans ?_
  exact Iff.rfl
theorem r271_16 {d : Nat} {X : Nat × (Nat → Int)} {v : Nat → Int} {M : PH} {K : PV → PS → Prop} {l1 l2 : Int} : pm_Run d 271 16 [vA 234, vI l1, vI l2] [] (GF X, M, PTF v) K ↔ pm_Call d 251 [vA 234, vI 0, vI l1, vI l2] (GF X, M, PTF v) (fun r9 S1 => pm_Run d 271 23 [vA 234, vI l1, vI l2] (pm_push r9 []) S1 K) := by
  refine (px_go (by decide +kernel : pm_fe 271 16 = some (.aload_n 0, 1)) rfl).trans ?_
  refine (px_go (by decide +kernel : pm_fe 271 17 = some (.iconst 0, 1)) rfl).trans ?_
  refine (px_go (by decide +kernel : pm_fe 271 18 = some (.iload_n 1, 1)) rfl).trans ?_
  refine (px_go (by decide +kernel : pm_fe 271 19 = some (.iload_n 2, 1)) rfl).trans ?_
  refine (ry_v3 (idx := 509) (m' := 251) (ci := 12) (by decide +kernel : 234 < 283 ∧ SHF 234 = (12, 76)) (by simp [pm_wl_n, pm_wl_c, pm_w] : pm_wl [] ≤ 8) (by decide +kernel)).trans ?_
  exact Iff.rfl
theorem r271_23 {d : Nat} {X : Nat × (Nat → Int)} {v : Nat → Int} {M : PH} {K : PV → PS → Prop} {l1 l2 s0 : Int} : pm_Run d 271 23 [vA 234, vI l1, vI l2] [vI s0] (GF X, M, PTF v) K ↔ pm_Run d 271 29 [vA 234, vI l1, vI l2] [vI s0] (GF X, M, PTF v) K := by
  refine (px_goto (off := 6) (tgt := 29) (by decide +kernel)).trans ?_
  exact Iff.rfl
theorem r271_26 {d : Nat} {X : Nat × (Nat → Int)} {v : Nat → Int} {M : PH} {K : PV → PS → Prop} {l1 l2 : Int} : pm_Run d 271 26 [vA 234, vI l1, vI l2] [] (GF X, M, PTF v) K ↔ pm_Run d 271 29 [vA 234, vI l1, vI l2] [vI (-1000000000)] (GF X, M, PTF v) K := by
  refine (px_ldcI (idx := 559) (n := 3) (x := (-1000000000)) (by decide +kernel)).trans ?_
  exact Iff.rfl
theorem r271_29 {d : Nat} {X : Nat × (Nat → Int)} {v : Nat → Int} {M : PH} {K : PV → PS → Prop} {l1 l2 s0 : Int} : pm_Run d 271 29 [vA 234, vI l1, vI l2] [vI s0] (GF X, M, PTF v) K ↔ K (vI s0) (GF X, M, PTF v) := by
  refine (px_ri (by decide +kernel)).trans ?_
  exact Iff.rfl
-- X12_height height(II)I
theorem r272_0 {d : Nat} {X : Nat × (Nat → Int)} {v : Nat → Int} {M : PH} {K : PV → PS → Prop} {l1 l2 : Int} : pm_Run d 272 0 [vA 234, vI l1, vI l2] [] (GF X, M, PTF v) K ↔ pm_Call d 227 [vA 234, vI l1] (GF X, M, PTF v) (fun r9 S1 => pm_Run d 272 5 [vA 234, vI l1, vI l2] (pm_push r9 []) S1 K) := by
  refine (px_go (by decide +kernel : pm_fe 272 0 = some (.aload_n 0, 1)) rfl).trans ?_
  refine (px_go (by decide +kernel : pm_fe 272 1 = some (.iload_n 1, 1)) rfl).trans ?_
  refine (ry_v1 (idx := 556) (m' := 227) (ci := 12) (by decide +kernel : 234 < 283 ∧ SHF 234 = (12, 76)) (by simp [pm_wl_n, pm_wl_c, pm_w] : pm_wl [] ≤ 8) (by decide +kernel)).trans ?_
  exact Iff.rfl
theorem r272_5 {d : Nat} {X : Nat × (Nat → Int)} {v : Nat → Int} {M : PH} {K : PV → PS → Prop} {l1 l2 s0 : Int} (h1 : inR s0) : pm_Run d 272 5 [vA 234, vI l1, vI l2] [vI s0] (GF X, M, PTF v) K ↔ if s0 = 0 then pm_Run d 272 16 [vA 234, vI l1, vI l2] [] (GF X, M, PTF v) K else pm_Run d 272 8 [vA 234, vI l1, vI l2] [] (GF X, M, PTF v) K := by
  refine (ry_if_eq (off := 11) (tgt := 16) h1 (by decide +kernel)).trans ?_
  exact Iff.rfl
theorem r272_8 {d : Nat} {X : Nat × (Nat → Int)} {v : Nat → Int} {M : PH} {K : PV → PS → Prop} {l1 l2 : Int} : pm_Run d 272 8 [vA 234, vI l1, vI l2] [] (GF X, M, PTF v) K ↔ pm_Call d 259 [vA 234, vI l2] (GF X, M, PTF v) (fun r9 S1 => pm_Run d 272 13 [vA 234, vI l1, vI l2] (pm_push r9 []) S1 K) := by
  refine (px_go (by decide +kernel : pm_fe 272 8 = some (.aload_n 0, 1)) rfl).trans ?_
  refine (px_go (by decide +kernel : pm_fe 272 9 = some (.iload_n 2, 1)) rfl).trans ?_
  refine (ry_v1 (idx := 560) (m' := 259) (ci := 12) (by decide +kernel : 234 < 283 ∧ SHF 234 = (12, 76)) (by simp [pm_wl_n, pm_wl_c, pm_w] : pm_wl [] ≤ 8) (by decide +kernel)).trans ?_
  exact Iff.rfl
theorem r272_13 {d : Nat} {X : Nat × (Nat → Int)} {v : Nat → Int} {M : PH} {K : PV → PS → Prop} {l1 l2 s0 : Int} (h1 : inR s0) : pm_Run d 272 13 [vA 234, vI l1, vI l2] [vI s0] (GF X, M, PTF v) K ↔ if s0 ≠ 0 then pm_Run d 272 20 [vA 234, vI l1, vI l2] [] (GF X, M, PTF v) K else pm_Run d 272 16 [vA 234, vI l1, vI l2] [] (GF X, M, PTF v) K := by
  refine (ry_if_ne (off := 7) (tgt := 20) h1 (by decide +kernel)).trans ?_
  exact Iff.rfl
theorem r272_16 {d : Nat} {X : Nat × (Nat → Int)} {v : Nat → Int} {M : PH} {K : PV → PS → Prop} {l1 l2 : Int} : pm_Run d 272 16 [vA 234, vI l1, vI l2] [] (GF X, M, PTF v) K ↔ K (vI (-1000000000)) (GF X, M, PTF v) := by
  refine (px_ldcI (idx := 559) (n := 3) (x := (-1000000000)) (by decide +kernel)).trans ?_
  refine (px_ri (by decide +kernel)).trans ?_
  exact Iff.rfl
theorem r272_20 {d : Nat} {X : Nat × (Nat → Int)} {v : Nat → Int} {M : PH} {K : PV → PS → Prop} {l1 l2 : Int} : pm_Run d 272 20 [vA 234, vI l1, vI l2] [] (GF X, M, PTF v) K ↔ pm_Call d 260 [vA 234, vI l2] (GF X, M, PTF v) (fun r9 S1 => pm_Run d 272 25 [vA 234, vI l1, vI l2] (pm_push r9 []) S1 K) := by
  refine (px_go (by decide +kernel : pm_fe 272 20 = some (.aload_n 0, 1)) rfl).trans ?_
  refine (px_go (by decide +kernel : pm_fe 272 21 = some (.iload_n 2, 1)) rfl).trans ?_
  refine (ry_v1 (idx := 563) (m' := 260) (ci := 12) (by decide +kernel : 234 < 283 ∧ SHF 234 = (12, 76)) (by simp [pm_wl_n, pm_wl_c, pm_w] : pm_wl [] ≤ 8) (by decide +kernel)).trans ?_
  exact Iff.rfl
theorem r272_25 {d : Nat} {X : Nat × (Nat → Int)} {v : Nat → Int} {M : PH} {K : PV → PS → Prop} {l1 l2 : Int} (h1 : 0 ≤ l1) (h2 : l1 < 24) : pm_Run d 272 25 [vA 234, vI l1, vI l2] [] (GF X, M, PTF v) K ↔ K (vI (M 277 l1.toNat)) (GF X, M, PTF v) := by
  refine (px_go (by decide +kernel : pm_fe 272 25 = some (.aload_n 0, 1)) rfl).trans ?_
  refine (ry_get2 (idx := 219) (ci := 12) (k := 68) (by decide +kernel : 234 < 283 ∧ SHF 234 = (12, 76)) (ptf_l (a := 234) (k := 68) (n := 277) (by decide +kernel)) (by decide +kernel)).trans ?_
  refine (px_go (by decide +kernel : pm_fe 272 29 = some (.iload_n 1, 1)) rfl).trans ?_
  refine (ry_iald (by decide +kernel : 277 < 283 ∧ SHF 277 = (100, 24)) h1 h2 (by decide +kernel)).trans ?_
  refine (px_ri (by decide +kernel)).trans ?_
  exact Iff.rfl
-- X12_ahead_ ahead(III)I
theorem r273_0 {d : Nat} {X : Nat × (Nat → Int)} {v : Nat → Int} {M : PH} {K : PV → PS → Prop} {l1 l2 l3 : Int} : pm_Run d 273 0 [vA 234, vI l1, vI l2, vI l3] [] (GF X, M, PTF v) K ↔ pm_Call d 229 [vA 234, vI l1] (GF X, M, PTF v) (fun r9 S1 => pm_Run d 273 5 [vA 234, vI l1, vI l2, vI l3] (pm_push r9 []) S1 K) := by
  refine (px_go (by decide +kernel : pm_fe 273 0 = some (.aload_n 0, 1)) rfl).trans ?_
  refine (px_go (by decide +kernel : pm_fe 273 1 = some (.iload_n 1, 1)) rfl).trans ?_
  refine (ry_v1 (idx := 544) (m' := 229) (ci := 12) (by decide +kernel : 234 < 283 ∧ SHF 234 = (12, 76)) (by simp [pm_wl_n, pm_wl_c, pm_w] : pm_wl [] ≤ 8) (by decide +kernel)).trans ?_
  exact Iff.rfl
theorem r273_5 {d : Nat} {X : Nat × (Nat → Int)} {v : Nat → Int} {M : PH} {K : PV → PS → Prop} {l1 l2 l3 s0 : Int} (h1 : inR s0) : pm_Run d 273 5 [vA 234, vI l1, vI l2, vI l3] [vI s0] (GF X, M, PTF v) K ↔ if s0 = 0 then pm_Run d 273 25 [vA 234, vI l1, vI l2, vI l3] [] (GF X, M, PTF v) K else pm_Run d 273 8 [vA 234, vI l1, vI l2, vI l3] [] (GF X, M, PTF v) K := by
  refine (ry_if_eq (off := 20) (tgt := 25) h1 (by decide +kernel)).trans ?_
  exact Iff.rfl
theorem r273_8 {d : Nat} {X : Nat × (Nat → Int)} {v : Nat → Int} {M : PH} {K : PV → PS → Prop} {l1 l2 l3 : Int} : pm_Run d 273 8 [vA 234, vI l1, vI l2, vI l3] [] (GF X, M, PTF v) K ↔ pm_Call d 259 [vA 234, vI l2] (GF X, M, PTF v) (fun r9 S1 => pm_Run d 273 13 [vA 234, vI l1, vI l2, vI l3] (pm_push r9 []) S1 K) := by
  refine (px_go (by decide +kernel : pm_fe 273 8 = some (.aload_n 0, 1)) rfl).trans ?_
  refine (px_go (by decide +kernel : pm_fe 273 9 = some (.iload_n 2, 1)) rfl).trans ?_
  refine (ry_v1 (idx := 560) (m' := 259) (ci := 12) (by decide +kernel : 234 < 283 ∧ SHF 234 = (12, 76)) (by simp [pm_wl_n, pm_wl_c, pm_w] : pm_wl [] ≤ 8) (by decide +kernel)).trans ?_
  exact Iff.rfl
theorem r273_13 {d : Nat} {X : Nat × (Nat → Int)} {v : Nat → Int} {M : PH} {K : PV → PS → Prop} {l1 l2 l3 s0 : Int} (h1 : inR s0) : pm_Run d 273 13 [vA 234, vI l1, vI l2, vI l3] [vI s0] (GF X, M, PTF v) K ↔ if s0 = 0 then pm_Run d 273 25 [vA 234, vI l1, vI l2, vI l3] [] (GF X, M, PTF v) K else pm_Run d 273 16 [vA 234, vI l1, vI l2, vI l3] [] (GF X, M, PTF v) K := by
  refine (ry_if_eq (off := 12) (tgt := 25) h1 (by decide +kernel)).trans ?_
  exact Iff.rfl
theorem r273_16 {d : Nat} {X : Nat × (Nat → Int)} {v : Nat → Int} {M : PH} {K : PV → PS → Prop} {l1 l2 l3 : Int} : pm_Run d 273 16 [vA 234, vI l1, vI l2, vI l3] [] (GF X, M, PTF v) K ↔ pm_Call d 179 [vI l3, vI 0, vI 2] (GF X, M, PTF v) (fun r9 S1 => pm_Run d 273 22 [vA 234, vI l1, vI l2, vI l3] (pm_push r9 []) S1 K) := by
  refine (px_go (by decide +kernel : pm_fe 273 16 = some (.iload_n 3, 1)) rfl).trans ?_
  refine (px_go (by decide +kernel : pm_fe 273 17 = some (.iconst 0, 1)) rfl).trans ?_
  refine (px_go (by decide +kernel : pm_fe 273 18 = some (.iconst 2, 1)) rfl).trans ?_
  refine (px_s3 (idx := 337) (m' := 179) (nest := 0) (by decide +kernel)).trans ((and_iff_right (by simp [pm_wl_n, pm_wl_c, pm_w] : pm_wl [] ≤ 8)).trans ?_)
  exact Iff.rfl
theorem r273_22 {d : Nat} {X : Nat × (Nat → Int)} {v : Nat → Int} {M : PH} {K : PV → PS → Prop} {l1 l2 l3 s0 : Int} (h1 : inR s0) : pm_Run d 273 22 [vA 234, vI l1, vI l2, vI l3] [vI s0] (GF X, M, PTF v) K ↔ if s0 ≠ 0 then pm_Run d 273 27 [vA 234, vI l1, vI l2, vI l3] [] (GF X, M, PTF v) K else pm_Run d 273 25 [vA 234, vI l1, vI l2, vI l3] [] (GF X, M, PTF v) K := by
  refine (ry_if_ne (off := 5) (tgt := 27) h1 (by decide +kernel)).trans ?_
  exact Iff.rfl
theorem r273_25 {d : Nat} {X : Nat × (Nat → Int)} {v : Nat → Int} {M : PH} {K : PV → PS → Prop} {l1 l2 l3 : Int} : pm_Run d 273 25 [vA 234, vI l1, vI l2, vI l3] [] (GF X, M, PTF v) K ↔ K (vI (-1)) (GF X, M, PTF v) := by
  refine (px_go (by decide +kernel : pm_fe 273 25 = some (.iconst (-1), 1)) rfl).trans ?_
  refine (px_ri (by decide +kernel)).trans ?_
  exact Iff.rfl
theorem r273_27 {d : Nat} {X : Nat × (Nat → Int)} {v : Nat → Int} {M : PH} {K : PV → PS → Prop} {l1 l2 l3 : Int} : pm_Run d 273 27 [vA 234, vI l1, vI l2, vI l3] [] (GF X, M, PTF v) K ↔ pm_Call d 260 [vA 234, vI l2] (GF X, M, PTF v) (fun r9 S1 => pm_Run d 273 32 [vA 234, vI l1, vI l2, vI l3] (pm_push r9 []) S1 K) := by
  refine (px_go (by decide +kernel : pm_fe 273 27 = some (.aload_n 0, 1)) rfl).trans ?_
  refine (px_go (by decide +kernel : pm_fe 273 28 = some (.iload_n 2, 1)) rfl).trans ?_
  refine (ry_v1 (idx := 563) (m' := 260) (ci := 12) (by decide +kernel : 234 < 283 ∧ SHF 234 = (12, 76)) (by simp [pm_wl_n, pm_wl_c, pm_w] : pm_wl [] ≤ 8) (by decide +kernel)).trans ?_
  exact Iff.rfl
theorem r273_32 {d : Nat} {X : Nat × (Nat → Int)} {v : Nat → Int} {M : PH} {K : PV → PS → Prop} {l1 l2 l3 : Int} (h1 : inR l3) : pm_Run d 273 32 [vA 234, vI l1, vI l2, vI l3] [] (GF X, M, PTF v) K ↔ if l3 ≠ 0 then pm_Run d 273 48 [vA 234, vI l1, vI l2, vI l3] [] (GF X, M, PTF v) K else pm_Run d 273 36 [vA 234, vI l1, vI l2, vI l3] [] (GF X, M, PTF v) K := by
  refine (px_go (by decide +kernel : pm_fe 273 32 = some (.iload_n 3, 1)) rfl).trans ?_
  refine (ry_if_ne (off := 15) (tgt := 48) h1 (by decide +kernel)).trans ?_
  exact Iff.rfl
theorem r273_36 {d : Nat} {X : Nat × (Nat → Int)} {v : Nat → Int} {M : PH} {K : PV → PS → Prop} {l1 l2 l3 : Int} (h1 : 0 ≤ (8 + l1)) (h2 : (8 + l1) < 176) : pm_Run d 273 36 [vA 234, vI l1, vI l2, vI l3] [] (GF X, M, PTF v) K ↔ pm_Run d 273 75 [vA 234, vI l1, vI l2, vI l3] [vI (M 273 (8 + l1).toNat)] (GF X, M, PTF v) K := by
  refine (px_go (by decide +kernel : pm_fe 273 36 = some (.aload_n 0, 1)) rfl).trans ?_
  refine (ry_get2 (idx := 186) (ci := 12) (k := 57) (by decide +kernel : 234 < 283 ∧ SHF 234 = (12, 76)) (ptf_l (a := 234) (k := 57) (n := 273) (by decide +kernel)) (by decide +kernel)).trans ?_
  refine (px_go (by decide +kernel : pm_fe 273 40 = some (.bipush 8, 2)) rfl).trans ?_
  refine (px_go (by decide +kernel : pm_fe 273 42 = some (.iload_n 1, 1)) rfl).trans ?_
  refine (px_go (by decide +kernel : pm_fe 273 43 = some (.iadd, 1)) rfl).trans ?_
  refine (ry_iald (by decide +kernel : 273 < 283 ∧ SHF 273 = (100, 176)) h1 h2 (by decide +kernel)).trans ?_
  refine (px_goto (off := 30) (tgt := 75) (by decide +kernel)).trans ?_
  exact Iff.rfl
theorem r273_48 {d : Nat} {X : Nat × (Nat → Int)} {v : Nat → Int} {M : PH} {K : PV → PS → Prop} {l1 l2 l3 : Int} (h1 : inR l3) : pm_Run d 273 48 [vA 234, vI l1, vI l2, vI l3] [] (GF X, M, PTF v) K ↔ if l3 ≠ 1 then pm_Run d 273 69 [vA 234, vI l1, vI l2, vI l3] [] (GF X, M, PTF v) K else pm_Run d 273 53 [vA 234, vI l1, vI l2, vI l3] [] (GF X, M, PTF v) K := by
  refine (px_go (by decide +kernel : pm_fe 273 48 = some (.iload_n 3, 1)) rfl).trans ?_
  refine (px_go (by decide +kernel : pm_fe 273 49 = some (.iconst 1, 1)) rfl).trans ?_
  refine (ry_ic_ne (off := 19) (tgt := 69) h1 (by decide : (-2147483648 ≤ (1 : Int) ∧ (1 : Int) < 2147483648)) (by decide +kernel)).trans ?_
  exact Iff.rfl
theorem r273_53 {d : Nat} {X : Nat × (Nat → Int)} {v : Nat → Int} {M : PH} {K : PV → PS → Prop} {l1 l2 l3 : Int} : pm_Run d 273 53 [vA 234, vI l1, vI l2, vI l3] [] (GF X, M, PTF v) K ↔ pm_Call d 268 [vA 234, vI l1] (GF X, M, PTF v) (fun r9 S1 => pm_Run d 273 58 [vA 234, vI l1, vI l2, vI l3] (pm_push r9 []) S1 K) := by
  refine (px_go (by decide +kernel : pm_fe 273 53 = some (.aload_n 0, 1)) rfl).trans ?_
  refine (px_go (by decide +kernel : pm_fe 273 54 = some (.iload_n 1, 1)) rfl).trans ?_
  refine (ry_v1 (idx := 547) (m' := 268) (ci := 12) (by decide +kernel : 234 < 283 ∧ SHF 234 = (12, 76)) (by simp [pm_wl_n, pm_wl_c, pm_w] : pm_wl [] ≤ 8) (by decide +kernel)).trans ?_
  exact Iff.rfl
theorem r273_58 {d : Nat} {X : Nat × (Nat → Int)} {v : Nat → Int} {M : PH} {K : PV → PS → Prop} {l1 l2 l3 s0 : Int} (h1 : inR s0) : pm_Run d 273 58 [vA 234, vI l1, vI l2, vI l3] [vI s0] (GF X, M, PTF v) K ↔ if s0 = 0 then pm_Run d 273 65 [vA 234, vI l1, vI l2, vI l3] [] (GF X, M, PTF v) K else pm_Run d 273 61 [vA 234, vI l1, vI l2, vI l3] [] (GF X, M, PTF v) K := by
  refine (ry_if_eq (off := 7) (tgt := 65) h1 (by decide +kernel)).trans ?_
  exact Iff.rfl
theorem r273_61 {d : Nat} {X : Nat × (Nat → Int)} {v : Nat → Int} {M : PH} {K : PV → PS → Prop} {l1 l2 l3 : Int} : pm_Run d 273 61 [vA 234, vI l1, vI l2, vI l3] [] (GF X, M, PTF v) K ↔ pm_Run d 273 75 [vA 234, vI l1, vI l2, vI l3] [vI 1] (GF X, M, PTF v) K := by
  refine (px_go (by decide +kernel : pm_fe 273 61 = some (.iconst 1, 1)) rfl).trans ?_
  refine (px_goto (off := 13) (tgt := 75) (by decide +kernel)).trans ?_
  exact Iff.rfl
theorem r273_65 {d : Nat} {X : Nat × (Nat → Int)} {v : Nat → Int} {M : PH} {K : PV → PS → Prop} {l1 l2 l3 : Int} : pm_Run d 273 65 [vA 234, vI l1, vI l2, vI l3] [] (GF X, M, PTF v) K ↔ pm_Run d 273 75 [vA 234, vI l1, vI l2, vI l3] [vI 0] (GF X, M, PTF v) K := by
  refine (px_go (by decide +kernel : pm_fe 273 65 = some (.iconst 0, 1)) rfl).trans ?_
  refine (px_goto (off := 9) (tgt := 75) (by decide +kernel)).trans ?_
  exact Iff.rfl
theorem r273_69 {d : Nat} {X : Nat × (Nat → Int)} {v : Nat → Int} {M : PH} {K : PV → PS → Prop} {l1 l2 l3 : Int} : pm_Run d 273 69 [vA 234, vI l1, vI l2, vI l3] [] (GF X, M, PTF v) K ↔ pm_Call d 240 [vA 234, vI 1, vI l1] (GF X, M, PTF v) (fun r9 S1 => pm_Run d 273 75 [vA 234, vI l1, vI l2, vI l3] (pm_push r9 []) S1 K) := by
  refine (px_go (by decide +kernel : pm_fe 273 69 = some (.aload_n 0, 1)) rfl).trans ?_
  refine (px_go (by decide +kernel : pm_fe 273 70 = some (.iconst 1, 1)) rfl).trans ?_
  refine (px_go (by decide +kernel : pm_fe 273 71 = some (.iload_n 1, 1)) rfl).trans ?_
  refine (ry_v2 (idx := 460) (m' := 240) (ci := 12) (by decide +kernel : 234 < 283 ∧ SHF 234 = (12, 76)) (by simp [pm_wl_n, pm_wl_c, pm_w] : pm_wl [] ≤ 8) (by decide +kernel)).trans ?_
  exact Iff.rfl
theorem r273_75 {d : Nat} {X : Nat × (Nat → Int)} {v : Nat → Int} {M : PH} {K : PV → PS → Prop} {l1 l2 l3 s0 : Int} : pm_Run d 273 75 [vA 234, vI l1, vI l2, vI l3] [vI s0] (GF X, M, PTF v) K ↔ K (vI s0) (GF X, M, PTF v) := by
  refine (px_ri (by decide +kernel)).trans ?_
  exact Iff.rfl
-- X12_broken broken(I)I
theorem r274_0 {d : Nat} {X : Nat × (Nat → Int)} {v : Nat → Int} {M : PH} {K : PV → PS → Prop} {l1 : Int} : pm_Run d 274 0 [vA 234, vI l1, PU, PU, PU] [] (GF X, M, PTF v) K ↔ pm_Call d 179 [vI l1, vI 0, vI 2] (GF X, M, PTF v) (fun r9 S1 => pm_Run d 274 6 [vA 234, vI l1, PU, PU, PU] (pm_push r9 []) S1 K) := by
  refine (px_go (by decide +kernel : pm_fe 274 0 = some (.iload_n 1, 1)) rfl).trans ?_
  refine (px_go (by decide +kernel : pm_fe 274 1 = some (.iconst 0, 1)) rfl).trans ?_
  refine (px_go (by decide +kernel : pm_fe 274 2 = some (.iconst 2, 1)) rfl).trans ?_
  refine (px_s3 (idx := 337) (m' := 179) (nest := 0) (by decide +kernel)).trans ((and_iff_right (by simp [pm_wl_n, pm_wl_c, pm_w] : pm_wl [] ≤ 8)).trans ?_)
  exact Iff.rfl
theorem r274_6 {d : Nat} {X : Nat × (Nat → Int)} {v : Nat → Int} {M : PH} {K : PV → PS → Prop} {l1 s0 : Int} (h1 : inR s0) : pm_Run d 274 6 [vA 234, vI l1, PU, PU, PU] [vI s0] (GF X, M, PTF v) K ↔ if s0 = 0 then pm_Run d 274 16 [vA 234, vI l1, PU, PU, PU] [] (GF X, M, PTF v) K else pm_Run d 274 9 [vA 234, vI l1, PU, PU, PU] [] (GF X, M, PTF v) K := by
  refine (ry_if_eq (off := 10) (tgt := 16) h1 (by decide +kernel)).trans ?_
  exact Iff.rfl
theorem r274_9 {d : Nat} {X : Nat × (Nat → Int)} {v : Nat → Int} {M : PH} {K : PV → PS → Prop} {l1 : Int} : pm_Run d 274 9 [vA 234, vI l1, PU, PU, PU] [] (GF X, M, PTF v) K ↔ pm_Call d 226 [vA 234] (GF X, M, PTF v) (fun r9 S1 => pm_Run d 274 13 [vA 234, vI l1, PU, PU, PU] (pm_push r9 []) S1 K) := by
  refine (px_go (by decide +kernel : pm_fe 274 9 = some (.aload_n 0, 1)) rfl).trans ?_
  refine (ry_v0 (idx := 523) (m' := 226) (ci := 12) (by decide +kernel : 234 < 283 ∧ SHF 234 = (12, 76)) (by simp [pm_wl_n, pm_wl_c, pm_w] : pm_wl [] ≤ 8) (by decide +kernel)).trans ?_
  exact Iff.rfl
theorem r274_13 {d : Nat} {X : Nat × (Nat → Int)} {v : Nat → Int} {M : PH} {K : PV → PS → Prop} {l1 s0 : Int} (h1 : inR s0) : pm_Run d 274 13 [vA 234, vI l1, PU, PU, PU] [vI s0] (GF X, M, PTF v) K ↔ if s0 ≠ 0 then pm_Run d 274 18 [vA 234, vI l1, PU, PU, PU] [] (GF X, M, PTF v) K else pm_Run d 274 16 [vA 234, vI l1, PU, PU, PU] [] (GF X, M, PTF v) K := by
  refine (ry_if_ne (off := 5) (tgt := 18) h1 (by decide +kernel)).trans ?_
  exact Iff.rfl
theorem r274_16 {d : Nat} {X : Nat × (Nat → Int)} {v : Nat → Int} {M : PH} {K : PV → PS → Prop} {l1 : Int} : pm_Run d 274 16 [vA 234, vI l1, PU, PU, PU] [] (GF X, M, PTF v) K ↔ K (vI (-1)) (GF X, M, PTF v) := by
  refine (px_go (by decide +kernel : pm_fe 274 16 = some (.iconst (-1), 1)) rfl).trans ?_
  refine (px_ri (by decide +kernel)).trans ?_
  exact Iff.rfl
theorem r274_18 {d : Nat} {X : Nat × (Nat → Int)} {v : Nat → Int} {M : PH} {K : PV → PS → Prop} {l1 : Int} : pm_Run d 274 18 [vA 234, vI l1, PU, PU, PU] [] (GF X, M, PTF v) K ↔ pm_Call d 232 [vA 234, vI 1, vI 0] (GF X, M, PTF v) (fun r9 S1 => pm_Run d 274 24 [vA 234, vI l1, PU, PU, PU] (pm_push r9 []) S1 K) := by
  refine (px_go (by decide +kernel : pm_fe 274 18 = some (.aload_n 0, 1)) rfl).trans ?_
  refine (px_go (by decide +kernel : pm_fe 274 19 = some (.iconst 1, 1)) rfl).trans ?_
  refine (px_go (by decide +kernel : pm_fe 274 20 = some (.iconst 0, 1)) rfl).trans ?_
  refine (ry_v2 (idx := 445) (m' := 232) (ci := 12) (by decide +kernel : 234 < 283 ∧ SHF 234 = (12, 76)) (by simp [pm_wl_n, pm_wl_c, pm_w] : pm_wl [] ≤ 8) (by decide +kernel)).trans ?_
  exact Iff.rfl
theorem r274_24 {d : Nat} {X : Nat × (Nat → Int)} {v : Nat → Int} {M : PH} {K : PV → PS → Prop} {l1 : Int} : pm_Run d 274 24 [vA 234, vI l1, PU, PU, PU] [] (GF X, M, PTF v) K ↔ pm_Run d 274 26 [vA 234, vI l1, vI 0, PU, PU] [] (GF X, M, PTF v) K := by
  refine (px_go (by decide +kernel : pm_fe 274 24 = some (.iconst 0, 1)) rfl).trans ?_
  refine (px_go (by decide +kernel : pm_fe 274 25 = some (.istore_n 2, 1)) rfl).trans ?_
  exact Iff.rfl
theorem r274_26 {d : Nat} {X : Nat × (Nat → Int)} {v : Nat → Int} {M : PH} {K : PV → PS → Prop} {l1 l2 : Int} {l3 l4 : PV} : pm_Run d 274 26 [vA 234, vI l1, vI l2, l3, l4] [] (GF X, M, PTF v) K ↔ pm_Call d 258 [vA 234] (GF X, M, PTF v) (fun r9 S1 => pm_Run d 274 31 [vA 234, vI l1, vI l2, l3, l4] (pm_push r9 [vI l2]) S1 K) := by
  refine (px_go (by decide +kernel : pm_fe 274 26 = some (.iload_n 2, 1)) rfl).trans ?_
  refine (px_go (by decide +kernel : pm_fe 274 27 = some (.aload_n 0, 1)) rfl).trans ?_
  refine (ry_v0 (idx := 526) (m' := 258) (ci := 12) (by decide +kernel : 234 < 283 ∧ SHF 234 = (12, 76)) (by simp [pm_wl_n, pm_wl_c, pm_w] : pm_wl [vI l2] ≤ 8) (by decide +kernel)).trans ?_
  exact Iff.rfl
theorem r274_31 {d : Nat} {X : Nat × (Nat → Int)} {v : Nat → Int} {M : PH} {K : PV → PS → Prop} {l1 l2 s0 s1 : Int} {l3 l4 : PV} (h1 : inR s1) (h2 : inR s0) : pm_Run d 274 31 [vA 234, vI l1, vI l2, l3, l4] [vI s0, vI s1] (GF X, M, PTF v) K ↔ if s0 < s1 then pm_Run d 274 125 [vA 234, vI l1, vI l2, l3, l4] [] (GF X, M, PTF v) K else pm_Run d 274 34 [vA 234, vI l1, vI l2, l3, l4] [] (GF X, M, PTF v) K := by
  refine (ry_ic_gt (off := 94) (tgt := 125) h1 h2 (by decide +kernel)).trans ?_
  exact Iff.rfl
theorem r274_34 {d : Nat} {X : Nat × (Nat → Int)} {v : Nat → Int} {M : PH} {K : PV → PS → Prop} {l1 l2 : Int} {l3 l4 : PV} : pm_Run d 274 34 [vA 234, vI l1, vI l2, l3, l4] [] (GF X, M, PTF v) K ↔ pm_Call d 255 [vA 234, vI 1] (GF X, M, PTF v) (fun r9 S1 => pm_Run d 274 39 [vA 234, vI l1, vI l2, l3, l4] (pm_push r9 []) S1 K) := by
  refine (px_go (by decide +kernel : pm_fe 274 34 = some (.aload_n 0, 1)) rfl).trans ?_
  refine (px_go (by decide +kernel : pm_fe 274 35 = some (.iconst 1, 1)) rfl).trans ?_
  refine (ry_v1 (idx := 513) (m' := 255) (ci := 12) (by decide +kernel : 234 < 283 ∧ SHF 234 = (12, 76)) (by simp [pm_wl_n, pm_wl_c, pm_w] : pm_wl [] ≤ 8) (by decide +kernel)).trans ?_
  exact Iff.rfl
theorem r274_39 {d : Nat} {X : Nat × (Nat → Int)} {v : Nat → Int} {M : PH} {K : PV → PS → Prop} {l1 l2 : Int} {l3 l4 : PV} : pm_Run d 274 39 [vA 234, vI l1, vI l2, l3, l4] [] (GF X, M, PTF v) K ↔ pm_Run d 274 41 [vA 234, vI l1, vI l2, vI 0, l4] [] (GF X, M, PTF v) K := by
  refine (px_go (by decide +kernel : pm_fe 274 39 = some (.iconst 0, 1)) rfl).trans ?_
  refine (px_go (by decide +kernel : pm_fe 274 40 = some (.istore_n 3, 1)) rfl).trans ?_
  exact Iff.rfl
theorem r274_41 {d : Nat} {X : Nat × (Nat → Int)} {v : Nat → Int} {M : PH} {K : PV → PS → Prop} {l1 l2 l3 : Int} {l4 : PV} (h1 : 0 ≤ (M 234 13)) (h2 : (M 234 13) < 2) (h3 : inR l3) (h4 : inR (M 241 (M 234 13).toNat)) : pm_Run d 274 41 [vA 234, vI l1, vI l2, vI l3, l4] [] (GF X, M, PTF v) K ↔ if M 241 (M 234 13).toNat ≤ l3 then pm_Run d 274 114 [vA 234, vI l1, vI l2, vI l3, l4] [] (GF X, M, PTF v) K else pm_Run d 274 54 [vA 234, vI l1, vI l2, vI l3, l4] [] (GF X, M, PTF v) K := by
  refine (px_go (by decide +kernel : pm_fe 274 41 = some (.iload_n 3, 1)) rfl).trans ?_
  refine (px_go (by decide +kernel : pm_fe 274 42 = some (.aload_n 0, 1)) rfl).trans ?_
  refine (ry_get2 (idx := 69) (ci := 12) (k := 19) (by decide +kernel : 234 < 283 ∧ SHF 234 = (12, 76)) (ptf_l (a := 234) (k := 19) (n := 241) (by decide +kernel)) (by decide +kernel)).trans ?_
  refine (px_go (by decide +kernel : pm_fe 274 46 = some (.aload_n 0, 1)) rfl).trans ?_
  refine (ry_get0 (idx := 51) (ci := 12) (k := 13) (by decide +kernel : 234 < 283 ∧ SHF 234 = (12, 76)) (by decide +kernel)).trans ?_
  refine (ry_iald (by decide +kernel : 241 < 283 ∧ SHF 241 = (100, 2)) h1 h2 (by decide +kernel)).trans ?_
  refine (ry_ic_ge (off := 63) (tgt := 114) h3 h4 (by decide +kernel)).trans ?_
  exact Iff.rfl
theorem r274_54 {d : Nat} {X : Nat × (Nat → Int)} {v : Nat → Int} {M : PH} {K : PV → PS → Prop} {l1 l2 l3 : Int} {l4 : PV} : pm_Run d 274 54 [vA 234, vI l1, vI l2, vI l3, l4] [] (GF X, M, PTF v) K ↔ pm_Run d 274 57 [vA 234, vI l1, vI l2, vI l3, vI 0] [] (GF X, M, PTF v) K := by
  refine (px_go (by decide +kernel : pm_fe 274 54 = some (.iconst 0, 1)) rfl).trans ?_
  refine (px_go (by decide +kernel : pm_fe 274 55 = some (.istore 4, 2)) rfl).trans ?_
  exact Iff.rfl
theorem r274_57 {d : Nat} {X : Nat × (Nat → Int)} {v : Nat → Int} {M : PH} {K : PV → PS → Prop} {l1 l2 l3 l4 : Int} (h1 : 0 ≤ (M 234 13)) (h2 : (M 234 13) < 2) (h3 : inR l4) (h4 : inR (M 250 (M 234 13).toNat)) : pm_Run d 274 57 [vA 234, vI l1, vI l2, vI l3, vI l4] [] (GF X, M, PTF v) K ↔ if M 250 (M 234 13).toNat ≤ l4 then pm_Run d 274 108 [vA 234, vI l1, vI l2, vI l3, vI l4] [] (GF X, M, PTF v) K else pm_Run d 274 71 [vA 234, vI l1, vI l2, vI l3, vI l4] [] (GF X, M, PTF v) K := by
  refine (px_go (by decide +kernel : pm_fe 274 57 = some (.iload 4, 2)) rfl).trans ?_
  refine (px_go (by decide +kernel : pm_fe 274 59 = some (.aload_n 0, 1)) rfl).trans ?_
  refine (ry_get2 (idx := 96) (ci := 12) (k := 28) (by decide +kernel : 234 < 283 ∧ SHF 234 = (12, 76)) (ptf_l (a := 234) (k := 28) (n := 250) (by decide +kernel)) (by decide +kernel)).trans ?_
  refine (px_go (by decide +kernel : pm_fe 274 63 = some (.aload_n 0, 1)) rfl).trans ?_
  refine (ry_get0 (idx := 51) (ci := 12) (k := 13) (by decide +kernel : 234 < 283 ∧ SHF 234 = (12, 76)) (by decide +kernel)).trans ?_
  refine (ry_iald (by decide +kernel : 250 < 283 ∧ SHF 250 = (100, 2)) h1 h2 (by decide +kernel)).trans ?_
  refine (ry_ic_ge (off := 40) (tgt := 108) h3 h4 (by decide +kernel)).trans ?_
  exact Iff.rfl
theorem r274_71 {d : Nat} {X : Nat × (Nat → Int)} {v : Nat → Int} {M : PH} {K : PV → PS → Prop} {l1 l2 l3 l4 : Int} : pm_Run d 274 71 [vA 234, vI l1, vI l2, vI l3, vI l4] [] (GF X, M, PTF v) K ↔ pm_Call d 254 [vA 234, vI 1, vI l3, vI l4] (GF X, M, PTF v) (fun r9 S1 => pm_Run d 274 79 [vA 234, vI l1, vI l2, vI l3, vI l4] (pm_push r9 []) S1 K) := by
  refine (px_go (by decide +kernel : pm_fe 274 71 = some (.aload_n 0, 1)) rfl).trans ?_
  refine (px_go (by decide +kernel : pm_fe 274 72 = some (.iconst 1, 1)) rfl).trans ?_
  refine (px_go (by decide +kernel : pm_fe 274 73 = some (.iload_n 3, 1)) rfl).trans ?_
  refine (px_go (by decide +kernel : pm_fe 274 74 = some (.iload 4, 2)) rfl).trans ?_
  refine (ry_v3 (idx := 566) (m' := 254) (ci := 12) (by decide +kernel : 234 < 283 ∧ SHF 234 = (12, 76)) (by simp [pm_wl_n, pm_wl_c, pm_w] : pm_wl [] ≤ 8) (by decide +kernel)).trans ?_
  exact Iff.rfl
theorem r274_79 {d : Nat} {X : Nat × (Nat → Int)} {v : Nat → Int} {M : PH} {K : PV → PS → Prop} {l1 l2 l3 l4 s0 : Int} (h1 : inR s0) : pm_Run d 274 79 [vA 234, vI l1, vI l2, vI l3, vI l4] [vI s0] (GF X, M, PTF v) K ↔ if s0 = 0 then pm_Run d 274 102 [vA 234, vI l1, vI l2, vI l3, vI l4] [] (GF X, M, PTF v) K else pm_Run d 274 82 [vA 234, vI l1, vI l2, vI l3, vI l4] [] (GF X, M, PTF v) K := by
  refine (ry_if_eq (off := 23) (tgt := 102) h1 (by decide +kernel)).trans ?_
  exact Iff.rfl
theorem r274_82 {d : Nat} {X : Nat × (Nat → Int)} {v : Nat → Int} {M : PH} {K : PV → PS → Prop} {l1 l2 l3 l4 : Int} (h1 : inR l1) : pm_Run d 274 82 [vA 234, vI l1, vI l2, vI l3, vI l4] [] (GF X, M, PTF v) K ↔ if l1 ≠ 0 then pm_Run d 274 90 [vA 234, vI l1, vI l2, vI l3, vI l4] [] (GF X, M, PTF v) K else pm_Run d 274 86 [vA 234, vI l1, vI l2, vI l3, vI l4] [] (GF X, M, PTF v) K := by
  refine (px_go (by decide +kernel : pm_fe 274 82 = some (.iload_n 1, 1)) rfl).trans ?_
  refine (ry_if_ne (off := 7) (tgt := 90) h1 (by decide +kernel)).trans ?_
  exact Iff.rfl
theorem r274_86 {d : Nat} {X : Nat × (Nat → Int)} {v : Nat → Int} {M : PH} {K : PV → PS → Prop} {l1 l2 l3 l4 : Int} : pm_Run d 274 86 [vA 234, vI l1, vI l2, vI l3, vI l4] [] (GF X, M, PTF v) K ↔ pm_Run d 274 101 [vA 234, vI l1, vI l2, vI l3, vI l4] [vI l2] (GF X, M, PTF v) K := by
  refine (px_go (by decide +kernel : pm_fe 274 86 = some (.iload_n 2, 1)) rfl).trans ?_
  refine (px_goto (off := 14) (tgt := 101) (by decide +kernel)).trans ?_
  exact Iff.rfl
theorem r274_90 {d : Nat} {X : Nat × (Nat → Int)} {v : Nat → Int} {M : PH} {K : PV → PS → Prop} {l1 l2 l3 l4 : Int} (h1 : inR l1) : pm_Run d 274 90 [vA 234, vI l1, vI l2, vI l3, vI l4] [] (GF X, M, PTF v) K ↔ if l1 ≠ 1 then pm_Run d 274 99 [vA 234, vI l1, vI l2, vI l3, vI l4] [] (GF X, M, PTF v) K else pm_Run d 274 95 [vA 234, vI l1, vI l2, vI l3, vI l4] [] (GF X, M, PTF v) K := by
  refine (px_go (by decide +kernel : pm_fe 274 90 = some (.iload_n 1, 1)) rfl).trans ?_
  refine (px_go (by decide +kernel : pm_fe 274 91 = some (.iconst 1, 1)) rfl).trans ?_
  refine (ry_ic_ne (off := 7) (tgt := 99) h1 (by decide : (-2147483648 ≤ (1 : Int) ∧ (1 : Int) < 2147483648)) (by decide +kernel)).trans ?_
  exact Iff.rfl
theorem r274_95 {d : Nat} {X : Nat × (Nat → Int)} {v : Nat → Int} {M : PH} {K : PV → PS → Prop} {l1 l2 l3 l4 : Int} : pm_Run d 274 95 [vA 234, vI l1, vI l2, vI l3, vI l4] [] (GF X, M, PTF v) K ↔ pm_Run d 274 101 [vA 234, vI l1, vI l2, vI l3, vI l4] [vI l3] (GF X, M, PTF v) K := by
  refine (px_go (by decide +kernel : pm_fe 274 95 = some (.iload_n 3, 1)) rfl).trans ?_
  refine (px_goto (off := 5) (tgt := 101) (by decide +kernel)).trans ?_
  exact Iff.rfl
theorem r274_99 {d : Nat} {X : Nat × (Nat → Int)} {v : Nat → Int} {M : PH} {K : PV → PS → Prop} {l1 l2 l3 l4 : Int} : pm_Run d 274 99 [vA 234, vI l1, vI l2, vI l3, vI l4] [] (GF X, M, PTF v) K ↔ pm_Run d 274 101 [vA 234, vI l1, vI l2, vI l3, vI l4] [vI l4] (GF X, M, PTF v) K := by
  refine (px_go (by decide +kernel : pm_fe 274 99 = some (.iload 4, 2)) rfl).trans ?_
  exact Iff.rfl
theorem r274_101 {d : Nat} {X : Nat × (Nat → Int)} {v : Nat → Int} {M : PH} {K : PV → PS → Prop} {l1 l2 l3 l4 s0 : Int} : pm_Run d 274 101 [vA 234, vI l1, vI l2, vI l3, vI l4] [vI s0] (GF X, M, PTF v) K ↔ K (vI s0) (GF X, M, PTF v) := by
  refine (px_ri (by decide +kernel)).trans ?_
  exact Iff.rfl
theorem r274_102 {d : Nat} {X : Nat × (Nat → Int)} {v : Nat → Int} {M : PH} {K : PV → PS → Prop} {l1 l2 l3 l4 : Int} : pm_Run d 274 102 [vA 234, vI l1, vI l2, vI l3, vI l4] [] (GF X, M, PTF v) K ↔ pm_Run d 274 57 [vA 234, vI l1, vI l2, vI l3, vI (l4 + 1)] [] (GF X, M, PTF v) K := by
  refine (px_go (by decide +kernel : pm_fe 274 102 = some (.iinc 4 1, 3)) rfl).trans ?_
  refine (px_goto (off := (-48)) (tgt := 57) (by decide +kernel)).trans ?_
  exact Iff.rfl
theorem r274_108 {d : Nat} {X : Nat × (Nat → Int)} {v : Nat → Int} {M : PH} {K : PV → PS → Prop} {l1 l2 l3 l4 : Int} : pm_Run d 274 108 [vA 234, vI l1, vI l2, vI l3, vI l4] [] (GF X, M, PTF v) K ↔ pm_Run d 274 41 [vA 234, vI l1, vI l2, vI (l3 + 1), vI l4] [] (GF X, M, PTF v) K := by
  refine (px_go (by decide +kernel : pm_fe 274 108 = some (.iinc 3 1, 3)) rfl).trans ?_
  refine (px_goto (off := (-70)) (tgt := 41) (by decide +kernel)).trans ?_
  exact Iff.rfl
theorem r274_114 {d : Nat} {X : Nat × (Nat → Int)} {v : Nat → Int} {M : PH} {K : PV → PS → Prop} {l1 l2 l3 : Int} {l4 : PV} : pm_Run d 274 114 [vA 234, vI l1, vI l2, vI l3, l4] [] (GF X, M, PTF v) K ↔ pm_Call d 257 [vA 234, vI 1] (GF X, M, PTF v) (fun r9 S1 => pm_Run d 274 119 [vA 234, vI l1, vI l2, vI l3, l4] (pm_push r9 []) S1 K) := by
  refine (px_go (by decide +kernel : pm_fe 274 114 = some (.aload_n 0, 1)) rfl).trans ?_
  refine (px_go (by decide +kernel : pm_fe 274 115 = some (.iconst 1, 1)) rfl).trans ?_
  refine (ry_v1 (idx := 530) (m' := 257) (ci := 12) (by decide +kernel : 234 < 283 ∧ SHF 234 = (12, 76)) (by simp [pm_wl_n, pm_wl_c, pm_w] : pm_wl [] ≤ 8) (by decide +kernel)).trans ?_
  exact Iff.rfl
theorem r274_119 {d : Nat} {X : Nat × (Nat → Int)} {v : Nat → Int} {M : PH} {K : PV → PS → Prop} {l1 l2 l3 : Int} {l4 : PV} : pm_Run d 274 119 [vA 234, vI l1, vI l2, vI l3, l4] [] (GF X, M, PTF v) K ↔ pm_Run d 274 26 [vA 234, vI l1, vI (l2 + 1), vI l3, l4] [] (GF X, M, PTF v) K := by
  refine (px_go (by decide +kernel : pm_fe 274 119 = some (.iinc 2 1, 3)) rfl).trans ?_
  refine (px_goto (off := (-96)) (tgt := 26) (by decide +kernel)).trans ?_
  exact Iff.rfl
theorem r274_125 {d : Nat} {X : Nat × (Nat → Int)} {v : Nat → Int} {M : PH} {K : PV → PS → Prop} {l1 l2 : Int} {l3 l4 : PV} : pm_Run d 274 125 [vA 234, vI l1, vI l2, l3, l4] [] (GF X, M, PTF v) K ↔ K (vI (-1)) (GF X, M, PTF v) := by
  refine (px_go (by decide +kernel : pm_fe 274 125 = some (.iconst (-1), 1)) rfl).trans ?_
  refine (px_ri (by decide +kernel)).trans ?_
  exact Iff.rfl
-- X12_strandedMany strandedMany()I
theorem r275_0 {d : Nat} {X : Nat × (Nat → Int)} {v : Nat → Int} {M : PH} {K : PV → PS → Prop} : pm_Run d 275 0 [vA 234, PU, PU] [] (GF X, M, PTF v) K ↔ pm_Run d 275 4 [vA 234, vI 0, vI 0] [] (GF X, M, PTF v) K := by
  refine (px_go (by decide +kernel : pm_fe 275 0 = some (.iconst 0, 1)) rfl).trans ?_
  refine (px_go (by decide +kernel : pm_fe 275 1 = some (.istore_n 1, 1)) rfl).trans ?_
  refine (px_go (by decide +kernel : pm_fe 275 2 = some (.iconst 0, 1)) rfl).trans ?_
  refine (px_go (by decide +kernel : pm_fe 275 3 = some (.istore_n 2, 1)) rfl).trans ?_
  exact Iff.rfl
theorem r275_4 {d : Nat} {X : Nat × (Nat → Int)} {v : Nat → Int} {M : PH} {K : PV → PS → Prop} {l1 l2 : Int} (h1 : 0 ≤ (M 234 13)) (h2 : (M 234 13) < 2) (h3 : inR l2) (h4 : inR (M 241 (M 234 13).toNat)) : pm_Run d 275 4 [vA 234, vI l1, vI l2] [] (GF X, M, PTF v) K ↔ if M 241 (M 234 13).toNat ≤ l2 then pm_Run d 275 39 [vA 234, vI l1, vI l2] [] (GF X, M, PTF v) K else pm_Run d 275 17 [vA 234, vI l1, vI l2] [] (GF X, M, PTF v) K := by
  refine (px_go (by decide +kernel : pm_fe 275 4 = some (.iload_n 2, 1)) rfl).trans ?_
  refine (px_go (by decide +kernel : pm_fe 275 5 = some (.aload_n 0, 1)) rfl).trans ?_
  refine (ry_get2 (idx := 69) (ci := 12) (k := 19) (by decide +kernel : 234 < 283 ∧ SHF 234 = (12, 76)) (ptf_l (a := 234) (k := 19) (n := 241) (by decide +kernel)) (by decide +kernel)).trans ?_
  refine (px_go (by decide +kernel : pm_fe 275 9 = some (.aload_n 0, 1)) rfl).trans ?_
  refine (ry_get0 (idx := 51) (ci := 12) (k := 13) (by decide +kernel : 234 < 283 ∧ SHF 234 = (12, 76)) (by decide +kernel)).trans ?_
  refine (ry_iald (by decide +kernel : 241 < 283 ∧ SHF 241 = (100, 2)) h1 h2 (by decide +kernel)).trans ?_
  refine (ry_ic_ge (off := 25) (tgt := 39) h3 h4 (by decide +kernel)).trans ?_
  exact Iff.rfl
theorem r275_17 {d : Nat} {X : Nat × (Nat → Int)} {v : Nat → Int} {M : PH} {K : PV → PS → Prop} {l1 l2 : Int} : pm_Run d 275 17 [vA 234, vI l1, vI l2] [] (GF X, M, PTF v) K ↔ pm_Call d 268 [vA 234, vI l2] (GF X, M, PTF v) (fun r9 S1 => pm_Run d 275 23 [vA 234, vI l1, vI l2] (pm_push r9 [vI l1]) S1 K) := by
  refine (px_go (by decide +kernel : pm_fe 275 17 = some (.iload_n 1, 1)) rfl).trans ?_
  refine (px_go (by decide +kernel : pm_fe 275 18 = some (.aload_n 0, 1)) rfl).trans ?_
  refine (px_go (by decide +kernel : pm_fe 275 19 = some (.iload_n 2, 1)) rfl).trans ?_
  refine (ry_v1 (idx := 547) (m' := 268) (ci := 12) (by decide +kernel : 234 < 283 ∧ SHF 234 = (12, 76)) (by simp [pm_wl_n, pm_wl_c, pm_w] : pm_wl [vI l1] ≤ 8) (by decide +kernel)).trans ?_
  exact Iff.rfl
theorem r275_23 {d : Nat} {X : Nat × (Nat → Int)} {v : Nat → Int} {M : PH} {K : PV → PS → Prop} {l1 l2 s0 s1 : Int} (h1 : inR s0) : pm_Run d 275 23 [vA 234, vI l1, vI l2] [vI s0, vI s1] (GF X, M, PTF v) K ↔ if s0 = 0 then pm_Run d 275 30 [vA 234, vI l1, vI l2] [vI s1] (GF X, M, PTF v) K else pm_Run d 275 26 [vA 234, vI l1, vI l2] [vI s1] (GF X, M, PTF v) K := by
  refine (ry_if_eq (off := 7) (tgt := 30) h1 (by decide +kernel)).trans ?_
  exact Iff.rfl
theorem r275_26 {d : Nat} {X : Nat × (Nat → Int)} {v : Nat → Int} {M : PH} {K : PV → PS → Prop} {l1 l2 s0 : Int} : pm_Run d 275 26 [vA 234, vI l1, vI l2] [vI s0] (GF X, M, PTF v) K ↔ pm_Run d 275 31 [vA 234, vI l1, vI l2] [vI 1, vI s0] (GF X, M, PTF v) K := by
  refine (px_go (by decide +kernel : pm_fe 275 26 = some (.iconst 1, 1)) rfl).trans ?_
  refine (px_goto (off := 4) (tgt := 31) (by decide +kernel)).trans ?_
  exact Iff.rfl
theorem r275_30 {d : Nat} {X : Nat × (Nat → Int)} {v : Nat → Int} {M : PH} {K : PV → PS → Prop} {l1 l2 s0 : Int} : pm_Run d 275 30 [vA 234, vI l1, vI l2] [vI s0] (GF X, M, PTF v) K ↔ pm_Run d 275 31 [vA 234, vI l1, vI l2] [vI 0, vI s0] (GF X, M, PTF v) K := by
  refine (px_go (by decide +kernel : pm_fe 275 30 = some (.iconst 0, 1)) rfl).trans ?_
  exact Iff.rfl
theorem r275_31 {d : Nat} {X : Nat × (Nat → Int)} {v : Nat → Int} {M : PH} {K : PV → PS → Prop} {l1 l2 s0 s1 : Int} : pm_Run d 275 31 [vA 234, vI l1, vI l2] [vI s0, vI s1] (GF X, M, PTF v) K ↔ pm_Run d 275 4 [vA 234, vI (s1 + s0), vI (l2 + 1)] [] (GF X, M, PTF v) K := by
  refine (px_go (by decide +kernel : pm_fe 275 31 = some (.iadd, 1)) rfl).trans ?_
  refine (px_go (by decide +kernel : pm_fe 275 32 = some (.istore_n 1, 1)) rfl).trans ?_
  refine (px_go (by decide +kernel : pm_fe 275 33 = some (.iinc 2 1, 3)) rfl).trans ?_
  refine (px_goto (off := (-32)) (tgt := 4) (by decide +kernel)).trans ?_
  exact Iff.rfl
theorem r275_39 {d : Nat} {X : Nat × (Nat → Int)} {v : Nat → Int} {M : PH} {K : PV → PS → Prop} {l1 l2 : Int} : pm_Run d 275 39 [vA 234, vI l1, vI l2] [] (GF X, M, PTF v) K ↔ K (vI l1) (GF X, M, PTF v) := by
  refine (px_go (by decide +kernel : pm_fe 275 39 = some (.iload_n 1, 1)) rfl).trans ?_
  refine (px_ri (by decide +kernel)).trans ?_
  exact Iff.rfl
-- X12_stranded stranded(II)I
theorem r276_0 {d : Nat} {X : Nat × (Nat → Int)} {v : Nat → Int} {M : PH} {K : PV → PS → Prop} {l1 l2 : Int} : pm_Run d 276 0 [vA 234, vI l1, vI l2, PU] [] (GF X, M, PTF v) K ↔ pm_Call d 259 [vA 234, vI l1] (GF X, M, PTF v) (fun r9 S1 => pm_Run d 276 5 [vA 234, vI l1, vI l2, PU] (pm_push r9 []) S1 K) := by
  refine (px_go (by decide +kernel : pm_fe 276 0 = some (.aload_n 0, 1)) rfl).trans ?_
  refine (px_go (by decide +kernel : pm_fe 276 1 = some (.iload_n 1, 1)) rfl).trans ?_
  refine (ry_v1 (idx := 560) (m' := 259) (ci := 12) (by decide +kernel : 234 < 283 ∧ SHF 234 = (12, 76)) (by simp [pm_wl_n, pm_wl_c, pm_w] : pm_wl [] ≤ 8) (by decide +kernel)).trans ?_
  exact Iff.rfl
theorem r276_5 {d : Nat} {X : Nat × (Nat → Int)} {v : Nat → Int} {M : PH} {K : PV → PS → Prop} {l1 l2 s0 : Int} (h1 : inR s0) : pm_Run d 276 5 [vA 234, vI l1, vI l2, PU] [vI s0] (GF X, M, PTF v) K ↔ if s0 = 0 then pm_Run d 276 17 [vA 234, vI l1, vI l2, PU] [] (GF X, M, PTF v) K else pm_Run d 276 8 [vA 234, vI l1, vI l2, PU] [] (GF X, M, PTF v) K := by
  refine (ry_if_eq (off := 12) (tgt := 17) h1 (by decide +kernel)).trans ?_
  exact Iff.rfl
theorem r276_8 {d : Nat} {X : Nat × (Nat → Int)} {v : Nat → Int} {M : PH} {K : PV → PS → Prop} {l1 l2 : Int} : pm_Run d 276 8 [vA 234, vI l1, vI l2, PU] [] (GF X, M, PTF v) K ↔ pm_Call d 179 [vI l2, vI 0, vI 1] (GF X, M, PTF v) (fun r9 S1 => pm_Run d 276 14 [vA 234, vI l1, vI l2, PU] (pm_push r9 []) S1 K) := by
  refine (px_go (by decide +kernel : pm_fe 276 8 = some (.iload_n 2, 1)) rfl).trans ?_
  refine (px_go (by decide +kernel : pm_fe 276 9 = some (.iconst 0, 1)) rfl).trans ?_
  refine (px_go (by decide +kernel : pm_fe 276 10 = some (.iconst 1, 1)) rfl).trans ?_
  refine (px_s3 (idx := 337) (m' := 179) (nest := 0) (by decide +kernel)).trans ((and_iff_right (by simp [pm_wl_n, pm_wl_c, pm_w] : pm_wl [] ≤ 8)).trans ?_)
  exact Iff.rfl
theorem r276_14 {d : Nat} {X : Nat × (Nat → Int)} {v : Nat → Int} {M : PH} {K : PV → PS → Prop} {l1 l2 s0 : Int} (h1 : inR s0) : pm_Run d 276 14 [vA 234, vI l1, vI l2, PU] [vI s0] (GF X, M, PTF v) K ↔ if s0 ≠ 0 then pm_Run d 276 19 [vA 234, vI l1, vI l2, PU] [] (GF X, M, PTF v) K else pm_Run d 276 17 [vA 234, vI l1, vI l2, PU] [] (GF X, M, PTF v) K := by
  refine (ry_if_ne (off := 5) (tgt := 19) h1 (by decide +kernel)).trans ?_
  exact Iff.rfl
theorem r276_17 {d : Nat} {X : Nat × (Nat → Int)} {v : Nat → Int} {M : PH} {K : PV → PS → Prop} {l1 l2 : Int} : pm_Run d 276 17 [vA 234, vI l1, vI l2, PU] [] (GF X, M, PTF v) K ↔ K (vI (-1)) (GF X, M, PTF v) := by
  refine (px_go (by decide +kernel : pm_fe 276 17 = some (.iconst (-1), 1)) rfl).trans ?_
  refine (px_ri (by decide +kernel)).trans ?_
  exact Iff.rfl
theorem r276_19 {d : Nat} {X : Nat × (Nat → Int)} {v : Nat → Int} {M : PH} {K : PV → PS → Prop} {l1 l2 : Int} : pm_Run d 276 19 [vA 234, vI l1, vI l2, PU] [] (GF X, M, PTF v) K ↔ pm_Call d 260 [vA 234, vI l1] (GF X, M, PTF v) (fun r9 S1 => pm_Run d 276 24 [vA 234, vI l1, vI l2, PU] (pm_push r9 []) S1 K) := by
  refine (px_go (by decide +kernel : pm_fe 276 19 = some (.aload_n 0, 1)) rfl).trans ?_
  refine (px_go (by decide +kernel : pm_fe 276 20 = some (.iload_n 1, 1)) rfl).trans ?_
  refine (ry_v1 (idx := 563) (m' := 260) (ci := 12) (by decide +kernel : 234 < 283 ∧ SHF 234 = (12, 76)) (by simp [pm_wl_n, pm_wl_c, pm_w] : pm_wl [] ≤ 8) (by decide +kernel)).trans ?_
  exact Iff.rfl
theorem r276_24 {d : Nat} {X : Nat × (Nat → Int)} {v : Nat → Int} {M : PH} {K : PV → PS → Prop} {l1 l2 : Int} (h1 : inR l2) : pm_Run d 276 24 [vA 234, vI l1, vI l2, PU] [] (GF X, M, PTF v) K ↔ if l2 ≠ 0 then pm_Run d 276 33 [vA 234, vI l1, vI l2, PU] [] (GF X, M, PTF v) K else pm_Run d 276 28 [vA 234, vI l1, vI l2, PU] [] (GF X, M, PTF v) K := by
  refine (px_go (by decide +kernel : pm_fe 276 24 = some (.iload_n 2, 1)) rfl).trans ?_
  refine (ry_if_ne (off := 8) (tgt := 33) h1 (by decide +kernel)).trans ?_
  exact Iff.rfl
theorem r276_28 {d : Nat} {X : Nat × (Nat → Int)} {v : Nat → Int} {M : PH} {K : PV → PS → Prop} {l1 l2 : Int} : pm_Run d 276 28 [vA 234, vI l1, vI l2, PU] [] (GF X, M, PTF v) K ↔ pm_Call d 275 [vA 234] (GF X, M, PTF v) (fun r9 S1 => pm_Run d 276 32 [vA 234, vI l1, vI l2, PU] (pm_push r9 []) S1 K) := by
  refine (px_go (by decide +kernel : pm_fe 276 28 = some (.aload_n 0, 1)) rfl).trans ?_
  refine (ry_v0 (idx := 569) (m' := 275) (ci := 12) (by decide +kernel : 234 < 283 ∧ SHF 234 = (12, 76)) (by simp [pm_wl_n, pm_wl_c, pm_w] : pm_wl [] ≤ 8) (by decide +kernel)).trans ?_
  exact Iff.rfl
theorem r276_32 {d : Nat} {X : Nat × (Nat → Int)} {v : Nat → Int} {M : PH} {K : PV → PS → Prop} {l1 l2 s0 : Int} : pm_Run d 276 32 [vA 234, vI l1, vI l2, PU] [vI s0] (GF X, M, PTF v) K ↔ K (vI s0) (GF X, M, PTF v) := by
  refine (px_ri (by decide +kernel)).trans ?_
  exact Iff.rfl
theorem r276_33 {d : Nat} {X : Nat × (Nat → Int)} {v : Nat → Int} {M : PH} {K : PV → PS → Prop} {l1 l2 : Int} : pm_Run d 276 33 [vA 234, vI l1, vI l2, PU] [] (GF X, M, PTF v) K ↔ pm_Run d 276 35 [vA 234, vI l1, vI l2, vI l1] [] (GF X, M, PTF v) K := by
  refine (px_go (by decide +kernel : pm_fe 276 33 = some (.iload_n 1, 1)) rfl).trans ?_
  refine (px_go (by decide +kernel : pm_fe 276 34 = some (.istore_n 3, 1)) rfl).trans ?_
  exact Iff.rfl
theorem r276_35 {d : Nat} {X : Nat × (Nat → Int)} {v : Nat → Int} {M : PH} {K : PV → PS → Prop} {l1 l2 l3 : Int} : pm_Run d 276 35 [vA 234, vI l1, vI l2, vI l3] [] (GF X, M, PTF v) K ↔ pm_Call d 258 [vA 234] (GF X, M, PTF v) (fun r9 S1 => pm_Run d 276 40 [vA 234, vI l1, vI l2, vI l3] (pm_push r9 [vI l3]) S1 K) := by
  refine (px_go (by decide +kernel : pm_fe 276 35 = some (.iload_n 3, 1)) rfl).trans ?_
  refine (px_go (by decide +kernel : pm_fe 276 36 = some (.aload_n 0, 1)) rfl).trans ?_
  refine (ry_v0 (idx := 526) (m' := 258) (ci := 12) (by decide +kernel : 234 < 283 ∧ SHF 234 = (12, 76)) (by simp [pm_wl_n, pm_wl_c, pm_w] : pm_wl [vI l3] ≤ 8) (by decide +kernel)).trans ?_
  exact Iff.rfl
theorem r276_40 {d : Nat} {X : Nat × (Nat → Int)} {v : Nat → Int} {M : PH} {K : PV → PS → Prop} {l1 l2 l3 s0 s1 : Int} (h1 : inR s1) (h2 : inR s0) : pm_Run d 276 40 [vA 234, vI l1, vI l2, vI l3] [vI s0, vI s1] (GF X, M, PTF v) K ↔ if s0 < s1 then pm_Run d 276 68 [vA 234, vI l1, vI l2, vI l3] [] (GF X, M, PTF v) K else pm_Run d 276 43 [vA 234, vI l1, vI l2, vI l3] [] (GF X, M, PTF v) K := by
  refine (ry_ic_gt (off := 28) (tgt := 68) h1 h2 (by decide +kernel)).trans ?_
  exact Iff.rfl
theorem r276_43 {d : Nat} {X : Nat × (Nat → Int)} {v : Nat → Int} {M : PH} {K : PV → PS → Prop} {l1 l2 l3 : Int} : pm_Run d 276 43 [vA 234, vI l1, vI l2, vI l3] [] (GF X, M, PTF v) K ↔ pm_Call d 275 [vA 234] (GF X, M, PTF v) (fun r9 S1 => pm_Run d 276 47 [vA 234, vI l1, vI l2, vI l3] (pm_push r9 []) S1 K) := by
  refine (px_go (by decide +kernel : pm_fe 276 43 = some (.aload_n 0, 1)) rfl).trans ?_
  refine (ry_v0 (idx := 569) (m' := 275) (ci := 12) (by decide +kernel : 234 < 283 ∧ SHF 234 = (12, 76)) (by simp [pm_wl_n, pm_wl_c, pm_w] : pm_wl [] ≤ 8) (by decide +kernel)).trans ?_
  exact Iff.rfl
theorem r276_47 {d : Nat} {X : Nat × (Nat → Int)} {v : Nat → Int} {M : PH} {K : PV → PS → Prop} {l1 l2 l3 s0 : Int} (h1 : inR s0) : pm_Run d 276 47 [vA 234, vI l1, vI l2, vI l3] [vI s0] (GF X, M, PTF v) K ↔ if s0 ≤ 0 then pm_Run d 276 52 [vA 234, vI l1, vI l2, vI l3] [] (GF X, M, PTF v) K else pm_Run d 276 50 [vA 234, vI l1, vI l2, vI l3] [] (GF X, M, PTF v) K := by
  refine (ry_if_le (off := 5) (tgt := 52) h1 (by decide +kernel)).trans ?_
  exact Iff.rfl
theorem r276_50 {d : Nat} {X : Nat × (Nat → Int)} {v : Nat → Int} {M : PH} {K : PV → PS → Prop} {l1 l2 l3 : Int} : pm_Run d 276 50 [vA 234, vI l1, vI l2, vI l3] [] (GF X, M, PTF v) K ↔ K (vI l3) (GF X, M, PTF v) := by
  refine (px_go (by decide +kernel : pm_fe 276 50 = some (.iload_n 3, 1)) rfl).trans ?_
  refine (px_ri (by decide +kernel)).trans ?_
  exact Iff.rfl
theorem r276_52 {d : Nat} {X : Nat × (Nat → Int)} {v : Nat → Int} {M : PH} {K : PV → PS → Prop} {l1 l2 l3 : Int} : pm_Run d 276 52 [vA 234, vI l1, vI l2, vI l3] [] (GF X, M, PTF v) K ↔ pm_Call d 257 [vA 234, vI 1] (GF X, M, PTF v) (fun r9 S1 => pm_Run d 276 57 [vA 234, vI l1, vI l2, vI l3] (pm_push r9 []) S1 K) := by
  refine (px_go (by decide +kernel : pm_fe 276 52 = some (.aload_n 0, 1)) rfl).trans ?_
  refine (px_go (by decide +kernel : pm_fe 276 53 = some (.iconst 1, 1)) rfl).trans ?_
  refine (ry_v1 (idx := 530) (m' := 257) (ci := 12) (by decide +kernel : 234 < 283 ∧ SHF 234 = (12, 76)) (by simp [pm_wl_n, pm_wl_c, pm_w] : pm_wl [] ≤ 8) (by decide +kernel)).trans ?_
  exact Iff.rfl
theorem r276_57 {d : Nat} {X : Nat × (Nat → Int)} {v : Nat → Int} {M : PH} {K : PV → PS → Prop} {l1 l2 l3 : Int} : pm_Run d 276 57 [vA 234, vI l1, vI l2, vI l3] [] (GF X, M, PTF v) K ↔ pm_Call d 255 [vA 234, vI 1] (GF X, M, PTF v) (fun r9 S1 => pm_Run d 276 62 [vA 234, vI l1, vI l2, vI l3] (pm_push r9 []) S1 K) := by
  refine (px_go (by decide +kernel : pm_fe 276 57 = some (.aload_n 0, 1)) rfl).trans ?_
  refine (px_go (by decide +kernel : pm_fe 276 58 = some (.iconst 1, 1)) rfl).trans ?_
  refine (ry_v1 (idx := 513) (m' := 255) (ci := 12) (by decide +kernel : 234 < 283 ∧ SHF 234 = (12, 76)) (by simp [pm_wl_n, pm_wl_c, pm_w] : pm_wl [] ≤ 8) (by decide +kernel)).trans ?_
  exact Iff.rfl
theorem r276_62 {d : Nat} {X : Nat × (Nat → Int)} {v : Nat → Int} {M : PH} {K : PV → PS → Prop} {l1 l2 l3 : Int} : pm_Run d 276 62 [vA 234, vI l1, vI l2, vI l3] [] (GF X, M, PTF v) K ↔ pm_Run d 276 35 [vA 234, vI l1, vI l2, vI (l3 + 1)] [] (GF X, M, PTF v) K := by
  refine (px_go (by decide +kernel : pm_fe 276 62 = some (.iinc 3 1, 3)) rfl).trans ?_
  refine (px_goto (off := (-30)) (tgt := 35) (by decide +kernel)).trans ?_
  exact Iff.rfl
theorem r276_68 {d : Nat} {X : Nat × (Nat → Int)} {v : Nat → Int} {M : PH} {K : PV → PS → Prop} {l1 l2 l3 : Int} : pm_Run d 276 68 [vA 234, vI l1, vI l2, vI l3] [] (GF X, M, PTF v) K ↔ K (vI (-1)) (GF X, M, PTF v) := by
  refine (px_go (by decide +kernel : pm_fe 276 68 = some (.iconst (-1), 1)) rfl).trans ?_
  refine (px_ri (by decide +kernel)).trans ?_
  exact Iff.rfl
-- X12_bid bid(III)I
theorem r277_0 {d : Nat} {X : Nat × (Nat → Int)} {v : Nat → Int} {M : PH} {K : PV → PS → Prop} {l1 l2 l3 : Int} : pm_Run d 277 0 [vA 234, vI l1, vI l2, vI l3, PU] [] (GF X, M, PTF v) K ↔ pm_Call d 229 [vA 234, vI l1] (GF X, M, PTF v) (fun r9 S1 => pm_Run d 277 5 [vA 234, vI l1, vI l2, vI l3, PU] (pm_push r9 []) S1 K) := by
  refine (px_go (by decide +kernel : pm_fe 277 0 = some (.aload_n 0, 1)) rfl).trans ?_
  refine (px_go (by decide +kernel : pm_fe 277 1 = some (.iload_n 1, 1)) rfl).trans ?_
  refine (ry_v1 (idx := 544) (m' := 229) (ci := 12) (by decide +kernel : 234 < 283 ∧ SHF 234 = (12, 76)) (by simp [pm_wl_n, pm_wl_c, pm_w] : pm_wl [] ≤ 8) (by decide +kernel)).trans ?_
  exact Iff.rfl
theorem r277_5 {d : Nat} {X : Nat × (Nat → Int)} {v : Nat → Int} {M : PH} {K : PV → PS → Prop} {l1 l2 l3 s0 : Int} (h1 : inR s0) : pm_Run d 277 5 [vA 234, vI l1, vI l2, vI l3, PU] [vI s0] (GF X, M, PTF v) K ↔ if s0 = 0 then pm_Run d 277 26 [vA 234, vI l1, vI l2, vI l3, PU] [] (GF X, M, PTF v) K else pm_Run d 277 8 [vA 234, vI l1, vI l2, vI l3, PU] [] (GF X, M, PTF v) K := by
  refine (ry_if_eq (off := 21) (tgt := 26) h1 (by decide +kernel)).trans ?_
  exact Iff.rfl
theorem r277_8 {d : Nat} {X : Nat × (Nat → Int)} {v : Nat → Int} {M : PH} {K : PV → PS → Prop} {l1 l2 l3 : Int} : pm_Run d 277 8 [vA 234, vI l1, vI l2, vI l3, PU] [] (GF X, M, PTF v) K ↔ pm_Call d 228 [vA 234, vI l2] (GF X, M, PTF v) (fun r9 S1 => pm_Run d 277 13 [vA 234, vI l1, vI l2, vI l3, PU] (pm_push r9 []) S1 K) := by
  refine (px_go (by decide +kernel : pm_fe 277 8 = some (.aload_n 0, 1)) rfl).trans ?_
  refine (px_go (by decide +kernel : pm_fe 277 9 = some (.iload_n 2, 1)) rfl).trans ?_
  refine (ry_v1 (idx := 535) (m' := 228) (ci := 12) (by decide +kernel : 234 < 283 ∧ SHF 234 = (12, 76)) (by simp [pm_wl_n, pm_wl_c, pm_w] : pm_wl [] ≤ 8) (by decide +kernel)).trans ?_
  exact Iff.rfl
theorem r277_13 {d : Nat} {X : Nat × (Nat → Int)} {v : Nat → Int} {M : PH} {K : PV → PS → Prop} {l1 l2 l3 s0 : Int} (h1 : inR s0) : pm_Run d 277 13 [vA 234, vI l1, vI l2, vI l3, PU] [vI s0] (GF X, M, PTF v) K ↔ if s0 = 0 then pm_Run d 277 26 [vA 234, vI l1, vI l2, vI l3, PU] [] (GF X, M, PTF v) K else pm_Run d 277 16 [vA 234, vI l1, vI l2, vI l3, PU] [] (GF X, M, PTF v) K := by
  refine (ry_if_eq (off := 13) (tgt := 26) h1 (by decide +kernel)).trans ?_
  exact Iff.rfl
theorem r277_16 {d : Nat} {X : Nat × (Nat → Int)} {v : Nat → Int} {M : PH} {K : PV → PS → Prop} {l1 l2 l3 : Int} : pm_Run d 277 16 [vA 234, vI l1, vI l2, vI l3, PU] [] (GF X, M, PTF v) K ↔ pm_Call d 179 [vI l3, vI 0, vI 20] (GF X, M, PTF v) (fun r9 S1 => pm_Run d 277 23 [vA 234, vI l1, vI l2, vI l3, PU] (pm_push r9 []) S1 K) := by
  refine (px_go (by decide +kernel : pm_fe 277 16 = some (.iload_n 3, 1)) rfl).trans ?_
  refine (px_go (by decide +kernel : pm_fe 277 17 = some (.iconst 0, 1)) rfl).trans ?_
  refine (px_go (by decide +kernel : pm_fe 277 18 = some (.bipush 20, 2)) rfl).trans ?_
  refine (px_s3 (idx := 337) (m' := 179) (nest := 0) (by decide +kernel)).trans ((and_iff_right (by simp [pm_wl_n, pm_wl_c, pm_w] : pm_wl [] ≤ 8)).trans ?_)
  exact Iff.rfl
theorem r277_23 {d : Nat} {X : Nat × (Nat → Int)} {v : Nat → Int} {M : PH} {K : PV → PS → Prop} {l1 l2 l3 s0 : Int} (h1 : inR s0) : pm_Run d 277 23 [vA 234, vI l1, vI l2, vI l3, PU] [vI s0] (GF X, M, PTF v) K ↔ if s0 ≠ 0 then pm_Run d 277 32 [vA 234, vI l1, vI l2, vI l3, PU] [] (GF X, M, PTF v) K else pm_Run d 277 26 [vA 234, vI l1, vI l2, vI l3, PU] [] (GF X, M, PTF v) K := by
  refine (ry_if_ne (off := 9) (tgt := 32) h1 (by decide +kernel)).trans ?_
  exact Iff.rfl
theorem r277_26 {d : Nat} {X : Nat × (Nat → Int)} {v : Nat → Int} {M : PH} {K : PV → PS → Prop} {l1 l2 l3 : Int} : pm_Run d 277 26 [vA 234, vI l1, vI l2, vI l3, PU] [] (GF X, M, PTF v) K ↔ pm_Call d 224 [vA 234, vI 2] (GF X, M, PTF v) (fun r9 S1 => pm_Run d 277 31 [vA 234, vI l1, vI l2, vI l3, PU] (pm_push r9 []) S1 K) := by
  refine (px_go (by decide +kernel : pm_fe 277 26 = some (.aload_n 0, 1)) rfl).trans ?_
  refine (px_go (by decide +kernel : pm_fe 277 27 = some (.iconst 2, 1)) rfl).trans ?_
  refine (ry_v1 (idx := 243) (m' := 224) (ci := 12) (by decide +kernel : 234 < 283 ∧ SHF 234 = (12, 76)) (by simp [pm_wl_n, pm_wl_c, pm_w] : pm_wl [] ≤ 8) (by decide +kernel)).trans ?_
  exact Iff.rfl
theorem r277_31 {d : Nat} {X : Nat × (Nat → Int)} {v : Nat → Int} {M : PH} {K : PV → PS → Prop} {l1 l2 l3 s0 : Int} : pm_Run d 277 31 [vA 234, vI l1, vI l2, vI l3, PU] [vI s0] (GF X, M, PTF v) K ↔ K (vI s0) (GF X, M, PTF v) := by
  refine (px_ri (by decide +kernel)).trans ?_
  exact Iff.rfl
theorem r277_32 {d : Nat} {X : Nat × (Nat → Int)} {v : Nat → Int} {M : PH} {K : PV → PS → Prop} {l1 l2 l3 : Int} : pm_Run d 277 32 [vA 234, vI l1, vI l2, vI l3, PU] [] (GF X, M, PTF v) K ↔ pm_Call d 235 [vA 234] (GF X, M, PTF v) (fun r9 S1 => pm_Run d 277 36 [vA 234, vI l1, vI l2, vI l3, PU] (pm_push r9 []) S1 K) := by
  refine (px_go (by decide +kernel : pm_fe 277 32 = some (.aload_n 0, 1)) rfl).trans ?_
  refine (ry_v0 (idx := 572) (m' := 235) (ci := 12) (by decide +kernel : 234 < 283 ∧ SHF 234 = (12, 76)) (by simp [pm_wl_n, pm_wl_c, pm_w] : pm_wl [] ≤ 8) (by decide +kernel)).trans ?_
  exact Iff.rfl
theorem r277_36 {d : Nat} {X : Nat × (Nat → Int)} {v : Nat → Int} {M : PH} {K : PV → PS → Prop} {l1 l2 l3 : Int} (h1 : 0 ≤ ((3 * l1) + l2)) (h2 : ((3 * l1) + l2) < 528) : pm_Run d 277 36 [vA 234, vI l1, vI l2, vI l3, PU] [] (GF X, M, PTF v) K ↔ pm_Run d 277 59 [vA 234, vI l1, vI l2, vI l3, vI (M 274 ((3 * l1) + l2).toNat)] [] (GF X, pm_sa M 274 (pm_up (M 274) ((3 * l1) + l2).toNat l3), PTF v) K := by
  refine (px_go (by decide +kernel : pm_fe 277 36 = some (.aload_n 0, 1)) rfl).trans ?_
  refine (ry_get2 (idx := 189) (ci := 12) (k := 58) (by decide +kernel : 234 < 283 ∧ SHF 234 = (12, 76)) (ptf_l (a := 234) (k := 58) (n := 274) (by decide +kernel)) (by decide +kernel)).trans ?_
  refine (px_go (by decide +kernel : pm_fe 277 40 = some (.iconst 3, 1)) rfl).trans ?_
  refine (px_go (by decide +kernel : pm_fe 277 41 = some (.iload_n 1, 1)) rfl).trans ?_
  refine (px_go (by decide +kernel : pm_fe 277 42 = some (.imul, 1)) rfl).trans ?_
  refine (px_go (by decide +kernel : pm_fe 277 43 = some (.iload_n 2, 1)) rfl).trans ?_
  refine (px_go (by decide +kernel : pm_fe 277 44 = some (.iadd, 1)) rfl).trans ?_
  refine (ry_iald (by decide +kernel : 274 < 283 ∧ SHF 274 = (100, 528)) h1 h2 (by decide +kernel)).trans ?_
  refine (px_go (by decide +kernel : pm_fe 277 46 = some (.istore 4, 2)) rfl).trans ?_
  refine (px_go (by decide +kernel : pm_fe 277 48 = some (.aload_n 0, 1)) rfl).trans ?_
  refine (ry_get2 (idx := 189) (ci := 12) (k := 58) (by decide +kernel : 234 < 283 ∧ SHF 234 = (12, 76)) (ptf_l (a := 234) (k := 58) (n := 274) (by decide +kernel)) (by decide +kernel)).trans ?_
  refine (px_go (by decide +kernel : pm_fe 277 52 = some (.iconst 3, 1)) rfl).trans ?_
  refine (px_go (by decide +kernel : pm_fe 277 53 = some (.iload_n 1, 1)) rfl).trans ?_
  refine (px_go (by decide +kernel : pm_fe 277 54 = some (.imul, 1)) rfl).trans ?_
  refine (px_go (by decide +kernel : pm_fe 277 55 = some (.iload_n 2, 1)) rfl).trans ?_
  refine (px_go (by decide +kernel : pm_fe 277 56 = some (.iadd, 1)) rfl).trans ?_
  refine (px_go (by decide +kernel : pm_fe 277 57 = some (.iload_n 3, 1)) rfl).trans ?_
  refine (ry_iast (by decide +kernel : 274 < 283 ∧ SHF 274 = (100, 528)) h1 h2 (by decide +kernel)).trans ?_
  exact Iff.rfl
theorem r277_59 {d : Nat} {X : Nat × (Nat → Int)} {v : Nat → Int} {M : PH} {K : PV → PS → Prop} {l1 l2 l3 l4 : Int} : pm_Run d 277 59 [vA 234, vI l1, vI l2, vI l3, vI l4] [] (GF X, M, PTF v) K ↔ K (vI l4) (GF X, M, PTF v) := by
  refine (px_go (by decide +kernel : pm_fe 277 59 = some (.iload 4, 2)) rfl).trans ?_
  refine (px_ri (by decide +kernel)).trans ?_
  exact Iff.rfl
-- X12_give give(III)Z
theorem r278_0 {d : Nat} {X : Nat × (Nat → Int)} {v : Nat → Int} {M : PH} {K : PV → PS → Prop} {l1 l2 l3 : Int} : pm_Run d 278 0 [vA 234, vI l1, vI l2, vI l3, PU] [] (GF X, M, PTF v) K ↔ pm_Call d 229 [vA 234, vI l1] (GF X, M, PTF v) (fun r9 S1 => pm_Run d 278 5 [vA 234, vI l1, vI l2, vI l3, PU] (pm_push r9 []) S1 K) := by
  refine (px_go (by decide +kernel : pm_fe 278 0 = some (.aload_n 0, 1)) rfl).trans ?_
  refine (px_go (by decide +kernel : pm_fe 278 1 = some (.iload_n 1, 1)) rfl).trans ?_
  refine (ry_v1 (idx := 544) (m' := 229) (ci := 12) (by decide +kernel : 234 < 283 ∧ SHF 234 = (12, 76)) (by simp [pm_wl_n, pm_wl_c, pm_w] : pm_wl [] ≤ 8) (by decide +kernel)).trans ?_
  exact Iff.rfl
theorem r278_5 {d : Nat} {X : Nat × (Nat → Int)} {v : Nat → Int} {M : PH} {K : PV → PS → Prop} {l1 l2 l3 s0 : Int} (h1 : inR s0) : pm_Run d 278 5 [vA 234, vI l1, vI l2, vI l3, PU] [vI s0] (GF X, M, PTF v) K ↔ if s0 = 0 then pm_Run d 278 53 [vA 234, vI l1, vI l2, vI l3, PU] [] (GF X, M, PTF v) K else pm_Run d 278 8 [vA 234, vI l1, vI l2, vI l3, PU] [] (GF X, M, PTF v) K := by
  refine (ry_if_eq (off := 48) (tgt := 53) h1 (by decide +kernel)).trans ?_
  exact Iff.rfl
theorem r278_8 {d : Nat} {X : Nat × (Nat → Int)} {v : Nat → Int} {M : PH} {K : PV → PS → Prop} {l1 l2 l3 : Int} : pm_Run d 278 8 [vA 234, vI l1, vI l2, vI l3, PU] [] (GF X, M, PTF v) K ↔ pm_Call d 229 [vA 234, vI l2] (GF X, M, PTF v) (fun r9 S1 => pm_Run d 278 13 [vA 234, vI l1, vI l2, vI l3, PU] (pm_push r9 []) S1 K) := by
  refine (px_go (by decide +kernel : pm_fe 278 8 = some (.aload_n 0, 1)) rfl).trans ?_
  refine (px_go (by decide +kernel : pm_fe 278 9 = some (.iload_n 2, 1)) rfl).trans ?_
  refine (ry_v1 (idx := 544) (m' := 229) (ci := 12) (by decide +kernel : 234 < 283 ∧ SHF 234 = (12, 76)) (by simp [pm_wl_n, pm_wl_c, pm_w] : pm_wl [] ≤ 8) (by decide +kernel)).trans ?_
  exact Iff.rfl
theorem r278_13 {d : Nat} {X : Nat × (Nat → Int)} {v : Nat → Int} {M : PH} {K : PV → PS → Prop} {l1 l2 l3 s0 : Int} (h1 : inR s0) : pm_Run d 278 13 [vA 234, vI l1, vI l2, vI l3, PU] [vI s0] (GF X, M, PTF v) K ↔ if s0 = 0 then pm_Run d 278 53 [vA 234, vI l1, vI l2, vI l3, PU] [] (GF X, M, PTF v) K else pm_Run d 278 16 [vA 234, vI l1, vI l2, vI l3, PU] [] (GF X, M, PTF v) K := by
  refine (ry_if_eq (off := 40) (tgt := 53) h1 (by decide +kernel)).trans ?_
  exact Iff.rfl
theorem r278_16 {d : Nat} {X : Nat × (Nat → Int)} {v : Nat → Int} {M : PH} {K : PV → PS → Prop} {l1 l2 l3 : Int} (h1 : inR l1) (h2 : inR l2) : pm_Run d 278 16 [vA 234, vI l1, vI l2, vI l3, PU] [] (GF X, M, PTF v) K ↔ if l1 = l2 then pm_Run d 278 53 [vA 234, vI l1, vI l2, vI l3, PU] [] (GF X, M, PTF v) K else pm_Run d 278 21 [vA 234, vI l1, vI l2, vI l3, PU] [] (GF X, M, PTF v) K := by
  refine (px_go (by decide +kernel : pm_fe 278 16 = some (.iload_n 1, 1)) rfl).trans ?_
  refine (px_go (by decide +kernel : pm_fe 278 17 = some (.iload_n 2, 1)) rfl).trans ?_
  refine (ry_ic_eq (off := 35) (tgt := 53) h1 h2 (by decide +kernel)).trans ?_
  exact Iff.rfl
theorem r278_21 {d : Nat} {X : Nat × (Nat → Int)} {v : Nat → Int} {M : PH} {K : PV → PS → Prop} {l1 l2 l3 : Int} (h1 : inR l3) : pm_Run d 278 21 [vA 234, vI l1, vI l2, vI l3, PU] [] (GF X, M, PTF v) K ↔ if l3 ≤ 0 then pm_Run d 278 53 [vA 234, vI l1, vI l2, vI l3, PU] [] (GF X, M, PTF v) K else pm_Run d 278 25 [vA 234, vI l1, vI l2, vI l3, PU] [] (GF X, M, PTF v) K := by
  refine (px_go (by decide +kernel : pm_fe 278 21 = some (.iload_n 3, 1)) rfl).trans ?_
  refine (ry_if_le (off := 31) (tgt := 53) h1 (by decide +kernel)).trans ?_
  exact Iff.rfl
theorem r278_25 {d : Nat} {X : Nat × (Nat → Int)} {v : Nat → Int} {M : PH} {K : PV → PS → Prop} {l1 l2 l3 : Int} (h1 : 0 ≤ l1) (h2 : l1 < 176) (h3 : inR (M 273 l1.toNat)) (h4 : inR l3) : pm_Run d 278 25 [vA 234, vI l1, vI l2, vI l3, PU] [] (GF X, M, PTF v) K ↔ if M 273 l1.toNat < l3 then pm_Run d 278 53 [vA 234, vI l1, vI l2, vI l3, PU] [] (GF X, M, PTF v) K else pm_Run d 278 35 [vA 234, vI l1, vI l2, vI l3, PU] [] (GF X, M, PTF v) K := by
  refine (px_go (by decide +kernel : pm_fe 278 25 = some (.aload_n 0, 1)) rfl).trans ?_
  refine (ry_get2 (idx := 186) (ci := 12) (k := 57) (by decide +kernel : 234 < 283 ∧ SHF 234 = (12, 76)) (ptf_l (a := 234) (k := 57) (n := 273) (by decide +kernel)) (by decide +kernel)).trans ?_
  refine (px_go (by decide +kernel : pm_fe 278 29 = some (.iload_n 1, 1)) rfl).trans ?_
  refine (ry_iald (by decide +kernel : 273 < 283 ∧ SHF 273 = (100, 176)) h1 h2 (by decide +kernel)).trans ?_
  refine (px_go (by decide +kernel : pm_fe 278 31 = some (.iload_n 3, 1)) rfl).trans ?_
  refine (ry_ic_lt (off := 21) (tgt := 53) h3 h4 (by decide +kernel)).trans ?_
  exact Iff.rfl
theorem r278_35 {d : Nat} {X : Nat × (Nat → Int)} {v : Nat → Int} {M : PH} {K : PV → PS → Prop} {l1 l2 l3 : Int} (h1 : 0 ≤ l2) (h2 : l2 < 176) (h3 : inR (M 273 l2.toNat)) (h4 : inR (9999 - l3)) : pm_Run d 278 35 [vA 234, vI l1, vI l2, vI l3, PU] [] (GF X, M, PTF v) K ↔ if 9999 - l3 < M 273 l2.toNat then pm_Run d 278 53 [vA 234, vI l1, vI l2, vI l3, PU] [] (GF X, M, PTF v) K else pm_Run d 278 49 [vA 234, vI l1, vI l2, vI l3, PU] [] (GF X, M, PTF v) K := by
  refine (px_go (by decide +kernel : pm_fe 278 35 = some (.aload_n 0, 1)) rfl).trans ?_
  refine (ry_get2 (idx := 186) (ci := 12) (k := 57) (by decide +kernel : 234 < 283 ∧ SHF 234 = (12, 76)) (ptf_l (a := 234) (k := 57) (n := 273) (by decide +kernel)) (by decide +kernel)).trans ?_
  refine (px_go (by decide +kernel : pm_fe 278 39 = some (.iload_n 2, 1)) rfl).trans ?_
  refine (ry_iald (by decide +kernel : 273 < 283 ∧ SHF 273 = (100, 176)) h1 h2 (by decide +kernel)).trans ?_
  refine (px_go (by decide +kernel : pm_fe 278 41 = some (.sipush 9999, 3)) rfl).trans ?_
  refine (px_go (by decide +kernel : pm_fe 278 44 = some (.iload_n 3, 1)) rfl).trans ?_
  refine (px_go (by decide +kernel : pm_fe 278 45 = some (.isub, 1)) rfl).trans ?_
  refine (ry_ic_gt (off := 7) (tgt := 53) h3 h4 (by decide +kernel)).trans ?_
  exact Iff.rfl
theorem r278_49 {d : Nat} {X : Nat × (Nat → Int)} {v : Nat → Int} {M : PH} {K : PV → PS → Prop} {l1 l2 l3 : Int} : pm_Run d 278 49 [vA 234, vI l1, vI l2, vI l3, PU] [] (GF X, M, PTF v) K ↔ pm_Run d 278 54 [vA 234, vI l1, vI l2, vI l3, PU] [vI 1] (GF X, M, PTF v) K := by
  refine (px_go (by decide +kernel : pm_fe 278 49 = some (.iconst 1, 1)) rfl).trans ?_
  refine (px_goto (off := 4) (tgt := 54) (by decide +kernel)).trans ?_
  exact Iff.rfl
theorem r278_53 {d : Nat} {X : Nat × (Nat → Int)} {v : Nat → Int} {M : PH} {K : PV → PS → Prop} {l1 l2 l3 : Int} : pm_Run d 278 53 [vA 234, vI l1, vI l2, vI l3, PU] [] (GF X, M, PTF v) K ↔ pm_Run d 278 54 [vA 234, vI l1, vI l2, vI l3, PU] [vI 0] (GF X, M, PTF v) K := by
  refine (px_go (by decide +kernel : pm_fe 278 53 = some (.iconst 0, 1)) rfl).trans ?_
  exact Iff.rfl
theorem r278_54 {d : Nat} {X : Nat × (Nat → Int)} {v : Nat → Int} {M : PH} {K : PV → PS → Prop} {l1 l2 l3 s0 : Int} (h1 : inR s0) : pm_Run d 278 54 [vA 234, vI l1, vI l2, vI l3, PU] [vI s0] (GF X, M, PTF v) K ↔ if s0 ≠ 0 then pm_Run d 278 75 [vA 234, vI l1, vI l2, vI l3, vI s0] [] (GF X, M, PTF v) K else pm_Run d 278 61 [vA 234, vI l1, vI l2, vI l3, vI s0] [] (GF X, M, PTF v) K := by
  refine (px_go (by decide +kernel : pm_fe 278 54 = some (.istore 4, 2)) rfl).trans ?_
  refine (px_go (by decide +kernel : pm_fe 278 56 = some (.iload 4, 2)) rfl).trans ?_
  refine (ry_if_ne (off := 17) (tgt := 75) h1 (by decide +kernel)).trans ?_
  exact Iff.rfl
theorem r278_61 {d : Nat} {X : Nat × (Nat → Int)} {v : Nat → Int} {M : PH} {K : PV → PS → Prop} {l1 l2 l3 l4 : Int} : pm_Run d 278 61 [vA 234, vI l1, vI l2, vI l3, vI l4] [] (GF X, M, PTF v) K ↔ pm_Call d 224 [vA 234, vI 2] (GF X, M, PTF v) (fun r9 S1 => pm_Run d 278 66 [vA 234, vI l1, vI l2, vI l3, vI l4] (pm_push r9 []) S1 K) := by
  refine (px_go (by decide +kernel : pm_fe 278 61 = some (.aload_n 0, 1)) rfl).trans ?_
  refine (px_go (by decide +kernel : pm_fe 278 62 = some (.iconst 2, 1)) rfl).trans ?_
  refine (ry_v1 (idx := 243) (m' := 224) (ci := 12) (by decide +kernel : 234 < 283 ∧ SHF 234 = (12, 76)) (by simp [pm_wl_n, pm_wl_c, pm_w] : pm_wl [] ≤ 8) (by decide +kernel)).trans ?_
  exact Iff.rfl
theorem r278_66 {d : Nat} {X : Nat × (Nat → Int)} {v : Nat → Int} {M : PH} {K : PV → PS → Prop} {l1 l2 l3 l4 s0 : Int} (h1 : inR s0) : pm_Run d 278 66 [vA 234, vI l1, vI l2, vI l3, vI l4] [vI s0] (GF X, M, PTF v) K ↔ if s0 < 0 then pm_Run d 278 73 [vA 234, vI l1, vI l2, vI l3, vI l4] [] (GF X, M, PTF v) K else pm_Run d 278 69 [vA 234, vI l1, vI l2, vI l3, vI l4] [] (GF X, M, PTF v) K := by
  refine (ry_if_lt (off := 7) (tgt := 73) h1 (by decide +kernel)).trans ?_
  exact Iff.rfl
theorem r278_69 {d : Nat} {X : Nat × (Nat → Int)} {v : Nat → Int} {M : PH} {K : PV → PS → Prop} {l1 l2 l3 l4 : Int} : pm_Run d 278 69 [vA 234, vI l1, vI l2, vI l3, vI l4] [] (GF X, M, PTF v) K ↔ pm_Run d 278 74 [vA 234, vI l1, vI l2, vI l3, vI l4] [vI 1] (GF X, M, PTF v) K := by
  refine (px_go (by decide +kernel : pm_fe 278 69 = some (.iconst 1, 1)) rfl).trans ?_
  refine (px_goto (off := 4) (tgt := 74) (by decide +kernel)).trans ?_
  exact Iff.rfl
theorem r278_73 {d : Nat} {X : Nat × (Nat → Int)} {v : Nat → Int} {M : PH} {K : PV → PS → Prop} {l1 l2 l3 l4 : Int} : pm_Run d 278 73 [vA 234, vI l1, vI l2, vI l3, vI l4] [] (GF X, M, PTF v) K ↔ pm_Run d 278 74 [vA 234, vI l1, vI l2, vI l3, vI l4] [vI 0] (GF X, M, PTF v) K := by
  refine (px_go (by decide +kernel : pm_fe 278 73 = some (.iconst 0, 1)) rfl).trans ?_
  exact Iff.rfl
theorem r278_74 {d : Nat} {X : Nat × (Nat → Int)} {v : Nat → Int} {M : PH} {K : PV → PS → Prop} {l1 l2 l3 l4 s0 : Int} (h1 : s0 = 0 ∨ s0 = 1) : pm_Run d 278 74 [vA 234, vI l1, vI l2, vI l3, vI l4] [vI s0] (GF X, M, PTF v) K ↔ K (vI s0) (GF X, M, PTF v) := by
  refine (px_rz (by decide +kernel)).trans ((and_iff_right h1).trans ?_)
  exact Iff.rfl
theorem r278_75 {d : Nat} {X : Nat × (Nat → Int)} {v : Nat → Int} {M : PH} {K : PV → PS → Prop} {l1 l2 l3 l4 : Int} : pm_Run d 278 75 [vA 234, vI l1, vI l2, vI l3, vI l4] [] (GF X, M, PTF v) K ↔ pm_Call d 235 [vA 234] (GF X, M, PTF v) (fun r9 S1 => pm_Run d 278 79 [vA 234, vI l1, vI l2, vI l3, vI l4] (pm_push r9 []) S1 K) := by
  refine (px_go (by decide +kernel : pm_fe 278 75 = some (.aload_n 0, 1)) rfl).trans ?_
  refine (ry_v0 (idx := 572) (m' := 235) (ci := 12) (by decide +kernel : 234 < 283 ∧ SHF 234 = (12, 76)) (by simp [pm_wl_n, pm_wl_c, pm_w] : pm_wl [] ≤ 8) (by decide +kernel)).trans ?_
  exact Iff.rfl
theorem r278_79 {d : Nat} {X : Nat × (Nat → Int)} {v : Nat → Int} {M : PH} {K : PV → PS → Prop} {l1 l2 l3 l4 : Int} (h1 : 0 ≤ l1) (h2 : l1 < 176) : pm_Run d 278 79 [vA 234, vI l1, vI l2, vI l3, vI l4] [] (GF X, M, PTF v) K ↔ pm_Run d 278 89 [vA 234, vI l1, vI l2, vI l3, vI l4] [] (GF X, pm_sa M 273 (pm_up (M 273) l1.toNat ((M 273 l1.toNat) - l3)), PTF v) K := by
  refine (px_go (by decide +kernel : pm_fe 278 79 = some (.aload_n 0, 1)) rfl).trans ?_
  refine (ry_get2 (idx := 186) (ci := 12) (k := 57) (by decide +kernel : 234 < 283 ∧ SHF 234 = (12, 76)) (ptf_l (a := 234) (k := 57) (n := 273) (by decide +kernel)) (by decide +kernel)).trans ?_
  refine (px_go (by decide +kernel : pm_fe 278 83 = some (.iload_n 1, 1)) rfl).trans ?_
  refine (px_go (by decide +kernel : pm_fe 278 84 = some (.dup2, 1)) rfl).trans ?_
  refine (ry_iald (by decide +kernel : 273 < 283 ∧ SHF 273 = (100, 176)) h1 h2 (by decide +kernel)).trans ?_
  refine (px_go (by decide +kernel : pm_fe 278 86 = some (.iload_n 3, 1)) rfl).trans ?_
  refine (px_go (by decide +kernel : pm_fe 278 87 = some (.isub, 1)) rfl).trans ?_
  refine (ry_iast (by decide +kernel : 273 < 283 ∧ SHF 273 = (100, 176)) h1 h2 (by decide +kernel)).trans ?_
  exact Iff.rfl
theorem r278_89 {d : Nat} {X : Nat × (Nat → Int)} {v : Nat → Int} {M : PH} {K : PV → PS → Prop} {l1 l2 l3 l4 : Int} (h1 : 0 ≤ l2) (h2 : l2 < 176) : pm_Run d 278 89 [vA 234, vI l1, vI l2, vI l3, vI l4] [] (GF X, M, PTF v) K ↔ pm_Run d 278 99 [vA 234, vI l1, vI l2, vI l3, vI l4] [] (GF X, pm_sa M 273 (pm_up (M 273) l2.toNat ((M 273 l2.toNat) + l3)), PTF v) K := by
  refine (px_go (by decide +kernel : pm_fe 278 89 = some (.aload_n 0, 1)) rfl).trans ?_
  refine (ry_get2 (idx := 186) (ci := 12) (k := 57) (by decide +kernel : 234 < 283 ∧ SHF 234 = (12, 76)) (ptf_l (a := 234) (k := 57) (n := 273) (by decide +kernel)) (by decide +kernel)).trans ?_
  refine (px_go (by decide +kernel : pm_fe 278 93 = some (.iload_n 2, 1)) rfl).trans ?_
  refine (px_go (by decide +kernel : pm_fe 278 94 = some (.dup2, 1)) rfl).trans ?_
  refine (ry_iald (by decide +kernel : 273 < 283 ∧ SHF 273 = (100, 176)) h1 h2 (by decide +kernel)).trans ?_
  refine (px_go (by decide +kernel : pm_fe 278 96 = some (.iload_n 3, 1)) rfl).trans ?_
  refine (px_go (by decide +kernel : pm_fe 278 97 = some (.iadd, 1)) rfl).trans ?_
  refine (ry_iast (by decide +kernel : 273 < 283 ∧ SHF 273 = (100, 176)) h1 h2 (by decide +kernel)).trans ?_
  exact Iff.rfl
theorem r278_99 {d : Nat} {X : Nat × (Nat → Int)} {v : Nat → Int} {M : PH} {K : PV → PS → Prop} {l1 l2 l3 l4 : Int} : pm_Run d 278 99 [vA 234, vI l1, vI l2, vI l3, vI l4] [] (GF X, M, PTF v) K ↔ K (vI 1) (GF X, M, PTF v) := by
  refine (px_go (by decide +kernel : pm_fe 278 99 = some (.iconst 1, 1)) rfl).trans ?_
  refine (px_rz (by decide +kernel)).trans ((and_iff_right (by decide : (1 : Int) = (0 : Int) ∨ (1 : Int) = (1 : Int))).trans ?_)
  exact Iff.rfl
-- X12_soothe soothe(II)I
theorem r279_0 {d : Nat} {X : Nat × (Nat → Int)} {v : Nat → Int} {M : PH} {K : PV → PS → Prop} {l1 l2 : Int} : pm_Run d 279 0 [vA 234, vI l1, vI l2, PU] [] (GF X, M, PTF v) K ↔ pm_Call d 228 [vA 234, vI l1] (GF X, M, PTF v) (fun r9 S1 => pm_Run d 279 5 [vA 234, vI l1, vI l2, PU] (pm_push r9 []) S1 K) := by
  refine (px_go (by decide +kernel : pm_fe 279 0 = some (.aload_n 0, 1)) rfl).trans ?_
  refine (px_go (by decide +kernel : pm_fe 279 1 = some (.iload_n 1, 1)) rfl).trans ?_
  refine (ry_v1 (idx := 535) (m' := 228) (ci := 12) (by decide +kernel : 234 < 283 ∧ SHF 234 = (12, 76)) (by simp [pm_wl_n, pm_wl_c, pm_w] : pm_wl [] ≤ 8) (by decide +kernel)).trans ?_
  exact Iff.rfl
theorem r279_5 {d : Nat} {X : Nat × (Nat → Int)} {v : Nat → Int} {M : PH} {K : PV → PS → Prop} {l1 l2 s0 : Int} (h1 : inR s0) : pm_Run d 279 5 [vA 234, vI l1, vI l2, PU] [vI s0] (GF X, M, PTF v) K ↔ if s0 = 0 then pm_Run d 279 18 [vA 234, vI l1, vI l2, PU] [] (GF X, M, PTF v) K else pm_Run d 279 8 [vA 234, vI l1, vI l2, PU] [] (GF X, M, PTF v) K := by
  refine (ry_if_eq (off := 13) (tgt := 18) h1 (by decide +kernel)).trans ?_
  exact Iff.rfl
theorem r279_8 {d : Nat} {X : Nat × (Nat → Int)} {v : Nat → Int} {M : PH} {K : PV → PS → Prop} {l1 l2 : Int} : pm_Run d 279 8 [vA 234, vI l1, vI l2, PU] [] (GF X, M, PTF v) K ↔ pm_Call d 179 [vI l2, vI 0, vI 9] (GF X, M, PTF v) (fun r9 S1 => pm_Run d 279 15 [vA 234, vI l1, vI l2, PU] (pm_push r9 []) S1 K) := by
  refine (px_go (by decide +kernel : pm_fe 279 8 = some (.iload_n 2, 1)) rfl).trans ?_
  refine (px_go (by decide +kernel : pm_fe 279 9 = some (.iconst 0, 1)) rfl).trans ?_
  refine (px_go (by decide +kernel : pm_fe 279 10 = some (.bipush 9, 2)) rfl).trans ?_
  refine (px_s3 (idx := 337) (m' := 179) (nest := 0) (by decide +kernel)).trans ((and_iff_right (by simp [pm_wl_n, pm_wl_c, pm_w] : pm_wl [] ≤ 8)).trans ?_)
  exact Iff.rfl
theorem r279_15 {d : Nat} {X : Nat × (Nat → Int)} {v : Nat → Int} {M : PH} {K : PV → PS → Prop} {l1 l2 s0 : Int} (h1 : inR s0) : pm_Run d 279 15 [vA 234, vI l1, vI l2, PU] [vI s0] (GF X, M, PTF v) K ↔ if s0 ≠ 0 then pm_Run d 279 24 [vA 234, vI l1, vI l2, PU] [] (GF X, M, PTF v) K else pm_Run d 279 18 [vA 234, vI l1, vI l2, PU] [] (GF X, M, PTF v) K := by
  refine (ry_if_ne (off := 9) (tgt := 24) h1 (by decide +kernel)).trans ?_
  exact Iff.rfl
theorem r279_18 {d : Nat} {X : Nat × (Nat → Int)} {v : Nat → Int} {M : PH} {K : PV → PS → Prop} {l1 l2 : Int} : pm_Run d 279 18 [vA 234, vI l1, vI l2, PU] [] (GF X, M, PTF v) K ↔ pm_Call d 224 [vA 234, vI 2] (GF X, M, PTF v) (fun r9 S1 => pm_Run d 279 23 [vA 234, vI l1, vI l2, PU] (pm_push r9 []) S1 K) := by
  refine (px_go (by decide +kernel : pm_fe 279 18 = some (.aload_n 0, 1)) rfl).trans ?_
  refine (px_go (by decide +kernel : pm_fe 279 19 = some (.iconst 2, 1)) rfl).trans ?_
  refine (ry_v1 (idx := 243) (m' := 224) (ci := 12) (by decide +kernel : 234 < 283 ∧ SHF 234 = (12, 76)) (by simp [pm_wl_n, pm_wl_c, pm_w] : pm_wl [] ≤ 8) (by decide +kernel)).trans ?_
  exact Iff.rfl
theorem r279_23 {d : Nat} {X : Nat × (Nat → Int)} {v : Nat → Int} {M : PH} {K : PV → PS → Prop} {l1 l2 s0 : Int} : pm_Run d 279 23 [vA 234, vI l1, vI l2, PU] [vI s0] (GF X, M, PTF v) K ↔ K (vI s0) (GF X, M, PTF v) := by
  refine (px_ri (by decide +kernel)).trans ?_
  exact Iff.rfl
theorem r279_24 {d : Nat} {X : Nat × (Nat → Int)} {v : Nat → Int} {M : PH} {K : PV → PS → Prop} {l1 l2 : Int} : pm_Run d 279 24 [vA 234, vI l1, vI l2, PU] [] (GF X, M, PTF v) K ↔ pm_Call d 235 [vA 234] (GF X, M, PTF v) (fun r9 S1 => pm_Run d 279 28 [vA 234, vI l1, vI l2, PU] (pm_push r9 []) S1 K) := by
  refine (px_go (by decide +kernel : pm_fe 279 24 = some (.aload_n 0, 1)) rfl).trans ?_
  refine (ry_v0 (idx := 572) (m' := 235) (ci := 12) (by decide +kernel : 234 < 283 ∧ SHF 234 = (12, 76)) (by simp [pm_wl_n, pm_wl_c, pm_w] : pm_wl [] ≤ 8) (by decide +kernel)).trans ?_
  exact Iff.rfl
theorem r279_28 {d : Nat} {X : Nat × (Nat → Int)} {v : Nat → Int} {M : PH} {K : PV → PS → Prop} {l1 l2 : Int} (h1 : 0 ≤ l1) (h2 : l1 < 66) : pm_Run d 279 28 [vA 234, vI l1, vI l2, PU] [] (GF X, M, PTF v) K ↔ pm_Run d 279 42 [vA 234, vI l1, vI l2, vI (M 272 l1.toNat)] [] (GF X, pm_sa M 272 (pm_up (M 272) l1.toNat l2), PTF v) K := by
  refine (px_go (by decide +kernel : pm_fe 279 28 = some (.aload_n 0, 1)) rfl).trans ?_
  refine (ry_get2 (idx := 183) (ci := 12) (k := 56) (by decide +kernel : 234 < 283 ∧ SHF 234 = (12, 76)) (ptf_l (a := 234) (k := 56) (n := 272) (by decide +kernel)) (by decide +kernel)).trans ?_
  refine (px_go (by decide +kernel : pm_fe 279 32 = some (.iload_n 1, 1)) rfl).trans ?_
  refine (ry_iald (by decide +kernel : 272 < 283 ∧ SHF 272 = (100, 66)) h1 h2 (by decide +kernel)).trans ?_
  refine (px_go (by decide +kernel : pm_fe 279 34 = some (.istore_n 3, 1)) rfl).trans ?_
  refine (px_go (by decide +kernel : pm_fe 279 35 = some (.aload_n 0, 1)) rfl).trans ?_
  refine (ry_get2 (idx := 183) (ci := 12) (k := 56) (by decide +kernel : 234 < 283 ∧ SHF 234 = (12, 76)) (ptf_l (a := 234) (k := 56) (n := 272) (by decide +kernel)) (by decide +kernel)).trans ?_
  refine (px_go (by decide +kernel : pm_fe 279 39 = some (.iload_n 1, 1)) rfl).trans ?_
  refine (px_go (by decide +kernel : pm_fe 279 40 = some (.iload_n 2, 1)) rfl).trans ?_
  refine (ry_iast (by decide +kernel : 272 < 283 ∧ SHF 272 = (100, 66)) h1 h2 (by decide +kernel)).trans ?_
  exact Iff.rfl
theorem r279_42 {d : Nat} {X : Nat × (Nat → Int)} {v : Nat → Int} {M : PH} {K : PV → PS → Prop} {l1 l2 l3 : Int} : pm_Run d 279 42 [vA 234, vI l1, vI l2, vI l3] [] (GF X, M, PTF v) K ↔ K (vI l3) (GF X, M, PTF v) := by
  refine (px_go (by decide +kernel : pm_fe 279 42 = some (.iload_n 3, 1)) rfl).trans ?_
  refine (px_ri (by decide +kernel)).trans ?_
  exact Iff.rfl
-- X12_hours hours(I)I
theorem r280_0 {d : Nat} {X : Nat × (Nat → Int)} {v : Nat → Int} {M : PH} {K : PV → PS → Prop} {l1 : Int} : pm_Run d 280 0 [vA 234, vI l1, PU] [] (GF X, M, PTF v) K ↔ pm_Call d 226 [vA 234] (GF X, M, PTF v) (fun r9 S1 => pm_Run d 280 4 [vA 234, vI l1, PU] (pm_push r9 []) S1 K) := by
  refine (px_go (by decide +kernel : pm_fe 280 0 = some (.aload_n 0, 1)) rfl).trans ?_
  refine (ry_v0 (idx := 523) (m' := 226) (ci := 12) (by decide +kernel : 234 < 283 ∧ SHF 234 = (12, 76)) (by simp [pm_wl_n, pm_wl_c, pm_w] : pm_wl [] ≤ 8) (by decide +kernel)).trans ?_
  exact Iff.rfl
theorem r280_4 {d : Nat} {X : Nat × (Nat → Int)} {v : Nat → Int} {M : PH} {K : PV → PS → Prop} {l1 s0 : Int} (h1 : inR s0) : pm_Run d 280 4 [vA 234, vI l1, PU] [vI s0] (GF X, M, PTF v) K ↔ if s0 = 0 then pm_Run d 280 32 [vA 234, vI l1, PU] [] (GF X, M, PTF v) K else pm_Run d 280 7 [vA 234, vI l1, PU] [] (GF X, M, PTF v) K := by
  refine (ry_if_eq (off := 28) (tgt := 32) h1 (by decide +kernel)).trans ?_
  exact Iff.rfl
theorem r280_7 {d : Nat} {X : Nat × (Nat → Int)} {v : Nat → Int} {M : PH} {K : PV → PS → Prop} {l1 : Int} : pm_Run d 280 7 [vA 234, vI l1, PU] [] (GF X, M, PTF v) K ↔ pm_Call d 179 [vI l1, vI 1, vI 200] (GF X, M, PTF v) (fun r9 S1 => pm_Run d 280 15 [vA 234, vI l1, PU] (pm_push r9 []) S1 K) := by
  refine (px_go (by decide +kernel : pm_fe 280 7 = some (.iload_n 1, 1)) rfl).trans ?_
  refine (px_go (by decide +kernel : pm_fe 280 8 = some (.iconst 1, 1)) rfl).trans ?_
  refine (px_go (by decide +kernel : pm_fe 280 9 = some (.sipush 200, 3)) rfl).trans ?_
  refine (px_s3 (idx := 337) (m' := 179) (nest := 0) (by decide +kernel)).trans ((and_iff_right (by simp [pm_wl_n, pm_wl_c, pm_w] : pm_wl [] ≤ 8)).trans ?_)
  exact Iff.rfl
theorem r280_15 {d : Nat} {X : Nat × (Nat → Int)} {v : Nat → Int} {M : PH} {K : PV → PS → Prop} {l1 s0 : Int} (h1 : inR s0) : pm_Run d 280 15 [vA 234, vI l1, PU] [vI s0] (GF X, M, PTF v) K ↔ if s0 = 0 then pm_Run d 280 32 [vA 234, vI l1, PU] [] (GF X, M, PTF v) K else pm_Run d 280 18 [vA 234, vI l1, PU] [] (GF X, M, PTF v) K := by
  refine (ry_if_eq (off := 17) (tgt := 32) h1 (by decide +kernel)).trans ?_
  exact Iff.rfl
theorem r280_18 {d : Nat} {X : Nat × (Nat → Int)} {v : Nat → Int} {M : PH} {K : PV → PS → Prop} {l1 : Int} (h1 : inR ((M 270 0) + l1)) : pm_Run d 280 18 [vA 234, vI l1, PU] [] (GF X, M, PTF v) K ↔ if (M 270 0) + l1 ≤ 9999 then pm_Run d 280 38 [vA 234, vI l1, PU] [] (GF X, M, PTF v) K else pm_Run d 280 32 [vA 234, vI l1, PU] [] (GF X, M, PTF v) K := by
  refine (px_go (by decide +kernel : pm_fe 280 18 = some (.aload_n 0, 1)) rfl).trans ?_
  refine (ry_get2 (idx := 177) (ci := 12) (k := 54) (by decide +kernel : 234 < 283 ∧ SHF 234 = (12, 76)) (ptf_l (a := 234) (k := 54) (n := 270) (by decide +kernel)) (by decide +kernel)).trans ?_
  refine (px_go (by decide +kernel : pm_fe 280 22 = some (.iconst 0, 1)) rfl).trans ?_
  refine (ry_iald (by decide +kernel : 270 < 283 ∧ SHF 270 = (100, 22)) (by decide : (0 : Int) ≤ (0 : Int)) (by decide : (0 : Int) < (22 : Int)) (by decide +kernel)).trans ?_
  refine (px_go (by decide +kernel : pm_fe 280 24 = some (.iload_n 1, 1)) rfl).trans ?_
  refine (px_go (by decide +kernel : pm_fe 280 25 = some (.iadd, 1)) rfl).trans ?_
  refine (px_go (by decide +kernel : pm_fe 280 26 = some (.sipush 9999, 3)) rfl).trans ?_
  refine (ry_ic_le (off := 9) (tgt := 38) h1 (by decide : (-2147483648 ≤ (9999 : Int) ∧ (9999 : Int) < 2147483648)) (by decide +kernel)).trans ?_
  exact Iff.rfl
theorem r280_32 {d : Nat} {X : Nat × (Nat → Int)} {v : Nat → Int} {M : PH} {K : PV → PS → Prop} {l1 : Int} : pm_Run d 280 32 [vA 234, vI l1, PU] [] (GF X, M, PTF v) K ↔ pm_Call d 224 [vA 234, vI 3] (GF X, M, PTF v) (fun r9 S1 => pm_Run d 280 37 [vA 234, vI l1, PU] (pm_push r9 []) S1 K) := by
  refine (px_go (by decide +kernel : pm_fe 280 32 = some (.aload_n 0, 1)) rfl).trans ?_
  refine (px_go (by decide +kernel : pm_fe 280 33 = some (.iconst 3, 1)) rfl).trans ?_
  refine (ry_v1 (idx := 243) (m' := 224) (ci := 12) (by decide +kernel : 234 < 283 ∧ SHF 234 = (12, 76)) (by simp [pm_wl_n, pm_wl_c, pm_w] : pm_wl [] ≤ 8) (by decide +kernel)).trans ?_
  exact Iff.rfl
theorem r280_37 {d : Nat} {X : Nat × (Nat → Int)} {v : Nat → Int} {M : PH} {K : PV → PS → Prop} {l1 s0 : Int} : pm_Run d 280 37 [vA 234, vI l1, PU] [vI s0] (GF X, M, PTF v) K ↔ K (vI s0) (GF X, M, PTF v) := by
  refine (px_ri (by decide +kernel)).trans ?_
  exact Iff.rfl
theorem r280_38 {d : Nat} {X : Nat × (Nat → Int)} {v : Nat → Int} {M : PH} {K : PV → PS → Prop} {l1 : Int} : pm_Run d 280 38 [vA 234, vI l1, PU] [] (GF X, M, PTF v) K ↔ pm_Call d 235 [vA 234] (GF X, M, PTF v) (fun r9 S1 => pm_Run d 280 42 [vA 234, vI l1, PU] (pm_push r9 []) S1 K) := by
  refine (px_go (by decide +kernel : pm_fe 280 38 = some (.aload_n 0, 1)) rfl).trans ?_
  refine (ry_v0 (idx := 572) (m' := 235) (ci := 12) (by decide +kernel : 234 < 283 ∧ SHF 234 = (12, 76)) (by simp [pm_wl_n, pm_wl_c, pm_w] : pm_wl [] ≤ 8) (by decide +kernel)).trans ?_
  exact Iff.rfl
theorem r280_42 {d : Nat} {X : Nat × (Nat → Int)} {v : Nat → Int} {M : PH} {K : PV → PS → Prop} {l1 : Int} : pm_Run d 280 42 [vA 234, vI l1, PU] [] (GF X, M, PTF v) K ↔ pm_Run d 280 44 [vA 234, vI l1, vI 0] [] (GF X, M, PTF v) K := by
  refine (px_go (by decide +kernel : pm_fe 280 42 = some (.iconst 0, 1)) rfl).trans ?_
  refine (px_go (by decide +kernel : pm_fe 280 43 = some (.istore_n 2, 1)) rfl).trans ?_
  exact Iff.rfl
theorem r280_44 {d : Nat} {X : Nat × (Nat → Int)} {v : Nat → Int} {M : PH} {K : PV → PS → Prop} {l1 l2 : Int} (h1 : inR l2) (h2 : inR l1) : pm_Run d 280 44 [vA 234, vI l1, vI l2] [] (GF X, M, PTF v) K ↔ if l1 ≤ l2 then pm_Run d 280 60 [vA 234, vI l1, vI l2] [] (GF X, M, PTF v) K else pm_Run d 280 49 [vA 234, vI l1, vI l2] [] (GF X, M, PTF v) K := by
  refine (px_go (by decide +kernel : pm_fe 280 44 = some (.iload_n 2, 1)) rfl).trans ?_
  refine (px_go (by decide +kernel : pm_fe 280 45 = some (.iload_n 1, 1)) rfl).trans ?_
  refine (ry_ic_ge (off := 14) (tgt := 60) h1 h2 (by decide +kernel)).trans ?_
  exact Iff.rfl
theorem r280_49 {d : Nat} {X : Nat × (Nat → Int)} {v : Nat → Int} {M : PH} {K : PV → PS → Prop} {l1 l2 : Int} : pm_Run d 280 49 [vA 234, vI l1, vI l2] [] (GF X, M, PTF v) K ↔ pm_Call d 257 [vA 234, vI 0] (GF X, M, PTF v) (fun r9 S1 => pm_Run d 280 54 [vA 234, vI l1, vI l2] (pm_push r9 []) S1 K) := by
  refine (px_go (by decide +kernel : pm_fe 280 49 = some (.aload_n 0, 1)) rfl).trans ?_
  refine (px_go (by decide +kernel : pm_fe 280 50 = some (.iconst 0, 1)) rfl).trans ?_
  refine (ry_v1 (idx := 530) (m' := 257) (ci := 12) (by decide +kernel : 234 < 283 ∧ SHF 234 = (12, 76)) (by simp [pm_wl_n, pm_wl_c, pm_w] : pm_wl [] ≤ 8) (by decide +kernel)).trans ?_
  exact Iff.rfl
theorem r280_54 {d : Nat} {X : Nat × (Nat → Int)} {v : Nat → Int} {M : PH} {K : PV → PS → Prop} {l1 l2 : Int} : pm_Run d 280 54 [vA 234, vI l1, vI l2] [] (GF X, M, PTF v) K ↔ pm_Run d 280 44 [vA 234, vI l1, vI (l2 + 1)] [] (GF X, M, PTF v) K := by
  refine (px_go (by decide +kernel : pm_fe 280 54 = some (.iinc 2 1, 3)) rfl).trans ?_
  refine (px_goto (off := (-13)) (tgt := 44) (by decide +kernel)).trans ?_
  exact Iff.rfl
theorem r280_60 {d : Nat} {X : Nat × (Nat → Int)} {v : Nat → Int} {M : PH} {K : PV → PS → Prop} {l1 l2 : Int} : pm_Run d 280 60 [vA 234, vI l1, vI l2] [] (GF X, M, PTF v) K ↔ K (vI (M 270 0)) (GF X, M, PTF v) := by
  refine (px_go (by decide +kernel : pm_fe 280 60 = some (.aload_n 0, 1)) rfl).trans ?_
  refine (ry_get2 (idx := 177) (ci := 12) (k := 54) (by decide +kernel : 234 < 283 ∧ SHF 234 = (12, 76)) (ptf_l (a := 234) (k := 54) (n := 270) (by decide +kernel)) (by decide +kernel)).trans ?_
  refine (px_go (by decide +kernel : pm_fe 280 64 = some (.iconst 0, 1)) rfl).trans ?_
  refine (ry_iald (by decide +kernel : 270 < 283 ∧ SHF 270 = (100, 22)) (by decide : (0 : Int) ≤ (0 : Int)) (by decide : (0 : Int) < (22 : Int)) (by decide +kernel)).trans ?_
  refine (px_ri (by decide +kernel)).trans ?_
  exact Iff.rfl
-- X12_draw draw(I)I
theorem r281_0 {d : Nat} {X : Nat × (Nat → Int)} {v : Nat → Int} {M : PH} {K : PV → PS → Prop} {l1 : Int} (h1 : inL ((1103515245 * (M 234 62)) + 12345)) : pm_Run d 281 0 [vA 234, vI l1] [] (GF X, M, PTF v) K ↔ pm_Run d 281 20 [vA 234, vI l1] [] (GF X, pm_sa M 234 (pm_up (M 234) 62 (((1103515245 * (M 234 62)) + 12345).tmod 2147483648)), PTF v) K := by
  refine (px_go (by decide +kernel : pm_fe 281 0 = some (.aload_n 0, 1)) rfl).trans ?_
  refine (px_ldcL (idx := 575) (x := 1103515245) (by decide +kernel)).trans ?_
  refine (px_go (by decide +kernel : pm_fe 281 4 = some (.aload_n 0, 1)) rfl).trans ?_
  refine (ry_get1 (idx := 201) (ci := 12) (k := 62) (by decide +kernel : 234 < 283 ∧ SHF 234 = (12, 76)) (by decide +kernel)).trans ?_
  refine (px_go (by decide +kernel : pm_fe 281 8 = some (.lmul, 1)) rfl).trans ?_
  refine (px_ldcL (idx := 577) (x := 12345) (by decide +kernel)).trans ?_
  refine (px_go (by decide +kernel : pm_fe 281 12 = some (.ladd, 1)) rfl).trans ?_
  refine (px_ldcL (idx := 579) (x := 2147483648) (by decide +kernel)).trans ?_
  refine (ry_lrem h1 (by decide : (-9223372036854775808 ≤ (2147483648 : Int) ∧ (2147483648 : Int) < 9223372036854775808)) (by decide : (2147483648 : Int) ≠ (0 : Int)) (by decide +kernel)).trans ?_
  refine (ry_put1 (idx := 201) (ci := 12) (k := 62) (by decide +kernel : 234 < 283 ∧ SHF 234 = (12, 76)) (by decide +kernel)).trans ?_
  exact Iff.rfl
theorem r281_20 {d : Nat} {X : Nat × (Nat → Int)} {v : Nat → Int} {M : PH} {K : PV → PS → Prop} {l1 : Int} (h1 : inL (M 234 62)) (h2 : inR l1) (h3 : inL ((M 234 62).tdiv 64)) (h4 : inL l1) (h5 : l1 ≠ 0) : pm_Run d 281 20 [vA 234, vI l1] [] (GF X, M, PTF v) K ↔ K (vI (((M 234 62).tdiv 64).tmod l1)) (GF X, M, PTF v) := by
  refine (px_go (by decide +kernel : pm_fe 281 20 = some (.aload_n 0, 1)) rfl).trans ?_
  refine (ry_get1 (idx := 201) (ci := 12) (k := 62) (by decide +kernel : 234 < 283 ∧ SHF 234 = (12, 76)) (by decide +kernel)).trans ?_
  refine (px_ldcL (idx := 581) (x := 64) (by decide +kernel)).trans ?_
  refine (ry_ldiv h1 (by decide : (-9223372036854775808 ≤ (64 : Int) ∧ (64 : Int) < 9223372036854775808)) (by decide : (64 : Int) ≠ (0 : Int)) (by decide +kernel)).trans ?_
  refine (px_go (by decide +kernel : pm_fe 281 28 = some (.iload_n 1, 1)) rfl).trans ?_
  refine (ry_i2l h2 (by decide +kernel)).trans ?_
  refine (ry_lrem h3 h4 h5 (by decide +kernel)).trans ?_
  refine (px_go (by decide +kernel : pm_fe 281 31 = some (.l2i, 1)) rfl).trans ?_
  refine (px_ri (by decide +kernel)).trans ?_
  exact Iff.rfl
-- X12_storms storms(I)I
theorem r282_0 {d : Nat} {X : Nat × (Nat → Int)} {v : Nat → Int} {M : PH} {K : PV → PS → Prop} {l1 : Int} : pm_Run d 282 0 [vA 234, vI l1, PU, PU] [] (GF X, M, PTF v) K ↔ pm_Call d 226 [vA 234] (GF X, M, PTF v) (fun r9 S1 => pm_Run d 282 4 [vA 234, vI l1, PU, PU] (pm_push r9 []) S1 K) := by
  refine (px_go (by decide +kernel : pm_fe 282 0 = some (.aload_n 0, 1)) rfl).trans ?_
  refine (ry_v0 (idx := 523) (m' := 226) (ci := 12) (by decide +kernel : 234 < 283 ∧ SHF 234 = (12, 76)) (by simp [pm_wl_n, pm_wl_c, pm_w] : pm_wl [] ≤ 8) (by decide +kernel)).trans ?_
  exact Iff.rfl
theorem r282_4 {d : Nat} {X : Nat × (Nat → Int)} {v : Nat → Int} {M : PH} {K : PV → PS → Prop} {l1 s0 : Int} (h1 : inR s0) : pm_Run d 282 4 [vA 234, vI l1, PU, PU] [vI s0] (GF X, M, PTF v) K ↔ if s0 = 0 then pm_Run d 282 31 [vA 234, vI l1, PU, PU] [] (GF X, M, PTF v) K else pm_Run d 282 7 [vA 234, vI l1, PU, PU] [] (GF X, M, PTF v) K := by
  refine (ry_if_eq (off := 27) (tgt := 31) h1 (by decide +kernel)).trans ?_
  exact Iff.rfl
theorem r282_7 {d : Nat} {X : Nat × (Nat → Int)} {v : Nat → Int} {M : PH} {K : PV → PS → Prop} {l1 : Int} : pm_Run d 282 7 [vA 234, vI l1, PU, PU] [] (GF X, M, PTF v) K ↔ pm_Call d 179 [vI l1, vI 1, vI 100] (GF X, M, PTF v) (fun r9 S1 => pm_Run d 282 14 [vA 234, vI l1, PU, PU] (pm_push r9 []) S1 K) := by
  refine (px_go (by decide +kernel : pm_fe 282 7 = some (.iload_n 1, 1)) rfl).trans ?_
  refine (px_go (by decide +kernel : pm_fe 282 8 = some (.iconst 1, 1)) rfl).trans ?_
  refine (px_go (by decide +kernel : pm_fe 282 9 = some (.bipush 100, 2)) rfl).trans ?_
  refine (px_s3 (idx := 337) (m' := 179) (nest := 0) (by decide +kernel)).trans ((and_iff_right (by simp [pm_wl_n, pm_wl_c, pm_w] : pm_wl [] ≤ 8)).trans ?_)
  exact Iff.rfl
theorem r282_14 {d : Nat} {X : Nat × (Nat → Int)} {v : Nat → Int} {M : PH} {K : PV → PS → Prop} {l1 s0 : Int} (h1 : inR s0) : pm_Run d 282 14 [vA 234, vI l1, PU, PU] [vI s0] (GF X, M, PTF v) K ↔ if s0 = 0 then pm_Run d 282 31 [vA 234, vI l1, PU, PU] [] (GF X, M, PTF v) K else pm_Run d 282 17 [vA 234, vI l1, PU, PU] [] (GF X, M, PTF v) K := by
  refine (ry_if_eq (off := 17) (tgt := 31) h1 (by decide +kernel)).trans ?_
  exact Iff.rfl
theorem r282_17 {d : Nat} {X : Nat × (Nat → Int)} {v : Nat → Int} {M : PH} {K : PV → PS → Prop} {l1 : Int} (h1 : inR ((M 270 0) + l1)) : pm_Run d 282 17 [vA 234, vI l1, PU, PU] [] (GF X, M, PTF v) K ↔ if (M 270 0) + l1 ≤ 9999 then pm_Run d 282 37 [vA 234, vI l1, PU, PU] [] (GF X, M, PTF v) K else pm_Run d 282 31 [vA 234, vI l1, PU, PU] [] (GF X, M, PTF v) K := by
  refine (px_go (by decide +kernel : pm_fe 282 17 = some (.aload_n 0, 1)) rfl).trans ?_
  refine (ry_get2 (idx := 177) (ci := 12) (k := 54) (by decide +kernel : 234 < 283 ∧ SHF 234 = (12, 76)) (ptf_l (a := 234) (k := 54) (n := 270) (by decide +kernel)) (by decide +kernel)).trans ?_
  refine (px_go (by decide +kernel : pm_fe 282 21 = some (.iconst 0, 1)) rfl).trans ?_
  refine (ry_iald (by decide +kernel : 270 < 283 ∧ SHF 270 = (100, 22)) (by decide : (0 : Int) ≤ (0 : Int)) (by decide : (0 : Int) < (22 : Int)) (by decide +kernel)).trans ?_
  refine (px_go (by decide +kernel : pm_fe 282 23 = some (.iload_n 1, 1)) rfl).trans ?_
  refine (px_go (by decide +kernel : pm_fe 282 24 = some (.iadd, 1)) rfl).trans ?_
  refine (px_go (by decide +kernel : pm_fe 282 25 = some (.sipush 9999, 3)) rfl).trans ?_
  refine (ry_ic_le (off := 9) (tgt := 37) h1 (by decide : (-2147483648 ≤ (9999 : Int) ∧ (9999 : Int) < 2147483648)) (by decide +kernel)).trans ?_
  exact Iff.rfl
theorem r282_31 {d : Nat} {X : Nat × (Nat → Int)} {v : Nat → Int} {M : PH} {K : PV → PS → Prop} {l1 : Int} : pm_Run d 282 31 [vA 234, vI l1, PU, PU] [] (GF X, M, PTF v) K ↔ pm_Call d 224 [vA 234, vI 3] (GF X, M, PTF v) (fun r9 S1 => pm_Run d 282 36 [vA 234, vI l1, PU, PU] (pm_push r9 []) S1 K) := by
  refine (px_go (by decide +kernel : pm_fe 282 31 = some (.aload_n 0, 1)) rfl).trans ?_
  refine (px_go (by decide +kernel : pm_fe 282 32 = some (.iconst 3, 1)) rfl).trans ?_
  refine (ry_v1 (idx := 243) (m' := 224) (ci := 12) (by decide +kernel : 234 < 283 ∧ SHF 234 = (12, 76)) (by simp [pm_wl_n, pm_wl_c, pm_w] : pm_wl [] ≤ 8) (by decide +kernel)).trans ?_
  exact Iff.rfl
theorem r282_36 {d : Nat} {X : Nat × (Nat → Int)} {v : Nat → Int} {M : PH} {K : PV → PS → Prop} {l1 s0 : Int} : pm_Run d 282 36 [vA 234, vI l1, PU, PU] [vI s0] (GF X, M, PTF v) K ↔ K (vI s0) (GF X, M, PTF v) := by
  refine (px_ri (by decide +kernel)).trans ?_
  exact Iff.rfl
theorem r282_37 {d : Nat} {X : Nat × (Nat → Int)} {v : Nat → Int} {M : PH} {K : PV → PS → Prop} {l1 : Int} : pm_Run d 282 37 [vA 234, vI l1, PU, PU] [] (GF X, M, PTF v) K ↔ pm_Call d 235 [vA 234] (GF X, M, PTF v) (fun r9 S1 => pm_Run d 282 41 [vA 234, vI l1, PU, PU] (pm_push r9 []) S1 K) := by
  refine (px_go (by decide +kernel : pm_fe 282 37 = some (.aload_n 0, 1)) rfl).trans ?_
  refine (ry_v0 (idx := 572) (m' := 235) (ci := 12) (by decide +kernel : 234 < 283 ∧ SHF 234 = (12, 76)) (by simp [pm_wl_n, pm_wl_c, pm_w] : pm_wl [] ≤ 8) (by decide +kernel)).trans ?_
  exact Iff.rfl
theorem r282_41 {d : Nat} {X : Nat × (Nat → Int)} {v : Nat → Int} {M : PH} {K : PV → PS → Prop} {l1 : Int} : pm_Run d 282 41 [vA 234, vI l1, PU, PU] [] (GF X, M, PTF v) K ↔ pm_Run d 282 43 [vA 234, vI l1, vI 0, PU] [] (GF X, M, PTF v) K := by
  refine (px_go (by decide +kernel : pm_fe 282 41 = some (.iconst 0, 1)) rfl).trans ?_
  refine (px_go (by decide +kernel : pm_fe 282 42 = some (.istore_n 2, 1)) rfl).trans ?_
  exact Iff.rfl
theorem r282_43 {d : Nat} {X : Nat × (Nat → Int)} {v : Nat → Int} {M : PH} {K : PV → PS → Prop} {l1 l2 : Int} {l3 : PV} (h1 : inR l2) (h2 : inR l1) : pm_Run d 282 43 [vA 234, vI l1, vI l2, l3] [] (GF X, M, PTF v) K ↔ if l1 ≤ l2 then pm_Run d 282 97 [vA 234, vI l1, vI l2, l3] [] (GF X, M, PTF v) K else pm_Run d 282 48 [vA 234, vI l1, vI l2, l3] [] (GF X, M, PTF v) K := by
  refine (px_go (by decide +kernel : pm_fe 282 43 = some (.iload_n 2, 1)) rfl).trans ?_
  refine (px_go (by decide +kernel : pm_fe 282 44 = some (.iload_n 1, 1)) rfl).trans ?_
  refine (ry_ic_ge (off := 52) (tgt := 97) h1 h2 (by decide +kernel)).trans ?_
  exact Iff.rfl
theorem r282_48 {d : Nat} {X : Nat × (Nat → Int)} {v : Nat → Int} {M : PH} {K : PV → PS → Prop} {l1 l2 : Int} {l3 : PV} (h1 : 0 ≤ (M 234 13)) (h2 : (M 234 13) < 2) (h3 : inR (M 237 (M 234 13).toNat)) : pm_Run d 282 48 [vA 234, vI l1, vI l2, l3] [] (GF X, M, PTF v) K ↔ if M 237 (M 234 13).toNat ≤ 0 then pm_Run d 282 86 [vA 234, vI l1, vI l2, l3] [] (GF X, M, PTF v) K else pm_Run d 282 60 [vA 234, vI l1, vI l2, l3] [] (GF X, M, PTF v) K := by
  refine (px_go (by decide +kernel : pm_fe 282 48 = some (.aload_n 0, 1)) rfl).trans ?_
  refine (ry_get2 (idx := 57) (ci := 12) (k := 15) (by decide +kernel : 234 < 283 ∧ SHF 234 = (12, 76)) (ptf_l (a := 234) (k := 15) (n := 237) (by decide +kernel)) (by decide +kernel)).trans ?_
  refine (px_go (by decide +kernel : pm_fe 282 52 = some (.aload_n 0, 1)) rfl).trans ?_
  refine (ry_get0 (idx := 51) (ci := 12) (k := 13) (by decide +kernel : 234 < 283 ∧ SHF 234 = (12, 76)) (by decide +kernel)).trans ?_
  refine (ry_iald (by decide +kernel : 237 < 283 ∧ SHF 237 = (100, 2)) h1 h2 (by decide +kernel)).trans ?_
  refine (ry_if_le (off := 29) (tgt := 86) h3 (by decide +kernel)).trans ?_
  exact Iff.rfl
theorem r282_60 {d : Nat} {X : Nat × (Nat → Int)} {v : Nat → Int} {M : PH} {K : PV → PS → Prop} {l1 l2 : Int} {l3 : PV} (h1 : 0 ≤ (M 234 13)) (h2 : (M 234 13) < 2) : pm_Run d 282 60 [vA 234, vI l1, vI l2, l3] [] (GF X, M, PTF v) K ↔ pm_Call d 281 [vA 234, vI (M 237 (M 234 13).toNat)] (GF X, M, PTF v) (fun r9 S1 => pm_Run d 282 73 [vA 234, vI l1, vI l2, l3] (pm_push r9 []) S1 K) := by
  refine (px_go (by decide +kernel : pm_fe 282 60 = some (.aload_n 0, 1)) rfl).trans ?_
  refine (px_go (by decide +kernel : pm_fe 282 61 = some (.aload_n 0, 1)) rfl).trans ?_
  refine (ry_get2 (idx := 57) (ci := 12) (k := 15) (by decide +kernel : 234 < 283 ∧ SHF 234 = (12, 76)) (ptf_l (a := 234) (k := 15) (n := 237) (by decide +kernel)) (by decide +kernel)).trans ?_
  refine (px_go (by decide +kernel : pm_fe 282 65 = some (.aload_n 0, 1)) rfl).trans ?_
  refine (ry_get0 (idx := 51) (ci := 12) (k := 13) (by decide +kernel : 234 < 283 ∧ SHF 234 = (12, 76)) (by decide +kernel)).trans ?_
  refine (ry_iald (by decide +kernel : 237 < 283 ∧ SHF 237 = (100, 2)) h1 h2 (by decide +kernel)).trans ?_
  refine (ry_v1 (idx := 583) (m' := 281) (ci := 12) (by decide +kernel : 234 < 283 ∧ SHF 234 = (12, 76)) (by simp [pm_wl_n, pm_wl_c, pm_w] : pm_wl [] ≤ 8) (by decide +kernel)).trans ?_
  exact Iff.rfl
theorem r282_73 {d : Nat} {X : Nat × (Nat → Int)} {v : Nat → Int} {M : PH} {K : PV → PS → Prop} {l1 l2 s0 : Int} {l3 : PV} : pm_Run d 282 73 [vA 234, vI l1, vI l2, l3] [vI s0] (GF X, M, PTF v) K ↔ pm_Call d 281 [vA 234, vI 10] (GF X, M, PTF v) (fun r9 S1 => pm_Run d 282 85 [vA 234, vI l1, vI l2, vI s0] (pm_push r9 [vI s0, vA 272]) S1 K) := by
  refine (px_go (by decide +kernel : pm_fe 282 73 = some (.istore_n 3, 1)) rfl).trans ?_
  refine (px_go (by decide +kernel : pm_fe 282 74 = some (.aload_n 0, 1)) rfl).trans ?_
  refine (ry_get2 (idx := 183) (ci := 12) (k := 56) (by decide +kernel : 234 < 283 ∧ SHF 234 = (12, 76)) (ptf_l (a := 234) (k := 56) (n := 272) (by decide +kernel)) (by decide +kernel)).trans ?_
  refine (px_go (by decide +kernel : pm_fe 282 78 = some (.iload_n 3, 1)) rfl).trans ?_
  refine (px_go (by decide +kernel : pm_fe 282 79 = some (.aload_n 0, 1)) rfl).trans ?_
  refine (px_go (by decide +kernel : pm_fe 282 80 = some (.bipush 10, 2)) rfl).trans ?_
  refine (ry_v1 (idx := 583) (m' := 281) (ci := 12) (by decide +kernel : 234 < 283 ∧ SHF 234 = (12, 76)) (by simp [pm_wl_n, pm_wl_c, pm_w] : pm_wl [vI s0, vA 272] ≤ 8) (by decide +kernel)).trans ?_
  exact Iff.rfl
theorem r282_85 {d : Nat} {X : Nat × (Nat → Int)} {v : Nat → Int} {M : PH} {K : PV → PS → Prop} {l1 l2 l3 s0 s1 : Int} (h1 : 0 ≤ s1) (h2 : s1 < 66) : pm_Run d 282 85 [vA 234, vI l1, vI l2, vI l3] [vI s0, vI s1, vA 272] (GF X, M, PTF v) K ↔ pm_Run d 282 86 [vA 234, vI l1, vI l2, vI l3] [] (GF X, pm_sa M 272 (pm_up (M 272) s1.toNat s0), PTF v) K := by
  refine (ry_iast (by decide +kernel : 272 < 283 ∧ SHF 272 = (100, 66)) h1 h2 (by decide +kernel)).trans ?_
  exact Iff.rfl
theorem r282_86 {d : Nat} {X : Nat × (Nat → Int)} {v : Nat → Int} {M : PH} {K : PV → PS → Prop} {l1 l2 : Int} {l3 : PV} : pm_Run d 282 86 [vA 234, vI l1, vI l2, l3] [] (GF X, M, PTF v) K ↔ pm_Call d 257 [vA 234, vI 0] (GF X, M, PTF v) (fun r9 S1 => pm_Run d 282 91 [vA 234, vI l1, vI l2, l3] (pm_push r9 []) S1 K) := by
  refine (px_go (by decide +kernel : pm_fe 282 86 = some (.aload_n 0, 1)) rfl).trans ?_
  refine (px_go (by decide +kernel : pm_fe 282 87 = some (.iconst 0, 1)) rfl).trans ?_
  refine (ry_v1 (idx := 530) (m' := 257) (ci := 12) (by decide +kernel : 234 < 283 ∧ SHF 234 = (12, 76)) (by simp [pm_wl_n, pm_wl_c, pm_w] : pm_wl [] ≤ 8) (by decide +kernel)).trans ?_
  exact Iff.rfl
theorem r282_91 {d : Nat} {X : Nat × (Nat → Int)} {v : Nat → Int} {M : PH} {K : PV → PS → Prop} {l1 l2 : Int} {l3 : PV} : pm_Run d 282 91 [vA 234, vI l1, vI l2, l3] [] (GF X, M, PTF v) K ↔ pm_Run d 282 43 [vA 234, vI l1, vI (l2 + 1), l3] [] (GF X, M, PTF v) K := by
  refine (px_go (by decide +kernel : pm_fe 282 91 = some (.iinc 2 1, 3)) rfl).trans ?_
  refine (px_goto (off := (-51)) (tgt := 43) (by decide +kernel)).trans ?_
  exact Iff.rfl
theorem r282_97 {d : Nat} {X : Nat × (Nat → Int)} {v : Nat → Int} {M : PH} {K : PV → PS → Prop} {l1 l2 : Int} {l3 : PV} : pm_Run d 282 97 [vA 234, vI l1, vI l2, l3] [] (GF X, M, PTF v) K ↔ K (vI (M 270 0)) (GF X, M, PTF v) := by
  refine (px_go (by decide +kernel : pm_fe 282 97 = some (.aload_n 0, 1)) rfl).trans ?_
  refine (ry_get2 (idx := 177) (ci := 12) (k := 54) (by decide +kernel : 234 < 283 ∧ SHF 234 = (12, 76)) (ptf_l (a := 234) (k := 54) (n := 270) (by decide +kernel)) (by decide +kernel)).trans ?_
  refine (px_go (by decide +kernel : pm_fe 282 101 = some (.iconst 0, 1)) rfl).trans ?_
  refine (ry_iald (by decide +kernel : 270 < 283 ∧ SHF 270 = (100, 22)) (by decide : (0 : Int) ≤ (0 : Int)) (by decide : (0 : Int) < (22 : Int)) (by decide +kernel)).trans ?_
  refine (px_ri (by decide +kernel)).trans ?_
  exact Iff.rfl
-- X12_seed seed(I)Z
theorem r283_0 {d : Nat} {X : Nat × (Nat → Int)} {v : Nat → Int} {M : PH} {K : PV → PS → Prop} {l1 : Int} (h1 : inR l1) : pm_Run d 283 0 [vA 234, vI l1] [] (GF X, M, PTF v) K ↔ if 0 ≤ l1 then pm_Run d 283 18 [vA 234, vI l1] [] (GF X, M, PTF v) K else pm_Run d 283 4 [vA 234, vI l1] [] (GF X, M, PTF v) K := by
  refine (px_go (by decide +kernel : pm_fe 283 0 = some (.iload_n 1, 1)) rfl).trans ?_
  refine (ry_if_ge (off := 17) (tgt := 18) h1 (by decide +kernel)).trans ?_
  exact Iff.rfl
theorem r283_4 {d : Nat} {X : Nat × (Nat → Int)} {v : Nat → Int} {M : PH} {K : PV → PS → Prop} {l1 : Int} : pm_Run d 283 4 [vA 234, vI l1] [] (GF X, M, PTF v) K ↔ pm_Call d 224 [vA 234, vI 5] (GF X, M, PTF v) (fun r9 S1 => pm_Run d 283 9 [vA 234, vI l1] (pm_push r9 []) S1 K) := by
  refine (px_go (by decide +kernel : pm_fe 283 4 = some (.aload_n 0, 1)) rfl).trans ?_
  refine (px_go (by decide +kernel : pm_fe 283 5 = some (.iconst 5, 1)) rfl).trans ?_
  refine (ry_v1 (idx := 243) (m' := 224) (ci := 12) (by decide +kernel : 234 < 283 ∧ SHF 234 = (12, 76)) (by simp [pm_wl_n, pm_wl_c, pm_w] : pm_wl [] ≤ 8) (by decide +kernel)).trans ?_
  exact Iff.rfl
theorem r283_9 {d : Nat} {X : Nat × (Nat → Int)} {v : Nat → Int} {M : PH} {K : PV → PS → Prop} {l1 s0 : Int} (h1 : inR s0) : pm_Run d 283 9 [vA 234, vI l1] [vI s0] (GF X, M, PTF v) K ↔ if s0 < 0 then pm_Run d 283 16 [vA 234, vI l1] [] (GF X, M, PTF v) K else pm_Run d 283 12 [vA 234, vI l1] [] (GF X, M, PTF v) K := by
  refine (ry_if_lt (off := 7) (tgt := 16) h1 (by decide +kernel)).trans ?_
  exact Iff.rfl
theorem r283_12 {d : Nat} {X : Nat × (Nat → Int)} {v : Nat → Int} {M : PH} {K : PV → PS → Prop} {l1 : Int} : pm_Run d 283 12 [vA 234, vI l1] [] (GF X, M, PTF v) K ↔ pm_Run d 283 17 [vA 234, vI l1] [vI 1] (GF X, M, PTF v) K := by
  refine (px_go (by decide +kernel : pm_fe 283 12 = some (.iconst 1, 1)) rfl).trans ?_
  refine (px_goto (off := 4) (tgt := 17) (by decide +kernel)).trans ?_
  exact Iff.rfl
theorem r283_16 {d : Nat} {X : Nat × (Nat → Int)} {v : Nat → Int} {M : PH} {K : PV → PS → Prop} {l1 : Int} : pm_Run d 283 16 [vA 234, vI l1] [] (GF X, M, PTF v) K ↔ pm_Run d 283 17 [vA 234, vI l1] [vI 0] (GF X, M, PTF v) K := by
  refine (px_go (by decide +kernel : pm_fe 283 16 = some (.iconst 0, 1)) rfl).trans ?_
  exact Iff.rfl
theorem r283_17 {d : Nat} {X : Nat × (Nat → Int)} {v : Nat → Int} {M : PH} {K : PV → PS → Prop} {l1 s0 : Int} (h1 : s0 = 0 ∨ s0 = 1) : pm_Run d 283 17 [vA 234, vI l1] [vI s0] (GF X, M, PTF v) K ↔ K (vI s0) (GF X, M, PTF v) := by
  refine (px_rz (by decide +kernel)).trans ((and_iff_right h1).trans ?_)
  exact Iff.rfl
theorem r283_18 {d : Nat} {X : Nat × (Nat → Int)} {v : Nat → Int} {M : PH} {K : PV → PS → Prop} {l1 : Int} (h1 : inR l1) : pm_Run d 283 18 [vA 234, vI l1] [] (GF X, M, PTF v) K ↔ pm_Run d 283 24 [vA 234, vI l1] [] (GF X, pm_sa M 234 (pm_up (M 234) 62 l1), PTF v) K := by
  refine (px_go (by decide +kernel : pm_fe 283 18 = some (.aload_n 0, 1)) rfl).trans ?_
  refine (px_go (by decide +kernel : pm_fe 283 19 = some (.iload_n 1, 1)) rfl).trans ?_
  refine (ry_i2l h1 (by decide +kernel)).trans ?_
  refine (ry_put1 (idx := 201) (ci := 12) (k := 62) (by decide +kernel : 234 < 283 ∧ SHF 234 = (12, 76)) (by decide +kernel)).trans ?_
  exact Iff.rfl
theorem r283_24 {d : Nat} {X : Nat × (Nat → Int)} {v : Nat → Int} {M : PH} {K : PV → PS → Prop} {l1 : Int} : pm_Run d 283 24 [vA 234, vI l1] [] (GF X, M, PTF v) K ↔ K (vI 1) (GF X, M, PTF v) := by
  refine (px_go (by decide +kernel : pm_fe 283 24 = some (.iconst 1, 1)) rfl).trans ?_
  refine (px_rz (by decide +kernel)).trans ((and_iff_right (by decide : (1 : Int) = (0 : Int) ∨ (1 : Int) = (1 : Int))).trans ?_)
  exact Iff.rfl
-- X12_setsBids setsBids(IIII)I
theorem r284_0 {d : Nat} {X : Nat × (Nat → Int)} {v : Nat → Int} {M : PH} {K : PV → PS → Prop} {l1 l2 l3 l4 : Int} (h1 : 0 ≤ (M 234 13)) (h2 : (M 234 13) < 2) : pm_Run d 284 0 [vA 234, vI l1, vI l2, vI l3, vI l4, PU, PU, PU] [] (GF X, M, PTF v) K ↔ pm_Run d 284 19 [vA 234, vI l1, vI l2, vI l3, vI l4, vI l3, vI 0, vI ((M 237 (M 234 13).toNat) - 1)] [] (GF X, M, PTF v) K := by
  refine (px_go (by decide +kernel : pm_fe 284 0 = some (.iload_n 3, 1)) rfl).trans ?_
  refine (px_go (by decide +kernel : pm_fe 284 1 = some (.istore 5, 2)) rfl).trans ?_
  refine (px_go (by decide +kernel : pm_fe 284 3 = some (.iconst 0, 1)) rfl).trans ?_
  refine (px_go (by decide +kernel : pm_fe 284 4 = some (.istore 6, 2)) rfl).trans ?_
  refine (px_go (by decide +kernel : pm_fe 284 6 = some (.aload_n 0, 1)) rfl).trans ?_
  refine (ry_get2 (idx := 57) (ci := 12) (k := 15) (by decide +kernel : 234 < 283 ∧ SHF 234 = (12, 76)) (ptf_l (a := 234) (k := 15) (n := 237) (by decide +kernel)) (by decide +kernel)).trans ?_
  refine (px_go (by decide +kernel : pm_fe 284 10 = some (.aload_n 0, 1)) rfl).trans ?_
  refine (ry_get0 (idx := 51) (ci := 12) (k := 13) (by decide +kernel : 234 < 283 ∧ SHF 234 = (12, 76)) (by decide +kernel)).trans ?_
  refine (ry_iald (by decide +kernel : 237 < 283 ∧ SHF 237 = (100, 2)) h1 h2 (by decide +kernel)).trans ?_
  refine (px_go (by decide +kernel : pm_fe 284 15 = some (.iconst 1, 1)) rfl).trans ?_
  refine (px_go (by decide +kernel : pm_fe 284 16 = some (.isub, 1)) rfl).trans ?_
  refine (px_go (by decide +kernel : pm_fe 284 17 = some (.istore 7, 2)) rfl).trans ?_
  exact Iff.rfl
theorem r284_19 {d : Nat} {X : Nat × (Nat → Int)} {v : Nat → Int} {M : PH} {K : PV → PS → Prop} {l1 l2 l3 l4 l5 l6 l7 : Int} (h1 : inR l7) : pm_Run d 284 19 [vA 234, vI l1, vI l2, vI l3, vI l4, vI l5, vI l6, vI l7] [] (GF X, M, PTF v) K ↔ if l7 < 0 then pm_Run d 284 68 [vA 234, vI l1, vI l2, vI l3, vI l4, vI l5, vI l6, vI l7] [] (GF X, M, PTF v) K else pm_Run d 284 24 [vA 234, vI l1, vI l2, vI l3, vI l4, vI l5, vI l6, vI l7] [] (GF X, M, PTF v) K := by
  refine (px_go (by decide +kernel : pm_fe 284 19 = some (.iload 7, 2)) rfl).trans ?_
  refine (ry_if_lt (off := 47) (tgt := 68) h1 (by decide +kernel)).trans ?_
  exact Iff.rfl
theorem r284_24 {d : Nat} {X : Nat × (Nat → Int)} {v : Nat → Int} {M : PH} {K : PV → PS → Prop} {l1 l2 l3 l4 l5 l6 l7 : Int} (h1 : inR l5) (h2 : inR l4) (h3 : l4 ≠ 0) (h4 : 0 ≤ (((24 * l1) + (3 * l2)) + l7)) (h5 : (((24 * l1) + (3 * l2)) + l7) < 528) : pm_Run d 284 24 [vA 234, vI l1, vI l2, vI l3, vI l4, vI l5, vI l6, vI l7] [] (GF X, M, PTF v) K ↔ pm_Run d 284 45 [vA 234, vI l1, vI l2, vI l3, vI l4, vI l5, vI l6, vI l7] [] (GF X, pm_sa M 274 (pm_up (M 274) (((24 * l1) + (3 * l2)) + l7).toNat (l5.tmod l4)), PTF v) K := by
  refine (px_go (by decide +kernel : pm_fe 284 24 = some (.aload_n 0, 1)) rfl).trans ?_
  refine (ry_get2 (idx := 189) (ci := 12) (k := 58) (by decide +kernel : 234 < 283 ∧ SHF 234 = (12, 76)) (ptf_l (a := 234) (k := 58) (n := 274) (by decide +kernel)) (by decide +kernel)).trans ?_
  refine (px_go (by decide +kernel : pm_fe 284 28 = some (.bipush 24, 2)) rfl).trans ?_
  refine (px_go (by decide +kernel : pm_fe 284 30 = some (.iload_n 1, 1)) rfl).trans ?_
  refine (px_go (by decide +kernel : pm_fe 284 31 = some (.imul, 1)) rfl).trans ?_
  refine (px_go (by decide +kernel : pm_fe 284 32 = some (.iconst 3, 1)) rfl).trans ?_
  refine (px_go (by decide +kernel : pm_fe 284 33 = some (.iload_n 2, 1)) rfl).trans ?_
  refine (px_go (by decide +kernel : pm_fe 284 34 = some (.imul, 1)) rfl).trans ?_
  refine (px_go (by decide +kernel : pm_fe 284 35 = some (.iadd, 1)) rfl).trans ?_
  refine (px_go (by decide +kernel : pm_fe 284 36 = some (.iload 7, 2)) rfl).trans ?_
  refine (px_go (by decide +kernel : pm_fe 284 38 = some (.iadd, 1)) rfl).trans ?_
  refine (px_go (by decide +kernel : pm_fe 284 39 = some (.iload 5, 2)) rfl).trans ?_
  refine (px_go (by decide +kernel : pm_fe 284 41 = some (.iload 4, 2)) rfl).trans ?_
  refine (ry_irem h1 h2 h3 (by decide +kernel)).trans ?_
  refine (ry_iast (by decide +kernel : 274 < 283 ∧ SHF 274 = (100, 528)) h4 h5 (by decide +kernel)).trans ?_
  exact Iff.rfl
theorem r284_45 {d : Nat} {X : Nat × (Nat → Int)} {v : Nat → Int} {M : PH} {K : PV → PS → Prop} {l1 l2 l3 l4 l5 l6 l7 : Int} (h1 : inR l5) (h2 : inR l4) (h3 : l4 ≠ 0) : pm_Run d 284 45 [vA 234, vI l1, vI l2, vI l3, vI l4, vI l5, vI l6, vI l7] [] (GF X, M, PTF v) K ↔ pm_Run d 284 19 [vA 234, vI l1, vI l2, vI l3, vI l4, vI (l5.tdiv l4), vI (l6 + (l5.tmod l4)), vI (l7 + (-1))] [] (GF X, M, PTF v) K := by
  refine (px_go (by decide +kernel : pm_fe 284 45 = some (.iload 6, 2)) rfl).trans ?_
  refine (px_go (by decide +kernel : pm_fe 284 47 = some (.iload 5, 2)) rfl).trans ?_
  refine (px_go (by decide +kernel : pm_fe 284 49 = some (.iload 4, 2)) rfl).trans ?_
  refine (ry_irem h1 h2 h3 (by decide +kernel)).trans ?_
  refine (px_go (by decide +kernel : pm_fe 284 52 = some (.iadd, 1)) rfl).trans ?_
  refine (px_go (by decide +kernel : pm_fe 284 53 = some (.istore 6, 2)) rfl).trans ?_
  refine (px_go (by decide +kernel : pm_fe 284 55 = some (.iload 5, 2)) rfl).trans ?_
  refine (px_go (by decide +kernel : pm_fe 284 57 = some (.iload 4, 2)) rfl).trans ?_
  refine (ry_idiv h1 h2 h3 (by decide +kernel)).trans ?_
  refine (px_go (by decide +kernel : pm_fe 284 60 = some (.istore 5, 2)) rfl).trans ?_
  refine (px_go (by decide +kernel : pm_fe 284 62 = some (.iinc 7 (-1), 3)) rfl).trans ?_
  refine (px_goto (off := (-46)) (tgt := 19) (by decide +kernel)).trans ?_
  exact Iff.rfl
theorem r284_68 {d : Nat} {X : Nat × (Nat → Int)} {v : Nat → Int} {M : PH} {K : PV → PS → Prop} {l1 l2 l3 l4 l5 l6 l7 : Int} : pm_Run d 284 68 [vA 234, vI l1, vI l2, vI l3, vI l4, vI l5, vI l6, vI l7] [] (GF X, M, PTF v) K ↔ K (vI l6) (GF X, M, PTF v) := by
  refine (px_go (by decide +kernel : pm_fe 284 68 = some (.iload 6, 2)) rfl).trans ?_
  refine (px_ri (by decide +kernel)).trans ?_
  exact Iff.rfl
-- X12_rowsOf rowsOf(I)I
theorem r285_0 {d : Nat} {X : Nat × (Nat → Int)} {v : Nat → Int} {M : PH} {K : PV → PS → Prop} {l1 : Int} : pm_Run d 285 0 [vA 234, vI l1, PU, PU] [] (GF X, M, PTF v) K ↔ pm_Run d 285 4 [vA 234, vI l1, vI 1, vI 0] [] (GF X, M, PTF v) K := by
  refine (px_go (by decide +kernel : pm_fe 285 0 = some (.iconst 1, 1)) rfl).trans ?_
  refine (px_go (by decide +kernel : pm_fe 285 1 = some (.istore_n 2, 1)) rfl).trans ?_
  refine (px_go (by decide +kernel : pm_fe 285 2 = some (.iconst 0, 1)) rfl).trans ?_
  refine (px_go (by decide +kernel : pm_fe 285 3 = some (.istore_n 3, 1)) rfl).trans ?_
  exact Iff.rfl
theorem r285_4 {d : Nat} {X : Nat × (Nat → Int)} {v : Nat → Int} {M : PH} {K : PV → PS → Prop} {l1 l2 l3 : Int} (h1 : 0 ≤ (M 234 13)) (h2 : (M 234 13) < 2) (h3 : inR l3) (h4 : inR (M 237 (M 234 13).toNat)) : pm_Run d 285 4 [vA 234, vI l1, vI l2, vI l3] [] (GF X, M, PTF v) K ↔ if M 237 (M 234 13).toNat ≤ l3 then pm_Run d 285 27 [vA 234, vI l1, vI l2, vI l3] [] (GF X, M, PTF v) K else pm_Run d 285 17 [vA 234, vI l1, vI l2, vI l3] [] (GF X, M, PTF v) K := by
  refine (px_go (by decide +kernel : pm_fe 285 4 = some (.iload_n 3, 1)) rfl).trans ?_
  refine (px_go (by decide +kernel : pm_fe 285 5 = some (.aload_n 0, 1)) rfl).trans ?_
  refine (ry_get2 (idx := 57) (ci := 12) (k := 15) (by decide +kernel : 234 < 283 ∧ SHF 234 = (12, 76)) (ptf_l (a := 234) (k := 15) (n := 237) (by decide +kernel)) (by decide +kernel)).trans ?_
  refine (px_go (by decide +kernel : pm_fe 285 9 = some (.aload_n 0, 1)) rfl).trans ?_
  refine (ry_get0 (idx := 51) (ci := 12) (k := 13) (by decide +kernel : 234 < 283 ∧ SHF 234 = (12, 76)) (by decide +kernel)).trans ?_
  refine (ry_iald (by decide +kernel : 237 < 283 ∧ SHF 237 = (100, 2)) h1 h2 (by decide +kernel)).trans ?_
  refine (ry_ic_ge (off := 13) (tgt := 27) h3 h4 (by decide +kernel)).trans ?_
  exact Iff.rfl
theorem r285_17 {d : Nat} {X : Nat × (Nat → Int)} {v : Nat → Int} {M : PH} {K : PV → PS → Prop} {l1 l2 l3 : Int} : pm_Run d 285 17 [vA 234, vI l1, vI l2, vI l3] [] (GF X, M, PTF v) K ↔ pm_Run d 285 4 [vA 234, vI l1, vI (l2 * l1), vI (l3 + 1)] [] (GF X, M, PTF v) K := by
  refine (px_go (by decide +kernel : pm_fe 285 17 = some (.iload_n 2, 1)) rfl).trans ?_
  refine (px_go (by decide +kernel : pm_fe 285 18 = some (.iload_n 1, 1)) rfl).trans ?_
  refine (px_go (by decide +kernel : pm_fe 285 19 = some (.imul, 1)) rfl).trans ?_
  refine (px_go (by decide +kernel : pm_fe 285 20 = some (.istore_n 2, 1)) rfl).trans ?_
  refine (px_go (by decide +kernel : pm_fe 285 21 = some (.iinc 3 1, 3)) rfl).trans ?_
  refine (px_goto (off := (-20)) (tgt := 4) (by decide +kernel)).trans ?_
  exact Iff.rfl
theorem r285_27 {d : Nat} {X : Nat × (Nat → Int)} {v : Nat → Int} {M : PH} {K : PV → PS → Prop} {l1 l2 l3 : Int} : pm_Run d 285 27 [vA 234, vI l1, vI l2, vI l3] [] (GF X, M, PTF v) K ↔ K (vI l2) (GF X, M, PTF v) := by
  refine (px_go (by decide +kernel : pm_fe 285 27 = some (.iload_n 2, 1)) rfl).trans ?_
  refine (px_ri (by decide +kernel)).trans ?_
  exact Iff.rfl
-- X12_keepsBids keepsBids(II)V
theorem r286_0 {d : Nat} {X : Nat × (Nat → Int)} {v : Nat → Int} {M : PH} {K : PV → PS → Prop} {l1 l2 : Int} : pm_Run d 286 0 [vA 234, vI l1, vI l2, PU] [] (GF X, M, PTF v) K ↔ pm_Run d 286 2 [vA 234, vI l1, vI l2, vI 0] [] (GF X, M, PTF v) K := by
  refine (px_go (by decide +kernel : pm_fe 286 0 = some (.iconst 0, 1)) rfl).trans ?_
  refine (px_go (by decide +kernel : pm_fe 286 1 = some (.istore_n 3, 1)) rfl).trans ?_
  exact Iff.rfl
theorem r286_2 {d : Nat} {X : Nat × (Nat → Int)} {v : Nat → Int} {M : PH} {K : PV → PS → Prop} {l1 l2 l3 : Int} (h1 : 0 ≤ (M 234 13)) (h2 : (M 234 13) < 2) (h3 : inR l3) (h4 : inR (M 237 (M 234 13).toNat)) : pm_Run d 286 2 [vA 234, vI l1, vI l2, vI l3] [] (GF X, M, PTF v) K ↔ if M 237 (M 234 13).toNat ≤ l3 then pm_Run d 286 42 [vA 234, vI l1, vI l2, vI l3] [] (GF X, M, PTF v) K else pm_Run d 286 15 [vA 234, vI l1, vI l2, vI l3] [] (GF X, M, PTF v) K := by
  refine (px_go (by decide +kernel : pm_fe 286 2 = some (.iload_n 3, 1)) rfl).trans ?_
  refine (px_go (by decide +kernel : pm_fe 286 3 = some (.aload_n 0, 1)) rfl).trans ?_
  refine (ry_get2 (idx := 57) (ci := 12) (k := 15) (by decide +kernel : 234 < 283 ∧ SHF 234 = (12, 76)) (ptf_l (a := 234) (k := 15) (n := 237) (by decide +kernel)) (by decide +kernel)).trans ?_
  refine (px_go (by decide +kernel : pm_fe 286 7 = some (.aload_n 0, 1)) rfl).trans ?_
  refine (ry_get0 (idx := 51) (ci := 12) (k := 13) (by decide +kernel : 234 < 283 ∧ SHF 234 = (12, 76)) (by decide +kernel)).trans ?_
  refine (ry_iald (by decide +kernel : 237 < 283 ∧ SHF 237 = (100, 2)) h1 h2 (by decide +kernel)).trans ?_
  refine (ry_ic_ge (off := 30) (tgt := 42) h3 h4 (by decide +kernel)).trans ?_
  exact Iff.rfl
theorem r286_15 {d : Nat} {X : Nat × (Nat → Int)} {v : Nat → Int} {M : PH} {K : PV → PS → Prop} {l1 l2 l3 : Int} (h1 : 0 ≤ (((24 * l1) + (3 * l2)) + l3)) (h2 : (((24 * l1) + (3 * l2)) + l3) < 528) (h3 : 0 ≤ l3) (h4 : l3 < 3) : pm_Run d 286 15 [vA 234, vI l1, vI l2, vI l3] [] (GF X, M, PTF v) K ↔ pm_Run d 286 36 [vA 234, vI l1, vI l2, vI l3] [] (GF X, pm_sa M 278 (pm_up (M 278) l3.toNat (M 274 (((24 * l1) + (3 * l2)) + l3).toNat)), PTF v) K := by
  refine (px_go (by decide +kernel : pm_fe 286 15 = some (.aload_n 0, 1)) rfl).trans ?_
  refine (ry_get2 (idx := 222) (ci := 12) (k := 69) (by decide +kernel : 234 < 283 ∧ SHF 234 = (12, 76)) (ptf_l (a := 234) (k := 69) (n := 278) (by decide +kernel)) (by decide +kernel)).trans ?_
  refine (px_go (by decide +kernel : pm_fe 286 19 = some (.iload_n 3, 1)) rfl).trans ?_
  refine (px_go (by decide +kernel : pm_fe 286 20 = some (.aload_n 0, 1)) rfl).trans ?_
  refine (ry_get2 (idx := 189) (ci := 12) (k := 58) (by decide +kernel : 234 < 283 ∧ SHF 234 = (12, 76)) (ptf_l (a := 234) (k := 58) (n := 274) (by decide +kernel)) (by decide +kernel)).trans ?_
  refine (px_go (by decide +kernel : pm_fe 286 24 = some (.bipush 24, 2)) rfl).trans ?_
  refine (px_go (by decide +kernel : pm_fe 286 26 = some (.iload_n 1, 1)) rfl).trans ?_
  refine (px_go (by decide +kernel : pm_fe 286 27 = some (.imul, 1)) rfl).trans ?_
  refine (px_go (by decide +kernel : pm_fe 286 28 = some (.iconst 3, 1)) rfl).trans ?_
  refine (px_go (by decide +kernel : pm_fe 286 29 = some (.iload_n 2, 1)) rfl).trans ?_
  refine (px_go (by decide +kernel : pm_fe 286 30 = some (.imul, 1)) rfl).trans ?_
  refine (px_go (by decide +kernel : pm_fe 286 31 = some (.iadd, 1)) rfl).trans ?_
  refine (px_go (by decide +kernel : pm_fe 286 32 = some (.iload_n 3, 1)) rfl).trans ?_
  refine (px_go (by decide +kernel : pm_fe 286 33 = some (.iadd, 1)) rfl).trans ?_
  refine (ry_iald (by decide +kernel : 274 < 283 ∧ SHF 274 = (100, 528)) h1 h2 (by decide +kernel)).trans ?_
  refine (ry_iast (by decide +kernel : 278 < 283 ∧ SHF 278 = (100, 3)) h3 h4 (by decide +kernel)).trans ?_
  exact Iff.rfl
theorem r286_36 {d : Nat} {X : Nat × (Nat → Int)} {v : Nat → Int} {M : PH} {K : PV → PS → Prop} {l1 l2 l3 : Int} : pm_Run d 286 36 [vA 234, vI l1, vI l2, vI l3] [] (GF X, M, PTF v) K ↔ pm_Run d 286 2 [vA 234, vI l1, vI l2, vI (l3 + 1)] [] (GF X, M, PTF v) K := by
  refine (px_go (by decide +kernel : pm_fe 286 36 = some (.iinc 3 1, 3)) rfl).trans ?_
  refine (px_goto (off := (-37)) (tgt := 2) (by decide +kernel)).trans ?_
  exact Iff.rfl
theorem r286_42 {d : Nat} {X : Nat × (Nat → Int)} {v : Nat → Int} {M : PH} {K : PV → PS → Prop} {l1 l2 l3 : Int} : pm_Run d 286 42 [vA 234, vI l1, vI l2, vI l3] [] (GF X, M, PTF v) K ↔ K PU (GF X, M, PTF v) := by
  refine (px_rv (by decide +kernel)).trans ?_
  exact Iff.rfl
-- X12_wished wished(III)I
theorem r287_0 {d : Nat} {X : Nat × (Nat → Int)} {v : Nat → Int} {M : PH} {K : PV → PS → Prop} {l1 l2 l3 : Int} : pm_Run d 287 0 [vA 234, vI l1, vI l2, vI l3, PU, PU, PU] [] (GF X, M, PTF v) K ↔ pm_Call d 229 [vA 234, vI l1] (GF X, M, PTF v) (fun r9 S1 => pm_Run d 287 5 [vA 234, vI l1, vI l2, vI l3, PU, PU, PU] (pm_push r9 []) S1 K) := by
  refine (px_go (by decide +kernel : pm_fe 287 0 = some (.aload_n 0, 1)) rfl).trans ?_
  refine (px_go (by decide +kernel : pm_fe 287 1 = some (.iload_n 1, 1)) rfl).trans ?_
  refine (ry_v1 (idx := 544) (m' := 229) (ci := 12) (by decide +kernel : 234 < 283 ∧ SHF 234 = (12, 76)) (by simp [pm_wl_n, pm_wl_c, pm_w] : pm_wl [] ≤ 8) (by decide +kernel)).trans ?_
  exact Iff.rfl
theorem r287_5 {d : Nat} {X : Nat × (Nat → Int)} {v : Nat → Int} {M : PH} {K : PV → PS → Prop} {l1 l2 l3 s0 : Int} (h1 : inR s0) : pm_Run d 287 5 [vA 234, vI l1, vI l2, vI l3, PU, PU, PU] [vI s0] (GF X, M, PTF v) K ↔ if s0 = 0 then pm_Run d 287 34 [vA 234, vI l1, vI l2, vI l3, PU, PU, PU] [] (GF X, M, PTF v) K else pm_Run d 287 8 [vA 234, vI l1, vI l2, vI l3, PU, PU, PU] [] (GF X, M, PTF v) K := by
  refine (ry_if_eq (off := 29) (tgt := 34) h1 (by decide +kernel)).trans ?_
  exact Iff.rfl
theorem r287_8 {d : Nat} {X : Nat × (Nat → Int)} {v : Nat → Int} {M : PH} {K : PV → PS → Prop} {l1 l2 l3 : Int} : pm_Run d 287 8 [vA 234, vI l1, vI l2, vI l3, PU, PU, PU] [] (GF X, M, PTF v) K ↔ pm_Call d 179 [vI l2, vI (-999), vI 999] (GF X, M, PTF v) (fun r9 S1 => pm_Run d 287 18 [vA 234, vI l1, vI l2, vI l3, PU, PU, PU] (pm_push r9 []) S1 K) := by
  refine (px_go (by decide +kernel : pm_fe 287 8 = some (.iload_n 2, 1)) rfl).trans ?_
  refine (px_go (by decide +kernel : pm_fe 287 9 = some (.sipush (-999), 3)) rfl).trans ?_
  refine (px_go (by decide +kernel : pm_fe 287 12 = some (.sipush 999, 3)) rfl).trans ?_
  refine (px_s3 (idx := 337) (m' := 179) (nest := 0) (by decide +kernel)).trans ((and_iff_right (by simp [pm_wl_n, pm_wl_c, pm_w] : pm_wl [] ≤ 8)).trans ?_)
  exact Iff.rfl
theorem r287_18 {d : Nat} {X : Nat × (Nat → Int)} {v : Nat → Int} {M : PH} {K : PV → PS → Prop} {l1 l2 l3 s0 : Int} (h1 : inR s0) : pm_Run d 287 18 [vA 234, vI l1, vI l2, vI l3, PU, PU, PU] [vI s0] (GF X, M, PTF v) K ↔ if s0 = 0 then pm_Run d 287 34 [vA 234, vI l1, vI l2, vI l3, PU, PU, PU] [] (GF X, M, PTF v) K else pm_Run d 287 21 [vA 234, vI l1, vI l2, vI l3, PU, PU, PU] [] (GF X, M, PTF v) K := by
  refine (ry_if_eq (off := 16) (tgt := 34) h1 (by decide +kernel)).trans ?_
  exact Iff.rfl
theorem r287_21 {d : Nat} {X : Nat × (Nat → Int)} {v : Nat → Int} {M : PH} {K : PV → PS → Prop} {l1 l2 l3 : Int} (h1 : inR l3) : pm_Run d 287 21 [vA 234, vI l1, vI l2, vI l3, PU, PU, PU] [] (GF X, M, PTF v) K ↔ if l3 = (-1) then pm_Run d 287 36 [vA 234, vI l1, vI l2, vI l3, PU, PU, PU] [] (GF X, M, PTF v) K else pm_Run d 287 26 [vA 234, vI l1, vI l2, vI l3, PU, PU, PU] [] (GF X, M, PTF v) K := by
  refine (px_go (by decide +kernel : pm_fe 287 21 = some (.iload_n 3, 1)) rfl).trans ?_
  refine (px_go (by decide +kernel : pm_fe 287 22 = some (.iconst (-1), 1)) rfl).trans ?_
  refine (ry_ic_eq (off := 13) (tgt := 36) h1 (by decide : (-2147483648 ≤ ((-1) : Int) ∧ ((-1) : Int) < 2147483648)) (by decide +kernel)).trans ?_
  exact Iff.rfl
theorem r287_26 {d : Nat} {X : Nat × (Nat → Int)} {v : Nat → Int} {M : PH} {K : PV → PS → Prop} {l1 l2 l3 : Int} : pm_Run d 287 26 [vA 234, vI l1, vI l2, vI l3, PU, PU, PU] [] (GF X, M, PTF v) K ↔ pm_Call d 228 [vA 234, vI l3] (GF X, M, PTF v) (fun r9 S1 => pm_Run d 287 31 [vA 234, vI l1, vI l2, vI l3, PU, PU, PU] (pm_push r9 []) S1 K) := by
  refine (px_go (by decide +kernel : pm_fe 287 26 = some (.aload_n 0, 1)) rfl).trans ?_
  refine (px_go (by decide +kernel : pm_fe 287 27 = some (.iload_n 3, 1)) rfl).trans ?_
  refine (ry_v1 (idx := 535) (m' := 228) (ci := 12) (by decide +kernel : 234 < 283 ∧ SHF 234 = (12, 76)) (by simp [pm_wl_n, pm_wl_c, pm_w] : pm_wl [] ≤ 8) (by decide +kernel)).trans ?_
  exact Iff.rfl
theorem r287_31 {d : Nat} {X : Nat × (Nat → Int)} {v : Nat → Int} {M : PH} {K : PV → PS → Prop} {l1 l2 l3 s0 : Int} (h1 : inR s0) : pm_Run d 287 31 [vA 234, vI l1, vI l2, vI l3, PU, PU, PU] [vI s0] (GF X, M, PTF v) K ↔ if s0 ≠ 0 then pm_Run d 287 36 [vA 234, vI l1, vI l2, vI l3, PU, PU, PU] [] (GF X, M, PTF v) K else pm_Run d 287 34 [vA 234, vI l1, vI l2, vI l3, PU, PU, PU] [] (GF X, M, PTF v) K := by
  refine (ry_if_ne (off := 5) (tgt := 36) h1 (by decide +kernel)).trans ?_
  exact Iff.rfl
theorem r287_34 {d : Nat} {X : Nat × (Nat → Int)} {v : Nat → Int} {M : PH} {K : PV → PS → Prop} {l1 l2 l3 : Int} : pm_Run d 287 34 [vA 234, vI l1, vI l2, vI l3, PU, PU, PU] [] (GF X, M, PTF v) K ↔ K (vI (-1)) (GF X, M, PTF v) := by
  refine (px_go (by decide +kernel : pm_fe 287 34 = some (.iconst (-1), 1)) rfl).trans ?_
  refine (px_ri (by decide +kernel)).trans ?_
  exact Iff.rfl
theorem r287_36 {d : Nat} {X : Nat × (Nat → Int)} {v : Nat → Int} {M : PH} {K : PV → PS → Prop} {l1 l2 l3 : Int} : pm_Run d 287 36 [vA 234, vI l1, vI l2, vI l3, PU, PU, PU] [] (GF X, M, PTF v) K ↔ pm_Call d 232 [vA 234, vI 1, vI 0] (GF X, M, PTF v) (fun r9 S1 => pm_Run d 287 42 [vA 234, vI l1, vI l2, vI l3, PU, PU, PU] (pm_push r9 []) S1 K) := by
  refine (px_go (by decide +kernel : pm_fe 287 36 = some (.aload_n 0, 1)) rfl).trans ?_
  refine (px_go (by decide +kernel : pm_fe 287 37 = some (.iconst 1, 1)) rfl).trans ?_
  refine (px_go (by decide +kernel : pm_fe 287 38 = some (.iconst 0, 1)) rfl).trans ?_
  refine (ry_v2 (idx := 445) (m' := 232) (ci := 12) (by decide +kernel : 234 < 283 ∧ SHF 234 = (12, 76)) (by simp [pm_wl_n, pm_wl_c, pm_w] : pm_wl [] ≤ 8) (by decide +kernel)).trans ?_
  exact Iff.rfl
theorem r287_42 {d : Nat} {X : Nat × (Nat → Int)} {v : Nat → Int} {M : PH} {K : PV → PS → Prop} {l1 l2 l3 : Int} : pm_Run d 287 42 [vA 234, vI l1, vI l2, vI l3, PU, PU, PU] [] (GF X, M, PTF v) K ↔ pm_Run d 287 48 [vA 234, vI l1, vI l2, vI l3, vI (-1), vI 0, PU] [] (GF X, M, PTF v) K := by
  refine (px_go (by decide +kernel : pm_fe 287 42 = some (.iconst (-1), 1)) rfl).trans ?_
  refine (px_go (by decide +kernel : pm_fe 287 43 = some (.istore 4, 2)) rfl).trans ?_
  refine (px_go (by decide +kernel : pm_fe 287 45 = some (.iconst 0, 1)) rfl).trans ?_
  refine (px_go (by decide +kernel : pm_fe 287 46 = some (.istore 5, 2)) rfl).trans ?_
  exact Iff.rfl
theorem r287_48 {d : Nat} {X : Nat × (Nat → Int)} {v : Nat → Int} {M : PH} {K : PV → PS → Prop} {l1 l2 l3 l4 l5 : Int} {l6 : PV} : pm_Run d 287 48 [vA 234, vI l1, vI l2, vI l3, vI l4, vI l5, l6] [] (GF X, M, PTF v) K ↔ pm_Call d 285 [vA 234, vI 11] (GF X, M, PTF v) (fun r9 S1 => pm_Run d 287 56 [vA 234, vI l1, vI l2, vI l3, vI l4, vI l5, l6] (pm_push r9 [vI l5]) S1 K) := by
  refine (px_go (by decide +kernel : pm_fe 287 48 = some (.iload 5, 2)) rfl).trans ?_
  refine (px_go (by decide +kernel : pm_fe 287 50 = some (.aload_n 0, 1)) rfl).trans ?_
  refine (px_go (by decide +kernel : pm_fe 287 51 = some (.bipush 11, 2)) rfl).trans ?_
  refine (ry_v1 (idx := 586) (m' := 285) (ci := 12) (by decide +kernel : 234 < 283 ∧ SHF 234 = (12, 76)) (by simp [pm_wl_n, pm_wl_c, pm_w] : pm_wl [vI l5] ≤ 8) (by decide +kernel)).trans ?_
  exact Iff.rfl
theorem r287_56 {d : Nat} {X : Nat × (Nat → Int)} {v : Nat → Int} {M : PH} {K : PV → PS → Prop} {l1 l2 l3 l4 l5 s0 s1 : Int} {l6 : PV} (h1 : inR s1) (h2 : inR s0) : pm_Run d 287 56 [vA 234, vI l1, vI l2, vI l3, vI l4, vI l5, l6] [vI s0, vI s1] (GF X, M, PTF v) K ↔ if s0 ≤ s1 then pm_Run d 287 125 [vA 234, vI l1, vI l2, vI l3, vI l4, vI l5, l6] [] (GF X, M, PTF v) K else pm_Run d 287 59 [vA 234, vI l1, vI l2, vI l3, vI l4, vI l5, l6] [] (GF X, M, PTF v) K := by
  refine (ry_ic_ge (off := 69) (tgt := 125) h1 h2 (by decide +kernel)).trans ?_
  exact Iff.rfl
theorem r287_59 {d : Nat} {X : Nat × (Nat → Int)} {v : Nat → Int} {M : PH} {K : PV → PS → Prop} {l1 l2 l3 l4 l5 : Int} {l6 : PV} : pm_Run d 287 59 [vA 234, vI l1, vI l2, vI l3, vI l4, vI l5, l6] [] (GF X, M, PTF v) K ↔ pm_Call d 284 [vA 234, vI 1, vI l1, vI l5, vI 11] (GF X, M, PTF v) (fun r9 S1 => pm_Run d 287 69 [vA 234, vI l1, vI l2, vI l3, vI l4, vI l5, l6] (pm_push r9 []) S1 K) := by
  refine (px_go (by decide +kernel : pm_fe 287 59 = some (.aload_n 0, 1)) rfl).trans ?_
  refine (px_go (by decide +kernel : pm_fe 287 60 = some (.iconst 1, 1)) rfl).trans ?_
  refine (px_go (by decide +kernel : pm_fe 287 61 = some (.iload_n 1, 1)) rfl).trans ?_
  refine (px_go (by decide +kernel : pm_fe 287 62 = some (.iload 5, 2)) rfl).trans ?_
  refine (px_go (by decide +kernel : pm_fe 287 64 = some (.bipush 11, 2)) rfl).trans ?_
  refine (ry_v4 (idx := 589) (m' := 284) (ci := 12) (by decide +kernel : 234 < 283 ∧ SHF 234 = (12, 76)) (by simp [pm_wl_n, pm_wl_c, pm_w] : pm_wl [] ≤ 8) (by decide +kernel)).trans ?_
  exact Iff.rfl
theorem r287_69 {d : Nat} {X : Nat × (Nat → Int)} {v : Nat → Int} {M : PH} {K : PV → PS → Prop} {l1 l2 l3 l4 l5 s0 : Int} {l6 : PV} (h1 : inR l4) : pm_Run d 287 69 [vA 234, vI l1, vI l2, vI l3, vI l4, vI l5, l6] [vI s0] (GF X, M, PTF v) K ↔ if l4 = (-1) then pm_Run d 287 87 [vA 234, vI l1, vI l2, vI l3, vI l4, vI l5, vI s0] [] (GF X, M, PTF v) K else pm_Run d 287 77 [vA 234, vI l1, vI l2, vI l3, vI l4, vI l5, vI s0] [] (GF X, M, PTF v) K := by
  refine (px_go (by decide +kernel : pm_fe 287 69 = some (.istore 6, 2)) rfl).trans ?_
  refine (px_go (by decide +kernel : pm_fe 287 71 = some (.iload 4, 2)) rfl).trans ?_
  refine (px_go (by decide +kernel : pm_fe 287 73 = some (.iconst (-1), 1)) rfl).trans ?_
  refine (ry_ic_eq (off := 13) (tgt := 87) h1 (by decide : (-2147483648 ≤ ((-1) : Int) ∧ ((-1) : Int) < 2147483648)) (by decide +kernel)).trans ?_
  exact Iff.rfl
theorem r287_77 {d : Nat} {X : Nat × (Nat → Int)} {v : Nat → Int} {M : PH} {K : PV → PS → Prop} {l1 l2 l3 l4 l5 l6 : Int} (h1 : inR l6) (h2 : inR l4) : pm_Run d 287 77 [vA 234, vI l1, vI l2, vI l3, vI l4, vI l5, vI l6] [] (GF X, M, PTF v) K ↔ if l6 < l4 then pm_Run d 287 87 [vA 234, vI l1, vI l2, vI l3, vI l4, vI l5, vI l6] [] (GF X, M, PTF v) K else pm_Run d 287 84 [vA 234, vI l1, vI l2, vI l3, vI l4, vI l5, vI l6] [] (GF X, M, PTF v) K := by
  refine (px_go (by decide +kernel : pm_fe 287 77 = some (.iload 6, 2)) rfl).trans ?_
  refine (px_go (by decide +kernel : pm_fe 287 79 = some (.iload 4, 2)) rfl).trans ?_
  refine (ry_ic_lt (off := 6) (tgt := 87) h1 h2 (by decide +kernel)).trans ?_
  exact Iff.rfl
theorem r287_84 {d : Nat} {X : Nat × (Nat → Int)} {v : Nat → Int} {M : PH} {K : PV → PS → Prop} {l1 l2 l3 l4 l5 l6 : Int} : pm_Run d 287 84 [vA 234, vI l1, vI l2, vI l3, vI l4, vI l5, vI l6] [] (GF X, M, PTF v) K ↔ pm_Run d 287 119 [vA 234, vI l1, vI l2, vI l3, vI l4, vI l5, vI l6] [] (GF X, M, PTF v) K := by
  refine (px_goto (off := 35) (tgt := 119) (by decide +kernel)).trans ?_
  exact Iff.rfl
theorem r287_87 {d : Nat} {X : Nat × (Nat → Int)} {v : Nat → Int} {M : PH} {K : PV → PS → Prop} {l1 l2 l3 l4 l5 l6 : Int} : pm_Run d 287 87 [vA 234, vI l1, vI l2, vI l3, vI l4, vI l5, vI l6] [] (GF X, M, PTF v) K ↔ pm_Call d 255 [vA 234, vI 1] (GF X, M, PTF v) (fun r9 S1 => pm_Run d 287 92 [vA 234, vI l1, vI l2, vI l3, vI l4, vI l5, vI l6] (pm_push r9 []) S1 K) := by
  refine (px_go (by decide +kernel : pm_fe 287 87 = some (.aload_n 0, 1)) rfl).trans ?_
  refine (px_go (by decide +kernel : pm_fe 287 88 = some (.iconst 1, 1)) rfl).trans ?_
  refine (ry_v1 (idx := 513) (m' := 255) (ci := 12) (by decide +kernel : 234 < 283 ∧ SHF 234 = (12, 76)) (by simp [pm_wl_n, pm_wl_c, pm_w] : pm_wl [] ≤ 8) (by decide +kernel)).trans ?_
  exact Iff.rfl
theorem r287_92 {d : Nat} {X : Nat × (Nat → Int)} {v : Nat → Int} {M : PH} {K : PV → PS → Prop} {l1 l2 l3 l4 l5 l6 : Int} : pm_Run d 287 92 [vA 234, vI l1, vI l2, vI l3, vI l4, vI l5, vI l6] [] (GF X, M, PTF v) K ↔ pm_Call d 230 [vA 234, vI l1] (GF X, M, PTF v) (fun r9 S1 => pm_Run d 287 101 [vA 234, vI l1, vI l2, vI l3, vI l4, vI l5, vI l6] (pm_push r9 [vA 277]) S1 K) := by
  refine (px_go (by decide +kernel : pm_fe 287 92 = some (.aload_n 0, 1)) rfl).trans ?_
  refine (ry_get2 (idx := 219) (ci := 12) (k := 68) (by decide +kernel : 234 < 283 ∧ SHF 234 = (12, 76)) (ptf_l (a := 234) (k := 68) (n := 277) (by decide +kernel)) (by decide +kernel)).trans ?_
  refine (px_go (by decide +kernel : pm_fe 287 96 = some (.aload_n 0, 1)) rfl).trans ?_
  refine (px_go (by decide +kernel : pm_fe 287 97 = some (.iload_n 1, 1)) rfl).trans ?_
  refine (ry_v1 (idx := 503) (m' := 230) (ci := 12) (by decide +kernel : 234 < 283 ∧ SHF 234 = (12, 76)) (by simp [pm_wl_n, pm_wl_c, pm_w] : pm_wl [vA 277] ≤ 8) (by decide +kernel)).trans ?_
  exact Iff.rfl
theorem r287_101 {d : Nat} {X : Nat × (Nat → Int)} {v : Nat → Int} {M : PH} {K : PV → PS → Prop} {l1 l2 l3 l4 l5 l6 s0 : Int} (h1 : 0 ≤ s0) (h2 : s0 < 24) (h3 : inR (M 277 s0.toNat)) (h4 : inR l2) : pm_Run d 287 101 [vA 234, vI l1, vI l2, vI l3, vI l4, vI l5, vI l6] [vI s0, vA 277] (GF X, M, PTF v) K ↔ if l2 ≤ M 277 s0.toNat then pm_Run d 287 109 [vA 234, vI l1, vI l2, vI l3, vI l4, vI l5, vI l6] [] (GF X, M, PTF v) K else pm_Run d 287 106 [vA 234, vI l1, vI l2, vI l3, vI l4, vI l5, vI l6] [] (GF X, M, PTF v) K := by
  refine (ry_iald (by decide +kernel : 277 < 283 ∧ SHF 277 = (100, 24)) h1 h2 (by decide +kernel)).trans ?_
  refine (px_go (by decide +kernel : pm_fe 287 102 = some (.iload_n 2, 1)) rfl).trans ?_
  refine (ry_ic_ge (off := 6) (tgt := 109) h3 h4 (by decide +kernel)).trans ?_
  exact Iff.rfl
theorem r287_106 {d : Nat} {X : Nat × (Nat → Int)} {v : Nat → Int} {M : PH} {K : PV → PS → Prop} {l1 l2 l3 l4 l5 l6 : Int} : pm_Run d 287 106 [vA 234, vI l1, vI l2, vI l3, vI l4, vI l5, vI l6] [] (GF X, M, PTF v) K ↔ pm_Run d 287 119 [vA 234, vI l1, vI l2, vI l3, vI l4, vI l5, vI l6] [] (GF X, M, PTF v) K := by
  refine (px_goto (off := 13) (tgt := 119) (by decide +kernel)).trans ?_
  exact Iff.rfl
theorem r287_109 {d : Nat} {X : Nat × (Nat → Int)} {v : Nat → Int} {M : PH} {K : PV → PS → Prop} {l1 l2 l3 l4 l5 l6 : Int} : pm_Run d 287 109 [vA 234, vI l1, vI l2, vI l3, vI l4, vI l5, vI l6] [] (GF X, M, PTF v) K ↔ pm_Call d 286 [vA 234, vI 1, vI l1] (GF X, M, PTF v) (fun r9 S1 => pm_Run d 287 119 [vA 234, vI l1, vI l2, vI l3, vI l6, vI l5, vI l6] (pm_push r9 []) S1 K) := by
  refine (px_go (by decide +kernel : pm_fe 287 109 = some (.iload 6, 2)) rfl).trans ?_
  refine (px_go (by decide +kernel : pm_fe 287 111 = some (.istore 4, 2)) rfl).trans ?_
  refine (px_go (by decide +kernel : pm_fe 287 113 = some (.aload_n 0, 1)) rfl).trans ?_
  refine (px_go (by decide +kernel : pm_fe 287 114 = some (.iconst 1, 1)) rfl).trans ?_
  refine (px_go (by decide +kernel : pm_fe 287 115 = some (.iload_n 1, 1)) rfl).trans ?_
  refine (ry_v2 (idx := 593) (m' := 286) (ci := 12) (by decide +kernel : 234 < 283 ∧ SHF 234 = (12, 76)) (by simp [pm_wl_n, pm_wl_c, pm_w] : pm_wl [] ≤ 8) (by decide +kernel)).trans ?_
  exact Iff.rfl
theorem r287_119 {d : Nat} {X : Nat × (Nat → Int)} {v : Nat → Int} {M : PH} {K : PV → PS → Prop} {l1 l2 l3 l4 l5 l6 : Int} : pm_Run d 287 119 [vA 234, vI l1, vI l2, vI l3, vI l4, vI l5, vI l6] [] (GF X, M, PTF v) K ↔ pm_Run d 287 48 [vA 234, vI l1, vI l2, vI l3, vI l4, vI (l5 + 1), vI l6] [] (GF X, M, PTF v) K := by
  refine (px_go (by decide +kernel : pm_fe 287 119 = some (.iinc 5 1, 3)) rfl).trans ?_
  refine (px_goto (off := (-74)) (tgt := 48) (by decide +kernel)).trans ?_
  exact Iff.rfl
theorem r287_125 {d : Nat} {X : Nat × (Nat → Int)} {v : Nat → Int} {M : PH} {K : PV → PS → Prop} {l1 l2 l3 l4 l5 : Int} {l6 : PV} (h1 : inR l4) : pm_Run d 287 125 [vA 234, vI l1, vI l2, vI l3, vI l4, vI l5, l6] [] (GF X, M, PTF v) K ↔ if l4 = (-1) then pm_Run d 287 136 [vA 234, vI l1, vI l2, vI l3, vI l4, vI l5, l6] [] (GF X, M, PTF v) K else pm_Run d 287 131 [vA 234, vI l1, vI l2, vI l3, vI l4, vI l5, l6] [] (GF X, M, PTF v) K := by
  refine (px_go (by decide +kernel : pm_fe 287 125 = some (.iload 4, 2)) rfl).trans ?_
  refine (px_go (by decide +kernel : pm_fe 287 127 = some (.iconst (-1), 1)) rfl).trans ?_
  refine (ry_ic_eq (off := 8) (tgt := 136) h1 (by decide : (-2147483648 ≤ ((-1) : Int) ∧ ((-1) : Int) < 2147483648)) (by decide +kernel)).trans ?_
  exact Iff.rfl
theorem r287_131 {d : Nat} {X : Nat × (Nat → Int)} {v : Nat → Int} {M : PH} {K : PV → PS → Prop} {l1 l2 l3 l4 l5 : Int} {l6 : PV} (h1 : inR l3) : pm_Run d 287 131 [vA 234, vI l1, vI l2, vI l3, vI l4, vI l5, l6] [] (GF X, M, PTF v) K ↔ if l3 ≠ (-1) then pm_Run d 287 141 [vA 234, vI l1, vI l2, vI l3, vI l4, vI l5, l6] [] (GF X, M, PTF v) K else pm_Run d 287 136 [vA 234, vI l1, vI l2, vI l3, vI l4, vI l5, l6] [] (GF X, M, PTF v) K := by
  refine (px_go (by decide +kernel : pm_fe 287 131 = some (.iload_n 3, 1)) rfl).trans ?_
  refine (px_go (by decide +kernel : pm_fe 287 132 = some (.iconst (-1), 1)) rfl).trans ?_
  refine (ry_ic_ne (off := 8) (tgt := 141) h1 (by decide : (-2147483648 ≤ ((-1) : Int) ∧ ((-1) : Int) < 2147483648)) (by decide +kernel)).trans ?_
  exact Iff.rfl
theorem r287_136 {d : Nat} {X : Nat × (Nat → Int)} {v : Nat → Int} {M : PH} {K : PV → PS → Prop} {l1 l2 l3 l4 l5 : Int} {l6 : PV} : pm_Run d 287 136 [vA 234, vI l1, vI l2, vI l3, vI l4, vI l5, l6] [] (GF X, M, PTF v) K ↔ pm_Run d 287 147 [vA 234, vI l1, vI l2, vI l3, vI l4, vI l5, l6] [vI l4] (GF X, M, PTF v) K := by
  refine (px_go (by decide +kernel : pm_fe 287 136 = some (.iload 4, 2)) rfl).trans ?_
  refine (px_goto (off := 9) (tgt := 147) (by decide +kernel)).trans ?_
  exact Iff.rfl
theorem r287_141 {d : Nat} {X : Nat × (Nat → Int)} {v : Nat → Int} {M : PH} {K : PV → PS → Prop} {l1 l2 l3 l4 l5 : Int} {l6 : PV} (h1 : 0 ≤ l3) (h2 : l3 < 3) : pm_Run d 287 141 [vA 234, vI l1, vI l2, vI l3, vI l4, vI l5, l6] [] (GF X, M, PTF v) K ↔ pm_Run d 287 147 [vA 234, vI l1, vI l2, vI l3, vI l4, vI l5, l6] [vI (M 278 l3.toNat)] (GF X, M, PTF v) K := by
  refine (px_go (by decide +kernel : pm_fe 287 141 = some (.aload_n 0, 1)) rfl).trans ?_
  refine (ry_get2 (idx := 222) (ci := 12) (k := 69) (by decide +kernel : 234 < 283 ∧ SHF 234 = (12, 76)) (ptf_l (a := 234) (k := 69) (n := 278) (by decide +kernel)) (by decide +kernel)).trans ?_
  refine (px_go (by decide +kernel : pm_fe 287 145 = some (.iload_n 3, 1)) rfl).trans ?_
  refine (ry_iald (by decide +kernel : 278 < 283 ∧ SHF 278 = (100, 3)) h1 h2 (by decide +kernel)).trans ?_
  exact Iff.rfl
theorem r287_147 {d : Nat} {X : Nat × (Nat → Int)} {v : Nat → Int} {M : PH} {K : PV → PS → Prop} {l1 l2 l3 l4 l5 s0 : Int} {l6 : PV} : pm_Run d 287 147 [vA 234, vI l1, vI l2, vI l3, vI l4, vI l5, l6] [vI s0] (GF X, M, PTF v) K ↔ K (vI s0) (GF X, M, PTF v) := by
  refine (px_ri (by decide +kernel)).trans ?_
  exact Iff.rfl
-- X12_gainOf gainOf(II)I
theorem r288_0 {d : Nat} {X : Nat × (Nat → Int)} {v : Nat → Int} {M : PH} {K : PV → PS → Prop} {l1 l2 : Int} : pm_Run d 288 0 [vA 234, vI l1, vI l2] [] (GF X, M, PTF v) K ↔ pm_Call d 255 [vA 234, vI l1] (GF X, M, PTF v) (fun r9 S1 => pm_Run d 288 5 [vA 234, vI l1, vI l2] (pm_push r9 []) S1 K) := by
  refine (px_go (by decide +kernel : pm_fe 288 0 = some (.aload_n 0, 1)) rfl).trans ?_
  refine (px_go (by decide +kernel : pm_fe 288 1 = some (.iload_n 1, 1)) rfl).trans ?_
  refine (ry_v1 (idx := 513) (m' := 255) (ci := 12) (by decide +kernel : 234 < 283 ∧ SHF 234 = (12, 76)) (by simp [pm_wl_n, pm_wl_c, pm_w] : pm_wl [] ≤ 8) (by decide +kernel)).trans ?_
  exact Iff.rfl
theorem r288_5 {d : Nat} {X : Nat × (Nat → Int)} {v : Nat → Int} {M : PH} {K : PV → PS → Prop} {l1 l2 : Int} : pm_Run d 288 5 [vA 234, vI l1, vI l2] [] (GF X, M, PTF v) K ↔ pm_Call d 230 [vA 234, vI l2] (GF X, M, PTF v) (fun r9 S1 => pm_Run d 288 14 [vA 234, vI l1, vI l2] (pm_push r9 [vA 277]) S1 K) := by
  refine (px_go (by decide +kernel : pm_fe 288 5 = some (.aload_n 0, 1)) rfl).trans ?_
  refine (ry_get2 (idx := 219) (ci := 12) (k := 68) (by decide +kernel : 234 < 283 ∧ SHF 234 = (12, 76)) (ptf_l (a := 234) (k := 68) (n := 277) (by decide +kernel)) (by decide +kernel)).trans ?_
  refine (px_go (by decide +kernel : pm_fe 288 9 = some (.aload_n 0, 1)) rfl).trans ?_
  refine (px_go (by decide +kernel : pm_fe 288 10 = some (.iload_n 2, 1)) rfl).trans ?_
  refine (ry_v1 (idx := 503) (m' := 230) (ci := 12) (by decide +kernel : 234 < 283 ∧ SHF 234 = (12, 76)) (by simp [pm_wl_n, pm_wl_c, pm_w] : pm_wl [vA 277] ≤ 8) (by decide +kernel)).trans ?_
  exact Iff.rfl
theorem r288_14 {d : Nat} {X : Nat × (Nat → Int)} {v : Nat → Int} {M : PH} {K : PV → PS → Prop} {l1 l2 s0 : Int} (h1 : 0 ≤ s0) (h2 : s0 < 24) : pm_Run d 288 14 [vA 234, vI l1, vI l2] [vI s0, vA 277] (GF X, M, PTF v) K ↔ pm_Call d 239 [vA 234, vI l1, vI l2] (GF X, M, PTF v) (fun r9 S1 => pm_Run d 288 21 [vA 234, vI l1, vI l2] (pm_push r9 [vI (M 277 s0.toNat)]) S1 K) := by
  refine (ry_iald (by decide +kernel : 277 < 283 ∧ SHF 277 = (100, 24)) h1 h2 (by decide +kernel)).trans ?_
  refine (px_go (by decide +kernel : pm_fe 288 15 = some (.aload_n 0, 1)) rfl).trans ?_
  refine (px_go (by decide +kernel : pm_fe 288 16 = some (.iload_n 1, 1)) rfl).trans ?_
  refine (px_go (by decide +kernel : pm_fe 288 17 = some (.iload_n 2, 1)) rfl).trans ?_
  refine (ry_v2 (idx := 457) (m' := 239) (ci := 12) (by decide +kernel : 234 < 283 ∧ SHF 234 = (12, 76)) (by simp [pm_wl_n, pm_wl_c, pm_w] : pm_wl [vI (M 277 s0.toNat)] ≤ 8) (by decide +kernel)).trans ?_
  exact Iff.rfl
theorem r288_21 {d : Nat} {X : Nat × (Nat → Int)} {v : Nat → Int} {M : PH} {K : PV → PS → Prop} {l1 l2 s0 s1 : Int} : pm_Run d 288 21 [vA 234, vI l1, vI l2] [vI s0, vI s1] (GF X, M, PTF v) K ↔ K (vI (s1 - s0)) (GF X, M, PTF v) := by
  refine (px_go (by decide +kernel : pm_fe 288 21 = some (.isub, 1)) rfl).trans ?_
  refine (px_ri (by decide +kernel)).trans ?_
  exact Iff.rfl
-- X12_isLow isLow(II)Z
theorem r289_0 {d : Nat} {X : Nat × (Nat → Int)} {v : Nat → Int} {M : PH} {K : PV → PS → Prop} {l1 l2 : Int} : pm_Run d 289 0 [vA 234, vI l1, vI l2, PU] [] (GF X, M, PTF v) K ↔ pm_Run d 289 2 [vA 234, vI l1, vI l2, vI 0] [] (GF X, M, PTF v) K := by
  refine (px_go (by decide +kernel : pm_fe 289 0 = some (.iconst 0, 1)) rfl).trans ?_
  refine (px_go (by decide +kernel : pm_fe 289 1 = some (.istore_n 3, 1)) rfl).trans ?_
  exact Iff.rfl
theorem r289_2 {d : Nat} {X : Nat × (Nat → Int)} {v : Nat → Int} {M : PH} {K : PV → PS → Prop} {l1 l2 l3 : Int} (h1 : 0 ≤ (M 234 13)) (h2 : (M 234 13) < 2) (h3 : inR l3) (h4 : inR (M 237 (M 234 13).toNat)) : pm_Run d 289 2 [vA 234, vI l1, vI l2, vI l3] [] (GF X, M, PTF v) K ↔ if M 237 (M 234 13).toNat ≤ l3 then pm_Run d 289 42 [vA 234, vI l1, vI l2, vI l3] [] (GF X, M, PTF v) K else pm_Run d 289 15 [vA 234, vI l1, vI l2, vI l3] [] (GF X, M, PTF v) K := by
  refine (px_go (by decide +kernel : pm_fe 289 2 = some (.iload_n 3, 1)) rfl).trans ?_
  refine (px_go (by decide +kernel : pm_fe 289 3 = some (.aload_n 0, 1)) rfl).trans ?_
  refine (ry_get2 (idx := 57) (ci := 12) (k := 15) (by decide +kernel : 234 < 283 ∧ SHF 234 = (12, 76)) (ptf_l (a := 234) (k := 15) (n := 237) (by decide +kernel)) (by decide +kernel)).trans ?_
  refine (px_go (by decide +kernel : pm_fe 289 7 = some (.aload_n 0, 1)) rfl).trans ?_
  refine (ry_get0 (idx := 51) (ci := 12) (k := 13) (by decide +kernel : 234 < 283 ∧ SHF 234 = (12, 76)) (by decide +kernel)).trans ?_
  refine (ry_iald (by decide +kernel : 237 < 283 ∧ SHF 237 = (100, 2)) h1 h2 (by decide +kernel)).trans ?_
  refine (ry_ic_ge (off := 30) (tgt := 42) h3 h4 (by decide +kernel)).trans ?_
  exact Iff.rfl
theorem r289_15 {d : Nat} {X : Nat × (Nat → Int)} {v : Nat → Int} {M : PH} {K : PV → PS → Prop} {l1 l2 l3 : Int} (h1 : 0 ≤ (((24 * l1) + (3 * l2)) + l3)) (h2 : (((24 * l1) + (3 * l2)) + l3) < 528) (h3 : inR (M 274 (((24 * l1) + (3 * l2)) + l3).toNat)) : pm_Run d 289 15 [vA 234, vI l1, vI l2, vI l3] [] (GF X, M, PTF v) K ↔ if M 274 (((24 * l1) + (3 * l2)) + l3).toNat ≤ 4 then pm_Run d 289 36 [vA 234, vI l1, vI l2, vI l3] [] (GF X, M, PTF v) K else pm_Run d 289 34 [vA 234, vI l1, vI l2, vI l3] [] (GF X, M, PTF v) K := by
  refine (px_go (by decide +kernel : pm_fe 289 15 = some (.aload_n 0, 1)) rfl).trans ?_
  refine (ry_get2 (idx := 189) (ci := 12) (k := 58) (by decide +kernel : 234 < 283 ∧ SHF 234 = (12, 76)) (ptf_l (a := 234) (k := 58) (n := 274) (by decide +kernel)) (by decide +kernel)).trans ?_
  refine (px_go (by decide +kernel : pm_fe 289 19 = some (.bipush 24, 2)) rfl).trans ?_
  refine (px_go (by decide +kernel : pm_fe 289 21 = some (.iload_n 1, 1)) rfl).trans ?_
  refine (px_go (by decide +kernel : pm_fe 289 22 = some (.imul, 1)) rfl).trans ?_
  refine (px_go (by decide +kernel : pm_fe 289 23 = some (.iconst 3, 1)) rfl).trans ?_
  refine (px_go (by decide +kernel : pm_fe 289 24 = some (.iload_n 2, 1)) rfl).trans ?_
  refine (px_go (by decide +kernel : pm_fe 289 25 = some (.imul, 1)) rfl).trans ?_
  refine (px_go (by decide +kernel : pm_fe 289 26 = some (.iadd, 1)) rfl).trans ?_
  refine (px_go (by decide +kernel : pm_fe 289 27 = some (.iload_n 3, 1)) rfl).trans ?_
  refine (px_go (by decide +kernel : pm_fe 289 28 = some (.iadd, 1)) rfl).trans ?_
  refine (ry_iald (by decide +kernel : 274 < 283 ∧ SHF 274 = (100, 528)) h1 h2 (by decide +kernel)).trans ?_
  refine (px_go (by decide +kernel : pm_fe 289 30 = some (.iconst 4, 1)) rfl).trans ?_
  refine (ry_ic_le (off := 5) (tgt := 36) h3 (by decide : (-2147483648 ≤ (4 : Int) ∧ (4 : Int) < 2147483648)) (by decide +kernel)).trans ?_
  exact Iff.rfl
theorem r289_34 {d : Nat} {X : Nat × (Nat → Int)} {v : Nat → Int} {M : PH} {K : PV → PS → Prop} {l1 l2 l3 : Int} : pm_Run d 289 34 [vA 234, vI l1, vI l2, vI l3] [] (GF X, M, PTF v) K ↔ K (vI 0) (GF X, M, PTF v) := by
  refine (px_go (by decide +kernel : pm_fe 289 34 = some (.iconst 0, 1)) rfl).trans ?_
  refine (px_rz (by decide +kernel)).trans ((and_iff_right (by decide : (0 : Int) = (0 : Int) ∨ (0 : Int) = (1 : Int))).trans ?_)
  exact Iff.rfl
theorem r289_36 {d : Nat} {X : Nat × (Nat → Int)} {v : Nat → Int} {M : PH} {K : PV → PS → Prop} {l1 l2 l3 : Int} : pm_Run d 289 36 [vA 234, vI l1, vI l2, vI l3] [] (GF X, M, PTF v) K ↔ pm_Run d 289 2 [vA 234, vI l1, vI l2, vI (l3 + 1)] [] (GF X, M, PTF v) K := by
  refine (px_go (by decide +kernel : pm_fe 289 36 = some (.iinc 3 1, 3)) rfl).trans ?_
  refine (px_goto (off := (-37)) (tgt := 2) (by decide +kernel)).trans ?_
  exact Iff.rfl
theorem r289_42 {d : Nat} {X : Nat × (Nat → Int)} {v : Nat → Int} {M : PH} {K : PV → PS → Prop} {l1 l2 l3 : Int} : pm_Run d 289 42 [vA 234, vI l1, vI l2, vI l3] [] (GF X, M, PTF v) K ↔ K (vI 1) (GF X, M, PTF v) := by
  refine (px_go (by decide +kernel : pm_fe 289 42 = some (.iconst 1, 1)) rfl).trans ?_
  refine (px_rz (by decide +kernel)).trans ((and_iff_right (by decide : (1 : Int) = (0 : Int) ∨ (1 : Int) = (1 : Int))).trans ?_)
  exact Iff.rfl
-- X12_takesBest takesBest(I)Z
theorem r290_0 {d : Nat} {X : Nat × (Nat → Int)} {v : Nat → Int} {M : PH} {K : PV → PS → Prop} {l1 : Int} : pm_Run d 290 0 [vA 234, vI l1, PU, PU, PU, PU, PU] [] (GF X, M, PTF v) K ↔ pm_Call d 289 [vA 234, vI 1, vI l1] (GF X, M, PTF v) (fun r9 S1 => pm_Run d 290 8 [vA 234, vI l1, vI 0, PU, PU, PU, PU] (pm_push r9 []) S1 K) := by
  refine (px_go (by decide +kernel : pm_fe 290 0 = some (.iconst 0, 1)) rfl).trans ?_
  refine (px_go (by decide +kernel : pm_fe 290 1 = some (.istore_n 2, 1)) rfl).trans ?_
  refine (px_go (by decide +kernel : pm_fe 290 2 = some (.aload_n 0, 1)) rfl).trans ?_
  refine (px_go (by decide +kernel : pm_fe 290 3 = some (.iconst 1, 1)) rfl).trans ?_
  refine (px_go (by decide +kernel : pm_fe 290 4 = some (.iload_n 1, 1)) rfl).trans ?_
  refine (ry_v2 (idx := 596) (m' := 289) (ci := 12) (by decide +kernel : 234 < 283 ∧ SHF 234 = (12, 76)) (by simp [pm_wl_n, pm_wl_c, pm_w] : pm_wl [] ≤ 8) (by decide +kernel)).trans ?_
  exact Iff.rfl
theorem r290_8 {d : Nat} {X : Nat × (Nat → Int)} {v : Nat → Int} {M : PH} {K : PV → PS → Prop} {l1 l2 s0 : Int} : pm_Run d 290 8 [vA 234, vI l1, vI l2, PU, PU, PU, PU] [vI s0] (GF X, M, PTF v) K ↔ pm_Run d 290 12 [vA 234, vI l1, vI l2, vI s0, vI 0, PU, PU] [] (GF X, M, PTF v) K := by
  refine (px_go (by decide +kernel : pm_fe 290 8 = some (.istore_n 3, 1)) rfl).trans ?_
  refine (px_go (by decide +kernel : pm_fe 290 9 = some (.iconst 0, 1)) rfl).trans ?_
  refine (px_go (by decide +kernel : pm_fe 290 10 = some (.istore 4, 2)) rfl).trans ?_
  exact Iff.rfl
theorem r290_12 {d : Nat} {X : Nat × (Nat → Int)} {v : Nat → Int} {M : PH} {K : PV → PS → Prop} {l1 l2 l3 l4 : Int} (h1 : 0 ≤ (M 234 13)) (h2 : (M 234 13) < 2) (h3 : inR l4) (h4 : inR (M 237 (M 234 13).toNat)) : pm_Run d 290 12 [vA 234, vI l1, vI l2, vI l3, vI l4, PU, PU] [] (GF X, M, PTF v) K ↔ if M 237 (M 234 13).toNat ≤ l4 then pm_Run d 290 52 [vA 234, vI l1, vI l2, vI l3, vI l4, PU, PU] [] (GF X, M, PTF v) K else pm_Run d 290 26 [vA 234, vI l1, vI l2, vI l3, vI l4, PU, PU] [] (GF X, M, PTF v) K := by
  refine (px_go (by decide +kernel : pm_fe 290 12 = some (.iload 4, 2)) rfl).trans ?_
  refine (px_go (by decide +kernel : pm_fe 290 14 = some (.aload_n 0, 1)) rfl).trans ?_
  refine (ry_get2 (idx := 57) (ci := 12) (k := 15) (by decide +kernel : 234 < 283 ∧ SHF 234 = (12, 76)) (ptf_l (a := 234) (k := 15) (n := 237) (by decide +kernel)) (by decide +kernel)).trans ?_
  refine (px_go (by decide +kernel : pm_fe 290 18 = some (.aload_n 0, 1)) rfl).trans ?_
  refine (ry_get0 (idx := 51) (ci := 12) (k := 13) (by decide +kernel : 234 < 283 ∧ SHF 234 = (12, 76)) (by decide +kernel)).trans ?_
  refine (ry_iald (by decide +kernel : 237 < 283 ∧ SHF 237 = (100, 2)) h1 h2 (by decide +kernel)).trans ?_
  refine (ry_ic_ge (off := 29) (tgt := 52) h3 h4 (by decide +kernel)).trans ?_
  exact Iff.rfl
theorem r290_26 {d : Nat} {X : Nat × (Nat → Int)} {v : Nat → Int} {M : PH} {K : PV → PS → Prop} {l1 l2 l3 l4 : Int} (h1 : 0 ≤ ((24 + (3 * l1)) + l4)) (h2 : ((24 + (3 * l1)) + l4) < 528) : pm_Run d 290 26 [vA 234, vI l1, vI l2, vI l3, vI l4, PU, PU] [] (GF X, M, PTF v) K ↔ pm_Run d 290 12 [vA 234, vI l1, vI ((21 * l2) + (M 274 ((24 + (3 * l1)) + l4).toNat)), vI l3, vI (l4 + 1), PU, PU] [] (GF X, M, PTF v) K := by
  refine (px_go (by decide +kernel : pm_fe 290 26 = some (.bipush 21, 2)) rfl).trans ?_
  refine (px_go (by decide +kernel : pm_fe 290 28 = some (.iload_n 2, 1)) rfl).trans ?_
  refine (px_go (by decide +kernel : pm_fe 290 29 = some (.imul, 1)) rfl).trans ?_
  refine (px_go (by decide +kernel : pm_fe 290 30 = some (.aload_n 0, 1)) rfl).trans ?_
  refine (ry_get2 (idx := 189) (ci := 12) (k := 58) (by decide +kernel : 234 < 283 ∧ SHF 234 = (12, 76)) (ptf_l (a := 234) (k := 58) (n := 274) (by decide +kernel)) (by decide +kernel)).trans ?_
  refine (px_go (by decide +kernel : pm_fe 290 34 = some (.bipush 24, 2)) rfl).trans ?_
  refine (px_go (by decide +kernel : pm_fe 290 36 = some (.iconst 3, 1)) rfl).trans ?_
  refine (px_go (by decide +kernel : pm_fe 290 37 = some (.iload_n 1, 1)) rfl).trans ?_
  refine (px_go (by decide +kernel : pm_fe 290 38 = some (.imul, 1)) rfl).trans ?_
  refine (px_go (by decide +kernel : pm_fe 290 39 = some (.iadd, 1)) rfl).trans ?_
  refine (px_go (by decide +kernel : pm_fe 290 40 = some (.iload 4, 2)) rfl).trans ?_
  refine (px_go (by decide +kernel : pm_fe 290 42 = some (.iadd, 1)) rfl).trans ?_
  refine (ry_iald (by decide +kernel : 274 < 283 ∧ SHF 274 = (100, 528)) h1 h2 (by decide +kernel)).trans ?_
  refine (px_go (by decide +kernel : pm_fe 290 44 = some (.iadd, 1)) rfl).trans ?_
  refine (px_go (by decide +kernel : pm_fe 290 45 = some (.istore_n 2, 1)) rfl).trans ?_
  refine (px_go (by decide +kernel : pm_fe 290 46 = some (.iinc 4 1, 3)) rfl).trans ?_
  refine (px_goto (off := (-37)) (tgt := 12) (by decide +kernel)).trans ?_
  exact Iff.rfl
theorem r290_52 {d : Nat} {X : Nat × (Nat → Int)} {v : Nat → Int} {M : PH} {K : PV → PS → Prop} {l1 l2 l3 l4 : Int} (h1 : inR l3) : pm_Run d 290 52 [vA 234, vI l1, vI l2, vI l3, vI l4, PU, PU] [] (GF X, M, PTF v) K ↔ if l3 = 0 then pm_Run d 290 65 [vA 234, vI l1, vI l2, vI l3, vI l4, PU, PU] [] (GF X, M, PTF v) K else pm_Run d 290 56 [vA 234, vI l1, vI l2, vI l3, vI l4, PU, PU] [] (GF X, M, PTF v) K := by
  refine (px_go (by decide +kernel : pm_fe 290 52 = some (.iload_n 3, 1)) rfl).trans ?_
  refine (ry_if_eq (off := 12) (tgt := 65) h1 (by decide +kernel)).trans ?_
  exact Iff.rfl
theorem r290_56 {d : Nat} {X : Nat × (Nat → Int)} {v : Nat → Int} {M : PH} {K : PV → PS → Prop} {l1 l2 l3 l4 : Int} : pm_Run d 290 56 [vA 234, vI l1, vI l2, vI l3, vI l4, PU, PU] [] (GF X, M, PTF v) K ↔ pm_Call d 288 [vA 234, vI 1, vI l1] (GF X, M, PTF v) (fun r9 S1 => pm_Run d 290 62 [vA 234, vI l1, vI l2, vI l3, vI l4, PU, PU] (pm_push r9 []) S1 K) := by
  refine (px_go (by decide +kernel : pm_fe 290 56 = some (.aload_n 0, 1)) rfl).trans ?_
  refine (px_go (by decide +kernel : pm_fe 290 57 = some (.iconst 1, 1)) rfl).trans ?_
  refine (px_go (by decide +kernel : pm_fe 290 58 = some (.iload_n 1, 1)) rfl).trans ?_
  refine (ry_v2 (idx := 599) (m' := 288) (ci := 12) (by decide +kernel : 234 < 283 ∧ SHF 234 = (12, 76)) (by simp [pm_wl_n, pm_wl_c, pm_w] : pm_wl [] ≤ 8) (by decide +kernel)).trans ?_
  exact Iff.rfl
theorem r290_62 {d : Nat} {X : Nat × (Nat → Int)} {v : Nat → Int} {M : PH} {K : PV → PS → Prop} {l1 l2 l3 l4 s0 : Int} : pm_Run d 290 62 [vA 234, vI l1, vI l2, vI l3, vI l4, PU, PU] [vI s0] (GF X, M, PTF v) K ↔ pm_Run d 290 68 [vA 234, vI l1, vI l2, vI l3, vI l4, PU, PU] [vI s0] (GF X, M, PTF v) K := by
  refine (px_goto (off := 6) (tgt := 68) (by decide +kernel)).trans ?_
  exact Iff.rfl
theorem r290_65 {d : Nat} {X : Nat × (Nat → Int)} {v : Nat → Int} {M : PH} {K : PV → PS → Prop} {l1 l2 l3 l4 : Int} : pm_Run d 290 65 [vA 234, vI l1, vI l2, vI l3, vI l4, PU, PU] [] (GF X, M, PTF v) K ↔ pm_Run d 290 68 [vA 234, vI l1, vI l2, vI l3, vI l4, PU, PU] [vI (-1000000000)] (GF X, M, PTF v) K := by
  refine (px_ldcI (idx := 559) (n := 3) (x := (-1000000000)) (by decide +kernel)).trans ?_
  exact Iff.rfl
theorem r290_68 {d : Nat} {X : Nat × (Nat → Int)} {v : Nat → Int} {M : PH} {K : PV → PS → Prop} {l1 l2 l3 l4 s0 : Int} : pm_Run d 290 68 [vA 234, vI l1, vI l2, vI l3, vI l4, PU, PU] [vI s0] (GF X, M, PTF v) K ↔ pm_Call d 286 [vA 234, vI 1, vI l1] (GF X, M, PTF v) (fun r9 S1 => pm_Run d 290 76 [vA 234, vI l1, vI l2, vI l3, vI s0, PU, PU] (pm_push r9 []) S1 K) := by
  refine (px_go (by decide +kernel : pm_fe 290 68 = some (.istore 4, 2)) rfl).trans ?_
  refine (px_go (by decide +kernel : pm_fe 290 70 = some (.aload_n 0, 1)) rfl).trans ?_
  refine (px_go (by decide +kernel : pm_fe 290 71 = some (.iconst 1, 1)) rfl).trans ?_
  refine (px_go (by decide +kernel : pm_fe 290 72 = some (.iload_n 1, 1)) rfl).trans ?_
  refine (ry_v2 (idx := 593) (m' := 286) (ci := 12) (by decide +kernel : 234 < 283 ∧ SHF 234 = (12, 76)) (by simp [pm_wl_n, pm_wl_c, pm_w] : pm_wl [] ≤ 8) (by decide +kernel)).trans ?_
  exact Iff.rfl
theorem r290_76 {d : Nat} {X : Nat × (Nat → Int)} {v : Nat → Int} {M : PH} {K : PV → PS → Prop} {l1 l2 l3 l4 : Int} : pm_Run d 290 76 [vA 234, vI l1, vI l2, vI l3, vI l4, PU, PU] [] (GF X, M, PTF v) K ↔ pm_Run d 290 79 [vA 234, vI l1, vI l2, vI l3, vI l4, vI 0, PU] [] (GF X, M, PTF v) K := by
  refine (px_go (by decide +kernel : pm_fe 290 76 = some (.iconst 0, 1)) rfl).trans ?_
  refine (px_go (by decide +kernel : pm_fe 290 77 = some (.istore 5, 2)) rfl).trans ?_
  exact Iff.rfl
theorem r290_79 {d : Nat} {X : Nat × (Nat → Int)} {v : Nat → Int} {M : PH} {K : PV → PS → Prop} {l1 l2 l3 l4 l5 : Int} {l6 : PV} : pm_Run d 290 79 [vA 234, vI l1, vI l2, vI l3, vI l4, vI l5, l6] [] (GF X, M, PTF v) K ↔ pm_Call d 285 [vA 234, vI 5] (GF X, M, PTF v) (fun r9 S1 => pm_Run d 290 86 [vA 234, vI l1, vI l2, vI l3, vI l4, vI l5, l6] (pm_push r9 [vI l5]) S1 K) := by
  refine (px_go (by decide +kernel : pm_fe 290 79 = some (.iload 5, 2)) rfl).trans ?_
  refine (px_go (by decide +kernel : pm_fe 290 81 = some (.aload_n 0, 1)) rfl).trans ?_
  refine (px_go (by decide +kernel : pm_fe 290 82 = some (.iconst 5, 1)) rfl).trans ?_
  refine (ry_v1 (idx := 586) (m' := 285) (ci := 12) (by decide +kernel : 234 < 283 ∧ SHF 234 = (12, 76)) (by simp [pm_wl_n, pm_wl_c, pm_w] : pm_wl [vI l5] ≤ 8) (by decide +kernel)).trans ?_
  exact Iff.rfl
theorem r290_86 {d : Nat} {X : Nat × (Nat → Int)} {v : Nat → Int} {M : PH} {K : PV → PS → Prop} {l1 l2 l3 l4 l5 s0 s1 : Int} {l6 : PV} (h1 : inR s1) (h2 : inR s0) : pm_Run d 290 86 [vA 234, vI l1, vI l2, vI l3, vI l4, vI l5, l6] [vI s0, vI s1] (GF X, M, PTF v) K ↔ if s0 ≤ s1 then pm_Run d 290 133 [vA 234, vI l1, vI l2, vI l3, vI l4, vI l5, l6] [] (GF X, M, PTF v) K else pm_Run d 290 89 [vA 234, vI l1, vI l2, vI l3, vI l4, vI l5, l6] [] (GF X, M, PTF v) K := by
  refine (ry_ic_ge (off := 47) (tgt := 133) h1 h2 (by decide +kernel)).trans ?_
  exact Iff.rfl
theorem r290_89 {d : Nat} {X : Nat × (Nat → Int)} {v : Nat → Int} {M : PH} {K : PV → PS → Prop} {l1 l2 l3 l4 l5 : Int} {l6 : PV} : pm_Run d 290 89 [vA 234, vI l1, vI l2, vI l3, vI l4, vI l5, l6] [] (GF X, M, PTF v) K ↔ pm_Call d 284 [vA 234, vI 1, vI l1, vI l5, vI 5] (GF X, M, PTF v) (fun r9 S1 => pm_Run d 290 98 [vA 234, vI l1, vI l2, vI l3, vI l4, vI l5, l6] (pm_push r9 []) S1 K) := by
  refine (px_go (by decide +kernel : pm_fe 290 89 = some (.aload_n 0, 1)) rfl).trans ?_
  refine (px_go (by decide +kernel : pm_fe 290 90 = some (.iconst 1, 1)) rfl).trans ?_
  refine (px_go (by decide +kernel : pm_fe 290 91 = some (.iload_n 1, 1)) rfl).trans ?_
  refine (px_go (by decide +kernel : pm_fe 290 92 = some (.iload 5, 2)) rfl).trans ?_
  refine (px_go (by decide +kernel : pm_fe 290 94 = some (.iconst 5, 1)) rfl).trans ?_
  refine (ry_v4 (idx := 589) (m' := 284) (ci := 12) (by decide +kernel : 234 < 283 ∧ SHF 234 = (12, 76)) (by simp [pm_wl_n, pm_wl_c, pm_w] : pm_wl [] ≤ 8) (by decide +kernel)).trans ?_
  exact Iff.rfl
theorem r290_98 {d : Nat} {X : Nat × (Nat → Int)} {v : Nat → Int} {M : PH} {K : PV → PS → Prop} {l1 l2 l3 l4 l5 s0 : Int} {l6 : PV} : pm_Run d 290 98 [vA 234, vI l1, vI l2, vI l3, vI l4, vI l5, l6] [vI s0] (GF X, M, PTF v) K ↔ pm_Call d 288 [vA 234, vI 1, vI l1] (GF X, M, PTF v) (fun r9 S1 => pm_Run d 290 105 [vA 234, vI l1, vI l2, vI l3, vI l4, vI l5, l6] (pm_push r9 []) S1 K) := by
  refine (px_go (by decide +kernel : pm_fe 290 98 = some (.pop, 1)) rfl).trans ?_
  refine (px_go (by decide +kernel : pm_fe 290 99 = some (.aload_n 0, 1)) rfl).trans ?_
  refine (px_go (by decide +kernel : pm_fe 290 100 = some (.iconst 1, 1)) rfl).trans ?_
  refine (px_go (by decide +kernel : pm_fe 290 101 = some (.iload_n 1, 1)) rfl).trans ?_
  refine (ry_v2 (idx := 599) (m' := 288) (ci := 12) (by decide +kernel : 234 < 283 ∧ SHF 234 = (12, 76)) (by simp [pm_wl_n, pm_wl_c, pm_w] : pm_wl [] ≤ 8) (by decide +kernel)).trans ?_
  exact Iff.rfl
theorem r290_105 {d : Nat} {X : Nat × (Nat → Int)} {v : Nat → Int} {M : PH} {K : PV → PS → Prop} {l1 l2 l3 l4 l5 s0 : Int} {l6 : PV} (h1 : inR s0) (h2 : inR l4) : pm_Run d 290 105 [vA 234, vI l1, vI l2, vI l3, vI l4, vI l5, l6] [vI s0] (GF X, M, PTF v) K ↔ if l4 < s0 then pm_Run d 290 117 [vA 234, vI l1, vI l2, vI l3, vI l4, vI l5, vI s0] [] (GF X, M, PTF v) K else pm_Run d 290 114 [vA 234, vI l1, vI l2, vI l3, vI l4, vI l5, vI s0] [] (GF X, M, PTF v) K := by
  refine (px_go (by decide +kernel : pm_fe 290 105 = some (.istore 6, 2)) rfl).trans ?_
  refine (px_go (by decide +kernel : pm_fe 290 107 = some (.iload 6, 2)) rfl).trans ?_
  refine (px_go (by decide +kernel : pm_fe 290 109 = some (.iload 4, 2)) rfl).trans ?_
  refine (ry_ic_gt (off := 6) (tgt := 117) h1 h2 (by decide +kernel)).trans ?_
  exact Iff.rfl
theorem r290_114 {d : Nat} {X : Nat × (Nat → Int)} {v : Nat → Int} {M : PH} {K : PV → PS → Prop} {l1 l2 l3 l4 l5 l6 : Int} : pm_Run d 290 114 [vA 234, vI l1, vI l2, vI l3, vI l4, vI l5, vI l6] [] (GF X, M, PTF v) K ↔ pm_Run d 290 127 [vA 234, vI l1, vI l2, vI l3, vI l4, vI l5, vI l6] [] (GF X, M, PTF v) K := by
  refine (px_goto (off := 13) (tgt := 127) (by decide +kernel)).trans ?_
  exact Iff.rfl
theorem r290_117 {d : Nat} {X : Nat × (Nat → Int)} {v : Nat → Int} {M : PH} {K : PV → PS → Prop} {l1 l2 l3 l4 l5 l6 : Int} : pm_Run d 290 117 [vA 234, vI l1, vI l2, vI l3, vI l4, vI l5, vI l6] [] (GF X, M, PTF v) K ↔ pm_Call d 286 [vA 234, vI 1, vI l1] (GF X, M, PTF v) (fun r9 S1 => pm_Run d 290 127 [vA 234, vI l1, vI l2, vI l3, vI l6, vI l5, vI l6] (pm_push r9 []) S1 K) := by
  refine (px_go (by decide +kernel : pm_fe 290 117 = some (.iload 6, 2)) rfl).trans ?_
  refine (px_go (by decide +kernel : pm_fe 290 119 = some (.istore 4, 2)) rfl).trans ?_
  refine (px_go (by decide +kernel : pm_fe 290 121 = some (.aload_n 0, 1)) rfl).trans ?_
  refine (px_go (by decide +kernel : pm_fe 290 122 = some (.iconst 1, 1)) rfl).trans ?_
  refine (px_go (by decide +kernel : pm_fe 290 123 = some (.iload_n 1, 1)) rfl).trans ?_
  refine (ry_v2 (idx := 593) (m' := 286) (ci := 12) (by decide +kernel : 234 < 283 ∧ SHF 234 = (12, 76)) (by simp [pm_wl_n, pm_wl_c, pm_w] : pm_wl [] ≤ 8) (by decide +kernel)).trans ?_
  exact Iff.rfl
theorem r290_127 {d : Nat} {X : Nat × (Nat → Int)} {v : Nat → Int} {M : PH} {K : PV → PS → Prop} {l1 l2 l3 l4 l5 l6 : Int} : pm_Run d 290 127 [vA 234, vI l1, vI l2, vI l3, vI l4, vI l5, vI l6] [] (GF X, M, PTF v) K ↔ pm_Run d 290 79 [vA 234, vI l1, vI l2, vI l3, vI l4, vI (l5 + 1), vI l6] [] (GF X, M, PTF v) K := by
  refine (px_go (by decide +kernel : pm_fe 290 127 = some (.iinc 5 1, 3)) rfl).trans ?_
  refine (px_goto (off := (-51)) (tgt := 79) (by decide +kernel)).trans ?_
  exact Iff.rfl
theorem r290_133 {d : Nat} {X : Nat × (Nat → Int)} {v : Nat → Int} {M : PH} {K : PV → PS → Prop} {l1 l2 l3 l4 l5 : Int} {l6 : PV} : pm_Run d 290 133 [vA 234, vI l1, vI l2, vI l3, vI l4, vI l5, l6] [] (GF X, M, PTF v) K ↔ pm_Run d 290 139 [vA 234, vI l1, vI l2, vI l3, vI l4, vI 0, vI 0] [] (GF X, M, PTF v) K := by
  refine (px_go (by decide +kernel : pm_fe 290 133 = some (.iconst 0, 1)) rfl).trans ?_
  refine (px_go (by decide +kernel : pm_fe 290 134 = some (.istore 5, 2)) rfl).trans ?_
  refine (px_go (by decide +kernel : pm_fe 290 136 = some (.iconst 0, 1)) rfl).trans ?_
  refine (px_go (by decide +kernel : pm_fe 290 137 = some (.istore 6, 2)) rfl).trans ?_
  exact Iff.rfl
theorem r290_139 {d : Nat} {X : Nat × (Nat → Int)} {v : Nat → Int} {M : PH} {K : PV → PS → Prop} {l1 l2 l3 l4 l5 l6 : Int} (h1 : 0 ≤ (M 234 13)) (h2 : (M 234 13) < 2) (h3 : inR l6) (h4 : inR (M 237 (M 234 13).toNat)) : pm_Run d 290 139 [vA 234, vI l1, vI l2, vI l3, vI l4, vI l5, vI l6] [] (GF X, M, PTF v) K ↔ if M 237 (M 234 13).toNat ≤ l6 then pm_Run d 290 195 [vA 234, vI l1, vI l2, vI l3, vI l4, vI l5, vI l6] [] (GF X, M, PTF v) K else pm_Run d 290 153 [vA 234, vI l1, vI l2, vI l3, vI l4, vI l5, vI l6] [] (GF X, M, PTF v) K := by
  refine (px_go (by decide +kernel : pm_fe 290 139 = some (.iload 6, 2)) rfl).trans ?_
  refine (px_go (by decide +kernel : pm_fe 290 141 = some (.aload_n 0, 1)) rfl).trans ?_
  refine (ry_get2 (idx := 57) (ci := 12) (k := 15) (by decide +kernel : 234 < 283 ∧ SHF 234 = (12, 76)) (ptf_l (a := 234) (k := 15) (n := 237) (by decide +kernel)) (by decide +kernel)).trans ?_
  refine (px_go (by decide +kernel : pm_fe 290 145 = some (.aload_n 0, 1)) rfl).trans ?_
  refine (ry_get0 (idx := 51) (ci := 12) (k := 13) (by decide +kernel : 234 < 283 ∧ SHF 234 = (12, 76)) (by decide +kernel)).trans ?_
  refine (ry_iald (by decide +kernel : 237 < 283 ∧ SHF 237 = (100, 2)) h1 h2 (by decide +kernel)).trans ?_
  refine (ry_ic_ge (off := 45) (tgt := 195) h3 h4 (by decide +kernel)).trans ?_
  exact Iff.rfl
theorem r290_153 {d : Nat} {X : Nat × (Nat → Int)} {v : Nat → Int} {M : PH} {K : PV → PS → Prop} {l1 l2 l3 l4 l5 l6 : Int} (h1 : 0 ≤ l6) (h2 : l6 < 3) (h3 : 0 ≤ ((24 + (3 * l1)) + l6)) (h4 : ((24 + (3 * l1)) + l6) < 528) : pm_Run d 290 153 [vA 234, vI l1, vI l2, vI l3, vI l4, vI l5, vI l6] [] (GF X, M, PTF v) K ↔ pm_Run d 290 174 [vA 234, vI l1, vI l2, vI l3, vI l4, vI l5, vI l6] [] (GF X, pm_sa M 274 (pm_up (M 274) ((24 + (3 * l1)) + l6).toNat (M 278 l6.toNat)), PTF v) K := by
  refine (px_go (by decide +kernel : pm_fe 290 153 = some (.aload_n 0, 1)) rfl).trans ?_
  refine (ry_get2 (idx := 189) (ci := 12) (k := 58) (by decide +kernel : 234 < 283 ∧ SHF 234 = (12, 76)) (ptf_l (a := 234) (k := 58) (n := 274) (by decide +kernel)) (by decide +kernel)).trans ?_
  refine (px_go (by decide +kernel : pm_fe 290 157 = some (.bipush 24, 2)) rfl).trans ?_
  refine (px_go (by decide +kernel : pm_fe 290 159 = some (.iconst 3, 1)) rfl).trans ?_
  refine (px_go (by decide +kernel : pm_fe 290 160 = some (.iload_n 1, 1)) rfl).trans ?_
  refine (px_go (by decide +kernel : pm_fe 290 161 = some (.imul, 1)) rfl).trans ?_
  refine (px_go (by decide +kernel : pm_fe 290 162 = some (.iadd, 1)) rfl).trans ?_
  refine (px_go (by decide +kernel : pm_fe 290 163 = some (.iload 6, 2)) rfl).trans ?_
  refine (px_go (by decide +kernel : pm_fe 290 165 = some (.iadd, 1)) rfl).trans ?_
  refine (px_go (by decide +kernel : pm_fe 290 166 = some (.aload_n 0, 1)) rfl).trans ?_
  refine (ry_get2 (idx := 222) (ci := 12) (k := 69) (by decide +kernel : 234 < 283 ∧ SHF 234 = (12, 76)) (ptf_l (a := 234) (k := 69) (n := 278) (by decide +kernel)) (by decide +kernel)).trans ?_
  refine (px_go (by decide +kernel : pm_fe 290 170 = some (.iload 6, 2)) rfl).trans ?_
  refine (ry_iald (by decide +kernel : 278 < 283 ∧ SHF 278 = (100, 3)) h1 h2 (by decide +kernel)).trans ?_
  refine (ry_iast (by decide +kernel : 274 < 283 ∧ SHF 274 = (100, 528)) h3 h4 (by decide +kernel)).trans ?_
  exact Iff.rfl
theorem r290_174 {d : Nat} {X : Nat × (Nat → Int)} {v : Nat → Int} {M : PH} {K : PV → PS → Prop} {l1 l2 l3 l4 l5 l6 : Int} (h1 : 0 ≤ l6) (h2 : l6 < 3) : pm_Run d 290 174 [vA 234, vI l1, vI l2, vI l3, vI l4, vI l5, vI l6] [] (GF X, M, PTF v) K ↔ pm_Run d 290 139 [vA 234, vI l1, vI l2, vI l3, vI l4, vI ((21 * l5) + (M 278 l6.toNat)), vI (l6 + 1)] [] (GF X, M, PTF v) K := by
  refine (px_go (by decide +kernel : pm_fe 290 174 = some (.bipush 21, 2)) rfl).trans ?_
  refine (px_go (by decide +kernel : pm_fe 290 176 = some (.iload 5, 2)) rfl).trans ?_
  refine (px_go (by decide +kernel : pm_fe 290 178 = some (.imul, 1)) rfl).trans ?_
  refine (px_go (by decide +kernel : pm_fe 290 179 = some (.aload_n 0, 1)) rfl).trans ?_
  refine (ry_get2 (idx := 222) (ci := 12) (k := 69) (by decide +kernel : 234 < 283 ∧ SHF 234 = (12, 76)) (ptf_l (a := 234) (k := 69) (n := 278) (by decide +kernel)) (by decide +kernel)).trans ?_
  refine (px_go (by decide +kernel : pm_fe 290 183 = some (.iload 6, 2)) rfl).trans ?_
  refine (ry_iald (by decide +kernel : 278 < 283 ∧ SHF 278 = (100, 3)) h1 h2 (by decide +kernel)).trans ?_
  refine (px_go (by decide +kernel : pm_fe 290 186 = some (.iadd, 1)) rfl).trans ?_
  refine (px_go (by decide +kernel : pm_fe 290 187 = some (.istore 5, 2)) rfl).trans ?_
  refine (px_go (by decide +kernel : pm_fe 290 189 = some (.iinc 6 1, 3)) rfl).trans ?_
  refine (px_goto (off := (-53)) (tgt := 139) (by decide +kernel)).trans ?_
  exact Iff.rfl
theorem r290_195 {d : Nat} {X : Nat × (Nat → Int)} {v : Nat → Int} {M : PH} {K : PV → PS → Prop} {l1 l2 l3 l4 l5 l6 : Int} (h1 : inR l5) (h2 : inR l2) : pm_Run d 290 195 [vA 234, vI l1, vI l2, vI l3, vI l4, vI l5, vI l6] [] (GF X, M, PTF v) K ↔ if l5 = l2 then pm_Run d 290 205 [vA 234, vI l1, vI l2, vI l3, vI l4, vI l5, vI l6] [] (GF X, M, PTF v) K else pm_Run d 290 201 [vA 234, vI l1, vI l2, vI l3, vI l4, vI l5, vI l6] [] (GF X, M, PTF v) K := by
  refine (px_go (by decide +kernel : pm_fe 290 195 = some (.iload 5, 2)) rfl).trans ?_
  refine (px_go (by decide +kernel : pm_fe 290 197 = some (.iload_n 2, 1)) rfl).trans ?_
  refine (ry_ic_eq (off := 7) (tgt := 205) h1 h2 (by decide +kernel)).trans ?_
  exact Iff.rfl
theorem r290_201 {d : Nat} {X : Nat × (Nat → Int)} {v : Nat → Int} {M : PH} {K : PV → PS → Prop} {l1 l2 l3 l4 l5 l6 : Int} : pm_Run d 290 201 [vA 234, vI l1, vI l2, vI l3, vI l4, vI l5, vI l6] [] (GF X, M, PTF v) K ↔ pm_Run d 290 206 [vA 234, vI l1, vI l2, vI l3, vI l4, vI l5, vI l6] [vI 1] (GF X, M, PTF v) K := by
  refine (px_go (by decide +kernel : pm_fe 290 201 = some (.iconst 1, 1)) rfl).trans ?_
  refine (px_goto (off := 4) (tgt := 206) (by decide +kernel)).trans ?_
  exact Iff.rfl
theorem r290_205 {d : Nat} {X : Nat × (Nat → Int)} {v : Nat → Int} {M : PH} {K : PV → PS → Prop} {l1 l2 l3 l4 l5 l6 : Int} : pm_Run d 290 205 [vA 234, vI l1, vI l2, vI l3, vI l4, vI l5, vI l6] [] (GF X, M, PTF v) K ↔ pm_Run d 290 206 [vA 234, vI l1, vI l2, vI l3, vI l4, vI l5, vI l6] [vI 0] (GF X, M, PTF v) K := by
  refine (px_go (by decide +kernel : pm_fe 290 205 = some (.iconst 0, 1)) rfl).trans ?_
  exact Iff.rfl
theorem r290_206 {d : Nat} {X : Nat × (Nat → Int)} {v : Nat → Int} {M : PH} {K : PV → PS → Prop} {l1 l2 l3 l4 l5 l6 s0 : Int} (h1 : s0 = 0 ∨ s0 = 1) : pm_Run d 290 206 [vA 234, vI l1, vI l2, vI l3, vI l4, vI l5, vI l6] [vI s0] (GF X, M, PTF v) K ↔ K (vI s0) (GF X, M, PTF v) := by
  refine (px_rz (by decide +kernel)).trans ((and_iff_right h1).trans ?_)
  exact Iff.rfl
-- X12_rest rest(I)I
theorem r291_0 {d : Nat} {X : Nat × (Nat → Int)} {v : Nat → Int} {M : PH} {K : PV → PS → Prop} {l1 : Int} : pm_Run d 291 0 [vA 234, vI l1, PU, PU, PU] [] (GF X, M, PTF v) K ↔ pm_Call d 226 [vA 234] (GF X, M, PTF v) (fun r9 S1 => pm_Run d 291 4 [vA 234, vI l1, PU, PU, PU] (pm_push r9 []) S1 K) := by
  refine (px_go (by decide +kernel : pm_fe 291 0 = some (.aload_n 0, 1)) rfl).trans ?_
  refine (ry_v0 (idx := 523) (m' := 226) (ci := 12) (by decide +kernel : 234 < 283 ∧ SHF 234 = (12, 76)) (by simp [pm_wl_n, pm_wl_c, pm_w] : pm_wl [] ≤ 8) (by decide +kernel)).trans ?_
  exact Iff.rfl
theorem r291_4 {d : Nat} {X : Nat × (Nat → Int)} {v : Nat → Int} {M : PH} {K : PV → PS → Prop} {l1 s0 : Int} (h1 : inR s0) : pm_Run d 291 4 [vA 234, vI l1, PU, PU, PU] [vI s0] (GF X, M, PTF v) K ↔ if s0 = 0 then pm_Run d 291 38 [vA 234, vI l1, PU, PU, PU] [] (GF X, M, PTF v) K else pm_Run d 291 7 [vA 234, vI l1, PU, PU, PU] [] (GF X, M, PTF v) K := by
  refine (ry_if_eq (off := 34) (tgt := 38) h1 (by decide +kernel)).trans ?_
  exact Iff.rfl
theorem r291_7 {d : Nat} {X : Nat × (Nat → Int)} {v : Nat → Int} {M : PH} {K : PV → PS → Prop} {l1 : Int} (h1 : inR l1) : pm_Run d 291 7 [vA 234, vI l1, PU, PU, PU] [] (GF X, M, PTF v) K ↔ if l1 = (-1) then pm_Run d 291 40 [vA 234, vI l1, PU, PU, PU] [] (GF X, M, PTF v) K else pm_Run d 291 12 [vA 234, vI l1, PU, PU, PU] [] (GF X, M, PTF v) K := by
  refine (px_go (by decide +kernel : pm_fe 291 7 = some (.iload_n 1, 1)) rfl).trans ?_
  refine (px_go (by decide +kernel : pm_fe 291 8 = some (.iconst (-1), 1)) rfl).trans ?_
  refine (ry_ic_eq (off := 31) (tgt := 40) h1 (by decide : (-2147483648 ≤ ((-1) : Int) ∧ ((-1) : Int) < 2147483648)) (by decide +kernel)).trans ?_
  exact Iff.rfl
theorem r291_12 {d : Nat} {X : Nat × (Nat → Int)} {v : Nat → Int} {M : PH} {K : PV → PS → Prop} {l1 : Int} (h1 : inR l1) : pm_Run d 291 12 [vA 234, vI l1, PU, PU, PU] [] (GF X, M, PTF v) K ↔ if l1 < 0 then pm_Run d 291 38 [vA 234, vI l1, PU, PU, PU] [] (GF X, M, PTF v) K else pm_Run d 291 16 [vA 234, vI l1, PU, PU, PU] [] (GF X, M, PTF v) K := by
  refine (px_go (by decide +kernel : pm_fe 291 12 = some (.iload_n 1, 1)) rfl).trans ?_
  refine (ry_if_lt (off := 25) (tgt := 38) h1 (by decide +kernel)).trans ?_
  exact Iff.rfl
theorem r291_16 {d : Nat} {X : Nat × (Nat → Int)} {v : Nat → Int} {M : PH} {K : PV → PS → Prop} {l1 : Int} (h1 : inR l1) : pm_Run d 291 16 [vA 234, vI l1, PU, PU, PU] [] (GF X, M, PTF v) K ↔ pm_Call d 229 [vA 234, vI (l1.tdiv 10)] (GF X, M, PTF v) (fun r9 S1 => pm_Run d 291 24 [vA 234, vI l1, PU, PU, PU] (pm_push r9 []) S1 K) := by
  refine (px_go (by decide +kernel : pm_fe 291 16 = some (.aload_n 0, 1)) rfl).trans ?_
  refine (px_go (by decide +kernel : pm_fe 291 17 = some (.iload_n 1, 1)) rfl).trans ?_
  refine (px_go (by decide +kernel : pm_fe 291 18 = some (.bipush 10, 2)) rfl).trans ?_
  refine (ry_idiv h1 (by decide : (-2147483648 ≤ (10 : Int) ∧ (10 : Int) < 2147483648)) (by decide : (10 : Int) ≠ (0 : Int)) (by decide +kernel)).trans ?_
  refine (ry_v1 (idx := 544) (m' := 229) (ci := 12) (by decide +kernel : 234 < 283 ∧ SHF 234 = (12, 76)) (by simp [pm_wl_n, pm_wl_c, pm_w] : pm_wl [] ≤ 8) (by decide +kernel)).trans ?_
  exact Iff.rfl
theorem r291_24 {d : Nat} {X : Nat × (Nat → Int)} {v : Nat → Int} {M : PH} {K : PV → PS → Prop} {l1 s0 : Int} (h1 : inR s0) : pm_Run d 291 24 [vA 234, vI l1, PU, PU, PU] [vI s0] (GF X, M, PTF v) K ↔ if s0 = 0 then pm_Run d 291 38 [vA 234, vI l1, PU, PU, PU] [] (GF X, M, PTF v) K else pm_Run d 291 27 [vA 234, vI l1, PU, PU, PU] [] (GF X, M, PTF v) K := by
  refine (ry_if_eq (off := 14) (tgt := 38) h1 (by decide +kernel)).trans ?_
  exact Iff.rfl
theorem r291_27 {d : Nat} {X : Nat × (Nat → Int)} {v : Nat → Int} {M : PH} {K : PV → PS → Prop} {l1 : Int} (h1 : inR l1) : pm_Run d 291 27 [vA 234, vI l1, PU, PU, PU] [] (GF X, M, PTF v) K ↔ pm_Call d 228 [vA 234, vI (l1.tmod 10)] (GF X, M, PTF v) (fun r9 S1 => pm_Run d 291 35 [vA 234, vI l1, PU, PU, PU] (pm_push r9 []) S1 K) := by
  refine (px_go (by decide +kernel : pm_fe 291 27 = some (.aload_n 0, 1)) rfl).trans ?_
  refine (px_go (by decide +kernel : pm_fe 291 28 = some (.iload_n 1, 1)) rfl).trans ?_
  refine (px_go (by decide +kernel : pm_fe 291 29 = some (.bipush 10, 2)) rfl).trans ?_
  refine (ry_irem h1 (by decide : (-2147483648 ≤ (10 : Int) ∧ (10 : Int) < 2147483648)) (by decide : (10 : Int) ≠ (0 : Int)) (by decide +kernel)).trans ?_
  refine (ry_v1 (idx := 535) (m' := 228) (ci := 12) (by decide +kernel : 234 < 283 ∧ SHF 234 = (12, 76)) (by simp [pm_wl_n, pm_wl_c, pm_w] : pm_wl [] ≤ 8) (by decide +kernel)).trans ?_
  exact Iff.rfl
theorem r291_35 {d : Nat} {X : Nat × (Nat → Int)} {v : Nat → Int} {M : PH} {K : PV → PS → Prop} {l1 s0 : Int} (h1 : inR s0) : pm_Run d 291 35 [vA 234, vI l1, PU, PU, PU] [vI s0] (GF X, M, PTF v) K ↔ if s0 ≠ 0 then pm_Run d 291 40 [vA 234, vI l1, PU, PU, PU] [] (GF X, M, PTF v) K else pm_Run d 291 38 [vA 234, vI l1, PU, PU, PU] [] (GF X, M, PTF v) K := by
  refine (ry_if_ne (off := 5) (tgt := 40) h1 (by decide +kernel)).trans ?_
  exact Iff.rfl
theorem r291_38 {d : Nat} {X : Nat × (Nat → Int)} {v : Nat → Int} {M : PH} {K : PV → PS → Prop} {l1 : Int} : pm_Run d 291 38 [vA 234, vI l1, PU, PU, PU] [] (GF X, M, PTF v) K ↔ K (vI (-1)) (GF X, M, PTF v) := by
  refine (px_go (by decide +kernel : pm_fe 291 38 = some (.iconst (-1), 1)) rfl).trans ?_
  refine (px_ri (by decide +kernel)).trans ?_
  exact Iff.rfl
theorem r291_40 {d : Nat} {X : Nat × (Nat → Int)} {v : Nat → Int} {M : PH} {K : PV → PS → Prop} {l1 : Int} : pm_Run d 291 40 [vA 234, vI l1, PU, PU, PU] [] (GF X, M, PTF v) K ↔ pm_Call d 232 [vA 234, vI 1, vI 0] (GF X, M, PTF v) (fun r9 S1 => pm_Run d 291 46 [vA 234, vI l1, PU, PU, PU] (pm_push r9 []) S1 K) := by
  refine (px_go (by decide +kernel : pm_fe 291 40 = some (.aload_n 0, 1)) rfl).trans ?_
  refine (px_go (by decide +kernel : pm_fe 291 41 = some (.iconst 1, 1)) rfl).trans ?_
  refine (px_go (by decide +kernel : pm_fe 291 42 = some (.iconst 0, 1)) rfl).trans ?_
  refine (ry_v2 (idx := 445) (m' := 232) (ci := 12) (by decide +kernel : 234 < 283 ∧ SHF 234 = (12, 76)) (by simp [pm_wl_n, pm_wl_c, pm_w] : pm_wl [] ≤ 8) (by decide +kernel)).trans ?_
  exact Iff.rfl
theorem r291_46 {d : Nat} {X : Nat × (Nat → Int)} {v : Nat → Int} {M : PH} {K : PV → PS → Prop} {l1 : Int} : pm_Run d 291 46 [vA 234, vI l1, PU, PU, PU] [] (GF X, M, PTF v) K ↔ pm_Run d 291 50 [vA 234, vI l1, vI 0, vI 1, PU] [] (GF X, M, PTF v) K := by
  refine (px_go (by decide +kernel : pm_fe 291 46 = some (.iconst 0, 1)) rfl).trans ?_
  refine (px_go (by decide +kernel : pm_fe 291 47 = some (.istore_n 2, 1)) rfl).trans ?_
  refine (px_go (by decide +kernel : pm_fe 291 48 = some (.iconst 1, 1)) rfl).trans ?_
  refine (px_go (by decide +kernel : pm_fe 291 49 = some (.istore_n 3, 1)) rfl).trans ?_
  exact Iff.rfl
theorem r291_50 {d : Nat} {X : Nat × (Nat → Int)} {v : Nat → Int} {M : PH} {K : PV → PS → Prop} {l1 l2 l3 : Int} {l4 : PV} (h1 : inR l3) : pm_Run d 291 50 [vA 234, vI l1, vI l2, vI l3, l4] [] (GF X, M, PTF v) K ↔ if l3 = 0 then pm_Run d 291 110 [vA 234, vI l1, vI l2, vI l3, l4] [] (GF X, M, PTF v) K else pm_Run d 291 54 [vA 234, vI l1, vI l2, vI l3, l4] [] (GF X, M, PTF v) K := by
  refine (px_go (by decide +kernel : pm_fe 291 50 = some (.iload_n 3, 1)) rfl).trans ?_
  refine (ry_if_eq (off := 59) (tgt := 110) h1 (by decide +kernel)).trans ?_
  exact Iff.rfl
theorem r291_54 {d : Nat} {X : Nat × (Nat → Int)} {v : Nat → Int} {M : PH} {K : PV → PS → Prop} {l1 l2 l3 : Int} {l4 : PV} (h1 : inR l2) : pm_Run d 291 54 [vA 234, vI l1, vI l2, vI l3, l4] [] (GF X, M, PTF v) K ↔ if 12 ≤ l2 then pm_Run d 291 110 [vA 234, vI l1, vI l2, vI l3, l4] [] (GF X, M, PTF v) K else pm_Run d 291 60 [vA 234, vI l1, vI l2, vI l3, l4] [] (GF X, M, PTF v) K := by
  refine (px_go (by decide +kernel : pm_fe 291 54 = some (.iload_n 2, 1)) rfl).trans ?_
  refine (px_go (by decide +kernel : pm_fe 291 55 = some (.bipush 12, 2)) rfl).trans ?_
  refine (ry_ic_ge (off := 53) (tgt := 110) h1 (by decide : (-2147483648 ≤ (12 : Int) ∧ (12 : Int) < 2147483648)) (by decide +kernel)).trans ?_
  exact Iff.rfl
theorem r291_60 {d : Nat} {X : Nat × (Nat → Int)} {v : Nat → Int} {M : PH} {K : PV → PS → Prop} {l1 l2 l3 : Int} {l4 : PV} : pm_Run d 291 60 [vA 234, vI l1, vI l2, vI l3, l4] [] (GF X, M, PTF v) K ↔ pm_Run d 291 68 [vA 234, vI l1, vI (l2 + 1), vI 0, vI 0] [] (GF X, M, PTF v) K := by
  refine (px_go (by decide +kernel : pm_fe 291 60 = some (.iinc 2 1, 3)) rfl).trans ?_
  refine (px_go (by decide +kernel : pm_fe 291 63 = some (.iconst 0, 1)) rfl).trans ?_
  refine (px_go (by decide +kernel : pm_fe 291 64 = some (.istore_n 3, 1)) rfl).trans ?_
  refine (px_go (by decide +kernel : pm_fe 291 65 = some (.iconst 0, 1)) rfl).trans ?_
  refine (px_go (by decide +kernel : pm_fe 291 66 = some (.istore 4, 2)) rfl).trans ?_
  exact Iff.rfl
theorem r291_68 {d : Nat} {X : Nat × (Nat → Int)} {v : Nat → Int} {M : PH} {K : PV → PS → Prop} {l1 l2 l3 l4 : Int} (h1 : 0 ≤ (M 234 13)) (h2 : (M 234 13) < 2) (h3 : inR l4) (h4 : inR (M 241 (M 234 13).toNat)) : pm_Run d 291 68 [vA 234, vI l1, vI l2, vI l3, vI l4] [] (GF X, M, PTF v) K ↔ if M 241 (M 234 13).toNat ≤ l4 then pm_Run d 291 107 [vA 234, vI l1, vI l2, vI l3, vI l4] [] (GF X, M, PTF v) K else pm_Run d 291 82 [vA 234, vI l1, vI l2, vI l3, vI l4] [] (GF X, M, PTF v) K := by
  refine (px_go (by decide +kernel : pm_fe 291 68 = some (.iload 4, 2)) rfl).trans ?_
  refine (px_go (by decide +kernel : pm_fe 291 70 = some (.aload_n 0, 1)) rfl).trans ?_
  refine (ry_get2 (idx := 69) (ci := 12) (k := 19) (by decide +kernel : 234 < 283 ∧ SHF 234 = (12, 76)) (ptf_l (a := 234) (k := 19) (n := 241) (by decide +kernel)) (by decide +kernel)).trans ?_
  refine (px_go (by decide +kernel : pm_fe 291 74 = some (.aload_n 0, 1)) rfl).trans ?_
  refine (ry_get0 (idx := 51) (ci := 12) (k := 13) (by decide +kernel : 234 < 283 ∧ SHF 234 = (12, 76)) (by decide +kernel)).trans ?_
  refine (ry_iald (by decide +kernel : 241 < 283 ∧ SHF 241 = (100, 2)) h1 h2 (by decide +kernel)).trans ?_
  refine (ry_ic_ge (off := 28) (tgt := 107) h3 h4 (by decide +kernel)).trans ?_
  exact Iff.rfl
theorem r291_82 {d : Nat} {X : Nat × (Nat → Int)} {v : Nat → Int} {M : PH} {K : PV → PS → Prop} {l1 l2 l3 l4 : Int} : pm_Run d 291 82 [vA 234, vI l1, vI l2, vI l3, vI l4] [] (GF X, M, PTF v) K ↔ pm_Call d 290 [vA 234, vI l4] (GF X, M, PTF v) (fun r9 S1 => pm_Run d 291 88 [vA 234, vI l1, vI l2, vI l3, vI l4] (pm_push r9 []) S1 K) := by
  refine (px_go (by decide +kernel : pm_fe 291 82 = some (.aload_n 0, 1)) rfl).trans ?_
  refine (px_go (by decide +kernel : pm_fe 291 83 = some (.iload 4, 2)) rfl).trans ?_
  refine (ry_v1 (idx := 602) (m' := 290) (ci := 12) (by decide +kernel : 234 < 283 ∧ SHF 234 = (12, 76)) (by simp [pm_wl_n, pm_wl_c, pm_w] : pm_wl [] ≤ 8) (by decide +kernel)).trans ?_
  exact Iff.rfl
theorem r291_88 {d : Nat} {X : Nat × (Nat → Int)} {v : Nat → Int} {M : PH} {K : PV → PS → Prop} {l1 l2 l3 l4 s0 : Int} (h1 : inR s0) : pm_Run d 291 88 [vA 234, vI l1, vI l2, vI l3, vI l4] [vI s0] (GF X, M, PTF v) K ↔ if s0 ≠ 0 then pm_Run d 291 95 [vA 234, vI l1, vI l2, vI l3, vI l4] [] (GF X, M, PTF v) K else pm_Run d 291 91 [vA 234, vI l1, vI l2, vI l3, vI l4] [] (GF X, M, PTF v) K := by
  refine (ry_if_ne (off := 7) (tgt := 95) h1 (by decide +kernel)).trans ?_
  exact Iff.rfl
theorem r291_91 {d : Nat} {X : Nat × (Nat → Int)} {v : Nat → Int} {M : PH} {K : PV → PS → Prop} {l1 l2 l3 l4 : Int} (h1 : inR l3) : pm_Run d 291 91 [vA 234, vI l1, vI l2, vI l3, vI l4] [] (GF X, M, PTF v) K ↔ if l3 = 0 then pm_Run d 291 99 [vA 234, vI l1, vI l2, vI l3, vI l4] [] (GF X, M, PTF v) K else pm_Run d 291 95 [vA 234, vI l1, vI l2, vI l3, vI l4] [] (GF X, M, PTF v) K := by
  refine (px_go (by decide +kernel : pm_fe 291 91 = some (.iload_n 3, 1)) rfl).trans ?_
  refine (ry_if_eq (off := 7) (tgt := 99) h1 (by decide +kernel)).trans ?_
  exact Iff.rfl
theorem r291_95 {d : Nat} {X : Nat × (Nat → Int)} {v : Nat → Int} {M : PH} {K : PV → PS → Prop} {l1 l2 l3 l4 : Int} : pm_Run d 291 95 [vA 234, vI l1, vI l2, vI l3, vI l4] [] (GF X, M, PTF v) K ↔ pm_Run d 291 100 [vA 234, vI l1, vI l2, vI l3, vI l4] [vI 1] (GF X, M, PTF v) K := by
  refine (px_go (by decide +kernel : pm_fe 291 95 = some (.iconst 1, 1)) rfl).trans ?_
  refine (px_goto (off := 4) (tgt := 100) (by decide +kernel)).trans ?_
  exact Iff.rfl
theorem r291_99 {d : Nat} {X : Nat × (Nat → Int)} {v : Nat → Int} {M : PH} {K : PV → PS → Prop} {l1 l2 l3 l4 : Int} : pm_Run d 291 99 [vA 234, vI l1, vI l2, vI l3, vI l4] [] (GF X, M, PTF v) K ↔ pm_Run d 291 100 [vA 234, vI l1, vI l2, vI l3, vI l4] [vI 0] (GF X, M, PTF v) K := by
  refine (px_go (by decide +kernel : pm_fe 291 99 = some (.iconst 0, 1)) rfl).trans ?_
  exact Iff.rfl
theorem r291_100 {d : Nat} {X : Nat × (Nat → Int)} {v : Nat → Int} {M : PH} {K : PV → PS → Prop} {l1 l2 l3 l4 s0 : Int} : pm_Run d 291 100 [vA 234, vI l1, vI l2, vI l3, vI l4] [vI s0] (GF X, M, PTF v) K ↔ pm_Run d 291 68 [vA 234, vI l1, vI l2, vI s0, vI (l4 + 1)] [] (GF X, M, PTF v) K := by
  refine (px_go (by decide +kernel : pm_fe 291 100 = some (.istore_n 3, 1)) rfl).trans ?_
  refine (px_go (by decide +kernel : pm_fe 291 101 = some (.iinc 4 1, 3)) rfl).trans ?_
  refine (px_goto (off := (-36)) (tgt := 68) (by decide +kernel)).trans ?_
  exact Iff.rfl
theorem r291_107 {d : Nat} {X : Nat × (Nat → Int)} {v : Nat → Int} {M : PH} {K : PV → PS → Prop} {l1 l2 l3 l4 : Int} : pm_Run d 291 107 [vA 234, vI l1, vI l2, vI l3, vI l4] [] (GF X, M, PTF v) K ↔ pm_Run d 291 50 [vA 234, vI l1, vI l2, vI l3, vI l4] [] (GF X, M, PTF v) K := by
  refine (px_goto (off := (-57)) (tgt := 50) (by decide +kernel)).trans ?_
  exact Iff.rfl
theorem r291_110 {d : Nat} {X : Nat × (Nat → Int)} {v : Nat → Int} {M : PH} {K : PV → PS → Prop} {l1 l2 l3 : Int} {l4 : PV} (h1 : inR l1) : pm_Run d 291 110 [vA 234, vI l1, vI l2, vI l3, l4] [] (GF X, M, PTF v) K ↔ if l1 ≠ (-1) then pm_Run d 291 128 [vA 234, vI l1, vI l2, vI l3, l4] [] (GF X, M, PTF v) K else pm_Run d 291 115 [vA 234, vI l1, vI l2, vI l3, l4] [] (GF X, M, PTF v) K := by
  refine (px_go (by decide +kernel : pm_fe 291 110 = some (.iload_n 1, 1)) rfl).trans ?_
  refine (px_go (by decide +kernel : pm_fe 291 111 = some (.iconst (-1), 1)) rfl).trans ?_
  refine (ry_ic_ne (off := 16) (tgt := 128) h1 (by decide : (-2147483648 ≤ ((-1) : Int) ∧ ((-1) : Int) < 2147483648)) (by decide +kernel)).trans ?_
  exact Iff.rfl
theorem r291_115 {d : Nat} {X : Nat × (Nat → Int)} {v : Nat → Int} {M : PH} {K : PV → PS → Prop} {l1 l2 l3 : Int} {l4 : PV} (h1 : inR l3) : pm_Run d 291 115 [vA 234, vI l1, vI l2, vI l3, l4] [] (GF X, M, PTF v) K ↔ if l3 = 0 then pm_Run d 291 124 [vA 234, vI l1, vI l2, vI l3, l4] [] (GF X, M, PTF v) K else pm_Run d 291 119 [vA 234, vI l1, vI l2, vI l3, l4] [] (GF X, M, PTF v) K := by
  refine (px_go (by decide +kernel : pm_fe 291 115 = some (.iload_n 3, 1)) rfl).trans ?_
  refine (ry_if_eq (off := 8) (tgt := 124) h1 (by decide +kernel)).trans ?_
  exact Iff.rfl
theorem r291_119 {d : Nat} {X : Nat × (Nat → Int)} {v : Nat → Int} {M : PH} {K : PV → PS → Prop} {l1 l2 l3 : Int} {l4 : PV} : pm_Run d 291 119 [vA 234, vI l1, vI l2, vI l3, l4] [] (GF X, M, PTF v) K ↔ pm_Run d 291 147 [vA 234, vI l1, vI l2, vI l3, l4] [vI 13] (GF X, M, PTF v) K := by
  refine (px_go (by decide +kernel : pm_fe 291 119 = some (.bipush 13, 2)) rfl).trans ?_
  refine (px_goto (off := 26) (tgt := 147) (by decide +kernel)).trans ?_
  exact Iff.rfl
theorem r291_124 {d : Nat} {X : Nat × (Nat → Int)} {v : Nat → Int} {M : PH} {K : PV → PS → Prop} {l1 l2 l3 : Int} {l4 : PV} : pm_Run d 291 124 [vA 234, vI l1, vI l2, vI l3, l4] [] (GF X, M, PTF v) K ↔ pm_Run d 291 147 [vA 234, vI l1, vI l2, vI l3, l4] [vI l2] (GF X, M, PTF v) K := by
  refine (px_go (by decide +kernel : pm_fe 291 124 = some (.iload_n 2, 1)) rfl).trans ?_
  refine (px_goto (off := 22) (tgt := 147) (by decide +kernel)).trans ?_
  exact Iff.rfl
theorem r291_128 {d : Nat} {X : Nat × (Nat → Int)} {v : Nat → Int} {M : PH} {K : PV → PS → Prop} {l1 l2 l3 : Int} {l4 : PV} (h1 : inR l1) (h2 : 0 ≤ ((24 + (3 * (l1.tdiv 10))) + (l1.tmod 10))) (h3 : ((24 + (3 * (l1.tdiv 10))) + (l1.tmod 10)) < 528) : pm_Run d 291 128 [vA 234, vI l1, vI l2, vI l3, l4] [] (GF X, M, PTF v) K ↔ pm_Run d 291 147 [vA 234, vI l1, vI l2, vI l3, l4] [vI (M 274 ((24 + (3 * (l1.tdiv 10))) + (l1.tmod 10)).toNat)] (GF X, M, PTF v) K := by
  refine (px_go (by decide +kernel : pm_fe 291 128 = some (.aload_n 0, 1)) rfl).trans ?_
  refine (ry_get2 (idx := 189) (ci := 12) (k := 58) (by decide +kernel : 234 < 283 ∧ SHF 234 = (12, 76)) (ptf_l (a := 234) (k := 58) (n := 274) (by decide +kernel)) (by decide +kernel)).trans ?_
  refine (px_go (by decide +kernel : pm_fe 291 132 = some (.bipush 24, 2)) rfl).trans ?_
  refine (px_go (by decide +kernel : pm_fe 291 134 = some (.iconst 3, 1)) rfl).trans ?_
  refine (px_go (by decide +kernel : pm_fe 291 135 = some (.iload_n 1, 1)) rfl).trans ?_
  refine (px_go (by decide +kernel : pm_fe 291 136 = some (.bipush 10, 2)) rfl).trans ?_
  refine (ry_idiv h1 (by decide : (-2147483648 ≤ (10 : Int) ∧ (10 : Int) < 2147483648)) (by decide : (10 : Int) ≠ (0 : Int)) (by decide +kernel)).trans ?_
  refine (px_go (by decide +kernel : pm_fe 291 139 = some (.imul, 1)) rfl).trans ?_
  refine (px_go (by decide +kernel : pm_fe 291 140 = some (.iadd, 1)) rfl).trans ?_
  refine (px_go (by decide +kernel : pm_fe 291 141 = some (.iload_n 1, 1)) rfl).trans ?_
  refine (px_go (by decide +kernel : pm_fe 291 142 = some (.bipush 10, 2)) rfl).trans ?_
  refine (ry_irem h1 (by decide : (-2147483648 ≤ (10 : Int) ∧ (10 : Int) < 2147483648)) (by decide : (10 : Int) ≠ (0 : Int)) (by decide +kernel)).trans ?_
  refine (px_go (by decide +kernel : pm_fe 291 145 = some (.iadd, 1)) rfl).trans ?_
  refine (ry_iald (by decide +kernel : 274 < 283 ∧ SHF 274 = (100, 528)) h2 h3 (by decide +kernel)).trans ?_
  exact Iff.rfl
theorem r291_147 {d : Nat} {X : Nat × (Nat → Int)} {v : Nat → Int} {M : PH} {K : PV → PS → Prop} {l1 l2 l3 s0 : Int} {l4 : PV} : pm_Run d 291 147 [vA 234, vI l1, vI l2, vI l3, l4] [vI s0] (GF X, M, PTF v) K ↔ K (vI s0) (GF X, M, PTF v) := by
  refine (px_ri (by decide +kernel)).trans ?_
  exact Iff.rfl
-- X12_looksAhead looksAhead()V
theorem r292_0 {d : Nat} {X : Nat × (Nat → Int)} {v : Nat → Int} {M : PH} {K : PV → PS → Prop} : pm_Run d 292 0 [vA 234, PU, PU] [] (GF X, M, PTF v) K ↔ pm_Call d 232 [vA 234, vI 1, vI 0] (GF X, M, PTF v) (fun r9 S1 => pm_Run d 292 6 [vA 234, PU, PU] (pm_push r9 []) S1 K) := by
  refine (px_go (by decide +kernel : pm_fe 292 0 = some (.aload_n 0, 1)) rfl).trans ?_
  refine (px_go (by decide +kernel : pm_fe 292 1 = some (.iconst 1, 1)) rfl).trans ?_
  refine (px_go (by decide +kernel : pm_fe 292 2 = some (.iconst 0, 1)) rfl).trans ?_
  refine (ry_v2 (idx := 445) (m' := 232) (ci := 12) (by decide +kernel : 234 < 283 ∧ SHF 234 = (12, 76)) (by simp [pm_wl_n, pm_wl_c, pm_w] : pm_wl [] ≤ 8) (by decide +kernel)).trans ?_
  exact Iff.rfl
theorem r292_6 {d : Nat} {X : Nat × (Nat → Int)} {v : Nat → Int} {M : PH} {K : PV → PS → Prop} : pm_Run d 292 6 [vA 234, PU, PU] [] (GF X, M, PTF v) K ↔ pm_Run d 292 8 [vA 234, vI 0, PU] [] (GF X, M, PTF v) K := by
  refine (px_go (by decide +kernel : pm_fe 292 6 = some (.iconst 0, 1)) rfl).trans ?_
  refine (px_go (by decide +kernel : pm_fe 292 7 = some (.istore_n 1, 1)) rfl).trans ?_
  exact Iff.rfl
theorem r292_8 {d : Nat} {X : Nat × (Nat → Int)} {v : Nat → Int} {M : PH} {K : PV → PS → Prop} {l1 : Int} {l2 : PV} : pm_Run d 292 8 [vA 234, vI l1, l2] [] (GF X, M, PTF v) K ↔ pm_Call d 258 [vA 234] (GF X, M, PTF v) (fun r9 S1 => pm_Run d 292 13 [vA 234, vI l1, l2] (pm_push r9 [vI l1]) S1 K) := by
  refine (px_go (by decide +kernel : pm_fe 292 8 = some (.iload_n 1, 1)) rfl).trans ?_
  refine (px_go (by decide +kernel : pm_fe 292 9 = some (.aload_n 0, 1)) rfl).trans ?_
  refine (ry_v0 (idx := 526) (m' := 258) (ci := 12) (by decide +kernel : 234 < 283 ∧ SHF 234 = (12, 76)) (by simp [pm_wl_n, pm_wl_c, pm_w] : pm_wl [vI l1] ≤ 8) (by decide +kernel)).trans ?_
  exact Iff.rfl
theorem r292_13 {d : Nat} {X : Nat × (Nat → Int)} {v : Nat → Int} {M : PH} {K : PV → PS → Prop} {l1 s0 s1 : Int} {l2 : PV} (h1 : inR s1) (h2 : inR s0) : pm_Run d 292 13 [vA 234, vI l1, l2] [vI s0, vI s1] (GF X, M, PTF v) K ↔ if s0 < s1 then pm_Run d 292 70 [vA 234, vI l1, l2] [] (GF X, M, PTF v) K else pm_Run d 292 16 [vA 234, vI l1, l2] [] (GF X, M, PTF v) K := by
  refine (ry_ic_gt (off := 57) (tgt := 70) h1 h2 (by decide +kernel)).trans ?_
  exact Iff.rfl
theorem r292_16 {d : Nat} {X : Nat × (Nat → Int)} {v : Nat → Int} {M : PH} {K : PV → PS → Prop} {l1 : Int} {l2 : PV} : pm_Run d 292 16 [vA 234, vI l1, l2] [] (GF X, M, PTF v) K ↔ pm_Call d 255 [vA 234, vI 1] (GF X, M, PTF v) (fun r9 S1 => pm_Run d 292 21 [vA 234, vI l1, l2] (pm_push r9 []) S1 K) := by
  refine (px_go (by decide +kernel : pm_fe 292 16 = some (.aload_n 0, 1)) rfl).trans ?_
  refine (px_go (by decide +kernel : pm_fe 292 17 = some (.iconst 1, 1)) rfl).trans ?_
  refine (ry_v1 (idx := 513) (m' := 255) (ci := 12) (by decide +kernel : 234 < 283 ∧ SHF 234 = (12, 76)) (by simp [pm_wl_n, pm_wl_c, pm_w] : pm_wl [] ≤ 8) (by decide +kernel)).trans ?_
  exact Iff.rfl
theorem r292_21 {d : Nat} {X : Nat × (Nat → Int)} {v : Nat → Int} {M : PH} {K : PV → PS → Prop} {l1 : Int} {l2 : PV} : pm_Run d 292 21 [vA 234, vI l1, l2] [] (GF X, M, PTF v) K ↔ pm_Run d 292 23 [vA 234, vI l1, vI 0] [] (GF X, M, PTF v) K := by
  refine (px_go (by decide +kernel : pm_fe 292 21 = some (.iconst 0, 1)) rfl).trans ?_
  refine (px_go (by decide +kernel : pm_fe 292 22 = some (.istore_n 2, 1)) rfl).trans ?_
  exact Iff.rfl
theorem r292_23 {d : Nat} {X : Nat × (Nat → Int)} {v : Nat → Int} {M : PH} {K : PV → PS → Prop} {l1 l2 : Int} (h1 : 0 ≤ (M 234 13)) (h2 : (M 234 13) < 2) (h3 : inR l2) (h4 : inR (M 236 (M 234 13).toNat)) : pm_Run d 292 23 [vA 234, vI l1, vI l2] [] (GF X, M, PTF v) K ↔ if M 236 (M 234 13).toNat ≤ l2 then pm_Run d 292 59 [vA 234, vI l1, vI l2] [] (GF X, M, PTF v) K else pm_Run d 292 36 [vA 234, vI l1, vI l2] [] (GF X, M, PTF v) K := by
  refine (px_go (by decide +kernel : pm_fe 292 23 = some (.iload_n 2, 1)) rfl).trans ?_
  refine (px_go (by decide +kernel : pm_fe 292 24 = some (.aload_n 0, 1)) rfl).trans ?_
  refine (ry_get2 (idx := 54) (ci := 12) (k := 14) (by decide +kernel : 234 < 283 ∧ SHF 234 = (12, 76)) (ptf_l (a := 234) (k := 14) (n := 236) (by decide +kernel)) (by decide +kernel)).trans ?_
  refine (px_go (by decide +kernel : pm_fe 292 28 = some (.aload_n 0, 1)) rfl).trans ?_
  refine (ry_get0 (idx := 51) (ci := 12) (k := 13) (by decide +kernel : 234 < 283 ∧ SHF 234 = (12, 76)) (by decide +kernel)).trans ?_
  refine (ry_iald (by decide +kernel : 236 < 283 ∧ SHF 236 = (100, 2)) h1 h2 (by decide +kernel)).trans ?_
  refine (ry_ic_ge (off := 26) (tgt := 59) h3 h4 (by decide +kernel)).trans ?_
  exact Iff.rfl
theorem r292_36 {d : Nat} {X : Nat × (Nat → Int)} {v : Nat → Int} {M : PH} {K : PV → PS → Prop} {l1 l2 : Int} (h1 : 0 ≤ l2) (h2 : l2 < 24) (h3 : 0 ≤ ((24 * l1) + l2)) (h4 : ((24 * l1) + l2) < 1176) : pm_Run d 292 36 [vA 234, vI l1, vI l2] [] (GF X, M, PTF v) K ↔ pm_Run d 292 53 [vA 234, vI l1, vI l2] [] (GF X, pm_sa M 279 (pm_up (M 279) ((24 * l1) + l2).toNat (M 277 l2.toNat)), PTF v) K := by
  refine (px_go (by decide +kernel : pm_fe 292 36 = some (.aload_n 0, 1)) rfl).trans ?_
  refine (ry_get2 (idx := 225) (ci := 12) (k := 70) (by decide +kernel : 234 < 283 ∧ SHF 234 = (12, 76)) (ptf_l (a := 234) (k := 70) (n := 279) (by decide +kernel)) (by decide +kernel)).trans ?_
  refine (px_go (by decide +kernel : pm_fe 292 40 = some (.bipush 24, 2)) rfl).trans ?_
  refine (px_go (by decide +kernel : pm_fe 292 42 = some (.iload_n 1, 1)) rfl).trans ?_
  refine (px_go (by decide +kernel : pm_fe 292 43 = some (.imul, 1)) rfl).trans ?_
  refine (px_go (by decide +kernel : pm_fe 292 44 = some (.iload_n 2, 1)) rfl).trans ?_
  refine (px_go (by decide +kernel : pm_fe 292 45 = some (.iadd, 1)) rfl).trans ?_
  refine (px_go (by decide +kernel : pm_fe 292 46 = some (.aload_n 0, 1)) rfl).trans ?_
  refine (ry_get2 (idx := 219) (ci := 12) (k := 68) (by decide +kernel : 234 < 283 ∧ SHF 234 = (12, 76)) (ptf_l (a := 234) (k := 68) (n := 277) (by decide +kernel)) (by decide +kernel)).trans ?_
  refine (px_go (by decide +kernel : pm_fe 292 50 = some (.iload_n 2, 1)) rfl).trans ?_
  refine (ry_iald (by decide +kernel : 277 < 283 ∧ SHF 277 = (100, 24)) h1 h2 (by decide +kernel)).trans ?_
  refine (ry_iast (by decide +kernel : 279 < 283 ∧ SHF 279 = (100, 1176)) h3 h4 (by decide +kernel)).trans ?_
  exact Iff.rfl
theorem r292_53 {d : Nat} {X : Nat × (Nat → Int)} {v : Nat → Int} {M : PH} {K : PV → PS → Prop} {l1 l2 : Int} : pm_Run d 292 53 [vA 234, vI l1, vI l2] [] (GF X, M, PTF v) K ↔ pm_Run d 292 23 [vA 234, vI l1, vI (l2 + 1)] [] (GF X, M, PTF v) K := by
  refine (px_go (by decide +kernel : pm_fe 292 53 = some (.iinc 2 1, 3)) rfl).trans ?_
  refine (px_goto (off := (-33)) (tgt := 23) (by decide +kernel)).trans ?_
  exact Iff.rfl
theorem r292_59 {d : Nat} {X : Nat × (Nat → Int)} {v : Nat → Int} {M : PH} {K : PV → PS → Prop} {l1 l2 : Int} : pm_Run d 292 59 [vA 234, vI l1, vI l2] [] (GF X, M, PTF v) K ↔ pm_Call d 257 [vA 234, vI 1] (GF X, M, PTF v) (fun r9 S1 => pm_Run d 292 64 [vA 234, vI l1, vI l2] (pm_push r9 []) S1 K) := by
  refine (px_go (by decide +kernel : pm_fe 292 59 = some (.aload_n 0, 1)) rfl).trans ?_
  refine (px_go (by decide +kernel : pm_fe 292 60 = some (.iconst 1, 1)) rfl).trans ?_
  refine (ry_v1 (idx := 530) (m' := 257) (ci := 12) (by decide +kernel : 234 < 283 ∧ SHF 234 = (12, 76)) (by simp [pm_wl_n, pm_wl_c, pm_w] : pm_wl [] ≤ 8) (by decide +kernel)).trans ?_
  exact Iff.rfl
theorem r292_64 {d : Nat} {X : Nat × (Nat → Int)} {v : Nat → Int} {M : PH} {K : PV → PS → Prop} {l1 l2 : Int} : pm_Run d 292 64 [vA 234, vI l1, vI l2] [] (GF X, M, PTF v) K ↔ pm_Run d 292 8 [vA 234, vI (l1 + 1), vI l2] [] (GF X, M, PTF v) K := by
  refine (px_go (by decide +kernel : pm_fe 292 64 = some (.iinc 1 1, 3)) rfl).trans ?_
  refine (px_goto (off := (-59)) (tgt := 8) (by decide +kernel)).trans ?_
  exact Iff.rfl
theorem r292_70 {d : Nat} {X : Nat × (Nat → Int)} {v : Nat → Int} {M : PH} {K : PV → PS → Prop} {l1 : Int} {l2 : PV} : pm_Run d 292 70 [vA 234, vI l1, l2] [] (GF X, M, PTF v) K ↔ K PU (GF X, M, PTF v) := by
  refine (px_rv (by decide +kernel)).trans ?_
  exact Iff.rfl
-- X12_there there(IIII)I
theorem r293_0 {d : Nat} {X : Nat × (Nat → Int)} {v : Nat → Int} {M : PH} {K : PV → PS → Prop} {l1 l2 l3 l4 : Int} (h1 : 0 ≤ ((24 * l4) + l1)) (h2 : ((24 * l4) + l1) < 1176) (h3 : inR (M 279 ((24 * l4) + l1).toNat)) (h4 : inR l3) : pm_Run d 293 0 [vA 234, vI l1, vI l2, vI l3, vI l4, PU, PU, PU, PU, PU, PU] [] (GF X, M, PTF v) K ↔ if l3 ≤ M 279 ((24 * l4) + l1).toNat then pm_Run d 293 18 [vA 234, vI l1, vI l2, vI l3, vI l4, PU, PU, PU, PU, PU, PU] [] (GF X, M, PTF v) K else pm_Run d 293 16 [vA 234, vI l1, vI l2, vI l3, vI l4, PU, PU, PU, PU, PU, PU] [] (GF X, M, PTF v) K := by
  refine (px_go (by decide +kernel : pm_fe 293 0 = some (.aload_n 0, 1)) rfl).trans ?_
  refine (ry_get2 (idx := 225) (ci := 12) (k := 70) (by decide +kernel : 234 < 283 ∧ SHF 234 = (12, 76)) (ptf_l (a := 234) (k := 70) (n := 279) (by decide +kernel)) (by decide +kernel)).trans ?_
  refine (px_go (by decide +kernel : pm_fe 293 4 = some (.bipush 24, 2)) rfl).trans ?_
  refine (px_go (by decide +kernel : pm_fe 293 6 = some (.iload 4, 2)) rfl).trans ?_
  refine (px_go (by decide +kernel : pm_fe 293 8 = some (.imul, 1)) rfl).trans ?_
  refine (px_go (by decide +kernel : pm_fe 293 9 = some (.iload_n 1, 1)) rfl).trans ?_
  refine (px_go (by decide +kernel : pm_fe 293 10 = some (.iadd, 1)) rfl).trans ?_
  refine (ry_iald (by decide +kernel : 279 < 283 ∧ SHF 279 = (100, 1176)) h1 h2 (by decide +kernel)).trans ?_
  refine (px_go (by decide +kernel : pm_fe 293 12 = some (.iload_n 3, 1)) rfl).trans ?_
  refine (ry_ic_ge (off := 5) (tgt := 18) h3 h4 (by decide +kernel)).trans ?_
  exact Iff.rfl
theorem r293_16 {d : Nat} {X : Nat × (Nat → Int)} {v : Nat → Int} {M : PH} {K : PV → PS → Prop} {l1 l2 l3 l4 : Int} : pm_Run d 293 16 [vA 234, vI l1, vI l2, vI l3, vI l4, PU, PU, PU, PU, PU, PU] [] (GF X, M, PTF v) K ↔ K (vI (-1)) (GF X, M, PTF v) := by
  refine (px_go (by decide +kernel : pm_fe 293 16 = some (.iconst (-1), 1)) rfl).trans ?_
  refine (px_ri (by decide +kernel)).trans ?_
  exact Iff.rfl
theorem r293_18 {d : Nat} {X : Nat × (Nat → Int)} {v : Nat → Int} {M : PH} {K : PV → PS → Prop} {l1 l2 l3 l4 : Int} (h1 : 0 ≤ (M 234 13)) (h2 : (M 234 13) < 2) : pm_Run d 293 18 [vA 234, vI l1, vI l2, vI l3, vI l4, PU, PU, PU, PU, PU, PU] [] (GF X, M, PTF v) K ↔ pm_Run d 293 38 [vA 234, vI l1, vI l2, vI l3, vI l4, vI (pm_shl 1 l1), vI (M 236 (M 234 13).toNat), vI l4, PU, PU, PU] [] (GF X, M, PTF v) K := by
  refine (px_go (by decide +kernel : pm_fe 293 18 = some (.iconst 1, 1)) rfl).trans ?_
  refine (px_go (by decide +kernel : pm_fe 293 19 = some (.iload_n 1, 1)) rfl).trans ?_
  refine (px_go (by decide +kernel : pm_fe 293 20 = some (.ishl, 1)) rfl).trans ?_
  refine (px_go (by decide +kernel : pm_fe 293 21 = some (.istore 5, 2)) rfl).trans ?_
  refine (px_go (by decide +kernel : pm_fe 293 23 = some (.aload_n 0, 1)) rfl).trans ?_
  refine (ry_get2 (idx := 54) (ci := 12) (k := 14) (by decide +kernel : 234 < 283 ∧ SHF 234 = (12, 76)) (ptf_l (a := 234) (k := 14) (n := 236) (by decide +kernel)) (by decide +kernel)).trans ?_
  refine (px_go (by decide +kernel : pm_fe 293 27 = some (.aload_n 0, 1)) rfl).trans ?_
  refine (ry_get0 (idx := 51) (ci := 12) (k := 13) (by decide +kernel : 234 < 283 ∧ SHF 234 = (12, 76)) (by decide +kernel)).trans ?_
  refine (ry_iald (by decide +kernel : 236 < 283 ∧ SHF 236 = (100, 2)) h1 h2 (by decide +kernel)).trans ?_
  refine (px_go (by decide +kernel : pm_fe 293 32 = some (.istore 6, 2)) rfl).trans ?_
  refine (px_go (by decide +kernel : pm_fe 293 34 = some (.iload 4, 2)) rfl).trans ?_
  refine (px_go (by decide +kernel : pm_fe 293 36 = some (.istore 7, 2)) rfl).trans ?_
  exact Iff.rfl
theorem r293_38 {d : Nat} {X : Nat × (Nat → Int)} {v : Nat → Int} {M : PH} {K : PV → PS → Prop} {l1 l2 l3 l4 l5 l6 l7 : Int} {l8 l9 l10 : PV} : pm_Run d 293 38 [vA 234, vI l1, vI l2, vI l3, vI l4, vI l5, vI l6, vI l7, l8, l9, l10] [] (GF X, M, PTF v) K ↔ pm_Call d 258 [vA 234] (GF X, M, PTF v) (fun r9 S1 => pm_Run d 293 44 [vA 234, vI l1, vI l2, vI l3, vI l4, vI l5, vI l6, vI l7, l8, l9, l10] (pm_push r9 [vI l7]) S1 K) := by
  refine (px_go (by decide +kernel : pm_fe 293 38 = some (.iload 7, 2)) rfl).trans ?_
  refine (px_go (by decide +kernel : pm_fe 293 40 = some (.aload_n 0, 1)) rfl).trans ?_
  refine (ry_v0 (idx := 526) (m' := 258) (ci := 12) (by decide +kernel : 234 < 283 ∧ SHF 234 = (12, 76)) (by simp [pm_wl_n, pm_wl_c, pm_w] : pm_wl [vI l7] ≤ 8) (by decide +kernel)).trans ?_
  exact Iff.rfl
theorem r293_44 {d : Nat} {X : Nat × (Nat → Int)} {v : Nat → Int} {M : PH} {K : PV → PS → Prop} {l1 l2 l3 l4 l5 l6 l7 s0 s1 : Int} {l8 l9 l10 : PV} (h1 : inR s1) (h2 : inR s0) : pm_Run d 293 44 [vA 234, vI l1, vI l2, vI l3, vI l4, vI l5, vI l6, vI l7, l8, l9, l10] [vI s0, vI s1] (GF X, M, PTF v) K ↔ if s0 < s1 then pm_Run d 293 188 [vA 234, vI l1, vI l2, vI l3, vI l4, vI l5, vI l6, vI l7, l8, l9, l10] [] (GF X, M, PTF v) K else pm_Run d 293 47 [vA 234, vI l1, vI l2, vI l3, vI l4, vI l5, vI l6, vI l7, l8, l9, l10] [] (GF X, M, PTF v) K := by
  refine (ry_ic_gt (off := 144) (tgt := 188) h1 h2 (by decide +kernel)).trans ?_
  exact Iff.rfl
theorem r293_47 {d : Nat} {X : Nat × (Nat → Int)} {v : Nat → Int} {M : PH} {K : PV → PS → Prop} {l1 l2 l3 l4 l5 l6 l7 : Int} {l8 l9 l10 : PV} (h1 : inR (pm_and (pm_shr l5 l2) 1)) : pm_Run d 293 47 [vA 234, vI l1, vI l2, vI l3, vI l4, vI l5, vI l6, vI l7, l8, l9, l10] [] (GF X, M, PTF v) K ↔ if pm_and (pm_shr l5 l2) 1 ≠ 1 then pm_Run d 293 60 [vA 234, vI l1, vI l2, vI l3, vI l4, vI l5, vI l6, vI l7, l8, l9, l10] [] (GF X, M, PTF v) K else pm_Run d 293 57 [vA 234, vI l1, vI l2, vI l3, vI l4, vI l5, vI l6, vI l7, l8, l9, l10] [] (GF X, M, PTF v) K := by
  refine (px_go (by decide +kernel : pm_fe 293 47 = some (.iload 5, 2)) rfl).trans ?_
  refine (px_go (by decide +kernel : pm_fe 293 49 = some (.iload_n 2, 1)) rfl).trans ?_
  refine (px_go (by decide +kernel : pm_fe 293 50 = some (.ishr, 1)) rfl).trans ?_
  refine (px_go (by decide +kernel : pm_fe 293 51 = some (.iconst 1, 1)) rfl).trans ?_
  refine (px_go (by decide +kernel : pm_fe 293 52 = some (.iand, 1)) rfl).trans ?_
  refine (px_go (by decide +kernel : pm_fe 293 53 = some (.iconst 1, 1)) rfl).trans ?_
  refine (ry_ic_ne (off := 6) (tgt := 60) h1 (by decide : (-2147483648 ≤ (1 : Int) ∧ (1 : Int) < 2147483648)) (by decide +kernel)).trans ?_
  exact Iff.rfl
theorem r293_57 {d : Nat} {X : Nat × (Nat → Int)} {v : Nat → Int} {M : PH} {K : PV → PS → Prop} {l1 l2 l3 l4 l5 l6 l7 : Int} {l8 l9 l10 : PV} : pm_Run d 293 57 [vA 234, vI l1, vI l2, vI l3, vI l4, vI l5, vI l6, vI l7, l8, l9, l10] [] (GF X, M, PTF v) K ↔ K (vI l7) (GF X, M, PTF v) := by
  refine (px_go (by decide +kernel : pm_fe 293 57 = some (.iload 7, 2)) rfl).trans ?_
  refine (px_ri (by decide +kernel)).trans ?_
  exact Iff.rfl
theorem r293_60 {d : Nat} {X : Nat × (Nat → Int)} {v : Nat → Int} {M : PH} {K : PV → PS → Prop} {l1 l2 l3 l4 l5 l6 l7 : Int} {l8 l9 l10 : PV} : pm_Run d 293 60 [vA 234, vI l1, vI l2, vI l3, vI l4, vI l5, vI l6, vI l7, l8, l9, l10] [] (GF X, M, PTF v) K ↔ pm_Run d 293 66 [vA 234, vI l1, vI l2, vI l3, vI l4, vI l5, vI l6, vI l7, vI 0, vI 0, l10] [] (GF X, M, PTF v) K := by
  refine (px_go (by decide +kernel : pm_fe 293 60 = some (.iconst 0, 1)) rfl).trans ?_
  refine (px_go (by decide +kernel : pm_fe 293 61 = some (.istore 8, 2)) rfl).trans ?_
  refine (px_go (by decide +kernel : pm_fe 293 63 = some (.iconst 0, 1)) rfl).trans ?_
  refine (px_go (by decide +kernel : pm_fe 293 64 = some (.istore 9, 2)) rfl).trans ?_
  exact Iff.rfl
theorem r293_66 {d : Nat} {X : Nat × (Nat → Int)} {v : Nat → Int} {M : PH} {K : PV → PS → Prop} {l1 l2 l3 l4 l5 l6 l7 l8 l9 : Int} {l10 : PV} (h1 : inR l9) (h2 : inR l6) : pm_Run d 293 66 [vA 234, vI l1, vI l2, vI l3, vI l4, vI l5, vI l6, vI l7, vI l8, vI l9, l10] [] (GF X, M, PTF v) K ↔ if l6 ≤ l9 then pm_Run d 293 178 [vA 234, vI l1, vI l2, vI l3, vI l4, vI l5, vI l6, vI l7, vI l8, vI l9, l10] [] (GF X, M, PTF v) K else pm_Run d 293 73 [vA 234, vI l1, vI l2, vI l3, vI l4, vI l5, vI l6, vI l7, vI l8, vI l9, l10] [] (GF X, M, PTF v) K := by
  refine (px_go (by decide +kernel : pm_fe 293 66 = some (.iload 9, 2)) rfl).trans ?_
  refine (px_go (by decide +kernel : pm_fe 293 68 = some (.iload 6, 2)) rfl).trans ?_
  refine (ry_ic_ge (off := 108) (tgt := 178) h1 h2 (by decide +kernel)).trans ?_
  exact Iff.rfl
theorem r293_73 {d : Nat} {X : Nat × (Nat → Int)} {v : Nat → Int} {M : PH} {K : PV → PS → Prop} {l1 l2 l3 l4 l5 l6 l7 l8 l9 : Int} {l10 : PV} : pm_Run d 293 73 [vA 234, vI l1, vI l2, vI l3, vI l4, vI l5, vI l6, vI l7, vI l8, vI l9, l10] [] (GF X, M, PTF v) K ↔ pm_Call d 258 [vA 234] (GF X, M, PTF v) (fun r9 S1 => pm_Run d 293 79 [vA 234, vI l1, vI l2, vI l3, vI l4, vI l5, vI l6, vI l7, vI l8, vI l9, l10] (pm_push r9 [vI l7]) S1 K) := by
  refine (px_go (by decide +kernel : pm_fe 293 73 = some (.iload 7, 2)) rfl).trans ?_
  refine (px_go (by decide +kernel : pm_fe 293 75 = some (.aload_n 0, 1)) rfl).trans ?_
  refine (ry_v0 (idx := 526) (m' := 258) (ci := 12) (by decide +kernel : 234 < 283 ∧ SHF 234 = (12, 76)) (by simp [pm_wl_n, pm_wl_c, pm_w] : pm_wl [vI l7] ≤ 8) (by decide +kernel)).trans ?_
  exact Iff.rfl
theorem r293_79 {d : Nat} {X : Nat × (Nat → Int)} {v : Nat → Int} {M : PH} {K : PV → PS → Prop} {l1 l2 l3 l4 l5 l6 l7 l8 l9 s0 s1 : Int} {l10 : PV} (h1 : inR s1) (h2 : inR s0) : pm_Run d 293 79 [vA 234, vI l1, vI l2, vI l3, vI l4, vI l5, vI l6, vI l7, vI l8, vI l9, l10] [vI s0, vI s1] (GF X, M, PTF v) K ↔ if s0 ≤ s1 then pm_Run d 293 178 [vA 234, vI l1, vI l2, vI l3, vI l4, vI l5, vI l6, vI l7, vI l8, vI l9, l10] [] (GF X, M, PTF v) K else pm_Run d 293 82 [vA 234, vI l1, vI l2, vI l3, vI l4, vI l5, vI l6, vI l7, vI l8, vI l9, l10] [] (GF X, M, PTF v) K := by
  refine (ry_ic_ge (off := 99) (tgt := 178) h1 h2 (by decide +kernel)).trans ?_
  exact Iff.rfl
theorem r293_82 {d : Nat} {X : Nat × (Nat → Int)} {v : Nat → Int} {M : PH} {K : PV → PS → Prop} {l1 l2 l3 l4 l5 l6 l7 l8 l9 : Int} {l10 : PV} (h1 : inR (pm_and (pm_shr l5 l9) 1)) : pm_Run d 293 82 [vA 234, vI l1, vI l2, vI l3, vI l4, vI l5, vI l6, vI l7, vI l8, vI l9, l10] [] (GF X, M, PTF v) K ↔ if pm_and (pm_shr l5 l9) 1 = 1 then pm_Run d 293 128 [vA 234, vI l1, vI l2, vI l3, vI l4, vI l5, vI l6, vI l7, vI l8, vI l9, l10] [] (GF X, M, PTF v) K else pm_Run d 293 93 [vA 234, vI l1, vI l2, vI l3, vI l4, vI l5, vI l6, vI l7, vI l8, vI l9, l10] [] (GF X, M, PTF v) K := by
  refine (px_go (by decide +kernel : pm_fe 293 82 = some (.iload 5, 2)) rfl).trans ?_
  refine (px_go (by decide +kernel : pm_fe 293 84 = some (.iload 9, 2)) rfl).trans ?_
  refine (px_go (by decide +kernel : pm_fe 293 86 = some (.ishr, 1)) rfl).trans ?_
  refine (px_go (by decide +kernel : pm_fe 293 87 = some (.iconst 1, 1)) rfl).trans ?_
  refine (px_go (by decide +kernel : pm_fe 293 88 = some (.iand, 1)) rfl).trans ?_
  refine (px_go (by decide +kernel : pm_fe 293 89 = some (.iconst 1, 1)) rfl).trans ?_
  refine (ry_ic_eq (off := 38) (tgt := 128) h1 (by decide : (-2147483648 ≤ (1 : Int) ∧ (1 : Int) < 2147483648)) (by decide +kernel)).trans ?_
  exact Iff.rfl
theorem r293_93 {d : Nat} {X : Nat × (Nat → Int)} {v : Nat → Int} {M : PH} {K : PV → PS → Prop} {l1 l2 l3 l4 l5 l6 l7 l8 l9 : Int} {l10 : PV} (h1 : inR (l9 + 1)) (h2 : inR l6) (h3 : l6 ≠ 0) (h4 : inR (pm_and (pm_shr l5 ((l9 + 1).tmod l6)) 1)) : pm_Run d 293 93 [vA 234, vI l1, vI l2, vI l3, vI l4, vI l5, vI l6, vI l7, vI l8, vI l9, l10] [] (GF X, M, PTF v) K ↔ if pm_and (pm_shr l5 ((l9 + 1).tmod l6)) 1 = 1 then pm_Run d 293 128 [vA 234, vI l1, vI l2, vI l3, vI l4, vI l5, vI l6, vI l7, vI l8, vI l9, l10] [] (GF X, M, PTF v) K else pm_Run d 293 109 [vA 234, vI l1, vI l2, vI l3, vI l4, vI l5, vI l6, vI l7, vI l8, vI l9, l10] [] (GF X, M, PTF v) K := by
  refine (px_go (by decide +kernel : pm_fe 293 93 = some (.iload 5, 2)) rfl).trans ?_
  refine (px_go (by decide +kernel : pm_fe 293 95 = some (.iload 9, 2)) rfl).trans ?_
  refine (px_go (by decide +kernel : pm_fe 293 97 = some (.iconst 1, 1)) rfl).trans ?_
  refine (px_go (by decide +kernel : pm_fe 293 98 = some (.iadd, 1)) rfl).trans ?_
  refine (px_go (by decide +kernel : pm_fe 293 99 = some (.iload 6, 2)) rfl).trans ?_
  refine (ry_irem h1 h2 h3 (by decide +kernel)).trans ?_
  refine (px_go (by decide +kernel : pm_fe 293 102 = some (.ishr, 1)) rfl).trans ?_
  refine (px_go (by decide +kernel : pm_fe 293 103 = some (.iconst 1, 1)) rfl).trans ?_
  refine (px_go (by decide +kernel : pm_fe 293 104 = some (.iand, 1)) rfl).trans ?_
  refine (px_go (by decide +kernel : pm_fe 293 105 = some (.iconst 1, 1)) rfl).trans ?_
  refine (ry_ic_eq (off := 22) (tgt := 128) h4 (by decide : (-2147483648 ≤ (1 : Int) ∧ (1 : Int) < 2147483648)) (by decide +kernel)).trans ?_
  exact Iff.rfl
theorem r293_109 {d : Nat} {X : Nat × (Nat → Int)} {v : Nat → Int} {M : PH} {K : PV → PS → Prop} {l1 l2 l3 l4 l5 l6 l7 l8 l9 : Int} {l10 : PV} (h1 : inR ((l9 + l6) - 1)) (h2 : inR l6) (h3 : l6 ≠ 0) (h4 : inR (pm_and (pm_shr l5 (((l9 + l6) - 1).tmod l6)) 1)) : pm_Run d 293 109 [vA 234, vI l1, vI l2, vI l3, vI l4, vI l5, vI l6, vI l7, vI l8, vI l9, l10] [] (GF X, M, PTF v) K ↔ if pm_and (pm_shr l5 (((l9 + l6) - 1).tmod l6)) 1 ≠ 1 then pm_Run d 293 132 [vA 234, vI l1, vI l2, vI l3, vI l4, vI l5, vI l6, vI l7, vI l8, vI l9, l10] [] (GF X, M, PTF v) K else pm_Run d 293 128 [vA 234, vI l1, vI l2, vI l3, vI l4, vI l5, vI l6, vI l7, vI l8, vI l9, l10] [] (GF X, M, PTF v) K := by
  refine (px_go (by decide +kernel : pm_fe 293 109 = some (.iload 5, 2)) rfl).trans ?_
  refine (px_go (by decide +kernel : pm_fe 293 111 = some (.iload 9, 2)) rfl).trans ?_
  refine (px_go (by decide +kernel : pm_fe 293 113 = some (.iload 6, 2)) rfl).trans ?_
  refine (px_go (by decide +kernel : pm_fe 293 115 = some (.iadd, 1)) rfl).trans ?_
  refine (px_go (by decide +kernel : pm_fe 293 116 = some (.iconst 1, 1)) rfl).trans ?_
  refine (px_go (by decide +kernel : pm_fe 293 117 = some (.isub, 1)) rfl).trans ?_
  refine (px_go (by decide +kernel : pm_fe 293 118 = some (.iload 6, 2)) rfl).trans ?_
  refine (ry_irem h1 h2 h3 (by decide +kernel)).trans ?_
  refine (px_go (by decide +kernel : pm_fe 293 121 = some (.ishr, 1)) rfl).trans ?_
  refine (px_go (by decide +kernel : pm_fe 293 122 = some (.iconst 1, 1)) rfl).trans ?_
  refine (px_go (by decide +kernel : pm_fe 293 123 = some (.iand, 1)) rfl).trans ?_
  refine (px_go (by decide +kernel : pm_fe 293 124 = some (.iconst 1, 1)) rfl).trans ?_
  refine (ry_ic_ne (off := 7) (tgt := 132) h4 (by decide : (-2147483648 ≤ (1 : Int) ∧ (1 : Int) < 2147483648)) (by decide +kernel)).trans ?_
  exact Iff.rfl
theorem r293_128 {d : Nat} {X : Nat × (Nat → Int)} {v : Nat → Int} {M : PH} {K : PV → PS → Prop} {l1 l2 l3 l4 l5 l6 l7 l8 l9 : Int} {l10 : PV} : pm_Run d 293 128 [vA 234, vI l1, vI l2, vI l3, vI l4, vI l5, vI l6, vI l7, vI l8, vI l9, l10] [] (GF X, M, PTF v) K ↔ pm_Run d 293 133 [vA 234, vI l1, vI l2, vI l3, vI l4, vI l5, vI l6, vI l7, vI l8, vI l9, l10] [vI 1] (GF X, M, PTF v) K := by
  refine (px_go (by decide +kernel : pm_fe 293 128 = some (.iconst 1, 1)) rfl).trans ?_
  refine (px_goto (off := 4) (tgt := 133) (by decide +kernel)).trans ?_
  exact Iff.rfl
theorem r293_132 {d : Nat} {X : Nat × (Nat → Int)} {v : Nat → Int} {M : PH} {K : PV → PS → Prop} {l1 l2 l3 l4 l5 l6 l7 l8 l9 : Int} {l10 : PV} : pm_Run d 293 132 [vA 234, vI l1, vI l2, vI l3, vI l4, vI l5, vI l6, vI l7, vI l8, vI l9, l10] [] (GF X, M, PTF v) K ↔ pm_Run d 293 133 [vA 234, vI l1, vI l2, vI l3, vI l4, vI l5, vI l6, vI l7, vI l8, vI l9, l10] [vI 0] (GF X, M, PTF v) K := by
  refine (px_go (by decide +kernel : pm_fe 293 132 = some (.iconst 0, 1)) rfl).trans ?_
  exact Iff.rfl
theorem r293_133 {d : Nat} {X : Nat × (Nat → Int)} {v : Nat → Int} {M : PH} {K : PV → PS → Prop} {l1 l2 l3 l4 l5 l6 l7 l8 l9 s0 : Int} {l10 : PV} (h1 : inR s0) : pm_Run d 293 133 [vA 234, vI l1, vI l2, vI l3, vI l4, vI l5, vI l6, vI l7, vI l8, vI l9, l10] [vI s0] (GF X, M, PTF v) K ↔ if s0 = 0 then pm_Run d 293 168 [vA 234, vI l1, vI l2, vI l3, vI l4, vI l5, vI l6, vI l7, vI l8, vI l9, vI s0] [vI l8] (GF X, M, PTF v) K else pm_Run d 293 142 [vA 234, vI l1, vI l2, vI l3, vI l4, vI l5, vI l6, vI l7, vI l8, vI l9, vI s0] [vI l8] (GF X, M, PTF v) K := by
  refine (px_go (by decide +kernel : pm_fe 293 133 = some (.istore 10, 2)) rfl).trans ?_
  refine (px_go (by decide +kernel : pm_fe 293 135 = some (.iload 8, 2)) rfl).trans ?_
  refine (px_go (by decide +kernel : pm_fe 293 137 = some (.iload 10, 2)) rfl).trans ?_
  refine (ry_if_eq (off := 29) (tgt := 168) h1 (by decide +kernel)).trans ?_
  exact Iff.rfl
theorem r293_142 {d : Nat} {X : Nat × (Nat → Int)} {v : Nat → Int} {M : PH} {K : PV → PS → Prop} {l1 l10 l2 l3 l4 l5 l6 l7 l8 l9 s0 : Int} (h1 : 0 ≤ ((24 * (l7 + 1)) + l9)) (h2 : ((24 * (l7 + 1)) + l9) < 1176) (h3 : inR (M 279 ((24 * (l7 + 1)) + l9).toNat)) (h4 : inR l3) : pm_Run d 293 142 [vA 234, vI l1, vI l2, vI l3, vI l4, vI l5, vI l6, vI l7, vI l8, vI l9, vI l10] [vI s0] (GF X, M, PTF v) K ↔ if M 279 ((24 * (l7 + 1)) + l9).toNat < l3 then pm_Run d 293 168 [vA 234, vI l1, vI l2, vI l3, vI l4, vI l5, vI l6, vI l7, vI l8, vI l9, vI l10] [vI s0] (GF X, M, PTF v) K else pm_Run d 293 161 [vA 234, vI l1, vI l2, vI l3, vI l4, vI l5, vI l6, vI l7, vI l8, vI l9, vI l10] [vI s0] (GF X, M, PTF v) K := by
  refine (px_go (by decide +kernel : pm_fe 293 142 = some (.aload_n 0, 1)) rfl).trans ?_
  refine (ry_get2 (idx := 225) (ci := 12) (k := 70) (by decide +kernel : 234 < 283 ∧ SHF 234 = (12, 76)) (ptf_l (a := 234) (k := 70) (n := 279) (by decide +kernel)) (by decide +kernel)).trans ?_
  refine (px_go (by decide +kernel : pm_fe 293 146 = some (.bipush 24, 2)) rfl).trans ?_
  refine (px_go (by decide +kernel : pm_fe 293 148 = some (.iload 7, 2)) rfl).trans ?_
  refine (px_go (by decide +kernel : pm_fe 293 150 = some (.iconst 1, 1)) rfl).trans ?_
  refine (px_go (by decide +kernel : pm_fe 293 151 = some (.iadd, 1)) rfl).trans ?_
  refine (px_go (by decide +kernel : pm_fe 293 152 = some (.imul, 1)) rfl).trans ?_
  refine (px_go (by decide +kernel : pm_fe 293 153 = some (.iload 9, 2)) rfl).trans ?_
  refine (px_go (by decide +kernel : pm_fe 293 155 = some (.iadd, 1)) rfl).trans ?_
  refine (ry_iald (by decide +kernel : 279 < 283 ∧ SHF 279 = (100, 1176)) h1 h2 (by decide +kernel)).trans ?_
  refine (px_go (by decide +kernel : pm_fe 293 157 = some (.iload_n 3, 1)) rfl).trans ?_
  refine (ry_ic_lt (off := 10) (tgt := 168) h3 h4 (by decide +kernel)).trans ?_
  exact Iff.rfl
theorem r293_161 {d : Nat} {X : Nat × (Nat → Int)} {v : Nat → Int} {M : PH} {K : PV → PS → Prop} {l1 l10 l2 l3 l4 l5 l6 l7 l8 l9 s0 : Int} : pm_Run d 293 161 [vA 234, vI l1, vI l2, vI l3, vI l4, vI l5, vI l6, vI l7, vI l8, vI l9, vI l10] [vI s0] (GF X, M, PTF v) K ↔ pm_Run d 293 169 [vA 234, vI l1, vI l2, vI l3, vI l4, vI l5, vI l6, vI l7, vI l8, vI l9, vI l10] [vI (pm_shl 1 l9), vI s0] (GF X, M, PTF v) K := by
  refine (px_go (by decide +kernel : pm_fe 293 161 = some (.iconst 1, 1)) rfl).trans ?_
  refine (px_go (by decide +kernel : pm_fe 293 162 = some (.iload 9, 2)) rfl).trans ?_
  refine (px_go (by decide +kernel : pm_fe 293 164 = some (.ishl, 1)) rfl).trans ?_
  refine (px_goto (off := 4) (tgt := 169) (by decide +kernel)).trans ?_
  exact Iff.rfl
theorem r293_168 {d : Nat} {X : Nat × (Nat → Int)} {v : Nat → Int} {M : PH} {K : PV → PS → Prop} {l1 l10 l2 l3 l4 l5 l6 l7 l8 l9 s0 : Int} : pm_Run d 293 168 [vA 234, vI l1, vI l2, vI l3, vI l4, vI l5, vI l6, vI l7, vI l8, vI l9, vI l10] [vI s0] (GF X, M, PTF v) K ↔ pm_Run d 293 169 [vA 234, vI l1, vI l2, vI l3, vI l4, vI l5, vI l6, vI l7, vI l8, vI l9, vI l10] [vI 0, vI s0] (GF X, M, PTF v) K := by
  refine (px_go (by decide +kernel : pm_fe 293 168 = some (.iconst 0, 1)) rfl).trans ?_
  exact Iff.rfl
theorem r293_169 {d : Nat} {X : Nat × (Nat → Int)} {v : Nat → Int} {M : PH} {K : PV → PS → Prop} {l1 l10 l2 l3 l4 l5 l6 l7 l8 l9 s0 s1 : Int} : pm_Run d 293 169 [vA 234, vI l1, vI l2, vI l3, vI l4, vI l5, vI l6, vI l7, vI l8, vI l9, vI l10] [vI s0, vI s1] (GF X, M, PTF v) K ↔ pm_Run d 293 66 [vA 234, vI l1, vI l2, vI l3, vI l4, vI l5, vI l6, vI l7, vI (pm_or s1 s0), vI (l9 + 1), vI l10] [] (GF X, M, PTF v) K := by
  refine (px_go (by decide +kernel : pm_fe 293 169 = some (.ior, 1)) rfl).trans ?_
  refine (px_go (by decide +kernel : pm_fe 293 170 = some (.istore 8, 2)) rfl).trans ?_
  refine (px_go (by decide +kernel : pm_fe 293 172 = some (.iinc 9 1, 3)) rfl).trans ?_
  refine (px_goto (off := (-109)) (tgt := 66) (by decide +kernel)).trans ?_
  exact Iff.rfl
theorem r293_178 {d : Nat} {X : Nat × (Nat → Int)} {v : Nat → Int} {M : PH} {K : PV → PS → Prop} {l1 l2 l3 l4 l5 l6 l7 l8 l9 : Int} {l10 : PV} : pm_Run d 293 178 [vA 234, vI l1, vI l2, vI l3, vI l4, vI l5, vI l6, vI l7, vI l8, vI l9, l10] [] (GF X, M, PTF v) K ↔ pm_Run d 293 38 [vA 234, vI l1, vI l2, vI l3, vI l4, vI l8, vI l6, vI (l7 + 1), vI l8, vI l9, l10] [] (GF X, M, PTF v) K := by
  refine (px_go (by decide +kernel : pm_fe 293 178 = some (.iload 8, 2)) rfl).trans ?_
  refine (px_go (by decide +kernel : pm_fe 293 180 = some (.istore 5, 2)) rfl).trans ?_
  refine (px_go (by decide +kernel : pm_fe 293 182 = some (.iinc 7 1, 3)) rfl).trans ?_
  refine (px_goto (off := (-147)) (tgt := 38) (by decide +kernel)).trans ?_
  exact Iff.rfl
theorem r293_188 {d : Nat} {X : Nat × (Nat → Int)} {v : Nat → Int} {M : PH} {K : PV → PS → Prop} {l1 l2 l3 l4 l5 l6 l7 : Int} {l8 l9 l10 : PV} : pm_Run d 293 188 [vA 234, vI l1, vI l2, vI l3, vI l4, vI l5, vI l6, vI l7, l8, l9, l10] [] (GF X, M, PTF v) K ↔ K (vI (-1)) (GF X, M, PTF v) := by
  refine (px_go (by decide +kernel : pm_fe 293 188 = some (.iconst (-1), 1)) rfl).trans ?_
  refine (px_ri (by decide +kernel)).trans ?_
  exact Iff.rfl
-- X12_across across(III)I
theorem r294_0 {d : Nat} {X : Nat × (Nat → Int)} {v : Nat → Int} {M : PH} {K : PV → PS → Prop} {l1 l2 l3 : Int} : pm_Run d 294 0 [vA 234, vI l1, vI l2, vI l3] [] (GF X, M, PTF v) K ↔ pm_Call d 229 [vA 234, vI l1] (GF X, M, PTF v) (fun r9 S1 => pm_Run d 294 5 [vA 234, vI l1, vI l2, vI l3] (pm_push r9 []) S1 K) := by
  refine (px_go (by decide +kernel : pm_fe 294 0 = some (.aload_n 0, 1)) rfl).trans ?_
  refine (px_go (by decide +kernel : pm_fe 294 1 = some (.iload_n 1, 1)) rfl).trans ?_
  refine (ry_v1 (idx := 544) (m' := 229) (ci := 12) (by decide +kernel : 234 < 283 ∧ SHF 234 = (12, 76)) (by simp [pm_wl_n, pm_wl_c, pm_w] : pm_wl [] ≤ 8) (by decide +kernel)).trans ?_
  exact Iff.rfl
theorem r294_5 {d : Nat} {X : Nat × (Nat → Int)} {v : Nat → Int} {M : PH} {K : PV → PS → Prop} {l1 l2 l3 s0 : Int} (h1 : inR s0) : pm_Run d 294 5 [vA 234, vI l1, vI l2, vI l3] [vI s0] (GF X, M, PTF v) K ↔ if s0 = 0 then pm_Run d 294 26 [vA 234, vI l1, vI l2, vI l3] [] (GF X, M, PTF v) K else pm_Run d 294 8 [vA 234, vI l1, vI l2, vI l3] [] (GF X, M, PTF v) K := by
  refine (ry_if_eq (off := 21) (tgt := 26) h1 (by decide +kernel)).trans ?_
  exact Iff.rfl
theorem r294_8 {d : Nat} {X : Nat × (Nat → Int)} {v : Nat → Int} {M : PH} {K : PV → PS → Prop} {l1 l2 l3 : Int} : pm_Run d 294 8 [vA 234, vI l1, vI l2, vI l3] [] (GF X, M, PTF v) K ↔ pm_Call d 229 [vA 234, vI l2] (GF X, M, PTF v) (fun r9 S1 => pm_Run d 294 13 [vA 234, vI l1, vI l2, vI l3] (pm_push r9 []) S1 K) := by
  refine (px_go (by decide +kernel : pm_fe 294 8 = some (.aload_n 0, 1)) rfl).trans ?_
  refine (px_go (by decide +kernel : pm_fe 294 9 = some (.iload_n 2, 1)) rfl).trans ?_
  refine (ry_v1 (idx := 544) (m' := 229) (ci := 12) (by decide +kernel : 234 < 283 ∧ SHF 234 = (12, 76)) (by simp [pm_wl_n, pm_wl_c, pm_w] : pm_wl [] ≤ 8) (by decide +kernel)).trans ?_
  exact Iff.rfl
theorem r294_13 {d : Nat} {X : Nat × (Nat → Int)} {v : Nat → Int} {M : PH} {K : PV → PS → Prop} {l1 l2 l3 s0 : Int} (h1 : inR s0) : pm_Run d 294 13 [vA 234, vI l1, vI l2, vI l3] [vI s0] (GF X, M, PTF v) K ↔ if s0 = 0 then pm_Run d 294 26 [vA 234, vI l1, vI l2, vI l3] [] (GF X, M, PTF v) K else pm_Run d 294 16 [vA 234, vI l1, vI l2, vI l3] [] (GF X, M, PTF v) K := by
  refine (ry_if_eq (off := 13) (tgt := 26) h1 (by decide +kernel)).trans ?_
  exact Iff.rfl
theorem r294_16 {d : Nat} {X : Nat × (Nat → Int)} {v : Nat → Int} {M : PH} {K : PV → PS → Prop} {l1 l2 l3 : Int} : pm_Run d 294 16 [vA 234, vI l1, vI l2, vI l3] [] (GF X, M, PTF v) K ↔ pm_Call d 179 [vI l3, vI 0, vI 99] (GF X, M, PTF v) (fun r9 S1 => pm_Run d 294 23 [vA 234, vI l1, vI l2, vI l3] (pm_push r9 []) S1 K) := by
  refine (px_go (by decide +kernel : pm_fe 294 16 = some (.iload_n 3, 1)) rfl).trans ?_
  refine (px_go (by decide +kernel : pm_fe 294 17 = some (.iconst 0, 1)) rfl).trans ?_
  refine (px_go (by decide +kernel : pm_fe 294 18 = some (.bipush 99, 2)) rfl).trans ?_
  refine (px_s3 (idx := 337) (m' := 179) (nest := 0) (by decide +kernel)).trans ((and_iff_right (by simp [pm_wl_n, pm_wl_c, pm_w] : pm_wl [] ≤ 8)).trans ?_)
  exact Iff.rfl
theorem r294_23 {d : Nat} {X : Nat × (Nat → Int)} {v : Nat → Int} {M : PH} {K : PV → PS → Prop} {l1 l2 l3 s0 : Int} (h1 : inR s0) : pm_Run d 294 23 [vA 234, vI l1, vI l2, vI l3] [vI s0] (GF X, M, PTF v) K ↔ if s0 ≠ 0 then pm_Run d 294 28 [vA 234, vI l1, vI l2, vI l3] [] (GF X, M, PTF v) K else pm_Run d 294 26 [vA 234, vI l1, vI l2, vI l3] [] (GF X, M, PTF v) K := by
  refine (ry_if_ne (off := 5) (tgt := 28) h1 (by decide +kernel)).trans ?_
  exact Iff.rfl
theorem r294_26 {d : Nat} {X : Nat × (Nat → Int)} {v : Nat → Int} {M : PH} {K : PV → PS → Prop} {l1 l2 l3 : Int} : pm_Run d 294 26 [vA 234, vI l1, vI l2, vI l3] [] (GF X, M, PTF v) K ↔ K (vI (-1)) (GF X, M, PTF v) := by
  refine (px_go (by decide +kernel : pm_fe 294 26 = some (.iconst (-1), 1)) rfl).trans ?_
  refine (px_ri (by decide +kernel)).trans ?_
  exact Iff.rfl
theorem r294_28 {d : Nat} {X : Nat × (Nat → Int)} {v : Nat → Int} {M : PH} {K : PV → PS → Prop} {l1 l2 l3 : Int} : pm_Run d 294 28 [vA 234, vI l1, vI l2, vI l3] [] (GF X, M, PTF v) K ↔ pm_Call d 292 [vA 234] (GF X, M, PTF v) (fun r9 S1 => pm_Run d 294 32 [vA 234, vI l1, vI l2, vI l3] (pm_push r9 []) S1 K) := by
  refine (px_go (by decide +kernel : pm_fe 294 28 = some (.aload_n 0, 1)) rfl).trans ?_
  refine (ry_v0 (idx := 605) (m' := 292) (ci := 12) (by decide +kernel : 234 < 283 ∧ SHF 234 = (12, 76)) (by simp [pm_wl_n, pm_wl_c, pm_w] : pm_wl [] ≤ 8) (by decide +kernel)).trans ?_
  exact Iff.rfl
theorem r294_32 {d : Nat} {X : Nat × (Nat → Int)} {v : Nat → Int} {M : PH} {K : PV → PS → Prop} {l1 l2 l3 : Int} : pm_Run d 294 32 [vA 234, vI l1, vI l2, vI l3] [] (GF X, M, PTF v) K ↔ pm_Call d 230 [vA 234, vI l1] (GF X, M, PTF v) (fun r9 S1 => pm_Run d 294 38 [vA 234, vI l1, vI l2, vI l3] (pm_push r9 [vA 234]) S1 K) := by
  refine (px_go (by decide +kernel : pm_fe 294 32 = some (.aload_n 0, 1)) rfl).trans ?_
  refine (px_go (by decide +kernel : pm_fe 294 33 = some (.aload_n 0, 1)) rfl).trans ?_
  refine (px_go (by decide +kernel : pm_fe 294 34 = some (.iload_n 1, 1)) rfl).trans ?_
  refine (ry_v1 (idx := 503) (m' := 230) (ci := 12) (by decide +kernel : 234 < 283 ∧ SHF 234 = (12, 76)) (by simp [pm_wl_n, pm_wl_c, pm_w] : pm_wl [vA 234] ≤ 8) (by decide +kernel)).trans ?_
  exact Iff.rfl
theorem r294_38 {d : Nat} {X : Nat × (Nat → Int)} {v : Nat → Int} {M : PH} {K : PV → PS → Prop} {l1 l2 l3 s0 : Int} : pm_Run d 294 38 [vA 234, vI l1, vI l2, vI l3] [vI s0, vA 234] (GF X, M, PTF v) K ↔ pm_Call d 230 [vA 234, vI l2] (GF X, M, PTF v) (fun r9 S1 => pm_Run d 294 43 [vA 234, vI l1, vI l2, vI l3] (pm_push r9 [vI s0, vA 234]) S1 K) := by
  refine (px_go (by decide +kernel : pm_fe 294 38 = some (.aload_n 0, 1)) rfl).trans ?_
  refine (px_go (by decide +kernel : pm_fe 294 39 = some (.iload_n 2, 1)) rfl).trans ?_
  refine (ry_v1 (idx := 503) (m' := 230) (ci := 12) (by decide +kernel : 234 < 283 ∧ SHF 234 = (12, 76)) (by simp [pm_wl_n, pm_wl_c, pm_w] : pm_wl [vI s0, vA 234] ≤ 8) (by decide +kernel)).trans ?_
  exact Iff.rfl
theorem r294_43 {d : Nat} {X : Nat × (Nat → Int)} {v : Nat → Int} {M : PH} {K : PV → PS → Prop} {l1 l2 l3 s0 s1 : Int} : pm_Run d 294 43 [vA 234, vI l1, vI l2, vI l3] [vI s0, vI s1, vA 234] (GF X, M, PTF v) K ↔ pm_Call d 293 [vA 234, vI s1, vI s0, vI l3, vI 0] (GF X, M, PTF v) (fun r9 S1 => pm_Run d 294 48 [vA 234, vI l1, vI l2, vI l3] (pm_push r9 []) S1 K) := by
  refine (px_go (by decide +kernel : pm_fe 294 43 = some (.iload_n 3, 1)) rfl).trans ?_
  refine (px_go (by decide +kernel : pm_fe 294 44 = some (.iconst 0, 1)) rfl).trans ?_
  refine (ry_v4 (idx := 608) (m' := 293) (ci := 12) (by decide +kernel : 234 < 283 ∧ SHF 234 = (12, 76)) (by simp [pm_wl_n, pm_wl_c, pm_w] : pm_wl [] ≤ 8) (by decide +kernel)).trans ?_
  exact Iff.rfl
theorem r294_48 {d : Nat} {X : Nat × (Nat → Int)} {v : Nat → Int} {M : PH} {K : PV → PS → Prop} {l1 l2 l3 s0 : Int} : pm_Run d 294 48 [vA 234, vI l1, vI l2, vI l3] [vI s0] (GF X, M, PTF v) K ↔ K (vI s0) (GF X, M, PTF v) := by
  refine (px_ri (by decide +kernel)).trans ?_
  exact Iff.rfl
-- X12_latest latest(III)I
theorem r295_0 {d : Nat} {X : Nat × (Nat → Int)} {v : Nat → Int} {M : PH} {K : PV → PS → Prop} {l1 l2 l3 : Int} : pm_Run d 295 0 [vA 234, vI l1, vI l2, vI l3, PU] [] (GF X, M, PTF v) K ↔ pm_Call d 229 [vA 234, vI l1] (GF X, M, PTF v) (fun r9 S1 => pm_Run d 295 5 [vA 234, vI l1, vI l2, vI l3, PU] (pm_push r9 []) S1 K) := by
  refine (px_go (by decide +kernel : pm_fe 295 0 = some (.aload_n 0, 1)) rfl).trans ?_
  refine (px_go (by decide +kernel : pm_fe 295 1 = some (.iload_n 1, 1)) rfl).trans ?_
  refine (ry_v1 (idx := 544) (m' := 229) (ci := 12) (by decide +kernel : 234 < 283 ∧ SHF 234 = (12, 76)) (by simp [pm_wl_n, pm_wl_c, pm_w] : pm_wl [] ≤ 8) (by decide +kernel)).trans ?_
  exact Iff.rfl
theorem r295_5 {d : Nat} {X : Nat × (Nat → Int)} {v : Nat → Int} {M : PH} {K : PV → PS → Prop} {l1 l2 l3 s0 : Int} (h1 : inR s0) : pm_Run d 295 5 [vA 234, vI l1, vI l2, vI l3, PU] [vI s0] (GF X, M, PTF v) K ↔ if s0 = 0 then pm_Run d 295 26 [vA 234, vI l1, vI l2, vI l3, PU] [] (GF X, M, PTF v) K else pm_Run d 295 8 [vA 234, vI l1, vI l2, vI l3, PU] [] (GF X, M, PTF v) K := by
  refine (ry_if_eq (off := 21) (tgt := 26) h1 (by decide +kernel)).trans ?_
  exact Iff.rfl
theorem r295_8 {d : Nat} {X : Nat × (Nat → Int)} {v : Nat → Int} {M : PH} {K : PV → PS → Prop} {l1 l2 l3 : Int} : pm_Run d 295 8 [vA 234, vI l1, vI l2, vI l3, PU] [] (GF X, M, PTF v) K ↔ pm_Call d 229 [vA 234, vI l2] (GF X, M, PTF v) (fun r9 S1 => pm_Run d 295 13 [vA 234, vI l1, vI l2, vI l3, PU] (pm_push r9 []) S1 K) := by
  refine (px_go (by decide +kernel : pm_fe 295 8 = some (.aload_n 0, 1)) rfl).trans ?_
  refine (px_go (by decide +kernel : pm_fe 295 9 = some (.iload_n 2, 1)) rfl).trans ?_
  refine (ry_v1 (idx := 544) (m' := 229) (ci := 12) (by decide +kernel : 234 < 283 ∧ SHF 234 = (12, 76)) (by simp [pm_wl_n, pm_wl_c, pm_w] : pm_wl [] ≤ 8) (by decide +kernel)).trans ?_
  exact Iff.rfl
theorem r295_13 {d : Nat} {X : Nat × (Nat → Int)} {v : Nat → Int} {M : PH} {K : PV → PS → Prop} {l1 l2 l3 s0 : Int} (h1 : inR s0) : pm_Run d 295 13 [vA 234, vI l1, vI l2, vI l3, PU] [vI s0] (GF X, M, PTF v) K ↔ if s0 = 0 then pm_Run d 295 26 [vA 234, vI l1, vI l2, vI l3, PU] [] (GF X, M, PTF v) K else pm_Run d 295 16 [vA 234, vI l1, vI l2, vI l3, PU] [] (GF X, M, PTF v) K := by
  refine (ry_if_eq (off := 13) (tgt := 26) h1 (by decide +kernel)).trans ?_
  exact Iff.rfl
theorem r295_16 {d : Nat} {X : Nat × (Nat → Int)} {v : Nat → Int} {M : PH} {K : PV → PS → Prop} {l1 l2 l3 : Int} : pm_Run d 295 16 [vA 234, vI l1, vI l2, vI l3, PU] [] (GF X, M, PTF v) K ↔ pm_Call d 179 [vI l3, vI 0, vI 99] (GF X, M, PTF v) (fun r9 S1 => pm_Run d 295 23 [vA 234, vI l1, vI l2, vI l3, PU] (pm_push r9 []) S1 K) := by
  refine (px_go (by decide +kernel : pm_fe 295 16 = some (.iload_n 3, 1)) rfl).trans ?_
  refine (px_go (by decide +kernel : pm_fe 295 17 = some (.iconst 0, 1)) rfl).trans ?_
  refine (px_go (by decide +kernel : pm_fe 295 18 = some (.bipush 99, 2)) rfl).trans ?_
  refine (px_s3 (idx := 337) (m' := 179) (nest := 0) (by decide +kernel)).trans ((and_iff_right (by simp [pm_wl_n, pm_wl_c, pm_w] : pm_wl [] ≤ 8)).trans ?_)
  exact Iff.rfl
theorem r295_23 {d : Nat} {X : Nat × (Nat → Int)} {v : Nat → Int} {M : PH} {K : PV → PS → Prop} {l1 l2 l3 s0 : Int} (h1 : inR s0) : pm_Run d 295 23 [vA 234, vI l1, vI l2, vI l3, PU] [vI s0] (GF X, M, PTF v) K ↔ if s0 ≠ 0 then pm_Run d 295 28 [vA 234, vI l1, vI l2, vI l3, PU] [] (GF X, M, PTF v) K else pm_Run d 295 26 [vA 234, vI l1, vI l2, vI l3, PU] [] (GF X, M, PTF v) K := by
  refine (ry_if_ne (off := 5) (tgt := 28) h1 (by decide +kernel)).trans ?_
  exact Iff.rfl
theorem r295_26 {d : Nat} {X : Nat × (Nat → Int)} {v : Nat → Int} {M : PH} {K : PV → PS → Prop} {l1 l2 l3 : Int} : pm_Run d 295 26 [vA 234, vI l1, vI l2, vI l3, PU] [] (GF X, M, PTF v) K ↔ K (vI (-1)) (GF X, M, PTF v) := by
  refine (px_go (by decide +kernel : pm_fe 295 26 = some (.iconst (-1), 1)) rfl).trans ?_
  refine (px_ri (by decide +kernel)).trans ?_
  exact Iff.rfl
theorem r295_28 {d : Nat} {X : Nat × (Nat → Int)} {v : Nat → Int} {M : PH} {K : PV → PS → Prop} {l1 l2 l3 : Int} : pm_Run d 295 28 [vA 234, vI l1, vI l2, vI l3, PU] [] (GF X, M, PTF v) K ↔ pm_Call d 292 [vA 234] (GF X, M, PTF v) (fun r9 S1 => pm_Run d 295 32 [vA 234, vI l1, vI l2, vI l3, PU] (pm_push r9 []) S1 K) := by
  refine (px_go (by decide +kernel : pm_fe 295 28 = some (.aload_n 0, 1)) rfl).trans ?_
  refine (ry_v0 (idx := 605) (m' := 292) (ci := 12) (by decide +kernel : 234 < 283 ∧ SHF 234 = (12, 76)) (by simp [pm_wl_n, pm_wl_c, pm_w] : pm_wl [] ≤ 8) (by decide +kernel)).trans ?_
  exact Iff.rfl
theorem r295_32 {d : Nat} {X : Nat × (Nat → Int)} {v : Nat → Int} {M : PH} {K : PV → PS → Prop} {l1 l2 l3 : Int} : pm_Run d 295 32 [vA 234, vI l1, vI l2, vI l3, PU] [] (GF X, M, PTF v) K ↔ pm_Call d 258 [vA 234] (GF X, M, PTF v) (fun r9 S1 => pm_Run d 295 36 [vA 234, vI l1, vI l2, vI l3, PU] (pm_push r9 []) S1 K) := by
  refine (px_go (by decide +kernel : pm_fe 295 32 = some (.aload_n 0, 1)) rfl).trans ?_
  refine (ry_v0 (idx := 526) (m' := 258) (ci := 12) (by decide +kernel : 234 < 283 ∧ SHF 234 = (12, 76)) (by simp [pm_wl_n, pm_wl_c, pm_w] : pm_wl [] ≤ 8) (by decide +kernel)).trans ?_
  exact Iff.rfl
theorem r295_36 {d : Nat} {X : Nat × (Nat → Int)} {v : Nat → Int} {M : PH} {K : PV → PS → Prop} {l1 l2 l3 s0 : Int} : pm_Run d 295 36 [vA 234, vI l1, vI l2, vI l3, PU] [vI s0] (GF X, M, PTF v) K ↔ pm_Run d 295 38 [vA 234, vI l1, vI l2, vI l3, vI s0] [] (GF X, M, PTF v) K := by
  refine (px_go (by decide +kernel : pm_fe 295 36 = some (.istore 4, 2)) rfl).trans ?_
  exact Iff.rfl
theorem r295_38 {d : Nat} {X : Nat × (Nat → Int)} {v : Nat → Int} {M : PH} {K : PV → PS → Prop} {l1 l2 l3 l4 : Int} (h1 : inR l4) : pm_Run d 295 38 [vA 234, vI l1, vI l2, vI l3, vI l4] [] (GF X, M, PTF v) K ↔ if l4 < 0 then pm_Run d 295 73 [vA 234, vI l1, vI l2, vI l3, vI l4] [] (GF X, M, PTF v) K else pm_Run d 295 43 [vA 234, vI l1, vI l2, vI l3, vI l4] [] (GF X, M, PTF v) K := by
  refine (px_go (by decide +kernel : pm_fe 295 38 = some (.iload 4, 2)) rfl).trans ?_
  refine (ry_if_lt (off := 33) (tgt := 73) h1 (by decide +kernel)).trans ?_
  exact Iff.rfl
theorem r295_43 {d : Nat} {X : Nat × (Nat → Int)} {v : Nat → Int} {M : PH} {K : PV → PS → Prop} {l1 l2 l3 l4 : Int} : pm_Run d 295 43 [vA 234, vI l1, vI l2, vI l3, vI l4] [] (GF X, M, PTF v) K ↔ pm_Call d 230 [vA 234, vI l1] (GF X, M, PTF v) (fun r9 S1 => pm_Run d 295 49 [vA 234, vI l1, vI l2, vI l3, vI l4] (pm_push r9 [vA 234]) S1 K) := by
  refine (px_go (by decide +kernel : pm_fe 295 43 = some (.aload_n 0, 1)) rfl).trans ?_
  refine (px_go (by decide +kernel : pm_fe 295 44 = some (.aload_n 0, 1)) rfl).trans ?_
  refine (px_go (by decide +kernel : pm_fe 295 45 = some (.iload_n 1, 1)) rfl).trans ?_
  refine (ry_v1 (idx := 503) (m' := 230) (ci := 12) (by decide +kernel : 234 < 283 ∧ SHF 234 = (12, 76)) (by simp [pm_wl_n, pm_wl_c, pm_w] : pm_wl [vA 234] ≤ 8) (by decide +kernel)).trans ?_
  exact Iff.rfl
theorem r295_49 {d : Nat} {X : Nat × (Nat → Int)} {v : Nat → Int} {M : PH} {K : PV → PS → Prop} {l1 l2 l3 l4 s0 : Int} : pm_Run d 295 49 [vA 234, vI l1, vI l2, vI l3, vI l4] [vI s0, vA 234] (GF X, M, PTF v) K ↔ pm_Call d 230 [vA 234, vI l2] (GF X, M, PTF v) (fun r9 S1 => pm_Run d 295 54 [vA 234, vI l1, vI l2, vI l3, vI l4] (pm_push r9 [vI s0, vA 234]) S1 K) := by
  refine (px_go (by decide +kernel : pm_fe 295 49 = some (.aload_n 0, 1)) rfl).trans ?_
  refine (px_go (by decide +kernel : pm_fe 295 50 = some (.iload_n 2, 1)) rfl).trans ?_
  refine (ry_v1 (idx := 503) (m' := 230) (ci := 12) (by decide +kernel : 234 < 283 ∧ SHF 234 = (12, 76)) (by simp [pm_wl_n, pm_wl_c, pm_w] : pm_wl [vI s0, vA 234] ≤ 8) (by decide +kernel)).trans ?_
  exact Iff.rfl
theorem r295_54 {d : Nat} {X : Nat × (Nat → Int)} {v : Nat → Int} {M : PH} {K : PV → PS → Prop} {l1 l2 l3 l4 s0 s1 : Int} : pm_Run d 295 54 [vA 234, vI l1, vI l2, vI l3, vI l4] [vI s0, vI s1, vA 234] (GF X, M, PTF v) K ↔ pm_Call d 293 [vA 234, vI s1, vI s0, vI l3, vI l4] (GF X, M, PTF v) (fun r9 S1 => pm_Run d 295 60 [vA 234, vI l1, vI l2, vI l3, vI l4] (pm_push r9 []) S1 K) := by
  refine (px_go (by decide +kernel : pm_fe 295 54 = some (.iload_n 3, 1)) rfl).trans ?_
  refine (px_go (by decide +kernel : pm_fe 295 55 = some (.iload 4, 2)) rfl).trans ?_
  refine (ry_v4 (idx := 608) (m' := 293) (ci := 12) (by decide +kernel : 234 < 283 ∧ SHF 234 = (12, 76)) (by simp [pm_wl_n, pm_wl_c, pm_w] : pm_wl [] ≤ 8) (by decide +kernel)).trans ?_
  exact Iff.rfl
theorem r295_60 {d : Nat} {X : Nat × (Nat → Int)} {v : Nat → Int} {M : PH} {K : PV → PS → Prop} {l1 l2 l3 l4 s0 : Int} (h1 : inR s0) : pm_Run d 295 60 [vA 234, vI l1, vI l2, vI l3, vI l4] [vI s0] (GF X, M, PTF v) K ↔ if s0 = (-1) then pm_Run d 295 67 [vA 234, vI l1, vI l2, vI l3, vI l4] [] (GF X, M, PTF v) K else pm_Run d 295 64 [vA 234, vI l1, vI l2, vI l3, vI l4] [] (GF X, M, PTF v) K := by
  refine (px_go (by decide +kernel : pm_fe 295 60 = some (.iconst (-1), 1)) rfl).trans ?_
  refine (ry_ic_eq (off := 6) (tgt := 67) h1 (by decide : (-2147483648 ≤ ((-1) : Int) ∧ ((-1) : Int) < 2147483648)) (by decide +kernel)).trans ?_
  exact Iff.rfl
theorem r295_64 {d : Nat} {X : Nat × (Nat → Int)} {v : Nat → Int} {M : PH} {K : PV → PS → Prop} {l1 l2 l3 l4 : Int} : pm_Run d 295 64 [vA 234, vI l1, vI l2, vI l3, vI l4] [] (GF X, M, PTF v) K ↔ K (vI l4) (GF X, M, PTF v) := by
  refine (px_go (by decide +kernel : pm_fe 295 64 = some (.iload 4, 2)) rfl).trans ?_
  refine (px_ri (by decide +kernel)).trans ?_
  exact Iff.rfl
theorem r295_67 {d : Nat} {X : Nat × (Nat → Int)} {v : Nat → Int} {M : PH} {K : PV → PS → Prop} {l1 l2 l3 l4 : Int} : pm_Run d 295 67 [vA 234, vI l1, vI l2, vI l3, vI l4] [] (GF X, M, PTF v) K ↔ pm_Run d 295 38 [vA 234, vI l1, vI l2, vI l3, vI (l4 + (-1))] [] (GF X, M, PTF v) K := by
  refine (px_go (by decide +kernel : pm_fe 295 67 = some (.iinc 4 (-1), 3)) rfl).trans ?_
  refine (px_goto (off := (-32)) (tgt := 38) (by decide +kernel)).trans ?_
  exact Iff.rfl
theorem r295_73 {d : Nat} {X : Nat × (Nat → Int)} {v : Nat → Int} {M : PH} {K : PV → PS → Prop} {l1 l2 l3 l4 : Int} : pm_Run d 295 73 [vA 234, vI l1, vI l2, vI l3, vI l4] [] (GF X, M, PTF v) K ↔ K (vI (-1)) (GF X, M, PTF v) := by
  refine (px_go (by decide +kernel : pm_fe 295 73 = some (.iconst (-1), 1)) rfl).trans ?_
  refine (px_ri (by decide +kernel)).trans ?_
  exact Iff.rfl
