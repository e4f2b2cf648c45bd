-- X12_undo undo()Z
theorem r236_0 {d : Nat} {X : Nat × (Nat → Int)} {v : Nat → Int} {M : PH} {K : PV → PS → Prop} (h1 : inR (M 234 61)) : pm_Run d 236 0 [vA 234] [] (GF X, M, PTF v) K ↔ if M 234 61 ≠ 0 then pm_Run d 236 21 [vA 234] [] (GF X, M, PTF v) K else pm_Run d 236 7 [vA 234] [] (GF X, M, PTF v) K := by
  refine (px_go (by decide +kernel : pm_fe 236 0 = some (.aload_n 0, 1)) rfl).trans ?_
  refine (ry_get0 (idx := 198) (ci := 12) (k := 61) (by decide +kernel : 234 < 283 ∧ SHF 234 = (12, 76)) (by decide +kernel)).trans ?_
  refine (ry_if_ne (off := 17) (tgt := 21) h1 (by decide +kernel)).trans ?_
  exact Iff.rfl
theorem r236_7 {d : Nat} {X : Nat × (Nat → Int)} {v : Nat → Int} {M : PH} {K : PV → PS → Prop} : pm_Run d 236 7 [vA 234] [] (GF X, M, PTF v) K ↔ pm_Call d 224 [vA 234, vI 4] (GF X, M, PTF v) (fun r9 S1 => pm_Run d 236 12 [vA 234] (pm_push r9 []) S1 K) := by
  refine (px_go (by decide +kernel : pm_fe 236 7 = some (.aload_n 0, 1)) rfl).trans ?_
  refine (px_go (by decide +kernel : pm_fe 236 8 = some (.iconst 4, 1)) rfl).trans ?_
  refine (ry_v1 (idx := 243) (m' := 224) (ci := 12) (by decide +kernel : 234 < 283 ∧ SHF 234 = (12, 76)) (by simp [pm_wl_n, pm_wl_c, pm_w] : pm_wl [] ≤ 8) (by decide +kernel)).trans ?_
  exact Iff.rfl
theorem r236_12 {d : Nat} {X : Nat × (Nat → Int)} {v : Nat → Int} {M : PH} {K : PV → PS → Prop} {s0 : Int} (h1 : inR s0) : pm_Run d 236 12 [vA 234] [vI s0] (GF X, M, PTF v) K ↔ if s0 < 0 then pm_Run d 236 19 [vA 234] [] (GF X, M, PTF v) K else pm_Run d 236 15 [vA 234] [] (GF X, M, PTF v) K := by
  refine (ry_if_lt (off := 7) (tgt := 19) h1 (by decide +kernel)).trans ?_
  exact Iff.rfl
theorem r236_15 {d : Nat} {X : Nat × (Nat → Int)} {v : Nat → Int} {M : PH} {K : PV → PS → Prop} : pm_Run d 236 15 [vA 234] [] (GF X, M, PTF v) K ↔ pm_Run d 236 20 [vA 234] [vI 1] (GF X, M, PTF v) K := by
  refine (px_go (by decide +kernel : pm_fe 236 15 = some (.iconst 1, 1)) rfl).trans ?_
  refine (px_goto (off := 4) (tgt := 20) (by decide +kernel)).trans ?_
  exact Iff.rfl
theorem r236_19 {d : Nat} {X : Nat × (Nat → Int)} {v : Nat → Int} {M : PH} {K : PV → PS → Prop} : pm_Run d 236 19 [vA 234] [] (GF X, M, PTF v) K ↔ pm_Run d 236 20 [vA 234] [vI 0] (GF X, M, PTF v) K := by
  refine (px_go (by decide +kernel : pm_fe 236 19 = some (.iconst 0, 1)) rfl).trans ?_
  exact Iff.rfl
theorem r236_20 {d : Nat} {X : Nat × (Nat → Int)} {v : Nat → Int} {M : PH} {K : PV → PS → Prop} {s0 : Int} (h1 : s0 = 0 ∨ s0 = 1) : pm_Run d 236 20 [vA 234] [vI s0] (GF X, M, PTF v) K ↔ K (vI s0) (GF X, M, PTF v) := by
  refine (px_rz (by decide +kernel)).trans ((and_iff_right h1).trans ?_)
  exact Iff.rfl
theorem r236_21 {d : Nat} {X : Nat × (Nat → Int)} {v : Nat → Int} {M : PH} {K : PV → PS → Prop} : pm_Run d 236 21 [vA 234] [] (GF X, M, PTF v) K ↔ pm_Run d 236 31 [vA 234] [] (GF X, pm_sa M 234 (pm_up (M 234) 61 ((M 234 61) - 1)), PTF v) K := by
  refine (px_go (by decide +kernel : pm_fe 236 21 = some (.aload_n 0, 1)) rfl).trans ?_
  refine (px_go (by decide +kernel : pm_fe 236 22 = some (.dup, 1)) rfl).trans ?_
  refine (ry_get0 (idx := 198) (ci := 12) (k := 61) (by decide +kernel : 234 < 283 ∧ SHF 234 = (12, 76)) (by decide +kernel)).trans ?_
  refine (px_go (by decide +kernel : pm_fe 236 26 = some (.iconst 1, 1)) rfl).trans ?_
  refine (px_go (by decide +kernel : pm_fe 236 27 = some (.isub, 1)) rfl).trans ?_
  refine (ry_put0 (idx := 198) (ci := 12) (k := 61) (by decide +kernel : 234 < 283 ∧ SHF 234 = (12, 76)) (by decide +kernel)).trans ?_
  exact Iff.rfl
theorem r236_31 {d : Nat} {X : Nat × (Nat → Int)} {v : Nat → Int} {M : PH} {K : PV → PS → Prop} : pm_Run d 236 31 [vA 234] [] (GF X, M, PTF v) K ↔ pm_Call d 234 [vA 234, vI (M 234 61)] (GF X, M, PTF v) (fun r9 S1 => pm_Run d 236 41 [vA 234] (pm_push r9 [vI 0, vA 234]) S1 K) := by
  refine (px_go (by decide +kernel : pm_fe 236 31 = some (.aload_n 0, 1)) rfl).trans ?_
  refine (px_go (by decide +kernel : pm_fe 236 32 = some (.iconst 0, 1)) rfl).trans ?_
  refine (px_go (by decide +kernel : pm_fe 236 33 = some (.aload_n 0, 1)) rfl).trans ?_
  refine (px_go (by decide +kernel : pm_fe 236 34 = some (.aload_n 0, 1)) rfl).trans ?_
  refine (ry_get0 (idx := 198) (ci := 12) (k := 61) (by decide +kernel : 234 < 283 ∧ SHF 234 = (12, 76)) (by decide +kernel)).trans ?_
  refine (ry_v1 (idx := 442) (m' := 234) (ci := 12) (by decide +kernel : 234 < 283 ∧ SHF 234 = (12, 76)) (by simp [pm_wl_n, pm_wl_c, pm_w] : pm_wl [vI 0, vA 234] ≤ 8) (by decide +kernel)).trans ?_
  exact Iff.rfl
theorem r236_41 {d : Nat} {X : Nat × (Nat → Int)} {v : Nat → Int} {M : PH} {K : PV → PS → Prop} {s0 s1 : Int} : pm_Run d 236 41 [vA 234] [vI s0, vI s1, vA 234] (GF X, M, PTF v) K ↔ pm_Call d 232 [vA 234, vI s1, vI s0] (GF X, M, PTF v) (fun r9 S1 => pm_Run d 236 44 [vA 234] (pm_push r9 []) S1 K) := by
  refine (ry_v2 (idx := 445) (m' := 232) (ci := 12) (by decide +kernel : 234 < 283 ∧ SHF 234 = (12, 76)) (by simp [pm_wl_n, pm_wl_c, pm_w] : pm_wl [] ≤ 8) (by decide +kernel)).trans ?_
  exact Iff.rfl
theorem r236_44 {d : Nat} {X : Nat × (Nat → Int)} {v : Nat → Int} {M : PH} {K : PV → PS → Prop} : pm_Run d 236 44 [vA 234] [] (GF X, M, PTF v) K ↔ K (vI 1) (GF X, M, PTF v) := by
  refine (px_go (by decide +kernel : pm_fe 236 44 = some (.iconst 1, 1)) rfl).trans ?_
  refine (px_rz (by decide +kernel)).trans ((and_iff_right (by decide : (1 : Int) = (0 : Int) ∨ (1 : Int) = (1 : Int))).trans ?_)
  exact Iff.rfl
-- X12_bidTo bidTo(II)I
theorem r237_0 {d : Nat} {X : Nat × (Nat → Int)} {v : Nat → Int} {M : PH} {K : PV → PS → Prop} {l1 l2 : Int} : pm_Run d 237 0 [vA 234, vI l1, vI l2, PU, PU] [] (GF X, M, PTF v) K ↔ pm_Run d 237 5 [vA 234, vI l1, vI l2, vI 0, vI 0] [] (GF X, M, PTF v) K := by
  refine (px_go (by decide +kernel : pm_fe 237 0 = some (.iconst 0, 1)) rfl).trans ?_
  refine (px_go (by decide +kernel : pm_fe 237 1 = some (.istore_n 3, 1)) rfl).trans ?_
  refine (px_go (by decide +kernel : pm_fe 237 2 = some (.iconst 0, 1)) rfl).trans ?_
  refine (px_go (by decide +kernel : pm_fe 237 3 = some (.istore 4, 2)) rfl).trans ?_
  exact Iff.rfl
theorem r237_5 {d : Nat} {X : Nat × (Nat → Int)} {v : Nat → Int} {M : PH} {K : PV → PS → Prop} {l1 l2 l3 l4 : Int} (h1 : 0 ≤ (M 234 13)) (h2 : (M 234 13) < 2) (h3 : inR l4) (h4 : inR (M 241 (M 234 13).toNat)) : pm_Run d 237 5 [vA 234, vI l1, vI l2, vI l3, vI l4] [] (GF X, M, PTF v) K ↔ if M 241 (M 234 13).toNat ≤ l4 then pm_Run d 237 44 [vA 234, vI l1, vI l2, vI l3, vI l4] [] (GF X, M, PTF v) K else pm_Run d 237 19 [vA 234, vI l1, vI l2, vI l3, vI l4] [] (GF X, M, PTF v) K := by
  refine (px_go (by decide +kernel : pm_fe 237 5 = some (.iload 4, 2)) rfl).trans ?_
  refine (px_go (by decide +kernel : pm_fe 237 7 = some (.aload_n 0, 1)) rfl).trans ?_
  refine (ry_get2 (idx := 69) (ci := 12) (k := 19) (by decide +kernel : 234 < 283 ∧ SHF 234 = (12, 76)) (ptf_l (a := 234) (k := 19) (n := 241) (by decide +kernel)) (by decide +kernel)).trans ?_
  refine (px_go (by decide +kernel : pm_fe 237 11 = some (.aload_n 0, 1)) rfl).trans ?_
  refine (ry_get0 (idx := 51) (ci := 12) (k := 13) (by decide +kernel : 234 < 283 ∧ SHF 234 = (12, 76)) (by decide +kernel)).trans ?_
  refine (ry_iald (by decide +kernel : 241 < 283 ∧ SHF 241 = (100, 2)) h1 h2 (by decide +kernel)).trans ?_
  refine (ry_ic_ge (off := 28) (tgt := 44) h3 h4 (by decide +kernel)).trans ?_
  exact Iff.rfl
theorem r237_19 {d : Nat} {X : Nat × (Nat → Int)} {v : Nat → Int} {M : PH} {K : PV → PS → Prop} {l1 l2 l3 l4 : Int} (h1 : 0 ≤ (((24 * l1) + (3 * l4)) + l2)) (h2 : (((24 * l1) + (3 * l4)) + l2) < 528) : pm_Run d 237 19 [vA 234, vI l1, vI l2, vI l3, vI l4] [] (GF X, M, PTF v) K ↔ pm_Run d 237 5 [vA 234, vI l1, vI l2, vI (l3 + (M 274 (((24 * l1) + (3 * l4)) + l2).toNat)), vI (l4 + 1)] [] (GF X, M, PTF v) K := by
  refine (px_go (by decide +kernel : pm_fe 237 19 = some (.iload_n 3, 1)) rfl).trans ?_
  refine (px_go (by decide +kernel : pm_fe 237 20 = some (.aload_n 0, 1)) rfl).trans ?_
  refine (ry_get2 (idx := 189) (ci := 12) (k := 58) (by decide +kernel : 234 < 283 ∧ SHF 234 = (12, 76)) (ptf_l (a := 234) (k := 58) (n := 274) (by decide +kernel)) (by decide +kernel)).trans ?_
  refine (px_go (by decide +kernel : pm_fe 237 24 = some (.bipush 24, 2)) rfl).trans ?_
  refine (px_go (by decide +kernel : pm_fe 237 26 = some (.iload_n 1, 1)) rfl).trans ?_
  refine (px_go (by decide +kernel : pm_fe 237 27 = some (.imul, 1)) rfl).trans ?_
  refine (px_go (by decide +kernel : pm_fe 237 28 = some (.iconst 3, 1)) rfl).trans ?_
  refine (px_go (by decide +kernel : pm_fe 237 29 = some (.iload 4, 2)) rfl).trans ?_
  refine (px_go (by decide +kernel : pm_fe 237 31 = some (.imul, 1)) rfl).trans ?_
  refine (px_go (by decide +kernel : pm_fe 237 32 = some (.iadd, 1)) rfl).trans ?_
  refine (px_go (by decide +kernel : pm_fe 237 33 = some (.iload_n 2, 1)) rfl).trans ?_
  refine (px_go (by decide +kernel : pm_fe 237 34 = some (.iadd, 1)) rfl).trans ?_
  refine (ry_iald (by decide +kernel : 274 < 283 ∧ SHF 274 = (100, 528)) h1 h2 (by decide +kernel)).trans ?_
  refine (px_go (by decide +kernel : pm_fe 237 36 = some (.iadd, 1)) rfl).trans ?_
  refine (px_go (by decide +kernel : pm_fe 237 37 = some (.istore_n 3, 1)) rfl).trans ?_
  refine (px_go (by decide +kernel : pm_fe 237 38 = some (.iinc 4 1, 3)) rfl).trans ?_
  refine (px_goto (off := (-36)) (tgt := 5) (by decide +kernel)).trans ?_
  exact Iff.rfl
theorem r237_44 {d : Nat} {X : Nat × (Nat → Int)} {v : Nat → Int} {M : PH} {K : PV → PS → Prop} {l1 l2 l3 l4 : Int} : pm_Run d 237 44 [vA 234, vI l1, vI l2, vI l3, vI l4] [] (GF X, M, PTF v) K ↔ K (vI l3) (GF X, M, PTF v) := by
  refine (px_go (by decide +kernel : pm_fe 237 44 = some (.iload_n 3, 1)) rfl).trans ?_
  refine (px_ri (by decide +kernel)).trans ?_
  exact Iff.rfl
-- X12_dueTo dueTo(II)I
theorem r238_0 {d : Nat} {X : Nat × (Nat → Int)} {v : Nat → Int} {M : PH} {K : PV → PS → Prop} {l1 l2 : Int} : pm_Run d 238 0 [vA 234, vI l1, vI l2, PU, PU] [] (GF X, M, PTF v) K ↔ pm_Run d 238 5 [vA 234, vI l1, vI l2, vI 0, vI 0] [] (GF X, M, PTF v) K := by
  refine (px_go (by decide +kernel : pm_fe 238 0 = some (.iconst 0, 1)) rfl).trans ?_
  refine (px_go (by decide +kernel : pm_fe 238 1 = some (.istore_n 3, 1)) rfl).trans ?_
  refine (px_go (by decide +kernel : pm_fe 238 2 = some (.iconst 0, 1)) rfl).trans ?_
  refine (px_go (by decide +kernel : pm_fe 238 3 = some (.istore 4, 2)) rfl).trans ?_
  exact Iff.rfl
theorem r238_5 {d : Nat} {X : Nat × (Nat → Int)} {v : Nat → Int} {M : PH} {K : PV → PS → Prop} {l1 l2 l3 l4 : Int} (h1 : 0 ≤ (M 234 13)) (h2 : (M 234 13) < 2) (h3 : inR l4) (h4 : inR (M 241 (M 234 13).toNat)) : pm_Run d 238 5 [vA 234, vI l1, vI l2, vI l3, vI l4] [] (GF X, M, PTF v) K ↔ if M 241 (M 234 13).toNat ≤ l4 then pm_Run d 238 44 [vA 234, vI l1, vI l2, vI l3, vI l4] [] (GF X, M, PTF v) K else pm_Run d 238 19 [vA 234, vI l1, vI l2, vI l3, vI l4] [] (GF X, M, PTF v) K := by
  refine (px_go (by decide +kernel : pm_fe 238 5 = some (.iload 4, 2)) rfl).trans ?_
  refine (px_go (by decide +kernel : pm_fe 238 7 = some (.aload_n 0, 1)) rfl).trans ?_
  refine (ry_get2 (idx := 69) (ci := 12) (k := 19) (by decide +kernel : 234 < 283 ∧ SHF 234 = (12, 76)) (ptf_l (a := 234) (k := 19) (n := 241) (by decide +kernel)) (by decide +kernel)).trans ?_
  refine (px_go (by decide +kernel : pm_fe 238 11 = some (.aload_n 0, 1)) rfl).trans ?_
  refine (ry_get0 (idx := 51) (ci := 12) (k := 13) (by decide +kernel : 234 < 283 ∧ SHF 234 = (12, 76)) (by decide +kernel)).trans ?_
  refine (ry_iald (by decide +kernel : 241 < 283 ∧ SHF 241 = (100, 2)) h1 h2 (by decide +kernel)).trans ?_
  refine (ry_ic_ge (off := 28) (tgt := 44) h3 h4 (by decide +kernel)).trans ?_
  exact Iff.rfl
theorem r238_19 {d : Nat} {X : Nat × (Nat → Int)} {v : Nat → Int} {M : PH} {K : PV → PS → Prop} {l1 l2 l3 l4 : Int} (h1 : 0 ≤ (((24 * l1) + (3 * l4)) + l2)) (h2 : (((24 * l1) + (3 * l4)) + l2) < 528) : pm_Run d 238 19 [vA 234, vI l1, vI l2, vI l3, vI l4] [] (GF X, M, PTF v) K ↔ pm_Run d 238 5 [vA 234, vI l1, vI l2, vI (l3 + (M 275 (((24 * l1) + (3 * l4)) + l2).toNat)), vI (l4 + 1)] [] (GF X, M, PTF v) K := by
  refine (px_go (by decide +kernel : pm_fe 238 19 = some (.iload_n 3, 1)) rfl).trans ?_
  refine (px_go (by decide +kernel : pm_fe 238 20 = some (.aload_n 0, 1)) rfl).trans ?_
  refine (ry_get2 (idx := 192) (ci := 12) (k := 59) (by decide +kernel : 234 < 283 ∧ SHF 234 = (12, 76)) (ptf_l (a := 234) (k := 59) (n := 275) (by decide +kernel)) (by decide +kernel)).trans ?_
  refine (px_go (by decide +kernel : pm_fe 238 24 = some (.bipush 24, 2)) rfl).trans ?_
  refine (px_go (by decide +kernel : pm_fe 238 26 = some (.iload_n 1, 1)) rfl).trans ?_
  refine (px_go (by decide +kernel : pm_fe 238 27 = some (.imul, 1)) rfl).trans ?_
  refine (px_go (by decide +kernel : pm_fe 238 28 = some (.iconst 3, 1)) rfl).trans ?_
  refine (px_go (by decide +kernel : pm_fe 238 29 = some (.iload 4, 2)) rfl).trans ?_
  refine (px_go (by decide +kernel : pm_fe 238 31 = some (.imul, 1)) rfl).trans ?_
  refine (px_go (by decide +kernel : pm_fe 238 32 = some (.iadd, 1)) rfl).trans ?_
  refine (px_go (by decide +kernel : pm_fe 238 33 = some (.iload_n 2, 1)) rfl).trans ?_
  refine (px_go (by decide +kernel : pm_fe 238 34 = some (.iadd, 1)) rfl).trans ?_
  refine (ry_iald (by decide +kernel : 275 < 283 ∧ SHF 275 = (100, 528)) h1 h2 (by decide +kernel)).trans ?_
  refine (px_go (by decide +kernel : pm_fe 238 36 = some (.iadd, 1)) rfl).trans ?_
  refine (px_go (by decide +kernel : pm_fe 238 37 = some (.istore_n 3, 1)) rfl).trans ?_
  refine (px_go (by decide +kernel : pm_fe 238 38 = some (.iinc 4 1, 3)) rfl).trans ?_
  refine (px_goto (off := (-36)) (tgt := 5) (by decide +kernel)).trans ?_
  exact Iff.rfl
theorem r238_44 {d : Nat} {X : Nat × (Nat → Int)} {v : Nat → Int} {M : PH} {K : PV → PS → Prop} {l1 l2 l3 l4 : Int} : pm_Run d 238 44 [vA 234, vI l1, vI l2, vI l3, vI l4] [] (GF X, M, PTF v) K ↔ K (vI l3) (GF X, M, PTF v) := by
  refine (px_go (by decide +kernel : pm_fe 238 44 = some (.iload_n 3, 1)) rfl).trans ?_
  refine (px_ri (by decide +kernel)).trans ?_
  exact Iff.rfl
-- X12_bidBy bidBy(II)I
theorem r239_0 {d : Nat} {X : Nat × (Nat → Int)} {v : Nat → Int} {M : PH} {K : PV → PS → Prop} {l1 l2 : Int} : pm_Run d 239 0 [vA 234, vI l1, vI l2, PU, PU] [] (GF X, M, PTF v) K ↔ pm_Run d 239 5 [vA 234, vI l1, vI l2, vI 0, vI 0] [] (GF X, M, PTF v) K := by
  refine (px_go (by decide +kernel : pm_fe 239 0 = some (.iconst 0, 1)) rfl).trans ?_
  refine (px_go (by decide +kernel : pm_fe 239 1 = some (.istore_n 3, 1)) rfl).trans ?_
  refine (px_go (by decide +kernel : pm_fe 239 2 = some (.iconst 0, 1)) rfl).trans ?_
  refine (px_go (by decide +kernel : pm_fe 239 3 = some (.istore 4, 2)) rfl).trans ?_
  exact Iff.rfl
theorem r239_5 {d : Nat} {X : Nat × (Nat → Int)} {v : Nat → Int} {M : PH} {K : PV → PS → Prop} {l1 l2 l3 l4 : Int} (h1 : 0 ≤ (M 234 13)) (h2 : (M 234 13) < 2) (h3 : inR l4) (h4 : inR (M 237 (M 234 13).toNat)) : pm_Run d 239 5 [vA 234, vI l1, vI l2, vI l3, vI l4] [] (GF X, M, PTF v) K ↔ if M 237 (M 234 13).toNat ≤ l4 then pm_Run d 239 44 [vA 234, vI l1, vI l2, vI l3, vI l4] [] (GF X, M, PTF v) K else pm_Run d 239 19 [vA 234, vI l1, vI l2, vI l3, vI l4] [] (GF X, M, PTF v) K := by
  refine (px_go (by decide +kernel : pm_fe 239 5 = some (.iload 4, 2)) rfl).trans ?_
  refine (px_go (by decide +kernel : pm_fe 239 7 = some (.aload_n 0, 1)) rfl).trans ?_
  refine (ry_get2 (idx := 57) (ci := 12) (k := 15) (by decide +kernel : 234 < 283 ∧ SHF 234 = (12, 76)) (ptf_l (a := 234) (k := 15) (n := 237) (by decide +kernel)) (by decide +kernel)).trans ?_
  refine (px_go (by decide +kernel : pm_fe 239 11 = some (.aload_n 0, 1)) rfl).trans ?_
  refine (ry_get0 (idx := 51) (ci := 12) (k := 13) (by decide +kernel : 234 < 283 ∧ SHF 234 = (12, 76)) (by decide +kernel)).trans ?_
  refine (ry_iald (by decide +kernel : 237 < 283 ∧ SHF 237 = (100, 2)) h1 h2 (by decide +kernel)).trans ?_
  refine (ry_ic_ge (off := 28) (tgt := 44) h3 h4 (by decide +kernel)).trans ?_
  exact Iff.rfl
theorem r239_19 {d : Nat} {X : Nat × (Nat → Int)} {v : Nat → Int} {M : PH} {K : PV → PS → Prop} {l1 l2 l3 l4 : Int} (h1 : 0 ≤ (((24 * l1) + (3 * l2)) + l4)) (h2 : (((24 * l1) + (3 * l2)) + l4) < 528) : pm_Run d 239 19 [vA 234, vI l1, vI l2, vI l3, vI l4] [] (GF X, M, PTF v) K ↔ pm_Run d 239 5 [vA 234, vI l1, vI l2, vI (l3 + (M 274 (((24 * l1) + (3 * l2)) + l4).toNat)), vI (l4 + 1)] [] (GF X, M, PTF v) K := by
  refine (px_go (by decide +kernel : pm_fe 239 19 = some (.iload_n 3, 1)) rfl).trans ?_
  refine (px_go (by decide +kernel : pm_fe 239 20 = some (.aload_n 0, 1)) rfl).trans ?_
  refine (ry_get2 (idx := 189) (ci := 12) (k := 58) (by decide +kernel : 234 < 283 ∧ SHF 234 = (12, 76)) (ptf_l (a := 234) (k := 58) (n := 274) (by decide +kernel)) (by decide +kernel)).trans ?_
  refine (px_go (by decide +kernel : pm_fe 239 24 = some (.bipush 24, 2)) rfl).trans ?_
  refine (px_go (by decide +kernel : pm_fe 239 26 = some (.iload_n 1, 1)) rfl).trans ?_
  refine (px_go (by decide +kernel : pm_fe 239 27 = some (.imul, 1)) rfl).trans ?_
  refine (px_go (by decide +kernel : pm_fe 239 28 = some (.iconst 3, 1)) rfl).trans ?_
  refine (px_go (by decide +kernel : pm_fe 239 29 = some (.iload_n 2, 1)) rfl).trans ?_
  refine (px_go (by decide +kernel : pm_fe 239 30 = some (.imul, 1)) rfl).trans ?_
  refine (px_go (by decide +kernel : pm_fe 239 31 = some (.iadd, 1)) rfl).trans ?_
  refine (px_go (by decide +kernel : pm_fe 239 32 = some (.iload 4, 2)) rfl).trans ?_
  refine (px_go (by decide +kernel : pm_fe 239 34 = some (.iadd, 1)) rfl).trans ?_
  refine (ry_iald (by decide +kernel : 274 < 283 ∧ SHF 274 = (100, 528)) h1 h2 (by decide +kernel)).trans ?_
  refine (px_go (by decide +kernel : pm_fe 239 36 = some (.iadd, 1)) rfl).trans ?_
  refine (px_go (by decide +kernel : pm_fe 239 37 = some (.istore_n 3, 1)) rfl).trans ?_
  refine (px_go (by decide +kernel : pm_fe 239 38 = some (.iinc 4 1, 3)) rfl).trans ?_
  refine (px_goto (off := (-36)) (tgt := 5) (by decide +kernel)).trans ?_
  exact Iff.rfl
theorem r239_44 {d : Nat} {X : Nat × (Nat → Int)} {v : Nat → Int} {M : PH} {K : PV → PS → Prop} {l1 l2 l3 l4 : Int} : pm_Run d 239 44 [vA 234, vI l1, vI l2, vI l3, vI l4] [] (GF X, M, PTF v) K ↔ K (vI l3) (GF X, M, PTF v) := by
  refine (px_go (by decide +kernel : pm_fe 239 44 = some (.iload_n 3, 1)) rfl).trans ?_
  refine (px_ri (by decide +kernel)).trans ?_
  exact Iff.rfl
-- X12_dueBy dueBy(II)I
theorem r240_0 {d : Nat} {X : Nat × (Nat → Int)} {v : Nat → Int} {M : PH} {K : PV → PS → Prop} {l1 l2 : Int} : pm_Run d 240 0 [vA 234, vI l1, vI l2, PU, PU] [] (GF X, M, PTF v) K ↔ pm_Run d 240 5 [vA 234, vI l1, vI l2, vI 0, vI 0] [] (GF X, M, PTF v) K := by
  refine (px_go (by decide +kernel : pm_fe 240 0 = some (.iconst 0, 1)) rfl).trans ?_
  refine (px_go (by decide +kernel : pm_fe 240 1 = some (.istore_n 3, 1)) rfl).trans ?_
  refine (px_go (by decide +kernel : pm_fe 240 2 = some (.iconst 0, 1)) rfl).trans ?_
  refine (px_go (by decide +kernel : pm_fe 240 3 = some (.istore 4, 2)) rfl).trans ?_
  exact Iff.rfl
theorem r240_5 {d : Nat} {X : Nat × (Nat → Int)} {v : Nat → Int} {M : PH} {K : PV → PS → Prop} {l1 l2 l3 l4 : Int} (h1 : 0 ≤ (M 234 13)) (h2 : (M 234 13) < 2) (h3 : inR l4) (h4 : inR (M 237 (M 234 13).toNat)) : pm_Run d 240 5 [vA 234, vI l1, vI l2, vI l3, vI l4] [] (GF X, M, PTF v) K ↔ if M 237 (M 234 13).toNat ≤ l4 then pm_Run d 240 44 [vA 234, vI l1, vI l2, vI l3, vI l4] [] (GF X, M, PTF v) K else pm_Run d 240 19 [vA 234, vI l1, vI l2, vI l3, vI l4] [] (GF X, M, PTF v) K := by
  refine (px_go (by decide +kernel : pm_fe 240 5 = some (.iload 4, 2)) rfl).trans ?_
  refine (px_go (by decide +kernel : pm_fe 240 7 = some (.aload_n 0, 1)) rfl).trans ?_
  refine (ry_get2 (idx := 57) (ci := 12) (k := 15) (by decide +kernel : 234 < 283 ∧ SHF 234 = (12, 76)) (ptf_l (a := 234) (k := 15) (n := 237) (by decide +kernel)) (by decide +kernel)).trans ?_
  refine (px_go (by decide +kernel : pm_fe 240 11 = some (.aload_n 0, 1)) rfl).trans ?_
  refine (ry_get0 (idx := 51) (ci := 12) (k := 13) (by decide +kernel : 234 < 283 ∧ SHF 234 = (12, 76)) (by decide +kernel)).trans ?_
  refine (ry_iald (by decide +kernel : 237 < 283 ∧ SHF 237 = (100, 2)) h1 h2 (by decide +kernel)).trans ?_
  refine (ry_ic_ge (off := 28) (tgt := 44) h3 h4 (by decide +kernel)).trans ?_
  exact Iff.rfl
theorem r240_19 {d : Nat} {X : Nat × (Nat → Int)} {v : Nat → Int} {M : PH} {K : PV → PS → Prop} {l1 l2 l3 l4 : Int} (h1 : 0 ≤ (((24 * l1) + (3 * l2)) + l4)) (h2 : (((24 * l1) + (3 * l2)) + l4) < 528) : pm_Run d 240 19 [vA 234, vI l1, vI l2, vI l3, vI l4] [] (GF X, M, PTF v) K ↔ pm_Run d 240 5 [vA 234, vI l1, vI l2, vI (l3 + (M 275 (((24 * l1) + (3 * l2)) + l4).toNat)), vI (l4 + 1)] [] (GF X, M, PTF v) K := by
  refine (px_go (by decide +kernel : pm_fe 240 19 = some (.iload_n 3, 1)) rfl).trans ?_
  refine (px_go (by decide +kernel : pm_fe 240 20 = some (.aload_n 0, 1)) rfl).trans ?_
  refine (ry_get2 (idx := 192) (ci := 12) (k := 59) (by decide +kernel : 234 < 283 ∧ SHF 234 = (12, 76)) (ptf_l (a := 234) (k := 59) (n := 275) (by decide +kernel)) (by decide +kernel)).trans ?_
  refine (px_go (by decide +kernel : pm_fe 240 24 = some (.bipush 24, 2)) rfl).trans ?_
  refine (px_go (by decide +kernel : pm_fe 240 26 = some (.iload_n 1, 1)) rfl).trans ?_
  refine (px_go (by decide +kernel : pm_fe 240 27 = some (.imul, 1)) rfl).trans ?_
  refine (px_go (by decide +kernel : pm_fe 240 28 = some (.iconst 3, 1)) rfl).trans ?_
  refine (px_go (by decide +kernel : pm_fe 240 29 = some (.iload_n 2, 1)) rfl).trans ?_
  refine (px_go (by decide +kernel : pm_fe 240 30 = some (.imul, 1)) rfl).trans ?_
  refine (px_go (by decide +kernel : pm_fe 240 31 = some (.iadd, 1)) rfl).trans ?_
  refine (px_go (by decide +kernel : pm_fe 240 32 = some (.iload 4, 2)) rfl).trans ?_
  refine (px_go (by decide +kernel : pm_fe 240 34 = some (.iadd, 1)) rfl).trans ?_
  refine (ry_iald (by decide +kernel : 275 < 283 ∧ SHF 275 = (100, 528)) h1 h2 (by decide +kernel)).trans ?_
  refine (px_go (by decide +kernel : pm_fe 240 36 = some (.iadd, 1)) rfl).trans ?_
  refine (px_go (by decide +kernel : pm_fe 240 37 = some (.istore_n 3, 1)) rfl).trans ?_
  refine (px_go (by decide +kernel : pm_fe 240 38 = some (.iinc 4 1, 3)) rfl).trans ?_
  refine (px_goto (off := (-36)) (tgt := 5) (by decide +kernel)).trans ?_
  exact Iff.rfl
theorem r240_44 {d : Nat} {X : Nat × (Nat → Int)} {v : Nat → Int} {M : PH} {K : PV → PS → Prop} {l1 l2 l3 l4 : Int} : pm_Run d 240 44 [vA 234, vI l1, vI l2, vI l3, vI l4] [] (GF X, M, PTF v) K ↔ K (vI l3) (GF X, M, PTF v) := by
  refine (px_go (by decide +kernel : pm_fe 240 44 = some (.iload_n 3, 1)) rfl).trans ?_
  refine (px_ri (by decide +kernel)).trans ?_
  exact Iff.rfl
-- X12_rivalOf rivalOf(II)I
theorem r241_0 {d : Nat} {X : Nat × (Nat → Int)} {v : Nat → Int} {M : PH} {K : PV → PS → Prop} {l1 l2 : Int} : pm_Run d 241 0 [vA 234, vI l1, vI l2, PU, PU] [] (GF X, M, PTF v) K ↔ pm_Run d 241 5 [vA 234, vI l1, vI l2, vI 0, vI 0] [] (GF X, M, PTF v) K := by
  refine (px_go (by decide +kernel : pm_fe 241 0 = some (.iconst 0, 1)) rfl).trans ?_
  refine (px_go (by decide +kernel : pm_fe 241 1 = some (.istore_n 3, 1)) rfl).trans ?_
  refine (px_go (by decide +kernel : pm_fe 241 2 = some (.iconst 0, 1)) rfl).trans ?_
  refine (px_go (by decide +kernel : pm_fe 241 3 = some (.istore 4, 2)) rfl).trans ?_
  exact Iff.rfl
theorem r241_5 {d : Nat} {X : Nat × (Nat → Int)} {v : Nat → Int} {M : PH} {K : PV → PS → Prop} {l1 l2 l3 l4 : Int} (h1 : 0 ≤ (M 234 13)) (h2 : (M 234 13) < 2) (h3 : inR l4) (h4 : inR (M 237 (M 234 13).toNat)) : pm_Run d 241 5 [vA 234, vI l1, vI l2, vI l3, vI l4] [] (GF X, M, PTF v) K ↔ if M 237 (M 234 13).toNat ≤ l4 then pm_Run d 241 45 [vA 234, vI l1, vI l2, vI l3, vI l4] [] (GF X, M, PTF v) K else pm_Run d 241 19 [vA 234, vI l1, vI l2, vI l3, vI l4] [] (GF X, M, PTF v) K := by
  refine (px_go (by decide +kernel : pm_fe 241 5 = some (.iload 4, 2)) rfl).trans ?_
  refine (px_go (by decide +kernel : pm_fe 241 7 = some (.aload_n 0, 1)) rfl).trans ?_
  refine (ry_get2 (idx := 57) (ci := 12) (k := 15) (by decide +kernel : 234 < 283 ∧ SHF 234 = (12, 76)) (ptf_l (a := 234) (k := 15) (n := 237) (by decide +kernel)) (by decide +kernel)).trans ?_
  refine (px_go (by decide +kernel : pm_fe 241 11 = some (.aload_n 0, 1)) rfl).trans ?_
  refine (ry_get0 (idx := 51) (ci := 12) (k := 13) (by decide +kernel : 234 < 283 ∧ SHF 234 = (12, 76)) (by decide +kernel)).trans ?_
  refine (ry_iald (by decide +kernel : 237 < 283 ∧ SHF 237 = (100, 2)) h1 h2 (by decide +kernel)).trans ?_
  refine (ry_ic_ge (off := 29) (tgt := 45) h3 h4 (by decide +kernel)).trans ?_
  exact Iff.rfl
theorem r241_19 {d : Nat} {X : Nat × (Nat → Int)} {v : Nat → Int} {M : PH} {K : PV → PS → Prop} {l1 l2 l3 l4 : Int} (h1 : inR l4) (h2 : inR l2) : pm_Run d 241 19 [vA 234, vI l1, vI l2, vI l3, vI l4] [] (GF X, M, PTF v) K ↔ if l4 ≠ l2 then pm_Run d 241 30 [vA 234, vI l1, vI l2, vI l3, vI l4] [vI l3] (GF X, M, PTF v) K else pm_Run d 241 26 [vA 234, vI l1, vI l2, vI l3, vI l4] [vI l3] (GF X, M, PTF v) K := by
  refine (px_go (by decide +kernel : pm_fe 241 19 = some (.iload_n 3, 1)) rfl).trans ?_
  refine (px_go (by decide +kernel : pm_fe 241 20 = some (.iload 4, 2)) rfl).trans ?_
  refine (px_go (by decide +kernel : pm_fe 241 22 = some (.iload_n 2, 1)) rfl).trans ?_
  refine (ry_ic_ne (off := 7) (tgt := 30) h1 h2 (by decide +kernel)).trans ?_
  exact Iff.rfl
theorem r241_26 {d : Nat} {X : Nat × (Nat → Int)} {v : Nat → Int} {M : PH} {K : PV → PS → Prop} {l1 l2 l3 l4 s0 : Int} : pm_Run d 241 26 [vA 234, vI l1, vI l2, vI l3, vI l4] [vI s0] (GF X, M, PTF v) K ↔ pm_Run d 241 37 [vA 234, vI l1, vI l2, vI l3, vI l4] [vI 0, vI s0] (GF X, M, PTF v) K := by
  refine (px_go (by decide +kernel : pm_fe 241 26 = some (.iconst 0, 1)) rfl).trans ?_
  refine (px_goto (off := 10) (tgt := 37) (by decide +kernel)).trans ?_
  exact Iff.rfl
theorem r241_30 {d : Nat} {X : Nat × (Nat → Int)} {v : Nat → Int} {M : PH} {K : PV → PS → Prop} {l1 l2 l3 l4 s0 : Int} : pm_Run d 241 30 [vA 234, vI l1, vI l2, vI l3, vI l4] [vI s0] (GF X, M, PTF v) K ↔ pm_Call d 237 [vA 234, vI l1, vI l4] (GF X, M, PTF v) (fun r9 S1 => pm_Run d 241 37 [vA 234, vI l1, vI l2, vI l3, vI l4] (pm_push r9 [vI s0]) S1 K) := by
  refine (px_go (by decide +kernel : pm_fe 241 30 = some (.aload_n 0, 1)) rfl).trans ?_
  refine (px_go (by decide +kernel : pm_fe 241 31 = some (.iload_n 1, 1)) rfl).trans ?_
  refine (px_go (by decide +kernel : pm_fe 241 32 = some (.iload 4, 2)) rfl).trans ?_
  refine (ry_v2 (idx := 448) (m' := 237) (ci := 12) (by decide +kernel : 234 < 283 ∧ SHF 234 = (12, 76)) (by simp [pm_wl_n, pm_wl_c, pm_w] : pm_wl [vI s0] ≤ 8) (by decide +kernel)).trans ?_
  exact Iff.rfl
theorem r241_37 {d : Nat} {X : Nat × (Nat → Int)} {v : Nat → Int} {M : PH} {K : PV → PS → Prop} {l1 l2 l3 l4 s0 s1 : Int} : pm_Run d 241 37 [vA 234, vI l1, vI l2, vI l3, vI l4] [vI s0, vI s1] (GF X, M, PTF v) K ↔ pm_Run d 241 5 [vA 234, vI l1, vI l2, vI (s1 + s0), vI (l4 + 1)] [] (GF X, M, PTF v) K := by
  refine (px_go (by decide +kernel : pm_fe 241 37 = some (.iadd, 1)) rfl).trans ?_
  refine (px_go (by decide +kernel : pm_fe 241 38 = some (.istore_n 3, 1)) rfl).trans ?_
  refine (px_go (by decide +kernel : pm_fe 241 39 = some (.iinc 4 1, 3)) rfl).trans ?_
  refine (px_goto (off := (-37)) (tgt := 5) (by decide +kernel)).trans ?_
  exact Iff.rfl
theorem r241_45 {d : Nat} {X : Nat × (Nat → Int)} {v : Nat → Int} {M : PH} {K : PV → PS → Prop} {l1 l2 l3 l4 : Int} : pm_Run d 241 45 [vA 234, vI l1, vI l2, vI l3, vI l4] [] (GF X, M, PTF v) K ↔ K (vI l3) (GF X, M, PTF v) := by
  refine (px_go (by decide +kernel : pm_fe 241 45 = some (.iload_n 3, 1)) rfl).trans ?_
  refine (px_ri (by decide +kernel)).trans ?_
  exact Iff.rfl
-- X12_farFrom farFrom(II)I
theorem r242_0 {d : Nat} {X : Nat × (Nat → Int)} {v : Nat → Int} {M : PH} {K : PV → PS → Prop} {l1 l2 : Int} (h1 : inR l1) (h2 : inR l2) : pm_Run d 242 0 [vA 234, vI l1, vI l2, PU] [] (GF X, M, PTF v) K ↔ if l2 ≤ l1 then pm_Run d 242 11 [vA 234, vI l1, vI l2, PU] [] (GF X, M, PTF v) K else pm_Run d 242 5 [vA 234, vI l1, vI l2, PU] [] (GF X, M, PTF v) K := by
  refine (px_go (by decide +kernel : pm_fe 242 0 = some (.iload_n 1, 1)) rfl).trans ?_
  refine (px_go (by decide +kernel : pm_fe 242 1 = some (.iload_n 2, 1)) rfl).trans ?_
  refine (ry_ic_ge (off := 9) (tgt := 11) h1 h2 (by decide +kernel)).trans ?_
  exact Iff.rfl
theorem r242_5 {d : Nat} {X : Nat × (Nat → Int)} {v : Nat → Int} {M : PH} {K : PV → PS → Prop} {l1 l2 : Int} : pm_Run d 242 5 [vA 234, vI l1, vI l2, PU] [] (GF X, M, PTF v) K ↔ pm_Run d 242 14 [vA 234, vI l1, vI l2, PU] [vI (l2 - l1)] (GF X, M, PTF v) K := by
  refine (px_go (by decide +kernel : pm_fe 242 5 = some (.iload_n 2, 1)) rfl).trans ?_
  refine (px_go (by decide +kernel : pm_fe 242 6 = some (.iload_n 1, 1)) rfl).trans ?_
  refine (px_go (by decide +kernel : pm_fe 242 7 = some (.isub, 1)) rfl).trans ?_
  refine (px_goto (off := 6) (tgt := 14) (by decide +kernel)).trans ?_
  exact Iff.rfl
theorem r242_11 {d : Nat} {X : Nat × (Nat → Int)} {v : Nat → Int} {M : PH} {K : PV → PS → Prop} {l1 l2 : Int} : pm_Run d 242 11 [vA 234, vI l1, vI l2, PU] [] (GF X, M, PTF v) K ↔ pm_Run d 242 14 [vA 234, vI l1, vI l2, PU] [vI (l1 - l2)] (GF X, M, PTF v) K := by
  refine (px_go (by decide +kernel : pm_fe 242 11 = some (.iload_n 1, 1)) rfl).trans ?_
  refine (px_go (by decide +kernel : pm_fe 242 12 = some (.iload_n 2, 1)) rfl).trans ?_
  refine (px_go (by decide +kernel : pm_fe 242 13 = some (.isub, 1)) rfl).trans ?_
  exact Iff.rfl
theorem r242_14 {d : Nat} {X : Nat × (Nat → Int)} {v : Nat → Int} {M : PH} {K : PV → PS → Prop} {l1 l2 s0 : Int} (h1 : 0 ≤ (M 234 13)) (h2 : (M 234 13) < 2) (h3 : inR s0) (h4 : inR ((M 236 (M 234 13).toNat) - s0)) : pm_Run d 242 14 [vA 234, vI l1, vI l2, PU] [vI s0] (GF X, M, PTF v) K ↔ if (M 236 (M 234 13).toNat) - s0 ≤ s0 then pm_Run d 242 34 [vA 234, vI l1, vI l2, vI s0] [] (GF X, M, PTF v) K else pm_Run d 242 30 [vA 234, vI l1, vI l2, vI s0] [] (GF X, M, PTF v) K := by
  refine (px_go (by decide +kernel : pm_fe 242 14 = some (.istore_n 3, 1)) rfl).trans ?_
  refine (px_go (by decide +kernel : pm_fe 242 15 = some (.iload_n 3, 1)) rfl).trans ?_
  refine (px_go (by decide +kernel : pm_fe 242 16 = some (.aload_n 0, 1)) rfl).trans ?_
  refine (ry_get2 (idx := 54) (ci := 12) (k := 14) (by decide +kernel : 234 < 283 ∧ SHF 234 = (12, 76)) (ptf_l (a := 234) (k := 14) (n := 236) (by decide +kernel)) (by decide +kernel)).trans ?_
  refine (px_go (by decide +kernel : pm_fe 242 20 = some (.aload_n 0, 1)) rfl).trans ?_
  refine (ry_get0 (idx := 51) (ci := 12) (k := 13) (by decide +kernel : 234 < 283 ∧ SHF 234 = (12, 76)) (by decide +kernel)).trans ?_
  refine (ry_iald (by decide +kernel : 236 < 283 ∧ SHF 236 = (100, 2)) h1 h2 (by decide +kernel)).trans ?_
  refine (px_go (by decide +kernel : pm_fe 242 25 = some (.iload_n 3, 1)) rfl).trans ?_
  refine (px_go (by decide +kernel : pm_fe 242 26 = some (.isub, 1)) rfl).trans ?_
  refine (ry_ic_ge (off := 7) (tgt := 34) h3 h4 (by decide +kernel)).trans ?_
  exact Iff.rfl
theorem r242_30 {d : Nat} {X : Nat × (Nat → Int)} {v : Nat → Int} {M : PH} {K : PV → PS → Prop} {l1 l2 l3 : Int} : pm_Run d 242 30 [vA 234, vI l1, vI l2, vI l3] [] (GF X, M, PTF v) K ↔ pm_Run d 242 45 [vA 234, vI l1, vI l2, vI l3] [vI l3] (GF X, M, PTF v) K := by
  refine (px_go (by decide +kernel : pm_fe 242 30 = some (.iload_n 3, 1)) rfl).trans ?_
  refine (px_goto (off := 14) (tgt := 45) (by decide +kernel)).trans ?_
  exact Iff.rfl
theorem r242_34 {d : Nat} {X : Nat × (Nat → Int)} {v : Nat → Int} {M : PH} {K : PV → PS → Prop} {l1 l2 l3 : Int} (h1 : 0 ≤ (M 234 13)) (h2 : (M 234 13) < 2) : pm_Run d 242 34 [vA 234, vI l1, vI l2, vI l3] [] (GF X, M, PTF v) K ↔ pm_Run d 242 45 [vA 234, vI l1, vI l2, vI l3] [vI ((M 236 (M 234 13).toNat) - l3)] (GF X, M, PTF v) K := by
  refine (px_go (by decide +kernel : pm_fe 242 34 = some (.aload_n 0, 1)) rfl).trans ?_
  refine (ry_get2 (idx := 54) (ci := 12) (k := 14) (by decide +kernel : 234 < 283 ∧ SHF 234 = (12, 76)) (ptf_l (a := 234) (k := 14) (n := 236) (by decide +kernel)) (by decide +kernel)).trans ?_
  refine (px_go (by decide +kernel : pm_fe 242 38 = some (.aload_n 0, 1)) rfl).trans ?_
  refine (ry_get0 (idx := 51) (ci := 12) (k := 13) (by decide +kernel : 234 < 283 ∧ SHF 234 = (12, 76)) (by decide +kernel)).trans ?_
  refine (ry_iald (by decide +kernel : 236 < 283 ∧ SHF 236 = (100, 2)) h1 h2 (by decide +kernel)).trans ?_
  refine (px_go (by decide +kernel : pm_fe 242 43 = some (.iload_n 3, 1)) rfl).trans ?_
  refine (px_go (by decide +kernel : pm_fe 242 44 = some (.isub, 1)) rfl).trans ?_
  exact Iff.rfl
theorem r242_45 {d : Nat} {X : Nat × (Nat → Int)} {v : Nat → Int} {M : PH} {K : PV → PS → Prop} {l1 l2 l3 s0 : Int} : pm_Run d 242 45 [vA 234, vI l1, vI l2, vI l3] [vI s0] (GF X, M, PTF v) K ↔ K (vI s0) (GF X, M, PTF v) := by
  refine (px_ri (by decide +kernel)).trans ?_
  exact Iff.rfl
-- X12_sulks sulks(II)Z
theorem r243_0 {d : Nat} {X : Nat × (Nat → Int)} {v : Nat → Int} {M : PH} {K : PV → PS → Prop} {l1 l2 : Int} : pm_Run d 243 0 [vA 234, vI l1, vI l2] [] (GF X, M, PTF v) K ↔ pm_Call d 238 [vA 234, vI l1, vI l2] (GF X, M, PTF v) (fun r9 S1 => pm_Run d 243 6 [vA 234, vI l1, vI l2] (pm_push r9 []) S1 K) := by
  refine (px_go (by decide +kernel : pm_fe 243 0 = some (.aload_n 0, 1)) rfl).trans ?_
  refine (px_go (by decide +kernel : pm_fe 243 1 = some (.iload_n 1, 1)) rfl).trans ?_
  refine (px_go (by decide +kernel : pm_fe 243 2 = some (.iload_n 2, 1)) rfl).trans ?_
  refine (ry_v2 (idx := 451) (m' := 238) (ci := 12) (by decide +kernel : 234 < 283 ∧ SHF 234 = (12, 76)) (by simp [pm_wl_n, pm_wl_c, pm_w] : pm_wl [] ≤ 8) (by decide +kernel)).trans ?_
  exact Iff.rfl
theorem r243_6 {d : Nat} {X : Nat × (Nat → Int)} {v : Nat → Int} {M : PH} {K : PV → PS → Prop} {l1 l2 s0 : Int} (h1 : 0 ≤ (M 234 13)) (h2 : (M 234 13) < 2) (h3 : inR s0) (h4 : inR (M 258 (M 234 13).toNat)) : pm_Run d 243 6 [vA 234, vI l1, vI l2] [vI s0] (GF X, M, PTF v) K ↔ if s0 < M 258 (M 234 13).toNat then pm_Run d 243 22 [vA 234, vI l1, vI l2] [] (GF X, M, PTF v) K else pm_Run d 243 18 [vA 234, vI l1, vI l2] [] (GF X, M, PTF v) K := by
  refine (px_go (by decide +kernel : pm_fe 243 6 = some (.aload_n 0, 1)) rfl).trans ?_
  refine (ry_get2 (idx := 120) (ci := 12) (k := 36) (by decide +kernel : 234 < 283 ∧ SHF 234 = (12, 76)) (ptf_l (a := 234) (k := 36) (n := 258) (by decide +kernel)) (by decide +kernel)).trans ?_
  refine (px_go (by decide +kernel : pm_fe 243 10 = some (.aload_n 0, 1)) rfl).trans ?_
  refine (ry_get0 (idx := 51) (ci := 12) (k := 13) (by decide +kernel : 234 < 283 ∧ SHF 234 = (12, 76)) (by decide +kernel)).trans ?_
  refine (ry_iald (by decide +kernel : 258 < 283 ∧ SHF 258 = (100, 2)) h1 h2 (by decide +kernel)).trans ?_
  refine (ry_ic_lt (off := 7) (tgt := 22) h3 h4 (by decide +kernel)).trans ?_
  exact Iff.rfl
theorem r243_18 {d : Nat} {X : Nat × (Nat → Int)} {v : Nat → Int} {M : PH} {K : PV → PS → Prop} {l1 l2 : Int} : pm_Run d 243 18 [vA 234, vI l1, vI l2] [] (GF X, M, PTF v) K ↔ pm_Run d 243 23 [vA 234, vI l1, vI l2] [vI 1] (GF X, M, PTF v) K := by
  refine (px_go (by decide +kernel : pm_fe 243 18 = some (.iconst 1, 1)) rfl).trans ?_
  refine (px_goto (off := 4) (tgt := 23) (by decide +kernel)).trans ?_
  exact Iff.rfl
theorem r243_22 {d : Nat} {X : Nat × (Nat → Int)} {v : Nat → Int} {M : PH} {K : PV → PS → Prop} {l1 l2 : Int} : pm_Run d 243 22 [vA 234, vI l1, vI l2] [] (GF X, M, PTF v) K ↔ pm_Run d 243 23 [vA 234, vI l1, vI l2] [vI 0] (GF X, M, PTF v) K := by
  refine (px_go (by decide +kernel : pm_fe 243 22 = some (.iconst 0, 1)) rfl).trans ?_
  exact Iff.rfl
theorem r243_23 {d : Nat} {X : Nat × (Nat → Int)} {v : Nat → Int} {M : PH} {K : PV → PS → Prop} {l1 l2 s0 : Int} (h1 : s0 = 0 ∨ s0 = 1) : pm_Run d 243 23 [vA 234, vI l1, vI l2] [vI s0] (GF X, M, PTF v) K ↔ K (vI s0) (GF X, M, PTF v) := by
  refine (px_rz (by decide +kernel)).trans ((and_iff_right h1).trans ?_)
  exact Iff.rfl
-- X12_part part(II)J
theorem r244_0 {d : Nat} {X : Nat × (Nat → Int)} {v : Nat → Int} {M : PH} {K : PV → PS → Prop} {l1 l2 : Int} (h1 : inR (M 234 65)) : pm_Run d 244 0 [vA 234, vI l1, vI l2, PU, PU] [] (GF X, M, PTF v) K ↔ if M 234 65 = (-1) then pm_Run d 244 17 [vA 234, vI l1, vI l2, vI (M 234 64), PU] [] (GF X, M, PTF v) K else pm_Run d 244 13 [vA 234, vI l1, vI l2, vI (M 234 64), PU] [] (GF X, M, PTF v) K := by
  refine (px_go (by decide +kernel : pm_fe 244 0 = some (.aload_n 0, 1)) rfl).trans ?_
  refine (ry_get0 (idx := 207) (ci := 12) (k := 64) (by decide +kernel : 234 < 283 ∧ SHF 234 = (12, 76)) (by decide +kernel)).trans ?_
  refine (px_go (by decide +kernel : pm_fe 244 4 = some (.istore_n 3, 1)) rfl).trans ?_
  refine (px_go (by decide +kernel : pm_fe 244 5 = some (.aload_n 0, 1)) rfl).trans ?_
  refine (ry_get0 (idx := 210) (ci := 12) (k := 65) (by decide +kernel : 234 < 283 ∧ SHF 234 = (12, 76)) (by decide +kernel)).trans ?_
  refine (px_go (by decide +kernel : pm_fe 244 9 = some (.iconst (-1), 1)) rfl).trans ?_
  refine (ry_ic_eq (off := 7) (tgt := 17) h1 (by decide : (-2147483648 ≤ ((-1) : Int) ∧ ((-1) : Int) < 2147483648)) (by decide +kernel)).trans ?_
  exact Iff.rfl
theorem r244_13 {d : Nat} {X : Nat × (Nat → Int)} {v : Nat → Int} {M : PH} {K : PV → PS → Prop} {l1 l2 l3 : Int} : pm_Run d 244 13 [vA 234, vI l1, vI l2, vI l3, PU] [] (GF X, M, PTF v) K ↔ pm_Run d 244 18 [vA 234, vI l1, vI l2, vI l3, PU] [vI 1] (GF X, M, PTF v) K := by
  refine (px_go (by decide +kernel : pm_fe 244 13 = some (.iconst 1, 1)) rfl).trans ?_
  refine (px_goto (off := 4) (tgt := 18) (by decide +kernel)).trans ?_
  exact Iff.rfl
theorem r244_17 {d : Nat} {X : Nat × (Nat → Int)} {v : Nat → Int} {M : PH} {K : PV → PS → Prop} {l1 l2 l3 : Int} : pm_Run d 244 17 [vA 234, vI l1, vI l2, vI l3, PU] [] (GF X, M, PTF v) K ↔ pm_Run d 244 18 [vA 234, vI l1, vI l2, vI l3, PU] [vI 0] (GF X, M, PTF v) K := by
  refine (px_go (by decide +kernel : pm_fe 244 17 = some (.iconst 0, 1)) rfl).trans ?_
  exact Iff.rfl
theorem r244_18 {d : Nat} {X : Nat × (Nat → Int)} {v : Nat → Int} {M : PH} {K : PV → PS → Prop} {l1 l2 l3 s0 : Int} (h1 : inR l1) : pm_Run d 244 18 [vA 234, vI l1, vI l2, vI l3, PU] [vI s0] (GF X, M, PTF v) K ↔ pm_Run d 244 (pm_tg 0 [168, 171, 191, 210, 235, 264, 293, 325, 349, 372, 406, 406, 406, 406, 406, 406, 406, 406, 406, 406, 406, 406, 406, 406, 406, 406, 406, 406, 406, 406, 406, 392, 400] 406 l1) [vA 234, vI l1, vI l2, vI l3, vI s0] [] (GF X, M, PTF v) K := by
  refine (px_go (by decide +kernel : pm_fe 244 18 = some (.istore 4, 2)) rfl).trans ?_
  refine (px_go (by decide +kernel : pm_fe 244 20 = some (.iload_n 1, 1)) rfl).trans ?_
  refine (ry_tsw (lo := 0) (dt := 406) (tl := [168, 171, 191, 210, 235, 264, 293, 325, 349, 372, 406, 406, 406, 406, 406, 406, 406, 406, 406, 406, 406, 406, 406, 406, 406, 406, 406, 406, 406, 406, 406, 392, 400]) h1 (by decide +kernel : pm_fe 244 21 = some (.tableswitch 385 0 32 #[147, 150, 170, 189, 214, 243, 272, 304, 328, 351, 385, 385, 385, 385, 385, 385, 385, 385, 385, 385, 385, 385, 385, 385, 385, 385, 385, 385, 385, 385, 385, 371, 379], 147) ∧ _)).trans ?_
  exact Iff.rfl
theorem r244_168 {d : Nat} {X : Nat × (Nat → Int)} {v : Nat → Int} {M : PH} {K : PV → PS → Prop} {l1 l2 l3 l4 : Int} (h1 : inR l2) : pm_Run d 244 168 [vA 234, vI l1, vI l2, vI l3, vI l4] [] (GF X, M, PTF v) K ↔ K (vL l2) (GF X, M, PTF v) := by
  refine (px_go (by decide +kernel : pm_fe 244 168 = some (.iload_n 2, 1)) rfl).trans ?_
  refine (ry_i2l h1 (by decide +kernel)).trans ?_
  refine (px_rl (by decide +kernel)).trans ?_
  exact Iff.rfl
theorem r244_171 {d : Nat} {X : Nat × (Nat → Int)} {v : Nat → Int} {M : PH} {K : PV → PS → Prop} {l1 l2 l3 l4 : Int} (h1 : inR l4) : pm_Run d 244 171 [vA 234, vI l1, vI l2, vI l3, vI l4] [] (GF X, M, PTF v) K ↔ if l4 = 0 then pm_Run d 244 180 [vA 234, vI l1, vI l2, vI l3, vI l4] [] (GF X, M, PTF v) K else pm_Run d 244 176 [vA 234, vI l1, vI l2, vI l3, vI l4] [] (GF X, M, PTF v) K := by
  refine (px_go (by decide +kernel : pm_fe 244 171 = some (.iload 4, 2)) rfl).trans ?_
  refine (ry_if_eq (off := 7) (tgt := 180) h1 (by decide +kernel)).trans ?_
  exact Iff.rfl
theorem r244_176 {d : Nat} {X : Nat × (Nat → Int)} {v : Nat → Int} {M : PH} {K : PV → PS → Prop} {l1 l2 l3 l4 : Int} : pm_Run d 244 176 [vA 234, vI l1, vI l2, vI l3, vI l4] [] (GF X, M, PTF v) K ↔ pm_Run d 244 190 [vA 234, vI l1, vI l2, vI l3, vI l4] [vL 0] (GF X, M, PTF v) K := by
  refine (px_go (by decide +kernel : pm_fe 244 176 = some (.lconst 0, 1)) rfl).trans ?_
  refine (px_goto (off := 13) (tgt := 190) (by decide +kernel)).trans ?_
  exact Iff.rfl
theorem r244_180 {d : Nat} {X : Nat × (Nat → Int)} {v : Nat → Int} {M : PH} {K : PV → PS → Prop} {l1 l2 l3 l4 : Int} (h1 : 0 ≤ (M 234 67)) (h2 : (M 234 67) < 24) (h3 : inR (M 277 (M 234 67).toNat)) : pm_Run d 244 180 [vA 234, vI l1, vI l2, vI l3, vI l4] [] (GF X, M, PTF v) K ↔ pm_Run d 244 190 [vA 234, vI l1, vI l2, vI l3, vI l4] [vL (M 277 (M 234 67).toNat)] (GF X, M, PTF v) K := by
  refine (px_go (by decide +kernel : pm_fe 244 180 = some (.aload_n 0, 1)) rfl).trans ?_
  refine (ry_get2 (idx := 219) (ci := 12) (k := 68) (by decide +kernel : 234 < 283 ∧ SHF 234 = (12, 76)) (ptf_l (a := 234) (k := 68) (n := 277) (by decide +kernel)) (by decide +kernel)).trans ?_
  refine (px_go (by decide +kernel : pm_fe 244 184 = some (.aload_n 0, 1)) rfl).trans ?_
  refine (ry_get0 (idx := 216) (ci := 12) (k := 67) (by decide +kernel : 234 < 283 ∧ SHF 234 = (12, 76)) (by decide +kernel)).trans ?_
  refine (ry_iald (by decide +kernel : 277 < 283 ∧ SHF 277 = (100, 24)) h1 h2 (by decide +kernel)).trans ?_
  refine (ry_i2l h3 (by decide +kernel)).trans ?_
  exact Iff.rfl
theorem r244_190 {d : Nat} {X : Nat × (Nat → Int)} {v : Nat → Int} {M : PH} {K : PV → PS → Prop} {l1 l2 l3 l4 s0 : Int} : pm_Run d 244 190 [vA 234, vI l1, vI l2, vI l3, vI l4] [vL s0] (GF X, M, PTF v) K ↔ K (vL s0) (GF X, M, PTF v) := by
  refine (px_rl (by decide +kernel)).trans ?_
  exact Iff.rfl
theorem r244_191 {d : Nat} {X : Nat × (Nat → Int)} {v : Nat → Int} {M : PH} {K : PV → PS → Prop} {l1 l2 l3 l4 : Int} (h1 : inR l4) : pm_Run d 244 191 [vA 234, vI l1, vI l2, vI l3, vI l4] [] (GF X, M, PTF v) K ↔ if l4 = 0 then pm_Run d 244 200 [vA 234, vI l1, vI l2, vI l3, vI l4] [] (GF X, M, PTF v) K else pm_Run d 244 196 [vA 234, vI l1, vI l2, vI l3, vI l4] [] (GF X, M, PTF v) K := by
  refine (px_go (by decide +kernel : pm_fe 244 191 = some (.iload 4, 2)) rfl).trans ?_
  refine (ry_if_eq (off := 7) (tgt := 200) h1 (by decide +kernel)).trans ?_
  exact Iff.rfl
theorem r244_196 {d : Nat} {X : Nat × (Nat → Int)} {v : Nat → Int} {M : PH} {K : PV → PS → Prop} {l1 l2 l3 l4 : Int} : pm_Run d 244 196 [vA 234, vI l1, vI l2, vI l3, vI l4] [] (GF X, M, PTF v) K ↔ pm_Run d 244 209 [vA 234, vI l1, vI l2, vI l3, vI l4] [vL 0] (GF X, M, PTF v) K := by
  refine (px_go (by decide +kernel : pm_fe 244 196 = some (.lconst 0, 1)) rfl).trans ?_
  refine (px_goto (off := 12) (tgt := 209) (by decide +kernel)).trans ?_
  exact Iff.rfl
theorem r244_200 {d : Nat} {X : Nat × (Nat → Int)} {v : Nat → Int} {M : PH} {K : PV → PS → Prop} {l1 l2 l3 l4 : Int} : pm_Run d 244 200 [vA 234, vI l1, vI l2, vI l3, vI l4] [] (GF X, M, PTF v) K ↔ pm_Call d 231 [vA 234, vI (M 234 66)] (GF X, M, PTF v) (fun r9 S1 => pm_Run d 244 208 [vA 234, vI l1, vI l2, vI l3, vI l4] (pm_push r9 []) S1 K) := by
  refine (px_go (by decide +kernel : pm_fe 244 200 = some (.aload_n 0, 1)) rfl).trans ?_
  refine (px_go (by decide +kernel : pm_fe 244 201 = some (.aload_n 0, 1)) rfl).trans ?_
  refine (ry_get0 (idx := 213) (ci := 12) (k := 66) (by decide +kernel : 234 < 283 ∧ SHF 234 = (12, 76)) (by decide +kernel)).trans ?_
  refine (ry_v1 (idx := 454) (m' := 231) (ci := 12) (by decide +kernel : 234 < 283 ∧ SHF 234 = (12, 76)) (by simp [pm_wl_n, pm_wl_c, pm_w] : pm_wl [] ≤ 8) (by decide +kernel)).trans ?_
  exact Iff.rfl
theorem r244_208 {d : Nat} {X : Nat × (Nat → Int)} {v : Nat → Int} {M : PH} {K : PV → PS → Prop} {l1 l2 l3 l4 s0 : Int} (h1 : inR s0) : pm_Run d 244 208 [vA 234, vI l1, vI l2, vI l3, vI l4] [vI s0] (GF X, M, PTF v) K ↔ pm_Run d 244 209 [vA 234, vI l1, vI l2, vI l3, vI l4] [vL s0] (GF X, M, PTF v) K := by
  refine (ry_i2l h1 (by decide +kernel)).trans ?_
  exact Iff.rfl
theorem r244_209 {d : Nat} {X : Nat × (Nat → Int)} {v : Nat → Int} {M : PH} {K : PV → PS → Prop} {l1 l2 l3 l4 s0 : Int} : pm_Run d 244 209 [vA 234, vI l1, vI l2, vI l3, vI l4] [vL s0] (GF X, M, PTF v) K ↔ K (vL s0) (GF X, M, PTF v) := by
  refine (px_rl (by decide +kernel)).trans ?_
  exact Iff.rfl
theorem r244_210 {d : Nat} {X : Nat × (Nat → Int)} {v : Nat → Int} {M : PH} {K : PV → PS → Prop} {l1 l2 l3 l4 : Int} (h1 : inR l4) : pm_Run d 244 210 [vA 234, vI l1, vI l2, vI l3, vI l4] [] (GF X, M, PTF v) K ↔ if l4 = 0 then pm_Run d 244 219 [vA 234, vI l1, vI l2, vI l3, vI l4] [] (GF X, M, PTF v) K else pm_Run d 244 215 [vA 234, vI l1, vI l2, vI l3, vI l4] [] (GF X, M, PTF v) K := by
  refine (px_go (by decide +kernel : pm_fe 244 210 = some (.iload 4, 2)) rfl).trans ?_
  refine (ry_if_eq (off := 7) (tgt := 219) h1 (by decide +kernel)).trans ?_
  exact Iff.rfl
theorem r244_215 {d : Nat} {X : Nat × (Nat → Int)} {v : Nat → Int} {M : PH} {K : PV → PS → Prop} {l1 l2 l3 l4 : Int} : pm_Run d 244 215 [vA 234, vI l1, vI l2, vI l3, vI l4] [] (GF X, M, PTF v) K ↔ pm_Run d 244 234 [vA 234, vI l1, vI l2, vI l3, vI l4] [vL 0] (GF X, M, PTF v) K := by
  refine (px_go (by decide +kernel : pm_fe 244 215 = some (.lconst 0, 1)) rfl).trans ?_
  refine (px_goto (off := 18) (tgt := 234) (by decide +kernel)).trans ?_
  exact Iff.rfl
theorem r244_219 {d : Nat} {X : Nat × (Nat → Int)} {v : Nat → Int} {M : PH} {K : PV → PS → Prop} {l1 l2 l3 l4 : Int} (h1 : 0 ≤ ((8 * l3) + (M 234 66))) (h2 : ((8 * l3) + (M 234 66)) < 176) (h3 : inR (M 273 ((8 * l3) + (M 234 66)).toNat)) : pm_Run d 244 219 [vA 234, vI l1, vI l2, vI l3, vI l4] [] (GF X, M, PTF v) K ↔ pm_Run d 244 234 [vA 234, vI l1, vI l2, vI l3, vI l4] [vL (M 273 ((8 * l3) + (M 234 66)).toNat)] (GF X, M, PTF v) K := by
  refine (px_go (by decide +kernel : pm_fe 244 219 = some (.aload_n 0, 1)) rfl).trans ?_
  refine (ry_get2 (idx := 186) (ci := 12) (k := 57) (by decide +kernel : 234 < 283 ∧ SHF 234 = (12, 76)) (ptf_l (a := 234) (k := 57) (n := 273) (by decide +kernel)) (by decide +kernel)).trans ?_
  refine (px_go (by decide +kernel : pm_fe 244 223 = some (.bipush 8, 2)) rfl).trans ?_
  refine (px_go (by decide +kernel : pm_fe 244 225 = some (.iload_n 3, 1)) rfl).trans ?_
  refine (px_go (by decide +kernel : pm_fe 244 226 = some (.imul, 1)) rfl).trans ?_
  refine (px_go (by decide +kernel : pm_fe 244 227 = some (.aload_n 0, 1)) rfl).trans ?_
  refine (ry_get0 (idx := 213) (ci := 12) (k := 66) (by decide +kernel : 234 < 283 ∧ SHF 234 = (12, 76)) (by decide +kernel)).trans ?_
  refine (px_go (by decide +kernel : pm_fe 244 231 = some (.iadd, 1)) rfl).trans ?_
  refine (ry_iald (by decide +kernel : 273 < 283 ∧ SHF 273 = (100, 176)) h1 h2 (by decide +kernel)).trans ?_
  refine (ry_i2l h3 (by decide +kernel)).trans ?_
  exact Iff.rfl
theorem r244_234 {d : Nat} {X : Nat × (Nat → Int)} {v : Nat → Int} {M : PH} {K : PV → PS → Prop} {l1 l2 l3 l4 s0 : Int} : pm_Run d 244 234 [vA 234, vI l1, vI l2, vI l3, vI l4] [vL s0] (GF X, M, PTF v) K ↔ K (vL s0) (GF X, M, PTF v) := by
  refine (px_rl (by decide +kernel)).trans ?_
  exact Iff.rfl
theorem r244_235 {d : Nat} {X : Nat × (Nat → Int)} {v : Nat → Int} {M : PH} {K : PV → PS → Prop} {l1 l2 l3 l4 : Int} (h1 : inR l4) : pm_Run d 244 235 [vA 234, vI l1, vI l2, vI l3, vI l4] [] (GF X, M, PTF v) K ↔ if l4 = 0 then pm_Run d 244 253 [vA 234, vI l1, vI l2, vI l3, vI l4] [] (GF X, M, PTF v) K else pm_Run d 244 240 [vA 234, vI l1, vI l2, vI l3, vI l4] [] (GF X, M, PTF v) K := by
  refine (px_go (by decide +kernel : pm_fe 244 235 = some (.iload 4, 2)) rfl).trans ?_
  refine (ry_if_eq (off := 16) (tgt := 253) h1 (by decide +kernel)).trans ?_
  exact Iff.rfl
theorem r244_240 {d : Nat} {X : Nat × (Nat → Int)} {v : Nat → Int} {M : PH} {K : PV → PS → Prop} {l1 l2 l3 l4 : Int} : pm_Run d 244 240 [vA 234, vI l1, vI l2, vI l3, vI l4] [] (GF X, M, PTF v) K ↔ pm_Call d 237 [vA 234, vI l3, vI (M 234 65)] (GF X, M, PTF v) (fun r9 S1 => pm_Run d 244 249 [vA 234, vI l1, vI l2, vI l3, vI l4] (pm_push r9 []) S1 K) := by
  refine (px_go (by decide +kernel : pm_fe 244 240 = some (.aload_n 0, 1)) rfl).trans ?_
  refine (px_go (by decide +kernel : pm_fe 244 241 = some (.iload_n 3, 1)) rfl).trans ?_
  refine (px_go (by decide +kernel : pm_fe 244 242 = some (.aload_n 0, 1)) rfl).trans ?_
  refine (ry_get0 (idx := 210) (ci := 12) (k := 65) (by decide +kernel : 234 < 283 ∧ SHF 234 = (12, 76)) (by decide +kernel)).trans ?_
  refine (ry_v2 (idx := 448) (m' := 237) (ci := 12) (by decide +kernel : 234 < 283 ∧ SHF 234 = (12, 76)) (by simp [pm_wl_n, pm_wl_c, pm_w] : pm_wl [] ≤ 8) (by decide +kernel)).trans ?_
  exact Iff.rfl
theorem r244_249 {d : Nat} {X : Nat × (Nat → Int)} {v : Nat → Int} {M : PH} {K : PV → PS → Prop} {l1 l2 l3 l4 s0 : Int} (h1 : inR s0) : pm_Run d 244 249 [vA 234, vI l1, vI l2, vI l3, vI l4] [vI s0] (GF X, M, PTF v) K ↔ pm_Run d 244 263 [vA 234, vI l1, vI l2, vI l3, vI l4] [vL s0] (GF X, M, PTF v) K := by
  refine (ry_i2l h1 (by decide +kernel)).trans ?_
  refine (px_goto (off := 13) (tgt := 263) (by decide +kernel)).trans ?_
  exact Iff.rfl
theorem r244_253 {d : Nat} {X : Nat × (Nat → Int)} {v : Nat → Int} {M : PH} {K : PV → PS → Prop} {l1 l2 l3 l4 : Int} : pm_Run d 244 253 [vA 234, vI l1, vI l2, vI l3, vI l4] [] (GF X, M, PTF v) K ↔ pm_Call d 239 [vA 234, vI l3, vI (M 234 66)] (GF X, M, PTF v) (fun r9 S1 => pm_Run d 244 262 [vA 234, vI l1, vI l2, vI l3, vI l4] (pm_push r9 []) S1 K) := by
  refine (px_go (by decide +kernel : pm_fe 244 253 = some (.aload_n 0, 1)) rfl).trans ?_
  refine (px_go (by decide +kernel : pm_fe 244 254 = some (.iload_n 3, 1)) rfl).trans ?_
  refine (px_go (by decide +kernel : pm_fe 244 255 = some (.aload_n 0, 1)) rfl).trans ?_
  refine (ry_get0 (idx := 213) (ci := 12) (k := 66) (by decide +kernel : 234 < 283 ∧ SHF 234 = (12, 76)) (by decide +kernel)).trans ?_
  refine (ry_v2 (idx := 457) (m' := 239) (ci := 12) (by decide +kernel : 234 < 283 ∧ SHF 234 = (12, 76)) (by simp [pm_wl_n, pm_wl_c, pm_w] : pm_wl [] ≤ 8) (by decide +kernel)).trans ?_
  exact Iff.rfl
theorem r244_262 {d : Nat} {X : Nat × (Nat → Int)} {v : Nat → Int} {M : PH} {K : PV → PS → Prop} {l1 l2 l3 l4 s0 : Int} (h1 : inR s0) : pm_Run d 244 262 [vA 234, vI l1, vI l2, vI l3, vI l4] [vI s0] (GF X, M, PTF v) K ↔ pm_Run d 244 263 [vA 234, vI l1, vI l2, vI l3, vI l4] [vL s0] (GF X, M, PTF v) K := by
  refine (ry_i2l h1 (by decide +kernel)).trans ?_
  exact Iff.rfl
theorem r244_263 {d : Nat} {X : Nat × (Nat → Int)} {v : Nat → Int} {M : PH} {K : PV → PS → Prop} {l1 l2 l3 l4 s0 : Int} : pm_Run d 244 263 [vA 234, vI l1, vI l2, vI l3, vI l4] [vL s0] (GF X, M, PTF v) K ↔ K (vL s0) (GF X, M, PTF v) := by
  refine (px_rl (by decide +kernel)).trans ?_
  exact Iff.rfl
theorem r244_264 {d : Nat} {X : Nat × (Nat → Int)} {v : Nat → Int} {M : PH} {K : PV → PS → Prop} {l1 l2 l3 l4 : Int} (h1 : inR l4) : pm_Run d 244 264 [vA 234, vI l1, vI l2, vI l3, vI l4] [] (GF X, M, PTF v) K ↔ if l4 = 0 then pm_Run d 244 282 [vA 234, vI l1, vI l2, vI l3, vI l4] [] (GF X, M, PTF v) K else pm_Run d 244 269 [vA 234, vI l1, vI l2, vI l3, vI l4] [] (GF X, M, PTF v) K := by
  refine (px_go (by decide +kernel : pm_fe 244 264 = some (.iload 4, 2)) rfl).trans ?_
  refine (ry_if_eq (off := 16) (tgt := 282) h1 (by decide +kernel)).trans ?_
  exact Iff.rfl
theorem r244_269 {d : Nat} {X : Nat × (Nat → Int)} {v : Nat → Int} {M : PH} {K : PV → PS → Prop} {l1 l2 l3 l4 : Int} : pm_Run d 244 269 [vA 234, vI l1, vI l2, vI l3, vI l4] [] (GF X, M, PTF v) K ↔ pm_Call d 238 [vA 234, vI l3, vI (M 234 65)] (GF X, M, PTF v) (fun r9 S1 => pm_Run d 244 278 [vA 234, vI l1, vI l2, vI l3, vI l4] (pm_push r9 []) S1 K) := by
  refine (px_go (by decide +kernel : pm_fe 244 269 = some (.aload_n 0, 1)) rfl).trans ?_
  refine (px_go (by decide +kernel : pm_fe 244 270 = some (.iload_n 3, 1)) rfl).trans ?_
  refine (px_go (by decide +kernel : pm_fe 244 271 = some (.aload_n 0, 1)) rfl).trans ?_
  refine (ry_get0 (idx := 210) (ci := 12) (k := 65) (by decide +kernel : 234 < 283 ∧ SHF 234 = (12, 76)) (by decide +kernel)).trans ?_
  refine (ry_v2 (idx := 451) (m' := 238) (ci := 12) (by decide +kernel : 234 < 283 ∧ SHF 234 = (12, 76)) (by simp [pm_wl_n, pm_wl_c, pm_w] : pm_wl [] ≤ 8) (by decide +kernel)).trans ?_
  exact Iff.rfl
theorem r244_278 {d : Nat} {X : Nat × (Nat → Int)} {v : Nat → Int} {M : PH} {K : PV → PS → Prop} {l1 l2 l3 l4 s0 : Int} (h1 : inR s0) : pm_Run d 244 278 [vA 234, vI l1, vI l2, vI l3, vI l4] [vI s0] (GF X, M, PTF v) K ↔ pm_Run d 244 292 [vA 234, vI l1, vI l2, vI l3, vI l4] [vL s0] (GF X, M, PTF v) K := by
  refine (ry_i2l h1 (by decide +kernel)).trans ?_
  refine (px_goto (off := 13) (tgt := 292) (by decide +kernel)).trans ?_
  exact Iff.rfl
theorem r244_282 {d : Nat} {X : Nat × (Nat → Int)} {v : Nat → Int} {M : PH} {K : PV → PS → Prop} {l1 l2 l3 l4 : Int} : pm_Run d 244 282 [vA 234, vI l1, vI l2, vI l3, vI l4] [] (GF X, M, PTF v) K ↔ pm_Call d 240 [vA 234, vI l3, vI (M 234 66)] (GF X, M, PTF v) (fun r9 S1 => pm_Run d 244 291 [vA 234, vI l1, vI l2, vI l3, vI l4] (pm_push r9 []) S1 K) := by
  refine (px_go (by decide +kernel : pm_fe 244 282 = some (.aload_n 0, 1)) rfl).trans ?_
  refine (px_go (by decide +kernel : pm_fe 244 283 = some (.iload_n 3, 1)) rfl).trans ?_
  refine (px_go (by decide +kernel : pm_fe 244 284 = some (.aload_n 0, 1)) rfl).trans ?_
  refine (ry_get0 (idx := 213) (ci := 12) (k := 66) (by decide +kernel : 234 < 283 ∧ SHF 234 = (12, 76)) (by decide +kernel)).trans ?_
  refine (ry_v2 (idx := 460) (m' := 240) (ci := 12) (by decide +kernel : 234 < 283 ∧ SHF 234 = (12, 76)) (by simp [pm_wl_n, pm_wl_c, pm_w] : pm_wl [] ≤ 8) (by decide +kernel)).trans ?_
  exact Iff.rfl
theorem r244_291 {d : Nat} {X : Nat × (Nat → Int)} {v : Nat → Int} {M : PH} {K : PV → PS → Prop} {l1 l2 l3 l4 s0 : Int} (h1 : inR s0) : pm_Run d 244 291 [vA 234, vI l1, vI l2, vI l3, vI l4] [vI s0] (GF X, M, PTF v) K ↔ pm_Run d 244 292 [vA 234, vI l1, vI l2, vI l3, vI l4] [vL s0] (GF X, M, PTF v) K := by
  refine (ry_i2l h1 (by decide +kernel)).trans ?_
  exact Iff.rfl
theorem r244_292 {d : Nat} {X : Nat × (Nat → Int)} {v : Nat → Int} {M : PH} {K : PV → PS → Prop} {l1 l2 l3 l4 s0 : Int} : pm_Run d 244 292 [vA 234, vI l1, vI l2, vI l3, vI l4] [vL s0] (GF X, M, PTF v) K ↔ K (vL s0) (GF X, M, PTF v) := by
  refine (px_rl (by decide +kernel)).trans ?_
  exact Iff.rfl
theorem r244_293 {d : Nat} {X : Nat × (Nat → Int)} {v : Nat → Int} {M : PH} {K : PV → PS → Prop} {l1 l2 l3 l4 : Int} (h1 : inR l4) : pm_Run d 244 293 [vA 234, vI l1, vI l2, vI l3, vI l4] [] (GF X, M, PTF v) K ↔ if l4 = 0 then pm_Run d 244 323 [vA 234, vI l1, vI l2, vI l3, vI l4] [] (GF X, M, PTF v) K else pm_Run d 244 298 [vA 234, vI l1, vI l2, vI l3, vI l4] [] (GF X, M, PTF v) K := by
  refine (px_go (by decide +kernel : pm_fe 244 293 = some (.iload 4, 2)) rfl).trans ?_
  refine (ry_if_eq (off := 28) (tgt := 323) h1 (by decide +kernel)).trans ?_
  exact Iff.rfl
theorem r244_298 {d : Nat} {X : Nat × (Nat → Int)} {v : Nat → Int} {M : PH} {K : PV → PS → Prop} {l1 l2 l3 l4 : Int} (h1 : 0 ≤ ((3 * l3) + (M 234 65))) (h2 : ((3 * l3) + (M 234 65)) < 66) : pm_Run d 244 298 [vA 234, vI l1, vI l2, vI l3, vI l4] [] (GF X, M, PTF v) K ↔ pm_Call d 242 [vA 234, vI (M 271 ((3 * l3) + (M 234 65)).toNat), vI (M 234 67)] (GF X, M, PTF v) (fun r9 S1 => pm_Run d 244 319 [vA 234, vI l1, vI l2, vI l3, vI l4] (pm_push r9 []) S1 K) := by
  refine (px_go (by decide +kernel : pm_fe 244 298 = some (.aload_n 0, 1)) rfl).trans ?_
  refine (px_go (by decide +kernel : pm_fe 244 299 = some (.aload_n 0, 1)) rfl).trans ?_
  refine (ry_get2 (idx := 180) (ci := 12) (k := 55) (by decide +kernel : 234 < 283 ∧ SHF 234 = (12, 76)) (ptf_l (a := 234) (k := 55) (n := 271) (by decide +kernel)) (by decide +kernel)).trans ?_
  refine (px_go (by decide +kernel : pm_fe 244 303 = some (.iconst 3, 1)) rfl).trans ?_
  refine (px_go (by decide +kernel : pm_fe 244 304 = some (.iload_n 3, 1)) rfl).trans ?_
  refine (px_go (by decide +kernel : pm_fe 244 305 = some (.imul, 1)) rfl).trans ?_
  refine (px_go (by decide +kernel : pm_fe 244 306 = some (.aload_n 0, 1)) rfl).trans ?_
  refine (ry_get0 (idx := 210) (ci := 12) (k := 65) (by decide +kernel : 234 < 283 ∧ SHF 234 = (12, 76)) (by decide +kernel)).trans ?_
  refine (px_go (by decide +kernel : pm_fe 244 310 = some (.iadd, 1)) rfl).trans ?_
  refine (ry_iald (by decide +kernel : 271 < 283 ∧ SHF 271 = (100, 66)) h1 h2 (by decide +kernel)).trans ?_
  refine (px_go (by decide +kernel : pm_fe 244 312 = some (.aload_n 0, 1)) rfl).trans ?_
  refine (ry_get0 (idx := 216) (ci := 12) (k := 67) (by decide +kernel : 234 < 283 ∧ SHF 234 = (12, 76)) (by decide +kernel)).trans ?_
  refine (ry_v2 (idx := 463) (m' := 242) (ci := 12) (by decide +kernel : 234 < 283 ∧ SHF 234 = (12, 76)) (by simp [pm_wl_n, pm_wl_c, pm_w] : pm_wl [] ≤ 8) (by decide +kernel)).trans ?_
  exact Iff.rfl
theorem r244_319 {d : Nat} {X : Nat × (Nat → Int)} {v : Nat → Int} {M : PH} {K : PV → PS → Prop} {l1 l2 l3 l4 s0 : Int} (h1 : inR s0) : pm_Run d 244 319 [vA 234, vI l1, vI l2, vI l3, vI l4] [vI s0] (GF X, M, PTF v) K ↔ pm_Run d 244 324 [vA 234, vI l1, vI l2, vI l3, vI l4] [vL s0] (GF X, M, PTF v) K := by
  refine (ry_i2l h1 (by decide +kernel)).trans ?_
  refine (px_goto (off := 4) (tgt := 324) (by decide +kernel)).trans ?_
  exact Iff.rfl
theorem r244_323 {d : Nat} {X : Nat × (Nat → Int)} {v : Nat → Int} {M : PH} {K : PV → PS → Prop} {l1 l2 l3 l4 : Int} : pm_Run d 244 323 [vA 234, vI l1, vI l2, vI l3, vI l4] [] (GF X, M, PTF v) K ↔ pm_Run d 244 324 [vA 234, vI l1, vI l2, vI l3, vI l4] [vL 0] (GF X, M, PTF v) K := by
  refine (px_go (by decide +kernel : pm_fe 244 323 = some (.lconst 0, 1)) rfl).trans ?_
  exact Iff.rfl
theorem r244_324 {d : Nat} {X : Nat × (Nat → Int)} {v : Nat → Int} {M : PH} {K : PV → PS → Prop} {l1 l2 l3 l4 s0 : Int} : pm_Run d 244 324 [vA 234, vI l1, vI l2, vI l3, vI l4] [vL s0] (GF X, M, PTF v) K ↔ K (vL s0) (GF X, M, PTF v) := by
  refine (px_rl (by decide +kernel)).trans ?_
  exact Iff.rfl
theorem r244_325 {d : Nat} {X : Nat × (Nat → Int)} {v : Nat → Int} {M : PH} {K : PV → PS → Prop} {l1 l2 l3 l4 : Int} (h1 : inR l4) : pm_Run d 244 325 [vA 234, vI l1, vI l2, vI l3, vI l4] [] (GF X, M, PTF v) K ↔ if l4 = 0 then pm_Run d 244 347 [vA 234, vI l1, vI l2, vI l3, vI l4] [] (GF X, M, PTF v) K else pm_Run d 244 330 [vA 234, vI l1, vI l2, vI l3, vI l4] [] (GF X, M, PTF v) K := by
  refine (px_go (by decide +kernel : pm_fe 244 325 = some (.iload 4, 2)) rfl).trans ?_
  refine (ry_if_eq (off := 20) (tgt := 347) h1 (by decide +kernel)).trans ?_
  exact Iff.rfl
theorem r244_330 {d : Nat} {X : Nat × (Nat → Int)} {v : Nat → Int} {M : PH} {K : PV → PS → Prop} {l1 l2 l3 l4 : Int} (h1 : 0 ≤ ((3 * l3) + (M 234 65))) (h2 : ((3 * l3) + (M 234 65)) < 66) (h3 : inR (M 272 ((3 * l3) + (M 234 65)).toNat)) : pm_Run d 244 330 [vA 234, vI l1, vI l2, vI l3, vI l4] [] (GF X, M, PTF v) K ↔ pm_Run d 244 348 [vA 234, vI l1, vI l2, vI l3, vI l4] [vL (M 272 ((3 * l3) + (M 234 65)).toNat)] (GF X, M, PTF v) K := by
  refine (px_go (by decide +kernel : pm_fe 244 330 = some (.aload_n 0, 1)) rfl).trans ?_
  refine (ry_get2 (idx := 183) (ci := 12) (k := 56) (by decide +kernel : 234 < 283 ∧ SHF 234 = (12, 76)) (ptf_l (a := 234) (k := 56) (n := 272) (by decide +kernel)) (by decide +kernel)).trans ?_
  refine (px_go (by decide +kernel : pm_fe 244 334 = some (.iconst 3, 1)) rfl).trans ?_
  refine (px_go (by decide +kernel : pm_fe 244 335 = some (.iload_n 3, 1)) rfl).trans ?_
  refine (px_go (by decide +kernel : pm_fe 244 336 = some (.imul, 1)) rfl).trans ?_
  refine (px_go (by decide +kernel : pm_fe 244 337 = some (.aload_n 0, 1)) rfl).trans ?_
  refine (ry_get0 (idx := 210) (ci := 12) (k := 65) (by decide +kernel : 234 < 283 ∧ SHF 234 = (12, 76)) (by decide +kernel)).trans ?_
  refine (px_go (by decide +kernel : pm_fe 244 341 = some (.iadd, 1)) rfl).trans ?_
  refine (ry_iald (by decide +kernel : 272 < 283 ∧ SHF 272 = (100, 66)) h1 h2 (by decide +kernel)).trans ?_
  refine (ry_i2l h3 (by decide +kernel)).trans ?_
  refine (px_goto (off := 4) (tgt := 348) (by decide +kernel)).trans ?_
  exact Iff.rfl
theorem r244_347 {d : Nat} {X : Nat × (Nat → Int)} {v : Nat → Int} {M : PH} {K : PV → PS → Prop} {l1 l2 l3 l4 : Int} : pm_Run d 244 347 [vA 234, vI l1, vI l2, vI l3, vI l4] [] (GF X, M, PTF v) K ↔ pm_Run d 244 348 [vA 234, vI l1, vI l2, vI l3, vI l4] [vL 0] (GF X, M, PTF v) K := by
  refine (px_go (by decide +kernel : pm_fe 244 347 = some (.lconst 0, 1)) rfl).trans ?_
  exact Iff.rfl
theorem r244_348 {d : Nat} {X : Nat × (Nat → Int)} {v : Nat → Int} {M : PH} {K : PV → PS → Prop} {l1 l2 l3 l4 s0 : Int} : pm_Run d 244 348 [vA 234, vI l1, vI l2, vI l3, vI l4] [vL s0] (GF X, M, PTF v) K ↔ K (vL s0) (GF X, M, PTF v) := by
  refine (px_rl (by decide +kernel)).trans ?_
  exact Iff.rfl
theorem r244_349 {d : Nat} {X : Nat × (Nat → Int)} {v : Nat → Int} {M : PH} {K : PV → PS → Prop} {l1 l2 l3 l4 : Int} (h1 : inR l4) : pm_Run d 244 349 [vA 234, vI l1, vI l2, vI l3, vI l4] [] (GF X, M, PTF v) K ↔ if l4 = 0 then pm_Run d 244 370 [vA 234, vI l1, vI l2, vI l3, vI l4] [] (GF X, M, PTF v) K else pm_Run d 244 354 [vA 234, vI l1, vI l2, vI l3, vI l4] [] (GF X, M, PTF v) K := by
  refine (px_go (by decide +kernel : pm_fe 244 349 = some (.iload 4, 2)) rfl).trans ?_
  refine (ry_if_eq (off := 19) (tgt := 370) h1 (by decide +kernel)).trans ?_
  exact Iff.rfl
theorem r244_354 {d : Nat} {X : Nat × (Nat → Int)} {v : Nat → Int} {M : PH} {K : PV → PS → Prop} {l1 l2 l3 l4 : Int} : pm_Run d 244 354 [vA 234, vI l1, vI l2, vI l3, vI l4] [] (GF X, M, PTF v) K ↔ pm_Call d 243 [vA 234, vI l3, vI (M 234 65)] (GF X, M, PTF v) (fun r9 S1 => pm_Run d 244 363 [vA 234, vI l1, vI l2, vI l3, vI l4] (pm_push r9 []) S1 K) := by
  refine (px_go (by decide +kernel : pm_fe 244 354 = some (.aload_n 0, 1)) rfl).trans ?_
  refine (px_go (by decide +kernel : pm_fe 244 355 = some (.iload_n 3, 1)) rfl).trans ?_
  refine (px_go (by decide +kernel : pm_fe 244 356 = some (.aload_n 0, 1)) rfl).trans ?_
  refine (ry_get0 (idx := 210) (ci := 12) (k := 65) (by decide +kernel : 234 < 283 ∧ SHF 234 = (12, 76)) (by decide +kernel)).trans ?_
  refine (ry_v2 (idx := 466) (m' := 243) (ci := 12) (by decide +kernel : 234 < 283 ∧ SHF 234 = (12, 76)) (by simp [pm_wl_n, pm_wl_c, pm_w] : pm_wl [] ≤ 8) (by decide +kernel)).trans ?_
  exact Iff.rfl
theorem r244_363 {d : Nat} {X : Nat × (Nat → Int)} {v : Nat → Int} {M : PH} {K : PV → PS → Prop} {l1 l2 l3 l4 s0 : Int} (h1 : inR s0) : pm_Run d 244 363 [vA 234, vI l1, vI l2, vI l3, vI l4] [vI s0] (GF X, M, PTF v) K ↔ if s0 = 0 then pm_Run d 244 370 [vA 234, vI l1, vI l2, vI l3, vI l4] [] (GF X, M, PTF v) K else pm_Run d 244 366 [vA 234, vI l1, vI l2, vI l3, vI l4] [] (GF X, M, PTF v) K := by
  refine (ry_if_eq (off := 7) (tgt := 370) h1 (by decide +kernel)).trans ?_
  exact Iff.rfl
theorem r244_366 {d : Nat} {X : Nat × (Nat → Int)} {v : Nat → Int} {M : PH} {K : PV → PS → Prop} {l1 l2 l3 l4 : Int} : pm_Run d 244 366 [vA 234, vI l1, vI l2, vI l3, vI l4] [] (GF X, M, PTF v) K ↔ pm_Run d 244 371 [vA 234, vI l1, vI l2, vI l3, vI l4] [vL 1] (GF X, M, PTF v) K := by
  refine (px_go (by decide +kernel : pm_fe 244 366 = some (.lconst 1, 1)) rfl).trans ?_
  refine (px_goto (off := 4) (tgt := 371) (by decide +kernel)).trans ?_
  exact Iff.rfl
theorem r244_370 {d : Nat} {X : Nat × (Nat → Int)} {v : Nat → Int} {M : PH} {K : PV → PS → Prop} {l1 l2 l3 l4 : Int} : pm_Run d 244 370 [vA 234, vI l1, vI l2, vI l3, vI l4] [] (GF X, M, PTF v) K ↔ pm_Run d 244 371 [vA 234, vI l1, vI l2, vI l3, vI l4] [vL 0] (GF X, M, PTF v) K := by
  refine (px_go (by decide +kernel : pm_fe 244 370 = some (.lconst 0, 1)) rfl).trans ?_
  exact Iff.rfl
theorem r244_371 {d : Nat} {X : Nat × (Nat → Int)} {v : Nat → Int} {M : PH} {K : PV → PS → Prop} {l1 l2 l3 l4 s0 : Int} : pm_Run d 244 371 [vA 234, vI l1, vI l2, vI l3, vI l4] [vL s0] (GF X, M, PTF v) K ↔ K (vL s0) (GF X, M, PTF v) := by
  refine (px_rl (by decide +kernel)).trans ?_
  exact Iff.rfl
theorem r244_372 {d : Nat} {X : Nat × (Nat → Int)} {v : Nat → Int} {M : PH} {K : PV → PS → Prop} {l1 l2 l3 l4 : Int} (h1 : inR l4) : pm_Run d 244 372 [vA 234, vI l1, vI l2, vI l3, vI l4] [] (GF X, M, PTF v) K ↔ if l4 = 0 then pm_Run d 244 390 [vA 234, vI l1, vI l2, vI l3, vI l4] [] (GF X, M, PTF v) K else pm_Run d 244 377 [vA 234, vI l1, vI l2, vI l3, vI l4] [] (GF X, M, PTF v) K := by
  refine (px_go (by decide +kernel : pm_fe 244 372 = some (.iload 4, 2)) rfl).trans ?_
  refine (ry_if_eq (off := 16) (tgt := 390) h1 (by decide +kernel)).trans ?_
  exact Iff.rfl
theorem r244_377 {d : Nat} {X : Nat × (Nat → Int)} {v : Nat → Int} {M : PH} {K : PV → PS → Prop} {l1 l2 l3 l4 : Int} : pm_Run d 244 377 [vA 234, vI l1, vI l2, vI l3, vI l4] [] (GF X, M, PTF v) K ↔ pm_Call d 241 [vA 234, vI l3, vI (M 234 65)] (GF X, M, PTF v) (fun r9 S1 => pm_Run d 244 386 [vA 234, vI l1, vI l2, vI l3, vI l4] (pm_push r9 []) S1 K) := by
  refine (px_go (by decide +kernel : pm_fe 244 377 = some (.aload_n 0, 1)) rfl).trans ?_
  refine (px_go (by decide +kernel : pm_fe 244 378 = some (.iload_n 3, 1)) rfl).trans ?_
  refine (px_go (by decide +kernel : pm_fe 244 379 = some (.aload_n 0, 1)) rfl).trans ?_
  refine (ry_get0 (idx := 210) (ci := 12) (k := 65) (by decide +kernel : 234 < 283 ∧ SHF 234 = (12, 76)) (by decide +kernel)).trans ?_
  refine (ry_v2 (idx := 470) (m' := 241) (ci := 12) (by decide +kernel : 234 < 283 ∧ SHF 234 = (12, 76)) (by simp [pm_wl_n, pm_wl_c, pm_w] : pm_wl [] ≤ 8) (by decide +kernel)).trans ?_
  exact Iff.rfl
theorem r244_386 {d : Nat} {X : Nat × (Nat → Int)} {v : Nat → Int} {M : PH} {K : PV → PS → Prop} {l1 l2 l3 l4 s0 : Int} (h1 : inR s0) : pm_Run d 244 386 [vA 234, vI l1, vI l2, vI l3, vI l4] [vI s0] (GF X, M, PTF v) K ↔ pm_Run d 244 391 [vA 234, vI l1, vI l2, vI l3, vI l4] [vL s0] (GF X, M, PTF v) K := by
  refine (ry_i2l h1 (by decide +kernel)).trans ?_
  refine (px_goto (off := 4) (tgt := 391) (by decide +kernel)).trans ?_
  exact Iff.rfl
theorem r244_390 {d : Nat} {X : Nat × (Nat → Int)} {v : Nat → Int} {M : PH} {K : PV → PS → Prop} {l1 l2 l3 l4 : Int} : pm_Run d 244 390 [vA 234, vI l1, vI l2, vI l3, vI l4] [] (GF X, M, PTF v) K ↔ pm_Run d 244 391 [vA 234, vI l1, vI l2, vI l3, vI l4] [vL 0] (GF X, M, PTF v) K := by
  refine (px_go (by decide +kernel : pm_fe 244 390 = some (.lconst 0, 1)) rfl).trans ?_
  exact Iff.rfl
theorem r244_391 {d : Nat} {X : Nat × (Nat → Int)} {v : Nat → Int} {M : PH} {K : PV → PS → Prop} {l1 l2 l3 l4 s0 : Int} : pm_Run d 244 391 [vA 234, vI l1, vI l2, vI l3, vI l4] [vL s0] (GF X, M, PTF v) K ↔ K (vL s0) (GF X, M, PTF v) := by
  refine (px_rl (by decide +kernel)).trans ?_
  exact Iff.rfl
theorem r244_392 {d : Nat} {X : Nat × (Nat → Int)} {v : Nat → Int} {M : PH} {K : PV → PS → Prop} {l1 l2 l3 l4 : Int} (h1 : 0 ≤ l3) (h2 : l3 < 22) (h3 : inR (M 270 l3.toNat)) : pm_Run d 244 392 [vA 234, vI l1, vI l2, vI l3, vI l4] [] (GF X, M, PTF v) K ↔ K (vL (M 270 l3.toNat)) (GF X, M, PTF v) := by
  refine (px_go (by decide +kernel : pm_fe 244 392 = some (.aload_n 0, 1)) rfl).trans ?_
  refine (ry_get2 (idx := 177) (ci := 12) (k := 54) (by decide +kernel : 234 < 283 ∧ SHF 234 = (12, 76)) (ptf_l (a := 234) (k := 54) (n := 270) (by decide +kernel)) (by decide +kernel)).trans ?_
  refine (px_go (by decide +kernel : pm_fe 244 396 = some (.iload_n 3, 1)) rfl).trans ?_
  refine (ry_iald (by decide +kernel : 270 < 283 ∧ SHF 270 = (100, 22)) h1 h2 (by decide +kernel)).trans ?_
  refine (ry_i2l h3 (by decide +kernel)).trans ?_
  refine (px_rl (by decide +kernel)).trans ?_
  exact Iff.rfl
theorem r244_400 {d : Nat} {X : Nat × (Nat → Int)} {v : Nat → Int} {M : PH} {K : PV → PS → Prop} {l1 l2 l3 l4 : Int} (h1 : inR (M 234 67)) : pm_Run d 244 400 [vA 234, vI l1, vI l2, vI l3, vI l4] [] (GF X, M, PTF v) K ↔ K (vL (M 234 67)) (GF X, M, PTF v) := by
  refine (px_go (by decide +kernel : pm_fe 244 400 = some (.aload_n 0, 1)) rfl).trans ?_
  refine (ry_get0 (idx := 216) (ci := 12) (k := 67) (by decide +kernel : 234 < 283 ∧ SHF 234 = (12, 76)) (by decide +kernel)).trans ?_
  refine (ry_i2l h1 (by decide +kernel)).trans ?_
  refine (px_rl (by decide +kernel)).trans ?_
  exact Iff.rfl
theorem r244_406 {d : Nat} {X : Nat × (Nat → Int)} {v : Nat → Int} {M : PH} {K : PV → PS → Prop} {l1 l2 l3 l4 : Int} : pm_Run d 244 406 [vA 234, vI l1, vI l2, vI l3, vI l4] [] (GF X, M, PTF v) K ↔ K (vL 1) (GF X, M, PTF v) := by
  refine (px_go (by decide +kernel : pm_fe 244 406 = some (.lconst 1, 1)) rfl).trans ?_
  refine (px_rl (by decide +kernel)).trans ?_
  exact Iff.rfl
-- X12_held held(J)J
theorem r245_0 {d : Nat} {X : Nat × (Nat → Int)} {v : Nat → Int} {M : PH} {K : PV → PS → Prop} {l0 : Int} (h1 : inL l0) (h2 : inR (pm_cm l0 1000000)) : pm_Run d 245 0 [vL l0, PU] [] (GF X, M, PTF v) K ↔ if pm_cm l0 1000000 ≤ 0 then pm_Run d 245 14 [vL l0, PU] [] (GF X, M, PTF v) K else pm_Run d 245 8 [vL l0, PU] [] (GF X, M, PTF v) K := by
  refine (px_go (by decide +kernel : pm_fe 245 0 = some (.lload_n 0, 1)) rfl).trans ?_
  refine (px_ldcL (idx := 473) (x := 1000000) (by decide +kernel)).trans ?_
  refine (ry_lcmp h1 (by decide : (-9223372036854775808 ≤ (1000000 : Int) ∧ (1000000 : Int) < 9223372036854775808)) (by decide +kernel)).trans ?_
  refine (ry_if_le (off := 9) (tgt := 14) h2 (by decide +kernel)).trans ?_
  exact Iff.rfl
theorem r245_8 {d : Nat} {X : Nat × (Nat → Int)} {v : Nat → Int} {M : PH} {K : PV → PS → Prop} {l0 : Int} : pm_Run d 245 8 [vL l0, PU] [] (GF X, M, PTF v) K ↔ pm_Run d 245 29 [vL l0, PU] [vL 1000000] (GF X, M, PTF v) K := by
  refine (px_ldcL (idx := 473) (x := 1000000) (by decide +kernel)).trans ?_
  refine (px_goto (off := 18) (tgt := 29) (by decide +kernel)).trans ?_
  exact Iff.rfl
theorem r245_14 {d : Nat} {X : Nat × (Nat → Int)} {v : Nat → Int} {M : PH} {K : PV → PS → Prop} {l0 : Int} (h1 : inL l0) (h2 : inR (pm_cm l0 (-1000000))) : pm_Run d 245 14 [vL l0, PU] [] (GF X, M, PTF v) K ↔ if 0 ≤ pm_cm l0 (-1000000) then pm_Run d 245 28 [vL l0, PU] [] (GF X, M, PTF v) K else pm_Run d 245 22 [vL l0, PU] [] (GF X, M, PTF v) K := by
  refine (px_go (by decide +kernel : pm_fe 245 14 = some (.lload_n 0, 1)) rfl).trans ?_
  refine (px_ldcL (idx := 475) (x := (-1000000)) (by decide +kernel)).trans ?_
  refine (ry_lcmp h1 (by decide : (-9223372036854775808 ≤ ((-1000000) : Int) ∧ ((-1000000) : Int) < 9223372036854775808)) (by decide +kernel)).trans ?_
  refine (ry_if_ge (off := 9) (tgt := 28) h2 (by decide +kernel)).trans ?_
  exact Iff.rfl
theorem r245_22 {d : Nat} {X : Nat × (Nat → Int)} {v : Nat → Int} {M : PH} {K : PV → PS → Prop} {l0 : Int} : pm_Run d 245 22 [vL l0, PU] [] (GF X, M, PTF v) K ↔ pm_Run d 245 29 [vL l0, PU] [vL (-1000000)] (GF X, M, PTF v) K := by
  refine (px_ldcL (idx := 475) (x := (-1000000)) (by decide +kernel)).trans ?_
  refine (px_goto (off := 4) (tgt := 29) (by decide +kernel)).trans ?_
  exact Iff.rfl
theorem r245_28 {d : Nat} {X : Nat × (Nat → Int)} {v : Nat → Int} {M : PH} {K : PV → PS → Prop} {l0 : Int} : pm_Run d 245 28 [vL l0, PU] [] (GF X, M, PTF v) K ↔ pm_Run d 245 29 [vL l0, PU] [vL l0] (GF X, M, PTF v) K := by
  refine (px_go (by decide +kernel : pm_fe 245 28 = some (.lload_n 0, 1)) rfl).trans ?_
  exact Iff.rfl
theorem r245_29 {d : Nat} {X : Nat × (Nat → Int)} {v : Nat → Int} {M : PH} {K : PV → PS → Prop} {l0 s0 : Int} : pm_Run d 245 29 [vL l0, PU] [vL s0] (GF X, M, PTF v) K ↔ K (vL s0) (GF X, M, PTF v) := by
  refine (px_rl (by decide +kernel)).trans ?_
  exact Iff.rfl
-- X12_floor floor(JJ)J
theorem r246_0 {d : Nat} {X : Nat × (Nat → Int)} {v : Nat → Int} {M : PH} {K : PV → PS → Prop} {l0 l2 : Int} (h1 : inL l2) (h2 : inR (pm_cm l2 0)) : pm_Run d 246 0 [vL l0, PU, vL l2, PU, PU, PU] [] (GF X, M, PTF v) K ↔ if pm_cm l2 0 ≠ 0 then pm_Run d 246 8 [vL l0, PU, vL l2, PU, PU, PU] [] (GF X, M, PTF v) K else pm_Run d 246 6 [vL l0, PU, vL l2, PU, PU, PU] [] (GF X, M, PTF v) K := by
  refine (px_go (by decide +kernel : pm_fe 246 0 = some (.lload_n 2, 1)) rfl).trans ?_
  refine (px_go (by decide +kernel : pm_fe 246 1 = some (.lconst 0, 1)) rfl).trans ?_
  refine (ry_lcmp h1 (by decide : (-9223372036854775808 ≤ (0 : Int) ∧ (0 : Int) < 9223372036854775808)) (by decide +kernel)).trans ?_
  refine (ry_if_ne (off := 5) (tgt := 8) h2 (by decide +kernel)).trans ?_
  exact Iff.rfl
theorem r246_6 {d : Nat} {X : Nat × (Nat → Int)} {v : Nat → Int} {M : PH} {K : PV → PS → Prop} {l0 l2 : Int} : pm_Run d 246 6 [vL l0, PU, vL l2, PU, PU, PU] [] (GF X, M, PTF v) K ↔ K (vL 0) (GF X, M, PTF v) := by
  refine (px_go (by decide +kernel : pm_fe 246 6 = some (.lconst 0, 1)) rfl).trans ?_
  refine (px_rl (by decide +kernel)).trans ?_
  exact Iff.rfl
theorem r246_8 {d : Nat} {X : Nat × (Nat → Int)} {v : Nat → Int} {M : PH} {K : PV → PS → Prop} {l0 l2 : Int} (h1 : inL l0) (h2 : inL l2) (h3 : l2 ≠ 0) (h4 : inL (l0.tmod l2)) (h5 : inR (pm_cm (l0.tmod l2) 0)) : pm_Run d 246 8 [vL l0, PU, vL l2, PU, PU, PU] [] (GF X, M, PTF v) K ↔ if pm_cm (l0.tmod l2) 0 = 0 then pm_Run d 246 53 [vL l0, PU, vL l2, PU, vL (l0.tdiv l2), PU] [] (GF X, M, PTF v) K else pm_Run d 246 21 [vL l0, PU, vL l2, PU, vL (l0.tdiv l2), PU] [] (GF X, M, PTF v) K := by
  refine (px_go (by decide +kernel : pm_fe 246 8 = some (.lload_n 0, 1)) rfl).trans ?_
  refine (px_go (by decide +kernel : pm_fe 246 9 = some (.lload_n 2, 1)) rfl).trans ?_
  refine (ry_ldiv h1 h2 h3 (by decide +kernel)).trans ?_
  refine (px_go (by decide +kernel : pm_fe 246 11 = some (.lstore 4, 2)) rfl).trans ?_
  refine (px_go (by decide +kernel : pm_fe 246 13 = some (.lload_n 0, 1)) rfl).trans ?_
  refine (px_go (by decide +kernel : pm_fe 246 14 = some (.lload_n 2, 1)) rfl).trans ?_
  refine (ry_lrem h1 h2 h3 (by decide +kernel)).trans ?_
  refine (px_go (by decide +kernel : pm_fe 246 16 = some (.lconst 0, 1)) rfl).trans ?_
  refine (ry_lcmp h4 (by decide : (-9223372036854775808 ≤ (0 : Int) ∧ (0 : Int) < 9223372036854775808)) (by decide +kernel)).trans ?_
  refine (ry_if_eq (off := 35) (tgt := 53) h5 (by decide +kernel)).trans ?_
  exact Iff.rfl
theorem r246_21 {d : Nat} {X : Nat × (Nat → Int)} {v : Nat → Int} {M : PH} {K : PV → PS → Prop} {l0 l2 l4 : Int} (h1 : inL l0) (h2 : inR (pm_cm l0 0)) : pm_Run d 246 21 [vL l0, PU, vL l2, PU, vL l4, PU] [] (GF X, M, PTF v) K ↔ if 0 ≤ pm_cm l0 0 then pm_Run d 246 31 [vL l0, PU, vL l2, PU, vL l4, PU] [] (GF X, M, PTF v) K else pm_Run d 246 27 [vL l0, PU, vL l2, PU, vL l4, PU] [] (GF X, M, PTF v) K := by
  refine (px_go (by decide +kernel : pm_fe 246 21 = some (.lload_n 0, 1)) rfl).trans ?_
  refine (px_go (by decide +kernel : pm_fe 246 22 = some (.lconst 0, 1)) rfl).trans ?_
  refine (ry_lcmp h1 (by decide : (-9223372036854775808 ≤ (0 : Int) ∧ (0 : Int) < 9223372036854775808)) (by decide +kernel)).trans ?_
  refine (ry_if_ge (off := 7) (tgt := 31) h2 (by decide +kernel)).trans ?_
  exact Iff.rfl
theorem r246_27 {d : Nat} {X : Nat × (Nat → Int)} {v : Nat → Int} {M : PH} {K : PV → PS → Prop} {l0 l2 l4 : Int} : pm_Run d 246 27 [vL l0, PU, vL l2, PU, vL l4, PU] [] (GF X, M, PTF v) K ↔ pm_Run d 246 32 [vL l0, PU, vL l2, PU, vL l4, PU] [vI 1] (GF X, M, PTF v) K := by
  refine (px_go (by decide +kernel : pm_fe 246 27 = some (.iconst 1, 1)) rfl).trans ?_
  refine (px_goto (off := 4) (tgt := 32) (by decide +kernel)).trans ?_
  exact Iff.rfl
theorem r246_31 {d : Nat} {X : Nat × (Nat → Int)} {v : Nat → Int} {M : PH} {K : PV → PS → Prop} {l0 l2 l4 : Int} : pm_Run d 246 31 [vL l0, PU, vL l2, PU, vL l4, PU] [] (GF X, M, PTF v) K ↔ pm_Run d 246 32 [vL l0, PU, vL l2, PU, vL l4, PU] [vI 0] (GF X, M, PTF v) K := by
  refine (px_go (by decide +kernel : pm_fe 246 31 = some (.iconst 0, 1)) rfl).trans ?_
  exact Iff.rfl
theorem r246_32 {d : Nat} {X : Nat × (Nat → Int)} {v : Nat → Int} {M : PH} {K : PV → PS → Prop} {l0 l2 l4 s0 : Int} (h1 : inL l2) (h2 : inR (pm_cm l2 0)) : pm_Run d 246 32 [vL l0, PU, vL l2, PU, vL l4, PU] [vI s0] (GF X, M, PTF v) K ↔ if 0 ≤ pm_cm l2 0 then pm_Run d 246 42 [vL l0, PU, vL l2, PU, vL l4, PU] [vI s0] (GF X, M, PTF v) K else pm_Run d 246 38 [vL l0, PU, vL l2, PU, vL l4, PU] [vI s0] (GF X, M, PTF v) K := by
  refine (px_go (by decide +kernel : pm_fe 246 32 = some (.lload_n 2, 1)) rfl).trans ?_
  refine (px_go (by decide +kernel : pm_fe 246 33 = some (.lconst 0, 1)) rfl).trans ?_
  refine (ry_lcmp h1 (by decide : (-9223372036854775808 ≤ (0 : Int) ∧ (0 : Int) < 9223372036854775808)) (by decide +kernel)).trans ?_
  refine (ry_if_ge (off := 7) (tgt := 42) h2 (by decide +kernel)).trans ?_
  exact Iff.rfl
theorem r246_38 {d : Nat} {X : Nat × (Nat → Int)} {v : Nat → Int} {M : PH} {K : PV → PS → Prop} {l0 l2 l4 s0 : Int} : pm_Run d 246 38 [vL l0, PU, vL l2, PU, vL l4, PU] [vI s0] (GF X, M, PTF v) K ↔ pm_Run d 246 43 [vL l0, PU, vL l2, PU, vL l4, PU] [vI 1, vI s0] (GF X, M, PTF v) K := by
  refine (px_go (by decide +kernel : pm_fe 246 38 = some (.iconst 1, 1)) rfl).trans ?_
  refine (px_goto (off := 4) (tgt := 43) (by decide +kernel)).trans ?_
  exact Iff.rfl
theorem r246_42 {d : Nat} {X : Nat × (Nat → Int)} {v : Nat → Int} {M : PH} {K : PV → PS → Prop} {l0 l2 l4 s0 : Int} : pm_Run d 246 42 [vL l0, PU, vL l2, PU, vL l4, PU] [vI s0] (GF X, M, PTF v) K ↔ pm_Run d 246 43 [vL l0, PU, vL l2, PU, vL l4, PU] [vI 0, vI s0] (GF X, M, PTF v) K := by
  refine (px_go (by decide +kernel : pm_fe 246 42 = some (.iconst 0, 1)) rfl).trans ?_
  exact Iff.rfl
theorem r246_43 {d : Nat} {X : Nat × (Nat → Int)} {v : Nat → Int} {M : PH} {K : PV → PS → Prop} {l0 l2 l4 s0 s1 : Int} (h1 : inR s1) (h2 : inR s0) : pm_Run d 246 43 [vL l0, PU, vL l2, PU, vL l4, PU] [vI s0, vI s1] (GF X, M, PTF v) K ↔ if s1 = s0 then pm_Run d 246 53 [vL l0, PU, vL l2, PU, vL l4, PU] [] (GF X, M, PTF v) K else pm_Run d 246 46 [vL l0, PU, vL l2, PU, vL l4, PU] [] (GF X, M, PTF v) K := by
  refine (ry_ic_eq (off := 10) (tgt := 53) h1 h2 (by decide +kernel)).trans ?_
  exact Iff.rfl
theorem r246_46 {d : Nat} {X : Nat × (Nat → Int)} {v : Nat → Int} {M : PH} {K : PV → PS → Prop} {l0 l2 l4 : Int} : pm_Run d 246 46 [vL l0, PU, vL l2, PU, vL l4, PU] [] (GF X, M, PTF v) K ↔ pm_Run d 246 55 [vL l0, PU, vL l2, PU, vL l4, PU] [vL (l4 - 1)] (GF X, M, PTF v) K := by
  refine (px_go (by decide +kernel : pm_fe 246 46 = some (.lload 4, 2)) rfl).trans ?_
  refine (px_go (by decide +kernel : pm_fe 246 48 = some (.lconst 1, 1)) rfl).trans ?_
  refine (px_go (by decide +kernel : pm_fe 246 49 = some (.lsub, 1)) rfl).trans ?_
  refine (px_goto (off := 5) (tgt := 55) (by decide +kernel)).trans ?_
  exact Iff.rfl
theorem r246_53 {d : Nat} {X : Nat × (Nat → Int)} {v : Nat → Int} {M : PH} {K : PV → PS → Prop} {l0 l2 l4 : Int} : pm_Run d 246 53 [vL l0, PU, vL l2, PU, vL l4, PU] [] (GF X, M, PTF v) K ↔ pm_Run d 246 55 [vL l0, PU, vL l2, PU, vL l4, PU] [vL l4] (GF X, M, PTF v) K := by
  refine (px_go (by decide +kernel : pm_fe 246 53 = some (.lload 4, 2)) rfl).trans ?_
  exact Iff.rfl
theorem r246_55 {d : Nat} {X : Nat × (Nat → Int)} {v : Nat → Int} {M : PH} {K : PV → PS → Prop} {l0 l2 l4 s0 : Int} : pm_Run d 246 55 [vL l0, PU, vL l2, PU, vL l4, PU] [vL s0] (GF X, M, PTF v) K ↔ K (vL s0) (GF X, M, PTF v) := by
  refine (px_rl (by decide +kernel)).trans ?_
  exact Iff.rfl
-- X12_two two(IJJ)J
theorem r247_0 {d : Nat} {X : Nat × (Nat → Int)} {v : Nat → Int} {M : PH} {K : PV → PS → Prop} {l0 l1 l3 : Int} (h1 : inR l0) : pm_Run d 247 0 [vI l0, vL l1, PU, vL l3, PU] [] (GF X, M, PTF v) K ↔ pm_Run d 247 (pm_tg 10 [60, 67, 74, 81, 90, 113, 125, 137, 149, 161, 173] 177 l0) [vI l0, vL l1, PU, vL l3, PU] [] (GF X, M, PTF v) K := by
  refine (px_go (by decide +kernel : pm_fe 247 0 = some (.iload_n 0, 1)) rfl).trans ?_
  refine (ry_tsw (lo := 10) (dt := 177) (tl := [60, 67, 74, 81, 90, 113, 125, 137, 149, 161, 173]) h1 (by decide +kernel : pm_fe 247 1 = some (.tableswitch 176 10 20 #[59, 66, 73, 80, 89, 112, 124, 136, 148, 160, 172], 59) ∧ _)).trans ?_
  exact Iff.rfl
theorem r247_60 {d : Nat} {X : Nat × (Nat → Int)} {v : Nat → Int} {M : PH} {K : PV → PS → Prop} {l0 l1 l3 : Int} : pm_Run d 247 60 [vI l0, vL l1, PU, vL l3, PU] [] (GF X, M, PTF v) K ↔ pm_Call d 245 [vL (l1 + l3)] (GF X, M, PTF v) (fun r9 S1 => pm_Run d 247 66 [vI l0, vL l1, PU, vL l3, PU] (pm_push r9 []) S1 K) := by
  refine (px_go (by decide +kernel : pm_fe 247 60 = some (.lload_n 1, 1)) rfl).trans ?_
  refine (px_go (by decide +kernel : pm_fe 247 61 = some (.lload_n 3, 1)) rfl).trans ?_
  refine (px_go (by decide +kernel : pm_fe 247 62 = some (.ladd, 1)) rfl).trans ?_
  refine (px_s1 (idx := 477) (m' := 245) (nest := 0) (by decide +kernel)).trans ((and_iff_right (by simp [pm_wl_n, pm_wl_c, pm_w] : pm_wl [] ≤ 8)).trans ?_)
  exact Iff.rfl
theorem r247_66 {d : Nat} {X : Nat × (Nat → Int)} {v : Nat → Int} {M : PH} {K : PV → PS → Prop} {l0 l1 l3 s0 : Int} : pm_Run d 247 66 [vI l0, vL l1, PU, vL l3, PU] [vL s0] (GF X, M, PTF v) K ↔ K (vL s0) (GF X, M, PTF v) := by
  refine (px_rl (by decide +kernel)).trans ?_
  exact Iff.rfl
theorem r247_67 {d : Nat} {X : Nat × (Nat → Int)} {v : Nat → Int} {M : PH} {K : PV → PS → Prop} {l0 l1 l3 : Int} : pm_Run d 247 67 [vI l0, vL l1, PU, vL l3, PU] [] (GF X, M, PTF v) K ↔ pm_Call d 245 [vL (l1 - l3)] (GF X, M, PTF v) (fun r9 S1 => pm_Run d 247 73 [vI l0, vL l1, PU, vL l3, PU] (pm_push r9 []) S1 K) := by
  refine (px_go (by decide +kernel : pm_fe 247 67 = some (.lload_n 1, 1)) rfl).trans ?_
  refine (px_go (by decide +kernel : pm_fe 247 68 = some (.lload_n 3, 1)) rfl).trans ?_
  refine (px_go (by decide +kernel : pm_fe 247 69 = some (.lsub, 1)) rfl).trans ?_
  refine (px_s1 (idx := 477) (m' := 245) (nest := 0) (by decide +kernel)).trans ((and_iff_right (by simp [pm_wl_n, pm_wl_c, pm_w] : pm_wl [] ≤ 8)).trans ?_)
  exact Iff.rfl
theorem r247_73 {d : Nat} {X : Nat × (Nat → Int)} {v : Nat → Int} {M : PH} {K : PV → PS → Prop} {l0 l1 l3 s0 : Int} : pm_Run d 247 73 [vI l0, vL l1, PU, vL l3, PU] [vL s0] (GF X, M, PTF v) K ↔ K (vL s0) (GF X, M, PTF v) := by
  refine (px_rl (by decide +kernel)).trans ?_
  exact Iff.rfl
theorem r247_74 {d : Nat} {X : Nat × (Nat → Int)} {v : Nat → Int} {M : PH} {K : PV → PS → Prop} {l0 l1 l3 : Int} : pm_Run d 247 74 [vI l0, vL l1, PU, vL l3, PU] [] (GF X, M, PTF v) K ↔ pm_Call d 245 [vL (l1 * l3)] (GF X, M, PTF v) (fun r9 S1 => pm_Run d 247 80 [vI l0, vL l1, PU, vL l3, PU] (pm_push r9 []) S1 K) := by
  refine (px_go (by decide +kernel : pm_fe 247 74 = some (.lload_n 1, 1)) rfl).trans ?_
  refine (px_go (by decide +kernel : pm_fe 247 75 = some (.lload_n 3, 1)) rfl).trans ?_
  refine (px_go (by decide +kernel : pm_fe 247 76 = some (.lmul, 1)) rfl).trans ?_
  refine (px_s1 (idx := 477) (m' := 245) (nest := 0) (by decide +kernel)).trans ((and_iff_right (by simp [pm_wl_n, pm_wl_c, pm_w] : pm_wl [] ≤ 8)).trans ?_)
  exact Iff.rfl
theorem r247_80 {d : Nat} {X : Nat × (Nat → Int)} {v : Nat → Int} {M : PH} {K : PV → PS → Prop} {l0 l1 l3 s0 : Int} : pm_Run d 247 80 [vI l0, vL l1, PU, vL l3, PU] [vL s0] (GF X, M, PTF v) K ↔ K (vL s0) (GF X, M, PTF v) := by
  refine (px_rl (by decide +kernel)).trans ?_
  exact Iff.rfl
theorem r247_81 {d : Nat} {X : Nat × (Nat → Int)} {v : Nat → Int} {M : PH} {K : PV → PS → Prop} {l0 l1 l3 : Int} : pm_Run d 247 81 [vI l0, vL l1, PU, vL l3, PU] [] (GF X, M, PTF v) K ↔ pm_Call d 246 [vL l1, vL l3] (GF X, M, PTF v) (fun r9 S1 => pm_Run d 247 86 [vI l0, vL l1, PU, vL l3, PU] (pm_push r9 []) S1 K) := by
  refine (px_go (by decide +kernel : pm_fe 247 81 = some (.lload_n 1, 1)) rfl).trans ?_
  refine (px_go (by decide +kernel : pm_fe 247 82 = some (.lload_n 3, 1)) rfl).trans ?_
  refine (px_s2 (idx := 481) (m' := 246) (nest := 0) (by decide +kernel)).trans ((and_iff_right (by simp [pm_wl_n, pm_wl_c, pm_w] : pm_wl [] ≤ 8)).trans ?_)
  exact Iff.rfl
theorem r247_86 {d : Nat} {X : Nat × (Nat → Int)} {v : Nat → Int} {M : PH} {K : PV → PS → Prop} {l0 l1 l3 s0 : Int} : pm_Run d 247 86 [vI l0, vL l1, PU, vL l3, PU] [vL s0] (GF X, M, PTF v) K ↔ pm_Call d 245 [vL s0] (GF X, M, PTF v) (fun r9 S1 => pm_Run d 247 89 [vI l0, vL l1, PU, vL l3, PU] (pm_push r9 []) S1 K) := by
  refine (px_s1 (idx := 477) (m' := 245) (nest := 0) (by decide +kernel)).trans ((and_iff_right (by simp [pm_wl_n, pm_wl_c, pm_w] : pm_wl [] ≤ 8)).trans ?_)
  exact Iff.rfl
theorem r247_89 {d : Nat} {X : Nat × (Nat → Int)} {v : Nat → Int} {M : PH} {K : PV → PS → Prop} {l0 l1 l3 s0 : Int} : pm_Run d 247 89 [vI l0, vL l1, PU, vL l3, PU] [vL s0] (GF X, M, PTF v) K ↔ K (vL s0) (GF X, M, PTF v) := by
  refine (px_rl (by decide +kernel)).trans ?_
  exact Iff.rfl
theorem r247_90 {d : Nat} {X : Nat × (Nat → Int)} {v : Nat → Int} {M : PH} {K : PV → PS → Prop} {l0 l1 l3 : Int} (h1 : inL l3) (h2 : inR (pm_cm l3 0)) : pm_Run d 247 90 [vI l0, vL l1, PU, vL l3, PU] [] (GF X, M, PTF v) K ↔ if pm_cm l3 0 ≠ 0 then pm_Run d 247 100 [vI l0, vL l1, PU, vL l3, PU] [] (GF X, M, PTF v) K else pm_Run d 247 96 [vI l0, vL l1, PU, vL l3, PU] [] (GF X, M, PTF v) K := by
  refine (px_go (by decide +kernel : pm_fe 247 90 = some (.lload_n 3, 1)) rfl).trans ?_
  refine (px_go (by decide +kernel : pm_fe 247 91 = some (.lconst 0, 1)) rfl).trans ?_
  refine (ry_lcmp h1 (by decide : (-9223372036854775808 ≤ (0 : Int) ∧ (0 : Int) < 9223372036854775808)) (by decide +kernel)).trans ?_
  refine (ry_if_ne (off := 7) (tgt := 100) h2 (by decide +kernel)).trans ?_
  exact Iff.rfl
theorem r247_96 {d : Nat} {X : Nat × (Nat → Int)} {v : Nat → Int} {M : PH} {K : PV → PS → Prop} {l0 l1 l3 : Int} : pm_Run d 247 96 [vI l0, vL l1, PU, vL l3, PU] [] (GF X, M, PTF v) K ↔ pm_Run d 247 112 [vI l0, vL l1, PU, vL l3, PU] [vL 0] (GF X, M, PTF v) K := by
  refine (px_go (by decide +kernel : pm_fe 247 96 = some (.lconst 0, 1)) rfl).trans ?_
  refine (px_goto (off := 15) (tgt := 112) (by decide +kernel)).trans ?_
  exact Iff.rfl
theorem r247_100 {d : Nat} {X : Nat × (Nat → Int)} {v : Nat → Int} {M : PH} {K : PV → PS → Prop} {l0 l1 l3 : Int} : pm_Run d 247 100 [vI l0, vL l1, PU, vL l3, PU] [] (GF X, M, PTF v) K ↔ pm_Call d 246 [vL l1, vL l3] (GF X, M, PTF v) (fun r9 S1 => pm_Run d 247 107 [vI l0, vL l1, PU, vL l3, PU] (pm_push r9 [vL l3, vL l1]) S1 K) := by
  refine (px_go (by decide +kernel : pm_fe 247 100 = some (.lload_n 1, 1)) rfl).trans ?_
  refine (px_go (by decide +kernel : pm_fe 247 101 = some (.lload_n 3, 1)) rfl).trans ?_
  refine (px_go (by decide +kernel : pm_fe 247 102 = some (.lload_n 1, 1)) rfl).trans ?_
  refine (px_go (by decide +kernel : pm_fe 247 103 = some (.lload_n 3, 1)) rfl).trans ?_
  refine (px_s2 (idx := 481) (m' := 246) (nest := 0) (by decide +kernel)).trans ((and_iff_right (by simp [pm_wl_n, pm_wl_c, pm_w] : pm_wl [vL l3, vL l1] ≤ 8)).trans ?_)
  exact Iff.rfl
theorem r247_107 {d : Nat} {X : Nat × (Nat → Int)} {v : Nat → Int} {M : PH} {K : PV → PS → Prop} {l0 l1 l3 s0 s1 s2 : Int} : pm_Run d 247 107 [vI l0, vL l1, PU, vL l3, PU] [vL s0, vL s1, vL s2] (GF X, M, PTF v) K ↔ pm_Call d 245 [vL (s2 - (s1 * s0))] (GF X, M, PTF v) (fun r9 S1 => pm_Run d 247 112 [vI l0, vL l1, PU, vL l3, PU] (pm_push r9 []) S1 K) := by
  refine (px_go (by decide +kernel : pm_fe 247 107 = some (.lmul, 1)) rfl).trans ?_
  refine (px_go (by decide +kernel : pm_fe 247 108 = some (.lsub, 1)) rfl).trans ?_
  refine (px_s1 (idx := 477) (m' := 245) (nest := 0) (by decide +kernel)).trans ((and_iff_right (by simp [pm_wl_n, pm_wl_c, pm_w] : pm_wl [] ≤ 8)).trans ?_)
  exact Iff.rfl
theorem r247_112 {d : Nat} {X : Nat × (Nat → Int)} {v : Nat → Int} {M : PH} {K : PV → PS → Prop} {l0 l1 l3 s0 : Int} : pm_Run d 247 112 [vI l0, vL l1, PU, vL l3, PU] [vL s0] (GF X, M, PTF v) K ↔ K (vL s0) (GF X, M, PTF v) := by
  refine (px_rl (by decide +kernel)).trans ?_
  exact Iff.rfl
theorem r247_113 {d : Nat} {X : Nat × (Nat → Int)} {v : Nat → Int} {M : PH} {K : PV → PS → Prop} {l0 l1 l3 : Int} (h1 : inL l1) (h2 : inL l3) (h3 : inR (pm_cm l1 l3)) : pm_Run d 247 113 [vI l0, vL l1, PU, vL l3, PU] [] (GF X, M, PTF v) K ↔ if 0 ≤ pm_cm l1 l3 then pm_Run d 247 123 [vI l0, vL l1, PU, vL l3, PU] [] (GF X, M, PTF v) K else pm_Run d 247 119 [vI l0, vL l1, PU, vL l3, PU] [] (GF X, M, PTF v) K := by
  refine (px_go (by decide +kernel : pm_fe 247 113 = some (.lload_n 1, 1)) rfl).trans ?_
  refine (px_go (by decide +kernel : pm_fe 247 114 = some (.lload_n 3, 1)) rfl).trans ?_
  refine (ry_lcmp h1 h2 (by decide +kernel)).trans ?_
  refine (ry_if_ge (off := 7) (tgt := 123) h3 (by decide +kernel)).trans ?_
  exact Iff.rfl
theorem r247_119 {d : Nat} {X : Nat × (Nat → Int)} {v : Nat → Int} {M : PH} {K : PV → PS → Prop} {l0 l1 l3 : Int} : pm_Run d 247 119 [vI l0, vL l1, PU, vL l3, PU] [] (GF X, M, PTF v) K ↔ pm_Run d 247 124 [vI l0, vL l1, PU, vL l3, PU] [vL l1] (GF X, M, PTF v) K := by
  refine (px_go (by decide +kernel : pm_fe 247 119 = some (.lload_n 1, 1)) rfl).trans ?_
  refine (px_goto (off := 4) (tgt := 124) (by decide +kernel)).trans ?_
  exact Iff.rfl
theorem r247_123 {d : Nat} {X : Nat × (Nat → Int)} {v : Nat → Int} {M : PH} {K : PV → PS → Prop} {l0 l1 l3 : Int} : pm_Run d 247 123 [vI l0, vL l1, PU, vL l3, PU] [] (GF X, M, PTF v) K ↔ pm_Run d 247 124 [vI l0, vL l1, PU, vL l3, PU] [vL l3] (GF X, M, PTF v) K := by
  refine (px_go (by decide +kernel : pm_fe 247 123 = some (.lload_n 3, 1)) rfl).trans ?_
  exact Iff.rfl
theorem r247_124 {d : Nat} {X : Nat × (Nat → Int)} {v : Nat → Int} {M : PH} {K : PV → PS → Prop} {l0 l1 l3 s0 : Int} : pm_Run d 247 124 [vI l0, vL l1, PU, vL l3, PU] [vL s0] (GF X, M, PTF v) K ↔ K (vL s0) (GF X, M, PTF v) := by
  refine (px_rl (by decide +kernel)).trans ?_
  exact Iff.rfl
theorem r247_125 {d : Nat} {X : Nat × (Nat → Int)} {v : Nat → Int} {M : PH} {K : PV → PS → Prop} {l0 l1 l3 : Int} (h1 : inL l1) (h2 : inL l3) (h3 : inR (pm_cm l1 l3)) : pm_Run d 247 125 [vI l0, vL l1, PU, vL l3, PU] [] (GF X, M, PTF v) K ↔ if pm_cm l1 l3 ≤ 0 then pm_Run d 247 135 [vI l0, vL l1, PU, vL l3, PU] [] (GF X, M, PTF v) K else pm_Run d 247 131 [vI l0, vL l1, PU, vL l3, PU] [] (GF X, M, PTF v) K := by
  refine (px_go (by decide +kernel : pm_fe 247 125 = some (.lload_n 1, 1)) rfl).trans ?_
  refine (px_go (by decide +kernel : pm_fe 247 126 = some (.lload_n 3, 1)) rfl).trans ?_
  refine (ry_lcmp h1 h2 (by decide +kernel)).trans ?_
  refine (ry_if_le (off := 7) (tgt := 135) h3 (by decide +kernel)).trans ?_
  exact Iff.rfl
theorem r247_131 {d : Nat} {X : Nat × (Nat → Int)} {v : Nat → Int} {M : PH} {K : PV → PS → Prop} {l0 l1 l3 : Int} : pm_Run d 247 131 [vI l0, vL l1, PU, vL l3, PU] [] (GF X, M, PTF v) K ↔ pm_Run d 247 136 [vI l0, vL l1, PU, vL l3, PU] [vL l1] (GF X, M, PTF v) K := by
  refine (px_go (by decide +kernel : pm_fe 247 131 = some (.lload_n 1, 1)) rfl).trans ?_
  refine (px_goto (off := 4) (tgt := 136) (by decide +kernel)).trans ?_
  exact Iff.rfl
theorem r247_135 {d : Nat} {X : Nat × (Nat → Int)} {v : Nat → Int} {M : PH} {K : PV → PS → Prop} {l0 l1 l3 : Int} : pm_Run d 247 135 [vI l0, vL l1, PU, vL l3, PU] [] (GF X, M, PTF v) K ↔ pm_Run d 247 136 [vI l0, vL l1, PU, vL l3, PU] [vL l3] (GF X, M, PTF v) K := by
  refine (px_go (by decide +kernel : pm_fe 247 135 = some (.lload_n 3, 1)) rfl).trans ?_
  exact Iff.rfl
theorem r247_136 {d : Nat} {X : Nat × (Nat → Int)} {v : Nat → Int} {M : PH} {K : PV → PS → Prop} {l0 l1 l3 s0 : Int} : pm_Run d 247 136 [vI l0, vL l1, PU, vL l3, PU] [vL s0] (GF X, M, PTF v) K ↔ K (vL s0) (GF X, M, PTF v) := by
  refine (px_rl (by decide +kernel)).trans ?_
  exact Iff.rfl
theorem r247_137 {d : Nat} {X : Nat × (Nat → Int)} {v : Nat → Int} {M : PH} {K : PV → PS → Prop} {l0 l1 l3 : Int} (h1 : inL l1) (h2 : inL l3) (h3 : inR (pm_cm l1 l3)) : pm_Run d 247 137 [vI l0, vL l1, PU, vL l3, PU] [] (GF X, M, PTF v) K ↔ if 0 ≤ pm_cm l1 l3 then pm_Run d 247 147 [vI l0, vL l1, PU, vL l3, PU] [] (GF X, M, PTF v) K else pm_Run d 247 143 [vI l0, vL l1, PU, vL l3, PU] [] (GF X, M, PTF v) K := by
  refine (px_go (by decide +kernel : pm_fe 247 137 = some (.lload_n 1, 1)) rfl).trans ?_
  refine (px_go (by decide +kernel : pm_fe 247 138 = some (.lload_n 3, 1)) rfl).trans ?_
  refine (ry_lcmp h1 h2 (by decide +kernel)).trans ?_
  refine (ry_if_ge (off := 7) (tgt := 147) h3 (by decide +kernel)).trans ?_
  exact Iff.rfl
theorem r247_143 {d : Nat} {X : Nat × (Nat → Int)} {v : Nat → Int} {M : PH} {K : PV → PS → Prop} {l0 l1 l3 : Int} : pm_Run d 247 143 [vI l0, vL l1, PU, vL l3, PU] [] (GF X, M, PTF v) K ↔ pm_Run d 247 148 [vI l0, vL l1, PU, vL l3, PU] [vL 1] (GF X, M, PTF v) K := by
  refine (px_go (by decide +kernel : pm_fe 247 143 = some (.lconst 1, 1)) rfl).trans ?_
  refine (px_goto (off := 4) (tgt := 148) (by decide +kernel)).trans ?_
  exact Iff.rfl
theorem r247_147 {d : Nat} {X : Nat × (Nat → Int)} {v : Nat → Int} {M : PH} {K : PV → PS → Prop} {l0 l1 l3 : Int} : pm_Run d 247 147 [vI l0, vL l1, PU, vL l3, PU] [] (GF X, M, PTF v) K ↔ pm_Run d 247 148 [vI l0, vL l1, PU, vL l3, PU] [vL 0] (GF X, M, PTF v) K := by
  refine (px_go (by decide +kernel : pm_fe 247 147 = some (.lconst 0, 1)) rfl).trans ?_
  exact Iff.rfl
theorem r247_148 {d : Nat} {X : Nat × (Nat → Int)} {v : Nat → Int} {M : PH} {K : PV → PS → Prop} {l0 l1 l3 s0 : Int} : pm_Run d 247 148 [vI l0, vL l1, PU, vL l3, PU] [vL s0] (GF X, M, PTF v) K ↔ K (vL s0) (GF X, M, PTF v) := by
  refine (px_rl (by decide +kernel)).trans ?_
  exact Iff.rfl
theorem r247_149 {d : Nat} {X : Nat × (Nat → Int)} {v : Nat → Int} {M : PH} {K : PV → PS → Prop} {l0 l1 l3 : Int} (h1 : inL l1) (h2 : inL l3) (h3 : inR (pm_cm l1 l3)) : pm_Run d 247 149 [vI l0, vL l1, PU, vL l3, PU] [] (GF X, M, PTF v) K ↔ if pm_cm l1 l3 ≤ 0 then pm_Run d 247 159 [vI l0, vL l1, PU, vL l3, PU] [] (GF X, M, PTF v) K else pm_Run d 247 155 [vI l0, vL l1, PU, vL l3, PU] [] (GF X, M, PTF v) K := by
  refine (px_go (by decide +kernel : pm_fe 247 149 = some (.lload_n 1, 1)) rfl).trans ?_
  refine (px_go (by decide +kernel : pm_fe 247 150 = some (.lload_n 3, 1)) rfl).trans ?_
  refine (ry_lcmp h1 h2 (by decide +kernel)).trans ?_
  refine (ry_if_le (off := 7) (tgt := 159) h3 (by decide +kernel)).trans ?_
  exact Iff.rfl
theorem r247_155 {d : Nat} {X : Nat × (Nat → Int)} {v : Nat → Int} {M : PH} {K : PV → PS → Prop} {l0 l1 l3 : Int} : pm_Run d 247 155 [vI l0, vL l1, PU, vL l3, PU] [] (GF X, M, PTF v) K ↔ pm_Run d 247 160 [vI l0, vL l1, PU, vL l3, PU] [vL 1] (GF X, M, PTF v) K := by
  refine (px_go (by decide +kernel : pm_fe 247 155 = some (.lconst 1, 1)) rfl).trans ?_
  refine (px_goto (off := 4) (tgt := 160) (by decide +kernel)).trans ?_
  exact Iff.rfl
theorem r247_159 {d : Nat} {X : Nat × (Nat → Int)} {v : Nat → Int} {M : PH} {K : PV → PS → Prop} {l0 l1 l3 : Int} : pm_Run d 247 159 [vI l0, vL l1, PU, vL l3, PU] [] (GF X, M, PTF v) K ↔ pm_Run d 247 160 [vI l0, vL l1, PU, vL l3, PU] [vL 0] (GF X, M, PTF v) K := by
  refine (px_go (by decide +kernel : pm_fe 247 159 = some (.lconst 0, 1)) rfl).trans ?_
  exact Iff.rfl
theorem r247_160 {d : Nat} {X : Nat × (Nat → Int)} {v : Nat → Int} {M : PH} {K : PV → PS → Prop} {l0 l1 l3 s0 : Int} : pm_Run d 247 160 [vI l0, vL l1, PU, vL l3, PU] [vL s0] (GF X, M, PTF v) K ↔ K (vL s0) (GF X, M, PTF v) := by
  refine (px_rl (by decide +kernel)).trans ?_
  exact Iff.rfl
theorem r247_161 {d : Nat} {X : Nat × (Nat → Int)} {v : Nat → Int} {M : PH} {K : PV → PS → Prop} {l0 l1 l3 : Int} (h1 : inL l1) (h2 : inL l3) (h3 : inR (pm_cm l1 l3)) : pm_Run d 247 161 [vI l0, vL l1, PU, vL l3, PU] [] (GF X, M, PTF v) K ↔ if pm_cm l1 l3 ≠ 0 then pm_Run d 247 171 [vI l0, vL l1, PU, vL l3, PU] [] (GF X, M, PTF v) K else pm_Run d 247 167 [vI l0, vL l1, PU, vL l3, PU] [] (GF X, M, PTF v) K := by
  refine (px_go (by decide +kernel : pm_fe 247 161 = some (.lload_n 1, 1)) rfl).trans ?_
  refine (px_go (by decide +kernel : pm_fe 247 162 = some (.lload_n 3, 1)) rfl).trans ?_
  refine (ry_lcmp h1 h2 (by decide +kernel)).trans ?_
  refine (ry_if_ne (off := 7) (tgt := 171) h3 (by decide +kernel)).trans ?_
  exact Iff.rfl
theorem r247_167 {d : Nat} {X : Nat × (Nat → Int)} {v : Nat → Int} {M : PH} {K : PV → PS → Prop} {l0 l1 l3 : Int} : pm_Run d 247 167 [vI l0, vL l1, PU, vL l3, PU] [] (GF X, M, PTF v) K ↔ pm_Run d 247 172 [vI l0, vL l1, PU, vL l3, PU] [vL 1] (GF X, M, PTF v) K := by
  refine (px_go (by decide +kernel : pm_fe 247 167 = some (.lconst 1, 1)) rfl).trans ?_
  refine (px_goto (off := 4) (tgt := 172) (by decide +kernel)).trans ?_
  exact Iff.rfl
theorem r247_171 {d : Nat} {X : Nat × (Nat → Int)} {v : Nat → Int} {M : PH} {K : PV → PS → Prop} {l0 l1 l3 : Int} : pm_Run d 247 171 [vI l0, vL l1, PU, vL l3, PU] [] (GF X, M, PTF v) K ↔ pm_Run d 247 172 [vI l0, vL l1, PU, vL l3, PU] [vL 0] (GF X, M, PTF v) K := by
  refine (px_go (by decide +kernel : pm_fe 247 171 = some (.lconst 0, 1)) rfl).trans ?_
  exact Iff.rfl
theorem r247_172 {d : Nat} {X : Nat × (Nat → Int)} {v : Nat → Int} {M : PH} {K : PV → PS → Prop} {l0 l1 l3 s0 : Int} : pm_Run d 247 172 [vI l0, vL l1, PU, vL l3, PU] [vL s0] (GF X, M, PTF v) K ↔ K (vL s0) (GF X, M, PTF v) := by
  refine (px_rl (by decide +kernel)).trans ?_
  exact Iff.rfl
theorem r247_173 {d : Nat} {X : Nat × (Nat → Int)} {v : Nat → Int} {M : PH} {K : PV → PS → Prop} {l0 l1 l3 : Int} : pm_Run d 247 173 [vI l0, vL l1, PU, vL l3, PU] [] (GF X, M, PTF v) K ↔ K (vL (pm_land l1 l3)) (GF X, M, PTF v) := by
  refine (px_go (by decide +kernel : pm_fe 247 173 = some (.lload_n 1, 1)) rfl).trans ?_
  refine (px_go (by decide +kernel : pm_fe 247 174 = some (.lload_n 3, 1)) rfl).trans ?_
  refine (px_go (by decide +kernel : pm_fe 247 175 = some (.land, 1)) rfl).trans ?_
  refine (px_rl (by decide +kernel)).trans ?_
  exact Iff.rfl
theorem r247_177 {d : Nat} {X : Nat × (Nat → Int)} {v : Nat → Int} {M : PH} {K : PV → PS → Prop} {l0 l1 l3 : Int} : pm_Run d 247 177 [vI l0, vL l1, PU, vL l3, PU] [] (GF X, M, PTF v) K ↔ K (vL (pm_lor l1 l3)) (GF X, M, PTF v) := by
  refine (px_go (by decide +kernel : pm_fe 247 177 = some (.lload_n 1, 1)) rfl).trans ?_
  refine (px_go (by decide +kernel : pm_fe 247 178 = some (.lload_n 3, 1)) rfl).trans ?_
  refine (px_go (by decide +kernel : pm_fe 247 179 = some (.lor, 1)) rfl).trans ?_
  refine (px_rl (by decide +kernel)).trans ?_
  exact Iff.rfl
-- X12_isPart isPart(I)Z
theorem r248_0 {d : Nat} {X : Nat × (Nat → Int)} {v : Nat → Int} {M : PH} {K : PV → PS → Prop} {l0 : Int} (h1 : inR l0) : pm_Run d 248 0 [vI l0] [] (GF X, M, PTF v) K ↔ if l0 < 10 then pm_Run d 248 12 [vI l0] [] (GF X, M, PTF v) K else pm_Run d 248 6 [vI l0] [] (GF X, M, PTF v) K := by
  refine (px_go (by decide +kernel : pm_fe 248 0 = some (.iload_n 0, 1)) rfl).trans ?_
  refine (px_go (by decide +kernel : pm_fe 248 1 = some (.bipush 10, 2)) rfl).trans ?_
  refine (ry_ic_lt (off := 9) (tgt := 12) h1 (by decide : (-2147483648 ≤ (10 : Int) ∧ (10 : Int) < 2147483648)) (by decide +kernel)).trans ?_
  exact Iff.rfl
theorem r248_6 {d : Nat} {X : Nat × (Nat → Int)} {v : Nat → Int} {M : PH} {K : PV → PS → Prop} {l0 : Int} (h1 : inR l0) : pm_Run d 248 6 [vI l0] [] (GF X, M, PTF v) K ↔ if l0 < 30 then pm_Run d 248 16 [vI l0] [] (GF X, M, PTF v) K else pm_Run d 248 12 [vI l0] [] (GF X, M, PTF v) K := by
  refine (px_go (by decide +kernel : pm_fe 248 6 = some (.iload_n 0, 1)) rfl).trans ?_
  refine (px_go (by decide +kernel : pm_fe 248 7 = some (.bipush 30, 2)) rfl).trans ?_
  refine (ry_ic_lt (off := 7) (tgt := 16) h1 (by decide : (-2147483648 ≤ (30 : Int) ∧ (30 : Int) < 2147483648)) (by decide +kernel)).trans ?_
  exact Iff.rfl
theorem r248_12 {d : Nat} {X : Nat × (Nat → Int)} {v : Nat → Int} {M : PH} {K : PV → PS → Prop} {l0 : Int} : pm_Run d 248 12 [vI l0] [] (GF X, M, PTF v) K ↔ pm_Run d 248 17 [vI l0] [vI 1] (GF X, M, PTF v) K := by
  refine (px_go (by decide +kernel : pm_fe 248 12 = some (.iconst 1, 1)) rfl).trans ?_
  refine (px_goto (off := 4) (tgt := 17) (by decide +kernel)).trans ?_
  exact Iff.rfl
theorem r248_16 {d : Nat} {X : Nat × (Nat → Int)} {v : Nat → Int} {M : PH} {K : PV → PS → Prop} {l0 : Int} : pm_Run d 248 16 [vI l0] [] (GF X, M, PTF v) K ↔ pm_Run d 248 17 [vI l0] [vI 0] (GF X, M, PTF v) K := by
  refine (px_go (by decide +kernel : pm_fe 248 16 = some (.iconst 0, 1)) rfl).trans ?_
  exact Iff.rfl
theorem r248_17 {d : Nat} {X : Nat × (Nat → Int)} {v : Nat → Int} {M : PH} {K : PV → PS → Prop} {l0 s0 : Int} (h1 : s0 = 0 ∨ s0 = 1) : pm_Run d 248 17 [vI l0] [vI s0] (GF X, M, PTF v) K ↔ K (vI s0) (GF X, M, PTF v) := by
  refine (px_rz (by decide +kernel)).trans ((and_iff_right h1).trans ?_)
  exact Iff.rfl
-- X12_reckons reckons(II)J
theorem r249_0 {d : Nat} {X : Nat × (Nat → Int)} {v : Nat → Int} {M : PH} {K : PV → PS → Prop} {l1 l2 : Int} : pm_Run d 249 0 [vA 234, vI l1, vI l2, PU, PU, PU] [] (GF X, M, PTF v) K ↔ pm_Run d 249 14 [vA 234, vI l1, vI l2, vI 0, vI ((1600 * (M 234 13)) + l1), PU] [] (GF X, M, PTF v) K := by
  refine (px_go (by decide +kernel : pm_fe 249 0 = some (.iconst 0, 1)) rfl).trans ?_
  refine (px_go (by decide +kernel : pm_fe 249 1 = some (.istore_n 3, 1)) rfl).trans ?_
  refine (px_go (by decide +kernel : pm_fe 249 2 = some (.sipush 1600, 3)) rfl).trans ?_
  refine (px_go (by decide +kernel : pm_fe 249 5 = some (.aload_n 0, 1)) rfl).trans ?_
  refine (ry_get0 (idx := 51) (ci := 12) (k := 13) (by decide +kernel : 234 < 283 ∧ SHF 234 = (12, 76)) (by decide +kernel)).trans ?_
  refine (px_go (by decide +kernel : pm_fe 249 9 = some (.imul, 1)) rfl).trans ?_
  refine (px_go (by decide +kernel : pm_fe 249 10 = some (.iload_n 1, 1)) rfl).trans ?_
  refine (px_go (by decide +kernel : pm_fe 249 11 = some (.iadd, 1)) rfl).trans ?_
  refine (px_go (by decide +kernel : pm_fe 249 12 = some (.istore 4, 2)) rfl).trans ?_
  exact Iff.rfl
theorem r249_14 {d : Nat} {X : Nat × (Nat → Int)} {v : Nat → Int} {M : PH} {K : PV → PS → Prop} {l1 l2 l3 l4 : Int} {l5 : PV} (h1 : inR l4) (h2 : inR ((1600 * (M 234 13)) + l2)) : pm_Run d 249 14 [vA 234, vI l1, vI l2, vI l3, vI l4, l5] [] (GF X, M, PTF v) K ↔ if (1600 * (M 234 13)) + l2 ≤ l4 then pm_Run d 249 135 [vA 234, vI l1, vI l2, vI l3, vI l4, l5] [] (GF X, M, PTF v) K else pm_Run d 249 29 [vA 234, vI l1, vI l2, vI l3, vI l4, l5] [] (GF X, M, PTF v) K := by
  refine (px_go (by decide +kernel : pm_fe 249 14 = some (.iload 4, 2)) rfl).trans ?_
  refine (px_go (by decide +kernel : pm_fe 249 16 = some (.sipush 1600, 3)) rfl).trans ?_
  refine (px_go (by decide +kernel : pm_fe 249 19 = some (.aload_n 0, 1)) rfl).trans ?_
  refine (ry_get0 (idx := 51) (ci := 12) (k := 13) (by decide +kernel : 234 < 283 ∧ SHF 234 = (12, 76)) (by decide +kernel)).trans ?_
  refine (px_go (by decide +kernel : pm_fe 249 23 = some (.imul, 1)) rfl).trans ?_
  refine (px_go (by decide +kernel : pm_fe 249 24 = some (.iload_n 2, 1)) rfl).trans ?_
  refine (px_go (by decide +kernel : pm_fe 249 25 = some (.iadd, 1)) rfl).trans ?_
  refine (ry_ic_ge (off := 109) (tgt := 135) h1 h2 (by decide +kernel)).trans ?_
  exact Iff.rfl
theorem r249_29 {d : Nat} {X : Nat × (Nat → Int)} {v : Nat → Int} {M : PH} {K : PV → PS → Prop} {l1 l2 l3 l4 : Int} {l5 : PV} (h1 : 0 ≤ l4) (h2 : l4 < 3200) : pm_Run d 249 29 [vA 234, vI l1, vI l2, vI l3, vI l4, l5] [] (GF X, M, PTF v) K ↔ pm_Call d 248 [vI (M 259 l4.toNat)] (GF X, M, PTF v) (fun r9 S1 => pm_Run d 249 43 [vA 234, vI l1, vI l2, vI l3, vI l4, vI (M 259 l4.toNat)] (pm_push r9 []) S1 K) := by
  refine (px_go (by decide +kernel : pm_fe 249 29 = some (.aload_n 0, 1)) rfl).trans ?_
  refine (ry_get2 (idx := 123) (ci := 12) (k := 37) (by decide +kernel : 234 < 283 ∧ SHF 234 = (12, 76)) (ptf_l (a := 234) (k := 37) (n := 259) (by decide +kernel)) (by decide +kernel)).trans ?_
  refine (px_go (by decide +kernel : pm_fe 249 33 = some (.iload 4, 2)) rfl).trans ?_
  refine (ry_iald (by decide +kernel : 259 < 283 ∧ SHF 259 = (100, 3200)) h1 h2 (by decide +kernel)).trans ?_
  refine (px_go (by decide +kernel : pm_fe 249 36 = some (.istore 5, 2)) rfl).trans ?_
  refine (px_go (by decide +kernel : pm_fe 249 38 = some (.iload 5, 2)) rfl).trans ?_
  refine (px_s1 (idx := 485) (m' := 248) (nest := 0) (by decide +kernel)).trans ((and_iff_right (by simp [pm_wl_n, pm_wl_c, pm_w] : pm_wl [] ≤ 8)).trans ?_)
  exact Iff.rfl
theorem r249_43 {d : Nat} {X : Nat × (Nat → Int)} {v : Nat → Int} {M : PH} {K : PV → PS → Prop} {l1 l2 l3 l4 l5 s0 : Int} (h1 : inR s0) : pm_Run d 249 43 [vA 234, vI l1, vI l2, vI l3, vI l4, vI l5] [vI s0] (GF X, M, PTF v) K ↔ if s0 = 0 then pm_Run d 249 71 [vA 234, vI l1, vI l2, vI l3, vI l4, vI l5] [] (GF X, M, PTF v) K else pm_Run d 249 46 [vA 234, vI l1, vI l2, vI l3, vI l4, vI l5] [] (GF X, M, PTF v) K := by
  refine (ry_if_eq (off := 28) (tgt := 71) h1 (by decide +kernel)).trans ?_
  exact Iff.rfl
theorem r249_46 {d : Nat} {X : Nat × (Nat → Int)} {v : Nat → Int} {M : PH} {K : PV → PS → Prop} {l1 l2 l3 l4 l5 : Int} (h1 : 0 ≤ l4) (h2 : l4 < 3200) : pm_Run d 249 46 [vA 234, vI l1, vI l2, vI l3, vI l4, vI l5] [] (GF X, M, PTF v) K ↔ pm_Call d 244 [vA 234, vI l5, vI (M 260 l4.toNat)] (GF X, M, PTF v) (fun r9 S1 => pm_Run d 249 64 [vA 234, vI l1, vI l2, vI l3, vI l4, vI l5] (pm_push r9 [vI l3, vA 276]) S1 K) := by
  refine (px_go (by decide +kernel : pm_fe 249 46 = some (.aload_n 0, 1)) rfl).trans ?_
  refine (ry_get2 (idx := 204) (ci := 12) (k := 63) (by decide +kernel : 234 < 283 ∧ SHF 234 = (12, 76)) (ptf_l (a := 234) (k := 63) (n := 276) (by decide +kernel)) (by decide +kernel)).trans ?_
  refine (px_go (by decide +kernel : pm_fe 249 50 = some (.iload_n 3, 1)) rfl).trans ?_
  refine (px_go (by decide +kernel : pm_fe 249 51 = some (.aload_n 0, 1)) rfl).trans ?_
  refine (px_go (by decide +kernel : pm_fe 249 52 = some (.iload 5, 2)) rfl).trans ?_
  refine (px_go (by decide +kernel : pm_fe 249 54 = some (.aload_n 0, 1)) rfl).trans ?_
  refine (ry_get2 (idx := 126) (ci := 12) (k := 38) (by decide +kernel : 234 < 283 ∧ SHF 234 = (12, 76)) (ptf_l (a := 234) (k := 38) (n := 260) (by decide +kernel)) (by decide +kernel)).trans ?_
  refine (px_go (by decide +kernel : pm_fe 249 58 = some (.iload 4, 2)) rfl).trans ?_
  refine (ry_iald (by decide +kernel : 260 < 283 ∧ SHF 260 = (100, 3200)) h1 h2 (by decide +kernel)).trans ?_
  refine (ry_v2 (idx := 488) (m' := 244) (ci := 12) (by decide +kernel : 234 < 283 ∧ SHF 234 = (12, 76)) (by simp [pm_wl_n, pm_wl_c, pm_w] : pm_wl [vI l3, vA 276] ≤ 8) (by decide +kernel)).trans ?_
  exact Iff.rfl
theorem r249_64 {d : Nat} {X : Nat × (Nat → Int)} {v : Nat → Int} {M : PH} {K : PV → PS → Prop} {l1 l2 l3 l4 l5 s0 s1 : Int} (h1 : 0 ≤ s1) (h2 : s1 < 500) : pm_Run d 249 64 [vA 234, vI l1, vI l2, vI l3, vI l4, vI l5] [vL s0, vI s1, vA 276] (GF X, M, PTF v) K ↔ pm_Run d 249 65 [vA 234, vI l1, vI l2, vI l3, vI l4, vI l5] [] (GF X, pm_sa M 276 (pm_up (M 276) s1.toNat s0), PTF v) K := by
  refine (ry_last (by decide +kernel : 276 < 283 ∧ SHF 276 = (103, 500)) h1 h2 (by decide +kernel)).trans ?_
  exact Iff.rfl
theorem r249_65 {d : Nat} {X : Nat × (Nat → Int)} {v : Nat → Int} {M : PH} {K : PV → PS → Prop} {l1 l2 l3 l4 l5 : Int} : pm_Run d 249 65 [vA 234, vI l1, vI l2, vI l3, vI l4, vI l5] [] (GF X, M, PTF v) K ↔ pm_Run d 249 129 [vA 234, vI l1, vI l2, vI (l3 + 1), vI l4, vI l5] [] (GF X, M, PTF v) K := by
  refine (px_go (by decide +kernel : pm_fe 249 65 = some (.iinc 3 1, 3)) rfl).trans ?_
  refine (px_goto (off := 61) (tgt := 129) (by decide +kernel)).trans ?_
  exact Iff.rfl
theorem r249_71 {d : Nat} {X : Nat × (Nat → Int)} {v : Nat → Int} {M : PH} {K : PV → PS → Prop} {l1 l2 l3 l4 l5 : Int} (h1 : inR l5) : pm_Run d 249 71 [vA 234, vI l1, vI l2, vI l3, vI l4, vI l5] [] (GF X, M, PTF v) K ↔ if l5 ≠ 22 then pm_Run d 249 99 [vA 234, vI l1, vI l2, vI l3, vI l4, vI l5] [] (GF X, M, PTF v) K else pm_Run d 249 78 [vA 234, vI l1, vI l2, vI l3, vI l4, vI l5] [] (GF X, M, PTF v) K := by
  refine (px_go (by decide +kernel : pm_fe 249 71 = some (.iload 5, 2)) rfl).trans ?_
  refine (px_go (by decide +kernel : pm_fe 249 73 = some (.bipush 22, 2)) rfl).trans ?_
  refine (ry_ic_ne (off := 24) (tgt := 99) h1 (by decide : (-2147483648 ≤ (22 : Int) ∧ (22 : Int) < 2147483648)) (by decide +kernel)).trans ?_
  exact Iff.rfl
theorem r249_78 {d : Nat} {X : Nat × (Nat → Int)} {v : Nat → Int} {M : PH} {K : PV → PS → Prop} {l1 l2 l3 l4 l5 : Int} (h1 : 0 ≤ (l3 - 1)) (h2 : (l3 - 1) < 500) : pm_Run d 249 78 [vA 234, vI l1, vI l2, vI l3, vI l4, vI l5] [] (GF X, M, PTF v) K ↔ pm_Run d 249 129 [vA 234, vI l1, vI l2, vI l3, vI l4, vI l5] [] (GF X, pm_sa M 276 (pm_up (M 276) (l3 - 1).toNat (1 - (M 276 (l3 - 1).toNat))), PTF v) K := by
  refine (px_go (by decide +kernel : pm_fe 249 78 = some (.aload_n 0, 1)) rfl).trans ?_
  refine (ry_get2 (idx := 204) (ci := 12) (k := 63) (by decide +kernel : 234 < 283 ∧ SHF 234 = (12, 76)) (ptf_l (a := 234) (k := 63) (n := 276) (by decide +kernel)) (by decide +kernel)).trans ?_
  refine (px_go (by decide +kernel : pm_fe 249 82 = some (.iload_n 3, 1)) rfl).trans ?_
  refine (px_go (by decide +kernel : pm_fe 249 83 = some (.iconst 1, 1)) rfl).trans ?_
  refine (px_go (by decide +kernel : pm_fe 249 84 = some (.isub, 1)) rfl).trans ?_
  refine (px_go (by decide +kernel : pm_fe 249 85 = some (.lconst 1, 1)) rfl).trans ?_
  refine (px_go (by decide +kernel : pm_fe 249 86 = some (.aload_n 0, 1)) rfl).trans ?_
  refine (ry_get2 (idx := 204) (ci := 12) (k := 63) (by decide +kernel : 234 < 283 ∧ SHF 234 = (12, 76)) (ptf_l (a := 234) (k := 63) (n := 276) (by decide +kernel)) (by decide +kernel)).trans ?_
  refine (px_go (by decide +kernel : pm_fe 249 90 = some (.iload_n 3, 1)) rfl).trans ?_
  refine (px_go (by decide +kernel : pm_fe 249 91 = some (.iconst 1, 1)) rfl).trans ?_
  refine (px_go (by decide +kernel : pm_fe 249 92 = some (.isub, 1)) rfl).trans ?_
  refine (ry_lald (by decide +kernel : 276 < 283 ∧ SHF 276 = (103, 500)) h1 h2 (by decide +kernel)).trans ?_
  refine (px_go (by decide +kernel : pm_fe 249 94 = some (.lsub, 1)) rfl).trans ?_
  refine (ry_last (by decide +kernel : 276 < 283 ∧ SHF 276 = (103, 500)) h1 h2 (by decide +kernel)).trans ?_
  refine (px_goto (off := 33) (tgt := 129) (by decide +kernel)).trans ?_
  exact Iff.rfl
theorem r249_99 {d : Nat} {X : Nat × (Nat → Int)} {v : Nat → Int} {M : PH} {K : PV → PS → Prop} {l1 l2 l3 l4 l5 : Int} (h1 : 0 ≤ ((l3 + (-1)) - 1)) (h2 : ((l3 + (-1)) - 1) < 500) (h3 : 0 ≤ (l3 + (-1))) (h4 : (l3 + (-1)) < 500) : pm_Run d 249 99 [vA 234, vI l1, vI l2, vI l3, vI l4, vI l5] [] (GF X, M, PTF v) K ↔ pm_Call d 247 [vI l5, vL (M 276 ((l3 + (-1)) - 1).toNat), vL (M 276 (l3 + (-1)).toNat)] (GF X, M, PTF v) (fun r9 S1 => pm_Run d 249 128 [vA 234, vI l1, vI l2, vI (l3 + (-1)), vI l4, vI l5] (pm_push r9 [vI ((l3 + (-1)) - 1), vA 276]) S1 K) := by
  refine (px_go (by decide +kernel : pm_fe 249 99 = some (.iinc 3 (-1), 3)) rfl).trans ?_
  refine (px_go (by decide +kernel : pm_fe 249 102 = some (.aload_n 0, 1)) rfl).trans ?_
  refine (ry_get2 (idx := 204) (ci := 12) (k := 63) (by decide +kernel : 234 < 283 ∧ SHF 234 = (12, 76)) (ptf_l (a := 234) (k := 63) (n := 276) (by decide +kernel)) (by decide +kernel)).trans ?_
  refine (px_go (by decide +kernel : pm_fe 249 106 = some (.iload_n 3, 1)) rfl).trans ?_
  refine (px_go (by decide +kernel : pm_fe 249 107 = some (.iconst 1, 1)) rfl).trans ?_
  refine (px_go (by decide +kernel : pm_fe 249 108 = some (.isub, 1)) rfl).trans ?_
  refine (px_go (by decide +kernel : pm_fe 249 109 = some (.iload 5, 2)) rfl).trans ?_
  refine (px_go (by decide +kernel : pm_fe 249 111 = some (.aload_n 0, 1)) rfl).trans ?_
  refine (ry_get2 (idx := 204) (ci := 12) (k := 63) (by decide +kernel : 234 < 283 ∧ SHF 234 = (12, 76)) (ptf_l (a := 234) (k := 63) (n := 276) (by decide +kernel)) (by decide +kernel)).trans ?_
  refine (px_go (by decide +kernel : pm_fe 249 115 = some (.iload_n 3, 1)) rfl).trans ?_
  refine (px_go (by decide +kernel : pm_fe 249 116 = some (.iconst 1, 1)) rfl).trans ?_
  refine (px_go (by decide +kernel : pm_fe 249 117 = some (.isub, 1)) rfl).trans ?_
  refine (ry_lald (by decide +kernel : 276 < 283 ∧ SHF 276 = (103, 500)) h1 h2 (by decide +kernel)).trans ?_
  refine (px_go (by decide +kernel : pm_fe 249 119 = some (.aload_n 0, 1)) rfl).trans ?_
  refine (ry_get2 (idx := 204) (ci := 12) (k := 63) (by decide +kernel : 234 < 283 ∧ SHF 234 = (12, 76)) (ptf_l (a := 234) (k := 63) (n := 276) (by decide +kernel)) (by decide +kernel)).trans ?_
  refine (px_go (by decide +kernel : pm_fe 249 123 = some (.iload_n 3, 1)) rfl).trans ?_
  refine (ry_lald (by decide +kernel : 276 < 283 ∧ SHF 276 = (103, 500)) h3 h4 (by decide +kernel)).trans ?_
  refine (px_s3 (idx := 492) (m' := 247) (nest := 0) (by decide +kernel)).trans ((and_iff_right (by simp [pm_wl_n, pm_wl_c, pm_w] : pm_wl [vI ((l3 + (-1)) - 1), vA 276] ≤ 8)).trans ?_)
  exact Iff.rfl
theorem r249_128 {d : Nat} {X : Nat × (Nat → Int)} {v : Nat → Int} {M : PH} {K : PV → PS → Prop} {l1 l2 l3 l4 l5 s0 s1 : Int} (h1 : 0 ≤ s1) (h2 : s1 < 500) : pm_Run d 249 128 [vA 234, vI l1, vI l2, vI l3, vI l4, vI l5] [vL s0, vI s1, vA 276] (GF X, M, PTF v) K ↔ pm_Run d 249 129 [vA 234, vI l1, vI l2, vI l3, vI l4, vI l5] [] (GF X, pm_sa M 276 (pm_up (M 276) s1.toNat s0), PTF v) K := by
  refine (ry_last (by decide +kernel : 276 < 283 ∧ SHF 276 = (103, 500)) h1 h2 (by decide +kernel)).trans ?_
  exact Iff.rfl
theorem r249_129 {d : Nat} {X : Nat × (Nat → Int)} {v : Nat → Int} {M : PH} {K : PV → PS → Prop} {l1 l2 l3 l4 l5 : Int} : pm_Run d 249 129 [vA 234, vI l1, vI l2, vI l3, vI l4, vI l5] [] (GF X, M, PTF v) K ↔ pm_Run d 249 14 [vA 234, vI l1, vI l2, vI l3, vI (l4 + 1), vI l5] [] (GF X, M, PTF v) K := by
  refine (px_go (by decide +kernel : pm_fe 249 129 = some (.iinc 4 1, 3)) rfl).trans ?_
  refine (px_goto (off := (-118)) (tgt := 14) (by decide +kernel)).trans ?_
  exact Iff.rfl
theorem r249_135 {d : Nat} {X : Nat × (Nat → Int)} {v : Nat → Int} {M : PH} {K : PV → PS → Prop} {l1 l2 l3 l4 : Int} {l5 : PV} : pm_Run d 249 135 [vA 234, vI l1, vI l2, vI l3, vI l4, l5] [] (GF X, M, PTF v) K ↔ K (vL (M 276 0)) (GF X, M, PTF v) := by
  refine (px_go (by decide +kernel : pm_fe 249 135 = some (.aload_n 0, 1)) rfl).trans ?_
  refine (ry_get2 (idx := 204) (ci := 12) (k := 63) (by decide +kernel : 234 < 283 ∧ SHF 234 = (12, 76)) (ptf_l (a := 234) (k := 63) (n := 276) (by decide +kernel)) (by decide +kernel)).trans ?_
  refine (px_go (by decide +kernel : pm_fe 249 139 = some (.iconst 0, 1)) rfl).trans ?_
  refine (ry_lald (by decide +kernel : 276 < 283 ∧ SHF 276 = (103, 500)) (by decide : (0 : Int) ≤ (0 : Int)) (by decide : (0 : Int) < (500 : Int)) (by decide +kernel)).trans ?_
  refine (px_rl (by decide +kernel)).trans ?_
  exact Iff.rfl
-- X12_between between(JII)I
theorem r250_0 {d : Nat} {X : Nat × (Nat → Int)} {v : Nat → Int} {M : PH} {K : PV → PS → Prop} {l0 l2 l3 : Int} (h1 : inR l2) (h2 : inL l0) (h3 : inL l2) (h4 : inR (pm_cm l0 l2)) : pm_Run d 250 0 [vL l0, PU, vI l2, vI l3] [] (GF X, M, PTF v) K ↔ if 0 ≤ pm_cm l0 l2 then pm_Run d 250 11 [vL l0, PU, vI l2, vI l3] [] (GF X, M, PTF v) K else pm_Run d 250 7 [vL l0, PU, vI l2, vI l3] [] (GF X, M, PTF v) K := by
  refine (px_go (by decide +kernel : pm_fe 250 0 = some (.lload_n 0, 1)) rfl).trans ?_
  refine (px_go (by decide +kernel : pm_fe 250 1 = some (.iload_n 2, 1)) rfl).trans ?_
  refine (ry_i2l h1 (by decide +kernel)).trans ?_
  refine (ry_lcmp h2 h3 (by decide +kernel)).trans ?_
  refine (ry_if_ge (off := 7) (tgt := 11) h4 (by decide +kernel)).trans ?_
  exact Iff.rfl
theorem r250_7 {d : Nat} {X : Nat × (Nat → Int)} {v : Nat → Int} {M : PH} {K : PV → PS → Prop} {l0 l2 l3 : Int} : pm_Run d 250 7 [vL l0, PU, vI l2, vI l3] [] (GF X, M, PTF v) K ↔ pm_Run d 250 24 [vL l0, PU, vI l2, vI l3] [vI l2] (GF X, M, PTF v) K := by
  refine (px_go (by decide +kernel : pm_fe 250 7 = some (.iload_n 2, 1)) rfl).trans ?_
  refine (px_goto (off := 16) (tgt := 24) (by decide +kernel)).trans ?_
  exact Iff.rfl
theorem r250_11 {d : Nat} {X : Nat × (Nat → Int)} {v : Nat → Int} {M : PH} {K : PV → PS → Prop} {l0 l2 l3 : Int} (h1 : inR l3) (h2 : inL l0) (h3 : inL l3) (h4 : inR (pm_cm l0 l3)) : pm_Run d 250 11 [vL l0, PU, vI l2, vI l3] [] (GF X, M, PTF v) K ↔ if pm_cm l0 l3 ≤ 0 then pm_Run d 250 22 [vL l0, PU, vI l2, vI l3] [] (GF X, M, PTF v) K else pm_Run d 250 18 [vL l0, PU, vI l2, vI l3] [] (GF X, M, PTF v) K := by
  refine (px_go (by decide +kernel : pm_fe 250 11 = some (.lload_n 0, 1)) rfl).trans ?_
  refine (px_go (by decide +kernel : pm_fe 250 12 = some (.iload_n 3, 1)) rfl).trans ?_
  refine (ry_i2l h1 (by decide +kernel)).trans ?_
  refine (ry_lcmp h2 h3 (by decide +kernel)).trans ?_
  refine (ry_if_le (off := 7) (tgt := 22) h4 (by decide +kernel)).trans ?_
  exact Iff.rfl
theorem r250_18 {d : Nat} {X : Nat × (Nat → Int)} {v : Nat → Int} {M : PH} {K : PV → PS → Prop} {l0 l2 l3 : Int} : pm_Run d 250 18 [vL l0, PU, vI l2, vI l3] [] (GF X, M, PTF v) K ↔ pm_Run d 250 24 [vL l0, PU, vI l2, vI l3] [vI l3] (GF X, M, PTF v) K := by
  refine (px_go (by decide +kernel : pm_fe 250 18 = some (.iload_n 3, 1)) rfl).trans ?_
  refine (px_goto (off := 5) (tgt := 24) (by decide +kernel)).trans ?_
  exact Iff.rfl
theorem r250_22 {d : Nat} {X : Nat × (Nat → Int)} {v : Nat → Int} {M : PH} {K : PV → PS → Prop} {l0 l2 l3 : Int} : pm_Run d 250 22 [vL l0, PU, vI l2, vI l3] [] (GF X, M, PTF v) K ↔ pm_Run d 250 24 [vL l0, PU, vI l2, vI l3] [vI l0] (GF X, M, PTF v) K := by
  refine (px_go (by decide +kernel : pm_fe 250 22 = some (.lload_n 0, 1)) rfl).trans ?_
  refine (px_go (by decide +kernel : pm_fe 250 23 = some (.l2i, 1)) rfl).trans ?_
  exact Iff.rfl
theorem r250_24 {d : Nat} {X : Nat × (Nat → Int)} {v : Nat → Int} {M : PH} {K : PV → PS → Prop} {l0 l2 l3 s0 : Int} : pm_Run d 250 24 [vL l0, PU, vI l2, vI l3] [vI s0] (GF X, M, PTF v) K ↔ K (vI s0) (GF X, M, PTF v) := by
  refine (px_ri (by decide +kernel)).trans ?_
  exact Iff.rfl
-- X12_pullOf pullOf(III)I
theorem r251_0 {d : Nat} {X : Nat × (Nat → Int)} {v : Nat → Int} {M : PH} {K : PV → PS → Prop} {l1 l2 l3 : Int} (h1 : 0 ≤ (M 234 13)) (h2 : (M 234 13) < 2) (h3 : inR (M 253 (M 234 13).toNat)) : pm_Run d 251 0 [vA 234, vI l1, vI l2, vI l3] [] (GF X, M, PTF v) K ↔ if M 253 (M 234 13).toNat ≠ (-1) then pm_Run d 251 15 [vA 234, vI l1, vI l2, vI l3] [] (GF X, M, PTF v) K else pm_Run d 251 13 [vA 234, vI l1, vI l2, vI l3] [] (GF X, M, PTF v) K := by
  refine (px_go (by decide +kernel : pm_fe 251 0 = some (.aload_n 0, 1)) rfl).trans ?_
  refine (ry_get2 (idx := 105) (ci := 12) (k := 31) (by decide +kernel : 234 < 283 ∧ SHF 234 = (12, 76)) (ptf_l (a := 234) (k := 31) (n := 253) (by decide +kernel)) (by decide +kernel)).trans ?_
  refine (px_go (by decide +kernel : pm_fe 251 4 = some (.aload_n 0, 1)) rfl).trans ?_
  refine (ry_get0 (idx := 51) (ci := 12) (k := 13) (by decide +kernel : 234 < 283 ∧ SHF 234 = (12, 76)) (by decide +kernel)).trans ?_
  refine (ry_iald (by decide +kernel : 253 < 283 ∧ SHF 253 = (100, 2)) h1 h2 (by decide +kernel)).trans ?_
  refine (px_go (by decide +kernel : pm_fe 251 9 = some (.iconst (-1), 1)) rfl).trans ?_
  refine (ry_ic_ne (off := 5) (tgt := 15) h3 (by decide : (-2147483648 ≤ ((-1) : Int) ∧ ((-1) : Int) < 2147483648)) (by decide +kernel)).trans ?_
  exact Iff.rfl
theorem r251_13 {d : Nat} {X : Nat × (Nat → Int)} {v : Nat → Int} {M : PH} {K : PV → PS → Prop} {l1 l2 l3 : Int} : pm_Run d 251 13 [vA 234, vI l1, vI l2, vI l3] [] (GF X, M, PTF v) K ↔ K (vI 0) (GF X, M, PTF v) := by
  refine (px_go (by decide +kernel : pm_fe 251 13 = some (.iconst 0, 1)) rfl).trans ?_
  refine (px_ri (by decide +kernel)).trans ?_
  exact Iff.rfl
theorem r251_15 {d : Nat} {X : Nat × (Nat → Int)} {v : Nat → Int} {M : PH} {K : PV → PS → Prop} {l1 l2 l3 : Int} : pm_Run d 251 15 [vA 234, vI l1, vI l2, vI l3] [] (GF X, M, PTF v) K ↔ pm_Run d 251 20 [vA 234, vI l1, vI l2, vI l3] [] (GF X, pm_sa M 234 (pm_up (M 234) 64 l1), PTF v) K := by
  refine (px_go (by decide +kernel : pm_fe 251 15 = some (.aload_n 0, 1)) rfl).trans ?_
  refine (px_go (by decide +kernel : pm_fe 251 16 = some (.iload_n 1, 1)) rfl).trans ?_
  refine (ry_put0 (idx := 207) (ci := 12) (k := 64) (by decide +kernel : 234 < 283 ∧ SHF 234 = (12, 76)) (by decide +kernel)).trans ?_
  exact Iff.rfl
theorem r251_20 {d : Nat} {X : Nat × (Nat → Int)} {v : Nat → Int} {M : PH} {K : PV → PS → Prop} {l1 l2 l3 : Int} : pm_Run d 251 20 [vA 234, vI l1, vI l2, vI l3] [] (GF X, M, PTF v) K ↔ pm_Run d 251 25 [vA 234, vI l1, vI l2, vI l3] [] (GF X, pm_sa M 234 (pm_up (M 234) 65 l2), PTF v) K := by
  refine (px_go (by decide +kernel : pm_fe 251 20 = some (.aload_n 0, 1)) rfl).trans ?_
  refine (px_go (by decide +kernel : pm_fe 251 21 = some (.iload_n 2, 1)) rfl).trans ?_
  refine (ry_put0 (idx := 210) (ci := 12) (k := 65) (by decide +kernel : 234 < 283 ∧ SHF 234 = (12, 76)) (by decide +kernel)).trans ?_
  exact Iff.rfl
theorem r251_25 {d : Nat} {X : Nat × (Nat → Int)} {v : Nat → Int} {M : PH} {K : PV → PS → Prop} {l1 l2 l3 : Int} : pm_Run d 251 25 [vA 234, vI l1, vI l2, vI l3] [] (GF X, M, PTF v) K ↔ pm_Run d 251 30 [vA 234, vI l1, vI l2, vI l3] [] (GF X, pm_sa M 234 (pm_up (M 234) 67 l3), PTF v) K := by
  refine (px_go (by decide +kernel : pm_fe 251 25 = some (.aload_n 0, 1)) rfl).trans ?_
  refine (px_go (by decide +kernel : pm_fe 251 26 = some (.iload_n 3, 1)) rfl).trans ?_
  refine (ry_put0 (idx := 216) (ci := 12) (k := 67) (by decide +kernel : 234 < 283 ∧ SHF 234 = (12, 76)) (by decide +kernel)).trans ?_
  exact Iff.rfl
theorem r251_30 {d : Nat} {X : Nat × (Nat → Int)} {v : Nat → Int} {M : PH} {K : PV → PS → Prop} {l1 l2 l3 : Int} (h1 : 0 ≤ (M 234 13)) (h2 : (M 234 13) < 2) : pm_Run d 251 30 [vA 234, vI l1, vI l2, vI l3] [] (GF X, M, PTF v) K ↔ pm_Call d 249 [vA 234, vI (M 253 (M 234 13).toNat), vI (M 254 (M 234 13).toNat)] (GF X, M, PTF v) (fun r9 S1 => pm_Run d 251 52 [vA 234, vI l1, vI l2, vI l3] (pm_push r9 []) S1 K) := by
  refine (px_go (by decide +kernel : pm_fe 251 30 = some (.aload_n 0, 1)) rfl).trans ?_
  refine (px_go (by decide +kernel : pm_fe 251 31 = some (.aload_n 0, 1)) rfl).trans ?_
  refine (ry_get2 (idx := 105) (ci := 12) (k := 31) (by decide +kernel : 234 < 283 ∧ SHF 234 = (12, 76)) (ptf_l (a := 234) (k := 31) (n := 253) (by decide +kernel)) (by decide +kernel)).trans ?_
  refine (px_go (by decide +kernel : pm_fe 251 35 = some (.aload_n 0, 1)) rfl).trans ?_
  refine (ry_get0 (idx := 51) (ci := 12) (k := 13) (by decide +kernel : 234 < 283 ∧ SHF 234 = (12, 76)) (by decide +kernel)).trans ?_
  refine (ry_iald (by decide +kernel : 253 < 283 ∧ SHF 253 = (100, 2)) h1 h2 (by decide +kernel)).trans ?_
  refine (px_go (by decide +kernel : pm_fe 251 40 = some (.aload_n 0, 1)) rfl).trans ?_
  refine (ry_get2 (idx := 108) (ci := 12) (k := 32) (by decide +kernel : 234 < 283 ∧ SHF 234 = (12, 76)) (ptf_l (a := 234) (k := 32) (n := 254) (by decide +kernel)) (by decide +kernel)).trans ?_
  refine (px_go (by decide +kernel : pm_fe 251 44 = some (.aload_n 0, 1)) rfl).trans ?_
  refine (ry_get0 (idx := 51) (ci := 12) (k := 13) (by decide +kernel : 234 < 283 ∧ SHF 234 = (12, 76)) (by decide +kernel)).trans ?_
  refine (ry_iald (by decide +kernel : 254 < 283 ∧ SHF 254 = (100, 2)) h1 h2 (by decide +kernel)).trans ?_
  refine (ry_v2 (idx := 496) (m' := 249) (ci := 12) (by decide +kernel : 234 < 283 ∧ SHF 234 = (12, 76)) (by simp [pm_wl_n, pm_wl_c, pm_w] : pm_wl [] ≤ 8) (by decide +kernel)).trans ?_
  exact Iff.rfl
theorem r251_52 {d : Nat} {X : Nat × (Nat → Int)} {v : Nat → Int} {M : PH} {K : PV → PS → Prop} {l1 l2 l3 s0 : Int} : pm_Run d 251 52 [vA 234, vI l1, vI l2, vI l3] [vL s0] (GF X, M, PTF v) K ↔ pm_Call d 250 [vL s0, vI (-99), vI 99] (GF X, M, PTF v) (fun r9 S1 => pm_Run d 251 59 [vA 234, vI l1, vI l2, vI l3] (pm_push r9 []) S1 K) := by
  refine (px_go (by decide +kernel : pm_fe 251 52 = some (.bipush (-99), 2)) rfl).trans ?_
  refine (px_go (by decide +kernel : pm_fe 251 54 = some (.bipush 99, 2)) rfl).trans ?_
  refine (px_s3 (idx := 499) (m' := 250) (nest := 0) (by decide +kernel)).trans ((and_iff_right (by simp [pm_wl_n, pm_wl_c, pm_w] : pm_wl [] ≤ 8)).trans ?_)
  exact Iff.rfl
theorem r251_59 {d : Nat} {X : Nat × (Nat → Int)} {v : Nat → Int} {M : PH} {K : PV → PS → Prop} {l1 l2 l3 s0 : Int} : pm_Run d 251 59 [vA 234, vI l1, vI l2, vI l3] [vI s0] (GF X, M, PTF v) K ↔ K (vI s0) (GF X, M, PTF v) := by
  refine (px_ri (by decide +kernel)).trans ?_
  exact Iff.rfl
-- X12_asksHarbor asksHarbor(II)V
theorem r252_0 {d : Nat} {X : Nat × (Nat → Int)} {v : Nat → Int} {M : PH} {K : PV → PS → Prop} {l1 l2 : Int} : pm_Run d 252 0 [vA 234, vI l1, vI l2] [] (GF X, M, PTF v) K ↔ pm_Run d 252 5 [vA 234, vI l1, vI l2] [] (GF X, pm_sa M 234 (pm_up (M 234) 64 l1), PTF v) K := by
  refine (px_go (by decide +kernel : pm_fe 252 0 = some (.aload_n 0, 1)) rfl).trans ?_
  refine (px_go (by decide +kernel : pm_fe 252 1 = some (.iload_n 1, 1)) rfl).trans ?_
  refine (ry_put0 (idx := 207) (ci := 12) (k := 64) (by decide +kernel : 234 < 283 ∧ SHF 234 = (12, 76)) (by decide +kernel)).trans ?_
  exact Iff.rfl
theorem r252_5 {d : Nat} {X : Nat × (Nat → Int)} {v : Nat → Int} {M : PH} {K : PV → PS → Prop} {l1 l2 : Int} : pm_Run d 252 5 [vA 234, vI l1, vI l2] [] (GF X, M, PTF v) K ↔ pm_Run d 252 10 [vA 234, vI l1, vI l2] [] (GF X, pm_sa M 234 (pm_up (M 234) 65 (-1)), PTF v) K := by
  refine (px_go (by decide +kernel : pm_fe 252 5 = some (.aload_n 0, 1)) rfl).trans ?_
  refine (px_go (by decide +kernel : pm_fe 252 6 = some (.iconst (-1), 1)) rfl).trans ?_
  refine (ry_put0 (idx := 210) (ci := 12) (k := 65) (by decide +kernel : 234 < 283 ∧ SHF 234 = (12, 76)) (by decide +kernel)).trans ?_
  exact Iff.rfl
theorem r252_10 {d : Nat} {X : Nat × (Nat → Int)} {v : Nat → Int} {M : PH} {K : PV → PS → Prop} {l1 l2 : Int} : pm_Run d 252 10 [vA 234, vI l1, vI l2] [] (GF X, M, PTF v) K ↔ pm_Run d 252 15 [vA 234, vI l1, vI l2] [] (GF X, pm_sa M 234 (pm_up (M 234) 66 l2), PTF v) K := by
  refine (px_go (by decide +kernel : pm_fe 252 10 = some (.aload_n 0, 1)) rfl).trans ?_
  refine (px_go (by decide +kernel : pm_fe 252 11 = some (.iload_n 2, 1)) rfl).trans ?_
  refine (ry_put0 (idx := 213) (ci := 12) (k := 66) (by decide +kernel : 234 < 283 ∧ SHF 234 = (12, 76)) (by decide +kernel)).trans ?_
  exact Iff.rfl
theorem r252_15 {d : Nat} {X : Nat × (Nat → Int)} {v : Nat → Int} {M : PH} {K : PV → PS → Prop} {l1 l2 : Int} : pm_Run d 252 15 [vA 234, vI l1, vI l2] [] (GF X, M, PTF v) K ↔ pm_Call d 230 [vA 234, vI l2] (GF X, M, PTF v) (fun r9 S1 => pm_Run d 252 21 [vA 234, vI l1, vI l2] (pm_push r9 [vA 234]) S1 K) := by
  refine (px_go (by decide +kernel : pm_fe 252 15 = some (.aload_n 0, 1)) rfl).trans ?_
  refine (px_go (by decide +kernel : pm_fe 252 16 = some (.aload_n 0, 1)) rfl).trans ?_
  refine (px_go (by decide +kernel : pm_fe 252 17 = some (.iload_n 2, 1)) rfl).trans ?_
  refine (ry_v1 (idx := 503) (m' := 230) (ci := 12) (by decide +kernel : 234 < 283 ∧ SHF 234 = (12, 76)) (by simp [pm_wl_n, pm_wl_c, pm_w] : pm_wl [vA 234] ≤ 8) (by decide +kernel)).trans ?_
  exact Iff.rfl
theorem r252_21 {d : Nat} {X : Nat × (Nat → Int)} {v : Nat → Int} {M : PH} {K : PV → PS → Prop} {l1 l2 s0 : Int} : pm_Run d 252 21 [vA 234, vI l1, vI l2] [vI s0, vA 234] (GF X, M, PTF v) K ↔ K PU (GF X, pm_sa M 234 (pm_up (M 234) 67 s0), PTF v) := by
  refine (ry_put0 (idx := 216) (ci := 12) (k := 67) (by decide +kernel : 234 < 283 ∧ SHF 234 = (12, 76)) (by decide +kernel)).trans ?_
  refine (px_rv (by decide +kernel)).trans ?_
  exact Iff.rfl
-- X12_earnsOf earnsOf(II)I
theorem r253_0 {d : Nat} {X : Nat × (Nat → Int)} {v : Nat → Int} {M : PH} {K : PV → PS → Prop} {l1 l2 : Int} (h1 : 0 ≤ (M 234 13)) (h2 : (M 234 13) < 2) (h3 : inR (M 255 (M 234 13).toNat)) : pm_Run d 253 0 [vA 234, vI l1, vI l2] [] (GF X, M, PTF v) K ↔ if M 255 (M 234 13).toNat ≠ (-1) then pm_Run d 253 15 [vA 234, vI l1, vI l2] [] (GF X, M, PTF v) K else pm_Run d 253 13 [vA 234, vI l1, vI l2] [] (GF X, M, PTF v) K := by
  refine (px_go (by decide +kernel : pm_fe 253 0 = some (.aload_n 0, 1)) rfl).trans ?_
  refine (ry_get2 (idx := 111) (ci := 12) (k := 33) (by decide +kernel : 234 < 283 ∧ SHF 234 = (12, 76)) (ptf_l (a := 234) (k := 33) (n := 255) (by decide +kernel)) (by decide +kernel)).trans ?_
  refine (px_go (by decide +kernel : pm_fe 253 4 = some (.aload_n 0, 1)) rfl).trans ?_
  refine (ry_get0 (idx := 51) (ci := 12) (k := 13) (by decide +kernel : 234 < 283 ∧ SHF 234 = (12, 76)) (by decide +kernel)).trans ?_
  refine (ry_iald (by decide +kernel : 255 < 283 ∧ SHF 255 = (100, 2)) h1 h2 (by decide +kernel)).trans ?_
  refine (px_go (by decide +kernel : pm_fe 253 9 = some (.iconst (-1), 1)) rfl).trans ?_
  refine (ry_ic_ne (off := 5) (tgt := 15) h3 (by decide : (-2147483648 ≤ ((-1) : Int) ∧ ((-1) : Int) < 2147483648)) (by decide +kernel)).trans ?_
  exact Iff.rfl
theorem r253_13 {d : Nat} {X : Nat × (Nat → Int)} {v : Nat → Int} {M : PH} {K : PV → PS → Prop} {l1 l2 : Int} : pm_Run d 253 13 [vA 234, vI l1, vI l2] [] (GF X, M, PTF v) K ↔ K (vI 0) (GF X, M, PTF v) := by
  refine (px_go (by decide +kernel : pm_fe 253 13 = some (.iconst 0, 1)) rfl).trans ?_
  refine (px_ri (by decide +kernel)).trans ?_
  exact Iff.rfl
theorem r253_15 {d : Nat} {X : Nat × (Nat → Int)} {v : Nat → Int} {M : PH} {K : PV → PS → Prop} {l1 l2 : Int} : pm_Run d 253 15 [vA 234, vI l1, vI l2] [] (GF X, M, PTF v) K ↔ pm_Call d 252 [vA 234, vI l1, vI l2] (GF X, M, PTF v) (fun r9 S1 => pm_Run d 253 21 [vA 234, vI l1, vI l2] (pm_push r9 []) S1 K) := by
  refine (px_go (by decide +kernel : pm_fe 253 15 = some (.aload_n 0, 1)) rfl).trans ?_
  refine (px_go (by decide +kernel : pm_fe 253 16 = some (.iload_n 1, 1)) rfl).trans ?_
  refine (px_go (by decide +kernel : pm_fe 253 17 = some (.iload_n 2, 1)) rfl).trans ?_
  refine (ry_v2 (idx := 506) (m' := 252) (ci := 12) (by decide +kernel : 234 < 283 ∧ SHF 234 = (12, 76)) (by simp [pm_wl_n, pm_wl_c, pm_w] : pm_wl [] ≤ 8) (by decide +kernel)).trans ?_
  exact Iff.rfl
theorem r253_21 {d : Nat} {X : Nat × (Nat → Int)} {v : Nat → Int} {M : PH} {K : PV → PS → Prop} {l1 l2 : Int} (h1 : 0 ≤ (M 234 13)) (h2 : (M 234 13) < 2) : pm_Run d 253 21 [vA 234, vI l1, vI l2] [] (GF X, M, PTF v) K ↔ pm_Call d 249 [vA 234, vI (M 255 (M 234 13).toNat), vI (M 256 (M 234 13).toNat)] (GF X, M, PTF v) (fun r9 S1 => pm_Run d 253 43 [vA 234, vI l1, vI l2] (pm_push r9 []) S1 K) := by
  refine (px_go (by decide +kernel : pm_fe 253 21 = some (.aload_n 0, 1)) rfl).trans ?_
  refine (px_go (by decide +kernel : pm_fe 253 22 = some (.aload_n 0, 1)) rfl).trans ?_
  refine (ry_get2 (idx := 111) (ci := 12) (k := 33) (by decide +kernel : 234 < 283 ∧ SHF 234 = (12, 76)) (ptf_l (a := 234) (k := 33) (n := 255) (by decide +kernel)) (by decide +kernel)).trans ?_
  refine (px_go (by decide +kernel : pm_fe 253 26 = some (.aload_n 0, 1)) rfl).trans ?_
  refine (ry_get0 (idx := 51) (ci := 12) (k := 13) (by decide +kernel : 234 < 283 ∧ SHF 234 = (12, 76)) (by decide +kernel)).trans ?_
  refine (ry_iald (by decide +kernel : 255 < 283 ∧ SHF 255 = (100, 2)) h1 h2 (by decide +kernel)).trans ?_
  refine (px_go (by decide +kernel : pm_fe 253 31 = some (.aload_n 0, 1)) rfl).trans ?_
  refine (ry_get2 (idx := 114) (ci := 12) (k := 34) (by decide +kernel : 234 < 283 ∧ SHF 234 = (12, 76)) (ptf_l (a := 234) (k := 34) (n := 256) (by decide +kernel)) (by decide +kernel)).trans ?_
  refine (px_go (by decide +kernel : pm_fe 253 35 = some (.aload_n 0, 1)) rfl).trans ?_
  refine (ry_get0 (idx := 51) (ci := 12) (k := 13) (by decide +kernel : 234 < 283 ∧ SHF 234 = (12, 76)) (by decide +kernel)).trans ?_
  refine (ry_iald (by decide +kernel : 256 < 283 ∧ SHF 256 = (100, 2)) h1 h2 (by decide +kernel)).trans ?_
  refine (ry_v2 (idx := 496) (m' := 249) (ci := 12) (by decide +kernel : 234 < 283 ∧ SHF 234 = (12, 76)) (by simp [pm_wl_n, pm_wl_c, pm_w] : pm_wl [] ≤ 8) (by decide +kernel)).trans ?_
  exact Iff.rfl
theorem r253_43 {d : Nat} {X : Nat × (Nat → Int)} {v : Nat → Int} {M : PH} {K : PV → PS → Prop} {l1 l2 s0 : Int} : pm_Run d 253 43 [vA 234, vI l1, vI l2] [vL s0] (GF X, M, PTF v) K ↔ pm_Call d 250 [vL s0, vI 0, vI 99] (GF X, M, PTF v) (fun r9 S1 => pm_Run d 253 49 [vA 234, vI l1, vI l2] (pm_push r9 []) S1 K) := by
  refine (px_go (by decide +kernel : pm_fe 253 43 = some (.iconst 0, 1)) rfl).trans ?_
  refine (px_go (by decide +kernel : pm_fe 253 44 = some (.bipush 99, 2)) rfl).trans ?_
  refine (px_s3 (idx := 499) (m' := 250) (nest := 0) (by decide +kernel)).trans ((and_iff_right (by simp [pm_wl_n, pm_wl_c, pm_w] : pm_wl [] ≤ 8)).trans ?_)
  exact Iff.rfl
theorem r253_49 {d : Nat} {X : Nat × (Nat → Int)} {v : Nat → Int} {M : PH} {K : PV → PS → Prop} {l1 l2 s0 : Int} : pm_Run d 253 49 [vA 234, vI l1, vI l2] [vI s0] (GF X, M, PTF v) K ↔ K (vI s0) (GF X, M, PTF v) := by
  refine (px_ri (by decide +kernel)).trans ?_
  exact Iff.rfl
-- X12_isBroken isBroken(III)Z
theorem r254_0 {d : Nat} {X : Nat × (Nat → Int)} {v : Nat → Int} {M : PH} {K : PV → PS → Prop} {l1 l2 l3 : Int} : pm_Run d 254 0 [vA 234, vI l1, vI l2, vI l3] [] (GF X, M, PTF v) K ↔ pm_Call d 252 [vA 234, vI l1, vI l2] (GF X, M, PTF v) (fun r9 S1 => pm_Run d 254 6 [vA 234, vI l1, vI l2, vI l3] (pm_push r9 []) S1 K) := by
  refine (px_go (by decide +kernel : pm_fe 254 0 = some (.aload_n 0, 1)) rfl).trans ?_
  refine (px_go (by decide +kernel : pm_fe 254 1 = some (.iload_n 1, 1)) rfl).trans ?_
  refine (px_go (by decide +kernel : pm_fe 254 2 = some (.iload_n 2, 1)) rfl).trans ?_
  refine (ry_v2 (idx := 506) (m' := 252) (ci := 12) (by decide +kernel : 234 < 283 ∧ SHF 234 = (12, 76)) (by simp [pm_wl_n, pm_wl_c, pm_w] : pm_wl [] ≤ 8) (by decide +kernel)).trans ?_
  exact Iff.rfl
theorem r254_6 {d : Nat} {X : Nat × (Nat → Int)} {v : Nat → Int} {M : PH} {K : PV → PS → Prop} {l1 l2 l3 : Int} (h1 : 0 ≤ ((6 * (M 234 13)) + l3)) (h2 : ((6 * (M 234 13)) + l3) < 12) : pm_Run d 254 6 [vA 234, vI l1, vI l2, vI l3] [] (GF X, M, PTF v) K ↔ pm_Call d 249 [vA 234, vI (M 251 ((6 * (M 234 13)) + l3).toNat), vI (M 252 ((6 * (M 234 13)) + l3).toNat)] (GF X, M, PTF v) (fun r9 S1 => pm_Run d 254 38 [vA 234, vI l1, vI l2, vI l3] (pm_push r9 []) S1 K) := by
  refine (px_go (by decide +kernel : pm_fe 254 6 = some (.aload_n 0, 1)) rfl).trans ?_
  refine (px_go (by decide +kernel : pm_fe 254 7 = some (.aload_n 0, 1)) rfl).trans ?_
  refine (ry_get2 (idx := 99) (ci := 12) (k := 29) (by decide +kernel : 234 < 283 ∧ SHF 234 = (12, 76)) (ptf_l (a := 234) (k := 29) (n := 251) (by decide +kernel)) (by decide +kernel)).trans ?_
  refine (px_go (by decide +kernel : pm_fe 254 11 = some (.bipush 6, 2)) rfl).trans ?_
  refine (px_go (by decide +kernel : pm_fe 254 13 = some (.aload_n 0, 1)) rfl).trans ?_
  refine (ry_get0 (idx := 51) (ci := 12) (k := 13) (by decide +kernel : 234 < 283 ∧ SHF 234 = (12, 76)) (by decide +kernel)).trans ?_
  refine (px_go (by decide +kernel : pm_fe 254 17 = some (.imul, 1)) rfl).trans ?_
  refine (px_go (by decide +kernel : pm_fe 254 18 = some (.iload_n 3, 1)) rfl).trans ?_
  refine (px_go (by decide +kernel : pm_fe 254 19 = some (.iadd, 1)) rfl).trans ?_
  refine (ry_iald (by decide +kernel : 251 < 283 ∧ SHF 251 = (100, 12)) h1 h2 (by decide +kernel)).trans ?_
  refine (px_go (by decide +kernel : pm_fe 254 21 = some (.aload_n 0, 1)) rfl).trans ?_
  refine (ry_get2 (idx := 102) (ci := 12) (k := 30) (by decide +kernel : 234 < 283 ∧ SHF 234 = (12, 76)) (ptf_l (a := 234) (k := 30) (n := 252) (by decide +kernel)) (by decide +kernel)).trans ?_
  refine (px_go (by decide +kernel : pm_fe 254 25 = some (.bipush 6, 2)) rfl).trans ?_
  refine (px_go (by decide +kernel : pm_fe 254 27 = some (.aload_n 0, 1)) rfl).trans ?_
  refine (ry_get0 (idx := 51) (ci := 12) (k := 13) (by decide +kernel : 234 < 283 ∧ SHF 234 = (12, 76)) (by decide +kernel)).trans ?_
  refine (px_go (by decide +kernel : pm_fe 254 31 = some (.imul, 1)) rfl).trans ?_
  refine (px_go (by decide +kernel : pm_fe 254 32 = some (.iload_n 3, 1)) rfl).trans ?_
  refine (px_go (by decide +kernel : pm_fe 254 33 = some (.iadd, 1)) rfl).trans ?_
  refine (ry_iald (by decide +kernel : 252 < 283 ∧ SHF 252 = (100, 12)) h1 h2 (by decide +kernel)).trans ?_
  refine (ry_v2 (idx := 496) (m' := 249) (ci := 12) (by decide +kernel : 234 < 283 ∧ SHF 234 = (12, 76)) (by simp [pm_wl_n, pm_wl_c, pm_w] : pm_wl [] ≤ 8) (by decide +kernel)).trans ?_
  exact Iff.rfl
theorem r254_38 {d : Nat} {X : Nat × (Nat → Int)} {v : Nat → Int} {M : PH} {K : PV → PS → Prop} {l1 l2 l3 s0 : Int} (h1 : inL s0) (h2 : inR (pm_cm s0 0)) : pm_Run d 254 38 [vA 234, vI l1, vI l2, vI l3] [vL s0] (GF X, M, PTF v) K ↔ if pm_cm s0 0 ≠ 0 then pm_Run d 254 47 [vA 234, vI l1, vI l2, vI l3] [] (GF X, M, PTF v) K else pm_Run d 254 43 [vA 234, vI l1, vI l2, vI l3] [] (GF X, M, PTF v) K := by
  refine (px_go (by decide +kernel : pm_fe 254 38 = some (.lconst 0, 1)) rfl).trans ?_
  refine (ry_lcmp h1 (by decide : (-9223372036854775808 ≤ (0 : Int) ∧ (0 : Int) < 9223372036854775808)) (by decide +kernel)).trans ?_
  refine (ry_if_ne (off := 7) (tgt := 47) h2 (by decide +kernel)).trans ?_
  exact Iff.rfl
theorem r254_43 {d : Nat} {X : Nat × (Nat → Int)} {v : Nat → Int} {M : PH} {K : PV → PS → Prop} {l1 l2 l3 : Int} : pm_Run d 254 43 [vA 234, vI l1, vI l2, vI l3] [] (GF X, M, PTF v) K ↔ pm_Run d 254 48 [vA 234, vI l1, vI l2, vI l3] [vI 1] (GF X, M, PTF v) K := by
  refine (px_go (by decide +kernel : pm_fe 254 43 = some (.iconst 1, 1)) rfl).trans ?_
  refine (px_goto (off := 4) (tgt := 48) (by decide +kernel)).trans ?_
  exact Iff.rfl
theorem r254_47 {d : Nat} {X : Nat × (Nat → Int)} {v : Nat → Int} {M : PH} {K : PV → PS → Prop} {l1 l2 l3 : Int} : pm_Run d 254 47 [vA 234, vI l1, vI l2, vI l3] [] (GF X, M, PTF v) K ↔ pm_Run d 254 48 [vA 234, vI l1, vI l2, vI l3] [vI 0] (GF X, M, PTF v) K := by
  refine (px_go (by decide +kernel : pm_fe 254 47 = some (.iconst 0, 1)) rfl).trans ?_
  exact Iff.rfl
theorem r254_48 {d : Nat} {X : Nat × (Nat → Int)} {v : Nat → Int} {M : PH} {K : PV → PS → Prop} {l1 l2 l3 s0 : Int} (h1 : s0 = 0 ∨ s0 = 1) : pm_Run d 254 48 [vA 234, vI l1, vI l2, vI l3] [vI s0] (GF X, M, PTF v) K ↔ K (vI s0) (GF X, M, PTF v) := by
  refine (px_rz (by decide +kernel)).trans ((and_iff_right h1).trans ?_)
  exact Iff.rfl
-- X12_heights heights(I)V
theorem r255_0 {d : Nat} {X : Nat × (Nat → Int)} {v : Nat → Int} {M : PH} {K : PV → PS → Prop} {l1 : Int} : pm_Run d 255 0 [vA 234, vI l1, PU, PU, PU, PU] [] (GF X, M, PTF v) K ↔ pm_Run d 255 4 [vA 234, vI l1, vI 0, vI 0, PU, PU] [] (GF X, M, PTF v) K := by
  refine (px_go (by decide +kernel : pm_fe 255 0 = some (.iconst 0, 1)) rfl).trans ?_
  refine (px_go (by decide +kernel : pm_fe 255 1 = some (.istore_n 2, 1)) rfl).trans ?_
  refine (px_go (by decide +kernel : pm_fe 255 2 = some (.iconst 0, 1)) rfl).trans ?_
  refine (px_go (by decide +kernel : pm_fe 255 3 = some (.istore_n 3, 1)) rfl).trans ?_
  exact Iff.rfl
theorem r255_4 {d : Nat} {X : Nat × (Nat → Int)} {v : Nat → Int} {M : PH} {K : PV → PS → Prop} {l1 l2 l3 : Int} {l4 l5 : PV} (h1 : 0 ≤ (M 234 13)) (h2 : (M 234 13) < 2) (h3 : inR l3) (h4 : inR (M 236 (M 234 13).toNat)) : pm_Run d 255 4 [vA 234, vI l1, vI l2, vI l3, l4, l5] [] (GF X, M, PTF v) K ↔ if M 236 (M 234 13).toNat ≤ l3 then pm_Run d 255 85 [vA 234, vI l1, vI l2, vI l3, l4, l5] [] (GF X, M, PTF v) K else pm_Run d 255 17 [vA 234, vI l1, vI l2, vI l3, l4, l5] [] (GF X, M, PTF v) K := by
  refine (px_go (by decide +kernel : pm_fe 255 4 = some (.iload_n 3, 1)) rfl).trans ?_
  refine (px_go (by decide +kernel : pm_fe 255 5 = some (.aload_n 0, 1)) rfl).trans ?_
  refine (ry_get2 (idx := 54) (ci := 12) (k := 14) (by decide +kernel : 234 < 283 ∧ SHF 234 = (12, 76)) (ptf_l (a := 234) (k := 14) (n := 236) (by decide +kernel)) (by decide +kernel)).trans ?_
  refine (px_go (by decide +kernel : pm_fe 255 9 = some (.aload_n 0, 1)) rfl).trans ?_
  refine (ry_get0 (idx := 51) (ci := 12) (k := 13) (by decide +kernel : 234 < 283 ∧ SHF 234 = (12, 76)) (by decide +kernel)).trans ?_
  refine (ry_iald (by decide +kernel : 236 < 283 ∧ SHF 236 = (100, 2)) h1 h2 (by decide +kernel)).trans ?_
  refine (ry_ic_ge (off := 71) (tgt := 85) h3 h4 (by decide +kernel)).trans ?_
  exact Iff.rfl
theorem r255_17 {d : Nat} {X : Nat × (Nat → Int)} {v : Nat → Int} {M : PH} {K : PV → PS → Prop} {l1 l2 l3 : Int} {l4 l5 : PV} : pm_Run d 255 17 [vA 234, vI l1, vI l2, vI l3, l4, l5] [] (GF X, M, PTF v) K ↔ pm_Run d 255 23 [vA 234, vI l1, vI l2, vI l3, vI 0, vI 0] [] (GF X, M, PTF v) K := by
  refine (px_go (by decide +kernel : pm_fe 255 17 = some (.iconst 0, 1)) rfl).trans ?_
  refine (px_go (by decide +kernel : pm_fe 255 18 = some (.istore 4, 2)) rfl).trans ?_
  refine (px_go (by decide +kernel : pm_fe 255 20 = some (.iconst 0, 1)) rfl).trans ?_
  refine (px_go (by decide +kernel : pm_fe 255 21 = some (.istore 5, 2)) rfl).trans ?_
  exact Iff.rfl
theorem r255_23 {d : Nat} {X : Nat × (Nat → Int)} {v : Nat → Int} {M : PH} {K : PV → PS → Prop} {l1 l2 l3 l4 l5 : Int} (h1 : 0 ≤ (M 234 13)) (h2 : (M 234 13) < 2) (h3 : inR l5) (h4 : inR (M 237 (M 234 13).toNat)) : pm_Run d 255 23 [vA 234, vI l1, vI l2, vI l3, vI l4, vI l5] [] (GF X, M, PTF v) K ↔ if M 237 (M 234 13).toNat ≤ l5 then pm_Run d 255 56 [vA 234, vI l1, vI l2, vI l3, vI l4, vI l5] [] (GF X, M, PTF v) K else pm_Run d 255 37 [vA 234, vI l1, vI l2, vI l3, vI l4, vI l5] [] (GF X, M, PTF v) K := by
  refine (px_go (by decide +kernel : pm_fe 255 23 = some (.iload 5, 2)) rfl).trans ?_
  refine (px_go (by decide +kernel : pm_fe 255 25 = some (.aload_n 0, 1)) rfl).trans ?_
  refine (ry_get2 (idx := 57) (ci := 12) (k := 15) (by decide +kernel : 234 < 283 ∧ SHF 234 = (12, 76)) (ptf_l (a := 234) (k := 15) (n := 237) (by decide +kernel)) (by decide +kernel)).trans ?_
  refine (px_go (by decide +kernel : pm_fe 255 29 = some (.aload_n 0, 1)) rfl).trans ?_
  refine (ry_get0 (idx := 51) (ci := 12) (k := 13) (by decide +kernel : 234 < 283 ∧ SHF 234 = (12, 76)) (by decide +kernel)).trans ?_
  refine (ry_iald (by decide +kernel : 237 < 283 ∧ SHF 237 = (100, 2)) h1 h2 (by decide +kernel)).trans ?_
  refine (ry_ic_ge (off := 22) (tgt := 56) h3 h4 (by decide +kernel)).trans ?_
  exact Iff.rfl
theorem r255_37 {d : Nat} {X : Nat × (Nat → Int)} {v : Nat → Int} {M : PH} {K : PV → PS → Prop} {l1 l2 l3 l4 l5 : Int} : pm_Run d 255 37 [vA 234, vI l1, vI l2, vI l3, vI l4, vI l5] [] (GF X, M, PTF v) K ↔ pm_Call d 251 [vA 234, vI l1, vI l5, vI l3] (GF X, M, PTF v) (fun r9 S1 => pm_Run d 255 47 [vA 234, vI l1, vI l2, vI l3, vI l4, vI l5] (pm_push r9 [vI l4]) S1 K) := by
  refine (px_go (by decide +kernel : pm_fe 255 37 = some (.iload 4, 2)) rfl).trans ?_
  refine (px_go (by decide +kernel : pm_fe 255 39 = some (.aload_n 0, 1)) rfl).trans ?_
  refine (px_go (by decide +kernel : pm_fe 255 40 = some (.iload_n 1, 1)) rfl).trans ?_
  refine (px_go (by decide +kernel : pm_fe 255 41 = some (.iload 5, 2)) rfl).trans ?_
  refine (px_go (by decide +kernel : pm_fe 255 43 = some (.iload_n 3, 1)) rfl).trans ?_
  refine (ry_v3 (idx := 509) (m' := 251) (ci := 12) (by decide +kernel : 234 < 283 ∧ SHF 234 = (12, 76)) (by simp [pm_wl_n, pm_wl_c, pm_w] : pm_wl [vI l4] ≤ 8) (by decide +kernel)).trans ?_
  exact Iff.rfl
theorem r255_47 {d : Nat} {X : Nat × (Nat → Int)} {v : Nat → Int} {M : PH} {K : PV → PS → Prop} {l1 l2 l3 l4 l5 s0 s1 : Int} : pm_Run d 255 47 [vA 234, vI l1, vI l2, vI l3, vI l4, vI l5] [vI s0, vI s1] (GF X, M, PTF v) K ↔ pm_Run d 255 23 [vA 234, vI l1, vI l2, vI l3, vI (s1 + s0), vI (l5 + 1)] [] (GF X, M, PTF v) K := by
  refine (px_go (by decide +kernel : pm_fe 255 47 = some (.iadd, 1)) rfl).trans ?_
  refine (px_go (by decide +kernel : pm_fe 255 48 = some (.istore 4, 2)) rfl).trans ?_
  refine (px_go (by decide +kernel : pm_fe 255 50 = some (.iinc 5 1, 3)) rfl).trans ?_
  refine (px_goto (off := (-30)) (tgt := 23) (by decide +kernel)).trans ?_
  exact Iff.rfl
theorem r255_56 {d : Nat} {X : Nat × (Nat → Int)} {v : Nat → Int} {M : PH} {K : PV → PS → Prop} {l1 l2 l3 l4 l5 : Int} (h1 : 0 ≤ (M 234 13)) (h2 : (M 234 13) < 2) (h3 : 0 ≤ l3) (h4 : l3 < 24) : pm_Run d 255 56 [vA 234, vI l1, vI l2, vI l3, vI l4, vI l5] [] (GF X, M, PTF v) K ↔ pm_Run d 255 74 [vA 234, vI l1, vI l2, vI l3, vI l4, vI l5] [] (GF X, pm_sa M 277 (pm_up (M 277) l3.toNat ((M 257 (M 234 13).toNat) + l4)), PTF v) K := by
  refine (px_go (by decide +kernel : pm_fe 255 56 = some (.aload_n 0, 1)) rfl).trans ?_
  refine (ry_get2 (idx := 219) (ci := 12) (k := 68) (by decide +kernel : 234 < 283 ∧ SHF 234 = (12, 76)) (ptf_l (a := 234) (k := 68) (n := 277) (by decide +kernel)) (by decide +kernel)).trans ?_
  refine (px_go (by decide +kernel : pm_fe 255 60 = some (.iload_n 3, 1)) rfl).trans ?_
  refine (px_go (by decide +kernel : pm_fe 255 61 = some (.aload_n 0, 1)) rfl).trans ?_
  refine (ry_get2 (idx := 117) (ci := 12) (k := 35) (by decide +kernel : 234 < 283 ∧ SHF 234 = (12, 76)) (ptf_l (a := 234) (k := 35) (n := 257) (by decide +kernel)) (by decide +kernel)).trans ?_
  refine (px_go (by decide +kernel : pm_fe 255 65 = some (.aload_n 0, 1)) rfl).trans ?_
  refine (ry_get0 (idx := 51) (ci := 12) (k := 13) (by decide +kernel : 234 < 283 ∧ SHF 234 = (12, 76)) (by decide +kernel)).trans ?_
  refine (ry_iald (by decide +kernel : 257 < 283 ∧ SHF 257 = (100, 2)) h1 h2 (by decide +kernel)).trans ?_
  refine (px_go (by decide +kernel : pm_fe 255 70 = some (.iload 4, 2)) rfl).trans ?_
  refine (px_go (by decide +kernel : pm_fe 255 72 = some (.iadd, 1)) rfl).trans ?_
  refine (ry_iast (by decide +kernel : 277 < 283 ∧ SHF 277 = (100, 24)) h3 h4 (by decide +kernel)).trans ?_
  exact Iff.rfl
theorem r255_74 {d : Nat} {X : Nat × (Nat → Int)} {v : Nat → Int} {M : PH} {K : PV → PS → Prop} {l1 l2 l3 l4 l5 : Int} : pm_Run d 255 74 [vA 234, vI l1, vI l2, vI l3, vI l4, vI l5] [] (GF X, M, PTF v) K ↔ pm_Run d 255 4 [vA 234, vI l1, vI (l2 + l4), vI (l3 + 1), vI l4, vI l5] [] (GF X, M, PTF v) K := by
  refine (px_go (by decide +kernel : pm_fe 255 74 = some (.iload_n 2, 1)) rfl).trans ?_
  refine (px_go (by decide +kernel : pm_fe 255 75 = some (.iload 4, 2)) rfl).trans ?_
  refine (px_go (by decide +kernel : pm_fe 255 77 = some (.iadd, 1)) rfl).trans ?_
  refine (px_go (by decide +kernel : pm_fe 255 78 = some (.istore_n 2, 1)) rfl).trans ?_
  refine (px_go (by decide +kernel : pm_fe 255 79 = some (.iinc 3 1, 3)) rfl).trans ?_
  refine (px_goto (off := (-78)) (tgt := 4) (by decide +kernel)).trans ?_
  exact Iff.rfl
theorem r255_85 {d : Nat} {X : Nat × (Nat → Int)} {v : Nat → Int} {M : PH} {K : PV → PS → Prop} {l1 l2 l3 : Int} {l4 l5 : PV} (h1 : inR l2) (h2 : 0 ≤ (M 234 13)) (h3 : (M 234 13) < 2) (h4 : inR (M 236 (M 234 13).toNat)) : pm_Run d 255 85 [vA 234, vI l1, vI l2, vI l3, l4, l5] [] (GF X, M, PTF v) K ↔ pm_Call d 246 [vL l2, vL (M 236 (M 234 13).toNat)] (GF X, M, PTF v) (fun r9 S1 => pm_Run d 255 100 [vA 234, vI l1, vI l2, vI l3, l4, l5] (pm_push r9 []) S1 K) := by
  refine (px_go (by decide +kernel : pm_fe 255 85 = some (.iload_n 2, 1)) rfl).trans ?_
  refine (ry_i2l h1 (by decide +kernel)).trans ?_
  refine (px_go (by decide +kernel : pm_fe 255 87 = some (.aload_n 0, 1)) rfl).trans ?_
  refine (ry_get2 (idx := 54) (ci := 12) (k := 14) (by decide +kernel : 234 < 283 ∧ SHF 234 = (12, 76)) (ptf_l (a := 234) (k := 14) (n := 236) (by decide +kernel)) (by decide +kernel)).trans ?_
  refine (px_go (by decide +kernel : pm_fe 255 91 = some (.aload_n 0, 1)) rfl).trans ?_
  refine (ry_get0 (idx := 51) (ci := 12) (k := 13) (by decide +kernel : 234 < 283 ∧ SHF 234 = (12, 76)) (by decide +kernel)).trans ?_
  refine (ry_iald (by decide +kernel : 236 < 283 ∧ SHF 236 = (100, 2)) h2 h3 (by decide +kernel)).trans ?_
  refine (ry_i2l h4 (by decide +kernel)).trans ?_
  refine (px_s2 (idx := 481) (m' := 246) (nest := 0) (by decide +kernel)).trans ((and_iff_right (by simp [pm_wl_n, pm_wl_c, pm_w] : pm_wl [] ≤ 8)).trans ?_)
  exact Iff.rfl
theorem r255_100 {d : Nat} {X : Nat × (Nat → Int)} {v : Nat → Int} {M : PH} {K : PV → PS → Prop} {l1 l2 l3 s0 : Int} {l4 l5 : PV} (h1 : 0 ≤ (M 234 13)) (h2 : (M 234 13) < 2) : pm_Run d 255 100 [vA 234, vI l1, vI l2, vI l3, l4, l5] [vL s0] (GF X, M, PTF v) K ↔ pm_Run d 255 120 [vA 234, vI l1, vI l2, vI s0, vI (l2 - (s0 * (M 236 (M 234 13).toNat))), vI 0] [] (GF X, M, PTF v) K := by
  refine (px_go (by decide +kernel : pm_fe 255 100 = some (.l2i, 1)) rfl).trans ?_
  refine (px_go (by decide +kernel : pm_fe 255 101 = some (.istore_n 3, 1)) rfl).trans ?_
  refine (px_go (by decide +kernel : pm_fe 255 102 = some (.iload_n 2, 1)) rfl).trans ?_
  refine (px_go (by decide +kernel : pm_fe 255 103 = some (.iload_n 3, 1)) rfl).trans ?_
  refine (px_go (by decide +kernel : pm_fe 255 104 = some (.aload_n 0, 1)) rfl).trans ?_
  refine (ry_get2 (idx := 54) (ci := 12) (k := 14) (by decide +kernel : 234 < 283 ∧ SHF 234 = (12, 76)) (ptf_l (a := 234) (k := 14) (n := 236) (by decide +kernel)) (by decide +kernel)).trans ?_
  refine (px_go (by decide +kernel : pm_fe 255 108 = some (.aload_n 0, 1)) rfl).trans ?_
  refine (ry_get0 (idx := 51) (ci := 12) (k := 13) (by decide +kernel : 234 < 283 ∧ SHF 234 = (12, 76)) (by decide +kernel)).trans ?_
  refine (ry_iald (by decide +kernel : 236 < 283 ∧ SHF 236 = (100, 2)) h1 h2 (by decide +kernel)).trans ?_
  refine (px_go (by decide +kernel : pm_fe 255 113 = some (.imul, 1)) rfl).trans ?_
  refine (px_go (by decide +kernel : pm_fe 255 114 = some (.isub, 1)) rfl).trans ?_
  refine (px_go (by decide +kernel : pm_fe 255 115 = some (.istore 4, 2)) rfl).trans ?_
  refine (px_go (by decide +kernel : pm_fe 255 117 = some (.iconst 0, 1)) rfl).trans ?_
  refine (px_go (by decide +kernel : pm_fe 255 118 = some (.istore 5, 2)) rfl).trans ?_
  exact Iff.rfl
theorem r255_120 {d : Nat} {X : Nat × (Nat → Int)} {v : Nat → Int} {M : PH} {K : PV → PS → Prop} {l1 l2 l3 l4 l5 : Int} (h1 : 0 ≤ (M 234 13)) (h2 : (M 234 13) < 2) (h3 : inR l5) (h4 : inR (M 236 (M 234 13).toNat)) : pm_Run d 255 120 [vA 234, vI l1, vI l2, vI l3, vI l4, vI l5] [] (GF X, M, PTF v) K ↔ if M 236 (M 234 13).toNat ≤ l5 then pm_Run d 255 164 [vA 234, vI l1, vI l2, vI l3, vI l4, vI l5] [] (GF X, M, PTF v) K else pm_Run d 255 134 [vA 234, vI l1, vI l2, vI l3, vI l4, vI l5] [] (GF X, M, PTF v) K := by
  refine (px_go (by decide +kernel : pm_fe 255 120 = some (.iload 5, 2)) rfl).trans ?_
  refine (px_go (by decide +kernel : pm_fe 255 122 = some (.aload_n 0, 1)) rfl).trans ?_
  refine (ry_get2 (idx := 54) (ci := 12) (k := 14) (by decide +kernel : 234 < 283 ∧ SHF 234 = (12, 76)) (ptf_l (a := 234) (k := 14) (n := 236) (by decide +kernel)) (by decide +kernel)).trans ?_
  refine (px_go (by decide +kernel : pm_fe 255 126 = some (.aload_n 0, 1)) rfl).trans ?_
  refine (ry_get0 (idx := 51) (ci := 12) (k := 13) (by decide +kernel : 234 < 283 ∧ SHF 234 = (12, 76)) (by decide +kernel)).trans ?_
  refine (ry_iald (by decide +kernel : 236 < 283 ∧ SHF 236 = (100, 2)) h1 h2 (by decide +kernel)).trans ?_
  refine (ry_ic_ge (off := 33) (tgt := 164) h3 h4 (by decide +kernel)).trans ?_
  exact Iff.rfl
theorem r255_134 {d : Nat} {X : Nat × (Nat → Int)} {v : Nat → Int} {M : PH} {K : PV → PS → Prop} {l1 l2 l3 l4 l5 : Int} (h1 : 0 ≤ l5) (h2 : l5 < 24) (h3 : inR l5) (h4 : inR l4) : pm_Run d 255 134 [vA 234, vI l1, vI l2, vI l3, vI l4, vI l5] [] (GF X, M, PTF v) K ↔ if l4 ≤ l5 then pm_Run d 255 154 [vA 234, vI l1, vI l2, vI l3, vI l4, vI l5] [vI l3, vI (M 277 l5.toNat), vI l5, vA 277] (GF X, M, PTF v) K else pm_Run d 255 150 [vA 234, vI l1, vI l2, vI l3, vI l4, vI l5] [vI l3, vI (M 277 l5.toNat), vI l5, vA 277] (GF X, M, PTF v) K := by
  refine (px_go (by decide +kernel : pm_fe 255 134 = some (.aload_n 0, 1)) rfl).trans ?_
  refine (ry_get2 (idx := 219) (ci := 12) (k := 68) (by decide +kernel : 234 < 283 ∧ SHF 234 = (12, 76)) (ptf_l (a := 234) (k := 68) (n := 277) (by decide +kernel)) (by decide +kernel)).trans ?_
  refine (px_go (by decide +kernel : pm_fe 255 138 = some (.iload 5, 2)) rfl).trans ?_
  refine (px_go (by decide +kernel : pm_fe 255 140 = some (.dup2, 1)) rfl).trans ?_
  refine (ry_iald (by decide +kernel : 277 < 283 ∧ SHF 277 = (100, 24)) h1 h2 (by decide +kernel)).trans ?_
  refine (px_go (by decide +kernel : pm_fe 255 142 = some (.iload_n 3, 1)) rfl).trans ?_
  refine (px_go (by decide +kernel : pm_fe 255 143 = some (.iload 5, 2)) rfl).trans ?_
  refine (px_go (by decide +kernel : pm_fe 255 145 = some (.iload 4, 2)) rfl).trans ?_
  refine (ry_ic_ge (off := 7) (tgt := 154) h3 h4 (by decide +kernel)).trans ?_
  exact Iff.rfl
theorem r255_150 {d : Nat} {X : Nat × (Nat → Int)} {v : Nat → Int} {M : PH} {K : PV → PS → Prop} {l1 l2 l3 l4 l5 s0 s1 s2 : Int} : pm_Run d 255 150 [vA 234, vI l1, vI l2, vI l3, vI l4, vI l5] [vI s0, vI s1, vI s2, vA 277] (GF X, M, PTF v) K ↔ pm_Run d 255 155 [vA 234, vI l1, vI l2, vI l3, vI l4, vI l5] [vI 1, vI s0, vI s1, vI s2, vA 277] (GF X, M, PTF v) K := by
  refine (px_go (by decide +kernel : pm_fe 255 150 = some (.iconst 1, 1)) rfl).trans ?_
  refine (px_goto (off := 4) (tgt := 155) (by decide +kernel)).trans ?_
  exact Iff.rfl
theorem r255_154 {d : Nat} {X : Nat × (Nat → Int)} {v : Nat → Int} {M : PH} {K : PV → PS → Prop} {l1 l2 l3 l4 l5 s0 s1 s2 : Int} : pm_Run d 255 154 [vA 234, vI l1, vI l2, vI l3, vI l4, vI l5] [vI s0, vI s1, vI s2, vA 277] (GF X, M, PTF v) K ↔ pm_Run d 255 155 [vA 234, vI l1, vI l2, vI l3, vI l4, vI l5] [vI 0, vI s0, vI s1, vI s2, vA 277] (GF X, M, PTF v) K := by
  refine (px_go (by decide +kernel : pm_fe 255 154 = some (.iconst 0, 1)) rfl).trans ?_
  exact Iff.rfl
theorem r255_155 {d : Nat} {X : Nat × (Nat → Int)} {v : Nat → Int} {M : PH} {K : PV → PS → Prop} {l1 l2 l3 l4 l5 s0 s1 s2 s3 : Int} (h1 : 0 ≤ s3) (h2 : s3 < 24) : pm_Run d 255 155 [vA 234, vI l1, vI l2, vI l3, vI l4, vI l5] [vI s0, vI s1, vI s2, vI s3, vA 277] (GF X, M, PTF v) K ↔ pm_Run d 255 158 [vA 234, vI l1, vI l2, vI l3, vI l4, vI l5] [] (GF X, pm_sa M 277 (pm_up (M 277) s3.toNat (s2 - (s1 + s0))), PTF v) K := by
  refine (px_go (by decide +kernel : pm_fe 255 155 = some (.iadd, 1)) rfl).trans ?_
  refine (px_go (by decide +kernel : pm_fe 255 156 = some (.isub, 1)) rfl).trans ?_
  refine (ry_iast (by decide +kernel : 277 < 283 ∧ SHF 277 = (100, 24)) h1 h2 (by decide +kernel)).trans ?_
  exact Iff.rfl
theorem r255_158 {d : Nat} {X : Nat × (Nat → Int)} {v : Nat → Int} {M : PH} {K : PV → PS → Prop} {l1 l2 l3 l4 l5 : Int} : pm_Run d 255 158 [vA 234, vI l1, vI l2, vI l3, vI l4, vI l5] [] (GF X, M, PTF v) K ↔ pm_Run d 255 120 [vA 234, vI l1, vI l2, vI l3, vI l4, vI (l5 + 1)] [] (GF X, M, PTF v) K := by
  refine (px_go (by decide +kernel : pm_fe 255 158 = some (.iinc 5 1, 3)) rfl).trans ?_
  refine (px_goto (off := (-41)) (tgt := 120) (by decide +kernel)).trans ?_
  exact Iff.rfl
theorem r255_164 {d : Nat} {X : Nat × (Nat → Int)} {v : Nat → Int} {M : PH} {K : PV → PS → Prop} {l1 l2 l3 l4 l5 : Int} : pm_Run d 255 164 [vA 234, vI l1, vI l2, vI l3, vI l4, vI l5] [] (GF X, M, PTF v) K ↔ K PU (GF X, M, PTF v) := by
  refine (px_rv (by decide +kernel)).trans ?_
  exact Iff.rfl
-- X12_paysTo paysTo(III)V
theorem r256_0 {d : Nat} {X : Nat × (Nat → Int)} {v : Nat → Int} {M : PH} {K : PV → PS → Prop} {l1 l2 l3 : Int} (h1 : 0 ≤ ((8 * l1) + l2)) (h2 : ((8 * l1) + l2) < 176) (h3 : 0 ≤ (((24 * l1) + (3 * l2)) + l3)) (h4 : (((24 * l1) + (3 * l2)) + l3) < 528) (h5 : inR (M 273 ((8 * l1) + l2).toNat)) (h6 : inR (M 274 (((24 * l1) + (3 * l2)) + l3).toNat)) : pm_Run d 256 0 [vA 234, vI l1, vI l2, vI l3, PU, PU] [] (GF X, M, PTF v) K ↔ if M 273 ((8 * l1) + l2).toNat < M 274 (((24 * l1) + (3 * l2)) + l3).toNat then pm_Run d 256 57 [vA 234, vI l1, vI l2, vI l3, vI (((24 * l1) + (3 * l2)) + l3), vI ((8 * l1) + l2)] [] (GF X, M, PTF v) K else pm_Run d 256 37 [vA 234, vI l1, vI l2, vI l3, vI (((24 * l1) + (3 * l2)) + l3), vI ((8 * l1) + l2)] [] (GF X, M, PTF v) K := by
  refine (px_go (by decide +kernel : pm_fe 256 0 = some (.bipush 24, 2)) rfl).trans ?_
  refine (px_go (by decide +kernel : pm_fe 256 2 = some (.iload_n 1, 1)) rfl).trans ?_
  refine (px_go (by decide +kernel : pm_fe 256 3 = some (.imul, 1)) rfl).trans ?_
  refine (px_go (by decide +kernel : pm_fe 256 4 = some (.iconst 3, 1)) rfl).trans ?_
  refine (px_go (by decide +kernel : pm_fe 256 5 = some (.iload_n 2, 1)) rfl).trans ?_
  refine (px_go (by decide +kernel : pm_fe 256 6 = some (.imul, 1)) rfl).trans ?_
  refine (px_go (by decide +kernel : pm_fe 256 7 = some (.iadd, 1)) rfl).trans ?_
  refine (px_go (by decide +kernel : pm_fe 256 8 = some (.iload_n 3, 1)) rfl).trans ?_
  refine (px_go (by decide +kernel : pm_fe 256 9 = some (.iadd, 1)) rfl).trans ?_
  refine (px_go (by decide +kernel : pm_fe 256 10 = some (.istore 4, 2)) rfl).trans ?_
  refine (px_go (by decide +kernel : pm_fe 256 12 = some (.bipush 8, 2)) rfl).trans ?_
  refine (px_go (by decide +kernel : pm_fe 256 14 = some (.iload_n 1, 1)) rfl).trans ?_
  refine (px_go (by decide +kernel : pm_fe 256 15 = some (.imul, 1)) rfl).trans ?_
  refine (px_go (by decide +kernel : pm_fe 256 16 = some (.iload_n 2, 1)) rfl).trans ?_
  refine (px_go (by decide +kernel : pm_fe 256 17 = some (.iadd, 1)) rfl).trans ?_
  refine (px_go (by decide +kernel : pm_fe 256 18 = some (.istore 5, 2)) rfl).trans ?_
  refine (px_go (by decide +kernel : pm_fe 256 20 = some (.aload_n 0, 1)) rfl).trans ?_
  refine (ry_get2 (idx := 186) (ci := 12) (k := 57) (by decide +kernel : 234 < 283 ∧ SHF 234 = (12, 76)) (ptf_l (a := 234) (k := 57) (n := 273) (by decide +kernel)) (by decide +kernel)).trans ?_
  refine (px_go (by decide +kernel : pm_fe 256 24 = some (.iload 5, 2)) rfl).trans ?_
  refine (ry_iald (by decide +kernel : 273 < 283 ∧ SHF 273 = (100, 176)) h1 h2 (by decide +kernel)).trans ?_
  refine (px_go (by decide +kernel : pm_fe 256 27 = some (.aload_n 0, 1)) rfl).trans ?_
  refine (ry_get2 (idx := 189) (ci := 12) (k := 58) (by decide +kernel : 234 < 283 ∧ SHF 234 = (12, 76)) (ptf_l (a := 234) (k := 58) (n := 274) (by decide +kernel)) (by decide +kernel)).trans ?_
  refine (px_go (by decide +kernel : pm_fe 256 31 = some (.iload 4, 2)) rfl).trans ?_
  refine (ry_iald (by decide +kernel : 274 < 283 ∧ SHF 274 = (100, 528)) h3 h4 (by decide +kernel)).trans ?_
  refine (ry_ic_lt (off := 23) (tgt := 57) h5 h6 (by decide +kernel)).trans ?_
  exact Iff.rfl
theorem r256_37 {d : Nat} {X : Nat × (Nat → Int)} {v : Nat → Int} {M : PH} {K : PV → PS → Prop} {l1 l2 l3 l4 l5 : Int} (h1 : 0 ≤ l5) (h2 : l5 < 176) (h3 : 0 ≤ l4) (h4 : l4 < 528) : pm_Run d 256 37 [vA 234, vI l1, vI l2, vI l3, vI l4, vI l5] [] (GF X, M, PTF v) K ↔ pm_Run d 256 106 [vA 234, vI l1, vI l2, vI l3, vI l4, vI l5] [] (GF X, pm_sa M 273 (pm_up (M 273) l5.toNat ((M 273 l5.toNat) - (M 274 l4.toNat))), PTF v) K := by
  refine (px_go (by decide +kernel : pm_fe 256 37 = some (.aload_n 0, 1)) rfl).trans ?_
  refine (ry_get2 (idx := 186) (ci := 12) (k := 57) (by decide +kernel : 234 < 283 ∧ SHF 234 = (12, 76)) (ptf_l (a := 234) (k := 57) (n := 273) (by decide +kernel)) (by decide +kernel)).trans ?_
  refine (px_go (by decide +kernel : pm_fe 256 41 = some (.iload 5, 2)) rfl).trans ?_
  refine (px_go (by decide +kernel : pm_fe 256 43 = some (.dup2, 1)) rfl).trans ?_
  refine (ry_iald (by decide +kernel : 273 < 283 ∧ SHF 273 = (100, 176)) h1 h2 (by decide +kernel)).trans ?_
  refine (px_go (by decide +kernel : pm_fe 256 45 = some (.aload_n 0, 1)) rfl).trans ?_
  refine (ry_get2 (idx := 189) (ci := 12) (k := 58) (by decide +kernel : 234 < 283 ∧ SHF 234 = (12, 76)) (ptf_l (a := 234) (k := 58) (n := 274) (by decide +kernel)) (by decide +kernel)).trans ?_
  refine (px_go (by decide +kernel : pm_fe 256 49 = some (.iload 4, 2)) rfl).trans ?_
  refine (ry_iald (by decide +kernel : 274 < 283 ∧ SHF 274 = (100, 528)) h3 h4 (by decide +kernel)).trans ?_
  refine (px_go (by decide +kernel : pm_fe 256 52 = some (.isub, 1)) rfl).trans ?_
  refine (ry_iast (by decide +kernel : 273 < 283 ∧ SHF 273 = (100, 176)) h1 h2 (by decide +kernel)).trans ?_
  refine (px_goto (off := 52) (tgt := 106) (by decide +kernel)).trans ?_
  exact Iff.rfl
theorem r256_57 {d : Nat} {X : Nat × (Nat → Int)} {v : Nat → Int} {M : PH} {K : PV → PS → Prop} {l1 l2 l3 l4 l5 : Int} (h1 : 0 ≤ l4) (h2 : l4 < 528) (h3 : inR ((M 275 l4.toNat) + (M 274 l4.toNat))) : pm_Run d 256 57 [vA 234, vI l1, vI l2, vI l3, vI l4, vI l5] [] (GF X, M, PTF v) K ↔ if (M 275 l4.toNat) + (M 274 l4.toNat) ≤ 9999 then pm_Run d 256 90 [vA 234, vI l1, vI l2, vI l3, vI l4, vI l5] [vI l4, vA 275] (GF X, M, PTF v) K else pm_Run d 256 84 [vA 234, vI l1, vI l2, vI l3, vI l4, vI l5] [vI l4, vA 275] (GF X, M, PTF v) K := by
  refine (px_go (by decide +kernel : pm_fe 256 57 = some (.aload_n 0, 1)) rfl).trans ?_
  refine (ry_get2 (idx := 192) (ci := 12) (k := 59) (by decide +kernel : 234 < 283 ∧ SHF 234 = (12, 76)) (ptf_l (a := 234) (k := 59) (n := 275) (by decide +kernel)) (by decide +kernel)).trans ?_
  refine (px_go (by decide +kernel : pm_fe 256 61 = some (.iload 4, 2)) rfl).trans ?_
  refine (px_go (by decide +kernel : pm_fe 256 63 = some (.aload_n 0, 1)) rfl).trans ?_
  refine (ry_get2 (idx := 192) (ci := 12) (k := 59) (by decide +kernel : 234 < 283 ∧ SHF 234 = (12, 76)) (ptf_l (a := 234) (k := 59) (n := 275) (by decide +kernel)) (by decide +kernel)).trans ?_
  refine (px_go (by decide +kernel : pm_fe 256 67 = some (.iload 4, 2)) rfl).trans ?_
  refine (ry_iald (by decide +kernel : 275 < 283 ∧ SHF 275 = (100, 528)) h1 h2 (by decide +kernel)).trans ?_
  refine (px_go (by decide +kernel : pm_fe 256 70 = some (.aload_n 0, 1)) rfl).trans ?_
  refine (ry_get2 (idx := 189) (ci := 12) (k := 58) (by decide +kernel : 234 < 283 ∧ SHF 234 = (12, 76)) (ptf_l (a := 234) (k := 58) (n := 274) (by decide +kernel)) (by decide +kernel)).trans ?_
  refine (px_go (by decide +kernel : pm_fe 256 74 = some (.iload 4, 2)) rfl).trans ?_
  refine (ry_iald (by decide +kernel : 274 < 283 ∧ SHF 274 = (100, 528)) h1 h2 (by decide +kernel)).trans ?_
  refine (px_go (by decide +kernel : pm_fe 256 77 = some (.iadd, 1)) rfl).trans ?_
  refine (px_go (by decide +kernel : pm_fe 256 78 = some (.sipush 9999, 3)) rfl).trans ?_
  refine (ry_ic_le (off := 9) (tgt := 90) h3 (by decide : (-2147483648 ≤ (9999 : Int) ∧ (9999 : Int) < 2147483648)) (by decide +kernel)).trans ?_
  exact Iff.rfl
theorem r256_84 {d : Nat} {X : Nat × (Nat → Int)} {v : Nat → Int} {M : PH} {K : PV → PS → Prop} {l1 l2 l3 l4 l5 s0 : Int} : pm_Run d 256 84 [vA 234, vI l1, vI l2, vI l3, vI l4, vI l5] [vI s0, vA 275] (GF X, M, PTF v) K ↔ pm_Run d 256 105 [vA 234, vI l1, vI l2, vI l3, vI l4, vI l5] [vI 9999, vI s0, vA 275] (GF X, M, PTF v) K := by
  refine (px_go (by decide +kernel : pm_fe 256 84 = some (.sipush 9999, 3)) rfl).trans ?_
  refine (px_goto (off := 18) (tgt := 105) (by decide +kernel)).trans ?_
  exact Iff.rfl
theorem r256_90 {d : Nat} {X : Nat × (Nat → Int)} {v : Nat → Int} {M : PH} {K : PV → PS → Prop} {l1 l2 l3 l4 l5 s0 : Int} (h1 : 0 ≤ l4) (h2 : l4 < 528) : pm_Run d 256 90 [vA 234, vI l1, vI l2, vI l3, vI l4, vI l5] [vI s0, vA 275] (GF X, M, PTF v) K ↔ pm_Run d 256 105 [vA 234, vI l1, vI l2, vI l3, vI l4, vI l5] [vI ((M 275 l4.toNat) + (M 274 l4.toNat)), vI s0, vA 275] (GF X, M, PTF v) K := by
  refine (px_go (by decide +kernel : pm_fe 256 90 = some (.aload_n 0, 1)) rfl).trans ?_
  refine (ry_get2 (idx := 192) (ci := 12) (k := 59) (by decide +kernel : 234 < 283 ∧ SHF 234 = (12, 76)) (ptf_l (a := 234) (k := 59) (n := 275) (by decide +kernel)) (by decide +kernel)).trans ?_
  refine (px_go (by decide +kernel : pm_fe 256 94 = some (.iload 4, 2)) rfl).trans ?_
  refine (ry_iald (by decide +kernel : 275 < 283 ∧ SHF 275 = (100, 528)) h1 h2 (by decide +kernel)).trans ?_
  refine (px_go (by decide +kernel : pm_fe 256 97 = some (.aload_n 0, 1)) rfl).trans ?_
  refine (ry_get2 (idx := 189) (ci := 12) (k := 58) (by decide +kernel : 234 < 283 ∧ SHF 234 = (12, 76)) (ptf_l (a := 234) (k := 58) (n := 274) (by decide +kernel)) (by decide +kernel)).trans ?_
  refine (px_go (by decide +kernel : pm_fe 256 101 = some (.iload 4, 2)) rfl).trans ?_
  refine (ry_iald (by decide +kernel : 274 < 283 ∧ SHF 274 = (100, 528)) h1 h2 (by decide +kernel)).trans ?_
  refine (px_go (by decide +kernel : pm_fe 256 104 = some (.iadd, 1)) rfl).trans ?_
  exact Iff.rfl
theorem r256_105 {d : Nat} {X : Nat × (Nat → Int)} {v : Nat → Int} {M : PH} {K : PV → PS → Prop} {l1 l2 l3 l4 l5 s0 s1 : Int} (h1 : 0 ≤ s1) (h2 : s1 < 528) : pm_Run d 256 105 [vA 234, vI l1, vI l2, vI l3, vI l4, vI l5] [vI s0, vI s1, vA 275] (GF X, M, PTF v) K ↔ pm_Run d 256 106 [vA 234, vI l1, vI l2, vI l3, vI l4, vI l5] [] (GF X, pm_sa M 275 (pm_up (M 275) s1.toNat s0), PTF v) K := by
  refine (ry_iast (by decide +kernel : 275 < 283 ∧ SHF 275 = (100, 528)) h1 h2 (by decide +kernel)).trans ?_
  exact Iff.rfl
theorem r256_106 {d : Nat} {X : Nat × (Nat → Int)} {v : Nat → Int} {M : PH} {K : PV → PS → Prop} {l1 l2 l3 l4 l5 : Int} (h1 : 0 ≤ l5) (h2 : l5 < 176) (h3 : 0 ≤ l4) (h4 : l4 < 528) (h5 : inR (M 273 l5.toNat)) (h6 : inR (M 275 l4.toNat)) : pm_Run d 256 106 [vA 234, vI l1, vI l2, vI l3, vI l4, vI l5] [] (GF X, M, PTF v) K ↔ if M 275 l4.toNat ≤ M 273 l5.toNat then pm_Run d 256 124 [vA 234, vI l1, vI l2, vI l3, vI l4, vI l5] [] (GF X, M, PTF v) K else pm_Run d 256 123 [vA 234, vI l1, vI l2, vI l3, vI l4, vI l5] [] (GF X, M, PTF v) K := by
  refine (px_go (by decide +kernel : pm_fe 256 106 = some (.aload_n 0, 1)) rfl).trans ?_
  refine (ry_get2 (idx := 186) (ci := 12) (k := 57) (by decide +kernel : 234 < 283 ∧ SHF 234 = (12, 76)) (ptf_l (a := 234) (k := 57) (n := 273) (by decide +kernel)) (by decide +kernel)).trans ?_
  refine (px_go (by decide +kernel : pm_fe 256 110 = some (.iload 5, 2)) rfl).trans ?_
  refine (ry_iald (by decide +kernel : 273 < 283 ∧ SHF 273 = (100, 176)) h1 h2 (by decide +kernel)).trans ?_
  refine (px_go (by decide +kernel : pm_fe 256 113 = some (.aload_n 0, 1)) rfl).trans ?_
  refine (ry_get2 (idx := 192) (ci := 12) (k := 59) (by decide +kernel : 234 < 283 ∧ SHF 234 = (12, 76)) (ptf_l (a := 234) (k := 59) (n := 275) (by decide +kernel)) (by decide +kernel)).trans ?_
  refine (px_go (by decide +kernel : pm_fe 256 117 = some (.iload 4, 2)) rfl).trans ?_
  refine (ry_iald (by decide +kernel : 275 < 283 ∧ SHF 275 = (100, 528)) h3 h4 (by decide +kernel)).trans ?_
  refine (ry_ic_ge (off := 4) (tgt := 124) h5 h6 (by decide +kernel)).trans ?_
  exact Iff.rfl
theorem r256_123 {d : Nat} {X : Nat × (Nat → Int)} {v : Nat → Int} {M : PH} {K : PV → PS → Prop} {l1 l2 l3 l4 l5 : Int} : pm_Run d 256 123 [vA 234, vI l1, vI l2, vI l3, vI l4, vI l5] [] (GF X, M, PTF v) K ↔ K PU (GF X, M, PTF v) := by
  refine (px_rv (by decide +kernel)).trans ?_
  exact Iff.rfl
theorem r256_124 {d : Nat} {X : Nat × (Nat → Int)} {v : Nat → Int} {M : PH} {K : PV → PS → Prop} {l1 l2 l3 l4 l5 : Int} (h1 : 0 ≤ l5) (h2 : l5 < 176) (h3 : 0 ≤ l4) (h4 : l4 < 528) : pm_Run d 256 124 [vA 234, vI l1, vI l2, vI l3, vI l4, vI l5] [] (GF X, M, PTF v) K ↔ pm_Run d 256 141 [vA 234, vI l1, vI l2, vI l3, vI l4, vI l5] [] (GF X, pm_sa M 273 (pm_up (M 273) l5.toNat ((M 273 l5.toNat) - (M 275 l4.toNat))), PTF v) K := by
  refine (px_go (by decide +kernel : pm_fe 256 124 = some (.aload_n 0, 1)) rfl).trans ?_
  refine (ry_get2 (idx := 186) (ci := 12) (k := 57) (by decide +kernel : 234 < 283 ∧ SHF 234 = (12, 76)) (ptf_l (a := 234) (k := 57) (n := 273) (by decide +kernel)) (by decide +kernel)).trans ?_
  refine (px_go (by decide +kernel : pm_fe 256 128 = some (.iload 5, 2)) rfl).trans ?_
  refine (px_go (by decide +kernel : pm_fe 256 130 = some (.dup2, 1)) rfl).trans ?_
  refine (ry_iald (by decide +kernel : 273 < 283 ∧ SHF 273 = (100, 176)) h1 h2 (by decide +kernel)).trans ?_
  refine (px_go (by decide +kernel : pm_fe 256 132 = some (.aload_n 0, 1)) rfl).trans ?_
  refine (ry_get2 (idx := 192) (ci := 12) (k := 59) (by decide +kernel : 234 < 283 ∧ SHF 234 = (12, 76)) (ptf_l (a := 234) (k := 59) (n := 275) (by decide +kernel)) (by decide +kernel)).trans ?_
  refine (px_go (by decide +kernel : pm_fe 256 136 = some (.iload 4, 2)) rfl).trans ?_
  refine (ry_iald (by decide +kernel : 275 < 283 ∧ SHF 275 = (100, 528)) h3 h4 (by decide +kernel)).trans ?_
  refine (px_go (by decide +kernel : pm_fe 256 139 = some (.isub, 1)) rfl).trans ?_
  refine (ry_iast (by decide +kernel : 273 < 283 ∧ SHF 273 = (100, 176)) h1 h2 (by decide +kernel)).trans ?_
  exact Iff.rfl
theorem r256_141 {d : Nat} {X : Nat × (Nat → Int)} {v : Nat → Int} {M : PH} {K : PV → PS → Prop} {l1 l2 l3 l4 l5 : Int} (h1 : 0 ≤ l4) (h2 : l4 < 528) : pm_Run d 256 141 [vA 234, vI l1, vI l2, vI l3, vI l4, vI l5] [] (GF X, M, PTF v) K ↔ K PU (GF X, pm_sa M 275 (pm_up (M 275) l4.toNat 0), PTF v) := by
  refine (px_go (by decide +kernel : pm_fe 256 141 = some (.aload_n 0, 1)) rfl).trans ?_
  refine (ry_get2 (idx := 192) (ci := 12) (k := 59) (by decide +kernel : 234 < 283 ∧ SHF 234 = (12, 76)) (ptf_l (a := 234) (k := 59) (n := 275) (by decide +kernel)) (by decide +kernel)).trans ?_
  refine (px_go (by decide +kernel : pm_fe 256 145 = some (.iload 4, 2)) rfl).trans ?_
  refine (px_go (by decide +kernel : pm_fe 256 147 = some (.iconst 0, 1)) rfl).trans ?_
  refine (ry_iast (by decide +kernel : 275 < 283 ∧ SHF 275 = (100, 528)) h1 h2 (by decide +kernel)).trans ?_
  refine (px_rv (by decide +kernel)).trans ?_
  exact Iff.rfl
-- X12_hourGoes hourGoes(I)V
theorem r257_0 {d : Nat} {X : Nat × (Nat → Int)} {v : Nat → Int} {M : PH} {K : PV → PS → Prop} {l1 : Int} : pm_Run d 257 0 [vA 234, vI l1, PU, PU] [] (GF X, M, PTF v) K ↔ pm_Call d 255 [vA 234, vI l1] (GF X, M, PTF v) (fun r9 S1 => pm_Run d 257 5 [vA 234, vI l1, PU, PU] (pm_push r9 []) S1 K) := by
  refine (px_go (by decide +kernel : pm_fe 257 0 = some (.aload_n 0, 1)) rfl).trans ?_
  refine (px_go (by decide +kernel : pm_fe 257 1 = some (.iload_n 1, 1)) rfl).trans ?_
  refine (ry_v1 (idx := 513) (m' := 255) (ci := 12) (by decide +kernel : 234 < 283 ∧ SHF 234 = (12, 76)) (by simp [pm_wl_n, pm_wl_c, pm_w] : pm_wl [] ≤ 8) (by decide +kernel)).trans ?_
  exact Iff.rfl
theorem r257_5 {d : Nat} {X : Nat × (Nat → Int)} {v : Nat → Int} {M : PH} {K : PV → PS → Prop} {l1 : Int} : pm_Run d 257 5 [vA 234, vI l1, PU, PU] [] (GF X, M, PTF v) K ↔ pm_Run d 257 7 [vA 234, vI l1, vI 0, PU] [] (GF X, M, PTF v) K := by
  refine (px_go (by decide +kernel : pm_fe 257 5 = some (.iconst 0, 1)) rfl).trans ?_
  refine (px_go (by decide +kernel : pm_fe 257 6 = some (.istore_n 2, 1)) rfl).trans ?_
  exact Iff.rfl
theorem r257_7 {d : Nat} {X : Nat × (Nat → Int)} {v : Nat → Int} {M : PH} {K : PV → PS → Prop} {l1 l2 : Int} {l3 : PV} (h1 : 0 ≤ (M 234 13)) (h2 : (M 234 13) < 2) (h3 : inR l2) (h4 : inR (M 241 (M 234 13).toNat)) : pm_Run d 257 7 [vA 234, vI l1, vI l2, l3] [] (GF X, M, PTF v) K ↔ if M 241 (M 234 13).toNat ≤ l2 then pm_Run d 257 70 [vA 234, vI l1, vI l2, l3] [] (GF X, M, PTF v) K else pm_Run d 257 20 [vA 234, vI l1, vI l2, l3] [] (GF X, M, PTF v) K := by
  refine (px_go (by decide +kernel : pm_fe 257 7 = some (.iload_n 2, 1)) rfl).trans ?_
  refine (px_go (by decide +kernel : pm_fe 257 8 = some (.aload_n 0, 1)) rfl).trans ?_
  refine (ry_get2 (idx := 69) (ci := 12) (k := 19) (by decide +kernel : 234 < 283 ∧ SHF 234 = (12, 76)) (ptf_l (a := 234) (k := 19) (n := 241) (by decide +kernel)) (by decide +kernel)).trans ?_
  refine (px_go (by decide +kernel : pm_fe 257 12 = some (.aload_n 0, 1)) rfl).trans ?_
  refine (ry_get0 (idx := 51) (ci := 12) (k := 13) (by decide +kernel : 234 < 283 ∧ SHF 234 = (12, 76)) (by decide +kernel)).trans ?_
  refine (ry_iald (by decide +kernel : 241 < 283 ∧ SHF 241 = (100, 2)) h1 h2 (by decide +kernel)).trans ?_
  refine (ry_ic_ge (off := 53) (tgt := 70) h3 h4 (by decide +kernel)).trans ?_
  exact Iff.rfl
theorem r257_20 {d : Nat} {X : Nat × (Nat → Int)} {v : Nat → Int} {M : PH} {K : PV → PS → Prop} {l1 l2 : Int} {l3 : PV} (h1 : 0 ≤ ((8 * l1) + l2)) (h2 : ((8 * l1) + l2) < 176) : pm_Run d 257 20 [vA 234, vI l1, vI l2, l3] [] (GF X, M, PTF v) K ↔ pm_Call d 253 [vA 234, vI l1, vI l2] (GF X, M, PTF v) (fun r9 S1 => pm_Run d 257 37 [vA 234, vI l1, vI l2, l3] (pm_push r9 [vI (M 273 ((8 * l1) + l2).toNat)]) S1 K) := by
  refine (px_go (by decide +kernel : pm_fe 257 20 = some (.aload_n 0, 1)) rfl).trans ?_
  refine (ry_get2 (idx := 186) (ci := 12) (k := 57) (by decide +kernel : 234 < 283 ∧ SHF 234 = (12, 76)) (ptf_l (a := 234) (k := 57) (n := 273) (by decide +kernel)) (by decide +kernel)).trans ?_
  refine (px_go (by decide +kernel : pm_fe 257 24 = some (.bipush 8, 2)) rfl).trans ?_
  refine (px_go (by decide +kernel : pm_fe 257 26 = some (.iload_n 1, 1)) rfl).trans ?_
  refine (px_go (by decide +kernel : pm_fe 257 27 = some (.imul, 1)) rfl).trans ?_
  refine (px_go (by decide +kernel : pm_fe 257 28 = some (.iload_n 2, 1)) rfl).trans ?_
  refine (px_go (by decide +kernel : pm_fe 257 29 = some (.iadd, 1)) rfl).trans ?_
  refine (ry_iald (by decide +kernel : 273 < 283 ∧ SHF 273 = (100, 176)) h1 h2 (by decide +kernel)).trans ?_
  refine (px_go (by decide +kernel : pm_fe 257 31 = some (.aload_n 0, 1)) rfl).trans ?_
  refine (px_go (by decide +kernel : pm_fe 257 32 = some (.iload_n 1, 1)) rfl).trans ?_
  refine (px_go (by decide +kernel : pm_fe 257 33 = some (.iload_n 2, 1)) rfl).trans ?_
  refine (ry_v2 (idx := 516) (m' := 253) (ci := 12) (by decide +kernel : 234 < 283 ∧ SHF 234 = (12, 76)) (by simp [pm_wl_n, pm_wl_c, pm_w] : pm_wl [vI (M 273 ((8 * l1) + l2).toNat)] ≤ 8) (by decide +kernel)).trans ?_
  exact Iff.rfl
theorem r257_37 {d : Nat} {X : Nat × (Nat → Int)} {v : Nat → Int} {M : PH} {K : PV → PS → Prop} {l1 l2 s0 s1 : Int} {l3 : PV} (h1 : inR (s1 + s0)) : pm_Run d 257 37 [vA 234, vI l1, vI l2, l3] [vI s0, vI s1] (GF X, M, PTF v) K ↔ if s1 + s0 ≤ 9999 then pm_Run d 257 62 [vA 234, vI l1, vI l2, vI (s1 + s0)] [vI ((8 * l1) + l2), vA 273] (GF X, M, PTF v) K else pm_Run d 257 56 [vA 234, vI l1, vI l2, vI (s1 + s0)] [vI ((8 * l1) + l2), vA 273] (GF X, M, PTF v) K := by
  refine (px_go (by decide +kernel : pm_fe 257 37 = some (.iadd, 1)) rfl).trans ?_
  refine (px_go (by decide +kernel : pm_fe 257 38 = some (.istore_n 3, 1)) rfl).trans ?_
  refine (px_go (by decide +kernel : pm_fe 257 39 = some (.aload_n 0, 1)) rfl).trans ?_
  refine (ry_get2 (idx := 186) (ci := 12) (k := 57) (by decide +kernel : 234 < 283 ∧ SHF 234 = (12, 76)) (ptf_l (a := 234) (k := 57) (n := 273) (by decide +kernel)) (by decide +kernel)).trans ?_
  refine (px_go (by decide +kernel : pm_fe 257 43 = some (.bipush 8, 2)) rfl).trans ?_
  refine (px_go (by decide +kernel : pm_fe 257 45 = some (.iload_n 1, 1)) rfl).trans ?_
  refine (px_go (by decide +kernel : pm_fe 257 46 = some (.imul, 1)) rfl).trans ?_
  refine (px_go (by decide +kernel : pm_fe 257 47 = some (.iload_n 2, 1)) rfl).trans ?_
  refine (px_go (by decide +kernel : pm_fe 257 48 = some (.iadd, 1)) rfl).trans ?_
  refine (px_go (by decide +kernel : pm_fe 257 49 = some (.iload_n 3, 1)) rfl).trans ?_
  refine (px_go (by decide +kernel : pm_fe 257 50 = some (.sipush 9999, 3)) rfl).trans ?_
  refine (ry_ic_le (off := 9) (tgt := 62) h1 (by decide : (-2147483648 ≤ (9999 : Int) ∧ (9999 : Int) < 2147483648)) (by decide +kernel)).trans ?_
  exact Iff.rfl
theorem r257_56 {d : Nat} {X : Nat × (Nat → Int)} {v : Nat → Int} {M : PH} {K : PV → PS → Prop} {l1 l2 l3 s0 : Int} : pm_Run d 257 56 [vA 234, vI l1, vI l2, vI l3] [vI s0, vA 273] (GF X, M, PTF v) K ↔ pm_Run d 257 63 [vA 234, vI l1, vI l2, vI l3] [vI 9999, vI s0, vA 273] (GF X, M, PTF v) K := by
  refine (px_go (by decide +kernel : pm_fe 257 56 = some (.sipush 9999, 3)) rfl).trans ?_
  refine (px_goto (off := 4) (tgt := 63) (by decide +kernel)).trans ?_
  exact Iff.rfl
theorem r257_62 {d : Nat} {X : Nat × (Nat → Int)} {v : Nat → Int} {M : PH} {K : PV → PS → Prop} {l1 l2 l3 s0 : Int} : pm_Run d 257 62 [vA 234, vI l1, vI l2, vI l3] [vI s0, vA 273] (GF X, M, PTF v) K ↔ pm_Run d 257 63 [vA 234, vI l1, vI l2, vI l3] [vI l3, vI s0, vA 273] (GF X, M, PTF v) K := by
  refine (px_go (by decide +kernel : pm_fe 257 62 = some (.iload_n 3, 1)) rfl).trans ?_
  exact Iff.rfl
theorem r257_63 {d : Nat} {X : Nat × (Nat → Int)} {v : Nat → Int} {M : PH} {K : PV → PS → Prop} {l1 l2 l3 s0 s1 : Int} (h1 : 0 ≤ s1) (h2 : s1 < 176) : pm_Run d 257 63 [vA 234, vI l1, vI l2, vI l3] [vI s0, vI s1, vA 273] (GF X, M, PTF v) K ↔ pm_Run d 257 64 [vA 234, vI l1, vI l2, vI l3] [] (GF X, pm_sa M 273 (pm_up (M 273) s1.toNat s0), PTF v) K := by
  refine (ry_iast (by decide +kernel : 273 < 283 ∧ SHF 273 = (100, 176)) h1 h2 (by decide +kernel)).trans ?_
  exact Iff.rfl
theorem r257_64 {d : Nat} {X : Nat × (Nat → Int)} {v : Nat → Int} {M : PH} {K : PV → PS → Prop} {l1 l2 l3 : Int} : pm_Run d 257 64 [vA 234, vI l1, vI l2, vI l3] [] (GF X, M, PTF v) K ↔ pm_Run d 257 7 [vA 234, vI l1, vI (l2 + 1), vI l3] [] (GF X, M, PTF v) K := by
  refine (px_go (by decide +kernel : pm_fe 257 64 = some (.iinc 2 1, 3)) rfl).trans ?_
  refine (px_goto (off := (-60)) (tgt := 7) (by decide +kernel)).trans ?_
  exact Iff.rfl
theorem r257_70 {d : Nat} {X : Nat × (Nat → Int)} {v : Nat → Int} {M : PH} {K : PV → PS → Prop} {l1 l2 : Int} {l3 : PV} : pm_Run d 257 70 [vA 234, vI l1, vI l2, l3] [] (GF X, M, PTF v) K ↔ pm_Run d 257 72 [vA 234, vI l1, vI 0, l3] [] (GF X, M, PTF v) K := by
  refine (px_go (by decide +kernel : pm_fe 257 70 = some (.iconst 0, 1)) rfl).trans ?_
  refine (px_go (by decide +kernel : pm_fe 257 71 = some (.istore_n 2, 1)) rfl).trans ?_
  exact Iff.rfl
theorem r257_72 {d : Nat} {X : Nat × (Nat → Int)} {v : Nat → Int} {M : PH} {K : PV → PS → Prop} {l1 l2 : Int} {l3 : PV} (h1 : 0 ≤ (M 234 13)) (h2 : (M 234 13) < 2) (h3 : inR l2) (h4 : inR (M 241 (M 234 13).toNat)) : pm_Run d 257 72 [vA 234, vI l1, vI l2, l3] [] (GF X, M, PTF v) K ↔ if M 241 (M 234 13).toNat ≤ l2 then pm_Run d 257 119 [vA 234, vI l1, vI l2, l3] [] (GF X, M, PTF v) K else pm_Run d 257 85 [vA 234, vI l1, vI l2, l3] [] (GF X, M, PTF v) K := by
  refine (px_go (by decide +kernel : pm_fe 257 72 = some (.iload_n 2, 1)) rfl).trans ?_
  refine (px_go (by decide +kernel : pm_fe 257 73 = some (.aload_n 0, 1)) rfl).trans ?_
  refine (ry_get2 (idx := 69) (ci := 12) (k := 19) (by decide +kernel : 234 < 283 ∧ SHF 234 = (12, 76)) (ptf_l (a := 234) (k := 19) (n := 241) (by decide +kernel)) (by decide +kernel)).trans ?_
  refine (px_go (by decide +kernel : pm_fe 257 77 = some (.aload_n 0, 1)) rfl).trans ?_
  refine (ry_get0 (idx := 51) (ci := 12) (k := 13) (by decide +kernel : 234 < 283 ∧ SHF 234 = (12, 76)) (by decide +kernel)).trans ?_
  refine (ry_iald (by decide +kernel : 241 < 283 ∧ SHF 241 = (100, 2)) h1 h2 (by decide +kernel)).trans ?_
  refine (ry_ic_ge (off := 37) (tgt := 119) h3 h4 (by decide +kernel)).trans ?_
  exact Iff.rfl
theorem r257_85 {d : Nat} {X : Nat × (Nat → Int)} {v : Nat → Int} {M : PH} {K : PV → PS → Prop} {l1 l2 : Int} {l3 : PV} : pm_Run d 257 85 [vA 234, vI l1, vI l2, l3] [] (GF X, M, PTF v) K ↔ pm_Run d 257 87 [vA 234, vI l1, vI l2, vI 0] [] (GF X, M, PTF v) K := by
  refine (px_go (by decide +kernel : pm_fe 257 85 = some (.iconst 0, 1)) rfl).trans ?_
  refine (px_go (by decide +kernel : pm_fe 257 86 = some (.istore_n 3, 1)) rfl).trans ?_
  exact Iff.rfl
theorem r257_87 {d : Nat} {X : Nat × (Nat → Int)} {v : Nat → Int} {M : PH} {K : PV → PS → Prop} {l1 l2 l3 : Int} (h1 : 0 ≤ (M 234 13)) (h2 : (M 234 13) < 2) (h3 : inR l3) (h4 : inR (M 237 (M 234 13).toNat)) : pm_Run d 257 87 [vA 234, vI l1, vI l2, vI l3] [] (GF X, M, PTF v) K ↔ if M 237 (M 234 13).toNat ≤ l3 then pm_Run d 257 113 [vA 234, vI l1, vI l2, vI l3] [] (GF X, M, PTF v) K else pm_Run d 257 100 [vA 234, vI l1, vI l2, vI l3] [] (GF X, M, PTF v) K := by
  refine (px_go (by decide +kernel : pm_fe 257 87 = some (.iload_n 3, 1)) rfl).trans ?_
  refine (px_go (by decide +kernel : pm_fe 257 88 = some (.aload_n 0, 1)) rfl).trans ?_
  refine (ry_get2 (idx := 57) (ci := 12) (k := 15) (by decide +kernel : 234 < 283 ∧ SHF 234 = (12, 76)) (ptf_l (a := 234) (k := 15) (n := 237) (by decide +kernel)) (by decide +kernel)).trans ?_
  refine (px_go (by decide +kernel : pm_fe 257 92 = some (.aload_n 0, 1)) rfl).trans ?_
  refine (ry_get0 (idx := 51) (ci := 12) (k := 13) (by decide +kernel : 234 < 283 ∧ SHF 234 = (12, 76)) (by decide +kernel)).trans ?_
  refine (ry_iald (by decide +kernel : 237 < 283 ∧ SHF 237 = (100, 2)) h1 h2 (by decide +kernel)).trans ?_
  refine (ry_ic_ge (off := 16) (tgt := 113) h3 h4 (by decide +kernel)).trans ?_
  exact Iff.rfl
theorem r257_100 {d : Nat} {X : Nat × (Nat → Int)} {v : Nat → Int} {M : PH} {K : PV → PS → Prop} {l1 l2 l3 : Int} : pm_Run d 257 100 [vA 234, vI l1, vI l2, vI l3] [] (GF X, M, PTF v) K ↔ pm_Call d 256 [vA 234, vI l1, vI l2, vI l3] (GF X, M, PTF v) (fun r9 S1 => pm_Run d 257 107 [vA 234, vI l1, vI l2, vI l3] (pm_push r9 []) S1 K) := by
  refine (px_go (by decide +kernel : pm_fe 257 100 = some (.aload_n 0, 1)) rfl).trans ?_
  refine (px_go (by decide +kernel : pm_fe 257 101 = some (.iload_n 1, 1)) rfl).trans ?_
  refine (px_go (by decide +kernel : pm_fe 257 102 = some (.iload_n 2, 1)) rfl).trans ?_
  refine (px_go (by decide +kernel : pm_fe 257 103 = some (.iload_n 3, 1)) rfl).trans ?_
  refine (ry_v3 (idx := 519) (m' := 256) (ci := 12) (by decide +kernel : 234 < 283 ∧ SHF 234 = (12, 76)) (by simp [pm_wl_n, pm_wl_c, pm_w] : pm_wl [] ≤ 8) (by decide +kernel)).trans ?_
  exact Iff.rfl
theorem r257_107 {d : Nat} {X : Nat × (Nat → Int)} {v : Nat → Int} {M : PH} {K : PV → PS → Prop} {l1 l2 l3 : Int} : pm_Run d 257 107 [vA 234, vI l1, vI l2, vI l3] [] (GF X, M, PTF v) K ↔ pm_Run d 257 87 [vA 234, vI l1, vI l2, vI (l3 + 1)] [] (GF X, M, PTF v) K := by
  refine (px_go (by decide +kernel : pm_fe 257 107 = some (.iinc 3 1, 3)) rfl).trans ?_
  refine (px_goto (off := (-23)) (tgt := 87) (by decide +kernel)).trans ?_
  exact Iff.rfl
theorem r257_113 {d : Nat} {X : Nat × (Nat → Int)} {v : Nat → Int} {M : PH} {K : PV → PS → Prop} {l1 l2 l3 : Int} : pm_Run d 257 113 [vA 234, vI l1, vI l2, vI l3] [] (GF X, M, PTF v) K ↔ pm_Run d 257 72 [vA 234, vI l1, vI (l2 + 1), vI l3] [] (GF X, M, PTF v) K := by
  refine (px_go (by decide +kernel : pm_fe 257 113 = some (.iinc 2 1, 3)) rfl).trans ?_
  refine (px_goto (off := (-44)) (tgt := 72) (by decide +kernel)).trans ?_
  exact Iff.rfl
theorem r257_119 {d : Nat} {X : Nat × (Nat → Int)} {v : Nat → Int} {M : PH} {K : PV → PS → Prop} {l1 l2 : Int} {l3 : PV} : pm_Run d 257 119 [vA 234, vI l1, vI l2, l3] [] (GF X, M, PTF v) K ↔ pm_Run d 257 121 [vA 234, vI l1, vI 0, l3] [] (GF X, M, PTF v) K := by
  refine (px_go (by decide +kernel : pm_fe 257 119 = some (.iconst 0, 1)) rfl).trans ?_
  refine (px_go (by decide +kernel : pm_fe 257 120 = some (.istore_n 2, 1)) rfl).trans ?_
  exact Iff.rfl
theorem r257_121 {d : Nat} {X : Nat × (Nat → Int)} {v : Nat → Int} {M : PH} {K : PV → PS → Prop} {l1 l2 : Int} {l3 : PV} (h1 : 0 ≤ (M 234 13)) (h2 : (M 234 13) < 2) (h3 : inR l2) (h4 : inR (M 237 (M 234 13).toNat)) : pm_Run d 257 121 [vA 234, vI l1, vI l2, l3] [] (GF X, M, PTF v) K ↔ if M 237 (M 234 13).toNat ≤ l2 then pm_Run d 257 184 [vA 234, vI l1, vI l2, l3] [] (GF X, M, PTF v) K else pm_Run d 257 134 [vA 234, vI l1, vI l2, l3] [] (GF X, M, PTF v) K := by
  refine (px_go (by decide +kernel : pm_fe 257 121 = some (.iload_n 2, 1)) rfl).trans ?_
  refine (px_go (by decide +kernel : pm_fe 257 122 = some (.aload_n 0, 1)) rfl).trans ?_
  refine (ry_get2 (idx := 57) (ci := 12) (k := 15) (by decide +kernel : 234 < 283 ∧ SHF 234 = (12, 76)) (ptf_l (a := 234) (k := 15) (n := 237) (by decide +kernel)) (by decide +kernel)).trans ?_
  refine (px_go (by decide +kernel : pm_fe 257 126 = some (.aload_n 0, 1)) rfl).trans ?_
  refine (ry_get0 (idx := 51) (ci := 12) (k := 13) (by decide +kernel : 234 < 283 ∧ SHF 234 = (12, 76)) (by decide +kernel)).trans ?_
  refine (ry_iald (by decide +kernel : 237 < 283 ∧ SHF 237 = (100, 2)) h1 h2 (by decide +kernel)).trans ?_
  refine (ry_ic_ge (off := 53) (tgt := 184) h3 h4 (by decide +kernel)).trans ?_
  exact Iff.rfl
theorem r257_134 {d : Nat} {X : Nat × (Nat → Int)} {v : Nat → Int} {M : PH} {K : PV → PS → Prop} {l1 l2 : Int} {l3 : PV} (h1 : 0 ≤ ((3 * l1) + l2)) (h2 : ((3 * l1) + l2) < 66) (h3 : 0 ≤ ((3 * (M 234 13)) + l2)) (h4 : ((3 * (M 234 13)) + l2) < 6) (h5 : 0 ≤ (M 234 13)) (h6 : (M 234 13) < 2) (h7 : inR ((M 271 ((3 * l1) + l2).toNat) + (M 239 ((3 * (M 234 13)) + l2).toNat))) (h8 : inR (M 236 (M 234 13).toNat)) (h9 : (M 236 (M 234 13).toNat) ≠ 0) : pm_Run d 257 134 [vA 234, vI l1, vI l2, l3] [] (GF X, M, PTF v) K ↔ pm_Run d 257 178 [vA 234, vI l1, vI l2, l3] [] (GF X, pm_sa M 271 (pm_up (M 271) ((3 * l1) + l2).toNat (((M 271 ((3 * l1) + l2).toNat) + (M 239 ((3 * (M 234 13)) + l2).toNat)).tmod (M 236 (M 234 13).toNat))), PTF v) K := by
  refine (px_go (by decide +kernel : pm_fe 257 134 = some (.aload_n 0, 1)) rfl).trans ?_
  refine (ry_get2 (idx := 180) (ci := 12) (k := 55) (by decide +kernel : 234 < 283 ∧ SHF 234 = (12, 76)) (ptf_l (a := 234) (k := 55) (n := 271) (by decide +kernel)) (by decide +kernel)).trans ?_
  refine (px_go (by decide +kernel : pm_fe 257 138 = some (.iconst 3, 1)) rfl).trans ?_
  refine (px_go (by decide +kernel : pm_fe 257 139 = some (.iload_n 1, 1)) rfl).trans ?_
  refine (px_go (by decide +kernel : pm_fe 257 140 = some (.imul, 1)) rfl).trans ?_
  refine (px_go (by decide +kernel : pm_fe 257 141 = some (.iload_n 2, 1)) rfl).trans ?_
  refine (px_go (by decide +kernel : pm_fe 257 142 = some (.iadd, 1)) rfl).trans ?_
  refine (px_go (by decide +kernel : pm_fe 257 143 = some (.aload_n 0, 1)) rfl).trans ?_
  refine (ry_get2 (idx := 180) (ci := 12) (k := 55) (by decide +kernel : 234 < 283 ∧ SHF 234 = (12, 76)) (ptf_l (a := 234) (k := 55) (n := 271) (by decide +kernel)) (by decide +kernel)).trans ?_
  refine (px_go (by decide +kernel : pm_fe 257 147 = some (.iconst 3, 1)) rfl).trans ?_
  refine (px_go (by decide +kernel : pm_fe 257 148 = some (.iload_n 1, 1)) rfl).trans ?_
  refine (px_go (by decide +kernel : pm_fe 257 149 = some (.imul, 1)) rfl).trans ?_
  refine (px_go (by decide +kernel : pm_fe 257 150 = some (.iload_n 2, 1)) rfl).trans ?_
  refine (px_go (by decide +kernel : pm_fe 257 151 = some (.iadd, 1)) rfl).trans ?_
  refine (ry_iald (by decide +kernel : 271 < 283 ∧ SHF 271 = (100, 66)) h1 h2 (by decide +kernel)).trans ?_
  refine (px_go (by decide +kernel : pm_fe 257 153 = some (.aload_n 0, 1)) rfl).trans ?_
  refine (ry_get2 (idx := 63) (ci := 12) (k := 17) (by decide +kernel : 234 < 283 ∧ SHF 234 = (12, 76)) (ptf_l (a := 234) (k := 17) (n := 239) (by decide +kernel)) (by decide +kernel)).trans ?_
  refine (px_go (by decide +kernel : pm_fe 257 157 = some (.iconst 3, 1)) rfl).trans ?_
  refine (px_go (by decide +kernel : pm_fe 257 158 = some (.aload_n 0, 1)) rfl).trans ?_
  refine (ry_get0 (idx := 51) (ci := 12) (k := 13) (by decide +kernel : 234 < 283 ∧ SHF 234 = (12, 76)) (by decide +kernel)).trans ?_
  refine (px_go (by decide +kernel : pm_fe 257 162 = some (.imul, 1)) rfl).trans ?_
  refine (px_go (by decide +kernel : pm_fe 257 163 = some (.iload_n 2, 1)) rfl).trans ?_
  refine (px_go (by decide +kernel : pm_fe 257 164 = some (.iadd, 1)) rfl).trans ?_
  refine (ry_iald (by decide +kernel : 239 < 283 ∧ SHF 239 = (100, 6)) h3 h4 (by decide +kernel)).trans ?_
  refine (px_go (by decide +kernel : pm_fe 257 166 = some (.iadd, 1)) rfl).trans ?_
  refine (px_go (by decide +kernel : pm_fe 257 167 = some (.aload_n 0, 1)) rfl).trans ?_
  refine (ry_get2 (idx := 54) (ci := 12) (k := 14) (by decide +kernel : 234 < 283 ∧ SHF 234 = (12, 76)) (ptf_l (a := 234) (k := 14) (n := 236) (by decide +kernel)) (by decide +kernel)).trans ?_
  refine (px_go (by decide +kernel : pm_fe 257 171 = some (.aload_n 0, 1)) rfl).trans ?_
  refine (ry_get0 (idx := 51) (ci := 12) (k := 13) (by decide +kernel : 234 < 283 ∧ SHF 234 = (12, 76)) (by decide +kernel)).trans ?_
  refine (ry_iald (by decide +kernel : 236 < 283 ∧ SHF 236 = (100, 2)) h5 h6 (by decide +kernel)).trans ?_
  refine (ry_irem h7 h8 h9 (by decide +kernel)).trans ?_
  refine (ry_iast (by decide +kernel : 271 < 283 ∧ SHF 271 = (100, 66)) h1 h2 (by decide +kernel)).trans ?_
  exact Iff.rfl
theorem r257_178 {d : Nat} {X : Nat × (Nat → Int)} {v : Nat → Int} {M : PH} {K : PV → PS → Prop} {l1 l2 : Int} {l3 : PV} : pm_Run d 257 178 [vA 234, vI l1, vI l2, l3] [] (GF X, M, PTF v) K ↔ pm_Run d 257 121 [vA 234, vI l1, vI (l2 + 1), l3] [] (GF X, M, PTF v) K := by
  refine (px_go (by decide +kernel : pm_fe 257 178 = some (.iinc 2 1, 3)) rfl).trans ?_
  refine (px_goto (off := (-60)) (tgt := 121) (by decide +kernel)).trans ?_
  exact Iff.rfl
theorem r257_184 {d : Nat} {X : Nat × (Nat → Int)} {v : Nat → Int} {M : PH} {K : PV → PS → Prop} {l1 l2 : Int} {l3 : PV} (h1 : 0 ≤ l1) (h2 : l1 < 22) : pm_Run d 257 184 [vA 234, vI l1, vI l2, l3] [] (GF X, M, PTF v) K ↔ K PU (GF X, pm_sa M 270 (pm_up (M 270) l1.toNat ((M 270 l1.toNat) + 1)), PTF v) := by
  refine (px_go (by decide +kernel : pm_fe 257 184 = some (.aload_n 0, 1)) rfl).trans ?_
  refine (ry_get2 (idx := 177) (ci := 12) (k := 54) (by decide +kernel : 234 < 283 ∧ SHF 234 = (12, 76)) (ptf_l (a := 234) (k := 54) (n := 270) (by decide +kernel)) (by decide +kernel)).trans ?_
  refine (px_go (by decide +kernel : pm_fe 257 188 = some (.iload_n 1, 1)) rfl).trans ?_
  refine (px_go (by decide +kernel : pm_fe 257 189 = some (.dup2, 1)) rfl).trans ?_
  refine (ry_iald (by decide +kernel : 270 < 283 ∧ SHF 270 = (100, 22)) h1 h2 (by decide +kernel)).trans ?_
  refine (px_go (by decide +kernel : pm_fe 257 191 = some (.iconst 1, 1)) rfl).trans ?_
  refine (px_go (by decide +kernel : pm_fe 257 192 = some (.iadd, 1)) rfl).trans ?_
  refine (ry_iast (by decide +kernel : 270 < 283 ∧ SHF 270 = (100, 22)) h1 h2 (by decide +kernel)).trans ?_
  refine (px_rv (by decide +kernel)).trans ?_
  exact Iff.rfl
-- X12_lastAhead lastAhead()I
theorem r258_0 {d : Nat} {X : Nat × (Nat → Int)} {v : Nat → Int} {M : PH} {K : PV → PS → Prop} (h1 : inR (9999 - (M 270 0))) : pm_Run d 258 0 [vA 234] [] (GF X, M, PTF v) K ↔ if 48 ≤ 9999 - (M 270 0) then pm_Run d 258 28 [vA 234] [] (GF X, M, PTF v) K else pm_Run d 258 15 [vA 234] [] (GF X, M, PTF v) K := by
  refine (px_go (by decide +kernel : pm_fe 258 0 = some (.sipush 9999, 3)) rfl).trans ?_
  refine (px_go (by decide +kernel : pm_fe 258 3 = some (.aload_n 0, 1)) rfl).trans ?_
  refine (ry_get2 (idx := 177) (ci := 12) (k := 54) (by decide +kernel : 234 < 283 ∧ SHF 234 = (12, 76)) (ptf_l (a := 234) (k := 54) (n := 270) (by decide +kernel)) (by decide +kernel)).trans ?_
  refine (px_go (by decide +kernel : pm_fe 258 7 = some (.iconst 0, 1)) rfl).trans ?_
  refine (ry_iald (by decide +kernel : 270 < 283 ∧ SHF 270 = (100, 22)) (by decide : (0 : Int) ≤ (0 : Int)) (by decide : (0 : Int) < (22 : Int)) (by decide +kernel)).trans ?_
  refine (px_go (by decide +kernel : pm_fe 258 9 = some (.isub, 1)) rfl).trans ?_
  refine (px_go (by decide +kernel : pm_fe 258 10 = some (.bipush 48, 2)) rfl).trans ?_
  refine (ry_ic_ge (off := 16) (tgt := 28) h1 (by decide : (-2147483648 ≤ (48 : Int) ∧ (48 : Int) < 2147483648)) (by decide +kernel)).trans ?_
  exact Iff.rfl
theorem r258_15 {d : Nat} {X : Nat × (Nat → Int)} {v : Nat → Int} {M : PH} {K : PV → PS → Prop} : pm_Run d 258 15 [vA 234] [] (GF X, M, PTF v) K ↔ pm_Run d 258 30 [vA 234] [vI (9999 - (M 270 0))] (GF X, M, PTF v) K := by
  refine (px_go (by decide +kernel : pm_fe 258 15 = some (.sipush 9999, 3)) rfl).trans ?_
  refine (px_go (by decide +kernel : pm_fe 258 18 = some (.aload_n 0, 1)) rfl).trans ?_
  refine (ry_get2 (idx := 177) (ci := 12) (k := 54) (by decide +kernel : 234 < 283 ∧ SHF 234 = (12, 76)) (ptf_l (a := 234) (k := 54) (n := 270) (by decide +kernel)) (by decide +kernel)).trans ?_
  refine (px_go (by decide +kernel : pm_fe 258 22 = some (.iconst 0, 1)) rfl).trans ?_
  refine (ry_iald (by decide +kernel : 270 < 283 ∧ SHF 270 = (100, 22)) (by decide : (0 : Int) ≤ (0 : Int)) (by decide : (0 : Int) < (22 : Int)) (by decide +kernel)).trans ?_
  refine (px_go (by decide +kernel : pm_fe 258 24 = some (.isub, 1)) rfl).trans ?_
  refine (px_goto (off := 5) (tgt := 30) (by decide +kernel)).trans ?_
  exact Iff.rfl
theorem r258_28 {d : Nat} {X : Nat × (Nat → Int)} {v : Nat → Int} {M : PH} {K : PV → PS → Prop} : pm_Run d 258 28 [vA 234] [] (GF X, M, PTF v) K ↔ pm_Run d 258 30 [vA 234] [vI 48] (GF X, M, PTF v) K := by
  refine (px_go (by decide +kernel : pm_fe 258 28 = some (.bipush 48, 2)) rfl).trans ?_
  exact Iff.rfl
theorem r258_30 {d : Nat} {X : Nat × (Nat → Int)} {v : Nat → Int} {M : PH} {K : PV → PS → Prop} {s0 : Int} : pm_Run d 258 30 [vA 234] [vI s0] (GF X, M, PTF v) K ↔ K (vI s0) (GF X, M, PTF v) := by
  refine (px_ri (by decide +kernel)).trans ?_
  exact Iff.rfl
-- X12_isAhead isAhead(I)Z
theorem r259_0 {d : Nat} {X : Nat × (Nat → Int)} {v : Nat → Int} {M : PH} {K : PV → PS → Prop} {l1 : Int} : pm_Run d 259 0 [vA 234, vI l1] [] (GF X, M, PTF v) K ↔ pm_Call d 226 [vA 234] (GF X, M, PTF v) (fun r9 S1 => pm_Run d 259 4 [vA 234, vI l1] (pm_push r9 []) S1 K) := by
  refine (px_go (by decide +kernel : pm_fe 259 0 = some (.aload_n 0, 1)) rfl).trans ?_
  refine (ry_v0 (idx := 523) (m' := 226) (ci := 12) (by decide +kernel : 234 < 283 ∧ SHF 234 = (12, 76)) (by simp [pm_wl_n, pm_wl_c, pm_w] : pm_wl [] ≤ 8) (by decide +kernel)).trans ?_
  exact Iff.rfl
theorem r259_4 {d : Nat} {X : Nat × (Nat → Int)} {v : Nat → Int} {M : PH} {K : PV → PS → Prop} {l1 s0 : Int} (h1 : inR s0) : pm_Run d 259 4 [vA 234, vI l1] [vI s0] (GF X, M, PTF v) K ↔ if s0 = 0 then pm_Run d 259 23 [vA 234, vI l1] [] (GF X, M, PTF v) K else pm_Run d 259 7 [vA 234, vI l1] [] (GF X, M, PTF v) K := by
  refine (ry_if_eq (off := 19) (tgt := 23) h1 (by decide +kernel)).trans ?_
  exact Iff.rfl
theorem r259_7 {d : Nat} {X : Nat × (Nat → Int)} {v : Nat → Int} {M : PH} {K : PV → PS → Prop} {l1 : Int} : pm_Run d 259 7 [vA 234, vI l1] [] (GF X, M, PTF v) K ↔ pm_Call d 258 [vA 234] (GF X, M, PTF v) (fun r9 S1 => pm_Run d 259 13 [vA 234, vI l1] (pm_push r9 [vI 0, vI l1]) S1 K) := by
  refine (px_go (by decide +kernel : pm_fe 259 7 = some (.iload_n 1, 1)) rfl).trans ?_
  refine (px_go (by decide +kernel : pm_fe 259 8 = some (.iconst 0, 1)) rfl).trans ?_
  refine (px_go (by decide +kernel : pm_fe 259 9 = some (.aload_n 0, 1)) rfl).trans ?_
  refine (ry_v0 (idx := 526) (m' := 258) (ci := 12) (by decide +kernel : 234 < 283 ∧ SHF 234 = (12, 76)) (by simp [pm_wl_n, pm_wl_c, pm_w] : pm_wl [vI 0, vI l1] ≤ 8) (by decide +kernel)).trans ?_
  exact Iff.rfl
theorem r259_13 {d : Nat} {X : Nat × (Nat → Int)} {v : Nat → Int} {M : PH} {K : PV → PS → Prop} {l1 s0 s1 s2 : Int} : pm_Run d 259 13 [vA 234, vI l1] [vI s0, vI s1, vI s2] (GF X, M, PTF v) K ↔ pm_Call d 179 [vI s2, vI s1, vI s0] (GF X, M, PTF v) (fun r9 S1 => pm_Run d 259 16 [vA 234, vI l1] (pm_push r9 []) S1 K) := by
  refine (px_s3 (idx := 337) (m' := 179) (nest := 0) (by decide +kernel)).trans ((and_iff_right (by simp [pm_wl_n, pm_wl_c, pm_w] : pm_wl [] ≤ 8)).trans ?_)
  exact Iff.rfl
theorem r259_16 {d : Nat} {X : Nat × (Nat → Int)} {v : Nat → Int} {M : PH} {K : PV → PS → Prop} {l1 s0 : Int} (h1 : inR s0) : pm_Run d 259 16 [vA 234, vI l1] [vI s0] (GF X, M, PTF v) K ↔ if s0 = 0 then pm_Run d 259 23 [vA 234, vI l1] [] (GF X, M, PTF v) K else pm_Run d 259 19 [vA 234, vI l1] [] (GF X, M, PTF v) K := by
  refine (ry_if_eq (off := 7) (tgt := 23) h1 (by decide +kernel)).trans ?_
  exact Iff.rfl
theorem r259_19 {d : Nat} {X : Nat × (Nat → Int)} {v : Nat → Int} {M : PH} {K : PV → PS → Prop} {l1 : Int} : pm_Run d 259 19 [vA 234, vI l1] [] (GF X, M, PTF v) K ↔ pm_Run d 259 24 [vA 234, vI l1] [vI 1] (GF X, M, PTF v) K := by
  refine (px_go (by decide +kernel : pm_fe 259 19 = some (.iconst 1, 1)) rfl).trans ?_
  refine (px_goto (off := 4) (tgt := 24) (by decide +kernel)).trans ?_
  exact Iff.rfl
theorem r259_23 {d : Nat} {X : Nat × (Nat → Int)} {v : Nat → Int} {M : PH} {K : PV → PS → Prop} {l1 : Int} : pm_Run d 259 23 [vA 234, vI l1] [] (GF X, M, PTF v) K ↔ pm_Run d 259 24 [vA 234, vI l1] [vI 0] (GF X, M, PTF v) K := by
  refine (px_go (by decide +kernel : pm_fe 259 23 = some (.iconst 0, 1)) rfl).trans ?_
  exact Iff.rfl
theorem r259_24 {d : Nat} {X : Nat × (Nat → Int)} {v : Nat → Int} {M : PH} {K : PV → PS → Prop} {l1 s0 : Int} (h1 : s0 = 0 ∨ s0 = 1) : pm_Run d 259 24 [vA 234, vI l1] [vI s0] (GF X, M, PTF v) K ↔ K (vI s0) (GF X, M, PTF v) := by
  refine (px_rz (by decide +kernel)).trans ((and_iff_right h1).trans ?_)
  exact Iff.rfl
-- X12_goesAhead goesAhead(I)V
theorem r260_0 {d : Nat} {X : Nat × (Nat → Int)} {v : Nat → Int} {M : PH} {K : PV → PS → Prop} {l1 : Int} : pm_Run d 260 0 [vA 234, vI l1, PU] [] (GF X, M, PTF v) K ↔ pm_Call d 232 [vA 234, vI 1, vI 0] (GF X, M, PTF v) (fun r9 S1 => pm_Run d 260 6 [vA 234, vI l1, PU] (pm_push r9 []) S1 K) := by
  refine (px_go (by decide +kernel : pm_fe 260 0 = some (.aload_n 0, 1)) rfl).trans ?_
  refine (px_go (by decide +kernel : pm_fe 260 1 = some (.iconst 1, 1)) rfl).trans ?_
  refine (px_go (by decide +kernel : pm_fe 260 2 = some (.iconst 0, 1)) rfl).trans ?_
  refine (ry_v2 (idx := 445) (m' := 232) (ci := 12) (by decide +kernel : 234 < 283 ∧ SHF 234 = (12, 76)) (by simp [pm_wl_n, pm_wl_c, pm_w] : pm_wl [] ≤ 8) (by decide +kernel)).trans ?_
  exact Iff.rfl
theorem r260_6 {d : Nat} {X : Nat × (Nat → Int)} {v : Nat → Int} {M : PH} {K : PV → PS → Prop} {l1 : Int} : pm_Run d 260 6 [vA 234, vI l1, PU] [] (GF X, M, PTF v) K ↔ pm_Run d 260 8 [vA 234, vI l1, vI 0] [] (GF X, M, PTF v) K := by
  refine (px_go (by decide +kernel : pm_fe 260 6 = some (.iconst 0, 1)) rfl).trans ?_
  refine (px_go (by decide +kernel : pm_fe 260 7 = some (.istore_n 2, 1)) rfl).trans ?_
  exact Iff.rfl
theorem r260_8 {d : Nat} {X : Nat × (Nat → Int)} {v : Nat → Int} {M : PH} {K : PV → PS → Prop} {l1 l2 : Int} (h1 : inR l2) (h2 : inR l1) : pm_Run d 260 8 [vA 234, vI l1, vI l2] [] (GF X, M, PTF v) K ↔ if l1 ≤ l2 then pm_Run d 260 24 [vA 234, vI l1, vI l2] [] (GF X, M, PTF v) K else pm_Run d 260 13 [vA 234, vI l1, vI l2] [] (GF X, M, PTF v) K := by
  refine (px_go (by decide +kernel : pm_fe 260 8 = some (.iload_n 2, 1)) rfl).trans ?_
  refine (px_go (by decide +kernel : pm_fe 260 9 = some (.iload_n 1, 1)) rfl).trans ?_
  refine (ry_ic_ge (off := 14) (tgt := 24) h1 h2 (by decide +kernel)).trans ?_
  exact Iff.rfl
theorem r260_13 {d : Nat} {X : Nat × (Nat → Int)} {v : Nat → Int} {M : PH} {K : PV → PS → Prop} {l1 l2 : Int} : pm_Run d 260 13 [vA 234, vI l1, vI l2] [] (GF X, M, PTF v) K ↔ pm_Call d 257 [vA 234, vI 1] (GF X, M, PTF v) (fun r9 S1 => pm_Run d 260 18 [vA 234, vI l1, vI l2] (pm_push r9 []) S1 K) := by
  refine (px_go (by decide +kernel : pm_fe 260 13 = some (.aload_n 0, 1)) rfl).trans ?_
  refine (px_go (by decide +kernel : pm_fe 260 14 = some (.iconst 1, 1)) rfl).trans ?_
  refine (ry_v1 (idx := 530) (m' := 257) (ci := 12) (by decide +kernel : 234 < 283 ∧ SHF 234 = (12, 76)) (by simp [pm_wl_n, pm_wl_c, pm_w] : pm_wl [] ≤ 8) (by decide +kernel)).trans ?_
  exact Iff.rfl
theorem r260_18 {d : Nat} {X : Nat × (Nat → Int)} {v : Nat → Int} {M : PH} {K : PV → PS → Prop} {l1 l2 : Int} : pm_Run d 260 18 [vA 234, vI l1, vI l2] [] (GF X, M, PTF v) K ↔ pm_Run d 260 8 [vA 234, vI l1, vI (l2 + 1)] [] (GF X, M, PTF v) K := by
  refine (px_go (by decide +kernel : pm_fe 260 18 = some (.iinc 2 1, 3)) rfl).trans ?_
  refine (px_goto (off := (-13)) (tgt := 8) (by decide +kernel)).trans ?_
  exact Iff.rfl
theorem r260_24 {d : Nat} {X : Nat × (Nat → Int)} {v : Nat → Int} {M : PH} {K : PV → PS → Prop} {l1 l2 : Int} : pm_Run d 260 24 [vA 234, vI l1, vI l2] [] (GF X, M, PTF v) K ↔ pm_Call d 255 [vA 234, vI 1] (GF X, M, PTF v) (fun r9 S1 => pm_Run d 260 29 [vA 234, vI l1, vI l2] (pm_push r9 []) S1 K) := by
  refine (px_go (by decide +kernel : pm_fe 260 24 = some (.aload_n 0, 1)) rfl).trans ?_
  refine (px_go (by decide +kernel : pm_fe 260 25 = some (.iconst 1, 1)) rfl).trans ?_
  refine (ry_v1 (idx := 513) (m' := 255) (ci := 12) (by decide +kernel : 234 < 283 ∧ SHF 234 = (12, 76)) (by simp [pm_wl_n, pm_wl_c, pm_w] : pm_wl [] ≤ 8) (by decide +kernel)).trans ?_
  exact Iff.rfl
theorem r260_29 {d : Nat} {X : Nat × (Nat → Int)} {v : Nat → Int} {M : PH} {K : PV → PS → Prop} {l1 l2 : Int} : pm_Run d 260 29 [vA 234, vI l1, vI l2] [] (GF X, M, PTF v) K ↔ K PU (GF X, M, PTF v) := by
  refine (px_rv (by decide +kernel)).trans ?_
  exact Iff.rfl
-- X12_has has(I)I
theorem r261_0 {d : Nat} {X : Nat × (Nat → Int)} {v : Nat → Int} {M : PH} {K : PV → PS → Prop} {l1 : Int} (h1 : inR l1) : pm_Run d 261 0 [vA 234, vI l1, PU, PU] [] (GF X, M, PTF v) K ↔ pm_Run d 261 (pm_tg 0 [64, 74, 84, 94, 104, 114, 124, 134, 141, 173, 205, 210] 216 l1) [vA 234, vI l1, vI 0, PU] [] (GF X, M, PTF v) K := by
  refine (px_go (by decide +kernel : pm_fe 261 0 = some (.iconst 0, 1)) rfl).trans ?_
  refine (px_go (by decide +kernel : pm_fe 261 1 = some (.istore_n 2, 1)) rfl).trans ?_
  refine (px_go (by decide +kernel : pm_fe 261 2 = some (.iload_n 1, 1)) rfl).trans ?_
  refine (ry_tsw (lo := 0) (dt := 216) (tl := [64, 74, 84, 94, 104, 114, 124, 134, 141, 173, 205, 210]) h1 (by decide +kernel : pm_fe 261 3 = some (.tableswitch 213 0 11 #[61, 71, 81, 91, 101, 111, 121, 131, 138, 170, 202, 207], 61) ∧ _)).trans ?_
  exact Iff.rfl
theorem r261_64 {d : Nat} {X : Nat × (Nat → Int)} {v : Nat → Int} {M : PH} {K : PV → PS → Prop} {l1 l2 : Int} (h1 : 0 ≤ (M 234 13)) (h2 : (M 234 13) < 2) : pm_Run d 261 64 [vA 234, vI l1, vI l2, PU] [] (GF X, M, PTF v) K ↔ K (vI (M 236 (M 234 13).toNat)) (GF X, M, PTF v) := by
  refine (px_go (by decide +kernel : pm_fe 261 64 = some (.aload_n 0, 1)) rfl).trans ?_
  refine (ry_get2 (idx := 54) (ci := 12) (k := 14) (by decide +kernel : 234 < 283 ∧ SHF 234 = (12, 76)) (ptf_l (a := 234) (k := 14) (n := 236) (by decide +kernel)) (by decide +kernel)).trans ?_
  refine (px_go (by decide +kernel : pm_fe 261 68 = some (.aload_n 0, 1)) rfl).trans ?_
  refine (ry_get0 (idx := 51) (ci := 12) (k := 13) (by decide +kernel : 234 < 283 ∧ SHF 234 = (12, 76)) (by decide +kernel)).trans ?_
  refine (ry_iald (by decide +kernel : 236 < 283 ∧ SHF 236 = (100, 2)) h1 h2 (by decide +kernel)).trans ?_
  refine (px_ri (by decide +kernel)).trans ?_
  exact Iff.rfl
theorem r261_74 {d : Nat} {X : Nat × (Nat → Int)} {v : Nat → Int} {M : PH} {K : PV → PS → Prop} {l1 l2 : Int} (h1 : 0 ≤ (M 234 13)) (h2 : (M 234 13) < 2) : pm_Run d 261 74 [vA 234, vI l1, vI l2, PU] [] (GF X, M, PTF v) K ↔ K (vI (M 237 (M 234 13).toNat)) (GF X, M, PTF v) := by
  refine (px_go (by decide +kernel : pm_fe 261 74 = some (.aload_n 0, 1)) rfl).trans ?_
  refine (ry_get2 (idx := 57) (ci := 12) (k := 15) (by decide +kernel : 234 < 283 ∧ SHF 234 = (12, 76)) (ptf_l (a := 234) (k := 15) (n := 237) (by decide +kernel)) (by decide +kernel)).trans ?_
  refine (px_go (by decide +kernel : pm_fe 261 78 = some (.aload_n 0, 1)) rfl).trans ?_
  refine (ry_get0 (idx := 51) (ci := 12) (k := 13) (by decide +kernel : 234 < 283 ∧ SHF 234 = (12, 76)) (by decide +kernel)).trans ?_
  refine (ry_iald (by decide +kernel : 237 < 283 ∧ SHF 237 = (100, 2)) h1 h2 (by decide +kernel)).trans ?_
  refine (px_ri (by decide +kernel)).trans ?_
  exact Iff.rfl
theorem r261_84 {d : Nat} {X : Nat × (Nat → Int)} {v : Nat → Int} {M : PH} {K : PV → PS → Prop} {l1 l2 : Int} (h1 : 0 ≤ (M 234 13)) (h2 : (M 234 13) < 2) : pm_Run d 261 84 [vA 234, vI l1, vI l2, PU] [] (GF X, M, PTF v) K ↔ K (vI (M 241 (M 234 13).toNat)) (GF X, M, PTF v) := by
  refine (px_go (by decide +kernel : pm_fe 261 84 = some (.aload_n 0, 1)) rfl).trans ?_
  refine (ry_get2 (idx := 69) (ci := 12) (k := 19) (by decide +kernel : 234 < 283 ∧ SHF 234 = (12, 76)) (ptf_l (a := 234) (k := 19) (n := 241) (by decide +kernel)) (by decide +kernel)).trans ?_
  refine (px_go (by decide +kernel : pm_fe 261 88 = some (.aload_n 0, 1)) rfl).trans ?_
  refine (ry_get0 (idx := 51) (ci := 12) (k := 13) (by decide +kernel : 234 < 283 ∧ SHF 234 = (12, 76)) (by decide +kernel)).trans ?_
  refine (ry_iald (by decide +kernel : 241 < 283 ∧ SHF 241 = (100, 2)) h1 h2 (by decide +kernel)).trans ?_
  refine (px_ri (by decide +kernel)).trans ?_
  exact Iff.rfl
theorem r261_94 {d : Nat} {X : Nat × (Nat → Int)} {v : Nat → Int} {M : PH} {K : PV → PS → Prop} {l1 l2 : Int} (h1 : 0 ≤ (M 234 13)) (h2 : (M 234 13) < 2) : pm_Run d 261 94 [vA 234, vI l1, vI l2, PU] [] (GF X, M, PTF v) K ↔ K (vI (M 246 (M 234 13).toNat)) (GF X, M, PTF v) := by
  refine (px_go (by decide +kernel : pm_fe 261 94 = some (.aload_n 0, 1)) rfl).trans ?_
  refine (ry_get2 (idx := 84) (ci := 12) (k := 24) (by decide +kernel : 234 < 283 ∧ SHF 234 = (12, 76)) (ptf_l (a := 234) (k := 24) (n := 246) (by decide +kernel)) (by decide +kernel)).trans ?_
  refine (px_go (by decide +kernel : pm_fe 261 98 = some (.aload_n 0, 1)) rfl).trans ?_
  refine (ry_get0 (idx := 51) (ci := 12) (k := 13) (by decide +kernel : 234 < 283 ∧ SHF 234 = (12, 76)) (by decide +kernel)).trans ?_
  refine (ry_iald (by decide +kernel : 246 < 283 ∧ SHF 246 = (100, 2)) h1 h2 (by decide +kernel)).trans ?_
  refine (px_ri (by decide +kernel)).trans ?_
  exact Iff.rfl
theorem r261_104 {d : Nat} {X : Nat × (Nat → Int)} {v : Nat → Int} {M : PH} {K : PV → PS → Prop} {l1 l2 : Int} (h1 : 0 ≤ (M 234 13)) (h2 : (M 234 13) < 2) : pm_Run d 261 104 [vA 234, vI l1, vI l2, PU] [] (GF X, M, PTF v) K ↔ K (vI (M 250 (M 234 13).toNat)) (GF X, M, PTF v) := by
  refine (px_go (by decide +kernel : pm_fe 261 104 = some (.aload_n 0, 1)) rfl).trans ?_
  refine (ry_get2 (idx := 96) (ci := 12) (k := 28) (by decide +kernel : 234 < 283 ∧ SHF 234 = (12, 76)) (ptf_l (a := 234) (k := 28) (n := 250) (by decide +kernel)) (by decide +kernel)).trans ?_
  refine (px_go (by decide +kernel : pm_fe 261 108 = some (.aload_n 0, 1)) rfl).trans ?_
  refine (ry_get0 (idx := 51) (ci := 12) (k := 13) (by decide +kernel : 234 < 283 ∧ SHF 234 = (12, 76)) (by decide +kernel)).trans ?_
  refine (ry_iald (by decide +kernel : 250 < 283 ∧ SHF 250 = (100, 2)) h1 h2 (by decide +kernel)).trans ?_
  refine (px_ri (by decide +kernel)).trans ?_
  exact Iff.rfl
theorem r261_114 {d : Nat} {X : Nat × (Nat → Int)} {v : Nat → Int} {M : PH} {K : PV → PS → Prop} {l1 l2 : Int} (h1 : 0 ≤ (M 234 13)) (h2 : (M 234 13) < 2) : pm_Run d 261 114 [vA 234, vI l1, vI l2, PU] [] (GF X, M, PTF v) K ↔ K (vI (M 257 (M 234 13).toNat)) (GF X, M, PTF v) := by
  refine (px_go (by decide +kernel : pm_fe 261 114 = some (.aload_n 0, 1)) rfl).trans ?_
  refine (ry_get2 (idx := 117) (ci := 12) (k := 35) (by decide +kernel : 234 < 283 ∧ SHF 234 = (12, 76)) (ptf_l (a := 234) (k := 35) (n := 257) (by decide +kernel)) (by decide +kernel)).trans ?_
  refine (px_go (by decide +kernel : pm_fe 261 118 = some (.aload_n 0, 1)) rfl).trans ?_
  refine (ry_get0 (idx := 51) (ci := 12) (k := 13) (by decide +kernel : 234 < 283 ∧ SHF 234 = (12, 76)) (by decide +kernel)).trans ?_
  refine (ry_iald (by decide +kernel : 257 < 283 ∧ SHF 257 = (100, 2)) h1 h2 (by decide +kernel)).trans ?_
  refine (px_ri (by decide +kernel)).trans ?_
  exact Iff.rfl
theorem r261_124 {d : Nat} {X : Nat × (Nat → Int)} {v : Nat → Int} {M : PH} {K : PV → PS → Prop} {l1 l2 : Int} (h1 : 0 ≤ (M 234 13)) (h2 : (M 234 13) < 2) : pm_Run d 261 124 [vA 234, vI l1, vI l2, PU] [] (GF X, M, PTF v) K ↔ K (vI (M 258 (M 234 13).toNat)) (GF X, M, PTF v) := by
  refine (px_go (by decide +kernel : pm_fe 261 124 = some (.aload_n 0, 1)) rfl).trans ?_
  refine (ry_get2 (idx := 120) (ci := 12) (k := 36) (by decide +kernel : 234 < 283 ∧ SHF 234 = (12, 76)) (ptf_l (a := 234) (k := 36) (n := 258) (by decide +kernel)) (by decide +kernel)).trans ?_
  refine (px_go (by decide +kernel : pm_fe 261 128 = some (.aload_n 0, 1)) rfl).trans ?_
  refine (ry_get0 (idx := 51) (ci := 12) (k := 13) (by decide +kernel : 234 < 283 ∧ SHF 234 = (12, 76)) (by decide +kernel)).trans ?_
  refine (ry_iald (by decide +kernel : 258 < 283 ∧ SHF 258 = (100, 2)) h1 h2 (by decide +kernel)).trans ?_
  refine (px_ri (by decide +kernel)).trans ?_
  exact Iff.rfl
theorem r261_134 {d : Nat} {X : Nat × (Nat → Int)} {v : Nat → Int} {M : PH} {K : PV → PS → Prop} {l1 l2 : Int} : pm_Run d 261 134 [vA 234, vI l1, vI l2, PU] [] (GF X, M, PTF v) K ↔ K (vI (M 270 0)) (GF X, M, PTF v) := by
  refine (px_go (by decide +kernel : pm_fe 261 134 = some (.aload_n 0, 1)) rfl).trans ?_
  refine (ry_get2 (idx := 177) (ci := 12) (k := 54) (by decide +kernel : 234 < 283 ∧ SHF 234 = (12, 76)) (ptf_l (a := 234) (k := 54) (n := 270) (by decide +kernel)) (by decide +kernel)).trans ?_
  refine (px_go (by decide +kernel : pm_fe 261 138 = some (.iconst 0, 1)) rfl).trans ?_
  refine (ry_iald (by decide +kernel : 270 < 283 ∧ SHF 270 = (100, 22)) (by decide : (0 : Int) ≤ (0 : Int)) (by decide : (0 : Int) < (22 : Int)) (by decide +kernel)).trans ?_
  refine (px_ri (by decide +kernel)).trans ?_
  exact Iff.rfl
theorem r261_141 {d : Nat} {X : Nat × (Nat → Int)} {v : Nat → Int} {M : PH} {K : PV → PS → Prop} {l1 l2 : Int} : pm_Run d 261 141 [vA 234, vI l1, vI l2, PU] [] (GF X, M, PTF v) K ↔ pm_Run d 261 143 [vA 234, vI l1, vI l2, vI 0] [] (GF X, M, PTF v) K := by
  refine (px_go (by decide +kernel : pm_fe 261 141 = some (.iconst 0, 1)) rfl).trans ?_
  refine (px_go (by decide +kernel : pm_fe 261 142 = some (.istore_n 3, 1)) rfl).trans ?_
  exact Iff.rfl
theorem r261_143 {d : Nat} {X : Nat × (Nat → Int)} {v : Nat → Int} {M : PH} {K : PV → PS → Prop} {l1 l2 l3 : Int} (h1 : 0 ≤ (M 234 13)) (h2 : (M 234 13) < 2) (h3 : inR l3) (h4 : inR (M 241 (M 234 13).toNat)) : pm_Run d 261 143 [vA 234, vI l1, vI l2, vI l3] [] (GF X, M, PTF v) K ↔ if M 241 (M 234 13).toNat ≤ l3 then pm_Run d 261 171 [vA 234, vI l1, vI l2, vI l3] [] (GF X, M, PTF v) K else pm_Run d 261 156 [vA 234, vI l1, vI l2, vI l3] [] (GF X, M, PTF v) K := by
  refine (px_go (by decide +kernel : pm_fe 261 143 = some (.iload_n 3, 1)) rfl).trans ?_
  refine (px_go (by decide +kernel : pm_fe 261 144 = some (.aload_n 0, 1)) rfl).trans ?_
  refine (ry_get2 (idx := 69) (ci := 12) (k := 19) (by decide +kernel : 234 < 283 ∧ SHF 234 = (12, 76)) (ptf_l (a := 234) (k := 19) (n := 241) (by decide +kernel)) (by decide +kernel)).trans ?_
  refine (px_go (by decide +kernel : pm_fe 261 148 = some (.aload_n 0, 1)) rfl).trans ?_
  refine (ry_get0 (idx := 51) (ci := 12) (k := 13) (by decide +kernel : 234 < 283 ∧ SHF 234 = (12, 76)) (by decide +kernel)).trans ?_
  refine (ry_iald (by decide +kernel : 241 < 283 ∧ SHF 241 = (100, 2)) h1 h2 (by decide +kernel)).trans ?_
  refine (ry_ic_ge (off := 18) (tgt := 171) h3 h4 (by decide +kernel)).trans ?_
  exact Iff.rfl
theorem r261_156 {d : Nat} {X : Nat × (Nat → Int)} {v : Nat → Int} {M : PH} {K : PV → PS → Prop} {l1 l2 l3 : Int} (h1 : 0 ≤ l3) (h2 : l3 < 176) : pm_Run d 261 156 [vA 234, vI l1, vI l2, vI l3] [] (GF X, M, PTF v) K ↔ pm_Run d 261 143 [vA 234, vI l1, vI (l2 + (M 273 l3.toNat)), vI (l3 + 1)] [] (GF X, M, PTF v) K := by
  refine (px_go (by decide +kernel : pm_fe 261 156 = some (.iload_n 2, 1)) rfl).trans ?_
  refine (px_go (by decide +kernel : pm_fe 261 157 = some (.aload_n 0, 1)) rfl).trans ?_
  refine (ry_get2 (idx := 186) (ci := 12) (k := 57) (by decide +kernel : 234 < 283 ∧ SHF 234 = (12, 76)) (ptf_l (a := 234) (k := 57) (n := 273) (by decide +kernel)) (by decide +kernel)).trans ?_
  refine (px_go (by decide +kernel : pm_fe 261 161 = some (.iload_n 3, 1)) rfl).trans ?_
  refine (ry_iald (by decide +kernel : 273 < 283 ∧ SHF 273 = (100, 176)) h1 h2 (by decide +kernel)).trans ?_
  refine (px_go (by decide +kernel : pm_fe 261 163 = some (.iadd, 1)) rfl).trans ?_
  refine (px_go (by decide +kernel : pm_fe 261 164 = some (.istore_n 2, 1)) rfl).trans ?_
  refine (px_go (by decide +kernel : pm_fe 261 165 = some (.iinc 3 1, 3)) rfl).trans ?_
  refine (px_goto (off := (-25)) (tgt := 143) (by decide +kernel)).trans ?_
  exact Iff.rfl
theorem r261_171 {d : Nat} {X : Nat × (Nat → Int)} {v : Nat → Int} {M : PH} {K : PV → PS → Prop} {l1 l2 l3 : Int} : pm_Run d 261 171 [vA 234, vI l1, vI l2, vI l3] [] (GF X, M, PTF v) K ↔ K (vI l2) (GF X, M, PTF v) := by
  refine (px_go (by decide +kernel : pm_fe 261 171 = some (.iload_n 2, 1)) rfl).trans ?_
  refine (px_ri (by decide +kernel)).trans ?_
  exact Iff.rfl
theorem r261_173 {d : Nat} {X : Nat × (Nat → Int)} {v : Nat → Int} {M : PH} {K : PV → PS → Prop} {l1 l2 : Int} : pm_Run d 261 173 [vA 234, vI l1, vI l2, PU] [] (GF X, M, PTF v) K ↔ pm_Run d 261 175 [vA 234, vI l1, vI l2, vI 0] [] (GF X, M, PTF v) K := by
  refine (px_go (by decide +kernel : pm_fe 261 173 = some (.iconst 0, 1)) rfl).trans ?_
  refine (px_go (by decide +kernel : pm_fe 261 174 = some (.istore_n 3, 1)) rfl).trans ?_
  exact Iff.rfl
theorem r261_175 {d : Nat} {X : Nat × (Nat → Int)} {v : Nat → Int} {M : PH} {K : PV → PS → Prop} {l1 l2 l3 : Int} (h1 : 0 ≤ (M 234 13)) (h2 : (M 234 13) < 2) (h3 : inR l3) (h4 : inR (M 241 (M 234 13).toNat)) : pm_Run d 261 175 [vA 234, vI l1, vI l2, vI l3] [] (GF X, M, PTF v) K ↔ if M 241 (M 234 13).toNat ≤ l3 then pm_Run d 261 203 [vA 234, vI l1, vI l2, vI l3] [] (GF X, M, PTF v) K else pm_Run d 261 188 [vA 234, vI l1, vI l2, vI l3] [] (GF X, M, PTF v) K := by
  refine (px_go (by decide +kernel : pm_fe 261 175 = some (.iload_n 3, 1)) rfl).trans ?_
  refine (px_go (by decide +kernel : pm_fe 261 176 = some (.aload_n 0, 1)) rfl).trans ?_
  refine (ry_get2 (idx := 69) (ci := 12) (k := 19) (by decide +kernel : 234 < 283 ∧ SHF 234 = (12, 76)) (ptf_l (a := 234) (k := 19) (n := 241) (by decide +kernel)) (by decide +kernel)).trans ?_
  refine (px_go (by decide +kernel : pm_fe 261 180 = some (.aload_n 0, 1)) rfl).trans ?_
  refine (ry_get0 (idx := 51) (ci := 12) (k := 13) (by decide +kernel : 234 < 283 ∧ SHF 234 = (12, 76)) (by decide +kernel)).trans ?_
  refine (ry_iald (by decide +kernel : 241 < 283 ∧ SHF 241 = (100, 2)) h1 h2 (by decide +kernel)).trans ?_
  refine (ry_ic_ge (off := 18) (tgt := 203) h3 h4 (by decide +kernel)).trans ?_
  exact Iff.rfl
theorem r261_188 {d : Nat} {X : Nat × (Nat → Int)} {v : Nat → Int} {M : PH} {K : PV → PS → Prop} {l1 l2 l3 : Int} : pm_Run d 261 188 [vA 234, vI l1, vI l2, vI l3] [] (GF X, M, PTF v) K ↔ pm_Call d 240 [vA 234, vI 0, vI l3] (GF X, M, PTF v) (fun r9 S1 => pm_Run d 261 195 [vA 234, vI l1, vI l2, vI l3] (pm_push r9 [vI l2]) S1 K) := by
  refine (px_go (by decide +kernel : pm_fe 261 188 = some (.iload_n 2, 1)) rfl).trans ?_
  refine (px_go (by decide +kernel : pm_fe 261 189 = some (.aload_n 0, 1)) rfl).trans ?_
  refine (px_go (by decide +kernel : pm_fe 261 190 = some (.iconst 0, 1)) rfl).trans ?_
  refine (px_go (by decide +kernel : pm_fe 261 191 = some (.iload_n 3, 1)) rfl).trans ?_
  refine (ry_v2 (idx := 460) (m' := 240) (ci := 12) (by decide +kernel : 234 < 283 ∧ SHF 234 = (12, 76)) (by simp [pm_wl_n, pm_wl_c, pm_w] : pm_wl [vI l2] ≤ 8) (by decide +kernel)).trans ?_
  exact Iff.rfl
theorem r261_195 {d : Nat} {X : Nat × (Nat → Int)} {v : Nat → Int} {M : PH} {K : PV → PS → Prop} {l1 l2 l3 s0 s1 : Int} : pm_Run d 261 195 [vA 234, vI l1, vI l2, vI l3] [vI s0, vI s1] (GF X, M, PTF v) K ↔ pm_Run d 261 175 [vA 234, vI l1, vI (s1 + s0), vI (l3 + 1)] [] (GF X, M, PTF v) K := by
  refine (px_go (by decide +kernel : pm_fe 261 195 = some (.iadd, 1)) rfl).trans ?_
  refine (px_go (by decide +kernel : pm_fe 261 196 = some (.istore_n 2, 1)) rfl).trans ?_
  refine (px_go (by decide +kernel : pm_fe 261 197 = some (.iinc 3 1, 3)) rfl).trans ?_
  refine (px_goto (off := (-25)) (tgt := 175) (by decide +kernel)).trans ?_
  exact Iff.rfl
theorem r261_203 {d : Nat} {X : Nat × (Nat → Int)} {v : Nat → Int} {M : PH} {K : PV → PS → Prop} {l1 l2 l3 : Int} : pm_Run d 261 203 [vA 234, vI l1, vI l2, vI l3] [] (GF X, M, PTF v) K ↔ K (vI l2) (GF X, M, PTF v) := by
  refine (px_go (by decide +kernel : pm_fe 261 203 = some (.iload_n 2, 1)) rfl).trans ?_
  refine (px_ri (by decide +kernel)).trans ?_
  exact Iff.rfl
theorem r261_205 {d : Nat} {X : Nat × (Nat → Int)} {v : Nat → Int} {M : PH} {K : PV → PS → Prop} {l1 l2 : Int} : pm_Run d 261 205 [vA 234, vI l1, vI l2, PU] [] (GF X, M, PTF v) K ↔ K (vI (M 234 61)) (GF X, M, PTF v) := by
  refine (px_go (by decide +kernel : pm_fe 261 205 = some (.aload_n 0, 1)) rfl).trans ?_
  refine (ry_get0 (idx := 198) (ci := 12) (k := 61) (by decide +kernel : 234 < 283 ∧ SHF 234 = (12, 76)) (by decide +kernel)).trans ?_
  refine (px_ri (by decide +kernel)).trans ?_
  exact Iff.rfl
theorem r261_210 {d : Nat} {X : Nat × (Nat → Int)} {v : Nat → Int} {M : PH} {K : PV → PS → Prop} {l1 l2 : Int} : pm_Run d 261 210 [vA 234, vI l1, vI l2, PU] [] (GF X, M, PTF v) K ↔ K (vI (M 234 62)) (GF X, M, PTF v) := by
  refine (px_go (by decide +kernel : pm_fe 261 210 = some (.aload_n 0, 1)) rfl).trans ?_
  refine (ry_get1 (idx := 201) (ci := 12) (k := 62) (by decide +kernel : 234 < 283 ∧ SHF 234 = (12, 76)) (by decide +kernel)).trans ?_
  refine (px_go (by decide +kernel : pm_fe 261 214 = some (.l2i, 1)) rfl).trans ?_
  refine (px_ri (by decide +kernel)).trans ?_
  exact Iff.rfl
theorem r261_216 {d : Nat} {X : Nat × (Nat → Int)} {v : Nat → Int} {M : PH} {K : PV → PS → Prop} {l1 l2 : Int} : pm_Run d 261 216 [vA 234, vI l1, vI l2, PU] [] (GF X, M, PTF v) K ↔ K (vI (-1)) (GF X, M, PTF v) := by
  refine (px_go (by decide +kernel : pm_fe 261 216 = some (.iconst (-1), 1)) rfl).trans ?_
  refine (px_ri (by decide +kernel)).trans ?_
  exact Iff.rfl
-- X12_letter letter(III)I
theorem r262_0 {d : Nat} {X : Nat × (Nat → Int)} {v : Nat → Int} {M : PH} {K : PV → PS → Prop} {l1 l2 l3 : Int} : pm_Run d 262 0 [vA 234, vI l1, vI l2, vI l3, PU, PU, PU, PU, PU] [] (GF X, M, PTF v) K ↔ pm_Call d 179 [vI l1, vI 0, vI 1] (GF X, M, PTF v) (fun r9 S1 => pm_Run d 262 6 [vA 234, vI l1, vI l2, vI l3, PU, PU, PU, PU, PU] (pm_push r9 []) S1 K) := by
  refine (px_go (by decide +kernel : pm_fe 262 0 = some (.iload_n 1, 1)) rfl).trans ?_
  refine (px_go (by decide +kernel : pm_fe 262 1 = some (.iconst 0, 1)) rfl).trans ?_
  refine (px_go (by decide +kernel : pm_fe 262 2 = some (.iconst 1, 1)) rfl).trans ?_
  refine (px_s3 (idx := 337) (m' := 179) (nest := 0) (by decide +kernel)).trans ((and_iff_right (by simp [pm_wl_n, pm_wl_c, pm_w] : pm_wl [] ≤ 8)).trans ?_)
  exact Iff.rfl
theorem r262_6 {d : Nat} {X : Nat × (Nat → Int)} {v : Nat → Int} {M : PH} {K : PV → PS → Prop} {l1 l2 l3 s0 : Int} (h1 : inR s0) : pm_Run d 262 6 [vA 234, vI l1, vI l2, vI l3, PU, PU, PU, PU, PU] [vI s0] (GF X, M, PTF v) K ↔ if s0 = 0 then pm_Run d 262 37 [vA 234, vI l1, vI l2, vI l3, PU, PU, PU, PU, PU] [] (GF X, M, PTF v) K else pm_Run d 262 9 [vA 234, vI l1, vI l2, vI l3, PU, PU, PU, PU, PU] [] (GF X, M, PTF v) K := by
  refine (ry_if_eq (off := 31) (tgt := 37) h1 (by decide +kernel)).trans ?_
  exact Iff.rfl
theorem r262_9 {d : Nat} {X : Nat × (Nat → Int)} {v : Nat → Int} {M : PH} {K : PV → PS → Prop} {l1 l2 l3 : Int} : pm_Run d 262 9 [vA 234, vI l1, vI l2, vI l3, PU, PU, PU, PU, PU] [] (GF X, M, PTF v) K ↔ pm_Call d 192 [vA 234, vI (M 234 13), vI l1] (GF X, M, PTF v) (fun r9 S1 => pm_Run d 262 20 [vA 234, vI l1, vI l2, vI l3, PU, PU, PU, PU, PU] (pm_push r9 [vI 0, vI l2]) S1 K) := by
  refine (px_go (by decide +kernel : pm_fe 262 9 = some (.iload_n 2, 1)) rfl).trans ?_
  refine (px_go (by decide +kernel : pm_fe 262 10 = some (.iconst 0, 1)) rfl).trans ?_
  refine (px_go (by decide +kernel : pm_fe 262 11 = some (.aload_n 0, 1)) rfl).trans ?_
  refine (px_go (by decide +kernel : pm_fe 262 12 = some (.aload_n 0, 1)) rfl).trans ?_
  refine (ry_get0 (idx := 51) (ci := 12) (k := 13) (by decide +kernel : 234 < 283 ∧ SHF 234 = (12, 76)) (by decide +kernel)).trans ?_
  refine (px_go (by decide +kernel : pm_fe 262 16 = some (.iload_n 1, 1)) rfl).trans ?_
  refine (ry_v2 (idx := 329) (m' := 192) (ci := 12) (by decide +kernel : 234 < 283 ∧ SHF 234 = (12, 76)) (by simp [pm_wl_n, pm_wl_c, pm_w] : pm_wl [vI 0, vI l2] ≤ 8) (by decide +kernel)).trans ?_
  exact Iff.rfl
theorem r262_20 {d : Nat} {X : Nat × (Nat → Int)} {v : Nat → Int} {M : PH} {K : PV → PS → Prop} {l1 l2 l3 s0 s1 s2 : Int} : pm_Run d 262 20 [vA 234, vI l1, vI l2, vI l3, PU, PU, PU, PU, PU] [vI s0, vI s1, vI s2] (GF X, M, PTF v) K ↔ pm_Call d 179 [vI s2, vI s1, vI (s0 - 1)] (GF X, M, PTF v) (fun r9 S1 => pm_Run d 262 25 [vA 234, vI l1, vI l2, vI l3, PU, PU, PU, PU, PU] (pm_push r9 []) S1 K) := by
  refine (px_go (by decide +kernel : pm_fe 262 20 = some (.iconst 1, 1)) rfl).trans ?_
  refine (px_go (by decide +kernel : pm_fe 262 21 = some (.isub, 1)) rfl).trans ?_
  refine (px_s3 (idx := 337) (m' := 179) (nest := 0) (by decide +kernel)).trans ((and_iff_right (by simp [pm_wl_n, pm_wl_c, pm_w] : pm_wl [] ≤ 8)).trans ?_)
  exact Iff.rfl
theorem r262_25 {d : Nat} {X : Nat × (Nat → Int)} {v : Nat → Int} {M : PH} {K : PV → PS → Prop} {l1 l2 l3 s0 : Int} (h1 : inR s0) : pm_Run d 262 25 [vA 234, vI l1, vI l2, vI l3, PU, PU, PU, PU, PU] [vI s0] (GF X, M, PTF v) K ↔ if s0 = 0 then pm_Run d 262 37 [vA 234, vI l1, vI l2, vI l3, PU, PU, PU, PU, PU] [] (GF X, M, PTF v) K else pm_Run d 262 28 [vA 234, vI l1, vI l2, vI l3, PU, PU, PU, PU, PU] [] (GF X, M, PTF v) K := by
  refine (ry_if_eq (off := 12) (tgt := 37) h1 (by decide +kernel)).trans ?_
  exact Iff.rfl
theorem r262_28 {d : Nat} {X : Nat × (Nat → Int)} {v : Nat → Int} {M : PH} {K : PV → PS → Prop} {l1 l2 l3 : Int} : pm_Run d 262 28 [vA 234, vI l1, vI l2, vI l3, PU, PU, PU, PU, PU] [] (GF X, M, PTF v) K ↔ pm_Call d 179 [vI l3, vI 0, vI 5] (GF X, M, PTF v) (fun r9 S1 => pm_Run d 262 34 [vA 234, vI l1, vI l2, vI l3, PU, PU, PU, PU, PU] (pm_push r9 []) S1 K) := by
  refine (px_go (by decide +kernel : pm_fe 262 28 = some (.iload_n 3, 1)) rfl).trans ?_
  refine (px_go (by decide +kernel : pm_fe 262 29 = some (.iconst 0, 1)) rfl).trans ?_
  refine (px_go (by decide +kernel : pm_fe 262 30 = some (.iconst 5, 1)) rfl).trans ?_
  refine (px_s3 (idx := 337) (m' := 179) (nest := 0) (by decide +kernel)).trans ((and_iff_right (by simp [pm_wl_n, pm_wl_c, pm_w] : pm_wl [] ≤ 8)).trans ?_)
  exact Iff.rfl
theorem r262_34 {d : Nat} {X : Nat × (Nat → Int)} {v : Nat → Int} {M : PH} {K : PV → PS → Prop} {l1 l2 l3 s0 : Int} (h1 : inR s0) : pm_Run d 262 34 [vA 234, vI l1, vI l2, vI l3, PU, PU, PU, PU, PU] [vI s0] (GF X, M, PTF v) K ↔ if s0 ≠ 0 then pm_Run d 262 39 [vA 234, vI l1, vI l2, vI l3, PU, PU, PU, PU, PU] [] (GF X, M, PTF v) K else pm_Run d 262 37 [vA 234, vI l1, vI l2, vI l3, PU, PU, PU, PU, PU] [] (GF X, M, PTF v) K := by
  refine (ry_if_ne (off := 5) (tgt := 39) h1 (by decide +kernel)).trans ?_
  exact Iff.rfl
theorem r262_37 {d : Nat} {X : Nat × (Nat → Int)} {v : Nat → Int} {M : PH} {K : PV → PS → Prop} {l1 l2 l3 : Int} : pm_Run d 262 37 [vA 234, vI l1, vI l2, vI l3, PU, PU, PU, PU, PU] [] (GF X, M, PTF v) K ↔ K (vI (-1)) (GF X, M, PTF v) := by
  refine (px_go (by decide +kernel : pm_fe 262 37 = some (.iconst (-1), 1)) rfl).trans ?_
  refine (px_ri (by decide +kernel)).trans ?_
  exact Iff.rfl
theorem r262_39 {d : Nat} {X : Nat × (Nat → Int)} {v : Nat → Int} {M : PH} {K : PV → PS → Prop} {l1 l2 l3 : Int} : pm_Run d 262 39 [vA 234, vI l1, vI l2, vI l3, PU, PU, PU, PU, PU] [] (GF X, M, PTF v) K ↔ pm_Call d 193 [vA 234, vI (M 234 13), vI l1, vI l2] (GF X, M, PTF v) (fun r9 S1 => pm_Run d 262 49 [vA 234, vI l1, vI l2, vI l3, PU, PU, PU, PU, PU] (pm_push r9 []) S1 K) := by
  refine (px_go (by decide +kernel : pm_fe 262 39 = some (.aload_n 0, 1)) rfl).trans ?_
  refine (px_go (by decide +kernel : pm_fe 262 40 = some (.aload_n 0, 1)) rfl).trans ?_
  refine (ry_get0 (idx := 51) (ci := 12) (k := 13) (by decide +kernel : 234 < 283 ∧ SHF 234 = (12, 76)) (by decide +kernel)).trans ?_
  refine (px_go (by decide +kernel : pm_fe 262 44 = some (.iload_n 1, 1)) rfl).trans ?_
  refine (px_go (by decide +kernel : pm_fe 262 45 = some (.iload_n 2, 1)) rfl).trans ?_
  refine (ry_v3 (idx := 333) (m' := 193) (ci := 12) (by decide +kernel : 234 < 283 ∧ SHF 234 = (12, 76)) (by simp [pm_wl_n, pm_wl_c, pm_w] : pm_wl [] ≤ 8) (by decide +kernel)).trans ?_
  exact Iff.rfl
theorem r262_49 {d : Nat} {X : Nat × (Nat → Int)} {v : Nat → Int} {M : PH} {K : PV → PS → Prop} {l1 l2 l3 s0 : Int} : pm_Run d 262 49 [vA 234, vI l1, vI l2, vI l3, PU, PU, PU, PU, PU] [vL s0] (GF X, M, PTF v) K ↔ pm_Run d 262 58 [vA 234, vI l1, vI l2, vI l3, vL s0, PU, vI 0, vL s0, PU] [] (GF X, M, PTF v) K := by
  refine (px_go (by decide +kernel : pm_fe 262 49 = some (.lstore 4, 2)) rfl).trans ?_
  refine (px_go (by decide +kernel : pm_fe 262 51 = some (.iconst 0, 1)) rfl).trans ?_
  refine (px_go (by decide +kernel : pm_fe 262 52 = some (.istore 6, 2)) rfl).trans ?_
  refine (px_go (by decide +kernel : pm_fe 262 54 = some (.lload 4, 2)) rfl).trans ?_
  refine (px_go (by decide +kernel : pm_fe 262 56 = some (.lstore 7, 2)) rfl).trans ?_
  exact Iff.rfl
theorem r262_58 {d : Nat} {X : Nat × (Nat → Int)} {v : Nat → Int} {M : PH} {K : PV → PS → Prop} {l1 l2 l3 l4 l6 l7 : Int} (h1 : inL l7) (h2 : inR (pm_cm l7 0)) : pm_Run d 262 58 [vA 234, vI l1, vI l2, vI l3, vL l4, PU, vI l6, vL l7, PU] [] (GF X, M, PTF v) K ↔ if pm_cm l7 0 ≤ 0 then pm_Run d 262 78 [vA 234, vI l1, vI l2, vI l3, vL l4, PU, vI l6, vL l7, PU] [] (GF X, M, PTF v) K else pm_Run d 262 65 [vA 234, vI l1, vI l2, vI l3, vL l4, PU, vI l6, vL l7, PU] [] (GF X, M, PTF v) K := by
  refine (px_go (by decide +kernel : pm_fe 262 58 = some (.lload 7, 2)) rfl).trans ?_
  refine (px_go (by decide +kernel : pm_fe 262 60 = some (.lconst 0, 1)) rfl).trans ?_
  refine (ry_lcmp h1 (by decide : (-9223372036854775808 ≤ (0 : Int) ∧ (0 : Int) < 9223372036854775808)) (by decide +kernel)).trans ?_
  refine (ry_if_le (off := 16) (tgt := 78) h2 (by decide +kernel)).trans ?_
  exact Iff.rfl
theorem r262_65 {d : Nat} {X : Nat × (Nat → Int)} {v : Nat → Int} {M : PH} {K : PV → PS → Prop} {l1 l2 l3 l4 l6 l7 : Int} : pm_Run d 262 65 [vA 234, vI l1, vI l2, vI l3, vL l4, PU, vI l6, vL l7, PU] [] (GF X, M, PTF v) K ↔ pm_Run d 262 58 [vA 234, vI l1, vI l2, vI l3, vL l4, PU, vI (l6 + 1), vL (pm_lshr l7 8), PU] [] (GF X, M, PTF v) K := by
  refine (px_go (by decide +kernel : pm_fe 262 65 = some (.iinc 6 1, 3)) rfl).trans ?_
  refine (px_go (by decide +kernel : pm_fe 262 68 = some (.lload 7, 2)) rfl).trans ?_
  refine (px_go (by decide +kernel : pm_fe 262 70 = some (.bipush 8, 2)) rfl).trans ?_
  refine (px_go (by decide +kernel : pm_fe 262 72 = some (.lshr, 1)) rfl).trans ?_
  refine (px_go (by decide +kernel : pm_fe 262 73 = some (.lstore 7, 2)) rfl).trans ?_
  refine (px_goto (off := (-17)) (tgt := 58) (by decide +kernel)).trans ?_
  exact Iff.rfl
theorem r262_78 {d : Nat} {X : Nat × (Nat → Int)} {v : Nat → Int} {M : PH} {K : PV → PS → Prop} {l1 l2 l3 l4 l6 l7 : Int} (h1 : inR l3) (h2 : inR l6) : pm_Run d 262 78 [vA 234, vI l1, vI l2, vI l3, vL l4, PU, vI l6, vL l7, PU] [] (GF X, M, PTF v) K ↔ if l3 < l6 then pm_Run d 262 88 [vA 234, vI l1, vI l2, vI l3, vL l4, PU, vI l6, vL l7, PU] [] (GF X, M, PTF v) K else pm_Run d 262 84 [vA 234, vI l1, vI l2, vI l3, vL l4, PU, vI l6, vL l7, PU] [] (GF X, M, PTF v) K := by
  refine (px_go (by decide +kernel : pm_fe 262 78 = some (.iload_n 3, 1)) rfl).trans ?_
  refine (px_go (by decide +kernel : pm_fe 262 79 = some (.iload 6, 2)) rfl).trans ?_
  refine (ry_ic_lt (off := 7) (tgt := 88) h1 h2 (by decide +kernel)).trans ?_
  exact Iff.rfl
theorem r262_84 {d : Nat} {X : Nat × (Nat → Int)} {v : Nat → Int} {M : PH} {K : PV → PS → Prop} {l1 l2 l3 l4 l6 l7 : Int} : pm_Run d 262 84 [vA 234, vI l1, vI l2, vI l3, vL l4, PU, vI l6, vL l7, PU] [] (GF X, M, PTF v) K ↔ pm_Run d 262 110 [vA 234, vI l1, vI l2, vI l3, vL l4, PU, vI l6, vL l7, PU] [vI 0] (GF X, M, PTF v) K := by
  refine (px_go (by decide +kernel : pm_fe 262 84 = some (.iconst 0, 1)) rfl).trans ?_
  refine (px_goto (off := 25) (tgt := 110) (by decide +kernel)).trans ?_
  exact Iff.rfl
theorem r262_88 {d : Nat} {X : Nat × (Nat → Int)} {v : Nat → Int} {M : PH} {K : PV → PS → Prop} {l1 l2 l3 l4 l6 l7 : Int} : pm_Run d 262 88 [vA 234, vI l1, vI l2, vI l3, vL l4, PU, vI l6, vL l7, PU] [] (GF X, M, PTF v) K ↔ pm_Run d 262 110 [vA 234, vI l1, vI l2, vI l3, vL l4, PU, vI l6, vL l7, PU] [vI (((pm_land (pm_lshr l4 (8 * ((l6 - 1) - l3))) 255) - 97) + 1)] (GF X, M, PTF v) K := by
  refine (px_go (by decide +kernel : pm_fe 262 88 = some (.lload 4, 2)) rfl).trans ?_
  refine (px_go (by decide +kernel : pm_fe 262 90 = some (.bipush 8, 2)) rfl).trans ?_
  refine (px_go (by decide +kernel : pm_fe 262 92 = some (.iload 6, 2)) rfl).trans ?_
  refine (px_go (by decide +kernel : pm_fe 262 94 = some (.iconst 1, 1)) rfl).trans ?_
  refine (px_go (by decide +kernel : pm_fe 262 95 = some (.isub, 1)) rfl).trans ?_
  refine (px_go (by decide +kernel : pm_fe 262 96 = some (.iload_n 3, 1)) rfl).trans ?_
  refine (px_go (by decide +kernel : pm_fe 262 97 = some (.isub, 1)) rfl).trans ?_
  refine (px_go (by decide +kernel : pm_fe 262 98 = some (.imul, 1)) rfl).trans ?_
  refine (px_go (by decide +kernel : pm_fe 262 99 = some (.lshr, 1)) rfl).trans ?_
  refine (px_ldcL (idx := 533) (x := 255) (by decide +kernel)).trans ?_
  refine (px_go (by decide +kernel : pm_fe 262 103 = some (.land, 1)) rfl).trans ?_
  refine (px_go (by decide +kernel : pm_fe 262 104 = some (.l2i, 1)) rfl).trans ?_
  refine (px_go (by decide +kernel : pm_fe 262 105 = some (.bipush 97, 2)) rfl).trans ?_
  refine (px_go (by decide +kernel : pm_fe 262 107 = some (.isub, 1)) rfl).trans ?_
  refine (px_go (by decide +kernel : pm_fe 262 108 = some (.iconst 1, 1)) rfl).trans ?_
  refine (px_go (by decide +kernel : pm_fe 262 109 = some (.iadd, 1)) rfl).trans ?_
  exact Iff.rfl
theorem r262_110 {d : Nat} {X : Nat × (Nat → Int)} {v : Nat → Int} {M : PH} {K : PV → PS → Prop} {l1 l2 l3 l4 l6 l7 s0 : Int} : pm_Run d 262 110 [vA 234, vI l1, vI l2, vI l3, vL l4, PU, vI l6, vL l7, PU] [vI s0] (GF X, M, PTF v) K ↔ K (vI s0) (GF X, M, PTF v) := by
  refine (px_ri (by decide +kernel)).trans ?_
  exact Iff.rfl
-- X12_moon moon(II)I
theorem r263_0 {d : Nat} {X : Nat × (Nat → Int)} {v : Nat → Int} {M : PH} {K : PV → PS → Prop} {l1 l2 : Int} : pm_Run d 263 0 [vA 234, vI l1, vI l2] [] (GF X, M, PTF v) K ↔ pm_Call d 228 [vA 234, vI l1] (GF X, M, PTF v) (fun r9 S1 => pm_Run d 263 5 [vA 234, vI l1, vI l2] (pm_push r9 []) S1 K) := by
  refine (px_go (by decide +kernel : pm_fe 263 0 = some (.aload_n 0, 1)) rfl).trans ?_
  refine (px_go (by decide +kernel : pm_fe 263 1 = some (.iload_n 1, 1)) rfl).trans ?_
  refine (ry_v1 (idx := 535) (m' := 228) (ci := 12) (by decide +kernel : 234 < 283 ∧ SHF 234 = (12, 76)) (by simp [pm_wl_n, pm_wl_c, pm_w] : pm_wl [] ≤ 8) (by decide +kernel)).trans ?_
  exact Iff.rfl
theorem r263_5 {d : Nat} {X : Nat × (Nat → Int)} {v : Nat → Int} {M : PH} {K : PV → PS → Prop} {l1 l2 s0 : Int} (h1 : inR s0) : pm_Run d 263 5 [vA 234, vI l1, vI l2] [vI s0] (GF X, M, PTF v) K ↔ if s0 ≠ 0 then pm_Run d 263 10 [vA 234, vI l1, vI l2] [] (GF X, M, PTF v) K else pm_Run d 263 8 [vA 234, vI l1, vI l2] [] (GF X, M, PTF v) K := by
  refine (ry_if_ne (off := 5) (tgt := 10) h1 (by decide +kernel)).trans ?_
  exact Iff.rfl
theorem r263_8 {d : Nat} {X : Nat × (Nat → Int)} {v : Nat → Int} {M : PH} {K : PV → PS → Prop} {l1 l2 : Int} : pm_Run d 263 8 [vA 234, vI l1, vI l2] [] (GF X, M, PTF v) K ↔ K (vI (-1)) (GF X, M, PTF v) := by
  refine (px_go (by decide +kernel : pm_fe 263 8 = some (.iconst (-1), 1)) rfl).trans ?_
  refine (px_ri (by decide +kernel)).trans ?_
  exact Iff.rfl
theorem r263_10 {d : Nat} {X : Nat × (Nat → Int)} {v : Nat → Int} {M : PH} {K : PV → PS → Prop} {l1 l2 : Int} (h1 : inR l2) : pm_Run d 263 10 [vA 234, vI l1, vI l2] [] (GF X, M, PTF v) K ↔ pm_Run d 263 (pm_tg 0 [48, 55, 69, 76, 83, 90] 105 l2) [vA 234, vI l1, vI l2] [] (GF X, M, PTF v) K := by
  refine (px_go (by decide +kernel : pm_fe 263 10 = some (.iload_n 2, 1)) rfl).trans ?_
  refine (ry_tsw (lo := 0) (dt := 105) (tl := [48, 55, 69, 76, 83, 90]) h1 (by decide +kernel : pm_fe 263 11 = some (.tableswitch 94 0 5 #[37, 44, 58, 65, 72, 79], 37) ∧ _)).trans ?_
  exact Iff.rfl
theorem r263_48 {d : Nat} {X : Nat × (Nat → Int)} {v : Nat → Int} {M : PH} {K : PV → PS → Prop} {l1 l2 : Int} (h1 : 0 ≤ l1) (h2 : l1 < 66) : pm_Run d 263 48 [vA 234, vI l1, vI l2] [] (GF X, M, PTF v) K ↔ K (vI (M 271 l1.toNat)) (GF X, M, PTF v) := by
  refine (px_go (by decide +kernel : pm_fe 263 48 = some (.aload_n 0, 1)) rfl).trans ?_
  refine (ry_get2 (idx := 180) (ci := 12) (k := 55) (by decide +kernel : 234 < 283 ∧ SHF 234 = (12, 76)) (ptf_l (a := 234) (k := 55) (n := 271) (by decide +kernel)) (by decide +kernel)).trans ?_
  refine (px_go (by decide +kernel : pm_fe 263 52 = some (.iload_n 1, 1)) rfl).trans ?_
  refine (ry_iald (by decide +kernel : 271 < 283 ∧ SHF 271 = (100, 66)) h1 h2 (by decide +kernel)).trans ?_
  refine (px_ri (by decide +kernel)).trans ?_
  exact Iff.rfl
theorem r263_55 {d : Nat} {X : Nat × (Nat → Int)} {v : Nat → Int} {M : PH} {K : PV → PS → Prop} {l1 l2 : Int} (h1 : 0 ≤ ((3 * (M 234 13)) + l1)) (h2 : ((3 * (M 234 13)) + l1) < 6) : pm_Run d 263 55 [vA 234, vI l1, vI l2] [] (GF X, M, PTF v) K ↔ K (vI (M 239 ((3 * (M 234 13)) + l1).toNat)) (GF X, M, PTF v) := by
  refine (px_go (by decide +kernel : pm_fe 263 55 = some (.aload_n 0, 1)) rfl).trans ?_
  refine (ry_get2 (idx := 63) (ci := 12) (k := 17) (by decide +kernel : 234 < 283 ∧ SHF 234 = (12, 76)) (ptf_l (a := 234) (k := 17) (n := 239) (by decide +kernel)) (by decide +kernel)).trans ?_
  refine (px_go (by decide +kernel : pm_fe 263 59 = some (.iconst 3, 1)) rfl).trans ?_
  refine (px_go (by decide +kernel : pm_fe 263 60 = some (.aload_n 0, 1)) rfl).trans ?_
  refine (ry_get0 (idx := 51) (ci := 12) (k := 13) (by decide +kernel : 234 < 283 ∧ SHF 234 = (12, 76)) (by decide +kernel)).trans ?_
  refine (px_go (by decide +kernel : pm_fe 263 64 = some (.imul, 1)) rfl).trans ?_
  refine (px_go (by decide +kernel : pm_fe 263 65 = some (.iload_n 1, 1)) rfl).trans ?_
  refine (px_go (by decide +kernel : pm_fe 263 66 = some (.iadd, 1)) rfl).trans ?_
  refine (ry_iald (by decide +kernel : 239 < 283 ∧ SHF 239 = (100, 6)) h1 h2 (by decide +kernel)).trans ?_
  refine (px_ri (by decide +kernel)).trans ?_
  exact Iff.rfl
theorem r263_69 {d : Nat} {X : Nat × (Nat → Int)} {v : Nat → Int} {M : PH} {K : PV → PS → Prop} {l1 l2 : Int} (h1 : 0 ≤ l1) (h2 : l1 < 66) : pm_Run d 263 69 [vA 234, vI l1, vI l2] [] (GF X, M, PTF v) K ↔ K (vI (M 272 l1.toNat)) (GF X, M, PTF v) := by
  refine (px_go (by decide +kernel : pm_fe 263 69 = some (.aload_n 0, 1)) rfl).trans ?_
  refine (ry_get2 (idx := 183) (ci := 12) (k := 56) (by decide +kernel : 234 < 283 ∧ SHF 234 = (12, 76)) (ptf_l (a := 234) (k := 56) (n := 272) (by decide +kernel)) (by decide +kernel)).trans ?_
  refine (px_go (by decide +kernel : pm_fe 263 73 = some (.iload_n 1, 1)) rfl).trans ?_
  refine (ry_iald (by decide +kernel : 272 < 283 ∧ SHF 272 = (100, 66)) h1 h2 (by decide +kernel)).trans ?_
  refine (px_ri (by decide +kernel)).trans ?_
  exact Iff.rfl
theorem r263_76 {d : Nat} {X : Nat × (Nat → Int)} {v : Nat → Int} {M : PH} {K : PV → PS → Prop} {l1 l2 : Int} : pm_Run d 263 76 [vA 234, vI l1, vI l2] [] (GF X, M, PTF v) K ↔ pm_Call d 237 [vA 234, vI 0, vI l1] (GF X, M, PTF v) (fun r9 S1 => pm_Run d 263 82 [vA 234, vI l1, vI l2] (pm_push r9 []) S1 K) := by
  refine (px_go (by decide +kernel : pm_fe 263 76 = some (.aload_n 0, 1)) rfl).trans ?_
  refine (px_go (by decide +kernel : pm_fe 263 77 = some (.iconst 0, 1)) rfl).trans ?_
  refine (px_go (by decide +kernel : pm_fe 263 78 = some (.iload_n 1, 1)) rfl).trans ?_
  refine (ry_v2 (idx := 448) (m' := 237) (ci := 12) (by decide +kernel : 234 < 283 ∧ SHF 234 = (12, 76)) (by simp [pm_wl_n, pm_wl_c, pm_w] : pm_wl [] ≤ 8) (by decide +kernel)).trans ?_
  exact Iff.rfl
theorem r263_82 {d : Nat} {X : Nat × (Nat → Int)} {v : Nat → Int} {M : PH} {K : PV → PS → Prop} {l1 l2 s0 : Int} : pm_Run d 263 82 [vA 234, vI l1, vI l2] [vI s0] (GF X, M, PTF v) K ↔ K (vI s0) (GF X, M, PTF v) := by
  refine (px_ri (by decide +kernel)).trans ?_
  exact Iff.rfl
theorem r263_83 {d : Nat} {X : Nat × (Nat → Int)} {v : Nat → Int} {M : PH} {K : PV → PS → Prop} {l1 l2 : Int} : pm_Run d 263 83 [vA 234, vI l1, vI l2] [] (GF X, M, PTF v) K ↔ pm_Call d 238 [vA 234, vI 0, vI l1] (GF X, M, PTF v) (fun r9 S1 => pm_Run d 263 89 [vA 234, vI l1, vI l2] (pm_push r9 []) S1 K) := by
  refine (px_go (by decide +kernel : pm_fe 263 83 = some (.aload_n 0, 1)) rfl).trans ?_
  refine (px_go (by decide +kernel : pm_fe 263 84 = some (.iconst 0, 1)) rfl).trans ?_
  refine (px_go (by decide +kernel : pm_fe 263 85 = some (.iload_n 1, 1)) rfl).trans ?_
  refine (ry_v2 (idx := 451) (m' := 238) (ci := 12) (by decide +kernel : 234 < 283 ∧ SHF 234 = (12, 76)) (by simp [pm_wl_n, pm_wl_c, pm_w] : pm_wl [] ≤ 8) (by decide +kernel)).trans ?_
  exact Iff.rfl
theorem r263_89 {d : Nat} {X : Nat × (Nat → Int)} {v : Nat → Int} {M : PH} {K : PV → PS → Prop} {l1 l2 s0 : Int} : pm_Run d 263 89 [vA 234, vI l1, vI l2] [vI s0] (GF X, M, PTF v) K ↔ K (vI s0) (GF X, M, PTF v) := by
  refine (px_ri (by decide +kernel)).trans ?_
  exact Iff.rfl
theorem r263_90 {d : Nat} {X : Nat × (Nat → Int)} {v : Nat → Int} {M : PH} {K : PV → PS → Prop} {l1 l2 : Int} : pm_Run d 263 90 [vA 234, vI l1, vI l2] [] (GF X, M, PTF v) K ↔ pm_Call d 243 [vA 234, vI 0, vI l1] (GF X, M, PTF v) (fun r9 S1 => pm_Run d 263 96 [vA 234, vI l1, vI l2] (pm_push r9 []) S1 K) := by
  refine (px_go (by decide +kernel : pm_fe 263 90 = some (.aload_n 0, 1)) rfl).trans ?_
  refine (px_go (by decide +kernel : pm_fe 263 91 = some (.iconst 0, 1)) rfl).trans ?_
  refine (px_go (by decide +kernel : pm_fe 263 92 = some (.iload_n 1, 1)) rfl).trans ?_
  refine (ry_v2 (idx := 466) (m' := 243) (ci := 12) (by decide +kernel : 234 < 283 ∧ SHF 234 = (12, 76)) (by simp [pm_wl_n, pm_wl_c, pm_w] : pm_wl [] ≤ 8) (by decide +kernel)).trans ?_
  exact Iff.rfl
theorem r263_96 {d : Nat} {X : Nat × (Nat → Int)} {v : Nat → Int} {M : PH} {K : PV → PS → Prop} {l1 l2 s0 : Int} (h1 : inR s0) : pm_Run d 263 96 [vA 234, vI l1, vI l2] [vI s0] (GF X, M, PTF v) K ↔ if s0 = 0 then pm_Run d 263 103 [vA 234, vI l1, vI l2] [] (GF X, M, PTF v) K else pm_Run d 263 99 [vA 234, vI l1, vI l2] [] (GF X, M, PTF v) K := by
  refine (ry_if_eq (off := 7) (tgt := 103) h1 (by decide +kernel)).trans ?_
  exact Iff.rfl
theorem r263_99 {d : Nat} {X : Nat × (Nat → Int)} {v : Nat → Int} {M : PH} {K : PV → PS → Prop} {l1 l2 : Int} : pm_Run d 263 99 [vA 234, vI l1, vI l2] [] (GF X, M, PTF v) K ↔ pm_Run d 263 104 [vA 234, vI l1, vI l2] [vI 1] (GF X, M, PTF v) K := by
  refine (px_go (by decide +kernel : pm_fe 263 99 = some (.iconst 1, 1)) rfl).trans ?_
  refine (px_goto (off := 4) (tgt := 104) (by decide +kernel)).trans ?_
  exact Iff.rfl
theorem r263_103 {d : Nat} {X : Nat × (Nat → Int)} {v : Nat → Int} {M : PH} {K : PV → PS → Prop} {l1 l2 : Int} : pm_Run d 263 103 [vA 234, vI l1, vI l2] [] (GF X, M, PTF v) K ↔ pm_Run d 263 104 [vA 234, vI l1, vI l2] [vI 0] (GF X, M, PTF v) K := by
  refine (px_go (by decide +kernel : pm_fe 263 103 = some (.iconst 0, 1)) rfl).trans ?_
  exact Iff.rfl
theorem r263_104 {d : Nat} {X : Nat × (Nat → Int)} {v : Nat → Int} {M : PH} {K : PV → PS → Prop} {l1 l2 s0 : Int} : pm_Run d 263 104 [vA 234, vI l1, vI l2] [vI s0] (GF X, M, PTF v) K ↔ K (vI s0) (GF X, M, PTF v) := by
  refine (px_ri (by decide +kernel)).trans ?_
  exact Iff.rfl
theorem r263_105 {d : Nat} {X : Nat × (Nat → Int)} {v : Nat → Int} {M : PH} {K : PV → PS → Prop} {l1 l2 : Int} : pm_Run d 263 105 [vA 234, vI l1, vI l2] [] (GF X, M, PTF v) K ↔ K (vI (-1)) (GF X, M, PTF v) := by
  refine (px_go (by decide +kernel : pm_fe 263 105 = some (.iconst (-1), 1)) rfl).trans ?_
  refine (px_ri (by decide +kernel)).trans ?_
  exact Iff.rfl
-- X12_owesAll owesAll(I)I
theorem r264_0 {d : Nat} {X : Nat × (Nat → Int)} {v : Nat → Int} {M : PH} {K : PV → PS → Prop} {l1 : Int} : pm_Run d 264 0 [vA 234, vI l1, PU, PU] [] (GF X, M, PTF v) K ↔ pm_Run d 264 4 [vA 234, vI l1, vI 0, vI 0] [] (GF X, M, PTF v) K := by
  refine (px_go (by decide +kernel : pm_fe 264 0 = some (.iconst 0, 1)) rfl).trans ?_
  refine (px_go (by decide +kernel : pm_fe 264 1 = some (.istore_n 2, 1)) rfl).trans ?_
  refine (px_go (by decide +kernel : pm_fe 264 2 = some (.iconst 0, 1)) rfl).trans ?_
  refine (px_go (by decide +kernel : pm_fe 264 3 = some (.istore_n 3, 1)) rfl).trans ?_
  exact Iff.rfl
theorem r264_4 {d : Nat} {X : Nat × (Nat → Int)} {v : Nat → Int} {M : PH} {K : PV → PS → Prop} {l1 l2 l3 : Int} (h1 : 0 ≤ (M 234 13)) (h2 : (M 234 13) < 2) (h3 : inR l3) (h4 : inR (M 246 (M 234 13).toNat)) : pm_Run d 264 4 [vA 234, vI l1, vI l2, vI l3] [] (GF X, M, PTF v) K ↔ if M 246 (M 234 13).toNat ≤ l3 then pm_Run d 264 62 [vA 234, vI l1, vI l2, vI l3] [] (GF X, M, PTF v) K else pm_Run d 264 17 [vA 234, vI l1, vI l2, vI l3] [] (GF X, M, PTF v) K := by
  refine (px_go (by decide +kernel : pm_fe 264 4 = some (.iload_n 3, 1)) rfl).trans ?_
  refine (px_go (by decide +kernel : pm_fe 264 5 = some (.aload_n 0, 1)) rfl).trans ?_
  refine (ry_get2 (idx := 84) (ci := 12) (k := 24) (by decide +kernel : 234 < 283 ∧ SHF 234 = (12, 76)) (ptf_l (a := 234) (k := 24) (n := 246) (by decide +kernel)) (by decide +kernel)).trans ?_
  refine (px_go (by decide +kernel : pm_fe 264 9 = some (.aload_n 0, 1)) rfl).trans ?_
  refine (ry_get0 (idx := 51) (ci := 12) (k := 13) (by decide +kernel : 234 < 283 ∧ SHF 234 = (12, 76)) (by decide +kernel)).trans ?_
  refine (ry_iald (by decide +kernel : 246 < 283 ∧ SHF 246 = (100, 2)) h1 h2 (by decide +kernel)).trans ?_
  refine (ry_ic_ge (off := 48) (tgt := 62) h3 h4 (by decide +kernel)).trans ?_
  exact Iff.rfl
theorem r264_17 {d : Nat} {X : Nat × (Nat → Int)} {v : Nat → Int} {M : PH} {K : PV → PS → Prop} {l1 l2 l3 : Int} (h1 : 0 ≤ ((16 * (M 234 13)) + l3)) (h2 : ((16 * (M 234 13)) + l3) < 32) (h3 : inR (M 247 ((16 * (M 234 13)) + l3).toNat)) (h4 : inR l1) : pm_Run d 264 17 [vA 234, vI l1, vI l2, vI l3] [] (GF X, M, PTF v) K ↔ if M 247 ((16 * (M 234 13)) + l3).toNat ≠ l1 then pm_Run d 264 53 [vA 234, vI l1, vI l2, vI l3] [vI l2] (GF X, M, PTF v) K else pm_Run d 264 36 [vA 234, vI l1, vI l2, vI l3] [vI l2] (GF X, M, PTF v) K := by
  refine (px_go (by decide +kernel : pm_fe 264 17 = some (.iload_n 2, 1)) rfl).trans ?_
  refine (px_go (by decide +kernel : pm_fe 264 18 = some (.aload_n 0, 1)) rfl).trans ?_
  refine (ry_get2 (idx := 87) (ci := 12) (k := 25) (by decide +kernel : 234 < 283 ∧ SHF 234 = (12, 76)) (ptf_l (a := 234) (k := 25) (n := 247) (by decide +kernel)) (by decide +kernel)).trans ?_
  refine (px_go (by decide +kernel : pm_fe 264 22 = some (.bipush 16, 2)) rfl).trans ?_
  refine (px_go (by decide +kernel : pm_fe 264 24 = some (.aload_n 0, 1)) rfl).trans ?_
  refine (ry_get0 (idx := 51) (ci := 12) (k := 13) (by decide +kernel : 234 < 283 ∧ SHF 234 = (12, 76)) (by decide +kernel)).trans ?_
  refine (px_go (by decide +kernel : pm_fe 264 28 = some (.imul, 1)) rfl).trans ?_
  refine (px_go (by decide +kernel : pm_fe 264 29 = some (.iload_n 3, 1)) rfl).trans ?_
  refine (px_go (by decide +kernel : pm_fe 264 30 = some (.iadd, 1)) rfl).trans ?_
  refine (ry_iald (by decide +kernel : 247 < 283 ∧ SHF 247 = (100, 32)) h1 h2 (by decide +kernel)).trans ?_
  refine (px_go (by decide +kernel : pm_fe 264 32 = some (.iload_n 1, 1)) rfl).trans ?_
  refine (ry_ic_ne (off := 20) (tgt := 53) h3 h4 (by decide +kernel)).trans ?_
  exact Iff.rfl
theorem r264_36 {d : Nat} {X : Nat × (Nat → Int)} {v : Nat → Int} {M : PH} {K : PV → PS → Prop} {l1 l2 l3 s0 : Int} (h1 : 0 ≤ ((16 * (M 234 13)) + l3)) (h2 : ((16 * (M 234 13)) + l3) < 32) : pm_Run d 264 36 [vA 234, vI l1, vI l2, vI l3] [vI s0] (GF X, M, PTF v) K ↔ pm_Run d 264 54 [vA 234, vI l1, vI l2, vI l3] [vI (M 249 ((16 * (M 234 13)) + l3).toNat), vI s0] (GF X, M, PTF v) K := by
  refine (px_go (by decide +kernel : pm_fe 264 36 = some (.aload_n 0, 1)) rfl).trans ?_
  refine (ry_get2 (idx := 93) (ci := 12) (k := 27) (by decide +kernel : 234 < 283 ∧ SHF 234 = (12, 76)) (ptf_l (a := 234) (k := 27) (n := 249) (by decide +kernel)) (by decide +kernel)).trans ?_
  refine (px_go (by decide +kernel : pm_fe 264 40 = some (.bipush 16, 2)) rfl).trans ?_
  refine (px_go (by decide +kernel : pm_fe 264 42 = some (.aload_n 0, 1)) rfl).trans ?_
  refine (ry_get0 (idx := 51) (ci := 12) (k := 13) (by decide +kernel : 234 < 283 ∧ SHF 234 = (12, 76)) (by decide +kernel)).trans ?_
  refine (px_go (by decide +kernel : pm_fe 264 46 = some (.imul, 1)) rfl).trans ?_
  refine (px_go (by decide +kernel : pm_fe 264 47 = some (.iload_n 3, 1)) rfl).trans ?_
  refine (px_go (by decide +kernel : pm_fe 264 48 = some (.iadd, 1)) rfl).trans ?_
  refine (ry_iald (by decide +kernel : 249 < 283 ∧ SHF 249 = (100, 32)) h1 h2 (by decide +kernel)).trans ?_
  refine (px_goto (off := 4) (tgt := 54) (by decide +kernel)).trans ?_
  exact Iff.rfl
theorem r264_53 {d : Nat} {X : Nat × (Nat → Int)} {v : Nat → Int} {M : PH} {K : PV → PS → Prop} {l1 l2 l3 s0 : Int} : pm_Run d 264 53 [vA 234, vI l1, vI l2, vI l3] [vI s0] (GF X, M, PTF v) K ↔ pm_Run d 264 54 [vA 234, vI l1, vI l2, vI l3] [vI 0, vI s0] (GF X, M, PTF v) K := by
  refine (px_go (by decide +kernel : pm_fe 264 53 = some (.iconst 0, 1)) rfl).trans ?_
  exact Iff.rfl
theorem r264_54 {d : Nat} {X : Nat × (Nat → Int)} {v : Nat → Int} {M : PH} {K : PV → PS → Prop} {l1 l2 l3 s0 s1 : Int} : pm_Run d 264 54 [vA 234, vI l1, vI l2, vI l3] [vI s0, vI s1] (GF X, M, PTF v) K ↔ pm_Run d 264 4 [vA 234, vI l1, vI (s1 + s0), vI (l3 + 1)] [] (GF X, M, PTF v) K := by
  refine (px_go (by decide +kernel : pm_fe 264 54 = some (.iadd, 1)) rfl).trans ?_
  refine (px_go (by decide +kernel : pm_fe 264 55 = some (.istore_n 2, 1)) rfl).trans ?_
  refine (px_go (by decide +kernel : pm_fe 264 56 = some (.iinc 3 1, 3)) rfl).trans ?_
  refine (px_goto (off := (-55)) (tgt := 4) (by decide +kernel)).trans ?_
  exact Iff.rfl
theorem r264_62 {d : Nat} {X : Nat × (Nat → Int)} {v : Nat → Int} {M : PH} {K : PV → PS → Prop} {l1 l2 l3 : Int} : pm_Run d 264 62 [vA 234, vI l1, vI l2, vI l3] [] (GF X, M, PTF v) K ↔ K (vI l2) (GF X, M, PTF v) := by
  refine (px_go (by decide +kernel : pm_fe 264 62 = some (.iload_n 2, 1)) rfl).trans ?_
  refine (px_ri (by decide +kernel)).trans ?_
  exact Iff.rfl
