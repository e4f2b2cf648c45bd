-- X12_reads reads(Z)V
theorem r206_0 {d : Nat} {X : Nat × (Nat → Int)} {v : Nat → Int} {M : PH} {K : PV → PS → Prop} {l1 : Int} (h1 : inR (M 234 8)) : pm_Run d 206 0 [vA 234, vI l1, PU] [] (GF X, M, PTF v) K ↔ if M 234 8 ≤ 0 then pm_Run d 206 8 [vA 234, vI l1, PU] [] (GF X, M, PTF v) K else pm_Run d 206 7 [vA 234, vI l1, PU] [] (GF X, M, PTF v) K := by
  refine (px_go (by decide +kernel : pm_fe 206 0 = some (.aload_n 0, 1)) rfl).trans ?_
  refine (ry_get0 (idx := 36) (ci := 12) (k := 8) (by decide +kernel : 234 < 283 ∧ SHF 234 = (12, 76)) (by decide +kernel)).trans ?_
  refine (ry_if_le (off := 4) (tgt := 8) h1 (by decide +kernel)).trans ?_
  exact Iff.rfl
theorem r206_7 {d : Nat} {X : Nat × (Nat → Int)} {v : Nat → Int} {M : PH} {K : PV → PS → Prop} {l1 : Int} : pm_Run d 206 7 [vA 234, vI l1, PU] [] (GF X, M, PTF v) K ↔ K PU (GF X, M, PTF v) := by
  refine (px_rv (by decide +kernel)).trans ?_
  exact Iff.rfl
theorem r206_8 {d : Nat} {X : Nat × (Nat → Int)} {v : Nat → Int} {M : PH} {K : PV → PS → Prop} {l1 : Int} : pm_Run d 206 8 [vA 234, vI l1, PU] [] (GF X, M, PTF v) K ↔ pm_Run d 206 13 [vA 234, vI l1, PU] [] (GF X, pm_sa M 234 (pm_up (M 234) 48 0), PTF v) K := by
  refine (px_go (by decide +kernel : pm_fe 206 8 = some (.aload_n 0, 1)) rfl).trans ?_
  refine (px_go (by decide +kernel : pm_fe 206 9 = some (.iconst 0, 1)) rfl).trans ?_
  refine (ry_put0 (idx := 158) (ci := 12) (k := 48) (by decide +kernel : 234 < 283 ∧ SHF 234 = (12, 76)) (by decide +kernel)).trans ?_
  exact Iff.rfl
theorem r206_13 {d : Nat} {X : Nat × (Nat → Int)} {v : Nat → Int} {M : PH} {K : PV → PS → Prop} {l1 : Int} : pm_Run d 206 13 [vA 234, vI l1, PU] [] (GF X, M, PTF v) K ↔ pm_Run d 206 18 [vA 234, vI l1, PU] [] (GF X, pm_sa M 234 (pm_up (M 234) 49 0), PTF v) K := by
  refine (px_go (by decide +kernel : pm_fe 206 13 = some (.aload_n 0, 1)) rfl).trans ?_
  refine (px_go (by decide +kernel : pm_fe 206 14 = some (.iconst 0, 1)) rfl).trans ?_
  refine (ry_put0 (idx := 161) (ci := 12) (k := 49) (by decide +kernel : 234 < 283 ∧ SHF 234 = (12, 76)) (by decide +kernel)).trans ?_
  exact Iff.rfl
theorem r206_18 {d : Nat} {X : Nat × (Nat → Int)} {v : Nat → Int} {M : PH} {K : PV → PS → Prop} {l1 : Int} : pm_Run d 206 18 [vA 234, vI l1, PU] [] (GF X, M, PTF v) K ↔ pm_Run d 206 23 [vA 234, vI l1, PU] [] (GF X, pm_sa M 234 (pm_up (M 234) 51 0), PTF v) K := by
  refine (px_go (by decide +kernel : pm_fe 206 18 = some (.aload_n 0, 1)) rfl).trans ?_
  refine (px_go (by decide +kernel : pm_fe 206 19 = some (.iconst 0, 1)) rfl).trans ?_
  refine (ry_put0 (idx := 167) (ci := 12) (k := 51) (by decide +kernel : 234 < 283 ∧ SHF 234 = (12, 76)) (by decide +kernel)).trans ?_
  exact Iff.rfl
theorem r206_23 {d : Nat} {X : Nat × (Nat → Int)} {v : Nat → Int} {M : PH} {K : PV → PS → Prop} {l1 : Int} : pm_Run d 206 23 [vA 234, vI l1, PU] [] (GF X, M, PTF v) K ↔ pm_Run d 206 28 [vA 234, vI l1, PU] [] (GF X, pm_sa M 234 (pm_up (M 234) 52 0), PTF v) K := by
  refine (px_go (by decide +kernel : pm_fe 206 23 = some (.aload_n 0, 1)) rfl).trans ?_
  refine (px_go (by decide +kernel : pm_fe 206 24 = some (.iconst 0, 1)) rfl).trans ?_
  refine (ry_put3 (idx := 170) (ci := 12) (k := 52) (by decide +kernel : 234 < 283 ∧ SHF 234 = (12, 76)) (by decide : (0 : Int) = (0 : Int) ∨ (0 : Int) = (1 : Int)) (by decide +kernel)).trans ?_
  exact Iff.rfl
theorem r206_28 {d : Nat} {X : Nat × (Nat → Int)} {v : Nat → Int} {M : PH} {K : PV → PS → Prop} {l1 : Int} (h1 : inR l1) : pm_Run d 206 28 [vA 234, vI l1, PU] [] (GF X, M, PTF v) K ↔ if l1 = 0 then pm_Run d 206 37 [vA 234, vI l1, PU] [vA 234] (GF X, M, PTF v) K else pm_Run d 206 33 [vA 234, vI l1, PU] [vA 234] (GF X, M, PTF v) K := by
  refine (px_go (by decide +kernel : pm_fe 206 28 = some (.aload_n 0, 1)) rfl).trans ?_
  refine (px_go (by decide +kernel : pm_fe 206 29 = some (.iload_n 1, 1)) rfl).trans ?_
  refine (ry_if_eq (off := 7) (tgt := 37) h1 (by decide +kernel)).trans ?_
  exact Iff.rfl
theorem r206_33 {d : Nat} {X : Nat × (Nat → Int)} {v : Nat → Int} {M : PH} {K : PV → PS → Prop} {l1 : Int} : pm_Run d 206 33 [vA 234, vI l1, PU] [vA 234] (GF X, M, PTF v) K ↔ pm_Run d 206 38 [vA 234, vI l1, PU] [vI 1, vA 234] (GF X, M, PTF v) K := by
  refine (px_go (by decide +kernel : pm_fe 206 33 = some (.iconst 1, 1)) rfl).trans ?_
  refine (px_goto (off := 4) (tgt := 38) (by decide +kernel)).trans ?_
  exact Iff.rfl
theorem r206_37 {d : Nat} {X : Nat × (Nat → Int)} {v : Nat → Int} {M : PH} {K : PV → PS → Prop} {l1 : Int} : pm_Run d 206 37 [vA 234, vI l1, PU] [vA 234] (GF X, M, PTF v) K ↔ pm_Run d 206 38 [vA 234, vI l1, PU] [vI 0, vA 234] (GF X, M, PTF v) K := by
  refine (px_go (by decide +kernel : pm_fe 206 37 = some (.iconst 0, 1)) rfl).trans ?_
  exact Iff.rfl
theorem r206_38 {d : Nat} {X : Nat × (Nat → Int)} {v : Nat → Int} {M : PH} {K : PV → PS → Prop} {l1 s0 : Int} : pm_Run d 206 38 [vA 234, vI l1, PU] [vI s0, vA 234] (GF X, M, PTF v) K ↔ pm_Call d 201 [vA 234, vI s0] (GF X, M, PTF v) (fun r9 S1 => pm_Run d 206 41 [vA 234, vI l1, PU] (pm_push r9 []) S1 K) := by
  refine (ry_v1 (idx := 350) (m' := 201) (ci := 12) (by decide +kernel : 234 < 283 ∧ SHF 234 = (12, 76)) (by simp [pm_wl_n, pm_wl_c, pm_w] : pm_wl [] ≤ 8) (by decide +kernel)).trans ?_
  exact Iff.rfl
theorem r206_41 {d : Nat} {X : Nat × (Nat → Int)} {v : Nat → Int} {M : PH} {K : PV → PS → Prop} {l1 : Int} : pm_Run d 206 41 [vA 234, vI l1, PU] [] (GF X, M, PTF v) K ↔ pm_Run d 206 43 [vA 234, vI l1, vI 1] [] (GF X, M, PTF v) K := by
  refine (px_go (by decide +kernel : pm_fe 206 41 = some (.iconst 1, 1)) rfl).trans ?_
  refine (px_go (by decide +kernel : pm_fe 206 42 = some (.istore_n 2, 1)) rfl).trans ?_
  exact Iff.rfl
theorem r206_43 {d : Nat} {X : Nat × (Nat → Int)} {v : Nat → Int} {M : PH} {K : PV → PS → Prop} {l1 l2 : Int} (h1 : inR l2) : pm_Run d 206 43 [vA 234, vI l1, vI l2] [] (GF X, M, PTF v) K ↔ if l2 = 0 then pm_Run d 206 90 [vA 234, vI l1, vI l2] [] (GF X, M, PTF v) K else pm_Run d 206 47 [vA 234, vI l1, vI l2] [] (GF X, M, PTF v) K := by
  refine (px_go (by decide +kernel : pm_fe 206 43 = some (.iload_n 2, 1)) rfl).trans ?_
  refine (ry_if_eq (off := 46) (tgt := 90) h1 (by decide +kernel)).trans ?_
  exact Iff.rfl
theorem r206_47 {d : Nat} {X : Nat × (Nat → Int)} {v : Nat → Int} {M : PH} {K : PV → PS → Prop} {l1 l2 : Int} (h1 : inR (M 234 52)) : pm_Run d 206 47 [vA 234, vI l1, vI l2] [] (GF X, M, PTF v) K ↔ if M 234 52 ≠ 0 then pm_Run d 206 65 [vA 234, vI l1, vI l2] [] (GF X, M, PTF v) K else pm_Run d 206 54 [vA 234, vI l1, vI l2] [] (GF X, M, PTF v) K := by
  refine (px_go (by decide +kernel : pm_fe 206 47 = some (.aload_n 0, 1)) rfl).trans ?_
  refine (ry_get0 (idx := 170) (ci := 12) (k := 52) (by decide +kernel : 234 < 283 ∧ SHF 234 = (12, 76)) (by decide +kernel)).trans ?_
  refine (ry_if_ne (off := 14) (tgt := 65) h1 (by decide +kernel)).trans ?_
  exact Iff.rfl
theorem r206_54 {d : Nat} {X : Nat × (Nat → Int)} {v : Nat → Int} {M : PH} {K : PV → PS → Prop} {l1 l2 : Int} : pm_Run d 206 54 [vA 234, vI l1, vI l2] [] (GF X, M, PTF v) K ↔ pm_Call d 204 [vA 234] (GF X, M, PTF v) (fun r9 S1 => pm_Run d 206 59 [vA 234, vI l1, vI l2] (pm_push r9 [vA 234]) S1 K) := by
  refine (px_go (by decide +kernel : pm_fe 206 54 = some (.aload_n 0, 1)) rfl).trans ?_
  refine (px_go (by decide +kernel : pm_fe 206 55 = some (.aload_n 0, 1)) rfl).trans ?_
  refine (ry_v0 (idx := 369) (m' := 204) (ci := 12) (by decide +kernel : 234 < 283 ∧ SHF 234 = (12, 76)) (by simp [pm_wl_n, pm_wl_c, pm_w] : pm_wl [vA 234] ≤ 8) (by decide +kernel)).trans ?_
  exact Iff.rfl
theorem r206_59 {d : Nat} {X : Nat × (Nat → Int)} {v : Nat → Int} {M : PH} {K : PV → PS → Prop} {l1 l2 s0 : Int} (h1 : s0 = 0 ∨ s0 = 1) : pm_Run d 206 59 [vA 234, vI l1, vI l2] [vI s0, vA 234] (GF X, M, PTF v) K ↔ pm_Run d 206 70 [vA 234, vI l1, vI l2] [] (GF X, pm_sa M 234 (pm_up (M 234) 52 s0), PTF v) K := by
  refine (ry_put3 (idx := 170) (ci := 12) (k := 52) (by decide +kernel : 234 < 283 ∧ SHF 234 = (12, 76)) h1 (by decide +kernel)).trans ?_
  refine (px_goto (off := 8) (tgt := 70) (by decide +kernel)).trans ?_
  exact Iff.rfl
theorem r206_65 {d : Nat} {X : Nat × (Nat → Int)} {v : Nat → Int} {M : PH} {K : PV → PS → Prop} {l1 l2 : Int} : pm_Run d 206 65 [vA 234, vI l1, vI l2] [] (GF X, M, PTF v) K ↔ pm_Call d 205 [vA 234] (GF X, M, PTF v) (fun r9 S1 => pm_Run d 206 69 [vA 234, vI l1, vI l2] (pm_push r9 []) S1 K) := by
  refine (px_go (by decide +kernel : pm_fe 206 65 = some (.aload_n 0, 1)) rfl).trans ?_
  refine (ry_v0 (idx := 372) (m' := 205) (ci := 12) (by decide +kernel : 234 < 283 ∧ SHF 234 = (12, 76)) (by simp [pm_wl_n, pm_wl_c, pm_w] : pm_wl [] ≤ 8) (by decide +kernel)).trans ?_
  exact Iff.rfl
theorem r206_69 {d : Nat} {X : Nat × (Nat → Int)} {v : Nat → Int} {M : PH} {K : PV → PS → Prop} {l1 l2 s0 : Int} : pm_Run d 206 69 [vA 234, vI l1, vI l2] [vI s0] (GF X, M, PTF v) K ↔ pm_Run d 206 70 [vA 234, vI l1, vI s0] [] (GF X, M, PTF v) K := by
  refine (px_go (by decide +kernel : pm_fe 206 69 = some (.istore_n 2, 1)) rfl).trans ?_
  exact Iff.rfl
theorem r206_70 {d : Nat} {X : Nat × (Nat → Int)} {v : Nat → Int} {M : PH} {K : PV → PS → Prop} {l1 l2 : Int} (h1 : inR l2) : pm_Run d 206 70 [vA 234, vI l1, vI l2] [] (GF X, M, PTF v) K ↔ if l2 = 0 then pm_Run d 206 85 [vA 234, vI l1, vI l2] [] (GF X, M, PTF v) K else pm_Run d 206 74 [vA 234, vI l1, vI l2] [] (GF X, M, PTF v) K := by
  refine (px_go (by decide +kernel : pm_fe 206 70 = some (.iload_n 2, 1)) rfl).trans ?_
  refine (ry_if_eq (off := 14) (tgt := 85) h1 (by decide +kernel)).trans ?_
  exact Iff.rfl
theorem r206_74 {d : Nat} {X : Nat × (Nat → Int)} {v : Nat → Int} {M : PH} {K : PV → PS → Prop} {l1 l2 : Int} (h1 : inR (M 234 8)) : pm_Run d 206 74 [vA 234, vI l1, vI l2] [] (GF X, M, PTF v) K ↔ if M 234 8 ≠ 0 then pm_Run d 206 85 [vA 234, vI l1, vI l2] [] (GF X, M, PTF v) K else pm_Run d 206 81 [vA 234, vI l1, vI l2] [] (GF X, M, PTF v) K := by
  refine (px_go (by decide +kernel : pm_fe 206 74 = some (.aload_n 0, 1)) rfl).trans ?_
  refine (ry_get0 (idx := 36) (ci := 12) (k := 8) (by decide +kernel : 234 < 283 ∧ SHF 234 = (12, 76)) (by decide +kernel)).trans ?_
  refine (ry_if_ne (off := 7) (tgt := 85) h1 (by decide +kernel)).trans ?_
  exact Iff.rfl
theorem r206_81 {d : Nat} {X : Nat × (Nat → Int)} {v : Nat → Int} {M : PH} {K : PV → PS → Prop} {l1 l2 : Int} : pm_Run d 206 81 [vA 234, vI l1, vI l2] [] (GF X, M, PTF v) K ↔ pm_Run d 206 86 [vA 234, vI l1, vI l2] [vI 1] (GF X, M, PTF v) K := by
  refine (px_go (by decide +kernel : pm_fe 206 81 = some (.iconst 1, 1)) rfl).trans ?_
  refine (px_goto (off := 4) (tgt := 86) (by decide +kernel)).trans ?_
  exact Iff.rfl
theorem r206_85 {d : Nat} {X : Nat × (Nat → Int)} {v : Nat → Int} {M : PH} {K : PV → PS → Prop} {l1 l2 : Int} : pm_Run d 206 85 [vA 234, vI l1, vI l2] [] (GF X, M, PTF v) K ↔ pm_Run d 206 86 [vA 234, vI l1, vI l2] [vI 0] (GF X, M, PTF v) K := by
  refine (px_go (by decide +kernel : pm_fe 206 85 = some (.iconst 0, 1)) rfl).trans ?_
  exact Iff.rfl
theorem r206_86 {d : Nat} {X : Nat × (Nat → Int)} {v : Nat → Int} {M : PH} {K : PV → PS → Prop} {l1 l2 s0 : Int} : pm_Run d 206 86 [vA 234, vI l1, vI l2] [vI s0] (GF X, M, PTF v) K ↔ pm_Run d 206 43 [vA 234, vI l1, vI s0] [] (GF X, M, PTF v) K := by
  refine (px_go (by decide +kernel : pm_fe 206 86 = some (.istore_n 2, 1)) rfl).trans ?_
  refine (px_goto (off := (-44)) (tgt := 43) (by decide +kernel)).trans ?_
  exact Iff.rfl
theorem r206_90 {d : Nat} {X : Nat × (Nat → Int)} {v : Nat → Int} {M : PH} {K : PV → PS → Prop} {l1 l2 : Int} : pm_Run d 206 90 [vA 234, vI l1, vI l2] [] (GF X, M, PTF v) K ↔ K PU (GF X, M, PTF v) := by
  refine (px_rv (by decide +kernel)).trans ?_
  exact Iff.rfl
-- X12_counts counts(Z)Z
theorem r207_0 {d : Nat} {X : Nat × (Nat → Int)} {v : Nat → Int} {M : PH} {K : PV → PS → Prop} {l1 : Int} (h1 : inR (M 234 8)) : pm_Run d 207 0 [vA 234, vI l1] [] (GF X, M, PTF v) K ↔ if M 234 8 ≠ 0 then pm_Run d 207 21 [vA 234, vI l1] [] (GF X, M, PTF v) K else pm_Run d 207 7 [vA 234, vI l1] [] (GF X, M, PTF v) K := by
  refine (px_go (by decide +kernel : pm_fe 207 0 = some (.aload_n 0, 1)) rfl).trans ?_
  refine (ry_get0 (idx := 36) (ci := 12) (k := 8) (by decide +kernel : 234 < 283 ∧ SHF 234 = (12, 76)) (by decide +kernel)).trans ?_
  refine (ry_if_ne (off := 17) (tgt := 21) h1 (by decide +kernel)).trans ?_
  exact Iff.rfl
theorem r207_7 {d : Nat} {X : Nat × (Nat → Int)} {v : Nat → Int} {M : PH} {K : PV → PS → Prop} {l1 : Int} (h1 : inR l1) : pm_Run d 207 7 [vA 234, vI l1] [] (GF X, M, PTF v) K ↔ if l1 = 0 then pm_Run d 207 21 [vA 234, vI l1] [] (GF X, M, PTF v) K else pm_Run d 207 11 [vA 234, vI l1] [] (GF X, M, PTF v) K := by
  refine (px_go (by decide +kernel : pm_fe 207 7 = some (.iload_n 1, 1)) rfl).trans ?_
  refine (ry_if_eq (off := 13) (tgt := 21) h1 (by decide +kernel)).trans ?_
  exact Iff.rfl
theorem r207_11 {d : Nat} {X : Nat × (Nat → Int)} {v : Nat → Int} {M : PH} {K : PV → PS → Prop} {l1 : Int} : pm_Run d 207 11 [vA 234, vI l1] [] (GF X, M, PTF v) K ↔ pm_Call d 183 [vA 234, vI 6, vI (M 234 4)] (GF X, M, PTF v) (fun r9 S1 => pm_Run d 207 21 [vA 234, vI l1] (pm_push r9 []) S1 K) := by
  refine (px_go (by decide +kernel : pm_fe 207 11 = some (.aload_n 0, 1)) rfl).trans ?_
  refine (px_go (by decide +kernel : pm_fe 207 12 = some (.bipush 6, 2)) rfl).trans ?_
  refine (px_go (by decide +kernel : pm_fe 207 14 = some (.aload_n 0, 1)) rfl).trans ?_
  refine (ry_get0 (idx := 23) (ci := 12) (k := 4) (by decide +kernel : 234 < 283 ∧ SHF 234 = (12, 76)) (by decide +kernel)).trans ?_
  refine (ry_v2 (idx := 251) (m' := 183) (ci := 12) (by decide +kernel : 234 < 283 ∧ SHF 234 = (12, 76)) (by simp [pm_wl_n, pm_wl_c, pm_w] : pm_wl [] ≤ 8) (by decide +kernel)).trans ?_
  exact Iff.rfl
theorem r207_21 {d : Nat} {X : Nat × (Nat → Int)} {v : Nat → Int} {M : PH} {K : PV → PS → Prop} {l1 : Int} (h1 : inR (M 234 8)) : pm_Run d 207 21 [vA 234, vI l1] [] (GF X, M, PTF v) K ↔ if M 234 8 ≠ 0 then pm_Run d 207 32 [vA 234, vI l1] [] (GF X, M, PTF v) K else pm_Run d 207 28 [vA 234, vI l1] [] (GF X, M, PTF v) K := by
  refine (px_go (by decide +kernel : pm_fe 207 21 = some (.aload_n 0, 1)) rfl).trans ?_
  refine (ry_get0 (idx := 36) (ci := 12) (k := 8) (by decide +kernel : 234 < 283 ∧ SHF 234 = (12, 76)) (by decide +kernel)).trans ?_
  refine (ry_if_ne (off := 7) (tgt := 32) h1 (by decide +kernel)).trans ?_
  exact Iff.rfl
theorem r207_28 {d : Nat} {X : Nat × (Nat → Int)} {v : Nat → Int} {M : PH} {K : PV → PS → Prop} {l1 : Int} : pm_Run d 207 28 [vA 234, vI l1] [] (GF X, M, PTF v) K ↔ pm_Call d 187 [vA 234] (GF X, M, PTF v) (fun r9 S1 => pm_Run d 207 32 [vA 234, vI l1] (pm_push r9 []) S1 K) := by
  refine (px_go (by decide +kernel : pm_fe 207 28 = some (.aload_n 0, 1)) rfl).trans ?_
  refine (ry_v0 (idx := 268) (m' := 187) (ci := 12) (by decide +kernel : 234 < 283 ∧ SHF 234 = (12, 76)) (by simp [pm_wl_n, pm_wl_c, pm_w] : pm_wl [] ≤ 8) (by decide +kernel)).trans ?_
  exact Iff.rfl
theorem r207_32 {d : Nat} {X : Nat × (Nat → Int)} {v : Nat → Int} {M : PH} {K : PV → PS → Prop} {l1 : Int} (h1 : inR (M 234 8)) : pm_Run d 207 32 [vA 234, vI l1] [] (GF X, M, PTF v) K ↔ if M 234 8 ≠ 0 then pm_Run d 207 43 [vA 234, vI l1] [] (GF X, M, PTF v) K else pm_Run d 207 39 [vA 234, vI l1] [] (GF X, M, PTF v) K := by
  refine (px_go (by decide +kernel : pm_fe 207 32 = some (.aload_n 0, 1)) rfl).trans ?_
  refine (ry_get0 (idx := 36) (ci := 12) (k := 8) (by decide +kernel : 234 < 283 ∧ SHF 234 = (12, 76)) (by decide +kernel)).trans ?_
  refine (ry_if_ne (off := 7) (tgt := 43) h1 (by decide +kernel)).trans ?_
  exact Iff.rfl
theorem r207_39 {d : Nat} {X : Nat × (Nat → Int)} {v : Nat → Int} {M : PH} {K : PV → PS → Prop} {l1 : Int} : pm_Run d 207 39 [vA 234, vI l1] [] (GF X, M, PTF v) K ↔ pm_Run d 207 44 [vA 234, vI l1] [vI 1] (GF X, M, PTF v) K := by
  refine (px_go (by decide +kernel : pm_fe 207 39 = some (.iconst 1, 1)) rfl).trans ?_
  refine (px_goto (off := 4) (tgt := 44) (by decide +kernel)).trans ?_
  exact Iff.rfl
theorem r207_43 {d : Nat} {X : Nat × (Nat → Int)} {v : Nat → Int} {M : PH} {K : PV → PS → Prop} {l1 : Int} : pm_Run d 207 43 [vA 234, vI l1] [] (GF X, M, PTF v) K ↔ pm_Run d 207 44 [vA 234, vI l1] [vI 0] (GF X, M, PTF v) K := by
  refine (px_go (by decide +kernel : pm_fe 207 43 = some (.iconst 0, 1)) rfl).trans ?_
  exact Iff.rfl
theorem r207_44 {d : Nat} {X : Nat × (Nat → Int)} {v : Nat → Int} {M : PH} {K : PV → PS → Prop} {l1 s0 : Int} (h1 : s0 = 0 ∨ s0 = 1) : pm_Run d 207 44 [vA 234, vI l1] [vI s0] (GF X, M, PTF v) K ↔ K (vI s0) (GF X, M, PTF v) := by
  refine (px_rz (by decide +kernel)).trans ((and_iff_right h1).trans ?_)
  exact Iff.rfl
-- X12_must_ must(J)V
theorem r208_0 {d : Nat} {X : Nat × (Nat → Int)} {v : Nat → Int} {M : PH} {K : PV → PS → Prop} {l1 : Int} : pm_Run d 208 0 [vA 234, vL l1, PU] [] (GF X, M, PTF v) K ↔ pm_Call d 186 [vA 234] (GF X, M, PTF v) (fun r9 S1 => pm_Run d 208 4 [vA 234, vL l1, PU] (pm_push r9 []) S1 K) := by
  refine (px_go (by decide +kernel : pm_fe 208 0 = some (.aload_n 0, 1)) rfl).trans ?_
  refine (ry_v0 (idx := 262) (m' := 186) (ci := 12) (by decide +kernel : 234 < 283 ∧ SHF 234 = (12, 76)) (by simp [pm_wl_n, pm_wl_c, pm_w] : pm_wl [] ≤ 8) (by decide +kernel)).trans ?_
  exact Iff.rfl
theorem r208_4 {d : Nat} {X : Nat × (Nat → Int)} {v : Nat → Int} {M : PH} {K : PV → PS → Prop} {l1 : Int} (h1 : inR (M 234 8)) : pm_Run d 208 4 [vA 234, vL l1, PU] [] (GF X, M, PTF v) K ↔ if M 234 8 ≤ 0 then pm_Run d 208 12 [vA 234, vL l1, PU] [] (GF X, M, PTF v) K else pm_Run d 208 11 [vA 234, vL l1, PU] [] (GF X, M, PTF v) K := by
  refine (px_go (by decide +kernel : pm_fe 208 4 = some (.aload_n 0, 1)) rfl).trans ?_
  refine (ry_get0 (idx := 36) (ci := 12) (k := 8) (by decide +kernel : 234 < 283 ∧ SHF 234 = (12, 76)) (by decide +kernel)).trans ?_
  refine (ry_if_le (off := 4) (tgt := 12) h1 (by decide +kernel)).trans ?_
  exact Iff.rfl
theorem r208_11 {d : Nat} {X : Nat × (Nat → Int)} {v : Nat → Int} {M : PH} {K : PV → PS → Prop} {l1 : Int} : pm_Run d 208 11 [vA 234, vL l1, PU] [] (GF X, M, PTF v) K ↔ K PU (GF X, M, PTF v) := by
  refine (px_rv (by decide +kernel)).trans ?_
  exact Iff.rfl
theorem r208_12 {d : Nat} {X : Nat × (Nat → Int)} {v : Nat → Int} {M : PH} {K : PV → PS → Prop} {l1 : Int} : pm_Run d 208 12 [vA 234, vL l1, PU] [] (GF X, M, PTF v) K ↔ pm_Call d 189 [vA 234, vL l1] (GF X, M, PTF v) (fun r9 S1 => pm_Run d 208 17 [vA 234, vL l1, PU] (pm_push r9 []) S1 K) := by
  refine (px_go (by decide +kernel : pm_fe 208 12 = some (.aload_n 0, 1)) rfl).trans ?_
  refine (px_go (by decide +kernel : pm_fe 208 13 = some (.lload_n 1, 1)) rfl).trans ?_
  refine (ry_v1 (idx := 356) (m' := 189) (ci := 12) (by decide +kernel : 234 < 283 ∧ SHF 234 = (12, 76)) (by simp [pm_wl_n, pm_wl_c, pm_w] : pm_wl [] ≤ 8) (by decide +kernel)).trans ?_
  exact Iff.rfl
theorem r208_17 {d : Nat} {X : Nat × (Nat → Int)} {v : Nat → Int} {M : PH} {K : PV → PS → Prop} {l1 s0 : Int} (h1 : inR s0) : pm_Run d 208 17 [vA 234, vL l1, PU] [vI s0] (GF X, M, PTF v) K ↔ if s0 ≠ 0 then pm_Run d 208 29 [vA 234, vL l1, PU] [] (GF X, M, PTF v) K else pm_Run d 208 20 [vA 234, vL l1, PU] [] (GF X, M, PTF v) K := by
  refine (ry_if_ne (off := 12) (tgt := 29) h1 (by decide +kernel)).trans ?_
  exact Iff.rfl
theorem r208_20 {d : Nat} {X : Nat × (Nat → Int)} {v : Nat → Int} {M : PH} {K : PV → PS → Prop} {l1 : Int} : pm_Run d 208 20 [vA 234, vL l1, PU] [] (GF X, M, PTF v) K ↔ pm_Call d 183 [vA 234, vI 1, vI (M 234 4)] (GF X, M, PTF v) (fun r9 S1 => pm_Run d 208 29 [vA 234, vL l1, PU] (pm_push r9 []) S1 K) := by
  refine (px_go (by decide +kernel : pm_fe 208 20 = some (.aload_n 0, 1)) rfl).trans ?_
  refine (px_go (by decide +kernel : pm_fe 208 21 = some (.iconst 1, 1)) rfl).trans ?_
  refine (px_go (by decide +kernel : pm_fe 208 22 = some (.aload_n 0, 1)) rfl).trans ?_
  refine (ry_get0 (idx := 23) (ci := 12) (k := 4) (by decide +kernel : 234 < 283 ∧ SHF 234 = (12, 76)) (by decide +kernel)).trans ?_
  refine (ry_v2 (idx := 251) (m' := 183) (ci := 12) (by decide +kernel : 234 < 283 ∧ SHF 234 = (12, 76)) (by simp [pm_wl_n, pm_wl_c, pm_w] : pm_wl [] ≤ 8) (by decide +kernel)).trans ?_
  exact Iff.rfl
theorem r208_29 {d : Nat} {X : Nat × (Nat → Int)} {v : Nat → Int} {M : PH} {K : PV → PS → Prop} {l1 : Int} (h1 : inR (M 234 8)) : pm_Run d 208 29 [vA 234, vL l1, PU] [] (GF X, M, PTF v) K ↔ if M 234 8 ≠ 0 then pm_Run d 208 40 [vA 234, vL l1, PU] [] (GF X, M, PTF v) K else pm_Run d 208 36 [vA 234, vL l1, PU] [] (GF X, M, PTF v) K := by
  refine (px_go (by decide +kernel : pm_fe 208 29 = some (.aload_n 0, 1)) rfl).trans ?_
  refine (ry_get0 (idx := 36) (ci := 12) (k := 8) (by decide +kernel : 234 < 283 ∧ SHF 234 = (12, 76)) (by decide +kernel)).trans ?_
  refine (ry_if_ne (off := 7) (tgt := 40) h1 (by decide +kernel)).trans ?_
  exact Iff.rfl
theorem r208_36 {d : Nat} {X : Nat × (Nat → Int)} {v : Nat → Int} {M : PH} {K : PV → PS → Prop} {l1 : Int} : pm_Run d 208 36 [vA 234, vL l1, PU] [] (GF X, M, PTF v) K ↔ pm_Call d 187 [vA 234] (GF X, M, PTF v) (fun r9 S1 => pm_Run d 208 40 [vA 234, vL l1, PU] (pm_push r9 []) S1 K) := by
  refine (px_go (by decide +kernel : pm_fe 208 36 = some (.aload_n 0, 1)) rfl).trans ?_
  refine (ry_v0 (idx := 268) (m' := 187) (ci := 12) (by decide +kernel : 234 < 283 ∧ SHF 234 = (12, 76)) (by simp [pm_wl_n, pm_wl_c, pm_w] : pm_wl [] ≤ 8) (by decide +kernel)).trans ?_
  exact Iff.rfl
theorem r208_40 {d : Nat} {X : Nat × (Nat → Int)} {v : Nat → Int} {M : PH} {K : PV → PS → Prop} {l1 : Int} : pm_Run d 208 40 [vA 234, vL l1, PU] [] (GF X, M, PTF v) K ↔ K PU (GF X, M, PTF v) := by
  refine (px_rv (by decide +kernel)).trans ?_
  exact Iff.rfl
-- X12_fresh fresh()J
theorem r209_0 {d : Nat} {X : Nat × (Nat → Int)} {v : Nat → Int} {M : PH} {K : PV → PS → Prop} : pm_Run d 209 0 [vA 234, PU, PU] [] (GF X, M, PTF v) K ↔ pm_Call d 186 [vA 234] (GF X, M, PTF v) (fun r9 S1 => pm_Run d 209 4 [vA 234, PU, PU] (pm_push r9 []) S1 K) := by
  refine (px_go (by decide +kernel : pm_fe 209 0 = some (.aload_n 0, 1)) rfl).trans ?_
  refine (ry_v0 (idx := 262) (m' := 186) (ci := 12) (by decide +kernel : 234 < 283 ∧ SHF 234 = (12, 76)) (by simp [pm_wl_n, pm_wl_c, pm_w] : pm_wl [] ≤ 8) (by decide +kernel)).trans ?_
  exact Iff.rfl
theorem r209_4 {d : Nat} {X : Nat × (Nat → Int)} {v : Nat → Int} {M : PH} {K : PV → PS → Prop} (h1 : inR (M 234 8)) : pm_Run d 209 4 [vA 234, PU, PU] [] (GF X, M, PTF v) K ↔ if M 234 8 ≤ 0 then pm_Run d 209 13 [vA 234, PU, PU] [] (GF X, M, PTF v) K else pm_Run d 209 11 [vA 234, PU, PU] [] (GF X, M, PTF v) K := by
  refine (px_go (by decide +kernel : pm_fe 209 4 = some (.aload_n 0, 1)) rfl).trans ?_
  refine (ry_get0 (idx := 36) (ci := 12) (k := 8) (by decide +kernel : 234 < 283 ∧ SHF 234 = (12, 76)) (by decide +kernel)).trans ?_
  refine (ry_if_le (off := 5) (tgt := 13) h1 (by decide +kernel)).trans ?_
  exact Iff.rfl
theorem r209_11 {d : Nat} {X : Nat × (Nat → Int)} {v : Nat → Int} {M : PH} {K : PV → PS → Prop} : pm_Run d 209 11 [vA 234, PU, PU] [] (GF X, M, PTF v) K ↔ K (vL 0) (GF X, M, PTF v) := by
  refine (px_go (by decide +kernel : pm_fe 209 11 = some (.lconst 0, 1)) rfl).trans ?_
  refine (px_rl (by decide +kernel)).trans ?_
  exact Iff.rfl
theorem r209_13 {d : Nat} {X : Nat × (Nat → Int)} {v : Nat → Int} {M : PH} {K : PV → PS → Prop} (h1 : inR (M 234 3)) : pm_Run d 209 13 [vA 234, PU, PU] [] (GF X, M, PTF v) K ↔ if M 234 3 ≠ 1 then pm_Run d 209 32 [vA 234, PU, PU] [] (GF X, M, PTF v) K else pm_Run d 209 21 [vA 234, PU, PU] [] (GF X, M, PTF v) K := by
  refine (px_go (by decide +kernel : pm_fe 209 13 = some (.aload_n 0, 1)) rfl).trans ?_
  refine (ry_get0 (idx := 20) (ci := 12) (k := 3) (by decide +kernel : 234 < 283 ∧ SHF 234 = (12, 76)) (by decide +kernel)).trans ?_
  refine (px_go (by decide +kernel : pm_fe 209 17 = some (.iconst 1, 1)) rfl).trans ?_
  refine (ry_ic_ne (off := 14) (tgt := 32) h1 (by decide : (-2147483648 ≤ (1 : Int) ∧ (1 : Int) < 2147483648)) (by decide +kernel)).trans ?_
  exact Iff.rfl
theorem r209_21 {d : Nat} {X : Nat × (Nat → Int)} {v : Nat → Int} {M : PH} {K : PV → PS → Prop} : pm_Run d 209 21 [vA 234, PU, PU] [] (GF X, M, PTF v) K ↔ pm_Call d 191 [vA 234, vL (M 234 7)] (GF X, M, PTF v) (fun r9 S1 => pm_Run d 209 29 [vA 234, PU, PU] (pm_push r9 []) S1 K) := by
  refine (px_go (by decide +kernel : pm_fe 209 21 = some (.aload_n 0, 1)) rfl).trans ?_
  refine (px_go (by decide +kernel : pm_fe 209 22 = some (.aload_n 0, 1)) rfl).trans ?_
  refine (ry_get1 (idx := 32) (ci := 12) (k := 7) (by decide +kernel : 234 < 283 ∧ SHF 234 = (12, 76)) (by decide +kernel)).trans ?_
  refine (ry_v1 (idx := 375) (m' := 191) (ci := 12) (by decide +kernel : 234 < 283 ∧ SHF 234 = (12, 76)) (by simp [pm_wl_n, pm_wl_c, pm_w] : pm_wl [] ≤ 8) (by decide +kernel)).trans ?_
  exact Iff.rfl
theorem r209_29 {d : Nat} {X : Nat × (Nat → Int)} {v : Nat → Int} {M : PH} {K : PV → PS → Prop} {s0 : Int} (h1 : inR s0) : pm_Run d 209 29 [vA 234, PU, PU] [vI s0] (GF X, M, PTF v) K ↔ if s0 = 0 then pm_Run d 209 41 [vA 234, PU, PU] [] (GF X, M, PTF v) K else pm_Run d 209 32 [vA 234, PU, PU] [] (GF X, M, PTF v) K := by
  refine (ry_if_eq (off := 12) (tgt := 41) h1 (by decide +kernel)).trans ?_
  exact Iff.rfl
theorem r209_32 {d : Nat} {X : Nat × (Nat → Int)} {v : Nat → Int} {M : PH} {K : PV → PS → Prop} : pm_Run d 209 32 [vA 234, PU, PU] [] (GF X, M, PTF v) K ↔ pm_Call d 183 [vA 234, vI 1, vI (M 234 4)] (GF X, M, PTF v) (fun r9 S1 => pm_Run d 209 41 [vA 234, PU, PU] (pm_push r9 []) S1 K) := by
  refine (px_go (by decide +kernel : pm_fe 209 32 = some (.aload_n 0, 1)) rfl).trans ?_
  refine (px_go (by decide +kernel : pm_fe 209 33 = some (.iconst 1, 1)) rfl).trans ?_
  refine (px_go (by decide +kernel : pm_fe 209 34 = some (.aload_n 0, 1)) rfl).trans ?_
  refine (ry_get0 (idx := 23) (ci := 12) (k := 4) (by decide +kernel : 234 < 283 ∧ SHF 234 = (12, 76)) (by decide +kernel)).trans ?_
  refine (ry_v2 (idx := 251) (m' := 183) (ci := 12) (by decide +kernel : 234 < 283 ∧ SHF 234 = (12, 76)) (by simp [pm_wl_n, pm_wl_c, pm_w] : pm_wl [] ≤ 8) (by decide +kernel)).trans ?_
  exact Iff.rfl
theorem r209_41 {d : Nat} {X : Nat × (Nat → Int)} {v : Nat → Int} {M : PH} {K : PV → PS → Prop} : pm_Run d 209 41 [vA 234, PU, PU] [] (GF X, M, PTF v) K ↔ pm_Run d 209 43 [vA 234, vI 0, PU] [] (GF X, M, PTF v) K := by
  refine (px_go (by decide +kernel : pm_fe 209 41 = some (.iconst 0, 1)) rfl).trans ?_
  refine (px_go (by decide +kernel : pm_fe 209 42 = some (.istore_n 1, 1)) rfl).trans ?_
  exact Iff.rfl
theorem r209_43 {d : Nat} {X : Nat × (Nat → Int)} {v : Nat → Int} {M : PH} {K : PV → PS → Prop} {l1 : Int} (h1 : inR l1) : pm_Run d 209 43 [vA 234, vI l1, PU] [] (GF X, M, PTF v) K ↔ if 1 < l1 then pm_Run d 209 83 [vA 234, vI l1, PU] [] (GF X, M, PTF v) K else pm_Run d 209 48 [vA 234, vI l1, PU] [] (GF X, M, PTF v) K := by
  refine (px_go (by decide +kernel : pm_fe 209 43 = some (.iload_n 1, 1)) rfl).trans ?_
  refine (px_go (by decide +kernel : pm_fe 209 44 = some (.iconst 1, 1)) rfl).trans ?_
  refine (ry_ic_gt (off := 38) (tgt := 83) h1 (by decide : (-2147483648 ≤ (1 : Int) ∧ (1 : Int) < 2147483648)) (by decide +kernel)).trans ?_
  exact Iff.rfl
theorem r209_48 {d : Nat} {X : Nat × (Nat → Int)} {v : Nat → Int} {M : PH} {K : PV → PS → Prop} {l1 : Int} (h1 : inR (M 234 8)) : pm_Run d 209 48 [vA 234, vI l1, PU] [] (GF X, M, PTF v) K ↔ if M 234 8 ≠ 0 then pm_Run d 209 83 [vA 234, vI l1, PU] [] (GF X, M, PTF v) K else pm_Run d 209 55 [vA 234, vI l1, PU] [] (GF X, M, PTF v) K := by
  refine (px_go (by decide +kernel : pm_fe 209 48 = some (.aload_n 0, 1)) rfl).trans ?_
  refine (ry_get0 (idx := 36) (ci := 12) (k := 8) (by decide +kernel : 234 < 283 ∧ SHF 234 = (12, 76)) (by decide +kernel)).trans ?_
  refine (ry_if_ne (off := 31) (tgt := 83) h1 (by decide +kernel)).trans ?_
  exact Iff.rfl
theorem r209_55 {d : Nat} {X : Nat × (Nat → Int)} {v : Nat → Int} {M : PH} {K : PV → PS → Prop} {l1 : Int} : pm_Run d 209 55 [vA 234, vI l1, PU] [] (GF X, M, PTF v) K ↔ pm_Call d 194 [vA 234, vI l1, vL (M 234 7)] (GF X, M, PTF v) (fun r9 S1 => pm_Run d 209 64 [vA 234, vI l1, PU] (pm_push r9 []) S1 K) := by
  refine (px_go (by decide +kernel : pm_fe 209 55 = some (.aload_n 0, 1)) rfl).trans ?_
  refine (px_go (by decide +kernel : pm_fe 209 56 = some (.iload_n 1, 1)) rfl).trans ?_
  refine (px_go (by decide +kernel : pm_fe 209 57 = some (.aload_n 0, 1)) rfl).trans ?_
  refine (ry_get1 (idx := 32) (ci := 12) (k := 7) (by decide +kernel : 234 < 283 ∧ SHF 234 = (12, 76)) (by decide +kernel)).trans ?_
  refine (ry_v2 (idx := 378) (m' := 194) (ci := 12) (by decide +kernel : 234 < 283 ∧ SHF 234 = (12, 76)) (by simp [pm_wl_n, pm_wl_c, pm_w] : pm_wl [] ≤ 8) (by decide +kernel)).trans ?_
  exact Iff.rfl
theorem r209_64 {d : Nat} {X : Nat × (Nat → Int)} {v : Nat → Int} {M : PH} {K : PV → PS → Prop} {l1 s0 : Int} (h1 : inR s0) : pm_Run d 209 64 [vA 234, vI l1, PU] [vI s0] (GF X, M, PTF v) K ↔ if s0 = (-1) then pm_Run d 209 77 [vA 234, vI l1, PU] [] (GF X, M, PTF v) K else pm_Run d 209 68 [vA 234, vI l1, PU] [] (GF X, M, PTF v) K := by
  refine (px_go (by decide +kernel : pm_fe 209 64 = some (.iconst (-1), 1)) rfl).trans ?_
  refine (ry_ic_eq (off := 12) (tgt := 77) h1 (by decide : (-2147483648 ≤ ((-1) : Int) ∧ ((-1) : Int) < 2147483648)) (by decide +kernel)).trans ?_
  exact Iff.rfl
theorem r209_68 {d : Nat} {X : Nat × (Nat → Int)} {v : Nat → Int} {M : PH} {K : PV → PS → Prop} {l1 : Int} : pm_Run d 209 68 [vA 234, vI l1, PU] [] (GF X, M, PTF v) K ↔ pm_Call d 183 [vA 234, vI 2, vI (M 234 4)] (GF X, M, PTF v) (fun r9 S1 => pm_Run d 209 77 [vA 234, vI l1, PU] (pm_push r9 []) S1 K) := by
  refine (px_go (by decide +kernel : pm_fe 209 68 = some (.aload_n 0, 1)) rfl).trans ?_
  refine (px_go (by decide +kernel : pm_fe 209 69 = some (.iconst 2, 1)) rfl).trans ?_
  refine (px_go (by decide +kernel : pm_fe 209 70 = some (.aload_n 0, 1)) rfl).trans ?_
  refine (ry_get0 (idx := 23) (ci := 12) (k := 4) (by decide +kernel : 234 < 283 ∧ SHF 234 = (12, 76)) (by decide +kernel)).trans ?_
  refine (ry_v2 (idx := 251) (m' := 183) (ci := 12) (by decide +kernel : 234 < 283 ∧ SHF 234 = (12, 76)) (by simp [pm_wl_n, pm_wl_c, pm_w] : pm_wl [] ≤ 8) (by decide +kernel)).trans ?_
  exact Iff.rfl
theorem r209_77 {d : Nat} {X : Nat × (Nat → Int)} {v : Nat → Int} {M : PH} {K : PV → PS → Prop} {l1 : Int} : pm_Run d 209 77 [vA 234, vI l1, PU] [] (GF X, M, PTF v) K ↔ pm_Run d 209 43 [vA 234, vI (l1 + 1), PU] [] (GF X, M, PTF v) K := by
  refine (px_go (by decide +kernel : pm_fe 209 77 = some (.iinc 1 1, 3)) rfl).trans ?_
  refine (px_goto (off := (-37)) (tgt := 43) (by decide +kernel)).trans ?_
  exact Iff.rfl
theorem r209_83 {d : Nat} {X : Nat × (Nat → Int)} {v : Nat → Int} {M : PH} {K : PV → PS → Prop} {l1 : Int} (h1 : inR (M 234 8)) : pm_Run d 209 83 [vA 234, vI l1, PU] [] (GF X, M, PTF v) K ↔ if M 234 8 ≠ 0 then pm_Run d 209 99 [vA 234, vL (M 234 7), PU] [] (GF X, M, PTF v) K else pm_Run d 209 95 [vA 234, vL (M 234 7), PU] [] (GF X, M, PTF v) K := by
  refine (px_go (by decide +kernel : pm_fe 209 83 = some (.aload_n 0, 1)) rfl).trans ?_
  refine (ry_get1 (idx := 32) (ci := 12) (k := 7) (by decide +kernel : 234 < 283 ∧ SHF 234 = (12, 76)) (by decide +kernel)).trans ?_
  refine (px_go (by decide +kernel : pm_fe 209 87 = some (.lstore_n 1, 1)) rfl).trans ?_
  refine (px_go (by decide +kernel : pm_fe 209 88 = some (.aload_n 0, 1)) rfl).trans ?_
  refine (ry_get0 (idx := 36) (ci := 12) (k := 8) (by decide +kernel : 234 < 283 ∧ SHF 234 = (12, 76)) (by decide +kernel)).trans ?_
  refine (ry_if_ne (off := 7) (tgt := 99) h1 (by decide +kernel)).trans ?_
  exact Iff.rfl
theorem r209_95 {d : Nat} {X : Nat × (Nat → Int)} {v : Nat → Int} {M : PH} {K : PV → PS → Prop} {l1 : Int} : pm_Run d 209 95 [vA 234, vL l1, PU] [] (GF X, M, PTF v) K ↔ pm_Call d 187 [vA 234] (GF X, M, PTF v) (fun r9 S1 => pm_Run d 209 99 [vA 234, vL l1, PU] (pm_push r9 []) S1 K) := by
  refine (px_go (by decide +kernel : pm_fe 209 95 = some (.aload_n 0, 1)) rfl).trans ?_
  refine (ry_v0 (idx := 268) (m' := 187) (ci := 12) (by decide +kernel : 234 < 283 ∧ SHF 234 = (12, 76)) (by simp [pm_wl_n, pm_wl_c, pm_w] : pm_wl [] ≤ 8) (by decide +kernel)).trans ?_
  exact Iff.rfl
theorem r209_99 {d : Nat} {X : Nat × (Nat → Int)} {v : Nat → Int} {M : PH} {K : PV → PS → Prop} {l1 : Int} : pm_Run d 209 99 [vA 234, vL l1, PU] [] (GF X, M, PTF v) K ↔ K (vL l1) (GF X, M, PTF v) := by
  refine (px_go (by decide +kernel : pm_fe 209 99 = some (.lload_n 1, 1)) rfl).trans ?_
  refine (px_rl (by decide +kernel)).trans ?_
  exact Iff.rfl
-- X12_looked looked(I)I
theorem r210_0 {d : Nat} {X : Nat × (Nat → Int)} {v : Nat → Int} {M : PH} {K : PV → PS → Prop} {l1 : Int} : pm_Run d 210 0 [vA 234, vI l1, PU] [] (GF X, M, PTF v) K ↔ pm_Call d 186 [vA 234] (GF X, M, PTF v) (fun r9 S1 => pm_Run d 210 4 [vA 234, vI l1, PU] (pm_push r9 []) S1 K) := by
  refine (px_go (by decide +kernel : pm_fe 210 0 = some (.aload_n 0, 1)) rfl).trans ?_
  refine (ry_v0 (idx := 262) (m' := 186) (ci := 12) (by decide +kernel : 234 < 283 ∧ SHF 234 = (12, 76)) (by simp [pm_wl_n, pm_wl_c, pm_w] : pm_wl [] ≤ 8) (by decide +kernel)).trans ?_
  exact Iff.rfl
theorem r210_4 {d : Nat} {X : Nat × (Nat → Int)} {v : Nat → Int} {M : PH} {K : PV → PS → Prop} {l1 : Int} (h1 : inR (M 234 8)) : pm_Run d 210 4 [vA 234, vI l1, PU] [] (GF X, M, PTF v) K ↔ if M 234 8 ≤ 0 then pm_Run d 210 13 [vA 234, vI l1, PU] [] (GF X, M, PTF v) K else pm_Run d 210 11 [vA 234, vI l1, PU] [] (GF X, M, PTF v) K := by
  refine (px_go (by decide +kernel : pm_fe 210 4 = some (.aload_n 0, 1)) rfl).trans ?_
  refine (ry_get0 (idx := 36) (ci := 12) (k := 8) (by decide +kernel : 234 < 283 ∧ SHF 234 = (12, 76)) (by decide +kernel)).trans ?_
  refine (ry_if_le (off := 5) (tgt := 13) h1 (by decide +kernel)).trans ?_
  exact Iff.rfl
theorem r210_11 {d : Nat} {X : Nat × (Nat → Int)} {v : Nat → Int} {M : PH} {K : PV → PS → Prop} {l1 : Int} : pm_Run d 210 11 [vA 234, vI l1, PU] [] (GF X, M, PTF v) K ↔ K (vI 0) (GF X, M, PTF v) := by
  refine (px_go (by decide +kernel : pm_fe 210 11 = some (.iconst 0, 1)) rfl).trans ?_
  refine (px_ri (by decide +kernel)).trans ?_
  exact Iff.rfl
theorem r210_13 {d : Nat} {X : Nat × (Nat → Int)} {v : Nat → Int} {M : PH} {K : PV → PS → Prop} {l1 : Int} (h1 : inR (M 234 3)) : pm_Run d 210 13 [vA 234, vI l1, PU] [] (GF X, M, PTF v) K ↔ if M 234 3 ≠ 1 then pm_Run d 210 32 [vA 234, vI l1, PU] [] (GF X, M, PTF v) K else pm_Run d 210 21 [vA 234, vI l1, PU] [] (GF X, M, PTF v) K := by
  refine (px_go (by decide +kernel : pm_fe 210 13 = some (.aload_n 0, 1)) rfl).trans ?_
  refine (ry_get0 (idx := 20) (ci := 12) (k := 3) (by decide +kernel : 234 < 283 ∧ SHF 234 = (12, 76)) (by decide +kernel)).trans ?_
  refine (px_go (by decide +kernel : pm_fe 210 17 = some (.iconst 1, 1)) rfl).trans ?_
  refine (ry_ic_ne (off := 14) (tgt := 32) h1 (by decide : (-2147483648 ≤ (1 : Int) ∧ (1 : Int) < 2147483648)) (by decide +kernel)).trans ?_
  exact Iff.rfl
theorem r210_21 {d : Nat} {X : Nat × (Nat → Int)} {v : Nat → Int} {M : PH} {K : PV → PS → Prop} {l1 : Int} : pm_Run d 210 21 [vA 234, vI l1, PU] [] (GF X, M, PTF v) K ↔ pm_Call d 191 [vA 234, vL (M 234 7)] (GF X, M, PTF v) (fun r9 S1 => pm_Run d 210 29 [vA 234, vI l1, PU] (pm_push r9 []) S1 K) := by
  refine (px_go (by decide +kernel : pm_fe 210 21 = some (.aload_n 0, 1)) rfl).trans ?_
  refine (px_go (by decide +kernel : pm_fe 210 22 = some (.aload_n 0, 1)) rfl).trans ?_
  refine (ry_get1 (idx := 32) (ci := 12) (k := 7) (by decide +kernel : 234 < 283 ∧ SHF 234 = (12, 76)) (by decide +kernel)).trans ?_
  refine (ry_v1 (idx := 375) (m' := 191) (ci := 12) (by decide +kernel : 234 < 283 ∧ SHF 234 = (12, 76)) (by simp [pm_wl_n, pm_wl_c, pm_w] : pm_wl [] ≤ 8) (by decide +kernel)).trans ?_
  exact Iff.rfl
theorem r210_29 {d : Nat} {X : Nat × (Nat → Int)} {v : Nat → Int} {M : PH} {K : PV → PS → Prop} {l1 s0 : Int} (h1 : inR s0) : pm_Run d 210 29 [vA 234, vI l1, PU] [vI s0] (GF X, M, PTF v) K ↔ if s0 = 0 then pm_Run d 210 41 [vA 234, vI l1, PU] [] (GF X, M, PTF v) K else pm_Run d 210 32 [vA 234, vI l1, PU] [] (GF X, M, PTF v) K := by
  refine (ry_if_eq (off := 12) (tgt := 41) h1 (by decide +kernel)).trans ?_
  exact Iff.rfl
theorem r210_32 {d : Nat} {X : Nat × (Nat → Int)} {v : Nat → Int} {M : PH} {K : PV → PS → Prop} {l1 : Int} : pm_Run d 210 32 [vA 234, vI l1, PU] [] (GF X, M, PTF v) K ↔ pm_Call d 183 [vA 234, vI 1, vI (M 234 4)] (GF X, M, PTF v) (fun r9 S1 => pm_Run d 210 41 [vA 234, vI l1, PU] (pm_push r9 []) S1 K) := by
  refine (px_go (by decide +kernel : pm_fe 210 32 = some (.aload_n 0, 1)) rfl).trans ?_
  refine (px_go (by decide +kernel : pm_fe 210 33 = some (.iconst 1, 1)) rfl).trans ?_
  refine (px_go (by decide +kernel : pm_fe 210 34 = some (.aload_n 0, 1)) rfl).trans ?_
  refine (ry_get0 (idx := 23) (ci := 12) (k := 4) (by decide +kernel : 234 < 283 ∧ SHF 234 = (12, 76)) (by decide +kernel)).trans ?_
  refine (ry_v2 (idx := 251) (m' := 183) (ci := 12) (by decide +kernel : 234 < 283 ∧ SHF 234 = (12, 76)) (by simp [pm_wl_n, pm_wl_c, pm_w] : pm_wl [] ≤ 8) (by decide +kernel)).trans ?_
  exact Iff.rfl
theorem r210_41 {d : Nat} {X : Nat × (Nat → Int)} {v : Nat → Int} {M : PH} {K : PV → PS → Prop} {l1 : Int} (h1 : inR (M 234 8)) : pm_Run d 210 41 [vA 234, vI l1, PU] [] (GF X, M, PTF v) K ↔ if M 234 8 ≤ 0 then pm_Run d 210 52 [vA 234, vI l1, PU] [] (GF X, M, PTF v) K else pm_Run d 210 48 [vA 234, vI l1, PU] [] (GF X, M, PTF v) K := by
  refine (px_go (by decide +kernel : pm_fe 210 41 = some (.aload_n 0, 1)) rfl).trans ?_
  refine (ry_get0 (idx := 36) (ci := 12) (k := 8) (by decide +kernel : 234 < 283 ∧ SHF 234 = (12, 76)) (by decide +kernel)).trans ?_
  refine (ry_if_le (off := 7) (tgt := 52) h1 (by decide +kernel)).trans ?_
  exact Iff.rfl
theorem r210_48 {d : Nat} {X : Nat × (Nat → Int)} {v : Nat → Int} {M : PH} {K : PV → PS → Prop} {l1 : Int} : pm_Run d 210 48 [vA 234, vI l1, PU] [] (GF X, M, PTF v) K ↔ pm_Run d 210 61 [vA 234, vI l1, PU] [vI 0] (GF X, M, PTF v) K := by
  refine (px_go (by decide +kernel : pm_fe 210 48 = some (.iconst 0, 1)) rfl).trans ?_
  refine (px_goto (off := 12) (tgt := 61) (by decide +kernel)).trans ?_
  exact Iff.rfl
theorem r210_52 {d : Nat} {X : Nat × (Nat → Int)} {v : Nat → Int} {M : PH} {K : PV → PS → Prop} {l1 : Int} : pm_Run d 210 52 [vA 234, vI l1, PU] [] (GF X, M, PTF v) K ↔ pm_Call d 194 [vA 234, vI l1, vL (M 234 7)] (GF X, M, PTF v) (fun r9 S1 => pm_Run d 210 61 [vA 234, vI l1, PU] (pm_push r9 []) S1 K) := by
  refine (px_go (by decide +kernel : pm_fe 210 52 = some (.aload_n 0, 1)) rfl).trans ?_
  refine (px_go (by decide +kernel : pm_fe 210 53 = some (.iload_n 1, 1)) rfl).trans ?_
  refine (px_go (by decide +kernel : pm_fe 210 54 = some (.aload_n 0, 1)) rfl).trans ?_
  refine (ry_get1 (idx := 32) (ci := 12) (k := 7) (by decide +kernel : 234 < 283 ∧ SHF 234 = (12, 76)) (by decide +kernel)).trans ?_
  refine (ry_v2 (idx := 378) (m' := 194) (ci := 12) (by decide +kernel : 234 < 283 ∧ SHF 234 = (12, 76)) (by simp [pm_wl_n, pm_wl_c, pm_w] : pm_wl [] ≤ 8) (by decide +kernel)).trans ?_
  exact Iff.rfl
theorem r210_61 {d : Nat} {X : Nat × (Nat → Int)} {v : Nat → Int} {M : PH} {K : PV → PS → Prop} {l1 s0 : Int} (h1 : inR (M 234 8)) : pm_Run d 210 61 [vA 234, vI l1, PU] [vI s0] (GF X, M, PTF v) K ↔ if M 234 8 ≠ 0 then pm_Run d 210 83 [vA 234, vI l1, vI s0] [] (GF X, M, PTF v) K else pm_Run d 210 69 [vA 234, vI l1, vI s0] [] (GF X, M, PTF v) K := by
  refine (px_go (by decide +kernel : pm_fe 210 61 = some (.istore_n 2, 1)) rfl).trans ?_
  refine (px_go (by decide +kernel : pm_fe 210 62 = some (.aload_n 0, 1)) rfl).trans ?_
  refine (ry_get0 (idx := 36) (ci := 12) (k := 8) (by decide +kernel : 234 < 283 ∧ SHF 234 = (12, 76)) (by decide +kernel)).trans ?_
  refine (ry_if_ne (off := 17) (tgt := 83) h1 (by decide +kernel)).trans ?_
  exact Iff.rfl
theorem r210_69 {d : Nat} {X : Nat × (Nat → Int)} {v : Nat → Int} {M : PH} {K : PV → PS → Prop} {l1 l2 : Int} (h1 : inR l2) : pm_Run d 210 69 [vA 234, vI l1, vI l2] [] (GF X, M, PTF v) K ↔ if l2 ≠ (-1) then pm_Run d 210 83 [vA 234, vI l1, vI l2] [] (GF X, M, PTF v) K else pm_Run d 210 74 [vA 234, vI l1, vI l2] [] (GF X, M, PTF v) K := by
  refine (px_go (by decide +kernel : pm_fe 210 69 = some (.iload_n 2, 1)) rfl).trans ?_
  refine (px_go (by decide +kernel : pm_fe 210 70 = some (.iconst (-1), 1)) rfl).trans ?_
  refine (ry_ic_ne (off := 12) (tgt := 83) h1 (by decide : (-2147483648 ≤ ((-1) : Int) ∧ ((-1) : Int) < 2147483648)) (by decide +kernel)).trans ?_
  exact Iff.rfl
theorem r210_74 {d : Nat} {X : Nat × (Nat → Int)} {v : Nat → Int} {M : PH} {K : PV → PS → Prop} {l1 l2 : Int} : pm_Run d 210 74 [vA 234, vI l1, vI l2] [] (GF X, M, PTF v) K ↔ pm_Call d 183 [vA 234, vI 3, vI (M 234 4)] (GF X, M, PTF v) (fun r9 S1 => pm_Run d 210 83 [vA 234, vI l1, vI l2] (pm_push r9 []) S1 K) := by
  refine (px_go (by decide +kernel : pm_fe 210 74 = some (.aload_n 0, 1)) rfl).trans ?_
  refine (px_go (by decide +kernel : pm_fe 210 75 = some (.iconst 3, 1)) rfl).trans ?_
  refine (px_go (by decide +kernel : pm_fe 210 76 = some (.aload_n 0, 1)) rfl).trans ?_
  refine (ry_get0 (idx := 23) (ci := 12) (k := 4) (by decide +kernel : 234 < 283 ∧ SHF 234 = (12, 76)) (by decide +kernel)).trans ?_
  refine (ry_v2 (idx := 251) (m' := 183) (ci := 12) (by decide +kernel : 234 < 283 ∧ SHF 234 = (12, 76)) (by simp [pm_wl_n, pm_wl_c, pm_w] : pm_wl [] ≤ 8) (by decide +kernel)).trans ?_
  exact Iff.rfl
theorem r210_83 {d : Nat} {X : Nat × (Nat → Int)} {v : Nat → Int} {M : PH} {K : PV → PS → Prop} {l1 l2 : Int} (h1 : inR (M 234 8)) : pm_Run d 210 83 [vA 234, vI l1, vI l2] [] (GF X, M, PTF v) K ↔ if M 234 8 ≤ 0 then pm_Run d 210 94 [vA 234, vI l1, vI l2] [] (GF X, M, PTF v) K else pm_Run d 210 90 [vA 234, vI l1, vI l2] [] (GF X, M, PTF v) K := by
  refine (px_go (by decide +kernel : pm_fe 210 83 = some (.aload_n 0, 1)) rfl).trans ?_
  refine (ry_get0 (idx := 36) (ci := 12) (k := 8) (by decide +kernel : 234 < 283 ∧ SHF 234 = (12, 76)) (by decide +kernel)).trans ?_
  refine (ry_if_le (off := 7) (tgt := 94) h1 (by decide +kernel)).trans ?_
  exact Iff.rfl
theorem r210_90 {d : Nat} {X : Nat × (Nat → Int)} {v : Nat → Int} {M : PH} {K : PV → PS → Prop} {l1 l2 : Int} : pm_Run d 210 90 [vA 234, vI l1, vI l2] [] (GF X, M, PTF v) K ↔ pm_Run d 210 95 [vA 234, vI l1, vI l2] [vI 0] (GF X, M, PTF v) K := by
  refine (px_go (by decide +kernel : pm_fe 210 90 = some (.iconst 0, 1)) rfl).trans ?_
  refine (px_goto (off := 4) (tgt := 95) (by decide +kernel)).trans ?_
  exact Iff.rfl
theorem r210_94 {d : Nat} {X : Nat × (Nat → Int)} {v : Nat → Int} {M : PH} {K : PV → PS → Prop} {l1 l2 : Int} : pm_Run d 210 94 [vA 234, vI l1, vI l2] [] (GF X, M, PTF v) K ↔ pm_Run d 210 95 [vA 234, vI l1, vI l2] [vI l2] (GF X, M, PTF v) K := by
  refine (px_go (by decide +kernel : pm_fe 210 94 = some (.iload_n 2, 1)) rfl).trans ?_
  exact Iff.rfl
theorem r210_95 {d : Nat} {X : Nat × (Nat → Int)} {v : Nat → Int} {M : PH} {K : PV → PS → Prop} {l1 l2 s0 : Int} : pm_Run d 210 95 [vA 234, vI l1, vI l2] [vI s0] (GF X, M, PTF v) K ↔ K (vI s0) (GF X, M, PTF v) := by
  refine (px_ri (by decide +kernel)).trans ?_
  exact Iff.rfl
-- X12_asked asked(I)I
theorem r211_0 {d : Nat} {X : Nat × (Nat → Int)} {v : Nat → Int} {M : PH} {K : PV → PS → Prop} {l1 : Int} : pm_Run d 211 0 [vA 234, vI l1, PU] [] (GF X, M, PTF v) K ↔ pm_Call d 210 [vA 234, vI l1] (GF X, M, PTF v) (fun r9 S1 => pm_Run d 211 5 [vA 234, vI l1, PU] (pm_push r9 []) S1 K) := by
  refine (px_go (by decide +kernel : pm_fe 211 0 = some (.aload_n 0, 1)) rfl).trans ?_
  refine (px_go (by decide +kernel : pm_fe 211 1 = some (.iload_n 1, 1)) rfl).trans ?_
  refine (ry_v1 (idx := 382) (m' := 210) (ci := 12) (by decide +kernel : 234 < 283 ∧ SHF 234 = (12, 76)) (by simp [pm_wl_n, pm_wl_c, pm_w] : pm_wl [] ≤ 8) (by decide +kernel)).trans ?_
  exact Iff.rfl
theorem r211_5 {d : Nat} {X : Nat × (Nat → Int)} {v : Nat → Int} {M : PH} {K : PV → PS → Prop} {l1 s0 : Int} (h1 : inR (M 234 8)) : pm_Run d 211 5 [vA 234, vI l1, PU] [vI s0] (GF X, M, PTF v) K ↔ if M 234 8 ≠ 0 then pm_Run d 211 17 [vA 234, vI l1, vI s0] [] (GF X, M, PTF v) K else pm_Run d 211 13 [vA 234, vI l1, vI s0] [] (GF X, M, PTF v) K := by
  refine (px_go (by decide +kernel : pm_fe 211 5 = some (.istore_n 2, 1)) rfl).trans ?_
  refine (px_go (by decide +kernel : pm_fe 211 6 = some (.aload_n 0, 1)) rfl).trans ?_
  refine (ry_get0 (idx := 36) (ci := 12) (k := 8) (by decide +kernel : 234 < 283 ∧ SHF 234 = (12, 76)) (by decide +kernel)).trans ?_
  refine (ry_if_ne (off := 7) (tgt := 17) h1 (by decide +kernel)).trans ?_
  exact Iff.rfl
theorem r211_13 {d : Nat} {X : Nat × (Nat → Int)} {v : Nat → Int} {M : PH} {K : PV → PS → Prop} {l1 l2 : Int} : pm_Run d 211 13 [vA 234, vI l1, vI l2] [] (GF X, M, PTF v) K ↔ pm_Call d 187 [vA 234] (GF X, M, PTF v) (fun r9 S1 => pm_Run d 211 17 [vA 234, vI l1, vI l2] (pm_push r9 []) S1 K) := by
  refine (px_go (by decide +kernel : pm_fe 211 13 = some (.aload_n 0, 1)) rfl).trans ?_
  refine (ry_v0 (idx := 268) (m' := 187) (ci := 12) (by decide +kernel : 234 < 283 ∧ SHF 234 = (12, 76)) (by simp [pm_wl_n, pm_wl_c, pm_w] : pm_wl [] ≤ 8) (by decide +kernel)).trans ?_
  exact Iff.rfl
theorem r211_17 {d : Nat} {X : Nat × (Nat → Int)} {v : Nat → Int} {M : PH} {K : PV → PS → Prop} {l1 l2 : Int} (h1 : inR (M 234 8)) : pm_Run d 211 17 [vA 234, vI l1, vI l2] [] (GF X, M, PTF v) K ↔ if M 234 8 ≤ 0 then pm_Run d 211 28 [vA 234, vI l1, vI l2] [] (GF X, M, PTF v) K else pm_Run d 211 24 [vA 234, vI l1, vI l2] [] (GF X, M, PTF v) K := by
  refine (px_go (by decide +kernel : pm_fe 211 17 = some (.aload_n 0, 1)) rfl).trans ?_
  refine (ry_get0 (idx := 36) (ci := 12) (k := 8) (by decide +kernel : 234 < 283 ∧ SHF 234 = (12, 76)) (by decide +kernel)).trans ?_
  refine (ry_if_le (off := 7) (tgt := 28) h1 (by decide +kernel)).trans ?_
  exact Iff.rfl
theorem r211_24 {d : Nat} {X : Nat × (Nat → Int)} {v : Nat → Int} {M : PH} {K : PV → PS → Prop} {l1 l2 : Int} : pm_Run d 211 24 [vA 234, vI l1, vI l2] [] (GF X, M, PTF v) K ↔ pm_Run d 211 29 [vA 234, vI l1, vI l2] [vI 0] (GF X, M, PTF v) K := by
  refine (px_go (by decide +kernel : pm_fe 211 24 = some (.iconst 0, 1)) rfl).trans ?_
  refine (px_goto (off := 4) (tgt := 29) (by decide +kernel)).trans ?_
  exact Iff.rfl
theorem r211_28 {d : Nat} {X : Nat × (Nat → Int)} {v : Nat → Int} {M : PH} {K : PV → PS → Prop} {l1 l2 : Int} : pm_Run d 211 28 [vA 234, vI l1, vI l2] [] (GF X, M, PTF v) K ↔ pm_Run d 211 29 [vA 234, vI l1, vI l2] [vI l2] (GF X, M, PTF v) K := by
  refine (px_go (by decide +kernel : pm_fe 211 28 = some (.iload_n 2, 1)) rfl).trans ?_
  exact Iff.rfl
theorem r211_29 {d : Nat} {X : Nat × (Nat → Int)} {v : Nat → Int} {M : PH} {K : PV → PS → Prop} {l1 l2 s0 : Int} : pm_Run d 211 29 [vA 234, vI l1, vI l2] [vI s0] (GF X, M, PTF v) K ↔ K (vI s0) (GF X, M, PTF v) := by
  refine (px_ri (by decide +kernel)).trans ?_
  exact Iff.rfl
-- X12_mooning mooning()V
theorem r212_0 {d : Nat} {X : Nat × (Nat → Int)} {v : Nat → Int} {M : PH} {K : PV → PS → Prop} (h1 : 0 ≤ (M 234 42)) (h2 : (M 234 42) < 2) (h3 : inR (M 237 (M 234 42).toNat)) : pm_Run d 212 0 [vA 234, PU] [] (GF X, M, PTF v) K ↔ if M 237 (M 234 42).toNat ≠ 3 then pm_Run d 212 18 [vA 234, PU] [vA 234] (GF X, M, PTF v) K else pm_Run d 212 14 [vA 234, PU] [vA 234] (GF X, M, PTF v) K := by
  refine (px_go (by decide +kernel : pm_fe 212 0 = some (.aload_n 0, 1)) rfl).trans ?_
  refine (px_go (by decide +kernel : pm_fe 212 1 = some (.aload_n 0, 1)) rfl).trans ?_
  refine (ry_get2 (idx := 57) (ci := 12) (k := 15) (by decide +kernel : 234 < 283 ∧ SHF 234 = (12, 76)) (ptf_l (a := 234) (k := 15) (n := 237) (by decide +kernel)) (by decide +kernel)).trans ?_
  refine (px_go (by decide +kernel : pm_fe 212 5 = some (.aload_n 0, 1)) rfl).trans ?_
  refine (ry_get0 (idx := 139) (ci := 12) (k := 42) (by decide +kernel : 234 < 283 ∧ SHF 234 = (12, 76)) (by decide +kernel)).trans ?_
  refine (ry_iald (by decide +kernel : 237 < 283 ∧ SHF 237 = (100, 2)) h1 h2 (by decide +kernel)).trans ?_
  refine (px_go (by decide +kernel : pm_fe 212 10 = some (.iconst 3, 1)) rfl).trans ?_
  refine (ry_ic_ne (off := 7) (tgt := 18) h3 (by decide : (-2147483648 ≤ (3 : Int) ∧ (3 : Int) < 2147483648)) (by decide +kernel)).trans ?_
  exact Iff.rfl
theorem r212_14 {d : Nat} {X : Nat × (Nat → Int)} {v : Nat → Int} {M : PH} {K : PV → PS → Prop} : pm_Run d 212 14 [vA 234, PU] [vA 234] (GF X, M, PTF v) K ↔ pm_Run d 212 19 [vA 234, PU] [vI 1, vA 234] (GF X, M, PTF v) K := by
  refine (px_go (by decide +kernel : pm_fe 212 14 = some (.iconst 1, 1)) rfl).trans ?_
  refine (px_goto (off := 4) (tgt := 19) (by decide +kernel)).trans ?_
  exact Iff.rfl
theorem r212_18 {d : Nat} {X : Nat × (Nat → Int)} {v : Nat → Int} {M : PH} {K : PV → PS → Prop} : pm_Run d 212 18 [vA 234, PU] [vA 234] (GF X, M, PTF v) K ↔ pm_Run d 212 19 [vA 234, PU] [vI 0, vA 234] (GF X, M, PTF v) K := by
  refine (px_go (by decide +kernel : pm_fe 212 18 = some (.iconst 0, 1)) rfl).trans ?_
  exact Iff.rfl
theorem r212_19 {d : Nat} {X : Nat × (Nat → Int)} {v : Nat → Int} {M : PH} {K : PV → PS → Prop} {s0 : Int} : pm_Run d 212 19 [vA 234, PU] [vI s0, vA 234] (GF X, M, PTF v) K ↔ pm_Call d 207 [vA 234, vI s0] (GF X, M, PTF v) (fun r9 S1 => pm_Run d 212 22 [vA 234, PU] (pm_push r9 []) S1 K) := by
  refine (ry_v1 (idx := 385) (m' := 207) (ci := 12) (by decide +kernel : 234 < 283 ∧ SHF 234 = (12, 76)) (by simp [pm_wl_n, pm_wl_c, pm_w] : pm_wl [] ≤ 8) (by decide +kernel)).trans ?_
  exact Iff.rfl
theorem r212_22 {d : Nat} {X : Nat × (Nat → Int)} {v : Nat → Int} {M : PH} {K : PV → PS → Prop} {s0 : Int} (h1 : inR s0) : pm_Run d 212 22 [vA 234, PU] [vI s0] (GF X, M, PTF v) K ↔ if s0 ≠ 0 then pm_Run d 212 26 [vA 234, PU] [] (GF X, M, PTF v) K else pm_Run d 212 25 [vA 234, PU] [] (GF X, M, PTF v) K := by
  refine (ry_if_ne (off := 4) (tgt := 26) h1 (by decide +kernel)).trans ?_
  exact Iff.rfl
theorem r212_25 {d : Nat} {X : Nat × (Nat → Int)} {v : Nat → Int} {M : PH} {K : PV → PS → Prop} : pm_Run d 212 25 [vA 234, PU] [] (GF X, M, PTF v) K ↔ K PU (GF X, M, PTF v) := by
  refine (px_rv (by decide +kernel)).trans ?_
  exact Iff.rfl
theorem r212_26 {d : Nat} {X : Nat × (Nat → Int)} {v : Nat → Int} {M : PH} {K : PV → PS → Prop} (h1 : 0 ≤ (M 234 42)) (h2 : (M 234 42) < 2) : pm_Run d 212 26 [vA 234, PU] [] (GF X, M, PTF v) K ↔ pm_Call d 209 [vA 234] (GF X, M, PTF v) (fun r9 S1 => pm_Run d 212 52 [vA 234, vI ((3 * (M 234 42)) + (M 237 (M 234 42).toNat))] (pm_push r9 [vI ((3 * (M 234 42)) + (M 237 (M 234 42).toNat)), vA 261]) S1 K) := by
  refine (px_go (by decide +kernel : pm_fe 212 26 = some (.iconst 3, 1)) rfl).trans ?_
  refine (px_go (by decide +kernel : pm_fe 212 27 = some (.aload_n 0, 1)) rfl).trans ?_
  refine (ry_get0 (idx := 139) (ci := 12) (k := 42) (by decide +kernel : 234 < 283 ∧ SHF 234 = (12, 76)) (by decide +kernel)).trans ?_
  refine (px_go (by decide +kernel : pm_fe 212 31 = some (.imul, 1)) rfl).trans ?_
  refine (px_go (by decide +kernel : pm_fe 212 32 = some (.aload_n 0, 1)) rfl).trans ?_
  refine (ry_get2 (idx := 57) (ci := 12) (k := 15) (by decide +kernel : 234 < 283 ∧ SHF 234 = (12, 76)) (ptf_l (a := 234) (k := 15) (n := 237) (by decide +kernel)) (by decide +kernel)).trans ?_
  refine (px_go (by decide +kernel : pm_fe 212 36 = some (.aload_n 0, 1)) rfl).trans ?_
  refine (ry_get0 (idx := 139) (ci := 12) (k := 42) (by decide +kernel : 234 < 283 ∧ SHF 234 = (12, 76)) (by decide +kernel)).trans ?_
  refine (ry_iald (by decide +kernel : 237 < 283 ∧ SHF 237 = (100, 2)) h1 h2 (by decide +kernel)).trans ?_
  refine (px_go (by decide +kernel : pm_fe 212 41 = some (.iadd, 1)) rfl).trans ?_
  refine (px_go (by decide +kernel : pm_fe 212 42 = some (.istore_n 1, 1)) rfl).trans ?_
  refine (px_go (by decide +kernel : pm_fe 212 43 = some (.aload_n 0, 1)) rfl).trans ?_
  refine (ry_get2 (idx := 129) (ci := 12) (k := 39) (by decide +kernel : 234 < 283 ∧ SHF 234 = (12, 76)) (ptf_l (a := 234) (k := 39) (n := 261) (by decide +kernel)) (by decide +kernel)).trans ?_
  refine (px_go (by decide +kernel : pm_fe 212 47 = some (.iload_n 1, 1)) rfl).trans ?_
  refine (px_go (by decide +kernel : pm_fe 212 48 = some (.aload_n 0, 1)) rfl).trans ?_
  refine (ry_v0 (idx := 389) (m' := 209) (ci := 12) (by decide +kernel : 234 < 283 ∧ SHF 234 = (12, 76)) (by simp [pm_wl_n, pm_wl_c, pm_w] : pm_wl [vI ((3 * (M 234 42)) + (M 237 (M 234 42).toNat)), vA 261] ≤ 8) (by decide +kernel)).trans ?_
  exact Iff.rfl
theorem r212_52 {d : Nat} {X : Nat × (Nat → Int)} {v : Nat → Int} {M : PH} {K : PV → PS → Prop} {l1 s0 s1 : Int} (h1 : 0 ≤ s1) (h2 : s1 < 6) : pm_Run d 212 52 [vA 234, vI l1] [vL s0, vI s1, vA 261] (GF X, M, PTF v) K ↔ pm_Run d 212 53 [vA 234, vI l1] [] (GF X, pm_sa M 261 (pm_up (M 261) s1.toNat s0), PTF v) K := by
  refine (ry_last (by decide +kernel : 261 < 283 ∧ SHF 261 = (103, 6)) h1 h2 (by decide +kernel)).trans ?_
  exact Iff.rfl
theorem r212_53 {d : Nat} {X : Nat × (Nat → Int)} {v : Nat → Int} {M : PH} {K : PV → PS → Prop} {l1 : Int} : pm_Run d 212 53 [vA 234, vI l1] [] (GF X, M, PTF v) K ↔ pm_Call d 208 [vA 234, vL 24948] (GF X, M, PTF v) (fun r9 S1 => pm_Run d 212 60 [vA 234, vI l1] (pm_push r9 []) S1 K) := by
  refine (px_go (by decide +kernel : pm_fe 212 53 = some (.aload_n 0, 1)) rfl).trans ?_
  refine (px_ldcL (idx := 275) (x := 24948) (by decide +kernel)).trans ?_
  refine (ry_v1 (idx := 393) (m' := 208) (ci := 12) (by decide +kernel : 234 < 283 ∧ SHF 234 = (12, 76)) (by simp [pm_wl_n, pm_wl_c, pm_w] : pm_wl [] ≤ 8) (by decide +kernel)).trans ?_
  exact Iff.rfl
theorem r212_60 {d : Nat} {X : Nat × (Nat → Int)} {v : Nat → Int} {M : PH} {K : PV → PS → Prop} {l1 : Int} (h1 : 0 ≤ (M 234 42)) (h2 : (M 234 42) < 2) : pm_Run d 212 60 [vA 234, vI l1] [] (GF X, M, PTF v) K ↔ pm_Call d 196 [vA 234, vI 0, vI ((M 236 (M 234 42).toNat) - 1)] (GF X, M, PTF v) (fun r9 S1 => pm_Run d 212 81 [vA 234, vI l1] (pm_push r9 [vI l1, vA 238]) S1 K) := by
  refine (px_go (by decide +kernel : pm_fe 212 60 = some (.aload_n 0, 1)) rfl).trans ?_
  refine (ry_get2 (idx := 60) (ci := 12) (k := 16) (by decide +kernel : 234 < 283 ∧ SHF 234 = (12, 76)) (ptf_l (a := 234) (k := 16) (n := 238) (by decide +kernel)) (by decide +kernel)).trans ?_
  refine (px_go (by decide +kernel : pm_fe 212 64 = some (.iload_n 1, 1)) rfl).trans ?_
  refine (px_go (by decide +kernel : pm_fe 212 65 = some (.aload_n 0, 1)) rfl).trans ?_
  refine (px_go (by decide +kernel : pm_fe 212 66 = some (.iconst 0, 1)) rfl).trans ?_
  refine (px_go (by decide +kernel : pm_fe 212 67 = some (.aload_n 0, 1)) rfl).trans ?_
  refine (ry_get2 (idx := 54) (ci := 12) (k := 14) (by decide +kernel : 234 < 283 ∧ SHF 234 = (12, 76)) (ptf_l (a := 234) (k := 14) (n := 236) (by decide +kernel)) (by decide +kernel)).trans ?_
  refine (px_go (by decide +kernel : pm_fe 212 71 = some (.aload_n 0, 1)) rfl).trans ?_
  refine (ry_get0 (idx := 139) (ci := 12) (k := 42) (by decide +kernel : 234 < 283 ∧ SHF 234 = (12, 76)) (by decide +kernel)).trans ?_
  refine (ry_iald (by decide +kernel : 236 < 283 ∧ SHF 236 = (100, 2)) h1 h2 (by decide +kernel)).trans ?_
  refine (px_go (by decide +kernel : pm_fe 212 76 = some (.iconst 1, 1)) rfl).trans ?_
  refine (px_go (by decide +kernel : pm_fe 212 77 = some (.isub, 1)) rfl).trans ?_
  refine (ry_v2 (idx := 397) (m' := 196) (ci := 12) (by decide +kernel : 234 < 283 ∧ SHF 234 = (12, 76)) (by simp [pm_wl_n, pm_wl_c, pm_w] : pm_wl [vI l1, vA 238] ≤ 8) (by decide +kernel)).trans ?_
  exact Iff.rfl
theorem r212_81 {d : Nat} {X : Nat × (Nat → Int)} {v : Nat → Int} {M : PH} {K : PV → PS → Prop} {l1 s0 s1 : Int} (h1 : 0 ≤ s1) (h2 : s1 < 6) : pm_Run d 212 81 [vA 234, vI l1] [vI s0, vI s1, vA 238] (GF X, M, PTF v) K ↔ pm_Run d 212 82 [vA 234, vI l1] [] (GF X, pm_sa M 238 (pm_up (M 238) s1.toNat s0), PTF v) K := by
  refine (ry_iast (by decide +kernel : 238 < 283 ∧ SHF 238 = (100, 6)) h1 h2 (by decide +kernel)).trans ?_
  exact Iff.rfl
theorem r212_82 {d : Nat} {X : Nat × (Nat → Int)} {v : Nat → Int} {M : PH} {K : PV → PS → Prop} {l1 : Int} : pm_Run d 212 82 [vA 234, vI l1] [] (GF X, M, PTF v) K ↔ pm_Call d 208 [vA 234, vL 1735353715] (GF X, M, PTF v) (fun r9 S1 => pm_Run d 212 89 [vA 234, vI l1] (pm_push r9 []) S1 K) := by
  refine (px_go (by decide +kernel : pm_fe 212 82 = some (.aload_n 0, 1)) rfl).trans ?_
  refine (px_ldcL (idx := 277) (x := 1735353715) (by decide +kernel)).trans ?_
  refine (ry_v1 (idx := 393) (m' := 208) (ci := 12) (by decide +kernel : 234 < 283 ∧ SHF 234 = (12, 76)) (by simp [pm_wl_n, pm_wl_c, pm_w] : pm_wl [] ≤ 8) (by decide +kernel)).trans ?_
  exact Iff.rfl
theorem r212_89 {d : Nat} {X : Nat × (Nat → Int)} {v : Nat → Int} {M : PH} {K : PV → PS → Prop} {l1 : Int} : pm_Run d 212 89 [vA 234, vI l1] [] (GF X, M, PTF v) K ↔ pm_Call d 196 [vA 234, vI 0, vI 23] (GF X, M, PTF v) (fun r9 S1 => pm_Run d 212 101 [vA 234, vI l1] (pm_push r9 [vI l1, vA 239]) S1 K) := by
  refine (px_go (by decide +kernel : pm_fe 212 89 = some (.aload_n 0, 1)) rfl).trans ?_
  refine (ry_get2 (idx := 63) (ci := 12) (k := 17) (by decide +kernel : 234 < 283 ∧ SHF 234 = (12, 76)) (ptf_l (a := 234) (k := 17) (n := 239) (by decide +kernel)) (by decide +kernel)).trans ?_
  refine (px_go (by decide +kernel : pm_fe 212 93 = some (.iload_n 1, 1)) rfl).trans ?_
  refine (px_go (by decide +kernel : pm_fe 212 94 = some (.aload_n 0, 1)) rfl).trans ?_
  refine (px_go (by decide +kernel : pm_fe 212 95 = some (.iconst 0, 1)) rfl).trans ?_
  refine (px_go (by decide +kernel : pm_fe 212 96 = some (.bipush 23, 2)) rfl).trans ?_
  refine (ry_v2 (idx := 397) (m' := 196) (ci := 12) (by decide +kernel : 234 < 283 ∧ SHF 234 = (12, 76)) (by simp [pm_wl_n, pm_wl_c, pm_w] : pm_wl [vI l1, vA 239] ≤ 8) (by decide +kernel)).trans ?_
  exact Iff.rfl
theorem r212_101 {d : Nat} {X : Nat × (Nat → Int)} {v : Nat → Int} {M : PH} {K : PV → PS → Prop} {l1 s0 s1 : Int} (h1 : 0 ≤ s1) (h2 : s1 < 6) : pm_Run d 212 101 [vA 234, vI l1] [vI s0, vI s1, vA 239] (GF X, M, PTF v) K ↔ pm_Run d 212 102 [vA 234, vI l1] [] (GF X, pm_sa M 239 (pm_up (M 239) s1.toNat s0), PTF v) K := by
  refine (ry_iast (by decide +kernel : 239 < 283 ∧ SHF 239 = (100, 6)) h1 h2 (by decide +kernel)).trans ?_
  exact Iff.rfl
theorem r212_102 {d : Nat} {X : Nat × (Nat → Int)} {v : Nat → Int} {M : PH} {K : PV → PS → Prop} {l1 : Int} : pm_Run d 212 102 [vA 234, vI l1] [] (GF X, M, PTF v) K ↔ pm_Call d 208 [vA 234, vL 127978976601458] (GF X, M, PTF v) (fun r9 S1 => pm_Run d 212 109 [vA 234, vI l1] (pm_push r9 []) S1 K) := by
  refine (px_go (by decide +kernel : pm_fe 212 102 = some (.aload_n 0, 1)) rfl).trans ?_
  refine (px_ldcL (idx := 279) (x := 127978976601458) (by decide +kernel)).trans ?_
  refine (ry_v1 (idx := 393) (m' := 208) (ci := 12) (by decide +kernel : 234 < 283 ∧ SHF 234 = (12, 76)) (by simp [pm_wl_n, pm_wl_c, pm_w] : pm_wl [] ≤ 8) (by decide +kernel)).trans ?_
  exact Iff.rfl
theorem r212_109 {d : Nat} {X : Nat × (Nat → Int)} {v : Nat → Int} {M : PH} {K : PV → PS → Prop} {l1 : Int} : pm_Run d 212 109 [vA 234, vI l1] [] (GF X, M, PTF v) K ↔ pm_Call d 196 [vA 234, vI 0, vI 9] (GF X, M, PTF v) (fun r9 S1 => pm_Run d 212 121 [vA 234, vI l1] (pm_push r9 [vI l1, vA 240]) S1 K) := by
  refine (px_go (by decide +kernel : pm_fe 212 109 = some (.aload_n 0, 1)) rfl).trans ?_
  refine (ry_get2 (idx := 66) (ci := 12) (k := 18) (by decide +kernel : 234 < 283 ∧ SHF 234 = (12, 76)) (ptf_l (a := 234) (k := 18) (n := 240) (by decide +kernel)) (by decide +kernel)).trans ?_
  refine (px_go (by decide +kernel : pm_fe 212 113 = some (.iload_n 1, 1)) rfl).trans ?_
  refine (px_go (by decide +kernel : pm_fe 212 114 = some (.aload_n 0, 1)) rfl).trans ?_
  refine (px_go (by decide +kernel : pm_fe 212 115 = some (.iconst 0, 1)) rfl).trans ?_
  refine (px_go (by decide +kernel : pm_fe 212 116 = some (.bipush 9, 2)) rfl).trans ?_
  refine (ry_v2 (idx := 397) (m' := 196) (ci := 12) (by decide +kernel : 234 < 283 ∧ SHF 234 = (12, 76)) (by simp [pm_wl_n, pm_wl_c, pm_w] : pm_wl [vI l1, vA 240] ≤ 8) (by decide +kernel)).trans ?_
  exact Iff.rfl
theorem r212_121 {d : Nat} {X : Nat × (Nat → Int)} {v : Nat → Int} {M : PH} {K : PV → PS → Prop} {l1 s0 s1 : Int} (h1 : 0 ≤ s1) (h2 : s1 < 6) : pm_Run d 212 121 [vA 234, vI l1] [vI s0, vI s1, vA 240] (GF X, M, PTF v) K ↔ pm_Run d 212 122 [vA 234, vI l1] [] (GF X, pm_sa M 240 (pm_up (M 240) s1.toNat s0), PTF v) K := by
  refine (ry_iast (by decide +kernel : 240 < 283 ∧ SHF 240 = (100, 6)) h1 h2 (by decide +kernel)).trans ?_
  exact Iff.rfl
theorem r212_122 {d : Nat} {X : Nat × (Nat → Int)} {v : Nat → Int} {M : PH} {K : PV → PS → Prop} {l1 : Int} (h1 : inR (M 234 8)) : pm_Run d 212 122 [vA 234, vI l1] [] (GF X, M, PTF v) K ↔ if M 234 8 ≠ 0 then pm_Run d 212 142 [vA 234, vI l1] [] (GF X, M, PTF v) K else pm_Run d 212 129 [vA 234, vI l1] [] (GF X, M, PTF v) K := by
  refine (px_go (by decide +kernel : pm_fe 212 122 = some (.aload_n 0, 1)) rfl).trans ?_
  refine (ry_get0 (idx := 36) (ci := 12) (k := 8) (by decide +kernel : 234 < 283 ∧ SHF 234 = (12, 76)) (by decide +kernel)).trans ?_
  refine (ry_if_ne (off := 16) (tgt := 142) h1 (by decide +kernel)).trans ?_
  exact Iff.rfl
theorem r212_129 {d : Nat} {X : Nat × (Nat → Int)} {v : Nat → Int} {M : PH} {K : PV → PS → Prop} {l1 : Int} (h1 : 0 ≤ (M 234 42)) (h2 : (M 234 42) < 2) : pm_Run d 212 129 [vA 234, vI l1] [] (GF X, M, PTF v) K ↔ pm_Run d 212 142 [vA 234, vI l1] [] (GF X, pm_sa M 237 (pm_up (M 237) (M 234 42).toNat ((M 237 (M 234 42).toNat) + 1)), PTF v) K := by
  refine (px_go (by decide +kernel : pm_fe 212 129 = some (.aload_n 0, 1)) rfl).trans ?_
  refine (ry_get2 (idx := 57) (ci := 12) (k := 15) (by decide +kernel : 234 < 283 ∧ SHF 234 = (12, 76)) (ptf_l (a := 234) (k := 15) (n := 237) (by decide +kernel)) (by decide +kernel)).trans ?_
  refine (px_go (by decide +kernel : pm_fe 212 133 = some (.aload_n 0, 1)) rfl).trans ?_
  refine (ry_get0 (idx := 139) (ci := 12) (k := 42) (by decide +kernel : 234 < 283 ∧ SHF 234 = (12, 76)) (by decide +kernel)).trans ?_
  refine (px_go (by decide +kernel : pm_fe 212 137 = some (.dup2, 1)) rfl).trans ?_
  refine (ry_iald (by decide +kernel : 237 < 283 ∧ SHF 237 = (100, 2)) h1 h2 (by decide +kernel)).trans ?_
  refine (px_go (by decide +kernel : pm_fe 212 139 = some (.iconst 1, 1)) rfl).trans ?_
  refine (px_go (by decide +kernel : pm_fe 212 140 = some (.iadd, 1)) rfl).trans ?_
  refine (ry_iast (by decide +kernel : 237 < 283 ∧ SHF 237 = (100, 2)) h1 h2 (by decide +kernel)).trans ?_
  exact Iff.rfl
theorem r212_142 {d : Nat} {X : Nat × (Nat → Int)} {v : Nat → Int} {M : PH} {K : PV → PS → Prop} {l1 : Int} : pm_Run d 212 142 [vA 234, vI l1] [] (GF X, M, PTF v) K ↔ K PU (GF X, M, PTF v) := by
  refine (px_rv (by decide +kernel)).trans ?_
  exact Iff.rfl
-- X12_harboring harboring()V
theorem r213_0 {d : Nat} {X : Nat × (Nat → Int)} {v : Nat → Int} {M : PH} {K : PV → PS → Prop} (h1 : 0 ≤ (M 234 42)) (h2 : (M 234 42) < 2) (h3 : inR (M 241 (M 234 42).toNat)) : pm_Run d 213 0 [vA 234, PU, PU, PU] [] (GF X, M, PTF v) K ↔ if M 241 (M 234 42).toNat ≠ 8 then pm_Run d 213 19 [vA 234, PU, PU, PU] [vA 234] (GF X, M, PTF v) K else pm_Run d 213 15 [vA 234, PU, PU, PU] [vA 234] (GF X, M, PTF v) K := by
  refine (px_go (by decide +kernel : pm_fe 213 0 = some (.aload_n 0, 1)) rfl).trans ?_
  refine (px_go (by decide +kernel : pm_fe 213 1 = some (.aload_n 0, 1)) rfl).trans ?_
  refine (ry_get2 (idx := 69) (ci := 12) (k := 19) (by decide +kernel : 234 < 283 ∧ SHF 234 = (12, 76)) (ptf_l (a := 234) (k := 19) (n := 241) (by decide +kernel)) (by decide +kernel)).trans ?_
  refine (px_go (by decide +kernel : pm_fe 213 5 = some (.aload_n 0, 1)) rfl).trans ?_
  refine (ry_get0 (idx := 139) (ci := 12) (k := 42) (by decide +kernel : 234 < 283 ∧ SHF 234 = (12, 76)) (by decide +kernel)).trans ?_
  refine (ry_iald (by decide +kernel : 241 < 283 ∧ SHF 241 = (100, 2)) h1 h2 (by decide +kernel)).trans ?_
  refine (px_go (by decide +kernel : pm_fe 213 10 = some (.bipush 8, 2)) rfl).trans ?_
  refine (ry_ic_ne (off := 7) (tgt := 19) h3 (by decide : (-2147483648 ≤ (8 : Int) ∧ (8 : Int) < 2147483648)) (by decide +kernel)).trans ?_
  exact Iff.rfl
theorem r213_15 {d : Nat} {X : Nat × (Nat → Int)} {v : Nat → Int} {M : PH} {K : PV → PS → Prop} : pm_Run d 213 15 [vA 234, PU, PU, PU] [vA 234] (GF X, M, PTF v) K ↔ pm_Run d 213 20 [vA 234, PU, PU, PU] [vI 1, vA 234] (GF X, M, PTF v) K := by
  refine (px_go (by decide +kernel : pm_fe 213 15 = some (.iconst 1, 1)) rfl).trans ?_
  refine (px_goto (off := 4) (tgt := 20) (by decide +kernel)).trans ?_
  exact Iff.rfl
theorem r213_19 {d : Nat} {X : Nat × (Nat → Int)} {v : Nat → Int} {M : PH} {K : PV → PS → Prop} : pm_Run d 213 19 [vA 234, PU, PU, PU] [vA 234] (GF X, M, PTF v) K ↔ pm_Run d 213 20 [vA 234, PU, PU, PU] [vI 0, vA 234] (GF X, M, PTF v) K := by
  refine (px_go (by decide +kernel : pm_fe 213 19 = some (.iconst 0, 1)) rfl).trans ?_
  exact Iff.rfl
theorem r213_20 {d : Nat} {X : Nat × (Nat → Int)} {v : Nat → Int} {M : PH} {K : PV → PS → Prop} {s0 : Int} : pm_Run d 213 20 [vA 234, PU, PU, PU] [vI s0, vA 234] (GF X, M, PTF v) K ↔ pm_Call d 207 [vA 234, vI s0] (GF X, M, PTF v) (fun r9 S1 => pm_Run d 213 23 [vA 234, PU, PU, PU] (pm_push r9 []) S1 K) := by
  refine (ry_v1 (idx := 385) (m' := 207) (ci := 12) (by decide +kernel : 234 < 283 ∧ SHF 234 = (12, 76)) (by simp [pm_wl_n, pm_wl_c, pm_w] : pm_wl [] ≤ 8) (by decide +kernel)).trans ?_
  exact Iff.rfl
theorem r213_23 {d : Nat} {X : Nat × (Nat → Int)} {v : Nat → Int} {M : PH} {K : PV → PS → Prop} {s0 : Int} (h1 : inR s0) : pm_Run d 213 23 [vA 234, PU, PU, PU] [vI s0] (GF X, M, PTF v) K ↔ if s0 ≠ 0 then pm_Run d 213 27 [vA 234, PU, PU, PU] [] (GF X, M, PTF v) K else pm_Run d 213 26 [vA 234, PU, PU, PU] [] (GF X, M, PTF v) K := by
  refine (ry_if_ne (off := 4) (tgt := 27) h1 (by decide +kernel)).trans ?_
  exact Iff.rfl
theorem r213_26 {d : Nat} {X : Nat × (Nat → Int)} {v : Nat → Int} {M : PH} {K : PV → PS → Prop} : pm_Run d 213 26 [vA 234, PU, PU, PU] [] (GF X, M, PTF v) K ↔ K PU (GF X, M, PTF v) := by
  refine (px_rv (by decide +kernel)).trans ?_
  exact Iff.rfl
theorem r213_27 {d : Nat} {X : Nat × (Nat → Int)} {v : Nat → Int} {M : PH} {K : PV → PS → Prop} (h1 : 0 ≤ (M 234 42)) (h2 : (M 234 42) < 2) : pm_Run d 213 27 [vA 234, PU, PU, PU] [] (GF X, M, PTF v) K ↔ pm_Call d 209 [vA 234] (GF X, M, PTF v) (fun r9 S1 => pm_Run d 213 54 [vA 234, vI ((8 * (M 234 42)) + (M 241 (M 234 42).toNat)), PU, PU] (pm_push r9 [vI ((8 * (M 234 42)) + (M 241 (M 234 42).toNat)), vA 262]) S1 K) := by
  refine (px_go (by decide +kernel : pm_fe 213 27 = some (.bipush 8, 2)) rfl).trans ?_
  refine (px_go (by decide +kernel : pm_fe 213 29 = some (.aload_n 0, 1)) rfl).trans ?_
  refine (ry_get0 (idx := 139) (ci := 12) (k := 42) (by decide +kernel : 234 < 283 ∧ SHF 234 = (12, 76)) (by decide +kernel)).trans ?_
  refine (px_go (by decide +kernel : pm_fe 213 33 = some (.imul, 1)) rfl).trans ?_
  refine (px_go (by decide +kernel : pm_fe 213 34 = some (.aload_n 0, 1)) rfl).trans ?_
  refine (ry_get2 (idx := 69) (ci := 12) (k := 19) (by decide +kernel : 234 < 283 ∧ SHF 234 = (12, 76)) (ptf_l (a := 234) (k := 19) (n := 241) (by decide +kernel)) (by decide +kernel)).trans ?_
  refine (px_go (by decide +kernel : pm_fe 213 38 = some (.aload_n 0, 1)) rfl).trans ?_
  refine (ry_get0 (idx := 139) (ci := 12) (k := 42) (by decide +kernel : 234 < 283 ∧ SHF 234 = (12, 76)) (by decide +kernel)).trans ?_
  refine (ry_iald (by decide +kernel : 241 < 283 ∧ SHF 241 = (100, 2)) h1 h2 (by decide +kernel)).trans ?_
  refine (px_go (by decide +kernel : pm_fe 213 43 = some (.iadd, 1)) rfl).trans ?_
  refine (px_go (by decide +kernel : pm_fe 213 44 = some (.istore_n 1, 1)) rfl).trans ?_
  refine (px_go (by decide +kernel : pm_fe 213 45 = some (.aload_n 0, 1)) rfl).trans ?_
  refine (ry_get2 (idx := 133) (ci := 12) (k := 40) (by decide +kernel : 234 < 283 ∧ SHF 234 = (12, 76)) (ptf_l (a := 234) (k := 40) (n := 262) (by decide +kernel)) (by decide +kernel)).trans ?_
  refine (px_go (by decide +kernel : pm_fe 213 49 = some (.iload_n 1, 1)) rfl).trans ?_
  refine (px_go (by decide +kernel : pm_fe 213 50 = some (.aload_n 0, 1)) rfl).trans ?_
  refine (ry_v0 (idx := 389) (m' := 209) (ci := 12) (by decide +kernel : 234 < 283 ∧ SHF 234 = (12, 76)) (by simp [pm_wl_n, pm_wl_c, pm_w] : pm_wl [vI ((8 * (M 234 42)) + (M 241 (M 234 42).toNat)), vA 262] ≤ 8) (by decide +kernel)).trans ?_
  exact Iff.rfl
theorem r213_54 {d : Nat} {X : Nat × (Nat → Int)} {v : Nat → Int} {M : PH} {K : PV → PS → Prop} {l1 s0 s1 : Int} (h1 : 0 ≤ s1) (h2 : s1 < 16) : pm_Run d 213 54 [vA 234, vI l1, PU, PU] [vL s0, vI s1, vA 262] (GF X, M, PTF v) K ↔ pm_Run d 213 55 [vA 234, vI l1, PU, PU] [] (GF X, pm_sa M 262 (pm_up (M 262) s1.toNat s0), PTF v) K := by
  refine (ry_last (by decide +kernel : 262 < 283 ∧ SHF 262 = (103, 16)) h1 h2 (by decide +kernel)).trans ?_
  exact Iff.rfl
theorem r213_55 {d : Nat} {X : Nat × (Nat → Int)} {v : Nat → Int} {M : PH} {K : PV → PS → Prop} {l1 : Int} : pm_Run d 213 55 [vA 234, vI l1, PU, PU] [] (GF X, M, PTF v) K ↔ pm_Call d 208 [vA 234, vL 24948] (GF X, M, PTF v) (fun r9 S1 => pm_Run d 213 62 [vA 234, vI l1, PU, PU] (pm_push r9 []) S1 K) := by
  refine (px_go (by decide +kernel : pm_fe 213 55 = some (.aload_n 0, 1)) rfl).trans ?_
  refine (px_ldcL (idx := 275) (x := 24948) (by decide +kernel)).trans ?_
  refine (ry_v1 (idx := 393) (m' := 208) (ci := 12) (by decide +kernel : 234 < 283 ∧ SHF 234 = (12, 76)) (by simp [pm_wl_n, pm_wl_c, pm_w] : pm_wl [] ≤ 8) (by decide +kernel)).trans ?_
  exact Iff.rfl
theorem r213_62 {d : Nat} {X : Nat × (Nat → Int)} {v : Nat → Int} {M : PH} {K : PV → PS → Prop} {l1 : Int} (h1 : 0 ≤ (M 234 42)) (h2 : (M 234 42) < 2) : pm_Run d 213 62 [vA 234, vI l1, PU, PU] [] (GF X, M, PTF v) K ↔ pm_Call d 195 [vA 234, vI 0, vI ((M 236 (M 234 42).toNat) - 1)] (GF X, M, PTF v) (fun r9 S1 => pm_Run d 213 78 [vA 234, vI l1, PU, PU] (pm_push r9 []) S1 K) := by
  refine (px_go (by decide +kernel : pm_fe 213 62 = some (.aload_n 0, 1)) rfl).trans ?_
  refine (px_go (by decide +kernel : pm_fe 213 63 = some (.iconst 0, 1)) rfl).trans ?_
  refine (px_go (by decide +kernel : pm_fe 213 64 = some (.aload_n 0, 1)) rfl).trans ?_
  refine (ry_get2 (idx := 54) (ci := 12) (k := 14) (by decide +kernel : 234 < 283 ∧ SHF 234 = (12, 76)) (ptf_l (a := 234) (k := 14) (n := 236) (by decide +kernel)) (by decide +kernel)).trans ?_
  refine (px_go (by decide +kernel : pm_fe 213 68 = some (.aload_n 0, 1)) rfl).trans ?_
  refine (ry_get0 (idx := 139) (ci := 12) (k := 42) (by decide +kernel : 234 < 283 ∧ SHF 234 = (12, 76)) (by decide +kernel)).trans ?_
  refine (ry_iald (by decide +kernel : 236 < 283 ∧ SHF 236 = (100, 2)) h1 h2 (by decide +kernel)).trans ?_
  refine (px_go (by decide +kernel : pm_fe 213 73 = some (.iconst 1, 1)) rfl).trans ?_
  refine (px_go (by decide +kernel : pm_fe 213 74 = some (.isub, 1)) rfl).trans ?_
  refine (ry_v2 (idx := 341) (m' := 195) (ci := 12) (by decide +kernel : 234 < 283 ∧ SHF 234 = (12, 76)) (by simp [pm_wl_n, pm_wl_c, pm_w] : pm_wl [] ≤ 8) (by decide +kernel)).trans ?_
  exact Iff.rfl
theorem r213_78 {d : Nat} {X : Nat × (Nat → Int)} {v : Nat → Int} {M : PH} {K : PV → PS → Prop} {l1 s0 : Int} : pm_Run d 213 78 [vA 234, vI l1, PU, PU] [vI s0] (GF X, M, PTF v) K ↔ pm_Run d 213 81 [vA 234, vI l1, vI s0, vI 0] [] (GF X, M, PTF v) K := by
  refine (px_go (by decide +kernel : pm_fe 213 78 = some (.istore_n 2, 1)) rfl).trans ?_
  refine (px_go (by decide +kernel : pm_fe 213 79 = some (.iconst 0, 1)) rfl).trans ?_
  refine (px_go (by decide +kernel : pm_fe 213 80 = some (.istore_n 3, 1)) rfl).trans ?_
  exact Iff.rfl
theorem r213_81 {d : Nat} {X : Nat × (Nat → Int)} {v : Nat → Int} {M : PH} {K : PV → PS → Prop} {l1 l2 l3 : Int} (h1 : 0 ≤ (M 234 42)) (h2 : (M 234 42) < 2) (h3 : inR l3) (h4 : inR (M 241 (M 234 42).toNat)) : pm_Run d 213 81 [vA 234, vI l1, vI l2, vI l3] [] (GF X, M, PTF v) K ↔ if M 241 (M 234 42).toNat ≤ l3 then pm_Run d 213 134 [vA 234, vI l1, vI l2, vI l3] [] (GF X, M, PTF v) K else pm_Run d 213 94 [vA 234, vI l1, vI l2, vI l3] [] (GF X, M, PTF v) K := by
  refine (px_go (by decide +kernel : pm_fe 213 81 = some (.iload_n 3, 1)) rfl).trans ?_
  refine (px_go (by decide +kernel : pm_fe 213 82 = some (.aload_n 0, 1)) rfl).trans ?_
  refine (ry_get2 (idx := 69) (ci := 12) (k := 19) (by decide +kernel : 234 < 283 ∧ SHF 234 = (12, 76)) (ptf_l (a := 234) (k := 19) (n := 241) (by decide +kernel)) (by decide +kernel)).trans ?_
  refine (px_go (by decide +kernel : pm_fe 213 86 = some (.aload_n 0, 1)) rfl).trans ?_
  refine (ry_get0 (idx := 139) (ci := 12) (k := 42) (by decide +kernel : 234 < 283 ∧ SHF 234 = (12, 76)) (by decide +kernel)).trans ?_
  refine (ry_iald (by decide +kernel : 241 < 283 ∧ SHF 241 = (100, 2)) h1 h2 (by decide +kernel)).trans ?_
  refine (ry_ic_ge (off := 43) (tgt := 134) h3 h4 (by decide +kernel)).trans ?_
  exact Iff.rfl
theorem r213_94 {d : Nat} {X : Nat × (Nat → Int)} {v : Nat → Int} {M : PH} {K : PV → PS → Prop} {l1 l2 l3 : Int} (h1 : inR (M 234 8)) : pm_Run d 213 94 [vA 234, vI l1, vI l2, vI l3] [] (GF X, M, PTF v) K ↔ if M 234 8 ≠ 0 then pm_Run d 213 134 [vA 234, vI l1, vI l2, vI l3] [] (GF X, M, PTF v) K else pm_Run d 213 101 [vA 234, vI l1, vI l2, vI l3] [] (GF X, M, PTF v) K := by
  refine (px_go (by decide +kernel : pm_fe 213 94 = some (.aload_n 0, 1)) rfl).trans ?_
  refine (ry_get0 (idx := 36) (ci := 12) (k := 8) (by decide +kernel : 234 < 283 ∧ SHF 234 = (12, 76)) (by decide +kernel)).trans ?_
  refine (ry_if_ne (off := 36) (tgt := 134) h1 (by decide +kernel)).trans ?_
  exact Iff.rfl
theorem r213_101 {d : Nat} {X : Nat × (Nat → Int)} {v : Nat → Int} {M : PH} {K : PV → PS → Prop} {l1 l2 l3 : Int} (h1 : 0 ≤ ((8 * (M 234 42)) + l3)) (h2 : ((8 * (M 234 42)) + l3) < 16) (h3 : inR (M 242 ((8 * (M 234 42)) + l3).toNat)) (h4 : inR l2) : pm_Run d 213 101 [vA 234, vI l1, vI l2, vI l3] [] (GF X, M, PTF v) K ↔ if M 242 ((8 * (M 234 42)) + l3).toNat ≠ l2 then pm_Run d 213 128 [vA 234, vI l1, vI l2, vI l3] [] (GF X, M, PTF v) K else pm_Run d 213 119 [vA 234, vI l1, vI l2, vI l3] [] (GF X, M, PTF v) K := by
  refine (px_go (by decide +kernel : pm_fe 213 101 = some (.aload_n 0, 1)) rfl).trans ?_
  refine (ry_get2 (idx := 72) (ci := 12) (k := 20) (by decide +kernel : 234 < 283 ∧ SHF 234 = (12, 76)) (ptf_l (a := 234) (k := 20) (n := 242) (by decide +kernel)) (by decide +kernel)).trans ?_
  refine (px_go (by decide +kernel : pm_fe 213 105 = some (.bipush 8, 2)) rfl).trans ?_
  refine (px_go (by decide +kernel : pm_fe 213 107 = some (.aload_n 0, 1)) rfl).trans ?_
  refine (ry_get0 (idx := 139) (ci := 12) (k := 42) (by decide +kernel : 234 < 283 ∧ SHF 234 = (12, 76)) (by decide +kernel)).trans ?_
  refine (px_go (by decide +kernel : pm_fe 213 111 = some (.imul, 1)) rfl).trans ?_
  refine (px_go (by decide +kernel : pm_fe 213 112 = some (.iload_n 3, 1)) rfl).trans ?_
  refine (px_go (by decide +kernel : pm_fe 213 113 = some (.iadd, 1)) rfl).trans ?_
  refine (ry_iald (by decide +kernel : 242 < 283 ∧ SHF 242 = (100, 16)) h1 h2 (by decide +kernel)).trans ?_
  refine (px_go (by decide +kernel : pm_fe 213 115 = some (.iload_n 2, 1)) rfl).trans ?_
  refine (ry_ic_ne (off := 12) (tgt := 128) h3 h4 (by decide +kernel)).trans ?_
  exact Iff.rfl
theorem r213_119 {d : Nat} {X : Nat × (Nat → Int)} {v : Nat → Int} {M : PH} {K : PV → PS → Prop} {l1 l2 l3 : Int} : pm_Run d 213 119 [vA 234, vI l1, vI l2, vI l3] [] (GF X, M, PTF v) K ↔ pm_Call d 183 [vA 234, vI 4, vI (M 234 4)] (GF X, M, PTF v) (fun r9 S1 => pm_Run d 213 128 [vA 234, vI l1, vI l2, vI l3] (pm_push r9 []) S1 K) := by
  refine (px_go (by decide +kernel : pm_fe 213 119 = some (.aload_n 0, 1)) rfl).trans ?_
  refine (px_go (by decide +kernel : pm_fe 213 120 = some (.iconst 4, 1)) rfl).trans ?_
  refine (px_go (by decide +kernel : pm_fe 213 121 = some (.aload_n 0, 1)) rfl).trans ?_
  refine (ry_get0 (idx := 23) (ci := 12) (k := 4) (by decide +kernel : 234 < 283 ∧ SHF 234 = (12, 76)) (by decide +kernel)).trans ?_
  refine (ry_v2 (idx := 251) (m' := 183) (ci := 12) (by decide +kernel : 234 < 283 ∧ SHF 234 = (12, 76)) (by simp [pm_wl_n, pm_wl_c, pm_w] : pm_wl [] ≤ 8) (by decide +kernel)).trans ?_
  exact Iff.rfl
theorem r213_128 {d : Nat} {X : Nat × (Nat → Int)} {v : Nat → Int} {M : PH} {K : PV → PS → Prop} {l1 l2 l3 : Int} : pm_Run d 213 128 [vA 234, vI l1, vI l2, vI l3] [] (GF X, M, PTF v) K ↔ pm_Run d 213 81 [vA 234, vI l1, vI l2, vI (l3 + 1)] [] (GF X, M, PTF v) K := by
  refine (px_go (by decide +kernel : pm_fe 213 128 = some (.iinc 3 1, 3)) rfl).trans ?_
  refine (px_goto (off := (-50)) (tgt := 81) (by decide +kernel)).trans ?_
  exact Iff.rfl
theorem r213_134 {d : Nat} {X : Nat × (Nat → Int)} {v : Nat → Int} {M : PH} {K : PV → PS → Prop} {l1 l2 l3 : Int} (h1 : inR (M 234 8)) : pm_Run d 213 134 [vA 234, vI l1, vI l2, vI l3] [] (GF X, M, PTF v) K ↔ if M 234 8 ≤ 0 then pm_Run d 213 142 [vA 234, vI l1, vI l2, vI l3] [] (GF X, M, PTF v) K else pm_Run d 213 141 [vA 234, vI l1, vI l2, vI l3] [] (GF X, M, PTF v) K := by
  refine (px_go (by decide +kernel : pm_fe 213 134 = some (.aload_n 0, 1)) rfl).trans ?_
  refine (ry_get0 (idx := 36) (ci := 12) (k := 8) (by decide +kernel : 234 < 283 ∧ SHF 234 = (12, 76)) (by decide +kernel)).trans ?_
  refine (ry_if_le (off := 4) (tgt := 142) h1 (by decide +kernel)).trans ?_
  exact Iff.rfl
theorem r213_141 {d : Nat} {X : Nat × (Nat → Int)} {v : Nat → Int} {M : PH} {K : PV → PS → Prop} {l1 l2 l3 : Int} : pm_Run d 213 141 [vA 234, vI l1, vI l2, vI l3] [] (GF X, M, PTF v) K ↔ K PU (GF X, M, PTF v) := by
  refine (px_rv (by decide +kernel)).trans ?_
  exact Iff.rfl
theorem r213_142 {d : Nat} {X : Nat × (Nat → Int)} {v : Nat → Int} {M : PH} {K : PV → PS → Prop} {l1 l2 l3 : Int} : pm_Run d 213 142 [vA 234, vI l1, vI l2, vI l3] [] (GF X, M, PTF v) K ↔ pm_Call d 187 [vA 234] (GF X, M, PTF v) (fun r9 S1 => pm_Run d 213 146 [vA 234, vI l1, vI l2, vI l3] (pm_push r9 []) S1 K) := by
  refine (px_go (by decide +kernel : pm_fe 213 142 = some (.aload_n 0, 1)) rfl).trans ?_
  refine (ry_v0 (idx := 268) (m' := 187) (ci := 12) (by decide +kernel : 234 < 283 ∧ SHF 234 = (12, 76)) (by simp [pm_wl_n, pm_wl_c, pm_w] : pm_wl [] ≤ 8) (by decide +kernel)).trans ?_
  exact Iff.rfl
theorem r213_146 {d : Nat} {X : Nat × (Nat → Int)} {v : Nat → Int} {M : PH} {K : PV → PS → Prop} {l1 l2 l3 : Int} (h1 : 0 ≤ l1) (h2 : l1 < 16) : pm_Run d 213 146 [vA 234, vI l1, vI l2, vI l3] [] (GF X, M, PTF v) K ↔ pm_Run d 213 153 [vA 234, vI l1, vI l2, vI l3] [] (GF X, pm_sa M 242 (pm_up (M 242) l1.toNat l2), PTF v) K := by
  refine (px_go (by decide +kernel : pm_fe 213 146 = some (.aload_n 0, 1)) rfl).trans ?_
  refine (ry_get2 (idx := 72) (ci := 12) (k := 20) (by decide +kernel : 234 < 283 ∧ SHF 234 = (12, 76)) (ptf_l (a := 234) (k := 20) (n := 242) (by decide +kernel)) (by decide +kernel)).trans ?_
  refine (px_go (by decide +kernel : pm_fe 213 150 = some (.iload_n 1, 1)) rfl).trans ?_
  refine (px_go (by decide +kernel : pm_fe 213 151 = some (.iload_n 2, 1)) rfl).trans ?_
  refine (ry_iast (by decide +kernel : 242 < 283 ∧ SHF 242 = (100, 16)) h1 h2 (by decide +kernel)).trans ?_
  exact Iff.rfl
theorem r213_153 {d : Nat} {X : Nat × (Nat → Int)} {v : Nat → Int} {M : PH} {K : PV → PS → Prop} {l1 l2 l3 : Int} : pm_Run d 213 153 [vA 234, vI l1, vI l2, vI l3] [] (GF X, M, PTF v) K ↔ pm_Call d 208 [vA 234, vL 483006772069] (GF X, M, PTF v) (fun r9 S1 => pm_Run d 213 160 [vA 234, vI l1, vI l2, vI l3] (pm_push r9 []) S1 K) := by
  refine (px_go (by decide +kernel : pm_fe 213 153 = some (.aload_n 0, 1)) rfl).trans ?_
  refine (px_ldcL (idx := 283) (x := 483006772069) (by decide +kernel)).trans ?_
  refine (ry_v1 (idx := 393) (m' := 208) (ci := 12) (by decide +kernel : 234 < 283 ∧ SHF 234 = (12, 76)) (by simp [pm_wl_n, pm_wl_c, pm_w] : pm_wl [] ≤ 8) (by decide +kernel)).trans ?_
  exact Iff.rfl
theorem r213_160 {d : Nat} {X : Nat × (Nat → Int)} {v : Nat → Int} {M : PH} {K : PV → PS → Prop} {l1 l2 l3 : Int} : pm_Run d 213 160 [vA 234, vI l1, vI l2, vI l3] [] (GF X, M, PTF v) K ↔ pm_Call d 196 [vA 234, vI 0, vI 999] (GF X, M, PTF v) (fun r9 S1 => pm_Run d 213 173 [vA 234, vI l1, vI l2, vI l3] (pm_push r9 [vI l1, vA 243]) S1 K) := by
  refine (px_go (by decide +kernel : pm_fe 213 160 = some (.aload_n 0, 1)) rfl).trans ?_
  refine (ry_get2 (idx := 75) (ci := 12) (k := 21) (by decide +kernel : 234 < 283 ∧ SHF 234 = (12, 76)) (ptf_l (a := 234) (k := 21) (n := 243) (by decide +kernel)) (by decide +kernel)).trans ?_
  refine (px_go (by decide +kernel : pm_fe 213 164 = some (.iload_n 1, 1)) rfl).trans ?_
  refine (px_go (by decide +kernel : pm_fe 213 165 = some (.aload_n 0, 1)) rfl).trans ?_
  refine (px_go (by decide +kernel : pm_fe 213 166 = some (.iconst 0, 1)) rfl).trans ?_
  refine (px_go (by decide +kernel : pm_fe 213 167 = some (.sipush 999, 3)) rfl).trans ?_
  refine (ry_v2 (idx := 397) (m' := 196) (ci := 12) (by decide +kernel : 234 < 283 ∧ SHF 234 = (12, 76)) (by simp [pm_wl_n, pm_wl_c, pm_w] : pm_wl [vI l1, vA 243] ≤ 8) (by decide +kernel)).trans ?_
  exact Iff.rfl
theorem r213_173 {d : Nat} {X : Nat × (Nat → Int)} {v : Nat → Int} {M : PH} {K : PV → PS → Prop} {l1 l2 l3 s0 s1 : Int} (h1 : 0 ≤ s1) (h2 : s1 < 16) : pm_Run d 213 173 [vA 234, vI l1, vI l2, vI l3] [vI s0, vI s1, vA 243] (GF X, M, PTF v) K ↔ pm_Run d 213 174 [vA 234, vI l1, vI l2, vI l3] [] (GF X, pm_sa M 243 (pm_up (M 243) s1.toNat s0), PTF v) K := by
  refine (ry_iast (by decide +kernel : 243 < 283 ∧ SHF 243 = (100, 16)) h1 h2 (by decide +kernel)).trans ?_
  exact Iff.rfl
theorem r213_174 {d : Nat} {X : Nat × (Nat → Int)} {v : Nat → Int} {M : PH} {K : PV → PS → Prop} {l1 l2 l3 : Int} : pm_Run d 213 174 [vA 234, vI l1, vI l2, vI l3] [] (GF X, M, PTF v) K ↔ pm_Call d 208 [vA 234, vL 431198598248] (GF X, M, PTF v) (fun r9 S1 => pm_Run d 213 181 [vA 234, vI l1, vI l2, vI l3] (pm_push r9 []) S1 K) := by
  refine (px_go (by decide +kernel : pm_fe 213 174 = some (.aload_n 0, 1)) rfl).trans ?_
  refine (px_ldcL (idx := 285) (x := 431198598248) (by decide +kernel)).trans ?_
  refine (ry_v1 (idx := 393) (m' := 208) (ci := 12) (by decide +kernel : 234 < 283 ∧ SHF 234 = (12, 76)) (by simp [pm_wl_n, pm_wl_c, pm_w] : pm_wl [] ≤ 8) (by decide +kernel)).trans ?_
  exact Iff.rfl
theorem r213_181 {d : Nat} {X : Nat × (Nat → Int)} {v : Nat → Int} {M : PH} {K : PV → PS → Prop} {l1 l2 l3 : Int} : pm_Run d 213 181 [vA 234, vI l1, vI l2, vI l3] [] (GF X, M, PTF v) K ↔ pm_Call d 196 [vA 234, vI 0, vI 99] (GF X, M, PTF v) (fun r9 S1 => pm_Run d 213 193 [vA 234, vI l1, vI l2, vI l3] (pm_push r9 [vI l1, vA 244]) S1 K) := by
  refine (px_go (by decide +kernel : pm_fe 213 181 = some (.aload_n 0, 1)) rfl).trans ?_
  refine (ry_get2 (idx := 78) (ci := 12) (k := 22) (by decide +kernel : 234 < 283 ∧ SHF 234 = (12, 76)) (ptf_l (a := 234) (k := 22) (n := 244) (by decide +kernel)) (by decide +kernel)).trans ?_
  refine (px_go (by decide +kernel : pm_fe 213 185 = some (.iload_n 1, 1)) rfl).trans ?_
  refine (px_go (by decide +kernel : pm_fe 213 186 = some (.aload_n 0, 1)) rfl).trans ?_
  refine (px_go (by decide +kernel : pm_fe 213 187 = some (.iconst 0, 1)) rfl).trans ?_
  refine (px_go (by decide +kernel : pm_fe 213 188 = some (.bipush 99, 2)) rfl).trans ?_
  refine (ry_v2 (idx := 397) (m' := 196) (ci := 12) (by decide +kernel : 234 < 283 ∧ SHF 234 = (12, 76)) (by simp [pm_wl_n, pm_wl_c, pm_w] : pm_wl [vI l1, vA 244] ≤ 8) (by decide +kernel)).trans ?_
  exact Iff.rfl
theorem r213_193 {d : Nat} {X : Nat × (Nat → Int)} {v : Nat → Int} {M : PH} {K : PV → PS → Prop} {l1 l2 l3 s0 s1 : Int} (h1 : 0 ≤ s1) (h2 : s1 < 16) : pm_Run d 213 193 [vA 234, vI l1, vI l2, vI l3] [vI s0, vI s1, vA 244] (GF X, M, PTF v) K ↔ pm_Run d 213 194 [vA 234, vI l1, vI l2, vI l3] [] (GF X, pm_sa M 244 (pm_up (M 244) s1.toNat s0), PTF v) K := by
  refine (ry_iast (by decide +kernel : 244 < 283 ∧ SHF 244 = (100, 16)) h1 h2 (by decide +kernel)).trans ?_
  exact Iff.rfl
theorem r213_194 {d : Nat} {X : Nat × (Nat → Int)} {v : Nat → Int} {M : PH} {K : PV → PS → Prop} {l1 l2 l3 : Int} : pm_Run d 213 194 [vA 234, vI l1, vI l2, vI l3] [] (GF X, M, PTF v) K ↔ pm_Run d 213 196 [vA 234, vI l1, vI l2, vI 0] [] (GF X, M, PTF v) K := by
  refine (px_go (by decide +kernel : pm_fe 213 194 = some (.iconst 0, 1)) rfl).trans ?_
  refine (px_go (by decide +kernel : pm_fe 213 195 = some (.istore_n 3, 1)) rfl).trans ?_
  exact Iff.rfl
theorem r213_196 {d : Nat} {X : Nat × (Nat → Int)} {v : Nat → Int} {M : PH} {K : PV → PS → Prop} {l1 l2 l3 : Int} (h1 : inR l3) : pm_Run d 213 196 [vA 234, vI l1, vI l2, vI l3] [] (GF X, M, PTF v) K ↔ if 3 ≤ l3 then pm_Run d 213 218 [vA 234, vI l1, vI l2, vI l3] [] (GF X, M, PTF v) K else pm_Run d 213 201 [vA 234, vI l1, vI l2, vI l3] [] (GF X, M, PTF v) K := by
  refine (px_go (by decide +kernel : pm_fe 213 196 = some (.iload_n 3, 1)) rfl).trans ?_
  refine (px_go (by decide +kernel : pm_fe 213 197 = some (.iconst 3, 1)) rfl).trans ?_
  refine (ry_ic_ge (off := 20) (tgt := 218) h1 (by decide : (-2147483648 ≤ (3 : Int) ∧ (3 : Int) < 2147483648)) (by decide +kernel)).trans ?_
  exact Iff.rfl
theorem r213_201 {d : Nat} {X : Nat × (Nat → Int)} {v : Nat → Int} {M : PH} {K : PV → PS → Prop} {l1 l2 l3 : Int} (h1 : 0 ≤ ((3 * l1) + l3)) (h2 : ((3 * l1) + l3) < 48) : pm_Run d 213 201 [vA 234, vI l1, vI l2, vI l3] [] (GF X, M, PTF v) K ↔ pm_Run d 213 212 [vA 234, vI l1, vI l2, vI l3] [] (GF X, pm_sa M 245 (pm_up (M 245) ((3 * l1) + l3).toNat 0), PTF v) K := by
  refine (px_go (by decide +kernel : pm_fe 213 201 = some (.aload_n 0, 1)) rfl).trans ?_
  refine (ry_get2 (idx := 81) (ci := 12) (k := 23) (by decide +kernel : 234 < 283 ∧ SHF 234 = (12, 76)) (ptf_l (a := 234) (k := 23) (n := 245) (by decide +kernel)) (by decide +kernel)).trans ?_
  refine (px_go (by decide +kernel : pm_fe 213 205 = some (.iconst 3, 1)) rfl).trans ?_
  refine (px_go (by decide +kernel : pm_fe 213 206 = some (.iload_n 1, 1)) rfl).trans ?_
  refine (px_go (by decide +kernel : pm_fe 213 207 = some (.imul, 1)) rfl).trans ?_
  refine (px_go (by decide +kernel : pm_fe 213 208 = some (.iload_n 3, 1)) rfl).trans ?_
  refine (px_go (by decide +kernel : pm_fe 213 209 = some (.iadd, 1)) rfl).trans ?_
  refine (px_go (by decide +kernel : pm_fe 213 210 = some (.iconst 0, 1)) rfl).trans ?_
  refine (ry_iast (by decide +kernel : 245 < 283 ∧ SHF 245 = (100, 48)) h1 h2 (by decide +kernel)).trans ?_
  exact Iff.rfl
theorem r213_212 {d : Nat} {X : Nat × (Nat → Int)} {v : Nat → Int} {M : PH} {K : PV → PS → Prop} {l1 l2 l3 : Int} : pm_Run d 213 212 [vA 234, vI l1, vI l2, vI l3] [] (GF X, M, PTF v) K ↔ pm_Run d 213 196 [vA 234, vI l1, vI l2, vI (l3 + 1)] [] (GF X, M, PTF v) K := by
  refine (px_go (by decide +kernel : pm_fe 213 212 = some (.iinc 3 1, 3)) rfl).trans ?_
  refine (px_goto (off := (-19)) (tgt := 196) (by decide +kernel)).trans ?_
  exact Iff.rfl
theorem r213_218 {d : Nat} {X : Nat × (Nat → Int)} {v : Nat → Int} {M : PH} {K : PV → PS → Prop} {l1 l2 l3 : Int} (h1 : inR (M 234 8)) : pm_Run d 213 218 [vA 234, vI l1, vI l2, vI l3] [] (GF X, M, PTF v) K ↔ if M 234 8 ≠ 0 then pm_Run d 213 238 [vA 234, vI l1, vI l2, vI l3] [] (GF X, M, PTF v) K else pm_Run d 213 225 [vA 234, vI l1, vI l2, vI l3] [] (GF X, M, PTF v) K := by
  refine (px_go (by decide +kernel : pm_fe 213 218 = some (.aload_n 0, 1)) rfl).trans ?_
  refine (ry_get0 (idx := 36) (ci := 12) (k := 8) (by decide +kernel : 234 < 283 ∧ SHF 234 = (12, 76)) (by decide +kernel)).trans ?_
  refine (ry_if_ne (off := 16) (tgt := 238) h1 (by decide +kernel)).trans ?_
  exact Iff.rfl
theorem r213_225 {d : Nat} {X : Nat × (Nat → Int)} {v : Nat → Int} {M : PH} {K : PV → PS → Prop} {l1 l2 l3 : Int} (h1 : 0 ≤ (M 234 42)) (h2 : (M 234 42) < 2) : pm_Run d 213 225 [vA 234, vI l1, vI l2, vI l3] [] (GF X, M, PTF v) K ↔ pm_Run d 213 238 [vA 234, vI l1, vI l2, vI l3] [] (GF X, pm_sa M 241 (pm_up (M 241) (M 234 42).toNat ((M 241 (M 234 42).toNat) + 1)), PTF v) K := by
  refine (px_go (by decide +kernel : pm_fe 213 225 = some (.aload_n 0, 1)) rfl).trans ?_
  refine (ry_get2 (idx := 69) (ci := 12) (k := 19) (by decide +kernel : 234 < 283 ∧ SHF 234 = (12, 76)) (ptf_l (a := 234) (k := 19) (n := 241) (by decide +kernel)) (by decide +kernel)).trans ?_
  refine (px_go (by decide +kernel : pm_fe 213 229 = some (.aload_n 0, 1)) rfl).trans ?_
  refine (ry_get0 (idx := 139) (ci := 12) (k := 42) (by decide +kernel : 234 < 283 ∧ SHF 234 = (12, 76)) (by decide +kernel)).trans ?_
  refine (px_go (by decide +kernel : pm_fe 213 233 = some (.dup2, 1)) rfl).trans ?_
  refine (ry_iald (by decide +kernel : 241 < 283 ∧ SHF 241 = (100, 2)) h1 h2 (by decide +kernel)).trans ?_
  refine (px_go (by decide +kernel : pm_fe 213 235 = some (.iconst 1, 1)) rfl).trans ?_
  refine (px_go (by decide +kernel : pm_fe 213 236 = some (.iadd, 1)) rfl).trans ?_
  refine (ry_iast (by decide +kernel : 241 < 283 ∧ SHF 241 = (100, 2)) h1 h2 (by decide +kernel)).trans ?_
  exact Iff.rfl
theorem r213_238 {d : Nat} {X : Nat × (Nat → Int)} {v : Nat → Int} {M : PH} {K : PV → PS → Prop} {l1 l2 l3 : Int} : pm_Run d 213 238 [vA 234, vI l1, vI l2, vI l3] [] (GF X, M, PTF v) K ↔ K PU (GF X, M, PTF v) := by
  refine (px_rv (by decide +kernel)).trans ?_
  exact Iff.rfl
-- X12_paying paying()V
theorem r214_0 {d : Nat} {X : Nat × (Nat → Int)} {v : Nat → Int} {M : PH} {K : PV → PS → Prop} : pm_Run d 214 0 [vA 234, PU, PU, PU] [] (GF X, M, PTF v) K ↔ pm_Call d 207 [vA 234, vI 0] (GF X, M, PTF v) (fun r9 S1 => pm_Run d 214 5 [vA 234, PU, PU, PU] (pm_push r9 []) S1 K) := by
  refine (px_go (by decide +kernel : pm_fe 214 0 = some (.aload_n 0, 1)) rfl).trans ?_
  refine (px_go (by decide +kernel : pm_fe 214 1 = some (.iconst 0, 1)) rfl).trans ?_
  refine (ry_v1 (idx := 385) (m' := 207) (ci := 12) (by decide +kernel : 234 < 283 ∧ SHF 234 = (12, 76)) (by simp [pm_wl_n, pm_wl_c, pm_w] : pm_wl [] ≤ 8) (by decide +kernel)).trans ?_
  exact Iff.rfl
theorem r214_5 {d : Nat} {X : Nat × (Nat → Int)} {v : Nat → Int} {M : PH} {K : PV → PS → Prop} {s0 : Int} (h1 : inR s0) : pm_Run d 214 5 [vA 234, PU, PU, PU] [vI s0] (GF X, M, PTF v) K ↔ if s0 ≠ 0 then pm_Run d 214 9 [vA 234, PU, PU, PU] [] (GF X, M, PTF v) K else pm_Run d 214 8 [vA 234, PU, PU, PU] [] (GF X, M, PTF v) K := by
  refine (ry_if_ne (off := 4) (tgt := 9) h1 (by decide +kernel)).trans ?_
  exact Iff.rfl
theorem r214_8 {d : Nat} {X : Nat × (Nat → Int)} {v : Nat → Int} {M : PH} {K : PV → PS → Prop} : pm_Run d 214 8 [vA 234, PU, PU, PU] [] (GF X, M, PTF v) K ↔ K PU (GF X, M, PTF v) := by
  refine (px_rv (by decide +kernel)).trans ?_
  exact Iff.rfl
theorem r214_9 {d : Nat} {X : Nat × (Nat → Int)} {v : Nat → Int} {M : PH} {K : PV → PS → Prop} : pm_Run d 214 9 [vA 234, PU, PU, PU] [] (GF X, M, PTF v) K ↔ pm_Call d 211 [vA 234, vI 1] (GF X, M, PTF v) (fun r9 S1 => pm_Run d 214 14 [vA 234, PU, PU, PU] (pm_push r9 []) S1 K) := by
  refine (px_go (by decide +kernel : pm_fe 214 9 = some (.aload_n 0, 1)) rfl).trans ?_
  refine (px_go (by decide +kernel : pm_fe 214 10 = some (.iconst 1, 1)) rfl).trans ?_
  refine (ry_v1 (idx := 400) (m' := 211) (ci := 12) (by decide +kernel : 234 < 283 ∧ SHF 234 = (12, 76)) (by simp [pm_wl_n, pm_wl_c, pm_w] : pm_wl [] ≤ 8) (by decide +kernel)).trans ?_
  exact Iff.rfl
theorem r214_14 {d : Nat} {X : Nat × (Nat → Int)} {v : Nat → Int} {M : PH} {K : PV → PS → Prop} {s0 : Int} : pm_Run d 214 14 [vA 234, PU, PU, PU] [vI s0] (GF X, M, PTF v) K ↔ pm_Call d 211 [vA 234, vI 0] (GF X, M, PTF v) (fun r9 S1 => pm_Run d 214 20 [vA 234, vI s0, PU, PU] (pm_push r9 []) S1 K) := by
  refine (px_go (by decide +kernel : pm_fe 214 14 = some (.istore_n 1, 1)) rfl).trans ?_
  refine (px_go (by decide +kernel : pm_fe 214 15 = some (.aload_n 0, 1)) rfl).trans ?_
  refine (px_go (by decide +kernel : pm_fe 214 16 = some (.iconst 0, 1)) rfl).trans ?_
  refine (ry_v1 (idx := 400) (m' := 211) (ci := 12) (by decide +kernel : 234 < 283 ∧ SHF 234 = (12, 76)) (by simp [pm_wl_n, pm_wl_c, pm_w] : pm_wl [] ≤ 8) (by decide +kernel)).trans ?_
  exact Iff.rfl
theorem r214_20 {d : Nat} {X : Nat × (Nat → Int)} {v : Nat → Int} {M : PH} {K : PV → PS → Prop} {l1 s0 : Int} : pm_Run d 214 20 [vA 234, vI l1, PU, PU] [vI s0] (GF X, M, PTF v) K ↔ pm_Call d 196 [vA 234, vI 0, vI 20] (GF X, M, PTF v) (fun r9 S1 => pm_Run d 214 28 [vA 234, vI l1, vI s0, PU] (pm_push r9 []) S1 K) := by
  refine (px_go (by decide +kernel : pm_fe 214 20 = some (.istore_n 2, 1)) rfl).trans ?_
  refine (px_go (by decide +kernel : pm_fe 214 21 = some (.aload_n 0, 1)) rfl).trans ?_
  refine (px_go (by decide +kernel : pm_fe 214 22 = some (.iconst 0, 1)) rfl).trans ?_
  refine (px_go (by decide +kernel : pm_fe 214 23 = some (.bipush 20, 2)) rfl).trans ?_
  refine (ry_v2 (idx := 397) (m' := 196) (ci := 12) (by decide +kernel : 234 < 283 ∧ SHF 234 = (12, 76)) (by simp [pm_wl_n, pm_wl_c, pm_w] : pm_wl [] ≤ 8) (by decide +kernel)).trans ?_
  exact Iff.rfl
theorem r214_28 {d : Nat} {X : Nat × (Nat → Int)} {v : Nat → Int} {M : PH} {K : PV → PS → Prop} {l1 l2 s0 : Int} (h1 : inR (M 234 8)) : pm_Run d 214 28 [vA 234, vI l1, vI l2, PU] [vI s0] (GF X, M, PTF v) K ↔ if M 234 8 ≠ 0 then pm_Run d 214 55 [vA 234, vI l1, vI l2, vI s0] [] (GF X, M, PTF v) K else pm_Run d 214 36 [vA 234, vI l1, vI l2, vI s0] [] (GF X, M, PTF v) K := by
  refine (px_go (by decide +kernel : pm_fe 214 28 = some (.istore_n 3, 1)) rfl).trans ?_
  refine (px_go (by decide +kernel : pm_fe 214 29 = some (.aload_n 0, 1)) rfl).trans ?_
  refine (ry_get0 (idx := 36) (ci := 12) (k := 8) (by decide +kernel : 234 < 283 ∧ SHF 234 = (12, 76)) (by decide +kernel)).trans ?_
  refine (ry_if_ne (off := 22) (tgt := 55) h1 (by decide +kernel)).trans ?_
  exact Iff.rfl
theorem r214_36 {d : Nat} {X : Nat × (Nat → Int)} {v : Nat → Int} {M : PH} {K : PV → PS → Prop} {l1 l2 l3 : Int} (h1 : 0 ≤ ((3 * ((8 * (M 234 42)) + l1)) + l2)) (h2 : ((3 * ((8 * (M 234 42)) + l1)) + l2) < 48) : pm_Run d 214 36 [vA 234, vI l1, vI l2, vI l3] [] (GF X, M, PTF v) K ↔ pm_Run d 214 55 [vA 234, vI l1, vI l2, vI l3] [] (GF X, pm_sa M 245 (pm_up (M 245) ((3 * ((8 * (M 234 42)) + l1)) + l2).toNat l3), PTF v) K := by
  refine (px_go (by decide +kernel : pm_fe 214 36 = some (.aload_n 0, 1)) rfl).trans ?_
  refine (ry_get2 (idx := 81) (ci := 12) (k := 23) (by decide +kernel : 234 < 283 ∧ SHF 234 = (12, 76)) (ptf_l (a := 234) (k := 23) (n := 245) (by decide +kernel)) (by decide +kernel)).trans ?_
  refine (px_go (by decide +kernel : pm_fe 214 40 = some (.iconst 3, 1)) rfl).trans ?_
  refine (px_go (by decide +kernel : pm_fe 214 41 = some (.bipush 8, 2)) rfl).trans ?_
  refine (px_go (by decide +kernel : pm_fe 214 43 = some (.aload_n 0, 1)) rfl).trans ?_
  refine (ry_get0 (idx := 139) (ci := 12) (k := 42) (by decide +kernel : 234 < 283 ∧ SHF 234 = (12, 76)) (by decide +kernel)).trans ?_
  refine (px_go (by decide +kernel : pm_fe 214 47 = some (.imul, 1)) rfl).trans ?_
  refine (px_go (by decide +kernel : pm_fe 214 48 = some (.iload_n 1, 1)) rfl).trans ?_
  refine (px_go (by decide +kernel : pm_fe 214 49 = some (.iadd, 1)) rfl).trans ?_
  refine (px_go (by decide +kernel : pm_fe 214 50 = some (.imul, 1)) rfl).trans ?_
  refine (px_go (by decide +kernel : pm_fe 214 51 = some (.iload_n 2, 1)) rfl).trans ?_
  refine (px_go (by decide +kernel : pm_fe 214 52 = some (.iadd, 1)) rfl).trans ?_
  refine (px_go (by decide +kernel : pm_fe 214 53 = some (.iload_n 3, 1)) rfl).trans ?_
  refine (ry_iast (by decide +kernel : 245 < 283 ∧ SHF 245 = (100, 48)) h1 h2 (by decide +kernel)).trans ?_
  exact Iff.rfl
theorem r214_55 {d : Nat} {X : Nat × (Nat → Int)} {v : Nat → Int} {M : PH} {K : PV → PS → Prop} {l1 l2 l3 : Int} : pm_Run d 214 55 [vA 234, vI l1, vI l2, vI l3] [] (GF X, M, PTF v) K ↔ K PU (GF X, M, PTF v) := by
  refine (px_rv (by decide +kernel)).trans ?_
  exact Iff.rfl
-- X12_owing owing()V
theorem r215_0 {d : Nat} {X : Nat × (Nat → Int)} {v : Nat → Int} {M : PH} {K : PV → PS → Prop} (h1 : 0 ≤ (M 234 42)) (h2 : (M 234 42) < 2) (h3 : inR (M 246 (M 234 42).toNat)) : pm_Run d 215 0 [vA 234, PU] [] (GF X, M, PTF v) K ↔ if M 246 (M 234 42).toNat ≠ 16 then pm_Run d 215 19 [vA 234, PU] [vA 234] (GF X, M, PTF v) K else pm_Run d 215 15 [vA 234, PU] [vA 234] (GF X, M, PTF v) K := by
  refine (px_go (by decide +kernel : pm_fe 215 0 = some (.aload_n 0, 1)) rfl).trans ?_
  refine (px_go (by decide +kernel : pm_fe 215 1 = some (.aload_n 0, 1)) rfl).trans ?_
  refine (ry_get2 (idx := 84) (ci := 12) (k := 24) (by decide +kernel : 234 < 283 ∧ SHF 234 = (12, 76)) (ptf_l (a := 234) (k := 24) (n := 246) (by decide +kernel)) (by decide +kernel)).trans ?_
  refine (px_go (by decide +kernel : pm_fe 215 5 = some (.aload_n 0, 1)) rfl).trans ?_
  refine (ry_get0 (idx := 139) (ci := 12) (k := 42) (by decide +kernel : 234 < 283 ∧ SHF 234 = (12, 76)) (by decide +kernel)).trans ?_
  refine (ry_iald (by decide +kernel : 246 < 283 ∧ SHF 246 = (100, 2)) h1 h2 (by decide +kernel)).trans ?_
  refine (px_go (by decide +kernel : pm_fe 215 10 = some (.bipush 16, 2)) rfl).trans ?_
  refine (ry_ic_ne (off := 7) (tgt := 19) h3 (by decide : (-2147483648 ≤ (16 : Int) ∧ (16 : Int) < 2147483648)) (by decide +kernel)).trans ?_
  exact Iff.rfl
theorem r215_15 {d : Nat} {X : Nat × (Nat → Int)} {v : Nat → Int} {M : PH} {K : PV → PS → Prop} : pm_Run d 215 15 [vA 234, PU] [vA 234] (GF X, M, PTF v) K ↔ pm_Run d 215 20 [vA 234, PU] [vI 1, vA 234] (GF X, M, PTF v) K := by
  refine (px_go (by decide +kernel : pm_fe 215 15 = some (.iconst 1, 1)) rfl).trans ?_
  refine (px_goto (off := 4) (tgt := 20) (by decide +kernel)).trans ?_
  exact Iff.rfl
theorem r215_19 {d : Nat} {X : Nat × (Nat → Int)} {v : Nat → Int} {M : PH} {K : PV → PS → Prop} : pm_Run d 215 19 [vA 234, PU] [vA 234] (GF X, M, PTF v) K ↔ pm_Run d 215 20 [vA 234, PU] [vI 0, vA 234] (GF X, M, PTF v) K := by
  refine (px_go (by decide +kernel : pm_fe 215 19 = some (.iconst 0, 1)) rfl).trans ?_
  exact Iff.rfl
theorem r215_20 {d : Nat} {X : Nat × (Nat → Int)} {v : Nat → Int} {M : PH} {K : PV → PS → Prop} {s0 : Int} : pm_Run d 215 20 [vA 234, PU] [vI s0, vA 234] (GF X, M, PTF v) K ↔ pm_Call d 207 [vA 234, vI s0] (GF X, M, PTF v) (fun r9 S1 => pm_Run d 215 23 [vA 234, PU] (pm_push r9 []) S1 K) := by
  refine (ry_v1 (idx := 385) (m' := 207) (ci := 12) (by decide +kernel : 234 < 283 ∧ SHF 234 = (12, 76)) (by simp [pm_wl_n, pm_wl_c, pm_w] : pm_wl [] ≤ 8) (by decide +kernel)).trans ?_
  exact Iff.rfl
theorem r215_23 {d : Nat} {X : Nat × (Nat → Int)} {v : Nat → Int} {M : PH} {K : PV → PS → Prop} {s0 : Int} (h1 : inR s0) : pm_Run d 215 23 [vA 234, PU] [vI s0] (GF X, M, PTF v) K ↔ if s0 ≠ 0 then pm_Run d 215 27 [vA 234, PU] [] (GF X, M, PTF v) K else pm_Run d 215 26 [vA 234, PU] [] (GF X, M, PTF v) K := by
  refine (ry_if_ne (off := 4) (tgt := 27) h1 (by decide +kernel)).trans ?_
  exact Iff.rfl
theorem r215_26 {d : Nat} {X : Nat × (Nat → Int)} {v : Nat → Int} {M : PH} {K : PV → PS → Prop} : pm_Run d 215 26 [vA 234, PU] [] (GF X, M, PTF v) K ↔ K PU (GF X, M, PTF v) := by
  refine (px_rv (by decide +kernel)).trans ?_
  exact Iff.rfl
theorem r215_27 {d : Nat} {X : Nat × (Nat → Int)} {v : Nat → Int} {M : PH} {K : PV → PS → Prop} (h1 : 0 ≤ (M 234 42)) (h2 : (M 234 42) < 2) : pm_Run d 215 27 [vA 234, PU] [] (GF X, M, PTF v) K ↔ pm_Call d 211 [vA 234, vI 1] (GF X, M, PTF v) (fun r9 S1 => pm_Run d 215 55 [vA 234, vI ((16 * (M 234 42)) + (M 246 (M 234 42).toNat))] (pm_push r9 [vI ((16 * (M 234 42)) + (M 246 (M 234 42).toNat)), vA 247]) S1 K) := by
  refine (px_go (by decide +kernel : pm_fe 215 27 = some (.bipush 16, 2)) rfl).trans ?_
  refine (px_go (by decide +kernel : pm_fe 215 29 = some (.aload_n 0, 1)) rfl).trans ?_
  refine (ry_get0 (idx := 139) (ci := 12) (k := 42) (by decide +kernel : 234 < 283 ∧ SHF 234 = (12, 76)) (by decide +kernel)).trans ?_
  refine (px_go (by decide +kernel : pm_fe 215 33 = some (.imul, 1)) rfl).trans ?_
  refine (px_go (by decide +kernel : pm_fe 215 34 = some (.aload_n 0, 1)) rfl).trans ?_
  refine (ry_get2 (idx := 84) (ci := 12) (k := 24) (by decide +kernel : 234 < 283 ∧ SHF 234 = (12, 76)) (ptf_l (a := 234) (k := 24) (n := 246) (by decide +kernel)) (by decide +kernel)).trans ?_
  refine (px_go (by decide +kernel : pm_fe 215 38 = some (.aload_n 0, 1)) rfl).trans ?_
  refine (ry_get0 (idx := 139) (ci := 12) (k := 42) (by decide +kernel : 234 < 283 ∧ SHF 234 = (12, 76)) (by decide +kernel)).trans ?_
  refine (ry_iald (by decide +kernel : 246 < 283 ∧ SHF 246 = (100, 2)) h1 h2 (by decide +kernel)).trans ?_
  refine (px_go (by decide +kernel : pm_fe 215 43 = some (.iadd, 1)) rfl).trans ?_
  refine (px_go (by decide +kernel : pm_fe 215 44 = some (.istore_n 1, 1)) rfl).trans ?_
  refine (px_go (by decide +kernel : pm_fe 215 45 = some (.aload_n 0, 1)) rfl).trans ?_
  refine (ry_get2 (idx := 87) (ci := 12) (k := 25) (by decide +kernel : 234 < 283 ∧ SHF 234 = (12, 76)) (ptf_l (a := 234) (k := 25) (n := 247) (by decide +kernel)) (by decide +kernel)).trans ?_
  refine (px_go (by decide +kernel : pm_fe 215 49 = some (.iload_n 1, 1)) rfl).trans ?_
  refine (px_go (by decide +kernel : pm_fe 215 50 = some (.aload_n 0, 1)) rfl).trans ?_
  refine (px_go (by decide +kernel : pm_fe 215 51 = some (.iconst 1, 1)) rfl).trans ?_
  refine (ry_v1 (idx := 400) (m' := 211) (ci := 12) (by decide +kernel : 234 < 283 ∧ SHF 234 = (12, 76)) (by simp [pm_wl_n, pm_wl_c, pm_w] : pm_wl [vI ((16 * (M 234 42)) + (M 246 (M 234 42).toNat)), vA 247] ≤ 8) (by decide +kernel)).trans ?_
  exact Iff.rfl
theorem r215_55 {d : Nat} {X : Nat × (Nat → Int)} {v : Nat → Int} {M : PH} {K : PV → PS → Prop} {l1 s0 s1 : Int} (h1 : 0 ≤ s1) (h2 : s1 < 32) : pm_Run d 215 55 [vA 234, vI l1] [vI s0, vI s1, vA 247] (GF X, M, PTF v) K ↔ pm_Run d 215 56 [vA 234, vI l1] [] (GF X, pm_sa M 247 (pm_up (M 247) s1.toNat s0), PTF v) K := by
  refine (ry_iast (by decide +kernel : 247 < 283 ∧ SHF 247 = (100, 32)) h1 h2 (by decide +kernel)).trans ?_
  exact Iff.rfl
theorem r215_56 {d : Nat} {X : Nat × (Nat → Int)} {v : Nat → Int} {M : PH} {K : PV → PS → Prop} {l1 : Int} : pm_Run d 215 56 [vA 234, vI l1] [] (GF X, M, PTF v) K ↔ pm_Call d 210 [vA 234, vI 1] (GF X, M, PTF v) (fun r9 S1 => pm_Run d 215 66 [vA 234, vI l1] (pm_push r9 [vI l1, vA 248]) S1 K) := by
  refine (px_go (by decide +kernel : pm_fe 215 56 = some (.aload_n 0, 1)) rfl).trans ?_
  refine (ry_get2 (idx := 90) (ci := 12) (k := 26) (by decide +kernel : 234 < 283 ∧ SHF 234 = (12, 76)) (ptf_l (a := 234) (k := 26) (n := 248) (by decide +kernel)) (by decide +kernel)).trans ?_
  refine (px_go (by decide +kernel : pm_fe 215 60 = some (.iload_n 1, 1)) rfl).trans ?_
  refine (px_go (by decide +kernel : pm_fe 215 61 = some (.aload_n 0, 1)) rfl).trans ?_
  refine (px_go (by decide +kernel : pm_fe 215 62 = some (.iconst 1, 1)) rfl).trans ?_
  refine (ry_v1 (idx := 382) (m' := 210) (ci := 12) (by decide +kernel : 234 < 283 ∧ SHF 234 = (12, 76)) (by simp [pm_wl_n, pm_wl_c, pm_w] : pm_wl [vI l1, vA 248] ≤ 8) (by decide +kernel)).trans ?_
  exact Iff.rfl
theorem r215_66 {d : Nat} {X : Nat × (Nat → Int)} {v : Nat → Int} {M : PH} {K : PV → PS → Prop} {l1 s0 s1 : Int} (h1 : 0 ≤ s1) (h2 : s1 < 32) : pm_Run d 215 66 [vA 234, vI l1] [vI s0, vI s1, vA 248] (GF X, M, PTF v) K ↔ pm_Run d 215 67 [vA 234, vI l1] [] (GF X, pm_sa M 248 (pm_up (M 248) s1.toNat s0), PTF v) K := by
  refine (ry_iast (by decide +kernel : 248 < 283 ∧ SHF 248 = (100, 32)) h1 h2 (by decide +kernel)).trans ?_
  exact Iff.rfl
theorem r215_67 {d : Nat} {X : Nat × (Nat → Int)} {v : Nat → Int} {M : PH} {K : PV → PS → Prop} {l1 : Int} (h1 : inR (M 234 8)) : pm_Run d 215 67 [vA 234, vI l1] [] (GF X, M, PTF v) K ↔ if M 234 8 ≠ 0 then pm_Run d 215 98 [vA 234, vI l1] [] (GF X, M, PTF v) K else pm_Run d 215 74 [vA 234, vI l1] [] (GF X, M, PTF v) K := by
  refine (px_go (by decide +kernel : pm_fe 215 67 = some (.aload_n 0, 1)) rfl).trans ?_
  refine (ry_get0 (idx := 36) (ci := 12) (k := 8) (by decide +kernel : 234 < 283 ∧ SHF 234 = (12, 76)) (by decide +kernel)).trans ?_
  refine (ry_if_ne (off := 27) (tgt := 98) h1 (by decide +kernel)).trans ?_
  exact Iff.rfl
theorem r215_74 {d : Nat} {X : Nat × (Nat → Int)} {v : Nat → Int} {M : PH} {K : PV → PS → Prop} {l1 : Int} (h1 : 0 ≤ l1) (h2 : l1 < 32) (h3 : inR (M 247 l1.toNat)) (h4 : inR (M 248 l1.toNat)) : pm_Run d 215 74 [vA 234, vI l1] [] (GF X, M, PTF v) K ↔ if M 247 l1.toNat ≠ M 248 l1.toNat then pm_Run d 215 98 [vA 234, vI l1] [] (GF X, M, PTF v) K else pm_Run d 215 89 [vA 234, vI l1] [] (GF X, M, PTF v) K := by
  refine (px_go (by decide +kernel : pm_fe 215 74 = some (.aload_n 0, 1)) rfl).trans ?_
  refine (ry_get2 (idx := 87) (ci := 12) (k := 25) (by decide +kernel : 234 < 283 ∧ SHF 234 = (12, 76)) (ptf_l (a := 234) (k := 25) (n := 247) (by decide +kernel)) (by decide +kernel)).trans ?_
  refine (px_go (by decide +kernel : pm_fe 215 78 = some (.iload_n 1, 1)) rfl).trans ?_
  refine (ry_iald (by decide +kernel : 247 < 283 ∧ SHF 247 = (100, 32)) h1 h2 (by decide +kernel)).trans ?_
  refine (px_go (by decide +kernel : pm_fe 215 80 = some (.aload_n 0, 1)) rfl).trans ?_
  refine (ry_get2 (idx := 90) (ci := 12) (k := 26) (by decide +kernel : 234 < 283 ∧ SHF 234 = (12, 76)) (ptf_l (a := 234) (k := 26) (n := 248) (by decide +kernel)) (by decide +kernel)).trans ?_
  refine (px_go (by decide +kernel : pm_fe 215 84 = some (.iload_n 1, 1)) rfl).trans ?_
  refine (ry_iald (by decide +kernel : 248 < 283 ∧ SHF 248 = (100, 32)) h1 h2 (by decide +kernel)).trans ?_
  refine (ry_ic_ne (off := 12) (tgt := 98) h3 h4 (by decide +kernel)).trans ?_
  exact Iff.rfl
theorem r215_89 {d : Nat} {X : Nat × (Nat → Int)} {v : Nat → Int} {M : PH} {K : PV → PS → Prop} {l1 : Int} : pm_Run d 215 89 [vA 234, vI l1] [] (GF X, M, PTF v) K ↔ pm_Call d 183 [vA 234, vI 3, vI (M 234 4)] (GF X, M, PTF v) (fun r9 S1 => pm_Run d 215 98 [vA 234, vI l1] (pm_push r9 []) S1 K) := by
  refine (px_go (by decide +kernel : pm_fe 215 89 = some (.aload_n 0, 1)) rfl).trans ?_
  refine (px_go (by decide +kernel : pm_fe 215 90 = some (.iconst 3, 1)) rfl).trans ?_
  refine (px_go (by decide +kernel : pm_fe 215 91 = some (.aload_n 0, 1)) rfl).trans ?_
  refine (ry_get0 (idx := 23) (ci := 12) (k := 4) (by decide +kernel : 234 < 283 ∧ SHF 234 = (12, 76)) (by decide +kernel)).trans ?_
  refine (ry_v2 (idx := 251) (m' := 183) (ci := 12) (by decide +kernel : 234 < 283 ∧ SHF 234 = (12, 76)) (by simp [pm_wl_n, pm_wl_c, pm_w] : pm_wl [] ≤ 8) (by decide +kernel)).trans ?_
  exact Iff.rfl
theorem r215_98 {d : Nat} {X : Nat × (Nat → Int)} {v : Nat → Int} {M : PH} {K : PV → PS → Prop} {l1 : Int} (h1 : inR (M 234 8)) : pm_Run d 215 98 [vA 234, vI l1] [] (GF X, M, PTF v) K ↔ if M 234 8 ≤ 0 then pm_Run d 215 106 [vA 234, vI l1] [] (GF X, M, PTF v) K else pm_Run d 215 105 [vA 234, vI l1] [] (GF X, M, PTF v) K := by
  refine (px_go (by decide +kernel : pm_fe 215 98 = some (.aload_n 0, 1)) rfl).trans ?_
  refine (ry_get0 (idx := 36) (ci := 12) (k := 8) (by decide +kernel : 234 < 283 ∧ SHF 234 = (12, 76)) (by decide +kernel)).trans ?_
  refine (ry_if_le (off := 4) (tgt := 106) h1 (by decide +kernel)).trans ?_
  exact Iff.rfl
theorem r215_105 {d : Nat} {X : Nat × (Nat → Int)} {v : Nat → Int} {M : PH} {K : PV → PS → Prop} {l1 : Int} : pm_Run d 215 105 [vA 234, vI l1] [] (GF X, M, PTF v) K ↔ K PU (GF X, M, PTF v) := by
  refine (px_rv (by decide +kernel)).trans ?_
  exact Iff.rfl
theorem r215_106 {d : Nat} {X : Nat × (Nat → Int)} {v : Nat → Int} {M : PH} {K : PV → PS → Prop} {l1 : Int} : pm_Run d 215 106 [vA 234, vI l1] [] (GF X, M, PTF v) K ↔ pm_Call d 187 [vA 234] (GF X, M, PTF v) (fun r9 S1 => pm_Run d 215 110 [vA 234, vI l1] (pm_push r9 []) S1 K) := by
  refine (px_go (by decide +kernel : pm_fe 215 106 = some (.aload_n 0, 1)) rfl).trans ?_
  refine (ry_v0 (idx := 268) (m' := 187) (ci := 12) (by decide +kernel : 234 < 283 ∧ SHF 234 = (12, 76)) (by simp [pm_wl_n, pm_wl_c, pm_w] : pm_wl [] ≤ 8) (by decide +kernel)).trans ?_
  exact Iff.rfl
theorem r215_110 {d : Nat} {X : Nat × (Nat → Int)} {v : Nat → Int} {M : PH} {K : PV → PS → Prop} {l1 : Int} : pm_Run d 215 110 [vA 234, vI l1] [] (GF X, M, PTF v) K ↔ pm_Call d 196 [vA 234, vI 1, vI 999] (GF X, M, PTF v) (fun r9 S1 => pm_Run d 215 123 [vA 234, vI l1] (pm_push r9 [vI l1, vA 249]) S1 K) := by
  refine (px_go (by decide +kernel : pm_fe 215 110 = some (.aload_n 0, 1)) rfl).trans ?_
  refine (ry_get2 (idx := 93) (ci := 12) (k := 27) (by decide +kernel : 234 < 283 ∧ SHF 234 = (12, 76)) (ptf_l (a := 234) (k := 27) (n := 249) (by decide +kernel)) (by decide +kernel)).trans ?_
  refine (px_go (by decide +kernel : pm_fe 215 114 = some (.iload_n 1, 1)) rfl).trans ?_
  refine (px_go (by decide +kernel : pm_fe 215 115 = some (.aload_n 0, 1)) rfl).trans ?_
  refine (px_go (by decide +kernel : pm_fe 215 116 = some (.iconst 1, 1)) rfl).trans ?_
  refine (px_go (by decide +kernel : pm_fe 215 117 = some (.sipush 999, 3)) rfl).trans ?_
  refine (ry_v2 (idx := 397) (m' := 196) (ci := 12) (by decide +kernel : 234 < 283 ∧ SHF 234 = (12, 76)) (by simp [pm_wl_n, pm_wl_c, pm_w] : pm_wl [vI l1, vA 249] ≤ 8) (by decide +kernel)).trans ?_
  exact Iff.rfl
theorem r215_123 {d : Nat} {X : Nat × (Nat → Int)} {v : Nat → Int} {M : PH} {K : PV → PS → Prop} {l1 s0 s1 : Int} (h1 : 0 ≤ s1) (h2 : s1 < 32) : pm_Run d 215 123 [vA 234, vI l1] [vI s0, vI s1, vA 249] (GF X, M, PTF v) K ↔ pm_Run d 215 124 [vA 234, vI l1] [] (GF X, pm_sa M 249 (pm_up (M 249) s1.toNat s0), PTF v) K := by
  refine (ry_iast (by decide +kernel : 249 < 283 ∧ SHF 249 = (100, 32)) h1 h2 (by decide +kernel)).trans ?_
  exact Iff.rfl
theorem r215_124 {d : Nat} {X : Nat × (Nat → Int)} {v : Nat → Int} {M : PH} {K : PV → PS → Prop} {l1 : Int} (h1 : inR (M 234 8)) : pm_Run d 215 124 [vA 234, vI l1] [] (GF X, M, PTF v) K ↔ if M 234 8 ≠ 0 then pm_Run d 215 144 [vA 234, vI l1] [] (GF X, M, PTF v) K else pm_Run d 215 131 [vA 234, vI l1] [] (GF X, M, PTF v) K := by
  refine (px_go (by decide +kernel : pm_fe 215 124 = some (.aload_n 0, 1)) rfl).trans ?_
  refine (ry_get0 (idx := 36) (ci := 12) (k := 8) (by decide +kernel : 234 < 283 ∧ SHF 234 = (12, 76)) (by decide +kernel)).trans ?_
  refine (ry_if_ne (off := 16) (tgt := 144) h1 (by decide +kernel)).trans ?_
  exact Iff.rfl
theorem r215_131 {d : Nat} {X : Nat × (Nat → Int)} {v : Nat → Int} {M : PH} {K : PV → PS → Prop} {l1 : Int} (h1 : 0 ≤ (M 234 42)) (h2 : (M 234 42) < 2) : pm_Run d 215 131 [vA 234, vI l1] [] (GF X, M, PTF v) K ↔ pm_Run d 215 144 [vA 234, vI l1] [] (GF X, pm_sa M 246 (pm_up (M 246) (M 234 42).toNat ((M 246 (M 234 42).toNat) + 1)), PTF v) K := by
  refine (px_go (by decide +kernel : pm_fe 215 131 = some (.aload_n 0, 1)) rfl).trans ?_
  refine (ry_get2 (idx := 84) (ci := 12) (k := 24) (by decide +kernel : 234 < 283 ∧ SHF 234 = (12, 76)) (ptf_l (a := 234) (k := 24) (n := 246) (by decide +kernel)) (by decide +kernel)).trans ?_
  refine (px_go (by decide +kernel : pm_fe 215 135 = some (.aload_n 0, 1)) rfl).trans ?_
  refine (ry_get0 (idx := 139) (ci := 12) (k := 42) (by decide +kernel : 234 < 283 ∧ SHF 234 = (12, 76)) (by decide +kernel)).trans ?_
  refine (px_go (by decide +kernel : pm_fe 215 139 = some (.dup2, 1)) rfl).trans ?_
  refine (ry_iald (by decide +kernel : 246 < 283 ∧ SHF 246 = (100, 2)) h1 h2 (by decide +kernel)).trans ?_
  refine (px_go (by decide +kernel : pm_fe 215 141 = some (.iconst 1, 1)) rfl).trans ?_
  refine (px_go (by decide +kernel : pm_fe 215 142 = some (.iadd, 1)) rfl).trans ?_
  refine (ry_iast (by decide +kernel : 246 < 283 ∧ SHF 246 = (100, 2)) h1 h2 (by decide +kernel)).trans ?_
  exact Iff.rfl
theorem r215_144 {d : Nat} {X : Nat × (Nat → Int)} {v : Nat → Int} {M : PH} {K : PV → PS → Prop} {l1 : Int} : pm_Run d 215 144 [vA 234, vI l1] [] (GF X, M, PTF v) K ↔ K PU (GF X, M, PTF v) := by
  refine (px_rv (by decide +kernel)).trans ?_
  exact Iff.rfl
-- X12_clausing clausing()V
theorem r216_0 {d : Nat} {X : Nat × (Nat → Int)} {v : Nat → Int} {M : PH} {K : PV → PS → Prop} (h1 : 0 ≤ (M 234 42)) (h2 : (M 234 42) < 2) (h3 : inR (M 250 (M 234 42).toNat)) : pm_Run d 216 0 [vA 234, PU] [] (GF X, M, PTF v) K ↔ if M 250 (M 234 42).toNat ≠ 6 then pm_Run d 216 19 [vA 234, PU] [vA 234] (GF X, M, PTF v) K else pm_Run d 216 15 [vA 234, PU] [vA 234] (GF X, M, PTF v) K := by
  refine (px_go (by decide +kernel : pm_fe 216 0 = some (.aload_n 0, 1)) rfl).trans ?_
  refine (px_go (by decide +kernel : pm_fe 216 1 = some (.aload_n 0, 1)) rfl).trans ?_
  refine (ry_get2 (idx := 96) (ci := 12) (k := 28) (by decide +kernel : 234 < 283 ∧ SHF 234 = (12, 76)) (ptf_l (a := 234) (k := 28) (n := 250) (by decide +kernel)) (by decide +kernel)).trans ?_
  refine (px_go (by decide +kernel : pm_fe 216 5 = some (.aload_n 0, 1)) rfl).trans ?_
  refine (ry_get0 (idx := 139) (ci := 12) (k := 42) (by decide +kernel : 234 < 283 ∧ SHF 234 = (12, 76)) (by decide +kernel)).trans ?_
  refine (ry_iald (by decide +kernel : 250 < 283 ∧ SHF 250 = (100, 2)) h1 h2 (by decide +kernel)).trans ?_
  refine (px_go (by decide +kernel : pm_fe 216 10 = some (.bipush 6, 2)) rfl).trans ?_
  refine (ry_ic_ne (off := 7) (tgt := 19) h3 (by decide : (-2147483648 ≤ (6 : Int) ∧ (6 : Int) < 2147483648)) (by decide +kernel)).trans ?_
  exact Iff.rfl
theorem r216_15 {d : Nat} {X : Nat × (Nat → Int)} {v : Nat → Int} {M : PH} {K : PV → PS → Prop} : pm_Run d 216 15 [vA 234, PU] [vA 234] (GF X, M, PTF v) K ↔ pm_Run d 216 20 [vA 234, PU] [vI 1, vA 234] (GF X, M, PTF v) K := by
  refine (px_go (by decide +kernel : pm_fe 216 15 = some (.iconst 1, 1)) rfl).trans ?_
  refine (px_goto (off := 4) (tgt := 20) (by decide +kernel)).trans ?_
  exact Iff.rfl
theorem r216_19 {d : Nat} {X : Nat × (Nat → Int)} {v : Nat → Int} {M : PH} {K : PV → PS → Prop} : pm_Run d 216 19 [vA 234, PU] [vA 234] (GF X, M, PTF v) K ↔ pm_Run d 216 20 [vA 234, PU] [vI 0, vA 234] (GF X, M, PTF v) K := by
  refine (px_go (by decide +kernel : pm_fe 216 19 = some (.iconst 0, 1)) rfl).trans ?_
  exact Iff.rfl
theorem r216_20 {d : Nat} {X : Nat × (Nat → Int)} {v : Nat → Int} {M : PH} {K : PV → PS → Prop} {s0 : Int} : pm_Run d 216 20 [vA 234, PU] [vI s0, vA 234] (GF X, M, PTF v) K ↔ pm_Call d 207 [vA 234, vI s0] (GF X, M, PTF v) (fun r9 S1 => pm_Run d 216 23 [vA 234, PU] (pm_push r9 []) S1 K) := by
  refine (ry_v1 (idx := 385) (m' := 207) (ci := 12) (by decide +kernel : 234 < 283 ∧ SHF 234 = (12, 76)) (by simp [pm_wl_n, pm_wl_c, pm_w] : pm_wl [] ≤ 8) (by decide +kernel)).trans ?_
  exact Iff.rfl
theorem r216_23 {d : Nat} {X : Nat × (Nat → Int)} {v : Nat → Int} {M : PH} {K : PV → PS → Prop} {s0 : Int} (h1 : inR s0) : pm_Run d 216 23 [vA 234, PU] [vI s0] (GF X, M, PTF v) K ↔ if s0 ≠ 0 then pm_Run d 216 27 [vA 234, PU] [] (GF X, M, PTF v) K else pm_Run d 216 26 [vA 234, PU] [] (GF X, M, PTF v) K := by
  refine (ry_if_ne (off := 4) (tgt := 27) h1 (by decide +kernel)).trans ?_
  exact Iff.rfl
theorem r216_26 {d : Nat} {X : Nat × (Nat → Int)} {v : Nat → Int} {M : PH} {K : PV → PS → Prop} : pm_Run d 216 26 [vA 234, PU] [] (GF X, M, PTF v) K ↔ K PU (GF X, M, PTF v) := by
  refine (px_rv (by decide +kernel)).trans ?_
  exact Iff.rfl
theorem r216_27 {d : Nat} {X : Nat × (Nat → Int)} {v : Nat → Int} {M : PH} {K : PV → PS → Prop} (h1 : 0 ≤ (M 234 42)) (h2 : (M 234 42) < 2) (h3 : 0 ≤ ((6 * (M 234 42)) + (M 250 (M 234 42).toNat))) (h4 : ((6 * (M 234 42)) + (M 250 (M 234 42).toNat)) < 12) : pm_Run d 216 27 [vA 234, PU] [] (GF X, M, PTF v) K ↔ pm_Run d 216 55 [vA 234, vI ((6 * (M 234 42)) + (M 250 (M 234 42).toNat))] [] (GF X, pm_sa M 251 (pm_up (M 251) ((6 * (M 234 42)) + (M 250 (M 234 42).toNat)).toNat (M 234 41)), PTF v) K := by
  refine (px_go (by decide +kernel : pm_fe 216 27 = some (.bipush 6, 2)) rfl).trans ?_
  refine (px_go (by decide +kernel : pm_fe 216 29 = some (.aload_n 0, 1)) rfl).trans ?_
  refine (ry_get0 (idx := 139) (ci := 12) (k := 42) (by decide +kernel : 234 < 283 ∧ SHF 234 = (12, 76)) (by decide +kernel)).trans ?_
  refine (px_go (by decide +kernel : pm_fe 216 33 = some (.imul, 1)) rfl).trans ?_
  refine (px_go (by decide +kernel : pm_fe 216 34 = some (.aload_n 0, 1)) rfl).trans ?_
  refine (ry_get2 (idx := 96) (ci := 12) (k := 28) (by decide +kernel : 234 < 283 ∧ SHF 234 = (12, 76)) (ptf_l (a := 234) (k := 28) (n := 250) (by decide +kernel)) (by decide +kernel)).trans ?_
  refine (px_go (by decide +kernel : pm_fe 216 38 = some (.aload_n 0, 1)) rfl).trans ?_
  refine (ry_get0 (idx := 139) (ci := 12) (k := 42) (by decide +kernel : 234 < 283 ∧ SHF 234 = (12, 76)) (by decide +kernel)).trans ?_
  refine (ry_iald (by decide +kernel : 250 < 283 ∧ SHF 250 = (100, 2)) h1 h2 (by decide +kernel)).trans ?_
  refine (px_go (by decide +kernel : pm_fe 216 43 = some (.iadd, 1)) rfl).trans ?_
  refine (px_go (by decide +kernel : pm_fe 216 44 = some (.istore_n 1, 1)) rfl).trans ?_
  refine (px_go (by decide +kernel : pm_fe 216 45 = some (.aload_n 0, 1)) rfl).trans ?_
  refine (ry_get2 (idx := 99) (ci := 12) (k := 29) (by decide +kernel : 234 < 283 ∧ SHF 234 = (12, 76)) (ptf_l (a := 234) (k := 29) (n := 251) (by decide +kernel)) (by decide +kernel)).trans ?_
  refine (px_go (by decide +kernel : pm_fe 216 49 = some (.iload_n 1, 1)) rfl).trans ?_
  refine (px_go (by decide +kernel : pm_fe 216 50 = some (.aload_n 0, 1)) rfl).trans ?_
  refine (ry_get0 (idx := 136) (ci := 12) (k := 41) (by decide +kernel : 234 < 283 ∧ SHF 234 = (12, 76)) (by decide +kernel)).trans ?_
  refine (ry_iast (by decide +kernel : 251 < 283 ∧ SHF 251 = (100, 12)) h3 h4 (by decide +kernel)).trans ?_
  exact Iff.rfl
theorem r216_55 {d : Nat} {X : Nat × (Nat → Int)} {v : Nat → Int} {M : PH} {K : PV → PS → Prop} {l1 : Int} : pm_Run d 216 55 [vA 234, vI l1] [] (GF X, M, PTF v) K ↔ pm_Call d 206 [vA 234, vI 1] (GF X, M, PTF v) (fun r9 S1 => pm_Run d 216 60 [vA 234, vI l1] (pm_push r9 []) S1 K) := by
  refine (px_go (by decide +kernel : pm_fe 216 55 = some (.aload_n 0, 1)) rfl).trans ?_
  refine (px_go (by decide +kernel : pm_fe 216 56 = some (.iconst 1, 1)) rfl).trans ?_
  refine (ry_v1 (idx := 403) (m' := 206) (ci := 12) (by decide +kernel : 234 < 283 ∧ SHF 234 = (12, 76)) (by simp [pm_wl_n, pm_wl_c, pm_w] : pm_wl [] ≤ 8) (by decide +kernel)).trans ?_
  exact Iff.rfl
theorem r216_60 {d : Nat} {X : Nat × (Nat → Int)} {v : Nat → Int} {M : PH} {K : PV → PS → Prop} {l1 : Int} (h1 : 0 ≤ l1) (h2 : l1 < 12) : pm_Run d 216 60 [vA 234, vI l1] [] (GF X, M, PTF v) K ↔ pm_Run d 216 70 [vA 234, vI l1] [] (GF X, pm_sa M 252 (pm_up (M 252) l1.toNat (M 234 41)), PTF v) K := by
  refine (px_go (by decide +kernel : pm_fe 216 60 = some (.aload_n 0, 1)) rfl).trans ?_
  refine (ry_get2 (idx := 102) (ci := 12) (k := 30) (by decide +kernel : 234 < 283 ∧ SHF 234 = (12, 76)) (ptf_l (a := 234) (k := 30) (n := 252) (by decide +kernel)) (by decide +kernel)).trans ?_
  refine (px_go (by decide +kernel : pm_fe 216 64 = some (.iload_n 1, 1)) rfl).trans ?_
  refine (px_go (by decide +kernel : pm_fe 216 65 = some (.aload_n 0, 1)) rfl).trans ?_
  refine (ry_get0 (idx := 136) (ci := 12) (k := 41) (by decide +kernel : 234 < 283 ∧ SHF 234 = (12, 76)) (by decide +kernel)).trans ?_
  refine (ry_iast (by decide +kernel : 252 < 283 ∧ SHF 252 = (100, 12)) h1 h2 (by decide +kernel)).trans ?_
  exact Iff.rfl
theorem r216_70 {d : Nat} {X : Nat × (Nat → Int)} {v : Nat → Int} {M : PH} {K : PV → PS → Prop} {l1 : Int} (h1 : inR (M 234 8)) : pm_Run d 216 70 [vA 234, vI l1] [] (GF X, M, PTF v) K ↔ if M 234 8 ≠ 0 then pm_Run d 216 90 [vA 234, vI l1] [] (GF X, M, PTF v) K else pm_Run d 216 77 [vA 234, vI l1] [] (GF X, M, PTF v) K := by
  refine (px_go (by decide +kernel : pm_fe 216 70 = some (.aload_n 0, 1)) rfl).trans ?_
  refine (ry_get0 (idx := 36) (ci := 12) (k := 8) (by decide +kernel : 234 < 283 ∧ SHF 234 = (12, 76)) (by decide +kernel)).trans ?_
  refine (ry_if_ne (off := 16) (tgt := 90) h1 (by decide +kernel)).trans ?_
  exact Iff.rfl
theorem r216_77 {d : Nat} {X : Nat × (Nat → Int)} {v : Nat → Int} {M : PH} {K : PV → PS → Prop} {l1 : Int} (h1 : 0 ≤ (M 234 42)) (h2 : (M 234 42) < 2) : pm_Run d 216 77 [vA 234, vI l1] [] (GF X, M, PTF v) K ↔ pm_Run d 216 90 [vA 234, vI l1] [] (GF X, pm_sa M 250 (pm_up (M 250) (M 234 42).toNat ((M 250 (M 234 42).toNat) + 1)), PTF v) K := by
  refine (px_go (by decide +kernel : pm_fe 216 77 = some (.aload_n 0, 1)) rfl).trans ?_
  refine (ry_get2 (idx := 96) (ci := 12) (k := 28) (by decide +kernel : 234 < 283 ∧ SHF 234 = (12, 76)) (ptf_l (a := 234) (k := 28) (n := 250) (by decide +kernel)) (by decide +kernel)).trans ?_
  refine (px_go (by decide +kernel : pm_fe 216 81 = some (.aload_n 0, 1)) rfl).trans ?_
  refine (ry_get0 (idx := 139) (ci := 12) (k := 42) (by decide +kernel : 234 < 283 ∧ SHF 234 = (12, 76)) (by decide +kernel)).trans ?_
  refine (px_go (by decide +kernel : pm_fe 216 85 = some (.dup2, 1)) rfl).trans ?_
  refine (ry_iald (by decide +kernel : 250 < 283 ∧ SHF 250 = (100, 2)) h1 h2 (by decide +kernel)).trans ?_
  refine (px_go (by decide +kernel : pm_fe 216 87 = some (.iconst 1, 1)) rfl).trans ?_
  refine (px_go (by decide +kernel : pm_fe 216 88 = some (.iadd, 1)) rfl).trans ?_
  refine (ry_iast (by decide +kernel : 250 < 283 ∧ SHF 250 = (100, 2)) h1 h2 (by decide +kernel)).trans ?_
  exact Iff.rfl
theorem r216_90 {d : Nat} {X : Nat × (Nat → Int)} {v : Nat → Int} {M : PH} {K : PV → PS → Prop} {l1 : Int} : pm_Run d 216 90 [vA 234, vI l1] [] (GF X, M, PTF v) K ↔ K PU (GF X, M, PTF v) := by
  refine (px_rv (by decide +kernel)).trans ?_
  exact Iff.rfl
-- X12_pulling pulling()V
theorem r217_0 {d : Nat} {X : Nat × (Nat → Int)} {v : Nat → Int} {M : PH} {K : PV → PS → Prop} (h1 : 0 ≤ (M 234 42)) (h2 : (M 234 42) < 2) (h3 : inR (M 253 (M 234 42).toNat)) : pm_Run d 217 0 [vA 234] [] (GF X, M, PTF v) K ↔ if M 253 (M 234 42).toNat = (-1) then pm_Run d 217 18 [vA 234] [vA 234] (GF X, M, PTF v) K else pm_Run d 217 14 [vA 234] [vA 234] (GF X, M, PTF v) K := by
  refine (px_go (by decide +kernel : pm_fe 217 0 = some (.aload_n 0, 1)) rfl).trans ?_
  refine (px_go (by decide +kernel : pm_fe 217 1 = some (.aload_n 0, 1)) rfl).trans ?_
  refine (ry_get2 (idx := 105) (ci := 12) (k := 31) (by decide +kernel : 234 < 283 ∧ SHF 234 = (12, 76)) (ptf_l (a := 234) (k := 31) (n := 253) (by decide +kernel)) (by decide +kernel)).trans ?_
  refine (px_go (by decide +kernel : pm_fe 217 5 = some (.aload_n 0, 1)) rfl).trans ?_
  refine (ry_get0 (idx := 139) (ci := 12) (k := 42) (by decide +kernel : 234 < 283 ∧ SHF 234 = (12, 76)) (by decide +kernel)).trans ?_
  refine (ry_iald (by decide +kernel : 253 < 283 ∧ SHF 253 = (100, 2)) h1 h2 (by decide +kernel)).trans ?_
  refine (px_go (by decide +kernel : pm_fe 217 10 = some (.iconst (-1), 1)) rfl).trans ?_
  refine (ry_ic_eq (off := 7) (tgt := 18) h3 (by decide : (-2147483648 ≤ ((-1) : Int) ∧ ((-1) : Int) < 2147483648)) (by decide +kernel)).trans ?_
  exact Iff.rfl
theorem r217_14 {d : Nat} {X : Nat × (Nat → Int)} {v : Nat → Int} {M : PH} {K : PV → PS → Prop} : pm_Run d 217 14 [vA 234] [vA 234] (GF X, M, PTF v) K ↔ pm_Run d 217 19 [vA 234] [vI 1, vA 234] (GF X, M, PTF v) K := by
  refine (px_go (by decide +kernel : pm_fe 217 14 = some (.iconst 1, 1)) rfl).trans ?_
  refine (px_goto (off := 4) (tgt := 19) (by decide +kernel)).trans ?_
  exact Iff.rfl
theorem r217_18 {d : Nat} {X : Nat × (Nat → Int)} {v : Nat → Int} {M : PH} {K : PV → PS → Prop} : pm_Run d 217 18 [vA 234] [vA 234] (GF X, M, PTF v) K ↔ pm_Run d 217 19 [vA 234] [vI 0, vA 234] (GF X, M, PTF v) K := by
  refine (px_go (by decide +kernel : pm_fe 217 18 = some (.iconst 0, 1)) rfl).trans ?_
  exact Iff.rfl
theorem r217_19 {d : Nat} {X : Nat × (Nat → Int)} {v : Nat → Int} {M : PH} {K : PV → PS → Prop} {s0 : Int} : pm_Run d 217 19 [vA 234] [vI s0, vA 234] (GF X, M, PTF v) K ↔ pm_Call d 207 [vA 234, vI s0] (GF X, M, PTF v) (fun r9 S1 => pm_Run d 217 22 [vA 234] (pm_push r9 []) S1 K) := by
  refine (ry_v1 (idx := 385) (m' := 207) (ci := 12) (by decide +kernel : 234 < 283 ∧ SHF 234 = (12, 76)) (by simp [pm_wl_n, pm_wl_c, pm_w] : pm_wl [] ≤ 8) (by decide +kernel)).trans ?_
  exact Iff.rfl
theorem r217_22 {d : Nat} {X : Nat × (Nat → Int)} {v : Nat → Int} {M : PH} {K : PV → PS → Prop} {s0 : Int} (h1 : inR s0) : pm_Run d 217 22 [vA 234] [vI s0] (GF X, M, PTF v) K ↔ if s0 ≠ 0 then pm_Run d 217 26 [vA 234] [] (GF X, M, PTF v) K else pm_Run d 217 25 [vA 234] [] (GF X, M, PTF v) K := by
  refine (ry_if_ne (off := 4) (tgt := 26) h1 (by decide +kernel)).trans ?_
  exact Iff.rfl
theorem r217_25 {d : Nat} {X : Nat × (Nat → Int)} {v : Nat → Int} {M : PH} {K : PV → PS → Prop} : pm_Run d 217 25 [vA 234] [] (GF X, M, PTF v) K ↔ K PU (GF X, M, PTF v) := by
  refine (px_rv (by decide +kernel)).trans ?_
  exact Iff.rfl
theorem r217_26 {d : Nat} {X : Nat × (Nat → Int)} {v : Nat → Int} {M : PH} {K : PV → PS → Prop} (h1 : 0 ≤ (M 234 42)) (h2 : (M 234 42) < 2) : pm_Run d 217 26 [vA 234] [] (GF X, M, PTF v) K ↔ pm_Run d 217 39 [vA 234] [] (GF X, pm_sa M 253 (pm_up (M 253) (M 234 42).toNat (M 234 41)), PTF v) K := by
  refine (px_go (by decide +kernel : pm_fe 217 26 = some (.aload_n 0, 1)) rfl).trans ?_
  refine (ry_get2 (idx := 105) (ci := 12) (k := 31) (by decide +kernel : 234 < 283 ∧ SHF 234 = (12, 76)) (ptf_l (a := 234) (k := 31) (n := 253) (by decide +kernel)) (by decide +kernel)).trans ?_
  refine (px_go (by decide +kernel : pm_fe 217 30 = some (.aload_n 0, 1)) rfl).trans ?_
  refine (ry_get0 (idx := 139) (ci := 12) (k := 42) (by decide +kernel : 234 < 283 ∧ SHF 234 = (12, 76)) (by decide +kernel)).trans ?_
  refine (px_go (by decide +kernel : pm_fe 217 34 = some (.aload_n 0, 1)) rfl).trans ?_
  refine (ry_get0 (idx := 136) (ci := 12) (k := 41) (by decide +kernel : 234 < 283 ∧ SHF 234 = (12, 76)) (by decide +kernel)).trans ?_
  refine (ry_iast (by decide +kernel : 253 < 283 ∧ SHF 253 = (100, 2)) h1 h2 (by decide +kernel)).trans ?_
  exact Iff.rfl
theorem r217_39 {d : Nat} {X : Nat × (Nat → Int)} {v : Nat → Int} {M : PH} {K : PV → PS → Prop} : pm_Run d 217 39 [vA 234] [] (GF X, M, PTF v) K ↔ pm_Call d 206 [vA 234, vI 0] (GF X, M, PTF v) (fun r9 S1 => pm_Run d 217 44 [vA 234] (pm_push r9 []) S1 K) := by
  refine (px_go (by decide +kernel : pm_fe 217 39 = some (.aload_n 0, 1)) rfl).trans ?_
  refine (px_go (by decide +kernel : pm_fe 217 40 = some (.iconst 0, 1)) rfl).trans ?_
  refine (ry_v1 (idx := 403) (m' := 206) (ci := 12) (by decide +kernel : 234 < 283 ∧ SHF 234 = (12, 76)) (by simp [pm_wl_n, pm_wl_c, pm_w] : pm_wl [] ≤ 8) (by decide +kernel)).trans ?_
  exact Iff.rfl
theorem r217_44 {d : Nat} {X : Nat × (Nat → Int)} {v : Nat → Int} {M : PH} {K : PV → PS → Prop} (h1 : 0 ≤ (M 234 42)) (h2 : (M 234 42) < 2) : pm_Run d 217 44 [vA 234] [] (GF X, M, PTF v) K ↔ K PU (GF X, pm_sa M 254 (pm_up (M 254) (M 234 42).toNat (M 234 41)), PTF v) := by
  refine (px_go (by decide +kernel : pm_fe 217 44 = some (.aload_n 0, 1)) rfl).trans ?_
  refine (ry_get2 (idx := 108) (ci := 12) (k := 32) (by decide +kernel : 234 < 283 ∧ SHF 234 = (12, 76)) (ptf_l (a := 234) (k := 32) (n := 254) (by decide +kernel)) (by decide +kernel)).trans ?_
  refine (px_go (by decide +kernel : pm_fe 217 48 = some (.aload_n 0, 1)) rfl).trans ?_
  refine (ry_get0 (idx := 139) (ci := 12) (k := 42) (by decide +kernel : 234 < 283 ∧ SHF 234 = (12, 76)) (by decide +kernel)).trans ?_
  refine (px_go (by decide +kernel : pm_fe 217 52 = some (.aload_n 0, 1)) rfl).trans ?_
  refine (ry_get0 (idx := 136) (ci := 12) (k := 41) (by decide +kernel : 234 < 283 ∧ SHF 234 = (12, 76)) (by decide +kernel)).trans ?_
  refine (ry_iast (by decide +kernel : 254 < 283 ∧ SHF 254 = (100, 2)) h1 h2 (by decide +kernel)).trans ?_
  refine (px_rv (by decide +kernel)).trans ?_
  exact Iff.rfl
-- X12_earning earning()V
theorem r218_0 {d : Nat} {X : Nat × (Nat → Int)} {v : Nat → Int} {M : PH} {K : PV → PS → Prop} (h1 : 0 ≤ (M 234 42)) (h2 : (M 234 42) < 2) (h3 : inR (M 255 (M 234 42).toNat)) : pm_Run d 218 0 [vA 234] [] (GF X, M, PTF v) K ↔ if M 255 (M 234 42).toNat = (-1) then pm_Run d 218 18 [vA 234] [vA 234] (GF X, M, PTF v) K else pm_Run d 218 14 [vA 234] [vA 234] (GF X, M, PTF v) K := by
  refine (px_go (by decide +kernel : pm_fe 218 0 = some (.aload_n 0, 1)) rfl).trans ?_
  refine (px_go (by decide +kernel : pm_fe 218 1 = some (.aload_n 0, 1)) rfl).trans ?_
  refine (ry_get2 (idx := 111) (ci := 12) (k := 33) (by decide +kernel : 234 < 283 ∧ SHF 234 = (12, 76)) (ptf_l (a := 234) (k := 33) (n := 255) (by decide +kernel)) (by decide +kernel)).trans ?_
  refine (px_go (by decide +kernel : pm_fe 218 5 = some (.aload_n 0, 1)) rfl).trans ?_
  refine (ry_get0 (idx := 139) (ci := 12) (k := 42) (by decide +kernel : 234 < 283 ∧ SHF 234 = (12, 76)) (by decide +kernel)).trans ?_
  refine (ry_iald (by decide +kernel : 255 < 283 ∧ SHF 255 = (100, 2)) h1 h2 (by decide +kernel)).trans ?_
  refine (px_go (by decide +kernel : pm_fe 218 10 = some (.iconst (-1), 1)) rfl).trans ?_
  refine (ry_ic_eq (off := 7) (tgt := 18) h3 (by decide : (-2147483648 ≤ ((-1) : Int) ∧ ((-1) : Int) < 2147483648)) (by decide +kernel)).trans ?_
  exact Iff.rfl
theorem r218_14 {d : Nat} {X : Nat × (Nat → Int)} {v : Nat → Int} {M : PH} {K : PV → PS → Prop} : pm_Run d 218 14 [vA 234] [vA 234] (GF X, M, PTF v) K ↔ pm_Run d 218 19 [vA 234] [vI 1, vA 234] (GF X, M, PTF v) K := by
  refine (px_go (by decide +kernel : pm_fe 218 14 = some (.iconst 1, 1)) rfl).trans ?_
  refine (px_goto (off := 4) (tgt := 19) (by decide +kernel)).trans ?_
  exact Iff.rfl
theorem r218_18 {d : Nat} {X : Nat × (Nat → Int)} {v : Nat → Int} {M : PH} {K : PV → PS → Prop} : pm_Run d 218 18 [vA 234] [vA 234] (GF X, M, PTF v) K ↔ pm_Run d 218 19 [vA 234] [vI 0, vA 234] (GF X, M, PTF v) K := by
  refine (px_go (by decide +kernel : pm_fe 218 18 = some (.iconst 0, 1)) rfl).trans ?_
  exact Iff.rfl
theorem r218_19 {d : Nat} {X : Nat × (Nat → Int)} {v : Nat → Int} {M : PH} {K : PV → PS → Prop} {s0 : Int} : pm_Run d 218 19 [vA 234] [vI s0, vA 234] (GF X, M, PTF v) K ↔ pm_Call d 207 [vA 234, vI s0] (GF X, M, PTF v) (fun r9 S1 => pm_Run d 218 22 [vA 234] (pm_push r9 []) S1 K) := by
  refine (ry_v1 (idx := 385) (m' := 207) (ci := 12) (by decide +kernel : 234 < 283 ∧ SHF 234 = (12, 76)) (by simp [pm_wl_n, pm_wl_c, pm_w] : pm_wl [] ≤ 8) (by decide +kernel)).trans ?_
  exact Iff.rfl
theorem r218_22 {d : Nat} {X : Nat × (Nat → Int)} {v : Nat → Int} {M : PH} {K : PV → PS → Prop} {s0 : Int} (h1 : inR s0) : pm_Run d 218 22 [vA 234] [vI s0] (GF X, M, PTF v) K ↔ if s0 ≠ 0 then pm_Run d 218 26 [vA 234] [] (GF X, M, PTF v) K else pm_Run d 218 25 [vA 234] [] (GF X, M, PTF v) K := by
  refine (ry_if_ne (off := 4) (tgt := 26) h1 (by decide +kernel)).trans ?_
  exact Iff.rfl
theorem r218_25 {d : Nat} {X : Nat × (Nat → Int)} {v : Nat → Int} {M : PH} {K : PV → PS → Prop} : pm_Run d 218 25 [vA 234] [] (GF X, M, PTF v) K ↔ K PU (GF X, M, PTF v) := by
  refine (px_rv (by decide +kernel)).trans ?_
  exact Iff.rfl
theorem r218_26 {d : Nat} {X : Nat × (Nat → Int)} {v : Nat → Int} {M : PH} {K : PV → PS → Prop} (h1 : 0 ≤ (M 234 42)) (h2 : (M 234 42) < 2) : pm_Run d 218 26 [vA 234] [] (GF X, M, PTF v) K ↔ pm_Run d 218 39 [vA 234] [] (GF X, pm_sa M 255 (pm_up (M 255) (M 234 42).toNat (M 234 41)), PTF v) K := by
  refine (px_go (by decide +kernel : pm_fe 218 26 = some (.aload_n 0, 1)) rfl).trans ?_
  refine (ry_get2 (idx := 111) (ci := 12) (k := 33) (by decide +kernel : 234 < 283 ∧ SHF 234 = (12, 76)) (ptf_l (a := 234) (k := 33) (n := 255) (by decide +kernel)) (by decide +kernel)).trans ?_
  refine (px_go (by decide +kernel : pm_fe 218 30 = some (.aload_n 0, 1)) rfl).trans ?_
  refine (ry_get0 (idx := 139) (ci := 12) (k := 42) (by decide +kernel : 234 < 283 ∧ SHF 234 = (12, 76)) (by decide +kernel)).trans ?_
  refine (px_go (by decide +kernel : pm_fe 218 34 = some (.aload_n 0, 1)) rfl).trans ?_
  refine (ry_get0 (idx := 136) (ci := 12) (k := 41) (by decide +kernel : 234 < 283 ∧ SHF 234 = (12, 76)) (by decide +kernel)).trans ?_
  refine (ry_iast (by decide +kernel : 255 < 283 ∧ SHF 255 = (100, 2)) h1 h2 (by decide +kernel)).trans ?_
  exact Iff.rfl
theorem r218_39 {d : Nat} {X : Nat × (Nat → Int)} {v : Nat → Int} {M : PH} {K : PV → PS → Prop} : pm_Run d 218 39 [vA 234] [] (GF X, M, PTF v) K ↔ pm_Call d 206 [vA 234, vI 0] (GF X, M, PTF v) (fun r9 S1 => pm_Run d 218 44 [vA 234] (pm_push r9 []) S1 K) := by
  refine (px_go (by decide +kernel : pm_fe 218 39 = some (.aload_n 0, 1)) rfl).trans ?_
  refine (px_go (by decide +kernel : pm_fe 218 40 = some (.iconst 0, 1)) rfl).trans ?_
  refine (ry_v1 (idx := 403) (m' := 206) (ci := 12) (by decide +kernel : 234 < 283 ∧ SHF 234 = (12, 76)) (by simp [pm_wl_n, pm_wl_c, pm_w] : pm_wl [] ≤ 8) (by decide +kernel)).trans ?_
  exact Iff.rfl
theorem r218_44 {d : Nat} {X : Nat × (Nat → Int)} {v : Nat → Int} {M : PH} {K : PV → PS → Prop} (h1 : 0 ≤ (M 234 42)) (h2 : (M 234 42) < 2) : pm_Run d 218 44 [vA 234] [] (GF X, M, PTF v) K ↔ K PU (GF X, pm_sa M 256 (pm_up (M 256) (M 234 42).toNat (M 234 41)), PTF v) := by
  refine (px_go (by decide +kernel : pm_fe 218 44 = some (.aload_n 0, 1)) rfl).trans ?_
  refine (ry_get2 (idx := 114) (ci := 12) (k := 34) (by decide +kernel : 234 < 283 ∧ SHF 234 = (12, 76)) (ptf_l (a := 234) (k := 34) (n := 256) (by decide +kernel)) (by decide +kernel)).trans ?_
  refine (px_go (by decide +kernel : pm_fe 218 48 = some (.aload_n 0, 1)) rfl).trans ?_
  refine (ry_get0 (idx := 139) (ci := 12) (k := 42) (by decide +kernel : 234 < 283 ∧ SHF 234 = (12, 76)) (by decide +kernel)).trans ?_
  refine (px_go (by decide +kernel : pm_fe 218 52 = some (.aload_n 0, 1)) rfl).trans ?_
  refine (ry_get0 (idx := 136) (ci := 12) (k := 41) (by decide +kernel : 234 < 283 ∧ SHF 234 = (12, 76)) (by decide +kernel)).trans ?_
  refine (ry_iast (by decide +kernel : 256 < 283 ∧ SHF 256 = (100, 2)) h1 h2 (by decide +kernel)).trans ?_
  refine (px_rv (by decide +kernel)).trans ?_
  exact Iff.rfl
-- X12_levelling levelling(Z)V
theorem r219_0 {d : Nat} {X : Nat × (Nat → Int)} {v : Nat → Int} {M : PH} {K : PV → PS → Prop} {l1 : Int} : pm_Run d 219 0 [vA 234, vI l1, PU] [] (GF X, M, PTF v) K ↔ pm_Call d 207 [vA 234, vI 0] (GF X, M, PTF v) (fun r9 S1 => pm_Run d 219 5 [vA 234, vI l1, PU] (pm_push r9 []) S1 K) := by
  refine (px_go (by decide +kernel : pm_fe 219 0 = some (.aload_n 0, 1)) rfl).trans ?_
  refine (px_go (by decide +kernel : pm_fe 219 1 = some (.iconst 0, 1)) rfl).trans ?_
  refine (ry_v1 (idx := 385) (m' := 207) (ci := 12) (by decide +kernel : 234 < 283 ∧ SHF 234 = (12, 76)) (by simp [pm_wl_n, pm_wl_c, pm_w] : pm_wl [] ≤ 8) (by decide +kernel)).trans ?_
  exact Iff.rfl
theorem r219_5 {d : Nat} {X : Nat × (Nat → Int)} {v : Nat → Int} {M : PH} {K : PV → PS → Prop} {l1 s0 : Int} (h1 : inR s0) : pm_Run d 219 5 [vA 234, vI l1, PU] [vI s0] (GF X, M, PTF v) K ↔ if s0 ≠ 0 then pm_Run d 219 9 [vA 234, vI l1, PU] [] (GF X, M, PTF v) K else pm_Run d 219 8 [vA 234, vI l1, PU] [] (GF X, M, PTF v) K := by
  refine (ry_if_ne (off := 4) (tgt := 9) h1 (by decide +kernel)).trans ?_
  exact Iff.rfl
theorem r219_8 {d : Nat} {X : Nat × (Nat → Int)} {v : Nat → Int} {M : PH} {K : PV → PS → Prop} {l1 : Int} : pm_Run d 219 8 [vA 234, vI l1, PU] [] (GF X, M, PTF v) K ↔ K PU (GF X, M, PTF v) := by
  refine (px_rv (by decide +kernel)).trans ?_
  exact Iff.rfl
theorem r219_9 {d : Nat} {X : Nat × (Nat → Int)} {v : Nat → Int} {M : PH} {K : PV → PS → Prop} {l1 : Int} (h1 : inR l1) : pm_Run d 219 9 [vA 234, vI l1, PU] [] (GF X, M, PTF v) K ↔ if l1 = 0 then pm_Run d 219 23 [vA 234, vI l1, PU] [] (GF X, M, PTF v) K else pm_Run d 219 13 [vA 234, vI l1, PU] [] (GF X, M, PTF v) K := by
  refine (px_go (by decide +kernel : pm_fe 219 9 = some (.iload_n 1, 1)) rfl).trans ?_
  refine (ry_if_eq (off := 13) (tgt := 23) h1 (by decide +kernel)).trans ?_
  exact Iff.rfl
theorem r219_13 {d : Nat} {X : Nat × (Nat → Int)} {v : Nat → Int} {M : PH} {K : PV → PS → Prop} {l1 : Int} : pm_Run d 219 13 [vA 234, vI l1, PU] [] (GF X, M, PTF v) K ↔ pm_Call d 196 [vA 234, vI 0, vI 99] (GF X, M, PTF v) (fun r9 S1 => pm_Run d 219 20 [vA 234, vI l1, PU] (pm_push r9 []) S1 K) := by
  refine (px_go (by decide +kernel : pm_fe 219 13 = some (.aload_n 0, 1)) rfl).trans ?_
  refine (px_go (by decide +kernel : pm_fe 219 14 = some (.iconst 0, 1)) rfl).trans ?_
  refine (px_go (by decide +kernel : pm_fe 219 15 = some (.bipush 99, 2)) rfl).trans ?_
  refine (ry_v2 (idx := 397) (m' := 196) (ci := 12) (by decide +kernel : 234 < 283 ∧ SHF 234 = (12, 76)) (by simp [pm_wl_n, pm_wl_c, pm_w] : pm_wl [] ≤ 8) (by decide +kernel)).trans ?_
  exact Iff.rfl
theorem r219_20 {d : Nat} {X : Nat × (Nat → Int)} {v : Nat → Int} {M : PH} {K : PV → PS → Prop} {l1 s0 : Int} : pm_Run d 219 20 [vA 234, vI l1, PU] [vI s0] (GF X, M, PTF v) K ↔ pm_Run d 219 31 [vA 234, vI l1, PU] [vI s0] (GF X, M, PTF v) K := by
  refine (px_goto (off := 11) (tgt := 31) (by decide +kernel)).trans ?_
  exact Iff.rfl
theorem r219_23 {d : Nat} {X : Nat × (Nat → Int)} {v : Nat → Int} {M : PH} {K : PV → PS → Prop} {l1 : Int} : pm_Run d 219 23 [vA 234, vI l1, PU] [] (GF X, M, PTF v) K ↔ pm_Call d 196 [vA 234, vI 1, vI 999] (GF X, M, PTF v) (fun r9 S1 => pm_Run d 219 31 [vA 234, vI l1, PU] (pm_push r9 []) S1 K) := by
  refine (px_go (by decide +kernel : pm_fe 219 23 = some (.aload_n 0, 1)) rfl).trans ?_
  refine (px_go (by decide +kernel : pm_fe 219 24 = some (.iconst 1, 1)) rfl).trans ?_
  refine (px_go (by decide +kernel : pm_fe 219 25 = some (.sipush 999, 3)) rfl).trans ?_
  refine (ry_v2 (idx := 397) (m' := 196) (ci := 12) (by decide +kernel : 234 < 283 ∧ SHF 234 = (12, 76)) (by simp [pm_wl_n, pm_wl_c, pm_w] : pm_wl [] ≤ 8) (by decide +kernel)).trans ?_
  exact Iff.rfl
theorem r219_31 {d : Nat} {X : Nat × (Nat → Int)} {v : Nat → Int} {M : PH} {K : PV → PS → Prop} {l1 s0 : Int} (h1 : inR (M 234 8)) : pm_Run d 219 31 [vA 234, vI l1, PU] [vI s0] (GF X, M, PTF v) K ↔ if M 234 8 ≤ 0 then pm_Run d 219 40 [vA 234, vI l1, vI s0] [] (GF X, M, PTF v) K else pm_Run d 219 39 [vA 234, vI l1, vI s0] [] (GF X, M, PTF v) K := by
  refine (px_go (by decide +kernel : pm_fe 219 31 = some (.istore_n 2, 1)) rfl).trans ?_
  refine (px_go (by decide +kernel : pm_fe 219 32 = some (.aload_n 0, 1)) rfl).trans ?_
  refine (ry_get0 (idx := 36) (ci := 12) (k := 8) (by decide +kernel : 234 < 283 ∧ SHF 234 = (12, 76)) (by decide +kernel)).trans ?_
  refine (ry_if_le (off := 4) (tgt := 40) h1 (by decide +kernel)).trans ?_
  exact Iff.rfl
theorem r219_39 {d : Nat} {X : Nat × (Nat → Int)} {v : Nat → Int} {M : PH} {K : PV → PS → Prop} {l1 l2 : Int} : pm_Run d 219 39 [vA 234, vI l1, vI l2] [] (GF X, M, PTF v) K ↔ K PU (GF X, M, PTF v) := by
  refine (px_rv (by decide +kernel)).trans ?_
  exact Iff.rfl
theorem r219_40 {d : Nat} {X : Nat × (Nat → Int)} {v : Nat → Int} {M : PH} {K : PV → PS → Prop} {l1 l2 : Int} (h1 : inR l1) : pm_Run d 219 40 [vA 234, vI l1, vI l2] [] (GF X, M, PTF v) K ↔ if l1 = 0 then pm_Run d 219 57 [vA 234, vI l1, vI l2] [] (GF X, M, PTF v) K else pm_Run d 219 44 [vA 234, vI l1, vI l2] [] (GF X, M, PTF v) K := by
  refine (px_go (by decide +kernel : pm_fe 219 40 = some (.iload_n 1, 1)) rfl).trans ?_
  refine (ry_if_eq (off := 16) (tgt := 57) h1 (by decide +kernel)).trans ?_
  exact Iff.rfl
theorem r219_44 {d : Nat} {X : Nat × (Nat → Int)} {v : Nat → Int} {M : PH} {K : PV → PS → Prop} {l1 l2 : Int} (h1 : 0 ≤ (M 234 42)) (h2 : (M 234 42) < 2) : pm_Run d 219 44 [vA 234, vI l1, vI l2] [] (GF X, M, PTF v) K ↔ pm_Run d 219 67 [vA 234, vI l1, vI l2] [] (GF X, pm_sa M 257 (pm_up (M 257) (M 234 42).toNat l2), PTF v) K := by
  refine (px_go (by decide +kernel : pm_fe 219 44 = some (.aload_n 0, 1)) rfl).trans ?_
  refine (ry_get2 (idx := 117) (ci := 12) (k := 35) (by decide +kernel : 234 < 283 ∧ SHF 234 = (12, 76)) (ptf_l (a := 234) (k := 35) (n := 257) (by decide +kernel)) (by decide +kernel)).trans ?_
  refine (px_go (by decide +kernel : pm_fe 219 48 = some (.aload_n 0, 1)) rfl).trans ?_
  refine (ry_get0 (idx := 139) (ci := 12) (k := 42) (by decide +kernel : 234 < 283 ∧ SHF 234 = (12, 76)) (by decide +kernel)).trans ?_
  refine (px_go (by decide +kernel : pm_fe 219 52 = some (.iload_n 2, 1)) rfl).trans ?_
  refine (ry_iast (by decide +kernel : 257 < 283 ∧ SHF 257 = (100, 2)) h1 h2 (by decide +kernel)).trans ?_
  refine (px_goto (off := 13) (tgt := 67) (by decide +kernel)).trans ?_
  exact Iff.rfl
theorem r219_57 {d : Nat} {X : Nat × (Nat → Int)} {v : Nat → Int} {M : PH} {K : PV → PS → Prop} {l1 l2 : Int} (h1 : 0 ≤ (M 234 42)) (h2 : (M 234 42) < 2) : pm_Run d 219 57 [vA 234, vI l1, vI l2] [] (GF X, M, PTF v) K ↔ pm_Run d 219 67 [vA 234, vI l1, vI l2] [] (GF X, pm_sa M 258 (pm_up (M 258) (M 234 42).toNat l2), PTF v) K := by
  refine (px_go (by decide +kernel : pm_fe 219 57 = some (.aload_n 0, 1)) rfl).trans ?_
  refine (ry_get2 (idx := 120) (ci := 12) (k := 36) (by decide +kernel : 234 < 283 ∧ SHF 234 = (12, 76)) (ptf_l (a := 234) (k := 36) (n := 258) (by decide +kernel)) (by decide +kernel)).trans ?_
  refine (px_go (by decide +kernel : pm_fe 219 61 = some (.aload_n 0, 1)) rfl).trans ?_
  refine (ry_get0 (idx := 139) (ci := 12) (k := 42) (by decide +kernel : 234 < 283 ∧ SHF 234 = (12, 76)) (by decide +kernel)).trans ?_
  refine (px_go (by decide +kernel : pm_fe 219 65 = some (.iload_n 2, 1)) rfl).trans ?_
  refine (ry_iast (by decide +kernel : 258 < 283 ∧ SHF 258 = (100, 2)) h1 h2 (by decide +kernel)).trans ?_
  exact Iff.rfl
theorem r219_67 {d : Nat} {X : Nat × (Nat → Int)} {v : Nat → Int} {M : PH} {K : PV → PS → Prop} {l1 l2 : Int} : pm_Run d 219 67 [vA 234, vI l1, vI l2] [] (GF X, M, PTF v) K ↔ K PU (GF X, M, PTF v) := by
  refine (px_rv (by decide +kernel)).trans ?_
  exact Iff.rfl
-- X12_statement statement()V
theorem r220_0 {d : Nat} {X : Nat × (Nat → Int)} {v : Nat → Int} {M : PH} {K : PV → PS → Prop} : pm_Run d 220 0 [vA 234] [] (GF X, M, PTF v) K ↔ pm_Call d 186 [vA 234] (GF X, M, PTF v) (fun r9 S1 => pm_Run d 220 4 [vA 234] (pm_push r9 []) S1 K) := by
  refine (px_go (by decide +kernel : pm_fe 220 0 = some (.aload_n 0, 1)) rfl).trans ?_
  refine (ry_v0 (idx := 262) (m' := 186) (ci := 12) (by decide +kernel : 234 < 283 ∧ SHF 234 = (12, 76)) (by simp [pm_wl_n, pm_wl_c, pm_w] : pm_wl [] ≤ 8) (by decide +kernel)).trans ?_
  exact Iff.rfl
theorem r220_4 {d : Nat} {X : Nat × (Nat → Int)} {v : Nat → Int} {M : PH} {K : PV → PS → Prop} (h1 : inR (M 234 8)) : pm_Run d 220 4 [vA 234] [] (GF X, M, PTF v) K ↔ if M 234 8 ≤ 0 then pm_Run d 220 12 [vA 234] [] (GF X, M, PTF v) K else pm_Run d 220 11 [vA 234] [] (GF X, M, PTF v) K := by
  refine (px_go (by decide +kernel : pm_fe 220 4 = some (.aload_n 0, 1)) rfl).trans ?_
  refine (ry_get0 (idx := 36) (ci := 12) (k := 8) (by decide +kernel : 234 < 283 ∧ SHF 234 = (12, 76)) (by decide +kernel)).trans ?_
  refine (ry_if_le (off := 4) (tgt := 12) h1 (by decide +kernel)).trans ?_
  exact Iff.rfl
theorem r220_11 {d : Nat} {X : Nat × (Nat → Int)} {v : Nat → Int} {M : PH} {K : PV → PS → Prop} : pm_Run d 220 11 [vA 234] [] (GF X, M, PTF v) K ↔ K PU (GF X, M, PTF v) := by
  refine (px_rv (by decide +kernel)).trans ?_
  exact Iff.rfl
theorem r220_12 {d : Nat} {X : Nat × (Nat → Int)} {v : Nat → Int} {M : PH} {K : PV → PS → Prop} : pm_Run d 220 12 [vA 234] [] (GF X, M, PTF v) K ↔ pm_Call d 189 [vA 234, vL 1836019566] (GF X, M, PTF v) (fun r9 S1 => pm_Run d 220 19 [vA 234] (pm_push r9 []) S1 K) := by
  refine (px_go (by decide +kernel : pm_fe 220 12 = some (.aload_n 0, 1)) rfl).trans ?_
  refine (px_ldcL (idx := 273) (x := 1836019566) (by decide +kernel)).trans ?_
  refine (ry_v1 (idx := 356) (m' := 189) (ci := 12) (by decide +kernel : 234 < 283 ∧ SHF 234 = (12, 76)) (by simp [pm_wl_n, pm_wl_c, pm_w] : pm_wl [] ≤ 8) (by decide +kernel)).trans ?_
  exact Iff.rfl
theorem r220_19 {d : Nat} {X : Nat × (Nat → Int)} {v : Nat → Int} {M : PH} {K : PV → PS → Prop} {s0 : Int} (h1 : inR s0) : pm_Run d 220 19 [vA 234] [vI s0] (GF X, M, PTF v) K ↔ if s0 = 0 then pm_Run d 220 29 [vA 234] [] (GF X, M, PTF v) K else pm_Run d 220 22 [vA 234] [] (GF X, M, PTF v) K := by
  refine (ry_if_eq (off := 10) (tgt := 29) h1 (by decide +kernel)).trans ?_
  exact Iff.rfl
theorem r220_22 {d : Nat} {X : Nat × (Nat → Int)} {v : Nat → Int} {M : PH} {K : PV → PS → Prop} : pm_Run d 220 22 [vA 234] [] (GF X, M, PTF v) K ↔ pm_Call d 212 [vA 234] (GF X, M, PTF v) (fun r9 S1 => pm_Run d 220 26 [vA 234] (pm_push r9 []) S1 K) := by
  refine (px_go (by decide +kernel : pm_fe 220 22 = some (.aload_n 0, 1)) rfl).trans ?_
  refine (ry_v0 (idx := 407) (m' := 212) (ci := 12) (by decide +kernel : 234 < 283 ∧ SHF 234 = (12, 76)) (by simp [pm_wl_n, pm_wl_c, pm_w] : pm_wl [] ≤ 8) (by decide +kernel)).trans ?_
  exact Iff.rfl
theorem r220_26 {d : Nat} {X : Nat × (Nat → Int)} {v : Nat → Int} {M : PH} {K : PV → PS → Prop} : pm_Run d 220 26 [vA 234] [] (GF X, M, PTF v) K ↔ pm_Run d 220 176 [vA 234] [] (GF X, M, PTF v) K := by
  refine (px_goto (off := 150) (tgt := 176) (by decide +kernel)).trans ?_
  exact Iff.rfl
theorem r220_29 {d : Nat} {X : Nat × (Nat → Int)} {v : Nat → Int} {M : PH} {K : PV → PS → Prop} : pm_Run d 220 29 [vA 234] [] (GF X, M, PTF v) K ↔ pm_Call d 189 [vA 234, vL 114767740170098] (GF X, M, PTF v) (fun r9 S1 => pm_Run d 220 36 [vA 234] (pm_push r9 []) S1 K) := by
  refine (px_go (by decide +kernel : pm_fe 220 29 = some (.aload_n 0, 1)) rfl).trans ?_
  refine (px_ldcL (idx := 281) (x := 114767740170098) (by decide +kernel)).trans ?_
  refine (ry_v1 (idx := 356) (m' := 189) (ci := 12) (by decide +kernel : 234 < 283 ∧ SHF 234 = (12, 76)) (by simp [pm_wl_n, pm_wl_c, pm_w] : pm_wl [] ≤ 8) (by decide +kernel)).trans ?_
  exact Iff.rfl
theorem r220_36 {d : Nat} {X : Nat × (Nat → Int)} {v : Nat → Int} {M : PH} {K : PV → PS → Prop} {s0 : Int} (h1 : inR s0) : pm_Run d 220 36 [vA 234] [vI s0] (GF X, M, PTF v) K ↔ if s0 = 0 then pm_Run d 220 46 [vA 234] [] (GF X, M, PTF v) K else pm_Run d 220 39 [vA 234] [] (GF X, M, PTF v) K := by
  refine (ry_if_eq (off := 10) (tgt := 46) h1 (by decide +kernel)).trans ?_
  exact Iff.rfl
theorem r220_39 {d : Nat} {X : Nat × (Nat → Int)} {v : Nat → Int} {M : PH} {K : PV → PS → Prop} : pm_Run d 220 39 [vA 234] [] (GF X, M, PTF v) K ↔ pm_Call d 213 [vA 234] (GF X, M, PTF v) (fun r9 S1 => pm_Run d 220 43 [vA 234] (pm_push r9 []) S1 K) := by
  refine (px_go (by decide +kernel : pm_fe 220 39 = some (.aload_n 0, 1)) rfl).trans ?_
  refine (ry_v0 (idx := 410) (m' := 213) (ci := 12) (by decide +kernel : 234 < 283 ∧ SHF 234 = (12, 76)) (by simp [pm_wl_n, pm_wl_c, pm_w] : pm_wl [] ≤ 8) (by decide +kernel)).trans ?_
  exact Iff.rfl
theorem r220_43 {d : Nat} {X : Nat × (Nat → Int)} {v : Nat → Int} {M : PH} {K : PV → PS → Prop} : pm_Run d 220 43 [vA 234] [] (GF X, M, PTF v) K ↔ pm_Run d 220 176 [vA 234] [] (GF X, M, PTF v) K := by
  refine (px_goto (off := 133) (tgt := 176) (by decide +kernel)).trans ?_
  exact Iff.rfl
theorem r220_46 {d : Nat} {X : Nat × (Nat → Int)} {v : Nat → Int} {M : PH} {K : PV → PS → Prop} : pm_Run d 220 46 [vA 234] [] (GF X, M, PTF v) K ↔ pm_Call d 189 [vA 234, vL 1885436275] (GF X, M, PTF v) (fun r9 S1 => pm_Run d 220 53 [vA 234] (pm_push r9 []) S1 K) := by
  refine (px_go (by decide +kernel : pm_fe 220 46 = some (.aload_n 0, 1)) rfl).trans ?_
  refine (px_ldcL (idx := 287) (x := 1885436275) (by decide +kernel)).trans ?_
  refine (ry_v1 (idx := 356) (m' := 189) (ci := 12) (by decide +kernel : 234 < 283 ∧ SHF 234 = (12, 76)) (by simp [pm_wl_n, pm_wl_c, pm_w] : pm_wl [] ≤ 8) (by decide +kernel)).trans ?_
  exact Iff.rfl
theorem r220_53 {d : Nat} {X : Nat × (Nat → Int)} {v : Nat → Int} {M : PH} {K : PV → PS → Prop} {s0 : Int} (h1 : inR s0) : pm_Run d 220 53 [vA 234] [vI s0] (GF X, M, PTF v) K ↔ if s0 = 0 then pm_Run d 220 63 [vA 234] [] (GF X, M, PTF v) K else pm_Run d 220 56 [vA 234] [] (GF X, M, PTF v) K := by
  refine (ry_if_eq (off := 10) (tgt := 63) h1 (by decide +kernel)).trans ?_
  exact Iff.rfl
theorem r220_56 {d : Nat} {X : Nat × (Nat → Int)} {v : Nat → Int} {M : PH} {K : PV → PS → Prop} : pm_Run d 220 56 [vA 234] [] (GF X, M, PTF v) K ↔ pm_Call d 214 [vA 234] (GF X, M, PTF v) (fun r9 S1 => pm_Run d 220 60 [vA 234] (pm_push r9 []) S1 K) := by
  refine (px_go (by decide +kernel : pm_fe 220 56 = some (.aload_n 0, 1)) rfl).trans ?_
  refine (ry_v0 (idx := 413) (m' := 214) (ci := 12) (by decide +kernel : 234 < 283 ∧ SHF 234 = (12, 76)) (by simp [pm_wl_n, pm_wl_c, pm_w] : pm_wl [] ≤ 8) (by decide +kernel)).trans ?_
  exact Iff.rfl
theorem r220_60 {d : Nat} {X : Nat × (Nat → Int)} {v : Nat → Int} {M : PH} {K : PV → PS → Prop} : pm_Run d 220 60 [vA 234] [] (GF X, M, PTF v) K ↔ pm_Run d 220 176 [vA 234] [] (GF X, M, PTF v) K := by
  refine (px_goto (off := 116) (tgt := 176) (by decide +kernel)).trans ?_
  exact Iff.rfl
theorem r220_63 {d : Nat} {X : Nat × (Nat → Int)} {v : Nat → Int} {M : PH} {K : PV → PS → Prop} : pm_Run d 220 63 [vA 234] [] (GF X, M, PTF v) K ↔ pm_Call d 189 [vA 234, vL 1870095731] (GF X, M, PTF v) (fun r9 S1 => pm_Run d 220 70 [vA 234] (pm_push r9 []) S1 K) := by
  refine (px_go (by decide +kernel : pm_fe 220 63 = some (.aload_n 0, 1)) rfl).trans ?_
  refine (px_ldcL (idx := 289) (x := 1870095731) (by decide +kernel)).trans ?_
  refine (ry_v1 (idx := 356) (m' := 189) (ci := 12) (by decide +kernel : 234 < 283 ∧ SHF 234 = (12, 76)) (by simp [pm_wl_n, pm_wl_c, pm_w] : pm_wl [] ≤ 8) (by decide +kernel)).trans ?_
  exact Iff.rfl
theorem r220_70 {d : Nat} {X : Nat × (Nat → Int)} {v : Nat → Int} {M : PH} {K : PV → PS → Prop} {s0 : Int} (h1 : inR s0) : pm_Run d 220 70 [vA 234] [vI s0] (GF X, M, PTF v) K ↔ if s0 = 0 then pm_Run d 220 80 [vA 234] [] (GF X, M, PTF v) K else pm_Run d 220 73 [vA 234] [] (GF X, M, PTF v) K := by
  refine (ry_if_eq (off := 10) (tgt := 80) h1 (by decide +kernel)).trans ?_
  exact Iff.rfl
theorem r220_73 {d : Nat} {X : Nat × (Nat → Int)} {v : Nat → Int} {M : PH} {K : PV → PS → Prop} : pm_Run d 220 73 [vA 234] [] (GF X, M, PTF v) K ↔ pm_Call d 215 [vA 234] (GF X, M, PTF v) (fun r9 S1 => pm_Run d 220 77 [vA 234] (pm_push r9 []) S1 K) := by
  refine (px_go (by decide +kernel : pm_fe 220 73 = some (.aload_n 0, 1)) rfl).trans ?_
  refine (ry_v0 (idx := 416) (m' := 215) (ci := 12) (by decide +kernel : 234 < 283 ∧ SHF 234 = (12, 76)) (by simp [pm_wl_n, pm_wl_c, pm_w] : pm_wl [] ≤ 8) (by decide +kernel)).trans ?_
  exact Iff.rfl
theorem r220_77 {d : Nat} {X : Nat × (Nat → Int)} {v : Nat → Int} {M : PH} {K : PV → PS → Prop} : pm_Run d 220 77 [vA 234] [] (GF X, M, PTF v) K ↔ pm_Run d 220 176 [vA 234] [] (GF X, M, PTF v) K := by
  refine (px_goto (off := 99) (tgt := 176) (by decide +kernel)).trans ?_
  exact Iff.rfl
theorem r220_80 {d : Nat} {X : Nat × (Nat → Int)} {v : Nat → Int} {M : PH} {K : PV → PS → Prop} : pm_Run d 220 80 [vA 234] [] (GF X, M, PTF v) K ↔ pm_Call d 189 [vA 234, vL 109317142704997] (GF X, M, PTF v) (fun r9 S1 => pm_Run d 220 87 [vA 234] (pm_push r9 []) S1 K) := by
  refine (px_go (by decide +kernel : pm_fe 220 80 = some (.aload_n 0, 1)) rfl).trans ?_
  refine (px_ldcL (idx := 291) (x := 109317142704997) (by decide +kernel)).trans ?_
  refine (ry_v1 (idx := 356) (m' := 189) (ci := 12) (by decide +kernel : 234 < 283 ∧ SHF 234 = (12, 76)) (by simp [pm_wl_n, pm_wl_c, pm_w] : pm_wl [] ≤ 8) (by decide +kernel)).trans ?_
  exact Iff.rfl
theorem r220_87 {d : Nat} {X : Nat × (Nat → Int)} {v : Nat → Int} {M : PH} {K : PV → PS → Prop} {s0 : Int} (h1 : inR s0) : pm_Run d 220 87 [vA 234] [vI s0] (GF X, M, PTF v) K ↔ if s0 = 0 then pm_Run d 220 97 [vA 234] [] (GF X, M, PTF v) K else pm_Run d 220 90 [vA 234] [] (GF X, M, PTF v) K := by
  refine (ry_if_eq (off := 10) (tgt := 97) h1 (by decide +kernel)).trans ?_
  exact Iff.rfl
theorem r220_90 {d : Nat} {X : Nat × (Nat → Int)} {v : Nat → Int} {M : PH} {K : PV → PS → Prop} : pm_Run d 220 90 [vA 234] [] (GF X, M, PTF v) K ↔ pm_Call d 216 [vA 234] (GF X, M, PTF v) (fun r9 S1 => pm_Run d 220 94 [vA 234] (pm_push r9 []) S1 K) := by
  refine (px_go (by decide +kernel : pm_fe 220 90 = some (.aload_n 0, 1)) rfl).trans ?_
  refine (ry_v0 (idx := 419) (m' := 216) (ci := 12) (by decide +kernel : 234 < 283 ∧ SHF 234 = (12, 76)) (by simp [pm_wl_n, pm_wl_c, pm_w] : pm_wl [] ≤ 8) (by decide +kernel)).trans ?_
  exact Iff.rfl
theorem r220_94 {d : Nat} {X : Nat × (Nat → Int)} {v : Nat → Int} {M : PH} {K : PV → PS → Prop} : pm_Run d 220 94 [vA 234] [] (GF X, M, PTF v) K ↔ pm_Run d 220 176 [vA 234] [] (GF X, M, PTF v) K := by
  refine (px_goto (off := 82) (tgt := 176) (by decide +kernel)).trans ?_
  exact Iff.rfl
theorem r220_97 {d : Nat} {X : Nat × (Nat → Int)} {v : Nat → Int} {M : PH} {K : PV → PS → Prop} : pm_Run d 220 97 [vA 234] [] (GF X, M, PTF v) K ↔ pm_Call d 189 [vA 234, vL 1886743660] (GF X, M, PTF v) (fun r9 S1 => pm_Run d 220 104 [vA 234] (pm_push r9 []) S1 K) := by
  refine (px_go (by decide +kernel : pm_fe 220 97 = some (.aload_n 0, 1)) rfl).trans ?_
  refine (px_ldcL (idx := 293) (x := 1886743660) (by decide +kernel)).trans ?_
  refine (ry_v1 (idx := 356) (m' := 189) (ci := 12) (by decide +kernel : 234 < 283 ∧ SHF 234 = (12, 76)) (by simp [pm_wl_n, pm_wl_c, pm_w] : pm_wl [] ≤ 8) (by decide +kernel)).trans ?_
  exact Iff.rfl
theorem r220_104 {d : Nat} {X : Nat × (Nat → Int)} {v : Nat → Int} {M : PH} {K : PV → PS → Prop} {s0 : Int} (h1 : inR s0) : pm_Run d 220 104 [vA 234] [vI s0] (GF X, M, PTF v) K ↔ if s0 = 0 then pm_Run d 220 114 [vA 234] [] (GF X, M, PTF v) K else pm_Run d 220 107 [vA 234] [] (GF X, M, PTF v) K := by
  refine (ry_if_eq (off := 10) (tgt := 114) h1 (by decide +kernel)).trans ?_
  exact Iff.rfl
theorem r220_107 {d : Nat} {X : Nat × (Nat → Int)} {v : Nat → Int} {M : PH} {K : PV → PS → Prop} : pm_Run d 220 107 [vA 234] [] (GF X, M, PTF v) K ↔ pm_Call d 217 [vA 234] (GF X, M, PTF v) (fun r9 S1 => pm_Run d 220 111 [vA 234] (pm_push r9 []) S1 K) := by
  refine (px_go (by decide +kernel : pm_fe 220 107 = some (.aload_n 0, 1)) rfl).trans ?_
  refine (ry_v0 (idx := 422) (m' := 217) (ci := 12) (by decide +kernel : 234 < 283 ∧ SHF 234 = (12, 76)) (by simp [pm_wl_n, pm_wl_c, pm_w] : pm_wl [] ≤ 8) (by decide +kernel)).trans ?_
  exact Iff.rfl
theorem r220_111 {d : Nat} {X : Nat × (Nat → Int)} {v : Nat → Int} {M : PH} {K : PV → PS → Prop} : pm_Run d 220 111 [vA 234] [] (GF X, M, PTF v) K ↔ pm_Run d 220 176 [vA 234] [] (GF X, M, PTF v) K := by
  refine (px_goto (off := 65) (tgt := 176) (by decide +kernel)).trans ?_
  exact Iff.rfl
theorem r220_114 {d : Nat} {X : Nat × (Nat → Int)} {v : Nat → Int} {M : PH} {K : PV → PS → Prop} : pm_Run d 220 114 [vA 234] [] (GF X, M, PTF v) K ↔ pm_Call d 189 [vA 234, vL 435426586227] (GF X, M, PTF v) (fun r9 S1 => pm_Run d 220 121 [vA 234] (pm_push r9 []) S1 K) := by
  refine (px_go (by decide +kernel : pm_fe 220 114 = some (.aload_n 0, 1)) rfl).trans ?_
  refine (px_ldcL (idx := 295) (x := 435426586227) (by decide +kernel)).trans ?_
  refine (ry_v1 (idx := 356) (m' := 189) (ci := 12) (by decide +kernel : 234 < 283 ∧ SHF 234 = (12, 76)) (by simp [pm_wl_n, pm_wl_c, pm_w] : pm_wl [] ≤ 8) (by decide +kernel)).trans ?_
  exact Iff.rfl
theorem r220_121 {d : Nat} {X : Nat × (Nat → Int)} {v : Nat → Int} {M : PH} {K : PV → PS → Prop} {s0 : Int} (h1 : inR s0) : pm_Run d 220 121 [vA 234] [vI s0] (GF X, M, PTF v) K ↔ if s0 = 0 then pm_Run d 220 131 [vA 234] [] (GF X, M, PTF v) K else pm_Run d 220 124 [vA 234] [] (GF X, M, PTF v) K := by
  refine (ry_if_eq (off := 10) (tgt := 131) h1 (by decide +kernel)).trans ?_
  exact Iff.rfl
theorem r220_124 {d : Nat} {X : Nat × (Nat → Int)} {v : Nat → Int} {M : PH} {K : PV → PS → Prop} : pm_Run d 220 124 [vA 234] [] (GF X, M, PTF v) K ↔ pm_Call d 218 [vA 234] (GF X, M, PTF v) (fun r9 S1 => pm_Run d 220 128 [vA 234] (pm_push r9 []) S1 K) := by
  refine (px_go (by decide +kernel : pm_fe 220 124 = some (.aload_n 0, 1)) rfl).trans ?_
  refine (ry_v0 (idx := 425) (m' := 218) (ci := 12) (by decide +kernel : 234 < 283 ∧ SHF 234 = (12, 76)) (by simp [pm_wl_n, pm_wl_c, pm_w] : pm_wl [] ≤ 8) (by decide +kernel)).trans ?_
  exact Iff.rfl
theorem r220_128 {d : Nat} {X : Nat × (Nat → Int)} {v : Nat → Int} {M : PH} {K : PV → PS → Prop} : pm_Run d 220 128 [vA 234] [] (GF X, M, PTF v) K ↔ pm_Run d 220 176 [vA 234] [] (GF X, M, PTF v) K := by
  refine (px_goto (off := 48) (tgt := 176) (by decide +kernel)).trans ?_
  exact Iff.rfl
theorem r220_131 {d : Nat} {X : Nat × (Nat → Int)} {v : Nat → Int} {M : PH} {K : PV → PS → Prop} : pm_Run d 220 131 [vA 234] [] (GF X, M, PTF v) K ↔ pm_Call d 189 [vA 234, vL 465558725996] (GF X, M, PTF v) (fun r9 S1 => pm_Run d 220 138 [vA 234] (pm_push r9 []) S1 K) := by
  refine (px_go (by decide +kernel : pm_fe 220 131 = some (.aload_n 0, 1)) rfl).trans ?_
  refine (px_ldcL (idx := 297) (x := 465558725996) (by decide +kernel)).trans ?_
  refine (ry_v1 (idx := 356) (m' := 189) (ci := 12) (by decide +kernel : 234 < 283 ∧ SHF 234 = (12, 76)) (by simp [pm_wl_n, pm_wl_c, pm_w] : pm_wl [] ≤ 8) (by decide +kernel)).trans ?_
  exact Iff.rfl
theorem r220_138 {d : Nat} {X : Nat × (Nat → Int)} {v : Nat → Int} {M : PH} {K : PV → PS → Prop} {s0 : Int} (h1 : inR s0) : pm_Run d 220 138 [vA 234] [vI s0] (GF X, M, PTF v) K ↔ if s0 = 0 then pm_Run d 220 149 [vA 234] [] (GF X, M, PTF v) K else pm_Run d 220 141 [vA 234] [] (GF X, M, PTF v) K := by
  refine (ry_if_eq (off := 11) (tgt := 149) h1 (by decide +kernel)).trans ?_
  exact Iff.rfl
theorem r220_141 {d : Nat} {X : Nat × (Nat → Int)} {v : Nat → Int} {M : PH} {K : PV → PS → Prop} : pm_Run d 220 141 [vA 234] [] (GF X, M, PTF v) K ↔ pm_Call d 219 [vA 234, vI 1] (GF X, M, PTF v) (fun r9 S1 => pm_Run d 220 146 [vA 234] (pm_push r9 []) S1 K) := by
  refine (px_go (by decide +kernel : pm_fe 220 141 = some (.aload_n 0, 1)) rfl).trans ?_
  refine (px_go (by decide +kernel : pm_fe 220 142 = some (.iconst 1, 1)) rfl).trans ?_
  refine (ry_v1 (idx := 428) (m' := 219) (ci := 12) (by decide +kernel : 234 < 283 ∧ SHF 234 = (12, 76)) (by simp [pm_wl_n, pm_wl_c, pm_w] : pm_wl [] ≤ 8) (by decide +kernel)).trans ?_
  exact Iff.rfl
theorem r220_146 {d : Nat} {X : Nat × (Nat → Int)} {v : Nat → Int} {M : PH} {K : PV → PS → Prop} : pm_Run d 220 146 [vA 234] [] (GF X, M, PTF v) K ↔ pm_Run d 220 176 [vA 234] [] (GF X, M, PTF v) K := by
  refine (px_goto (off := 30) (tgt := 176) (by decide +kernel)).trans ?_
  exact Iff.rfl
theorem r220_149 {d : Nat} {X : Nat × (Nat → Int)} {v : Nat → Int} {M : PH} {K : PV → PS → Prop} : pm_Run d 220 149 [vA 234] [] (GF X, M, PTF v) K ↔ pm_Call d 189 [vA 234, vL 1937075307] (GF X, M, PTF v) (fun r9 S1 => pm_Run d 220 156 [vA 234] (pm_push r9 []) S1 K) := by
  refine (px_go (by decide +kernel : pm_fe 220 149 = some (.aload_n 0, 1)) rfl).trans ?_
  refine (px_ldcL (idx := 299) (x := 1937075307) (by decide +kernel)).trans ?_
  refine (ry_v1 (idx := 356) (m' := 189) (ci := 12) (by decide +kernel : 234 < 283 ∧ SHF 234 = (12, 76)) (by simp [pm_wl_n, pm_wl_c, pm_w] : pm_wl [] ≤ 8) (by decide +kernel)).trans ?_
  exact Iff.rfl
theorem r220_156 {d : Nat} {X : Nat × (Nat → Int)} {v : Nat → Int} {M : PH} {K : PV → PS → Prop} {s0 : Int} (h1 : inR s0) : pm_Run d 220 156 [vA 234] [vI s0] (GF X, M, PTF v) K ↔ if s0 = 0 then pm_Run d 220 167 [vA 234] [] (GF X, M, PTF v) K else pm_Run d 220 159 [vA 234] [] (GF X, M, PTF v) K := by
  refine (ry_if_eq (off := 11) (tgt := 167) h1 (by decide +kernel)).trans ?_
  exact Iff.rfl
theorem r220_159 {d : Nat} {X : Nat × (Nat → Int)} {v : Nat → Int} {M : PH} {K : PV → PS → Prop} : pm_Run d 220 159 [vA 234] [] (GF X, M, PTF v) K ↔ pm_Call d 219 [vA 234, vI 0] (GF X, M, PTF v) (fun r9 S1 => pm_Run d 220 164 [vA 234] (pm_push r9 []) S1 K) := by
  refine (px_go (by decide +kernel : pm_fe 220 159 = some (.aload_n 0, 1)) rfl).trans ?_
  refine (px_go (by decide +kernel : pm_fe 220 160 = some (.iconst 0, 1)) rfl).trans ?_
  refine (ry_v1 (idx := 428) (m' := 219) (ci := 12) (by decide +kernel : 234 < 283 ∧ SHF 234 = (12, 76)) (by simp [pm_wl_n, pm_wl_c, pm_w] : pm_wl [] ≤ 8) (by decide +kernel)).trans ?_
  exact Iff.rfl
theorem r220_164 {d : Nat} {X : Nat × (Nat → Int)} {v : Nat → Int} {M : PH} {K : PV → PS → Prop} : pm_Run d 220 164 [vA 234] [] (GF X, M, PTF v) K ↔ pm_Run d 220 176 [vA 234] [] (GF X, M, PTF v) K := by
  refine (px_goto (off := 12) (tgt := 176) (by decide +kernel)).trans ?_
  exact Iff.rfl
theorem r220_167 {d : Nat} {X : Nat × (Nat → Int)} {v : Nat → Int} {M : PH} {K : PV → PS → Prop} : pm_Run d 220 167 [vA 234] [] (GF X, M, PTF v) K ↔ pm_Call d 183 [vA 234, vI 1, vI (M 234 4)] (GF X, M, PTF v) (fun r9 S1 => pm_Run d 220 176 [vA 234] (pm_push r9 []) S1 K) := by
  refine (px_go (by decide +kernel : pm_fe 220 167 = some (.aload_n 0, 1)) rfl).trans ?_
  refine (px_go (by decide +kernel : pm_fe 220 168 = some (.iconst 1, 1)) rfl).trans ?_
  refine (px_go (by decide +kernel : pm_fe 220 169 = some (.aload_n 0, 1)) rfl).trans ?_
  refine (ry_get0 (idx := 23) (ci := 12) (k := 4) (by decide +kernel : 234 < 283 ∧ SHF 234 = (12, 76)) (by decide +kernel)).trans ?_
  refine (ry_v2 (idx := 251) (m' := 183) (ci := 12) (by decide +kernel : 234 < 283 ∧ SHF 234 = (12, 76)) (by simp [pm_wl_n, pm_wl_c, pm_w] : pm_wl [] ≤ 8) (by decide +kernel)).trans ?_
  exact Iff.rfl
theorem r220_176 {d : Nat} {X : Nat × (Nat → Int)} {v : Nat → Int} {M : PH} {K : PV → PS → Prop} : pm_Run d 220 176 [vA 234] [] (GF X, M, PTF v) K ↔ K PU (GF X, M, PTF v) := by
  refine (px_rv (by decide +kernel)).trans ?_
  exact Iff.rfl
-- X12_finishes finishes(I)V
theorem r221_0 {d : Nat} {X : Nat × (Nat → Int)} {v : Nat → Int} {M : PH} {K : PV → PS → Prop} {l1 : Int} : pm_Run d 221 0 [vA 234, vI l1, PU] [] (GF X, M, PTF v) K ↔ pm_Call d 186 [vA 234] (GF X, M, PTF v) (fun r9 S1 => pm_Run d 221 4 [vA 234, vI l1, PU] (pm_push r9 []) S1 K) := by
  refine (px_go (by decide +kernel : pm_fe 221 0 = some (.aload_n 0, 1)) rfl).trans ?_
  refine (ry_v0 (idx := 262) (m' := 186) (ci := 12) (by decide +kernel : 234 < 283 ∧ SHF 234 = (12, 76)) (by simp [pm_wl_n, pm_wl_c, pm_w] : pm_wl [] ≤ 8) (by decide +kernel)).trans ?_
  exact Iff.rfl
theorem r221_4 {d : Nat} {X : Nat × (Nat → Int)} {v : Nat → Int} {M : PH} {K : PV → PS → Prop} {l1 : Int} (h1 : inR (M 234 8)) : pm_Run d 221 4 [vA 234, vI l1, PU] [] (GF X, M, PTF v) K ↔ if M 234 8 ≤ 0 then pm_Run d 221 12 [vA 234, vI l1, PU] [] (GF X, M, PTF v) K else pm_Run d 221 11 [vA 234, vI l1, PU] [] (GF X, M, PTF v) K := by
  refine (px_go (by decide +kernel : pm_fe 221 4 = some (.aload_n 0, 1)) rfl).trans ?_
  refine (ry_get0 (idx := 36) (ci := 12) (k := 8) (by decide +kernel : 234 < 283 ∧ SHF 234 = (12, 76)) (by decide +kernel)).trans ?_
  refine (ry_if_le (off := 4) (tgt := 12) h1 (by decide +kernel)).trans ?_
  exact Iff.rfl
theorem r221_11 {d : Nat} {X : Nat × (Nat → Int)} {v : Nat → Int} {M : PH} {K : PV → PS → Prop} {l1 : Int} : pm_Run d 221 11 [vA 234, vI l1, PU] [] (GF X, M, PTF v) K ↔ K PU (GF X, M, PTF v) := by
  refine (px_rv (by decide +kernel)).trans ?_
  exact Iff.rfl
theorem r221_12 {d : Nat} {X : Nat × (Nat → Int)} {v : Nat → Int} {M : PH} {K : PV → PS → Prop} {l1 : Int} : pm_Run d 221 12 [vA 234, vI l1, PU] [] (GF X, M, PTF v) K ↔ pm_Run d 221 17 [vA 234, vI l1, vI (M 234 5)] [] (GF X, M, PTF v) K := by
  refine (px_go (by decide +kernel : pm_fe 221 12 = some (.aload_n 0, 1)) rfl).trans ?_
  refine (ry_get0 (idx := 26) (ci := 12) (k := 5) (by decide +kernel : 234 < 283 ∧ SHF 234 = (12, 76)) (by decide +kernel)).trans ?_
  refine (px_go (by decide +kernel : pm_fe 221 16 = some (.istore_n 2, 1)) rfl).trans ?_
  exact Iff.rfl
theorem r221_17 {d : Nat} {X : Nat × (Nat → Int)} {v : Nat → Int} {M : PH} {K : PV → PS → Prop} {l1 l2 : Int} (h1 : inR l2) (h2 : inR (M 234 2)) : pm_Run d 221 17 [vA 234, vI l1, vI l2] [] (GF X, M, PTF v) K ↔ if M 234 2 ≤ l2 then pm_Run d 221 53 [vA 234, vI l1, vI l2] [] (GF X, M, PTF v) K else pm_Run d 221 25 [vA 234, vI l1, vI l2] [] (GF X, M, PTF v) K := by
  refine (px_go (by decide +kernel : pm_fe 221 17 = some (.iload_n 2, 1)) rfl).trans ?_
  refine (px_go (by decide +kernel : pm_fe 221 18 = some (.aload_n 0, 1)) rfl).trans ?_
  refine (ry_get0 (idx := 17) (ci := 12) (k := 2) (by decide +kernel : 234 < 283 ∧ SHF 234 = (12, 76)) (by decide +kernel)).trans ?_
  refine (ry_ic_ge (off := 31) (tgt := 53) h1 h2 (by decide +kernel)).trans ?_
  exact Iff.rfl
theorem r221_25 {d : Nat} {X : Nat × (Nat → Int)} {v : Nat → Int} {M : PH} {K : PV → PS → Prop} {l1 l2 : Int} (h1 : 0 ≤ l2) (h2 : l2 < 1800) (h3 : inR (M 235 l2.toNat)) : pm_Run d 221 25 [vA 234, vI l1, vI l2] [] (GF X, M, PTF v) K ↔ if M 235 l2.toNat = 32 then pm_Run d 221 47 [vA 234, vI l1, vI l2] [] (GF X, M, PTF v) K else pm_Run d 221 36 [vA 234, vI l1, vI l2] [] (GF X, M, PTF v) K := by
  refine (px_go (by decide +kernel : pm_fe 221 25 = some (.aload_n 0, 1)) rfl).trans ?_
  refine (ry_get2 (idx := 7) (ci := 12) (k := 0) (by decide +kernel : 234 < 283 ∧ SHF 234 = (12, 76)) (ptf_l (a := 234) (k := 0) (n := 235) (by decide +kernel)) (by decide +kernel)).trans ?_
  refine (px_go (by decide +kernel : pm_fe 221 29 = some (.iload_n 2, 1)) rfl).trans ?_
  refine (ry_iald (by decide +kernel : 235 < 283 ∧ SHF 235 = (100, 1800)) h1 h2 (by decide +kernel)).trans ?_
  refine (px_go (by decide +kernel : pm_fe 221 31 = some (.bipush 32, 2)) rfl).trans ?_
  refine (ry_ic_eq (off := 14) (tgt := 47) h3 (by decide : (-2147483648 ≤ (32 : Int) ∧ (32 : Int) < 2147483648)) (by decide +kernel)).trans ?_
  exact Iff.rfl
theorem r221_36 {d : Nat} {X : Nat × (Nat → Int)} {v : Nat → Int} {M : PH} {K : PV → PS → Prop} {l1 l2 : Int} (h1 : 0 ≤ l2) (h2 : l2 < 1800) (h3 : inR (M 235 l2.toNat)) : pm_Run d 221 36 [vA 234, vI l1, vI l2] [] (GF X, M, PTF v) K ↔ if M 235 l2.toNat ≠ 10 then pm_Run d 221 53 [vA 234, vI l1, vI l2] [] (GF X, M, PTF v) K else pm_Run d 221 47 [vA 234, vI l1, vI l2] [] (GF X, M, PTF v) K := by
  refine (px_go (by decide +kernel : pm_fe 221 36 = some (.aload_n 0, 1)) rfl).trans ?_
  refine (ry_get2 (idx := 7) (ci := 12) (k := 0) (by decide +kernel : 234 < 283 ∧ SHF 234 = (12, 76)) (ptf_l (a := 234) (k := 0) (n := 235) (by decide +kernel)) (by decide +kernel)).trans ?_
  refine (px_go (by decide +kernel : pm_fe 221 40 = some (.iload_n 2, 1)) rfl).trans ?_
  refine (ry_iald (by decide +kernel : 235 < 283 ∧ SHF 235 = (100, 1800)) h1 h2 (by decide +kernel)).trans ?_
  refine (px_go (by decide +kernel : pm_fe 221 42 = some (.bipush 10, 2)) rfl).trans ?_
  refine (ry_ic_ne (off := 9) (tgt := 53) h3 (by decide : (-2147483648 ≤ (10 : Int) ∧ (10 : Int) < 2147483648)) (by decide +kernel)).trans ?_
  exact Iff.rfl
theorem r221_47 {d : Nat} {X : Nat × (Nat → Int)} {v : Nat → Int} {M : PH} {K : PV → PS → Prop} {l1 l2 : Int} : pm_Run d 221 47 [vA 234, vI l1, vI l2] [] (GF X, M, PTF v) K ↔ pm_Run d 221 17 [vA 234, vI l1, vI (l2 + 1)] [] (GF X, M, PTF v) K := by
  refine (px_go (by decide +kernel : pm_fe 221 47 = some (.iinc 2 1, 3)) rfl).trans ?_
  refine (px_goto (off := (-33)) (tgt := 17) (by decide +kernel)).trans ?_
  exact Iff.rfl
theorem r221_53 {d : Nat} {X : Nat × (Nat → Int)} {v : Nat → Int} {M : PH} {K : PV → PS → Prop} {l1 l2 : Int} : pm_Run d 221 53 [vA 234, vI l1, vI l2] [] (GF X, M, PTF v) K ↔ pm_Call d 188 [vA 234, vI 59] (GF X, M, PTF v) (fun r9 S1 => pm_Run d 221 59 [vA 234, vI l1, vI l2] (pm_push r9 []) S1 K) := by
  refine (px_go (by decide +kernel : pm_fe 221 53 = some (.aload_n 0, 1)) rfl).trans ?_
  refine (px_go (by decide +kernel : pm_fe 221 54 = some (.bipush 59, 2)) rfl).trans ?_
  refine (ry_v1 (idx := 265) (m' := 188) (ci := 12) (by decide +kernel : 234 < 283 ∧ SHF 234 = (12, 76)) (by simp [pm_wl_n, pm_wl_c, pm_w] : pm_wl [] ≤ 8) (by decide +kernel)).trans ?_
  exact Iff.rfl
theorem r221_59 {d : Nat} {X : Nat × (Nat → Int)} {v : Nat → Int} {M : PH} {K : PV → PS → Prop} {l1 l2 s0 : Int} (h1 : inR s0) : pm_Run d 221 59 [vA 234, vI l1, vI l2] [vI s0] (GF X, M, PTF v) K ↔ if s0 = 0 then pm_Run d 221 83 [vA 234, vI l1, vI l2] [] (GF X, M, PTF v) K else pm_Run d 221 62 [vA 234, vI l1, vI l2] [] (GF X, M, PTF v) K := by
  refine (ry_if_eq (off := 24) (tgt := 83) h1 (by decide +kernel)).trans ?_
  exact Iff.rfl
theorem r221_62 {d : Nat} {X : Nat × (Nat → Int)} {v : Nat → Int} {M : PH} {K : PV → PS → Prop} {l1 l2 : Int} (h1 : inR l1) : pm_Run d 221 62 [vA 234, vI l1, vI l2] [] (GF X, M, PTF v) K ↔ if l1 ≠ 80 then pm_Run d 221 83 [vA 234, vI l1, vI l2] [] (GF X, M, PTF v) K else pm_Run d 221 68 [vA 234, vI l1, vI l2] [] (GF X, M, PTF v) K := by
  refine (px_go (by decide +kernel : pm_fe 221 62 = some (.iload_n 1, 1)) rfl).trans ?_
  refine (px_go (by decide +kernel : pm_fe 221 63 = some (.bipush 80, 2)) rfl).trans ?_
  refine (ry_ic_ne (off := 18) (tgt := 83) h1 (by decide : (-2147483648 ≤ (80 : Int) ∧ (80 : Int) < 2147483648)) (by decide +kernel)).trans ?_
  exact Iff.rfl
theorem r221_68 {d : Nat} {X : Nat × (Nat → Int)} {v : Nat → Int} {M : PH} {K : PV → PS → Prop} {l1 l2 : Int} (h1 : inR l2) (h2 : inR (M 234 2)) : pm_Run d 221 68 [vA 234, vI l1, vI l2] [] (GF X, M, PTF v) K ↔ if M 234 2 ≤ l2 then pm_Run d 221 83 [vA 234, vI l1, vI l2] [] (GF X, M, PTF v) K else pm_Run d 221 76 [vA 234, vI l1, vI l2] [] (GF X, M, PTF v) K := by
  refine (px_go (by decide +kernel : pm_fe 221 68 = some (.iload_n 2, 1)) rfl).trans ?_
  refine (px_go (by decide +kernel : pm_fe 221 69 = some (.aload_n 0, 1)) rfl).trans ?_
  refine (ry_get0 (idx := 17) (ci := 12) (k := 2) (by decide +kernel : 234 < 283 ∧ SHF 234 = (12, 76)) (by decide +kernel)).trans ?_
  refine (ry_ic_ge (off := 10) (tgt := 83) h1 h2 (by decide +kernel)).trans ?_
  exact Iff.rfl
theorem r221_76 {d : Nat} {X : Nat × (Nat → Int)} {v : Nat → Int} {M : PH} {K : PV → PS → Prop} {l1 l2 : Int} : pm_Run d 221 76 [vA 234, vI l1, vI l2] [] (GF X, M, PTF v) K ↔ pm_Call d 183 [vA 234, vI 6, vI l2] (GF X, M, PTF v) (fun r9 S1 => pm_Run d 221 83 [vA 234, vI l1, vI l2] (pm_push r9 []) S1 K) := by
  refine (px_go (by decide +kernel : pm_fe 221 76 = some (.aload_n 0, 1)) rfl).trans ?_
  refine (px_go (by decide +kernel : pm_fe 221 77 = some (.bipush 6, 2)) rfl).trans ?_
  refine (px_go (by decide +kernel : pm_fe 221 79 = some (.iload_n 2, 1)) rfl).trans ?_
  refine (ry_v2 (idx := 251) (m' := 183) (ci := 12) (by decide +kernel : 234 < 283 ∧ SHF 234 = (12, 76)) (by simp [pm_wl_n, pm_wl_c, pm_w] : pm_wl [] ≤ 8) (by decide +kernel)).trans ?_
  exact Iff.rfl
theorem r221_83 {d : Nat} {X : Nat × (Nat → Int)} {v : Nat → Int} {M : PH} {K : PV → PS → Prop} {l1 l2 : Int} : pm_Run d 221 83 [vA 234, vI l1, vI l2] [] (GF X, M, PTF v) K ↔ pm_Call d 190 [vA 234, vI 59] (GF X, M, PTF v) (fun r9 S1 => pm_Run d 221 89 [vA 234, vI l1, vI l2] (pm_push r9 []) S1 K) := by
  refine (px_go (by decide +kernel : pm_fe 221 83 = some (.aload_n 0, 1)) rfl).trans ?_
  refine (px_go (by decide +kernel : pm_fe 221 84 = some (.bipush 59, 2)) rfl).trans ?_
  refine (ry_v1 (idx := 431) (m' := 190) (ci := 12) (by decide +kernel : 234 < 283 ∧ SHF 234 = (12, 76)) (by simp [pm_wl_n, pm_wl_c, pm_w] : pm_wl [] ≤ 8) (by decide +kernel)).trans ?_
  exact Iff.rfl
theorem r221_89 {d : Nat} {X : Nat × (Nat → Int)} {v : Nat → Int} {M : PH} {K : PV → PS → Prop} {l1 l2 : Int} : pm_Run d 221 89 [vA 234, vI l1, vI l2] [] (GF X, M, PTF v) K ↔ K PU (GF X, M, PTF v) := by
  refine (px_rv (by decide +kernel)).trans ?_
  exact Iff.rfl
-- X12_sea sea()I
theorem r222_0 {d : Nat} {X : Nat × (Nat → Int)} {v : Nat → Int} {M : PH} {K : PV → PS → Prop} : pm_Run d 222 0 [vA 234, PU] [] (GF X, M, PTF v) K ↔ pm_Run d 222 8 [vA 234, PU] [] (GF X, pm_sa M 234 (pm_up (M 234) 2 (M 234 1)), PTF v) K := by
  refine (px_go (by decide +kernel : pm_fe 222 0 = some (.aload_n 0, 1)) rfl).trans ?_
  refine (px_go (by decide +kernel : pm_fe 222 1 = some (.aload_n 0, 1)) rfl).trans ?_
  refine (ry_get0 (idx := 13) (ci := 12) (k := 1) (by decide +kernel : 234 < 283 ∧ SHF 234 = (12, 76)) (by decide +kernel)).trans ?_
  refine (ry_put0 (idx := 17) (ci := 12) (k := 2) (by decide +kernel : 234 < 283 ∧ SHF 234 = (12, 76)) (by decide +kernel)).trans ?_
  exact Iff.rfl
theorem r222_8 {d : Nat} {X : Nat × (Nat → Int)} {v : Nat → Int} {M : PH} {K : PV → PS → Prop} : pm_Run d 222 8 [vA 234, PU] [] (GF X, M, PTF v) K ↔ pm_Run d 222 13 [vA 234, PU] [] (GF X, pm_sa M 234 (pm_up (M 234) 1 0), PTF v) K := by
  refine (px_go (by decide +kernel : pm_fe 222 8 = some (.aload_n 0, 1)) rfl).trans ?_
  refine (px_go (by decide +kernel : pm_fe 222 9 = some (.iconst 0, 1)) rfl).trans ?_
  refine (ry_put0 (idx := 13) (ci := 12) (k := 1) (by decide +kernel : 234 < 283 ∧ SHF 234 = (12, 76)) (by decide +kernel)).trans ?_
  exact Iff.rfl
theorem r222_13 {d : Nat} {X : Nat × (Nat → Int)} {v : Nat → Int} {M : PH} {K : PV → PS → Prop} : pm_Run d 222 13 [vA 234, PU] [] (GF X, M, PTF v) K ↔ pm_Run d 222 18 [vA 234, PU] [] (GF X, pm_sa M 234 (pm_up (M 234) 5 0), PTF v) K := by
  refine (px_go (by decide +kernel : pm_fe 222 13 = some (.aload_n 0, 1)) rfl).trans ?_
  refine (px_go (by decide +kernel : pm_fe 222 14 = some (.iconst 0, 1)) rfl).trans ?_
  refine (ry_put0 (idx := 26) (ci := 12) (k := 5) (by decide +kernel : 234 < 283 ∧ SHF 234 = (12, 76)) (by decide +kernel)).trans ?_
  exact Iff.rfl
theorem r222_18 {d : Nat} {X : Nat × (Nat → Int)} {v : Nat → Int} {M : PH} {K : PV → PS → Prop} : pm_Run d 222 18 [vA 234, PU] [] (GF X, M, PTF v) K ↔ pm_Run d 222 23 [vA 234, PU] [] (GF X, pm_sa M 234 (pm_up (M 234) 8 0), PTF v) K := by
  refine (px_go (by decide +kernel : pm_fe 222 18 = some (.aload_n 0, 1)) rfl).trans ?_
  refine (px_go (by decide +kernel : pm_fe 222 19 = some (.iconst 0, 1)) rfl).trans ?_
  refine (ry_put0 (idx := 36) (ci := 12) (k := 8) (by decide +kernel : 234 < 283 ∧ SHF 234 = (12, 76)) (by decide +kernel)).trans ?_
  exact Iff.rfl
theorem r222_23 {d : Nat} {X : Nat × (Nat → Int)} {v : Nat → Int} {M : PH} {K : PV → PS → Prop} : pm_Run d 222 23 [vA 234, PU] [] (GF X, M, PTF v) K ↔ pm_Run d 222 28 [vA 234, PU] [] (GF X, pm_sa M 234 (pm_up (M 234) 9 (-1)), PTF v) K := by
  refine (px_go (by decide +kernel : pm_fe 222 23 = some (.aload_n 0, 1)) rfl).trans ?_
  refine (px_go (by decide +kernel : pm_fe 222 24 = some (.iconst (-1), 1)) rfl).trans ?_
  refine (ry_put0 (idx := 39) (ci := 12) (k := 9) (by decide +kernel : 234 < 283 ∧ SHF 234 = (12, 76)) (by decide +kernel)).trans ?_
  exact Iff.rfl
theorem r222_28 {d : Nat} {X : Nat × (Nat → Int)} {v : Nat → Int} {M : PH} {K : PV → PS → Prop} : pm_Run d 222 28 [vA 234, PU] [] (GF X, M, PTF v) K ↔ pm_Run d 222 38 [vA 234, PU] [] (GF X, pm_sa M 234 (pm_up (M 234) 42 (1 - (M 234 13))), PTF v) K := by
  refine (px_go (by decide +kernel : pm_fe 222 28 = some (.aload_n 0, 1)) rfl).trans ?_
  refine (px_go (by decide +kernel : pm_fe 222 29 = some (.iconst 1, 1)) rfl).trans ?_
  refine (px_go (by decide +kernel : pm_fe 222 30 = some (.aload_n 0, 1)) rfl).trans ?_
  refine (ry_get0 (idx := 51) (ci := 12) (k := 13) (by decide +kernel : 234 < 283 ∧ SHF 234 = (12, 76)) (by decide +kernel)).trans ?_
  refine (px_go (by decide +kernel : pm_fe 222 34 = some (.isub, 1)) rfl).trans ?_
  refine (ry_put0 (idx := 139) (ci := 12) (k := 42) (by decide +kernel : 234 < 283 ∧ SHF 234 = (12, 76)) (by decide +kernel)).trans ?_
  exact Iff.rfl
theorem r222_38 {d : Nat} {X : Nat × (Nat → Int)} {v : Nat → Int} {M : PH} {K : PV → PS → Prop} (h1 : 0 ≤ (M 234 42)) (h2 : (M 234 42) < 2) : pm_Run d 222 38 [vA 234, PU] [] (GF X, M, PTF v) K ↔ pm_Run d 222 48 [vA 234, PU] [] (GF X, pm_sa M 237 (pm_up (M 237) (M 234 42).toNat 0), PTF v) K := by
  refine (px_go (by decide +kernel : pm_fe 222 38 = some (.aload_n 0, 1)) rfl).trans ?_
  refine (ry_get2 (idx := 57) (ci := 12) (k := 15) (by decide +kernel : 234 < 283 ∧ SHF 234 = (12, 76)) (ptf_l (a := 234) (k := 15) (n := 237) (by decide +kernel)) (by decide +kernel)).trans ?_
  refine (px_go (by decide +kernel : pm_fe 222 42 = some (.aload_n 0, 1)) rfl).trans ?_
  refine (ry_get0 (idx := 139) (ci := 12) (k := 42) (by decide +kernel : 234 < 283 ∧ SHF 234 = (12, 76)) (by decide +kernel)).trans ?_
  refine (px_go (by decide +kernel : pm_fe 222 46 = some (.iconst 0, 1)) rfl).trans ?_
  refine (ry_iast (by decide +kernel : 237 < 283 ∧ SHF 237 = (100, 2)) h1 h2 (by decide +kernel)).trans ?_
  exact Iff.rfl
theorem r222_48 {d : Nat} {X : Nat × (Nat → Int)} {v : Nat → Int} {M : PH} {K : PV → PS → Prop} (h1 : 0 ≤ (M 234 42)) (h2 : (M 234 42) < 2) : pm_Run d 222 48 [vA 234, PU] [] (GF X, M, PTF v) K ↔ pm_Run d 222 58 [vA 234, PU] [] (GF X, pm_sa M 241 (pm_up (M 241) (M 234 42).toNat 0), PTF v) K := by
  refine (px_go (by decide +kernel : pm_fe 222 48 = some (.aload_n 0, 1)) rfl).trans ?_
  refine (ry_get2 (idx := 69) (ci := 12) (k := 19) (by decide +kernel : 234 < 283 ∧ SHF 234 = (12, 76)) (ptf_l (a := 234) (k := 19) (n := 241) (by decide +kernel)) (by decide +kernel)).trans ?_
  refine (px_go (by decide +kernel : pm_fe 222 52 = some (.aload_n 0, 1)) rfl).trans ?_
  refine (ry_get0 (idx := 139) (ci := 12) (k := 42) (by decide +kernel : 234 < 283 ∧ SHF 234 = (12, 76)) (by decide +kernel)).trans ?_
  refine (px_go (by decide +kernel : pm_fe 222 56 = some (.iconst 0, 1)) rfl).trans ?_
  refine (ry_iast (by decide +kernel : 241 < 283 ∧ SHF 241 = (100, 2)) h1 h2 (by decide +kernel)).trans ?_
  exact Iff.rfl
theorem r222_58 {d : Nat} {X : Nat × (Nat → Int)} {v : Nat → Int} {M : PH} {K : PV → PS → Prop} (h1 : 0 ≤ (M 234 42)) (h2 : (M 234 42) < 2) : pm_Run d 222 58 [vA 234, PU] [] (GF X, M, PTF v) K ↔ pm_Run d 222 68 [vA 234, PU] [] (GF X, pm_sa M 246 (pm_up (M 246) (M 234 42).toNat 0), PTF v) K := by
  refine (px_go (by decide +kernel : pm_fe 222 58 = some (.aload_n 0, 1)) rfl).trans ?_
  refine (ry_get2 (idx := 84) (ci := 12) (k := 24) (by decide +kernel : 234 < 283 ∧ SHF 234 = (12, 76)) (ptf_l (a := 234) (k := 24) (n := 246) (by decide +kernel)) (by decide +kernel)).trans ?_
  refine (px_go (by decide +kernel : pm_fe 222 62 = some (.aload_n 0, 1)) rfl).trans ?_
  refine (ry_get0 (idx := 139) (ci := 12) (k := 42) (by decide +kernel : 234 < 283 ∧ SHF 234 = (12, 76)) (by decide +kernel)).trans ?_
  refine (px_go (by decide +kernel : pm_fe 222 66 = some (.iconst 0, 1)) rfl).trans ?_
  refine (ry_iast (by decide +kernel : 246 < 283 ∧ SHF 246 = (100, 2)) h1 h2 (by decide +kernel)).trans ?_
  exact Iff.rfl
theorem r222_68 {d : Nat} {X : Nat × (Nat → Int)} {v : Nat → Int} {M : PH} {K : PV → PS → Prop} (h1 : 0 ≤ (M 234 42)) (h2 : (M 234 42) < 2) : pm_Run d 222 68 [vA 234, PU] [] (GF X, M, PTF v) K ↔ pm_Run d 222 78 [vA 234, PU] [] (GF X, pm_sa M 250 (pm_up (M 250) (M 234 42).toNat 0), PTF v) K := by
  refine (px_go (by decide +kernel : pm_fe 222 68 = some (.aload_n 0, 1)) rfl).trans ?_
  refine (ry_get2 (idx := 96) (ci := 12) (k := 28) (by decide +kernel : 234 < 283 ∧ SHF 234 = (12, 76)) (ptf_l (a := 234) (k := 28) (n := 250) (by decide +kernel)) (by decide +kernel)).trans ?_
  refine (px_go (by decide +kernel : pm_fe 222 72 = some (.aload_n 0, 1)) rfl).trans ?_
  refine (ry_get0 (idx := 139) (ci := 12) (k := 42) (by decide +kernel : 234 < 283 ∧ SHF 234 = (12, 76)) (by decide +kernel)).trans ?_
  refine (px_go (by decide +kernel : pm_fe 222 76 = some (.iconst 0, 1)) rfl).trans ?_
  refine (ry_iast (by decide +kernel : 250 < 283 ∧ SHF 250 = (100, 2)) h1 h2 (by decide +kernel)).trans ?_
  exact Iff.rfl
theorem r222_78 {d : Nat} {X : Nat × (Nat → Int)} {v : Nat → Int} {M : PH} {K : PV → PS → Prop} (h1 : 0 ≤ (M 234 42)) (h2 : (M 234 42) < 2) : pm_Run d 222 78 [vA 234, PU] [] (GF X, M, PTF v) K ↔ pm_Run d 222 88 [vA 234, PU] [] (GF X, pm_sa M 253 (pm_up (M 253) (M 234 42).toNat (-1)), PTF v) K := by
  refine (px_go (by decide +kernel : pm_fe 222 78 = some (.aload_n 0, 1)) rfl).trans ?_
  refine (ry_get2 (idx := 105) (ci := 12) (k := 31) (by decide +kernel : 234 < 283 ∧ SHF 234 = (12, 76)) (ptf_l (a := 234) (k := 31) (n := 253) (by decide +kernel)) (by decide +kernel)).trans ?_
  refine (px_go (by decide +kernel : pm_fe 222 82 = some (.aload_n 0, 1)) rfl).trans ?_
  refine (ry_get0 (idx := 139) (ci := 12) (k := 42) (by decide +kernel : 234 < 283 ∧ SHF 234 = (12, 76)) (by decide +kernel)).trans ?_
  refine (px_go (by decide +kernel : pm_fe 222 86 = some (.iconst (-1), 1)) rfl).trans ?_
  refine (ry_iast (by decide +kernel : 253 < 283 ∧ SHF 253 = (100, 2)) h1 h2 (by decide +kernel)).trans ?_
  exact Iff.rfl
theorem r222_88 {d : Nat} {X : Nat × (Nat → Int)} {v : Nat → Int} {M : PH} {K : PV → PS → Prop} (h1 : 0 ≤ (M 234 42)) (h2 : (M 234 42) < 2) : pm_Run d 222 88 [vA 234, PU] [] (GF X, M, PTF v) K ↔ pm_Run d 222 98 [vA 234, PU] [] (GF X, pm_sa M 255 (pm_up (M 255) (M 234 42).toNat (-1)), PTF v) K := by
  refine (px_go (by decide +kernel : pm_fe 222 88 = some (.aload_n 0, 1)) rfl).trans ?_
  refine (ry_get2 (idx := 111) (ci := 12) (k := 33) (by decide +kernel : 234 < 283 ∧ SHF 234 = (12, 76)) (ptf_l (a := 234) (k := 33) (n := 255) (by decide +kernel)) (by decide +kernel)).trans ?_
  refine (px_go (by decide +kernel : pm_fe 222 92 = some (.aload_n 0, 1)) rfl).trans ?_
  refine (ry_get0 (idx := 139) (ci := 12) (k := 42) (by decide +kernel : 234 < 283 ∧ SHF 234 = (12, 76)) (by decide +kernel)).trans ?_
  refine (px_go (by decide +kernel : pm_fe 222 96 = some (.iconst (-1), 1)) rfl).trans ?_
  refine (ry_iast (by decide +kernel : 255 < 283 ∧ SHF 255 = (100, 2)) h1 h2 (by decide +kernel)).trans ?_
  exact Iff.rfl
theorem r222_98 {d : Nat} {X : Nat × (Nat → Int)} {v : Nat → Int} {M : PH} {K : PV → PS → Prop} (h1 : 0 ≤ (M 234 42)) (h2 : (M 234 42) < 2) : pm_Run d 222 98 [vA 234, PU] [] (GF X, M, PTF v) K ↔ pm_Run d 222 109 [vA 234, PU] [] (GF X, pm_sa M 257 (pm_up (M 257) (M 234 42).toNat 20), PTF v) K := by
  refine (px_go (by decide +kernel : pm_fe 222 98 = some (.aload_n 0, 1)) rfl).trans ?_
  refine (ry_get2 (idx := 117) (ci := 12) (k := 35) (by decide +kernel : 234 < 283 ∧ SHF 234 = (12, 76)) (ptf_l (a := 234) (k := 35) (n := 257) (by decide +kernel)) (by decide +kernel)).trans ?_
  refine (px_go (by decide +kernel : pm_fe 222 102 = some (.aload_n 0, 1)) rfl).trans ?_
  refine (ry_get0 (idx := 139) (ci := 12) (k := 42) (by decide +kernel : 234 < 283 ∧ SHF 234 = (12, 76)) (by decide +kernel)).trans ?_
  refine (px_go (by decide +kernel : pm_fe 222 106 = some (.bipush 20, 2)) rfl).trans ?_
  refine (ry_iast (by decide +kernel : 257 < 283 ∧ SHF 257 = (100, 2)) h1 h2 (by decide +kernel)).trans ?_
  exact Iff.rfl
theorem r222_109 {d : Nat} {X : Nat × (Nat → Int)} {v : Nat → Int} {M : PH} {K : PV → PS → Prop} (h1 : 0 ≤ (M 234 42)) (h2 : (M 234 42) < 2) : pm_Run d 222 109 [vA 234, PU] [] (GF X, M, PTF v) K ↔ pm_Run d 222 120 [vA 234, PU] [] (GF X, pm_sa M 258 (pm_up (M 258) (M 234 42).toNat 50), PTF v) K := by
  refine (px_go (by decide +kernel : pm_fe 222 109 = some (.aload_n 0, 1)) rfl).trans ?_
  refine (ry_get2 (idx := 120) (ci := 12) (k := 36) (by decide +kernel : 234 < 283 ∧ SHF 234 = (12, 76)) (ptf_l (a := 234) (k := 36) (n := 258) (by decide +kernel)) (by decide +kernel)).trans ?_
  refine (px_go (by decide +kernel : pm_fe 222 113 = some (.aload_n 0, 1)) rfl).trans ?_
  refine (ry_get0 (idx := 139) (ci := 12) (k := 42) (by decide +kernel : 234 < 283 ∧ SHF 234 = (12, 76)) (by decide +kernel)).trans ?_
  refine (px_go (by decide +kernel : pm_fe 222 117 = some (.bipush 50, 2)) rfl).trans ?_
  refine (ry_iast (by decide +kernel : 258 < 283 ∧ SHF 258 = (100, 2)) h1 h2 (by decide +kernel)).trans ?_
  exact Iff.rfl
theorem r222_120 {d : Nat} {X : Nat × (Nat → Int)} {v : Nat → Int} {M : PH} {K : PV → PS → Prop} : pm_Run d 222 120 [vA 234, PU] [] (GF X, M, PTF v) K ↔ pm_Run d 222 125 [vA 234, PU] [] (GF X, pm_sa M 234 (pm_up (M 234) 41 0), PTF v) K := by
  refine (px_go (by decide +kernel : pm_fe 222 120 = some (.aload_n 0, 1)) rfl).trans ?_
  refine (px_go (by decide +kernel : pm_fe 222 121 = some (.iconst 0, 1)) rfl).trans ?_
  refine (ry_put0 (idx := 136) (ci := 12) (k := 41) (by decide +kernel : 234 < 283 ∧ SHF 234 = (12, 76)) (by decide +kernel)).trans ?_
  exact Iff.rfl
theorem r222_125 {d : Nat} {X : Nat × (Nat → Int)} {v : Nat → Int} {M : PH} {K : PV → PS → Prop} : pm_Run d 222 125 [vA 234, PU] [] (GF X, M, PTF v) K ↔ pm_Call d 187 [vA 234] (GF X, M, PTF v) (fun r9 S1 => pm_Run d 222 131 [vA 234, vI 1] (pm_push r9 []) S1 K) := by
  refine (px_go (by decide +kernel : pm_fe 222 125 = some (.iconst 1, 1)) rfl).trans ?_
  refine (px_go (by decide +kernel : pm_fe 222 126 = some (.istore_n 1, 1)) rfl).trans ?_
  refine (px_go (by decide +kernel : pm_fe 222 127 = some (.aload_n 0, 1)) rfl).trans ?_
  refine (ry_v0 (idx := 268) (m' := 187) (ci := 12) (by decide +kernel : 234 < 283 ∧ SHF 234 = (12, 76)) (by simp [pm_wl_n, pm_wl_c, pm_w] : pm_wl [] ≤ 8) (by decide +kernel)).trans ?_
  exact Iff.rfl
theorem r222_131 {d : Nat} {X : Nat × (Nat → Int)} {v : Nat → Int} {M : PH} {K : PV → PS → Prop} {l1 : Int} : pm_Run d 222 131 [vA 234, vI l1] [] (GF X, M, PTF v) K ↔ pm_Call d 208 [vA 234, vL 7562593] (GF X, M, PTF v) (fun r9 S1 => pm_Run d 222 138 [vA 234, vI l1] (pm_push r9 []) S1 K) := by
  refine (px_go (by decide +kernel : pm_fe 222 131 = some (.aload_n 0, 1)) rfl).trans ?_
  refine (px_ldcL (idx := 271) (x := 7562593) (by decide +kernel)).trans ?_
  refine (ry_v1 (idx := 393) (m' := 208) (ci := 12) (by decide +kernel : 234 < 283 ∧ SHF 234 = (12, 76)) (by simp [pm_wl_n, pm_wl_c, pm_w] : pm_wl [] ≤ 8) (by decide +kernel)).trans ?_
  exact Iff.rfl
theorem r222_138 {d : Nat} {X : Nat × (Nat → Int)} {v : Nat → Int} {M : PH} {K : PV → PS → Prop} {l1 : Int} : pm_Run d 222 138 [vA 234, vI l1] [] (GF X, M, PTF v) K ↔ pm_Call d 196 [vA 234, vI 4, vI 24] (GF X, M, PTF v) (fun r9 S1 => pm_Run d 222 153 [vA 234, vI l1] (pm_push r9 [vI (M 234 42), vA 236]) S1 K) := by
  refine (px_go (by decide +kernel : pm_fe 222 138 = some (.aload_n 0, 1)) rfl).trans ?_
  refine (ry_get2 (idx := 54) (ci := 12) (k := 14) (by decide +kernel : 234 < 283 ∧ SHF 234 = (12, 76)) (ptf_l (a := 234) (k := 14) (n := 236) (by decide +kernel)) (by decide +kernel)).trans ?_
  refine (px_go (by decide +kernel : pm_fe 222 142 = some (.aload_n 0, 1)) rfl).trans ?_
  refine (ry_get0 (idx := 139) (ci := 12) (k := 42) (by decide +kernel : 234 < 283 ∧ SHF 234 = (12, 76)) (by decide +kernel)).trans ?_
  refine (px_go (by decide +kernel : pm_fe 222 146 = some (.aload_n 0, 1)) rfl).trans ?_
  refine (px_go (by decide +kernel : pm_fe 222 147 = some (.iconst 4, 1)) rfl).trans ?_
  refine (px_go (by decide +kernel : pm_fe 222 148 = some (.bipush 24, 2)) rfl).trans ?_
  refine (ry_v2 (idx := 397) (m' := 196) (ci := 12) (by decide +kernel : 234 < 283 ∧ SHF 234 = (12, 76)) (by simp [pm_wl_n, pm_wl_c, pm_w] : pm_wl [vI (M 234 42), vA 236] ≤ 8) (by decide +kernel)).trans ?_
  exact Iff.rfl
theorem r222_153 {d : Nat} {X : Nat × (Nat → Int)} {v : Nat → Int} {M : PH} {K : PV → PS → Prop} {l1 s0 s1 : Int} (h1 : 0 ≤ s1) (h2 : s1 < 2) : pm_Run d 222 153 [vA 234, vI l1] [vI s0, vI s1, vA 236] (GF X, M, PTF v) K ↔ pm_Run d 222 154 [vA 234, vI l1] [] (GF X, pm_sa M 236 (pm_up (M 236) s1.toNat s0), PTF v) K := by
  refine (ry_iast (by decide +kernel : 236 < 283 ∧ SHF 236 = (100, 2)) h1 h2 (by decide +kernel)).trans ?_
  exact Iff.rfl
theorem r222_154 {d : Nat} {X : Nat × (Nat → Int)} {v : Nat → Int} {M : PH} {K : PV → PS → Prop} {l1 : Int} : pm_Run d 222 154 [vA 234, vI l1] [] (GF X, M, PTF v) K ↔ pm_Call d 221 [vA 234, vI l1] (GF X, M, PTF v) (fun r9 S1 => pm_Run d 222 159 [vA 234, vI l1] (pm_push r9 []) S1 K) := by
  refine (px_go (by decide +kernel : pm_fe 222 154 = some (.aload_n 0, 1)) rfl).trans ?_
  refine (px_go (by decide +kernel : pm_fe 222 155 = some (.iload_n 1, 1)) rfl).trans ?_
  refine (ry_v1 (idx := 433) (m' := 221) (ci := 12) (by decide +kernel : 234 < 283 ∧ SHF 234 = (12, 76)) (by simp [pm_wl_n, pm_wl_c, pm_w] : pm_wl [] ≤ 8) (by decide +kernel)).trans ?_
  exact Iff.rfl
theorem r222_159 {d : Nat} {X : Nat × (Nat → Int)} {v : Nat → Int} {M : PH} {K : PV → PS → Prop} {l1 : Int} (h1 : inR (M 234 8)) : pm_Run d 222 159 [vA 234, vI l1] [] (GF X, M, PTF v) K ↔ if M 234 8 ≠ 0 then pm_Run d 222 188 [vA 234, vI l1] [] (GF X, M, PTF v) K else pm_Run d 222 166 [vA 234, vI l1] [] (GF X, M, PTF v) K := by
  refine (px_go (by decide +kernel : pm_fe 222 159 = some (.aload_n 0, 1)) rfl).trans ?_
  refine (ry_get0 (idx := 36) (ci := 12) (k := 8) (by decide +kernel : 234 < 283 ∧ SHF 234 = (12, 76)) (by decide +kernel)).trans ?_
  refine (ry_if_ne (off := 25) (tgt := 188) h1 (by decide +kernel)).trans ?_
  exact Iff.rfl
theorem r222_166 {d : Nat} {X : Nat × (Nat → Int)} {v : Nat → Int} {M : PH} {K : PV → PS → Prop} {l1 : Int} (h1 : inR (M 234 3)) : pm_Run d 222 166 [vA 234, vI l1] [] (GF X, M, PTF v) K ↔ if M 234 3 = 0 then pm_Run d 222 188 [vA 234, vI l1] [] (GF X, M, PTF v) K else pm_Run d 222 173 [vA 234, vI l1] [] (GF X, M, PTF v) K := by
  refine (px_go (by decide +kernel : pm_fe 222 166 = some (.aload_n 0, 1)) rfl).trans ?_
  refine (ry_get0 (idx := 20) (ci := 12) (k := 3) (by decide +kernel : 234 < 283 ∧ SHF 234 = (12, 76)) (by decide +kernel)).trans ?_
  refine (ry_if_eq (off := 18) (tgt := 188) h1 (by decide +kernel)).trans ?_
  exact Iff.rfl
theorem r222_173 {d : Nat} {X : Nat × (Nat → Int)} {v : Nat → Int} {M : PH} {K : PV → PS → Prop} {l1 : Int} : pm_Run d 222 173 [vA 234, vI l1] [] (GF X, M, PTF v) K ↔ pm_Call d 220 [vA 234] (GF X, M, PTF v) (fun r9 S1 => pm_Run d 222 177 [vA 234, vI l1] (pm_push r9 []) S1 K) := by
  refine (px_go (by decide +kernel : pm_fe 222 173 = some (.aload_n 0, 1)) rfl).trans ?_
  refine (ry_v0 (idx := 436) (m' := 220) (ci := 12) (by decide +kernel : 234 < 283 ∧ SHF 234 = (12, 76)) (by simp [pm_wl_n, pm_wl_c, pm_w] : pm_wl [] ≤ 8) (by decide +kernel)).trans ?_
  exact Iff.rfl
theorem r222_177 {d : Nat} {X : Nat × (Nat → Int)} {v : Nat → Int} {M : PH} {K : PV → PS → Prop} {l1 : Int} : pm_Run d 222 177 [vA 234, vI l1] [] (GF X, M, PTF v) K ↔ pm_Call d 221 [vA 234, vI (l1 + 1)] (GF X, M, PTF v) (fun r9 S1 => pm_Run d 222 185 [vA 234, vI (l1 + 1)] (pm_push r9 []) S1 K) := by
  refine (px_go (by decide +kernel : pm_fe 222 177 = some (.iinc 1 1, 3)) rfl).trans ?_
  refine (px_go (by decide +kernel : pm_fe 222 180 = some (.aload_n 0, 1)) rfl).trans ?_
  refine (px_go (by decide +kernel : pm_fe 222 181 = some (.iload_n 1, 1)) rfl).trans ?_
  refine (ry_v1 (idx := 433) (m' := 221) (ci := 12) (by decide +kernel : 234 < 283 ∧ SHF 234 = (12, 76)) (by simp [pm_wl_n, pm_wl_c, pm_w] : pm_wl [] ≤ 8) (by decide +kernel)).trans ?_
  exact Iff.rfl
theorem r222_185 {d : Nat} {X : Nat × (Nat → Int)} {v : Nat → Int} {M : PH} {K : PV → PS → Prop} {l1 : Int} : pm_Run d 222 185 [vA 234, vI l1] [] (GF X, M, PTF v) K ↔ pm_Run d 222 159 [vA 234, vI l1] [] (GF X, M, PTF v) K := by
  refine (px_goto (off := (-26)) (tgt := 159) (by decide +kernel)).trans ?_
  exact Iff.rfl
theorem r222_188 {d : Nat} {X : Nat × (Nat → Int)} {v : Nat → Int} {M : PH} {K : PV → PS → Prop} {l1 : Int} : pm_Run d 222 188 [vA 234, vI l1] [] (GF X, M, PTF v) K ↔ pm_Run d 222 196 [vA 234, vI l1] [] (GF X, pm_sa M 234 (pm_up (M 234) 10 (M 234 8)), PTF v) K := by
  refine (px_go (by decide +kernel : pm_fe 222 188 = some (.aload_n 0, 1)) rfl).trans ?_
  refine (px_go (by decide +kernel : pm_fe 222 189 = some (.aload_n 0, 1)) rfl).trans ?_
  refine (ry_get0 (idx := 36) (ci := 12) (k := 8) (by decide +kernel : 234 < 283 ∧ SHF 234 = (12, 76)) (by decide +kernel)).trans ?_
  refine (ry_put0 (idx := 42) (ci := 12) (k := 10) (by decide +kernel : 234 < 283 ∧ SHF 234 = (12, 76)) (by decide +kernel)).trans ?_
  exact Iff.rfl
theorem r222_196 {d : Nat} {X : Nat × (Nat → Int)} {v : Nat → Int} {M : PH} {K : PV → PS → Prop} {l1 : Int} : pm_Run d 222 196 [vA 234, vI l1] [] (GF X, M, PTF v) K ↔ pm_Run d 222 204 [vA 234, vI l1] [] (GF X, pm_sa M 234 (pm_up (M 234) 11 (M 234 9)), PTF v) K := by
  refine (px_go (by decide +kernel : pm_fe 222 196 = some (.aload_n 0, 1)) rfl).trans ?_
  refine (px_go (by decide +kernel : pm_fe 222 197 = some (.aload_n 0, 1)) rfl).trans ?_
  refine (ry_get0 (idx := 39) (ci := 12) (k := 9) (by decide +kernel : 234 < 283 ∧ SHF 234 = (12, 76)) (by decide +kernel)).trans ?_
  refine (ry_put0 (idx := 45) (ci := 12) (k := 11) (by decide +kernel : 234 < 283 ∧ SHF 234 = (12, 76)) (by decide +kernel)).trans ?_
  exact Iff.rfl
theorem r222_204 {d : Nat} {X : Nat × (Nat → Int)} {v : Nat → Int} {M : PH} {K : PV → PS → Prop} {l1 : Int} (h1 : inR (M 234 8)) : pm_Run d 222 204 [vA 234, vI l1] [] (GF X, M, PTF v) K ↔ if M 234 8 ≤ 0 then pm_Run d 222 217 [vA 234, vI l1] [] (GF X, M, PTF v) K else pm_Run d 222 211 [vA 234, vI l1] [] (GF X, M, PTF v) K := by
  refine (px_go (by decide +kernel : pm_fe 222 204 = some (.aload_n 0, 1)) rfl).trans ?_
  refine (ry_get0 (idx := 36) (ci := 12) (k := 8) (by decide +kernel : 234 < 283 ∧ SHF 234 = (12, 76)) (by decide +kernel)).trans ?_
  refine (ry_if_le (off := 9) (tgt := 217) h1 (by decide +kernel)).trans ?_
  exact Iff.rfl
theorem r222_211 {d : Nat} {X : Nat × (Nat → Int)} {v : Nat → Int} {M : PH} {K : PV → PS → Prop} {l1 : Int} : pm_Run d 222 211 [vA 234, vI l1] [] (GF X, M, PTF v) K ↔ pm_Call d 224 [vA 234, vI 1] (GF X, M, PTF v) (fun r9 S1 => pm_Run d 222 216 [vA 234, vI l1] (pm_push r9 []) S1 K) := by
  refine (px_go (by decide +kernel : pm_fe 222 211 = some (.aload_n 0, 1)) rfl).trans ?_
  refine (px_go (by decide +kernel : pm_fe 222 212 = some (.iconst 1, 1)) rfl).trans ?_
  refine (ry_v1 (idx := 243) (m' := 224) (ci := 12) (by decide +kernel : 234 < 283 ∧ SHF 234 = (12, 76)) (by simp [pm_wl_n, pm_wl_c, pm_w] : pm_wl [] ≤ 8) (by decide +kernel)).trans ?_
  exact Iff.rfl
theorem r222_216 {d : Nat} {X : Nat × (Nat → Int)} {v : Nat → Int} {M : PH} {K : PV → PS → Prop} {l1 s0 : Int} : pm_Run d 222 216 [vA 234, vI l1] [vI s0] (GF X, M, PTF v) K ↔ K (vI s0) (GF X, M, PTF v) := by
  refine (px_ri (by decide +kernel)).trans ?_
  exact Iff.rfl
theorem r222_217 {d : Nat} {X : Nat × (Nat → Int)} {v : Nat → Int} {M : PH} {K : PV → PS → Prop} {l1 : Int} : pm_Run d 222 217 [vA 234, vI l1] [] (GF X, M, PTF v) K ↔ pm_Run d 222 225 [vA 234, vI l1] [] (GF X, pm_sa M 234 (pm_up (M 234) 13 (M 234 42)), PTF v) K := by
  refine (px_go (by decide +kernel : pm_fe 222 217 = some (.aload_n 0, 1)) rfl).trans ?_
  refine (px_go (by decide +kernel : pm_fe 222 218 = some (.aload_n 0, 1)) rfl).trans ?_
  refine (ry_get0 (idx := 139) (ci := 12) (k := 42) (by decide +kernel : 234 < 283 ∧ SHF 234 = (12, 76)) (by decide +kernel)).trans ?_
  refine (ry_put0 (idx := 51) (ci := 12) (k := 13) (by decide +kernel : 234 < 283 ∧ SHF 234 = (12, 76)) (by decide +kernel)).trans ?_
  exact Iff.rfl
theorem r222_225 {d : Nat} {X : Nat × (Nat → Int)} {v : Nat → Int} {M : PH} {K : PV → PS → Prop} {l1 : Int} : pm_Run d 222 225 [vA 234, vI l1] [] (GF X, M, PTF v) K ↔ pm_Call d 233 [vA 234] (GF X, M, PTF v) (fun r9 S1 => pm_Run d 222 229 [vA 234, vI l1] (pm_push r9 []) S1 K) := by
  refine (px_go (by decide +kernel : pm_fe 222 225 = some (.aload_n 0, 1)) rfl).trans ?_
  refine (ry_v0 (idx := 439) (m' := 233) (ci := 12) (by decide +kernel : 234 < 283 ∧ SHF 234 = (12, 76)) (by simp [pm_wl_n, pm_wl_c, pm_w] : pm_wl [] ≤ 8) (by decide +kernel)).trans ?_
  exact Iff.rfl
theorem r222_229 {d : Nat} {X : Nat × (Nat → Int)} {v : Nat → Int} {M : PH} {K : PV → PS → Prop} {l1 : Int} : pm_Run d 222 229 [vA 234, vI l1] [] (GF X, M, PTF v) K ↔ K (vI l1) (GF X, M, PTF v) := by
  refine (px_go (by decide +kernel : pm_fe 222 229 = some (.iload_n 1, 1)) rfl).trans ?_
  refine (px_ri (by decide +kernel)).trans ?_
  exact Iff.rfl
-- X12_fault fault(I)I
theorem r223_0 {d : Nat} {X : Nat × (Nat → Int)} {v : Nat → Int} {M : PH} {K : PV → PS → Prop} {l1 : Int} (h1 : inR l1) : pm_Run d 223 0 [vA 234, vI l1] [] (GF X, M, PTF v) K ↔ if l1 ≠ 0 then pm_Run d 223 11 [vA 234, vI l1] [] (GF X, M, PTF v) K else pm_Run d 223 4 [vA 234, vI l1] [] (GF X, M, PTF v) K := by
  refine (px_go (by decide +kernel : pm_fe 223 0 = some (.iload_n 1, 1)) rfl).trans ?_
  refine (ry_if_ne (off := 10) (tgt := 11) h1 (by decide +kernel)).trans ?_
  exact Iff.rfl
theorem r223_4 {d : Nat} {X : Nat × (Nat → Int)} {v : Nat → Int} {M : PH} {K : PV → PS → Prop} {l1 : Int} : pm_Run d 223 4 [vA 234, vI l1] [] (GF X, M, PTF v) K ↔ pm_Run d 223 24 [vA 234, vI l1] [vI (M 234 10)] (GF X, M, PTF v) K := by
  refine (px_go (by decide +kernel : pm_fe 223 4 = some (.aload_n 0, 1)) rfl).trans ?_
  refine (ry_get0 (idx := 42) (ci := 12) (k := 10) (by decide +kernel : 234 < 283 ∧ SHF 234 = (12, 76)) (by decide +kernel)).trans ?_
  refine (px_goto (off := 16) (tgt := 24) (by decide +kernel)).trans ?_
  exact Iff.rfl
theorem r223_11 {d : Nat} {X : Nat × (Nat → Int)} {v : Nat → Int} {M : PH} {K : PV → PS → Prop} {l1 : Int} (h1 : inR l1) : pm_Run d 223 11 [vA 234, vI l1] [] (GF X, M, PTF v) K ↔ if l1 ≠ 1 then pm_Run d 223 23 [vA 234, vI l1] [] (GF X, M, PTF v) K else pm_Run d 223 16 [vA 234, vI l1] [] (GF X, M, PTF v) K := by
  refine (px_go (by decide +kernel : pm_fe 223 11 = some (.iload_n 1, 1)) rfl).trans ?_
  refine (px_go (by decide +kernel : pm_fe 223 12 = some (.iconst 1, 1)) rfl).trans ?_
  refine (ry_ic_ne (off := 10) (tgt := 23) h1 (by decide : (-2147483648 ≤ (1 : Int) ∧ (1 : Int) < 2147483648)) (by decide +kernel)).trans ?_
  exact Iff.rfl
theorem r223_16 {d : Nat} {X : Nat × (Nat → Int)} {v : Nat → Int} {M : PH} {K : PV → PS → Prop} {l1 : Int} : pm_Run d 223 16 [vA 234, vI l1] [] (GF X, M, PTF v) K ↔ pm_Run d 223 24 [vA 234, vI l1] [vI (M 234 11)] (GF X, M, PTF v) K := by
  refine (px_go (by decide +kernel : pm_fe 223 16 = some (.aload_n 0, 1)) rfl).trans ?_
  refine (ry_get0 (idx := 45) (ci := 12) (k := 11) (by decide +kernel : 234 < 283 ∧ SHF 234 = (12, 76)) (by decide +kernel)).trans ?_
  refine (px_goto (off := 4) (tgt := 24) (by decide +kernel)).trans ?_
  exact Iff.rfl
theorem r223_23 {d : Nat} {X : Nat × (Nat → Int)} {v : Nat → Int} {M : PH} {K : PV → PS → Prop} {l1 : Int} : pm_Run d 223 23 [vA 234, vI l1] [] (GF X, M, PTF v) K ↔ pm_Run d 223 24 [vA 234, vI l1] [vI (-1)] (GF X, M, PTF v) K := by
  refine (px_go (by decide +kernel : pm_fe 223 23 = some (.iconst (-1), 1)) rfl).trans ?_
  exact Iff.rfl
theorem r223_24 {d : Nat} {X : Nat × (Nat → Int)} {v : Nat → Int} {M : PH} {K : PV → PS → Prop} {l1 s0 : Int} : pm_Run d 223 24 [vA 234, vI l1] [vI s0] (GF X, M, PTF v) K ↔ K (vI s0) (GF X, M, PTF v) := by
  refine (px_ri (by decide +kernel)).trans ?_
  exact Iff.rfl
-- X12_refuses refuses(I)I
theorem r224_0 {d : Nat} {X : Nat × (Nat → Int)} {v : Nat → Int} {M : PH} {K : PV → PS → Prop} {l1 : Int} (h1 : 0 ≤ l1) (h2 : l1 < 6) : pm_Run d 224 0 [vA 234, vI l1] [] (GF X, M, PTF v) K ↔ pm_Run d 224 10 [vA 234, vI l1] [] (GF X, pm_sa M 269 (pm_up (M 269) l1.toNat ((M 269 l1.toNat) + 1)), PTF v) K := by
  refine (px_go (by decide +kernel : pm_fe 224 0 = some (.aload_n 0, 1)) rfl).trans ?_
  refine (ry_get2 (idx := 174) (ci := 12) (k := 53) (by decide +kernel : 234 < 283 ∧ SHF 234 = (12, 76)) (ptf_l (a := 234) (k := 53) (n := 269) (by decide +kernel)) (by decide +kernel)).trans ?_
  refine (px_go (by decide +kernel : pm_fe 224 4 = some (.iload_n 1, 1)) rfl).trans ?_
  refine (px_go (by decide +kernel : pm_fe 224 5 = some (.dup2, 1)) rfl).trans ?_
  refine (ry_iald (by decide +kernel : 269 < 283 ∧ SHF 269 = (100, 6)) h1 h2 (by decide +kernel)).trans ?_
  refine (px_go (by decide +kernel : pm_fe 224 7 = some (.iconst 1, 1)) rfl).trans ?_
  refine (px_go (by decide +kernel : pm_fe 224 8 = some (.iadd, 1)) rfl).trans ?_
  refine (ry_iast (by decide +kernel : 269 < 283 ∧ SHF 269 = (100, 6)) h1 h2 (by decide +kernel)).trans ?_
  exact Iff.rfl
theorem r224_10 {d : Nat} {X : Nat × (Nat → Int)} {v : Nat → Int} {M : PH} {K : PV → PS → Prop} {l1 : Int} : pm_Run d 224 10 [vA 234, vI l1] [] (GF X, M, PTF v) K ↔ K (vI (-1)) (GF X, M, PTF v) := by
  refine (px_go (by decide +kernel : pm_fe 224 10 = some (.iconst (-1), 1)) rfl).trans ?_
  refine (px_ri (by decide +kernel)).trans ?_
  exact Iff.rfl
-- X12_status status(I)I
theorem r225_0 {d : Nat} {X : Nat × (Nat → Int)} {v : Nat → Int} {M : PH} {K : PV → PS → Prop} {l1 : Int} : pm_Run d 225 0 [vA 234, vI l1] [] (GF X, M, PTF v) K ↔ pm_Call d 179 [vI l1, vI 0, vI 5] (GF X, M, PTF v) (fun r9 S1 => pm_Run d 225 6 [vA 234, vI l1] (pm_push r9 []) S1 K) := by
  refine (px_go (by decide +kernel : pm_fe 225 0 = some (.iload_n 1, 1)) rfl).trans ?_
  refine (px_go (by decide +kernel : pm_fe 225 1 = some (.iconst 0, 1)) rfl).trans ?_
  refine (px_go (by decide +kernel : pm_fe 225 2 = some (.iconst 5, 1)) rfl).trans ?_
  refine (px_s3 (idx := 337) (m' := 179) (nest := 0) (by decide +kernel)).trans ((and_iff_right (by simp [pm_wl_n, pm_wl_c, pm_w] : pm_wl [] ≤ 8)).trans ?_)
  exact Iff.rfl
theorem r225_6 {d : Nat} {X : Nat × (Nat → Int)} {v : Nat → Int} {M : PH} {K : PV → PS → Prop} {l1 s0 : Int} (h1 : inR s0) : pm_Run d 225 6 [vA 234, vI l1] [vI s0] (GF X, M, PTF v) K ↔ if s0 = 0 then pm_Run d 225 18 [vA 234, vI l1] [] (GF X, M, PTF v) K else pm_Run d 225 9 [vA 234, vI l1] [] (GF X, M, PTF v) K := by
  refine (ry_if_eq (off := 12) (tgt := 18) h1 (by decide +kernel)).trans ?_
  exact Iff.rfl
theorem r225_9 {d : Nat} {X : Nat × (Nat → Int)} {v : Nat → Int} {M : PH} {K : PV → PS → Prop} {l1 : Int} (h1 : 0 ≤ l1) (h2 : l1 < 6) : pm_Run d 225 9 [vA 234, vI l1] [] (GF X, M, PTF v) K ↔ pm_Run d 225 19 [vA 234, vI l1] [vI (M 269 l1.toNat)] (GF X, M, PTF v) K := by
  refine (px_go (by decide +kernel : pm_fe 225 9 = some (.aload_n 0, 1)) rfl).trans ?_
  refine (ry_get2 (idx := 174) (ci := 12) (k := 53) (by decide +kernel : 234 < 283 ∧ SHF 234 = (12, 76)) (ptf_l (a := 234) (k := 53) (n := 269) (by decide +kernel)) (by decide +kernel)).trans ?_
  refine (px_go (by decide +kernel : pm_fe 225 13 = some (.iload_n 1, 1)) rfl).trans ?_
  refine (ry_iald (by decide +kernel : 269 < 283 ∧ SHF 269 = (100, 6)) h1 h2 (by decide +kernel)).trans ?_
  refine (px_goto (off := 4) (tgt := 19) (by decide +kernel)).trans ?_
  exact Iff.rfl
theorem r225_18 {d : Nat} {X : Nat × (Nat → Int)} {v : Nat → Int} {M : PH} {K : PV → PS → Prop} {l1 : Int} : pm_Run d 225 18 [vA 234, vI l1] [] (GF X, M, PTF v) K ↔ pm_Run d 225 19 [vA 234, vI l1] [vI (-1)] (GF X, M, PTF v) K := by
  refine (px_go (by decide +kernel : pm_fe 225 18 = some (.iconst (-1), 1)) rfl).trans ?_
  exact Iff.rfl
theorem r225_19 {d : Nat} {X : Nat × (Nat → Int)} {v : Nat → Int} {M : PH} {K : PV → PS → Prop} {l1 s0 : Int} : pm_Run d 225 19 [vA 234, vI l1] [vI s0] (GF X, M, PTF v) K ↔ K (vI s0) (GF X, M, PTF v) := by
  refine (px_ri (by decide +kernel)).trans ?_
  exact Iff.rfl
-- X12_isSea isSea()Z
theorem r226_0 {d : Nat} {X : Nat × (Nat → Int)} {v : Nat → Int} {M : PH} {K : PV → PS → Prop} (h1 : 0 ≤ (M 234 13)) (h2 : (M 234 13) < 2) (h3 : inR (M 236 (M 234 13).toNat)) : pm_Run d 226 0 [vA 234] [] (GF X, M, PTF v) K ↔ if M 236 (M 234 13).toNat ≤ 0 then pm_Run d 226 16 [vA 234] [] (GF X, M, PTF v) K else pm_Run d 226 12 [vA 234] [] (GF X, M, PTF v) K := by
  refine (px_go (by decide +kernel : pm_fe 226 0 = some (.aload_n 0, 1)) rfl).trans ?_
  refine (ry_get2 (idx := 54) (ci := 12) (k := 14) (by decide +kernel : 234 < 283 ∧ SHF 234 = (12, 76)) (ptf_l (a := 234) (k := 14) (n := 236) (by decide +kernel)) (by decide +kernel)).trans ?_
  refine (px_go (by decide +kernel : pm_fe 226 4 = some (.aload_n 0, 1)) rfl).trans ?_
  refine (ry_get0 (idx := 51) (ci := 12) (k := 13) (by decide +kernel : 234 < 283 ∧ SHF 234 = (12, 76)) (by decide +kernel)).trans ?_
  refine (ry_iald (by decide +kernel : 236 < 283 ∧ SHF 236 = (100, 2)) h1 h2 (by decide +kernel)).trans ?_
  refine (ry_if_le (off := 7) (tgt := 16) h3 (by decide +kernel)).trans ?_
  exact Iff.rfl
theorem r226_12 {d : Nat} {X : Nat × (Nat → Int)} {v : Nat → Int} {M : PH} {K : PV → PS → Prop} : pm_Run d 226 12 [vA 234] [] (GF X, M, PTF v) K ↔ pm_Run d 226 17 [vA 234] [vI 1] (GF X, M, PTF v) K := by
  refine (px_go (by decide +kernel : pm_fe 226 12 = some (.iconst 1, 1)) rfl).trans ?_
  refine (px_goto (off := 4) (tgt := 17) (by decide +kernel)).trans ?_
  exact Iff.rfl
theorem r226_16 {d : Nat} {X : Nat × (Nat → Int)} {v : Nat → Int} {M : PH} {K : PV → PS → Prop} : pm_Run d 226 16 [vA 234] [] (GF X, M, PTF v) K ↔ pm_Run d 226 17 [vA 234] [vI 0] (GF X, M, PTF v) K := by
  refine (px_go (by decide +kernel : pm_fe 226 16 = some (.iconst 0, 1)) rfl).trans ?_
  exact Iff.rfl
theorem r226_17 {d : Nat} {X : Nat × (Nat → Int)} {v : Nat → Int} {M : PH} {K : PV → PS → Prop} {s0 : Int} (h1 : s0 = 0 ∨ s0 = 1) : pm_Run d 226 17 [vA 234] [vI s0] (GF X, M, PTF v) K ↔ K (vI s0) (GF X, M, PTF v) := by
  refine (px_rz (by decide +kernel)).trans ((and_iff_right h1).trans ?_)
  exact Iff.rfl
-- X12_isPlace isPlace(I)Z
theorem r227_0 {d : Nat} {X : Nat × (Nat → Int)} {v : Nat → Int} {M : PH} {K : PV → PS → Prop} {l1 : Int} (h1 : inR l1) : pm_Run d 227 0 [vA 234, vI l1] [] (GF X, M, PTF v) K ↔ if l1 < 0 then pm_Run d 227 21 [vA 234, vI l1] [] (GF X, M, PTF v) K else pm_Run d 227 4 [vA 234, vI l1] [] (GF X, M, PTF v) K := by
  refine (px_go (by decide +kernel : pm_fe 227 0 = some (.iload_n 1, 1)) rfl).trans ?_
  refine (ry_if_lt (off := 20) (tgt := 21) h1 (by decide +kernel)).trans ?_
  exact Iff.rfl
theorem r227_4 {d : Nat} {X : Nat × (Nat → Int)} {v : Nat → Int} {M : PH} {K : PV → PS → Prop} {l1 : Int} (h1 : 0 ≤ (M 234 13)) (h2 : (M 234 13) < 2) (h3 : inR l1) (h4 : inR (M 236 (M 234 13).toNat)) : pm_Run d 227 4 [vA 234, vI l1] [] (GF X, M, PTF v) K ↔ if M 236 (M 234 13).toNat ≤ l1 then pm_Run d 227 21 [vA 234, vI l1] [] (GF X, M, PTF v) K else pm_Run d 227 17 [vA 234, vI l1] [] (GF X, M, PTF v) K := by
  refine (px_go (by decide +kernel : pm_fe 227 4 = some (.iload_n 1, 1)) rfl).trans ?_
  refine (px_go (by decide +kernel : pm_fe 227 5 = some (.aload_n 0, 1)) rfl).trans ?_
  refine (ry_get2 (idx := 54) (ci := 12) (k := 14) (by decide +kernel : 234 < 283 ∧ SHF 234 = (12, 76)) (ptf_l (a := 234) (k := 14) (n := 236) (by decide +kernel)) (by decide +kernel)).trans ?_
  refine (px_go (by decide +kernel : pm_fe 227 9 = some (.aload_n 0, 1)) rfl).trans ?_
  refine (ry_get0 (idx := 51) (ci := 12) (k := 13) (by decide +kernel : 234 < 283 ∧ SHF 234 = (12, 76)) (by decide +kernel)).trans ?_
  refine (ry_iald (by decide +kernel : 236 < 283 ∧ SHF 236 = (100, 2)) h1 h2 (by decide +kernel)).trans ?_
  refine (ry_ic_ge (off := 7) (tgt := 21) h3 h4 (by decide +kernel)).trans ?_
  exact Iff.rfl
theorem r227_17 {d : Nat} {X : Nat × (Nat → Int)} {v : Nat → Int} {M : PH} {K : PV → PS → Prop} {l1 : Int} : pm_Run d 227 17 [vA 234, vI l1] [] (GF X, M, PTF v) K ↔ pm_Run d 227 22 [vA 234, vI l1] [vI 1] (GF X, M, PTF v) K := by
  refine (px_go (by decide +kernel : pm_fe 227 17 = some (.iconst 1, 1)) rfl).trans ?_
  refine (px_goto (off := 4) (tgt := 22) (by decide +kernel)).trans ?_
  exact Iff.rfl
theorem r227_21 {d : Nat} {X : Nat × (Nat → Int)} {v : Nat → Int} {M : PH} {K : PV → PS → Prop} {l1 : Int} : pm_Run d 227 21 [vA 234, vI l1] [] (GF X, M, PTF v) K ↔ pm_Run d 227 22 [vA 234, vI l1] [vI 0] (GF X, M, PTF v) K := by
  refine (px_go (by decide +kernel : pm_fe 227 21 = some (.iconst 0, 1)) rfl).trans ?_
  exact Iff.rfl
theorem r227_22 {d : Nat} {X : Nat × (Nat → Int)} {v : Nat → Int} {M : PH} {K : PV → PS → Prop} {l1 s0 : Int} (h1 : s0 = 0 ∨ s0 = 1) : pm_Run d 227 22 [vA 234, vI l1] [vI s0] (GF X, M, PTF v) K ↔ K (vI s0) (GF X, M, PTF v) := by
  refine (px_rz (by decide +kernel)).trans ((and_iff_right h1).trans ?_)
  exact Iff.rfl
-- X12_isMoon isMoon(I)Z
theorem r228_0 {d : Nat} {X : Nat × (Nat → Int)} {v : Nat → Int} {M : PH} {K : PV → PS → Prop} {l1 : Int} (h1 : inR l1) : pm_Run d 228 0 [vA 234, vI l1] [] (GF X, M, PTF v) K ↔ if l1 < 0 then pm_Run d 228 21 [vA 234, vI l1] [] (GF X, M, PTF v) K else pm_Run d 228 4 [vA 234, vI l1] [] (GF X, M, PTF v) K := by
  refine (px_go (by decide +kernel : pm_fe 228 0 = some (.iload_n 1, 1)) rfl).trans ?_
  refine (ry_if_lt (off := 20) (tgt := 21) h1 (by decide +kernel)).trans ?_
  exact Iff.rfl
theorem r228_4 {d : Nat} {X : Nat × (Nat → Int)} {v : Nat → Int} {M : PH} {K : PV → PS → Prop} {l1 : Int} (h1 : 0 ≤ (M 234 13)) (h2 : (M 234 13) < 2) (h3 : inR l1) (h4 : inR (M 237 (M 234 13).toNat)) : pm_Run d 228 4 [vA 234, vI l1] [] (GF X, M, PTF v) K ↔ if M 237 (M 234 13).toNat ≤ l1 then pm_Run d 228 21 [vA 234, vI l1] [] (GF X, M, PTF v) K else pm_Run d 228 17 [vA 234, vI l1] [] (GF X, M, PTF v) K := by
  refine (px_go (by decide +kernel : pm_fe 228 4 = some (.iload_n 1, 1)) rfl).trans ?_
  refine (px_go (by decide +kernel : pm_fe 228 5 = some (.aload_n 0, 1)) rfl).trans ?_
  refine (ry_get2 (idx := 57) (ci := 12) (k := 15) (by decide +kernel : 234 < 283 ∧ SHF 234 = (12, 76)) (ptf_l (a := 234) (k := 15) (n := 237) (by decide +kernel)) (by decide +kernel)).trans ?_
  refine (px_go (by decide +kernel : pm_fe 228 9 = some (.aload_n 0, 1)) rfl).trans ?_
  refine (ry_get0 (idx := 51) (ci := 12) (k := 13) (by decide +kernel : 234 < 283 ∧ SHF 234 = (12, 76)) (by decide +kernel)).trans ?_
  refine (ry_iald (by decide +kernel : 237 < 283 ∧ SHF 237 = (100, 2)) h1 h2 (by decide +kernel)).trans ?_
  refine (ry_ic_ge (off := 7) (tgt := 21) h3 h4 (by decide +kernel)).trans ?_
  exact Iff.rfl
theorem r228_17 {d : Nat} {X : Nat × (Nat → Int)} {v : Nat → Int} {M : PH} {K : PV → PS → Prop} {l1 : Int} : pm_Run d 228 17 [vA 234, vI l1] [] (GF X, M, PTF v) K ↔ pm_Run d 228 22 [vA 234, vI l1] [vI 1] (GF X, M, PTF v) K := by
  refine (px_go (by decide +kernel : pm_fe 228 17 = some (.iconst 1, 1)) rfl).trans ?_
  refine (px_goto (off := 4) (tgt := 22) (by decide +kernel)).trans ?_
  exact Iff.rfl
theorem r228_21 {d : Nat} {X : Nat × (Nat → Int)} {v : Nat → Int} {M : PH} {K : PV → PS → Prop} {l1 : Int} : pm_Run d 228 21 [vA 234, vI l1] [] (GF X, M, PTF v) K ↔ pm_Run d 228 22 [vA 234, vI l1] [vI 0] (GF X, M, PTF v) K := by
  refine (px_go (by decide +kernel : pm_fe 228 21 = some (.iconst 0, 1)) rfl).trans ?_
  exact Iff.rfl
theorem r228_22 {d : Nat} {X : Nat × (Nat → Int)} {v : Nat → Int} {M : PH} {K : PV → PS → Prop} {l1 s0 : Int} (h1 : s0 = 0 ∨ s0 = 1) : pm_Run d 228 22 [vA 234, vI l1] [vI s0] (GF X, M, PTF v) K ↔ K (vI s0) (GF X, M, PTF v) := by
  refine (px_rz (by decide +kernel)).trans ((and_iff_right h1).trans ?_)
  exact Iff.rfl
-- X12_isHarbor isHarbor(I)Z
theorem r229_0 {d : Nat} {X : Nat × (Nat → Int)} {v : Nat → Int} {M : PH} {K : PV → PS → Prop} {l1 : Int} (h1 : inR l1) : pm_Run d 229 0 [vA 234, vI l1] [] (GF X, M, PTF v) K ↔ if l1 < 0 then pm_Run d 229 21 [vA 234, vI l1] [] (GF X, M, PTF v) K else pm_Run d 229 4 [vA 234, vI l1] [] (GF X, M, PTF v) K := by
  refine (px_go (by decide +kernel : pm_fe 229 0 = some (.iload_n 1, 1)) rfl).trans ?_
  refine (ry_if_lt (off := 20) (tgt := 21) h1 (by decide +kernel)).trans ?_
  exact Iff.rfl
theorem r229_4 {d : Nat} {X : Nat × (Nat → Int)} {v : Nat → Int} {M : PH} {K : PV → PS → Prop} {l1 : Int} (h1 : 0 ≤ (M 234 13)) (h2 : (M 234 13) < 2) (h3 : inR l1) (h4 : inR (M 241 (M 234 13).toNat)) : pm_Run d 229 4 [vA 234, vI l1] [] (GF X, M, PTF v) K ↔ if M 241 (M 234 13).toNat ≤ l1 then pm_Run d 229 21 [vA 234, vI l1] [] (GF X, M, PTF v) K else pm_Run d 229 17 [vA 234, vI l1] [] (GF X, M, PTF v) K := by
  refine (px_go (by decide +kernel : pm_fe 229 4 = some (.iload_n 1, 1)) rfl).trans ?_
  refine (px_go (by decide +kernel : pm_fe 229 5 = some (.aload_n 0, 1)) rfl).trans ?_
  refine (ry_get2 (idx := 69) (ci := 12) (k := 19) (by decide +kernel : 234 < 283 ∧ SHF 234 = (12, 76)) (ptf_l (a := 234) (k := 19) (n := 241) (by decide +kernel)) (by decide +kernel)).trans ?_
  refine (px_go (by decide +kernel : pm_fe 229 9 = some (.aload_n 0, 1)) rfl).trans ?_
  refine (ry_get0 (idx := 51) (ci := 12) (k := 13) (by decide +kernel : 234 < 283 ∧ SHF 234 = (12, 76)) (by decide +kernel)).trans ?_
  refine (ry_iald (by decide +kernel : 241 < 283 ∧ SHF 241 = (100, 2)) h1 h2 (by decide +kernel)).trans ?_
  refine (ry_ic_ge (off := 7) (tgt := 21) h3 h4 (by decide +kernel)).trans ?_
  exact Iff.rfl
theorem r229_17 {d : Nat} {X : Nat × (Nat → Int)} {v : Nat → Int} {M : PH} {K : PV → PS → Prop} {l1 : Int} : pm_Run d 229 17 [vA 234, vI l1] [] (GF X, M, PTF v) K ↔ pm_Run d 229 22 [vA 234, vI l1] [vI 1] (GF X, M, PTF v) K := by
  refine (px_go (by decide +kernel : pm_fe 229 17 = some (.iconst 1, 1)) rfl).trans ?_
  refine (px_goto (off := 4) (tgt := 22) (by decide +kernel)).trans ?_
  exact Iff.rfl
theorem r229_21 {d : Nat} {X : Nat × (Nat → Int)} {v : Nat → Int} {M : PH} {K : PV → PS → Prop} {l1 : Int} : pm_Run d 229 21 [vA 234, vI l1] [] (GF X, M, PTF v) K ↔ pm_Run d 229 22 [vA 234, vI l1] [vI 0] (GF X, M, PTF v) K := by
  refine (px_go (by decide +kernel : pm_fe 229 21 = some (.iconst 0, 1)) rfl).trans ?_
  exact Iff.rfl
theorem r229_22 {d : Nat} {X : Nat × (Nat → Int)} {v : Nat → Int} {M : PH} {K : PV → PS → Prop} {l1 s0 : Int} (h1 : s0 = 0 ∨ s0 = 1) : pm_Run d 229 22 [vA 234, vI l1] [vI s0] (GF X, M, PTF v) K ↔ K (vI s0) (GF X, M, PTF v) := by
  refine (px_rz (by decide +kernel)).trans ((and_iff_right h1).trans ?_)
  exact Iff.rfl
-- X12_atOf atOf(I)I
theorem r230_0 {d : Nat} {X : Nat × (Nat → Int)} {v : Nat → Int} {M : PH} {K : PV → PS → Prop} {l1 : Int} (h1 : 0 ≤ ((8 * (M 234 13)) + l1)) (h2 : ((8 * (M 234 13)) + l1) < 16) : pm_Run d 230 0 [vA 234, vI l1] [] (GF X, M, PTF v) K ↔ K (vI (M 242 ((8 * (M 234 13)) + l1).toNat)) (GF X, M, PTF v) := by
  refine (px_go (by decide +kernel : pm_fe 230 0 = some (.aload_n 0, 1)) rfl).trans ?_
  refine (ry_get2 (idx := 72) (ci := 12) (k := 20) (by decide +kernel : 234 < 283 ∧ SHF 234 = (12, 76)) (ptf_l (a := 234) (k := 20) (n := 242) (by decide +kernel)) (by decide +kernel)).trans ?_
  refine (px_go (by decide +kernel : pm_fe 230 4 = some (.bipush 8, 2)) rfl).trans ?_
  refine (px_go (by decide +kernel : pm_fe 230 6 = some (.aload_n 0, 1)) rfl).trans ?_
  refine (ry_get0 (idx := 51) (ci := 12) (k := 13) (by decide +kernel : 234 < 283 ∧ SHF 234 = (12, 76)) (by decide +kernel)).trans ?_
  refine (px_go (by decide +kernel : pm_fe 230 10 = some (.imul, 1)) rfl).trans ?_
  refine (px_go (by decide +kernel : pm_fe 230 11 = some (.iload_n 1, 1)) rfl).trans ?_
  refine (px_go (by decide +kernel : pm_fe 230 12 = some (.iadd, 1)) rfl).trans ?_
  refine (ry_iald (by decide +kernel : 242 < 283 ∧ SHF 242 = (100, 16)) h1 h2 (by decide +kernel)).trans ?_
  refine (px_ri (by decide +kernel)).trans ?_
  exact Iff.rfl
-- X12_depthOf depthOf(I)I
theorem r231_0 {d : Nat} {X : Nat × (Nat → Int)} {v : Nat → Int} {M : PH} {K : PV → PS → Prop} {l1 : Int} (h1 : 0 ≤ ((8 * (M 234 13)) + l1)) (h2 : ((8 * (M 234 13)) + l1) < 16) : pm_Run d 231 0 [vA 234, vI l1] [] (GF X, M, PTF v) K ↔ K (vI (M 244 ((8 * (M 234 13)) + l1).toNat)) (GF X, M, PTF v) := by
  refine (px_go (by decide +kernel : pm_fe 231 0 = some (.aload_n 0, 1)) rfl).trans ?_
  refine (ry_get2 (idx := 78) (ci := 12) (k := 22) (by decide +kernel : 234 < 283 ∧ SHF 234 = (12, 76)) (ptf_l (a := 234) (k := 22) (n := 244) (by decide +kernel)) (by decide +kernel)).trans ?_
  refine (px_go (by decide +kernel : pm_fe 231 4 = some (.bipush 8, 2)) rfl).trans ?_
  refine (px_go (by decide +kernel : pm_fe 231 6 = some (.aload_n 0, 1)) rfl).trans ?_
  refine (ry_get0 (idx := 51) (ci := 12) (k := 13) (by decide +kernel : 234 < 283 ∧ SHF 234 = (12, 76)) (by decide +kernel)).trans ?_
  refine (px_go (by decide +kernel : pm_fe 231 10 = some (.imul, 1)) rfl).trans ?_
  refine (px_go (by decide +kernel : pm_fe 231 11 = some (.iload_n 1, 1)) rfl).trans ?_
  refine (px_go (by decide +kernel : pm_fe 231 12 = some (.iadd, 1)) rfl).trans ?_
  refine (ry_iald (by decide +kernel : 244 < 283 ∧ SHF 244 = (100, 16)) h1 h2 (by decide +kernel)).trans ?_
  refine (px_ri (by decide +kernel)).trans ?_
  exact Iff.rfl
-- X12_copies copies(II)V
theorem r232_0 {d : Nat} {X : Nat × (Nat → Int)} {v : Nat → Int} {M : PH} {K : PV → PS → Prop} {l1 l2 : Int} (h1 : 0 ≤ l2) (h2 : l2 < 22) (h3 : 0 ≤ l1) (h4 : l1 < 22) : pm_Run d 232 0 [vA 234, vI l1, vI l2, PU] [] (GF X, M, PTF v) K ↔ pm_Run d 232 12 [vA 234, vI l1, vI l2, PU] [] (GF X, pm_sa M 270 (pm_up (M 270) l1.toNat (M 270 l2.toNat)), PTF v) K := by
  refine (px_go (by decide +kernel : pm_fe 232 0 = some (.aload_n 0, 1)) rfl).trans ?_
  refine (ry_get2 (idx := 177) (ci := 12) (k := 54) (by decide +kernel : 234 < 283 ∧ SHF 234 = (12, 76)) (ptf_l (a := 234) (k := 54) (n := 270) (by decide +kernel)) (by decide +kernel)).trans ?_
  refine (px_go (by decide +kernel : pm_fe 232 4 = some (.iload_n 1, 1)) rfl).trans ?_
  refine (px_go (by decide +kernel : pm_fe 232 5 = some (.aload_n 0, 1)) rfl).trans ?_
  refine (ry_get2 (idx := 177) (ci := 12) (k := 54) (by decide +kernel : 234 < 283 ∧ SHF 234 = (12, 76)) (ptf_l (a := 234) (k := 54) (n := 270) (by decide +kernel)) (by decide +kernel)).trans ?_
  refine (px_go (by decide +kernel : pm_fe 232 9 = some (.iload_n 2, 1)) rfl).trans ?_
  refine (ry_iald (by decide +kernel : 270 < 283 ∧ SHF 270 = (100, 22)) h1 h2 (by decide +kernel)).trans ?_
  refine (ry_iast (by decide +kernel : 270 < 283 ∧ SHF 270 = (100, 22)) h3 h4 (by decide +kernel)).trans ?_
  exact Iff.rfl
theorem r232_12 {d : Nat} {X : Nat × (Nat → Int)} {v : Nat → Int} {M : PH} {K : PV → PS → Prop} {l1 l2 : Int} : pm_Run d 232 12 [vA 234, vI l1, vI l2, PU] [] (GF X, M, PTF v) K ↔ pm_Run d 232 14 [vA 234, vI l1, vI l2, vI 0] [] (GF X, M, PTF v) K := by
  refine (px_go (by decide +kernel : pm_fe 232 12 = some (.iconst 0, 1)) rfl).trans ?_
  refine (px_go (by decide +kernel : pm_fe 232 13 = some (.istore_n 3, 1)) rfl).trans ?_
  exact Iff.rfl
theorem r232_14 {d : Nat} {X : Nat × (Nat → Int)} {v : Nat → Int} {M : PH} {K : PV → PS → Prop} {l1 l2 l3 : Int} (h1 : inR l3) : pm_Run d 232 14 [vA 234, vI l1, vI l2, vI l3] [] (GF X, M, PTF v) K ↔ if 3 ≤ l3 then pm_Run d 232 65 [vA 234, vI l1, vI l2, vI l3] [] (GF X, M, PTF v) K else pm_Run d 232 19 [vA 234, vI l1, vI l2, vI l3] [] (GF X, M, PTF v) K := by
  refine (px_go (by decide +kernel : pm_fe 232 14 = some (.iload_n 3, 1)) rfl).trans ?_
  refine (px_go (by decide +kernel : pm_fe 232 15 = some (.iconst 3, 1)) rfl).trans ?_
  refine (ry_ic_ge (off := 49) (tgt := 65) h1 (by decide : (-2147483648 ≤ (3 : Int) ∧ (3 : Int) < 2147483648)) (by decide +kernel)).trans ?_
  exact Iff.rfl
theorem r232_19 {d : Nat} {X : Nat × (Nat → Int)} {v : Nat → Int} {M : PH} {K : PV → PS → Prop} {l1 l2 l3 : Int} (h1 : 0 ≤ ((3 * l2) + l3)) (h2 : ((3 * l2) + l3) < 66) (h3 : 0 ≤ ((3 * l1) + l3)) (h4 : ((3 * l1) + l3) < 66) : pm_Run d 232 19 [vA 234, vI l1, vI l2, vI l3] [] (GF X, M, PTF v) K ↔ pm_Run d 232 39 [vA 234, vI l1, vI l2, vI l3] [] (GF X, pm_sa M 271 (pm_up (M 271) ((3 * l1) + l3).toNat (M 271 ((3 * l2) + l3).toNat)), PTF v) K := by
  refine (px_go (by decide +kernel : pm_fe 232 19 = some (.aload_n 0, 1)) rfl).trans ?_
  refine (ry_get2 (idx := 180) (ci := 12) (k := 55) (by decide +kernel : 234 < 283 ∧ SHF 234 = (12, 76)) (ptf_l (a := 234) (k := 55) (n := 271) (by decide +kernel)) (by decide +kernel)).trans ?_
  refine (px_go (by decide +kernel : pm_fe 232 23 = some (.iconst 3, 1)) rfl).trans ?_
  refine (px_go (by decide +kernel : pm_fe 232 24 = some (.iload_n 1, 1)) rfl).trans ?_
  refine (px_go (by decide +kernel : pm_fe 232 25 = some (.imul, 1)) rfl).trans ?_
  refine (px_go (by decide +kernel : pm_fe 232 26 = some (.iload_n 3, 1)) rfl).trans ?_
  refine (px_go (by decide +kernel : pm_fe 232 27 = some (.iadd, 1)) rfl).trans ?_
  refine (px_go (by decide +kernel : pm_fe 232 28 = some (.aload_n 0, 1)) rfl).trans ?_
  refine (ry_get2 (idx := 180) (ci := 12) (k := 55) (by decide +kernel : 234 < 283 ∧ SHF 234 = (12, 76)) (ptf_l (a := 234) (k := 55) (n := 271) (by decide +kernel)) (by decide +kernel)).trans ?_
  refine (px_go (by decide +kernel : pm_fe 232 32 = some (.iconst 3, 1)) rfl).trans ?_
  refine (px_go (by decide +kernel : pm_fe 232 33 = some (.iload_n 2, 1)) rfl).trans ?_
  refine (px_go (by decide +kernel : pm_fe 232 34 = some (.imul, 1)) rfl).trans ?_
  refine (px_go (by decide +kernel : pm_fe 232 35 = some (.iload_n 3, 1)) rfl).trans ?_
  refine (px_go (by decide +kernel : pm_fe 232 36 = some (.iadd, 1)) rfl).trans ?_
  refine (ry_iald (by decide +kernel : 271 < 283 ∧ SHF 271 = (100, 66)) h1 h2 (by decide +kernel)).trans ?_
  refine (ry_iast (by decide +kernel : 271 < 283 ∧ SHF 271 = (100, 66)) h3 h4 (by decide +kernel)).trans ?_
  exact Iff.rfl
theorem r232_39 {d : Nat} {X : Nat × (Nat → Int)} {v : Nat → Int} {M : PH} {K : PV → PS → Prop} {l1 l2 l3 : Int} (h1 : 0 ≤ ((3 * l2) + l3)) (h2 : ((3 * l2) + l3) < 66) (h3 : 0 ≤ ((3 * l1) + l3)) (h4 : ((3 * l1) + l3) < 66) : pm_Run d 232 39 [vA 234, vI l1, vI l2, vI l3] [] (GF X, M, PTF v) K ↔ pm_Run d 232 59 [vA 234, vI l1, vI l2, vI l3] [] (GF X, pm_sa M 272 (pm_up (M 272) ((3 * l1) + l3).toNat (M 272 ((3 * l2) + l3).toNat)), PTF v) K := by
  refine (px_go (by decide +kernel : pm_fe 232 39 = some (.aload_n 0, 1)) rfl).trans ?_
  refine (ry_get2 (idx := 183) (ci := 12) (k := 56) (by decide +kernel : 234 < 283 ∧ SHF 234 = (12, 76)) (ptf_l (a := 234) (k := 56) (n := 272) (by decide +kernel)) (by decide +kernel)).trans ?_
  refine (px_go (by decide +kernel : pm_fe 232 43 = some (.iconst 3, 1)) rfl).trans ?_
  refine (px_go (by decide +kernel : pm_fe 232 44 = some (.iload_n 1, 1)) rfl).trans ?_
  refine (px_go (by decide +kernel : pm_fe 232 45 = some (.imul, 1)) rfl).trans ?_
  refine (px_go (by decide +kernel : pm_fe 232 46 = some (.iload_n 3, 1)) rfl).trans ?_
  refine (px_go (by decide +kernel : pm_fe 232 47 = some (.iadd, 1)) rfl).trans ?_
  refine (px_go (by decide +kernel : pm_fe 232 48 = some (.aload_n 0, 1)) rfl).trans ?_
  refine (ry_get2 (idx := 183) (ci := 12) (k := 56) (by decide +kernel : 234 < 283 ∧ SHF 234 = (12, 76)) (ptf_l (a := 234) (k := 56) (n := 272) (by decide +kernel)) (by decide +kernel)).trans ?_
  refine (px_go (by decide +kernel : pm_fe 232 52 = some (.iconst 3, 1)) rfl).trans ?_
  refine (px_go (by decide +kernel : pm_fe 232 53 = some (.iload_n 2, 1)) rfl).trans ?_
  refine (px_go (by decide +kernel : pm_fe 232 54 = some (.imul, 1)) rfl).trans ?_
  refine (px_go (by decide +kernel : pm_fe 232 55 = some (.iload_n 3, 1)) rfl).trans ?_
  refine (px_go (by decide +kernel : pm_fe 232 56 = some (.iadd, 1)) rfl).trans ?_
  refine (ry_iald (by decide +kernel : 272 < 283 ∧ SHF 272 = (100, 66)) h1 h2 (by decide +kernel)).trans ?_
  refine (ry_iast (by decide +kernel : 272 < 283 ∧ SHF 272 = (100, 66)) h3 h4 (by decide +kernel)).trans ?_
  exact Iff.rfl
theorem r232_59 {d : Nat} {X : Nat × (Nat → Int)} {v : Nat → Int} {M : PH} {K : PV → PS → Prop} {l1 l2 l3 : Int} : pm_Run d 232 59 [vA 234, vI l1, vI l2, vI l3] [] (GF X, M, PTF v) K ↔ pm_Run d 232 14 [vA 234, vI l1, vI l2, vI (l3 + 1)] [] (GF X, M, PTF v) K := by
  refine (px_go (by decide +kernel : pm_fe 232 59 = some (.iinc 3 1, 3)) rfl).trans ?_
  refine (px_goto (off := (-48)) (tgt := 14) (by decide +kernel)).trans ?_
  exact Iff.rfl
theorem r232_65 {d : Nat} {X : Nat × (Nat → Int)} {v : Nat → Int} {M : PH} {K : PV → PS → Prop} {l1 l2 l3 : Int} : pm_Run d 232 65 [vA 234, vI l1, vI l2, vI l3] [] (GF X, M, PTF v) K ↔ pm_Run d 232 67 [vA 234, vI l1, vI l2, vI 0] [] (GF X, M, PTF v) K := by
  refine (px_go (by decide +kernel : pm_fe 232 65 = some (.iconst 0, 1)) rfl).trans ?_
  refine (px_go (by decide +kernel : pm_fe 232 66 = some (.istore_n 3, 1)) rfl).trans ?_
  exact Iff.rfl
theorem r232_67 {d : Nat} {X : Nat × (Nat → Int)} {v : Nat → Int} {M : PH} {K : PV → PS → Prop} {l1 l2 l3 : Int} (h1 : inR l3) : pm_Run d 232 67 [vA 234, vI l1, vI l2, vI l3] [] (GF X, M, PTF v) K ↔ if 8 ≤ l3 then pm_Run d 232 101 [vA 234, vI l1, vI l2, vI l3] [] (GF X, M, PTF v) K else pm_Run d 232 73 [vA 234, vI l1, vI l2, vI l3] [] (GF X, M, PTF v) K := by
  refine (px_go (by decide +kernel : pm_fe 232 67 = some (.iload_n 3, 1)) rfl).trans ?_
  refine (px_go (by decide +kernel : pm_fe 232 68 = some (.bipush 8, 2)) rfl).trans ?_
  refine (ry_ic_ge (off := 31) (tgt := 101) h1 (by decide : (-2147483648 ≤ (8 : Int) ∧ (8 : Int) < 2147483648)) (by decide +kernel)).trans ?_
  exact Iff.rfl
theorem r232_73 {d : Nat} {X : Nat × (Nat → Int)} {v : Nat → Int} {M : PH} {K : PV → PS → Prop} {l1 l2 l3 : Int} (h1 : 0 ≤ ((8 * l2) + l3)) (h2 : ((8 * l2) + l3) < 176) (h3 : 0 ≤ ((8 * l1) + l3)) (h4 : ((8 * l1) + l3) < 176) : pm_Run d 232 73 [vA 234, vI l1, vI l2, vI l3] [] (GF X, M, PTF v) K ↔ pm_Run d 232 95 [vA 234, vI l1, vI l2, vI l3] [] (GF X, pm_sa M 273 (pm_up (M 273) ((8 * l1) + l3).toNat (M 273 ((8 * l2) + l3).toNat)), PTF v) K := by
  refine (px_go (by decide +kernel : pm_fe 232 73 = some (.aload_n 0, 1)) rfl).trans ?_
  refine (ry_get2 (idx := 186) (ci := 12) (k := 57) (by decide +kernel : 234 < 283 ∧ SHF 234 = (12, 76)) (ptf_l (a := 234) (k := 57) (n := 273) (by decide +kernel)) (by decide +kernel)).trans ?_
  refine (px_go (by decide +kernel : pm_fe 232 77 = some (.bipush 8, 2)) rfl).trans ?_
  refine (px_go (by decide +kernel : pm_fe 232 79 = some (.iload_n 1, 1)) rfl).trans ?_
  refine (px_go (by decide +kernel : pm_fe 232 80 = some (.imul, 1)) rfl).trans ?_
  refine (px_go (by decide +kernel : pm_fe 232 81 = some (.iload_n 3, 1)) rfl).trans ?_
  refine (px_go (by decide +kernel : pm_fe 232 82 = some (.iadd, 1)) rfl).trans ?_
  refine (px_go (by decide +kernel : pm_fe 232 83 = some (.aload_n 0, 1)) rfl).trans ?_
  refine (ry_get2 (idx := 186) (ci := 12) (k := 57) (by decide +kernel : 234 < 283 ∧ SHF 234 = (12, 76)) (ptf_l (a := 234) (k := 57) (n := 273) (by decide +kernel)) (by decide +kernel)).trans ?_
  refine (px_go (by decide +kernel : pm_fe 232 87 = some (.bipush 8, 2)) rfl).trans ?_
  refine (px_go (by decide +kernel : pm_fe 232 89 = some (.iload_n 2, 1)) rfl).trans ?_
  refine (px_go (by decide +kernel : pm_fe 232 90 = some (.imul, 1)) rfl).trans ?_
  refine (px_go (by decide +kernel : pm_fe 232 91 = some (.iload_n 3, 1)) rfl).trans ?_
  refine (px_go (by decide +kernel : pm_fe 232 92 = some (.iadd, 1)) rfl).trans ?_
  refine (ry_iald (by decide +kernel : 273 < 283 ∧ SHF 273 = (100, 176)) h1 h2 (by decide +kernel)).trans ?_
  refine (ry_iast (by decide +kernel : 273 < 283 ∧ SHF 273 = (100, 176)) h3 h4 (by decide +kernel)).trans ?_
  exact Iff.rfl
theorem r232_95 {d : Nat} {X : Nat × (Nat → Int)} {v : Nat → Int} {M : PH} {K : PV → PS → Prop} {l1 l2 l3 : Int} : pm_Run d 232 95 [vA 234, vI l1, vI l2, vI l3] [] (GF X, M, PTF v) K ↔ pm_Run d 232 67 [vA 234, vI l1, vI l2, vI (l3 + 1)] [] (GF X, M, PTF v) K := by
  refine (px_go (by decide +kernel : pm_fe 232 95 = some (.iinc 3 1, 3)) rfl).trans ?_
  refine (px_goto (off := (-31)) (tgt := 67) (by decide +kernel)).trans ?_
  exact Iff.rfl
theorem r232_101 {d : Nat} {X : Nat × (Nat → Int)} {v : Nat → Int} {M : PH} {K : PV → PS → Prop} {l1 l2 l3 : Int} : pm_Run d 232 101 [vA 234, vI l1, vI l2, vI l3] [] (GF X, M, PTF v) K ↔ pm_Run d 232 103 [vA 234, vI l1, vI l2, vI 0] [] (GF X, M, PTF v) K := by
  refine (px_go (by decide +kernel : pm_fe 232 101 = some (.iconst 0, 1)) rfl).trans ?_
  refine (px_go (by decide +kernel : pm_fe 232 102 = some (.istore_n 3, 1)) rfl).trans ?_
  exact Iff.rfl
theorem r232_103 {d : Nat} {X : Nat × (Nat → Int)} {v : Nat → Int} {M : PH} {K : PV → PS → Prop} {l1 l2 l3 : Int} (h1 : inR l3) : pm_Run d 232 103 [vA 234, vI l1, vI l2, vI l3] [] (GF X, M, PTF v) K ↔ if 24 ≤ l3 then pm_Run d 232 159 [vA 234, vI l1, vI l2, vI l3] [] (GF X, M, PTF v) K else pm_Run d 232 109 [vA 234, vI l1, vI l2, vI l3] [] (GF X, M, PTF v) K := by
  refine (px_go (by decide +kernel : pm_fe 232 103 = some (.iload_n 3, 1)) rfl).trans ?_
  refine (px_go (by decide +kernel : pm_fe 232 104 = some (.bipush 24, 2)) rfl).trans ?_
  refine (ry_ic_ge (off := 53) (tgt := 159) h1 (by decide : (-2147483648 ≤ (24 : Int) ∧ (24 : Int) < 2147483648)) (by decide +kernel)).trans ?_
  exact Iff.rfl
theorem r232_109 {d : Nat} {X : Nat × (Nat → Int)} {v : Nat → Int} {M : PH} {K : PV → PS → Prop} {l1 l2 l3 : Int} (h1 : 0 ≤ ((24 * l2) + l3)) (h2 : ((24 * l2) + l3) < 528) (h3 : 0 ≤ ((24 * l1) + l3)) (h4 : ((24 * l1) + l3) < 528) : pm_Run d 232 109 [vA 234, vI l1, vI l2, vI l3] [] (GF X, M, PTF v) K ↔ pm_Run d 232 131 [vA 234, vI l1, vI l2, vI l3] [] (GF X, pm_sa M 274 (pm_up (M 274) ((24 * l1) + l3).toNat (M 274 ((24 * l2) + l3).toNat)), PTF v) K := by
  refine (px_go (by decide +kernel : pm_fe 232 109 = some (.aload_n 0, 1)) rfl).trans ?_
  refine (ry_get2 (idx := 189) (ci := 12) (k := 58) (by decide +kernel : 234 < 283 ∧ SHF 234 = (12, 76)) (ptf_l (a := 234) (k := 58) (n := 274) (by decide +kernel)) (by decide +kernel)).trans ?_
  refine (px_go (by decide +kernel : pm_fe 232 113 = some (.bipush 24, 2)) rfl).trans ?_
  refine (px_go (by decide +kernel : pm_fe 232 115 = some (.iload_n 1, 1)) rfl).trans ?_
  refine (px_go (by decide +kernel : pm_fe 232 116 = some (.imul, 1)) rfl).trans ?_
  refine (px_go (by decide +kernel : pm_fe 232 117 = some (.iload_n 3, 1)) rfl).trans ?_
  refine (px_go (by decide +kernel : pm_fe 232 118 = some (.iadd, 1)) rfl).trans ?_
  refine (px_go (by decide +kernel : pm_fe 232 119 = some (.aload_n 0, 1)) rfl).trans ?_
  refine (ry_get2 (idx := 189) (ci := 12) (k := 58) (by decide +kernel : 234 < 283 ∧ SHF 234 = (12, 76)) (ptf_l (a := 234) (k := 58) (n := 274) (by decide +kernel)) (by decide +kernel)).trans ?_
  refine (px_go (by decide +kernel : pm_fe 232 123 = some (.bipush 24, 2)) rfl).trans ?_
  refine (px_go (by decide +kernel : pm_fe 232 125 = some (.iload_n 2, 1)) rfl).trans ?_
  refine (px_go (by decide +kernel : pm_fe 232 126 = some (.imul, 1)) rfl).trans ?_
  refine (px_go (by decide +kernel : pm_fe 232 127 = some (.iload_n 3, 1)) rfl).trans ?_
  refine (px_go (by decide +kernel : pm_fe 232 128 = some (.iadd, 1)) rfl).trans ?_
  refine (ry_iald (by decide +kernel : 274 < 283 ∧ SHF 274 = (100, 528)) h1 h2 (by decide +kernel)).trans ?_
  refine (ry_iast (by decide +kernel : 274 < 283 ∧ SHF 274 = (100, 528)) h3 h4 (by decide +kernel)).trans ?_
  exact Iff.rfl
theorem r232_131 {d : Nat} {X : Nat × (Nat → Int)} {v : Nat → Int} {M : PH} {K : PV → PS → Prop} {l1 l2 l3 : Int} (h1 : 0 ≤ ((24 * l2) + l3)) (h2 : ((24 * l2) + l3) < 528) (h3 : 0 ≤ ((24 * l1) + l3)) (h4 : ((24 * l1) + l3) < 528) : pm_Run d 232 131 [vA 234, vI l1, vI l2, vI l3] [] (GF X, M, PTF v) K ↔ pm_Run d 232 153 [vA 234, vI l1, vI l2, vI l3] [] (GF X, pm_sa M 275 (pm_up (M 275) ((24 * l1) + l3).toNat (M 275 ((24 * l2) + l3).toNat)), PTF v) K := by
  refine (px_go (by decide +kernel : pm_fe 232 131 = some (.aload_n 0, 1)) rfl).trans ?_
  refine (ry_get2 (idx := 192) (ci := 12) (k := 59) (by decide +kernel : 234 < 283 ∧ SHF 234 = (12, 76)) (ptf_l (a := 234) (k := 59) (n := 275) (by decide +kernel)) (by decide +kernel)).trans ?_
  refine (px_go (by decide +kernel : pm_fe 232 135 = some (.bipush 24, 2)) rfl).trans ?_
  refine (px_go (by decide +kernel : pm_fe 232 137 = some (.iload_n 1, 1)) rfl).trans ?_
  refine (px_go (by decide +kernel : pm_fe 232 138 = some (.imul, 1)) rfl).trans ?_
  refine (px_go (by decide +kernel : pm_fe 232 139 = some (.iload_n 3, 1)) rfl).trans ?_
  refine (px_go (by decide +kernel : pm_fe 232 140 = some (.iadd, 1)) rfl).trans ?_
  refine (px_go (by decide +kernel : pm_fe 232 141 = some (.aload_n 0, 1)) rfl).trans ?_
  refine (ry_get2 (idx := 192) (ci := 12) (k := 59) (by decide +kernel : 234 < 283 ∧ SHF 234 = (12, 76)) (ptf_l (a := 234) (k := 59) (n := 275) (by decide +kernel)) (by decide +kernel)).trans ?_
  refine (px_go (by decide +kernel : pm_fe 232 145 = some (.bipush 24, 2)) rfl).trans ?_
  refine (px_go (by decide +kernel : pm_fe 232 147 = some (.iload_n 2, 1)) rfl).trans ?_
  refine (px_go (by decide +kernel : pm_fe 232 148 = some (.imul, 1)) rfl).trans ?_
  refine (px_go (by decide +kernel : pm_fe 232 149 = some (.iload_n 3, 1)) rfl).trans ?_
  refine (px_go (by decide +kernel : pm_fe 232 150 = some (.iadd, 1)) rfl).trans ?_
  refine (ry_iald (by decide +kernel : 275 < 283 ∧ SHF 275 = (100, 528)) h1 h2 (by decide +kernel)).trans ?_
  refine (ry_iast (by decide +kernel : 275 < 283 ∧ SHF 275 = (100, 528)) h3 h4 (by decide +kernel)).trans ?_
  exact Iff.rfl
theorem r232_153 {d : Nat} {X : Nat × (Nat → Int)} {v : Nat → Int} {M : PH} {K : PV → PS → Prop} {l1 l2 l3 : Int} : pm_Run d 232 153 [vA 234, vI l1, vI l2, vI l3] [] (GF X, M, PTF v) K ↔ pm_Run d 232 103 [vA 234, vI l1, vI l2, vI (l3 + 1)] [] (GF X, M, PTF v) K := by
  refine (px_go (by decide +kernel : pm_fe 232 153 = some (.iinc 3 1, 3)) rfl).trans ?_
  refine (px_goto (off := (-53)) (tgt := 103) (by decide +kernel)).trans ?_
  exact Iff.rfl
theorem r232_159 {d : Nat} {X : Nat × (Nat → Int)} {v : Nat → Int} {M : PH} {K : PV → PS → Prop} {l1 l2 l3 : Int} : pm_Run d 232 159 [vA 234, vI l1, vI l2, vI l3] [] (GF X, M, PTF v) K ↔ K PU (GF X, M, PTF v) := by
  refine (px_rv (by decide +kernel)).trans ?_
  exact Iff.rfl
-- X12_begin begin()V
theorem r233_0 {d : Nat} {X : Nat × (Nat → Int)} {v : Nat → Int} {M : PH} {K : PV → PS → Prop} : pm_Run d 233 0 [vA 234, PU] [] (GF X, M, PTF v) K ↔ pm_Run d 233 7 [vA 234, PU] [] (GF X, pm_sa M 270 (pm_up (M 270) 0 0), PTF v) K := by
  refine (px_go (by decide +kernel : pm_fe 233 0 = some (.aload_n 0, 1)) rfl).trans ?_
  refine (ry_get2 (idx := 177) (ci := 12) (k := 54) (by decide +kernel : 234 < 283 ∧ SHF 234 = (12, 76)) (ptf_l (a := 234) (k := 54) (n := 270) (by decide +kernel)) (by decide +kernel)).trans ?_
  refine (px_go (by decide +kernel : pm_fe 233 4 = some (.iconst 0, 1)) rfl).trans ?_
  refine (px_go (by decide +kernel : pm_fe 233 5 = some (.iconst 0, 1)) rfl).trans ?_
  refine (ry_iast (by decide +kernel : 270 < 283 ∧ SHF 270 = (100, 22)) (by decide : (0 : Int) ≤ (0 : Int)) (by decide : (0 : Int) < (22 : Int)) (by decide +kernel)).trans ?_
  exact Iff.rfl
theorem r233_7 {d : Nat} {X : Nat × (Nat → Int)} {v : Nat → Int} {M : PH} {K : PV → PS → Prop} : pm_Run d 233 7 [vA 234, PU] [] (GF X, M, PTF v) K ↔ pm_Run d 233 12 [vA 234, PU] [] (GF X, pm_sa M 234 (pm_up (M 234) 61 0), PTF v) K := by
  refine (px_go (by decide +kernel : pm_fe 233 7 = some (.aload_n 0, 1)) rfl).trans ?_
  refine (px_go (by decide +kernel : pm_fe 233 8 = some (.iconst 0, 1)) rfl).trans ?_
  refine (ry_put0 (idx := 198) (ci := 12) (k := 61) (by decide +kernel : 234 < 283 ∧ SHF 234 = (12, 76)) (by decide +kernel)).trans ?_
  exact Iff.rfl
theorem r233_12 {d : Nat} {X : Nat × (Nat → Int)} {v : Nat → Int} {M : PH} {K : PV → PS → Prop} : pm_Run d 233 12 [vA 234, PU] [] (GF X, M, PTF v) K ↔ pm_Run d 233 17 [vA 234, PU] [] (GF X, pm_sa M 234 (pm_up (M 234) 71 0), PTF v) K := by
  refine (px_go (by decide +kernel : pm_fe 233 12 = some (.aload_n 0, 1)) rfl).trans ?_
  refine (px_go (by decide +kernel : pm_fe 233 13 = some (.iconst 0, 1)) rfl).trans ?_
  refine (ry_put0 (idx := 228) (ci := 12) (k := 71) (by decide +kernel : 234 < 283 ∧ SHF 234 = (12, 76)) (by decide +kernel)).trans ?_
  exact Iff.rfl
theorem r233_17 {d : Nat} {X : Nat × (Nat → Int)} {v : Nat → Int} {M : PH} {K : PV → PS → Prop} : pm_Run d 233 17 [vA 234, PU] [] (GF X, M, PTF v) K ↔ pm_Run d 233 19 [vA 234, vI 0] [] (GF X, M, PTF v) K := by
  refine (px_go (by decide +kernel : pm_fe 233 17 = some (.iconst 0, 1)) rfl).trans ?_
  refine (px_go (by decide +kernel : pm_fe 233 18 = some (.istore_n 1, 1)) rfl).trans ?_
  exact Iff.rfl
theorem r233_19 {d : Nat} {X : Nat × (Nat → Int)} {v : Nat → Int} {M : PH} {K : PV → PS → Prop} {l1 : Int} (h1 : inR l1) : pm_Run d 233 19 [vA 234, vI l1] [] (GF X, M, PTF v) K ↔ if 3 ≤ l1 then pm_Run d 233 68 [vA 234, vI l1] [] (GF X, M, PTF v) K else pm_Run d 233 24 [vA 234, vI l1] [] (GF X, M, PTF v) K := by
  refine (px_go (by decide +kernel : pm_fe 233 19 = some (.iload_n 1, 1)) rfl).trans ?_
  refine (px_go (by decide +kernel : pm_fe 233 20 = some (.iconst 3, 1)) rfl).trans ?_
  refine (ry_ic_ge (off := 47) (tgt := 68) h1 (by decide : (-2147483648 ≤ (3 : Int) ∧ (3 : Int) < 2147483648)) (by decide +kernel)).trans ?_
  exact Iff.rfl
theorem r233_24 {d : Nat} {X : Nat × (Nat → Int)} {v : Nat → Int} {M : PH} {K : PV → PS → Prop} {l1 : Int} (h1 : 0 ≤ ((3 * (M 234 13)) + l1)) (h2 : ((3 * (M 234 13)) + l1) < 6) (h3 : 0 ≤ l1) (h4 : l1 < 66) : pm_Run d 233 24 [vA 234, vI l1] [] (GF X, M, PTF v) K ↔ pm_Run d 233 43 [vA 234, vI l1] [] (GF X, pm_sa M 271 (pm_up (M 271) l1.toNat (M 238 ((3 * (M 234 13)) + l1).toNat)), PTF v) K := by
  refine (px_go (by decide +kernel : pm_fe 233 24 = some (.aload_n 0, 1)) rfl).trans ?_
  refine (ry_get2 (idx := 180) (ci := 12) (k := 55) (by decide +kernel : 234 < 283 ∧ SHF 234 = (12, 76)) (ptf_l (a := 234) (k := 55) (n := 271) (by decide +kernel)) (by decide +kernel)).trans ?_
  refine (px_go (by decide +kernel : pm_fe 233 28 = some (.iload_n 1, 1)) rfl).trans ?_
  refine (px_go (by decide +kernel : pm_fe 233 29 = some (.aload_n 0, 1)) rfl).trans ?_
  refine (ry_get2 (idx := 60) (ci := 12) (k := 16) (by decide +kernel : 234 < 283 ∧ SHF 234 = (12, 76)) (ptf_l (a := 234) (k := 16) (n := 238) (by decide +kernel)) (by decide +kernel)).trans ?_
  refine (px_go (by decide +kernel : pm_fe 233 33 = some (.iconst 3, 1)) rfl).trans ?_
  refine (px_go (by decide +kernel : pm_fe 233 34 = some (.aload_n 0, 1)) rfl).trans ?_
  refine (ry_get0 (idx := 51) (ci := 12) (k := 13) (by decide +kernel : 234 < 283 ∧ SHF 234 = (12, 76)) (by decide +kernel)).trans ?_
  refine (px_go (by decide +kernel : pm_fe 233 38 = some (.imul, 1)) rfl).trans ?_
  refine (px_go (by decide +kernel : pm_fe 233 39 = some (.iload_n 1, 1)) rfl).trans ?_
  refine (px_go (by decide +kernel : pm_fe 233 40 = some (.iadd, 1)) rfl).trans ?_
  refine (ry_iald (by decide +kernel : 238 < 283 ∧ SHF 238 = (100, 6)) h1 h2 (by decide +kernel)).trans ?_
  refine (ry_iast (by decide +kernel : 271 < 283 ∧ SHF 271 = (100, 66)) h3 h4 (by decide +kernel)).trans ?_
  exact Iff.rfl
theorem r233_43 {d : Nat} {X : Nat × (Nat → Int)} {v : Nat → Int} {M : PH} {K : PV → PS → Prop} {l1 : Int} (h1 : 0 ≤ ((3 * (M 234 13)) + l1)) (h2 : ((3 * (M 234 13)) + l1) < 6) (h3 : 0 ≤ l1) (h4 : l1 < 66) : pm_Run d 233 43 [vA 234, vI l1] [] (GF X, M, PTF v) K ↔ pm_Run d 233 62 [vA 234, vI l1] [] (GF X, pm_sa M 272 (pm_up (M 272) l1.toNat (M 240 ((3 * (M 234 13)) + l1).toNat)), PTF v) K := by
  refine (px_go (by decide +kernel : pm_fe 233 43 = some (.aload_n 0, 1)) rfl).trans ?_
  refine (ry_get2 (idx := 183) (ci := 12) (k := 56) (by decide +kernel : 234 < 283 ∧ SHF 234 = (12, 76)) (ptf_l (a := 234) (k := 56) (n := 272) (by decide +kernel)) (by decide +kernel)).trans ?_
  refine (px_go (by decide +kernel : pm_fe 233 47 = some (.iload_n 1, 1)) rfl).trans ?_
  refine (px_go (by decide +kernel : pm_fe 233 48 = some (.aload_n 0, 1)) rfl).trans ?_
  refine (ry_get2 (idx := 66) (ci := 12) (k := 18) (by decide +kernel : 234 < 283 ∧ SHF 234 = (12, 76)) (ptf_l (a := 234) (k := 18) (n := 240) (by decide +kernel)) (by decide +kernel)).trans ?_
  refine (px_go (by decide +kernel : pm_fe 233 52 = some (.iconst 3, 1)) rfl).trans ?_
  refine (px_go (by decide +kernel : pm_fe 233 53 = some (.aload_n 0, 1)) rfl).trans ?_
  refine (ry_get0 (idx := 51) (ci := 12) (k := 13) (by decide +kernel : 234 < 283 ∧ SHF 234 = (12, 76)) (by decide +kernel)).trans ?_
  refine (px_go (by decide +kernel : pm_fe 233 57 = some (.imul, 1)) rfl).trans ?_
  refine (px_go (by decide +kernel : pm_fe 233 58 = some (.iload_n 1, 1)) rfl).trans ?_
  refine (px_go (by decide +kernel : pm_fe 233 59 = some (.iadd, 1)) rfl).trans ?_
  refine (ry_iald (by decide +kernel : 240 < 283 ∧ SHF 240 = (100, 6)) h1 h2 (by decide +kernel)).trans ?_
  refine (ry_iast (by decide +kernel : 272 < 283 ∧ SHF 272 = (100, 66)) h3 h4 (by decide +kernel)).trans ?_
  exact Iff.rfl
theorem r233_62 {d : Nat} {X : Nat × (Nat → Int)} {v : Nat → Int} {M : PH} {K : PV → PS → Prop} {l1 : Int} : pm_Run d 233 62 [vA 234, vI l1] [] (GF X, M, PTF v) K ↔ pm_Run d 233 19 [vA 234, vI (l1 + 1)] [] (GF X, M, PTF v) K := by
  refine (px_go (by decide +kernel : pm_fe 233 62 = some (.iinc 1 1, 3)) rfl).trans ?_
  refine (px_goto (off := (-46)) (tgt := 19) (by decide +kernel)).trans ?_
  exact Iff.rfl
theorem r233_68 {d : Nat} {X : Nat × (Nat → Int)} {v : Nat → Int} {M : PH} {K : PV → PS → Prop} {l1 : Int} : pm_Run d 233 68 [vA 234, vI l1] [] (GF X, M, PTF v) K ↔ pm_Run d 233 70 [vA 234, vI 0] [] (GF X, M, PTF v) K := by
  refine (px_go (by decide +kernel : pm_fe 233 68 = some (.iconst 0, 1)) rfl).trans ?_
  refine (px_go (by decide +kernel : pm_fe 233 69 = some (.istore_n 1, 1)) rfl).trans ?_
  exact Iff.rfl
theorem r233_70 {d : Nat} {X : Nat × (Nat → Int)} {v : Nat → Int} {M : PH} {K : PV → PS → Prop} {l1 : Int} (h1 : inR l1) : pm_Run d 233 70 [vA 234, vI l1] [] (GF X, M, PTF v) K ↔ if 8 ≤ l1 then pm_Run d 233 102 [vA 234, vI l1] [] (GF X, M, PTF v) K else pm_Run d 233 76 [vA 234, vI l1] [] (GF X, M, PTF v) K := by
  refine (px_go (by decide +kernel : pm_fe 233 70 = some (.iload_n 1, 1)) rfl).trans ?_
  refine (px_go (by decide +kernel : pm_fe 233 71 = some (.bipush 8, 2)) rfl).trans ?_
  refine (ry_ic_ge (off := 29) (tgt := 102) h1 (by decide : (-2147483648 ≤ (8 : Int) ∧ (8 : Int) < 2147483648)) (by decide +kernel)).trans ?_
  exact Iff.rfl
theorem r233_76 {d : Nat} {X : Nat × (Nat → Int)} {v : Nat → Int} {M : PH} {K : PV → PS → Prop} {l1 : Int} (h1 : 0 ≤ ((8 * (M 234 13)) + l1)) (h2 : ((8 * (M 234 13)) + l1) < 16) (h3 : 0 ≤ l1) (h4 : l1 < 176) : pm_Run d 233 76 [vA 234, vI l1] [] (GF X, M, PTF v) K ↔ pm_Run d 233 96 [vA 234, vI l1] [] (GF X, pm_sa M 273 (pm_up (M 273) l1.toNat (M 243 ((8 * (M 234 13)) + l1).toNat)), PTF v) K := by
  refine (px_go (by decide +kernel : pm_fe 233 76 = some (.aload_n 0, 1)) rfl).trans ?_
  refine (ry_get2 (idx := 186) (ci := 12) (k := 57) (by decide +kernel : 234 < 283 ∧ SHF 234 = (12, 76)) (ptf_l (a := 234) (k := 57) (n := 273) (by decide +kernel)) (by decide +kernel)).trans ?_
  refine (px_go (by decide +kernel : pm_fe 233 80 = some (.iload_n 1, 1)) rfl).trans ?_
  refine (px_go (by decide +kernel : pm_fe 233 81 = some (.aload_n 0, 1)) rfl).trans ?_
  refine (ry_get2 (idx := 75) (ci := 12) (k := 21) (by decide +kernel : 234 < 283 ∧ SHF 234 = (12, 76)) (ptf_l (a := 234) (k := 21) (n := 243) (by decide +kernel)) (by decide +kernel)).trans ?_
  refine (px_go (by decide +kernel : pm_fe 233 85 = some (.bipush 8, 2)) rfl).trans ?_
  refine (px_go (by decide +kernel : pm_fe 233 87 = some (.aload_n 0, 1)) rfl).trans ?_
  refine (ry_get0 (idx := 51) (ci := 12) (k := 13) (by decide +kernel : 234 < 283 ∧ SHF 234 = (12, 76)) (by decide +kernel)).trans ?_
  refine (px_go (by decide +kernel : pm_fe 233 91 = some (.imul, 1)) rfl).trans ?_
  refine (px_go (by decide +kernel : pm_fe 233 92 = some (.iload_n 1, 1)) rfl).trans ?_
  refine (px_go (by decide +kernel : pm_fe 233 93 = some (.iadd, 1)) rfl).trans ?_
  refine (ry_iald (by decide +kernel : 243 < 283 ∧ SHF 243 = (100, 16)) h1 h2 (by decide +kernel)).trans ?_
  refine (ry_iast (by decide +kernel : 273 < 283 ∧ SHF 273 = (100, 176)) h3 h4 (by decide +kernel)).trans ?_
  exact Iff.rfl
theorem r233_96 {d : Nat} {X : Nat × (Nat → Int)} {v : Nat → Int} {M : PH} {K : PV → PS → Prop} {l1 : Int} : pm_Run d 233 96 [vA 234, vI l1] [] (GF X, M, PTF v) K ↔ pm_Run d 233 70 [vA 234, vI (l1 + 1)] [] (GF X, M, PTF v) K := by
  refine (px_go (by decide +kernel : pm_fe 233 96 = some (.iinc 1 1, 3)) rfl).trans ?_
  refine (px_goto (off := (-29)) (tgt := 70) (by decide +kernel)).trans ?_
  exact Iff.rfl
theorem r233_102 {d : Nat} {X : Nat × (Nat → Int)} {v : Nat → Int} {M : PH} {K : PV → PS → Prop} {l1 : Int} : pm_Run d 233 102 [vA 234, vI l1] [] (GF X, M, PTF v) K ↔ pm_Run d 233 104 [vA 234, vI 0] [] (GF X, M, PTF v) K := by
  refine (px_go (by decide +kernel : pm_fe 233 102 = some (.iconst 0, 1)) rfl).trans ?_
  refine (px_go (by decide +kernel : pm_fe 233 103 = some (.istore_n 1, 1)) rfl).trans ?_
  exact Iff.rfl
theorem r233_104 {d : Nat} {X : Nat × (Nat → Int)} {v : Nat → Int} {M : PH} {K : PV → PS → Prop} {l1 : Int} (h1 : inR l1) : pm_Run d 233 104 [vA 234, vI l1] [] (GF X, M, PTF v) K ↔ if 24 ≤ l1 then pm_Run d 233 162 [vA 234, vI l1] [] (GF X, M, PTF v) K else pm_Run d 233 110 [vA 234, vI l1] [] (GF X, M, PTF v) K := by
  refine (px_go (by decide +kernel : pm_fe 233 104 = some (.iload_n 1, 1)) rfl).trans ?_
  refine (px_go (by decide +kernel : pm_fe 233 105 = some (.bipush 24, 2)) rfl).trans ?_
  refine (ry_ic_ge (off := 55) (tgt := 162) h1 (by decide : (-2147483648 ≤ (24 : Int) ∧ (24 : Int) < 2147483648)) (by decide +kernel)).trans ?_
  exact Iff.rfl
theorem r233_110 {d : Nat} {X : Nat × (Nat → Int)} {v : Nat → Int} {M : PH} {K : PV → PS → Prop} {l1 : Int} (h1 : 0 ≤ (M 234 13)) (h2 : (M 234 13) < 2) (h3 : inR l1) (h4 : inR (3 * (M 241 (M 234 13).toNat))) : pm_Run d 233 110 [vA 234, vI l1] [] (GF X, M, PTF v) K ↔ if 3 * (M 241 (M 234 13).toNat) ≤ l1 then pm_Run d 233 147 [vA 234, vI l1] [vI l1, vA 274] (GF X, M, PTF v) K else pm_Run d 233 130 [vA 234, vI l1] [vI l1, vA 274] (GF X, M, PTF v) K := by
  refine (px_go (by decide +kernel : pm_fe 233 110 = some (.aload_n 0, 1)) rfl).trans ?_
  refine (ry_get2 (idx := 189) (ci := 12) (k := 58) (by decide +kernel : 234 < 283 ∧ SHF 234 = (12, 76)) (ptf_l (a := 234) (k := 58) (n := 274) (by decide +kernel)) (by decide +kernel)).trans ?_
  refine (px_go (by decide +kernel : pm_fe 233 114 = some (.iload_n 1, 1)) rfl).trans ?_
  refine (px_go (by decide +kernel : pm_fe 233 115 = some (.iload_n 1, 1)) rfl).trans ?_
  refine (px_go (by decide +kernel : pm_fe 233 116 = some (.iconst 3, 1)) rfl).trans ?_
  refine (px_go (by decide +kernel : pm_fe 233 117 = some (.aload_n 0, 1)) rfl).trans ?_
  refine (ry_get2 (idx := 69) (ci := 12) (k := 19) (by decide +kernel : 234 < 283 ∧ SHF 234 = (12, 76)) (ptf_l (a := 234) (k := 19) (n := 241) (by decide +kernel)) (by decide +kernel)).trans ?_
  refine (px_go (by decide +kernel : pm_fe 233 121 = some (.aload_n 0, 1)) rfl).trans ?_
  refine (ry_get0 (idx := 51) (ci := 12) (k := 13) (by decide +kernel : 234 < 283 ∧ SHF 234 = (12, 76)) (by decide +kernel)).trans ?_
  refine (ry_iald (by decide +kernel : 241 < 283 ∧ SHF 241 = (100, 2)) h1 h2 (by decide +kernel)).trans ?_
  refine (px_go (by decide +kernel : pm_fe 233 126 = some (.imul, 1)) rfl).trans ?_
  refine (ry_ic_ge (off := 20) (tgt := 147) h3 h4 (by decide +kernel)).trans ?_
  exact Iff.rfl
theorem r233_130 {d : Nat} {X : Nat × (Nat → Int)} {v : Nat → Int} {M : PH} {K : PV → PS → Prop} {l1 s0 : Int} (h1 : 0 ≤ ((24 * (M 234 13)) + l1)) (h2 : ((24 * (M 234 13)) + l1) < 48) : pm_Run d 233 130 [vA 234, vI l1] [vI s0, vA 274] (GF X, M, PTF v) K ↔ pm_Run d 233 148 [vA 234, vI l1] [vI (M 245 ((24 * (M 234 13)) + l1).toNat), vI s0, vA 274] (GF X, M, PTF v) K := by
  refine (px_go (by decide +kernel : pm_fe 233 130 = some (.aload_n 0, 1)) rfl).trans ?_
  refine (ry_get2 (idx := 81) (ci := 12) (k := 23) (by decide +kernel : 234 < 283 ∧ SHF 234 = (12, 76)) (ptf_l (a := 234) (k := 23) (n := 245) (by decide +kernel)) (by decide +kernel)).trans ?_
  refine (px_go (by decide +kernel : pm_fe 233 134 = some (.bipush 24, 2)) rfl).trans ?_
  refine (px_go (by decide +kernel : pm_fe 233 136 = some (.aload_n 0, 1)) rfl).trans ?_
  refine (ry_get0 (idx := 51) (ci := 12) (k := 13) (by decide +kernel : 234 < 283 ∧ SHF 234 = (12, 76)) (by decide +kernel)).trans ?_
  refine (px_go (by decide +kernel : pm_fe 233 140 = some (.imul, 1)) rfl).trans ?_
  refine (px_go (by decide +kernel : pm_fe 233 141 = some (.iload_n 1, 1)) rfl).trans ?_
  refine (px_go (by decide +kernel : pm_fe 233 142 = some (.iadd, 1)) rfl).trans ?_
  refine (ry_iald (by decide +kernel : 245 < 283 ∧ SHF 245 = (100, 48)) h1 h2 (by decide +kernel)).trans ?_
  refine (px_goto (off := 4) (tgt := 148) (by decide +kernel)).trans ?_
  exact Iff.rfl
theorem r233_147 {d : Nat} {X : Nat × (Nat → Int)} {v : Nat → Int} {M : PH} {K : PV → PS → Prop} {l1 s0 : Int} : pm_Run d 233 147 [vA 234, vI l1] [vI s0, vA 274] (GF X, M, PTF v) K ↔ pm_Run d 233 148 [vA 234, vI l1] [vI 0, vI s0, vA 274] (GF X, M, PTF v) K := by
  refine (px_go (by decide +kernel : pm_fe 233 147 = some (.iconst 0, 1)) rfl).trans ?_
  exact Iff.rfl
theorem r233_148 {d : Nat} {X : Nat × (Nat → Int)} {v : Nat → Int} {M : PH} {K : PV → PS → Prop} {l1 s0 s1 : Int} (h1 : 0 ≤ s1) (h2 : s1 < 528) : pm_Run d 233 148 [vA 234, vI l1] [vI s0, vI s1, vA 274] (GF X, M, PTF v) K ↔ pm_Run d 233 149 [vA 234, vI l1] [] (GF X, pm_sa M 274 (pm_up (M 274) s1.toNat s0), PTF v) K := by
  refine (ry_iast (by decide +kernel : 274 < 283 ∧ SHF 274 = (100, 528)) h1 h2 (by decide +kernel)).trans ?_
  exact Iff.rfl
theorem r233_149 {d : Nat} {X : Nat × (Nat → Int)} {v : Nat → Int} {M : PH} {K : PV → PS → Prop} {l1 : Int} (h1 : 0 ≤ l1) (h2 : l1 < 528) : pm_Run d 233 149 [vA 234, vI l1] [] (GF X, M, PTF v) K ↔ pm_Run d 233 156 [vA 234, vI l1] [] (GF X, pm_sa M 275 (pm_up (M 275) l1.toNat 0), PTF v) K := by
  refine (px_go (by decide +kernel : pm_fe 233 149 = some (.aload_n 0, 1)) rfl).trans ?_
  refine (ry_get2 (idx := 192) (ci := 12) (k := 59) (by decide +kernel : 234 < 283 ∧ SHF 234 = (12, 76)) (ptf_l (a := 234) (k := 59) (n := 275) (by decide +kernel)) (by decide +kernel)).trans ?_
  refine (px_go (by decide +kernel : pm_fe 233 153 = some (.iload_n 1, 1)) rfl).trans ?_
  refine (px_go (by decide +kernel : pm_fe 233 154 = some (.iconst 0, 1)) rfl).trans ?_
  refine (ry_iast (by decide +kernel : 275 < 283 ∧ SHF 275 = (100, 528)) h1 h2 (by decide +kernel)).trans ?_
  exact Iff.rfl
theorem r233_156 {d : Nat} {X : Nat × (Nat → Int)} {v : Nat → Int} {M : PH} {K : PV → PS → Prop} {l1 : Int} : pm_Run d 233 156 [vA 234, vI l1] [] (GF X, M, PTF v) K ↔ pm_Run d 233 104 [vA 234, vI (l1 + 1)] [] (GF X, M, PTF v) K := by
  refine (px_go (by decide +kernel : pm_fe 233 156 = some (.iinc 1 1, 3)) rfl).trans ?_
  refine (px_goto (off := (-55)) (tgt := 104) (by decide +kernel)).trans ?_
  exact Iff.rfl
theorem r233_162 {d : Nat} {X : Nat × (Nat → Int)} {v : Nat → Int} {M : PH} {K : PV → PS → Prop} {l1 : Int} : pm_Run d 233 162 [vA 234, vI l1] [] (GF X, M, PTF v) K ↔ K PU (GF X, M, PTF v) := by
  refine (px_rv (by decide +kernel)).trans ?_
  exact Iff.rfl
-- X12_ring ring(I)I
theorem r234_0 {d : Nat} {X : Nat × (Nat → Int)} {v : Nat → Int} {M : PH} {K : PV → PS → Prop} {l1 : Int} (h1 : inR ((M 234 60) + l1)) : pm_Run d 234 0 [vA 234, vI l1] [] (GF X, M, PTF v) K ↔ K (vI (2 + (((M 234 60) + l1).tmod 20))) (GF X, M, PTF v) := by
  refine (px_go (by decide +kernel : pm_fe 234 0 = some (.iconst 2, 1)) rfl).trans ?_
  refine (px_go (by decide +kernel : pm_fe 234 1 = some (.aload_n 0, 1)) rfl).trans ?_
  refine (ry_get0 (idx := 195) (ci := 12) (k := 60) (by decide +kernel : 234 < 283 ∧ SHF 234 = (12, 76)) (by decide +kernel)).trans ?_
  refine (px_go (by decide +kernel : pm_fe 234 5 = some (.iload_n 1, 1)) rfl).trans ?_
  refine (px_go (by decide +kernel : pm_fe 234 6 = some (.iadd, 1)) rfl).trans ?_
  refine (px_go (by decide +kernel : pm_fe 234 7 = some (.bipush 20, 2)) rfl).trans ?_
  refine (ry_irem h1 (by decide : (-2147483648 ≤ (20 : Int) ∧ (20 : Int) < 2147483648)) (by decide : (20 : Int) ≠ (0 : Int)) (by decide +kernel)).trans ?_
  refine (px_go (by decide +kernel : pm_fe 234 10 = some (.iadd, 1)) rfl).trans ?_
  refine (px_ri (by decide +kernel)).trans ?_
  exact Iff.rfl
-- X12_keeps keeps()V
theorem r235_0 {d : Nat} {X : Nat × (Nat → Int)} {v : Nat → Int} {M : PH} {K : PV → PS → Prop} (h1 : inR (M 234 61)) : pm_Run d 235 0 [vA 234] [] (GF X, M, PTF v) K ↔ if M 234 61 ≠ 20 then pm_Run d 235 32 [vA 234] [] (GF X, M, PTF v) K else pm_Run d 235 9 [vA 234] [] (GF X, M, PTF v) K := by
  refine (px_go (by decide +kernel : pm_fe 235 0 = some (.aload_n 0, 1)) rfl).trans ?_
  refine (ry_get0 (idx := 198) (ci := 12) (k := 61) (by decide +kernel : 234 < 283 ∧ SHF 234 = (12, 76)) (by decide +kernel)).trans ?_
  refine (px_go (by decide +kernel : pm_fe 235 4 = some (.bipush 20, 2)) rfl).trans ?_
  refine (ry_ic_ne (off := 26) (tgt := 32) h1 (by decide : (-2147483648 ≤ (20 : Int) ∧ (20 : Int) < 2147483648)) (by decide +kernel)).trans ?_
  exact Iff.rfl
theorem r235_9 {d : Nat} {X : Nat × (Nat → Int)} {v : Nat → Int} {M : PH} {K : PV → PS → Prop} (h1 : inR ((M 234 60) + 1)) : pm_Run d 235 9 [vA 234] [] (GF X, M, PTF v) K ↔ pm_Run d 235 22 [vA 234] [] (GF X, pm_sa M 234 (pm_up (M 234) 60 (((M 234 60) + 1).tmod 20)), PTF v) K := by
  refine (px_go (by decide +kernel : pm_fe 235 9 = some (.aload_n 0, 1)) rfl).trans ?_
  refine (px_go (by decide +kernel : pm_fe 235 10 = some (.aload_n 0, 1)) rfl).trans ?_
  refine (ry_get0 (idx := 195) (ci := 12) (k := 60) (by decide +kernel : 234 < 283 ∧ SHF 234 = (12, 76)) (by decide +kernel)).trans ?_
  refine (px_go (by decide +kernel : pm_fe 235 14 = some (.iconst 1, 1)) rfl).trans ?_
  refine (px_go (by decide +kernel : pm_fe 235 15 = some (.iadd, 1)) rfl).trans ?_
  refine (px_go (by decide +kernel : pm_fe 235 16 = some (.bipush 20, 2)) rfl).trans ?_
  refine (ry_irem h1 (by decide : (-2147483648 ≤ (20 : Int) ∧ (20 : Int) < 2147483648)) (by decide : (20 : Int) ≠ (0 : Int)) (by decide +kernel)).trans ?_
  refine (ry_put0 (idx := 195) (ci := 12) (k := 60) (by decide +kernel : 234 < 283 ∧ SHF 234 = (12, 76)) (by decide +kernel)).trans ?_
  exact Iff.rfl
theorem r235_22 {d : Nat} {X : Nat × (Nat → Int)} {v : Nat → Int} {M : PH} {K : PV → PS → Prop} : pm_Run d 235 22 [vA 234] [] (GF X, M, PTF v) K ↔ pm_Run d 235 32 [vA 234] [] (GF X, pm_sa M 234 (pm_up (M 234) 61 ((M 234 61) - 1)), PTF v) K := by
  refine (px_go (by decide +kernel : pm_fe 235 22 = some (.aload_n 0, 1)) rfl).trans ?_
  refine (px_go (by decide +kernel : pm_fe 235 23 = some (.dup, 1)) rfl).trans ?_
  refine (ry_get0 (idx := 198) (ci := 12) (k := 61) (by decide +kernel : 234 < 283 ∧ SHF 234 = (12, 76)) (by decide +kernel)).trans ?_
  refine (px_go (by decide +kernel : pm_fe 235 27 = some (.iconst 1, 1)) rfl).trans ?_
  refine (px_go (by decide +kernel : pm_fe 235 28 = some (.isub, 1)) rfl).trans ?_
  refine (ry_put0 (idx := 198) (ci := 12) (k := 61) (by decide +kernel : 234 < 283 ∧ SHF 234 = (12, 76)) (by decide +kernel)).trans ?_
  exact Iff.rfl
theorem r235_32 {d : Nat} {X : Nat × (Nat → Int)} {v : Nat → Int} {M : PH} {K : PV → PS → Prop} : pm_Run d 235 32 [vA 234] [] (GF X, M, PTF v) K ↔ pm_Call d 234 [vA 234, vI (M 234 61)] (GF X, M, PTF v) (fun r9 S1 => pm_Run d 235 41 [vA 234] (pm_push r9 [vA 234]) S1 K) := by
  refine (px_go (by decide +kernel : pm_fe 235 32 = some (.aload_n 0, 1)) rfl).trans ?_
  refine (px_go (by decide +kernel : pm_fe 235 33 = some (.aload_n 0, 1)) rfl).trans ?_
  refine (px_go (by decide +kernel : pm_fe 235 34 = some (.aload_n 0, 1)) rfl).trans ?_
  refine (ry_get0 (idx := 198) (ci := 12) (k := 61) (by decide +kernel : 234 < 283 ∧ SHF 234 = (12, 76)) (by decide +kernel)).trans ?_
  refine (ry_v1 (idx := 442) (m' := 234) (ci := 12) (by decide +kernel : 234 < 283 ∧ SHF 234 = (12, 76)) (by simp [pm_wl_n, pm_wl_c, pm_w] : pm_wl [vA 234] ≤ 8) (by decide +kernel)).trans ?_
  exact Iff.rfl
theorem r235_41 {d : Nat} {X : Nat × (Nat → Int)} {v : Nat → Int} {M : PH} {K : PV → PS → Prop} {s0 : Int} : pm_Run d 235 41 [vA 234] [vI s0, vA 234] (GF X, M, PTF v) K ↔ pm_Call d 232 [vA 234, vI s0, vI 0] (GF X, M, PTF v) (fun r9 S1 => pm_Run d 235 45 [vA 234] (pm_push r9 []) S1 K) := by
  refine (px_go (by decide +kernel : pm_fe 235 41 = some (.iconst 0, 1)) rfl).trans ?_
  refine (ry_v2 (idx := 445) (m' := 232) (ci := 12) (by decide +kernel : 234 < 283 ∧ SHF 234 = (12, 76)) (by simp [pm_wl_n, pm_wl_c, pm_w] : pm_wl [] ≤ 8) (by decide +kernel)).trans ?_
  exact Iff.rfl
theorem r235_45 {d : Nat} {X : Nat × (Nat → Int)} {v : Nat → Int} {M : PH} {K : PV → PS → Prop} : pm_Run d 235 45 [vA 234] [] (GF X, M, PTF v) K ↔ K PU (GF X, pm_sa M 234 (pm_up (M 234) 61 ((M 234 61) + 1)), PTF v) := by
  refine (px_go (by decide +kernel : pm_fe 235 45 = some (.aload_n 0, 1)) rfl).trans ?_
  refine (px_go (by decide +kernel : pm_fe 235 46 = some (.dup, 1)) rfl).trans ?_
  refine (ry_get0 (idx := 198) (ci := 12) (k := 61) (by decide +kernel : 234 < 283 ∧ SHF 234 = (12, 76)) (by decide +kernel)).trans ?_
  refine (px_go (by decide +kernel : pm_fe 235 50 = some (.iconst 1, 1)) rfl).trans ?_
  refine (px_go (by decide +kernel : pm_fe 235 51 = some (.iadd, 1)) rfl).trans ?_
  refine (ry_put0 (idx := 198) (ci := 12) (k := 61) (by decide +kernel : 234 < 283 ∧ SHF 234 = (12, 76)) (by decide +kernel)).trans ?_
  refine (px_rv (by decide +kernel)).trans ?_
  exact Iff.rfl
