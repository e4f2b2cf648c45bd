-- X0_begin begin(LMoonTender$Chart;)V
-- X0_findWished findWished(II)Z
theorem r2_0 {d : Nat} {X : Nat × (Nat → Int)} {v : Nat → Int} {M : PH} {K : PV → PS → Prop} {l1 l2 : Int} (h1 : inR l1) (h2 : inR (M 74 11)) : pm_Run d 2 0 [vA 74, vI l1, vI l2] [] (GF X, M, PTF v) K ↔ if l1 ≠ M 74 11 then pm_Run d 2 16 [vA 74, vI l1, vI l2] [] (GF X, M, PTF v) K else pm_Run d 2 8 [vA 74, vI l1, vI l2] [] (GF X, M, PTF v) K := by
  refine (px_go (by decide +kernel : pm_fe 2 0 = some (.iload_n 1, 1)) rfl).trans ?_
  refine (px_go (by decide +kernel : pm_fe 2 1 = some (.aload_n 0, 1)) rfl).trans ?_
  refine (ry_get0 (idx := 37) (ci := 0) (k := 11) (by decide +kernel : 74 < 283 ∧ SHF 74 = (0, 17)) (by decide +kernel)).trans ?_
  refine (ry_ic_ne (off := 11) (tgt := 16) h1 h2 (by decide +kernel)).trans ?_
  exact Iff.rfl
theorem r2_8 {d : Nat} {X : Nat × (Nat → Int)} {v : Nat → Int} {M : PH} {K : PV → PS → Prop} {l1 l2 : Int} (h1 : inR l2) (h2 : inR (M 74 12)) : pm_Run d 2 8 [vA 74, vI l1, vI l2] [] (GF X, M, PTF v) K ↔ if l2 = M 74 12 then pm_Run d 2 45 [vA 74, vI l1, vI l2] [] (GF X, M, PTF v) K else pm_Run d 2 16 [vA 74, vI l1, vI l2] [] (GF X, M, PTF v) K := by
  refine (px_go (by decide +kernel : pm_fe 2 8 = some (.iload_n 2, 1)) rfl).trans ?_
  refine (px_go (by decide +kernel : pm_fe 2 9 = some (.aload_n 0, 1)) rfl).trans ?_
  refine (ry_get0 (idx := 64) (ci := 0) (k := 12) (by decide +kernel : 74 < 283 ∧ SHF 74 = (0, 17)) (by decide +kernel)).trans ?_
  refine (ry_ic_eq (off := 32) (tgt := 45) h1 h2 (by decide +kernel)).trans ?_
  exact Iff.rfl
theorem r2_16 {d : Nat} {X : Nat × (Nat → Int)} {v : Nat → Int} {M : PH} {K : PV → PS → Prop} {l1 l2 : Int} : pm_Run d 2 16 [vA 74, vI l1, vI l2] [] (GF X, M, PTF v) K ↔ pm_Run d 2 21 [vA 74, vI l1, vI l2] [] (GF X, pm_sa M 74 (pm_up (M 74) 11 l1), PTF v) K := by
  refine (px_go (by decide +kernel : pm_fe 2 16 = some (.aload_n 0, 1)) rfl).trans ?_
  refine (px_go (by decide +kernel : pm_fe 2 17 = some (.iload_n 1, 1)) rfl).trans ?_
  refine (ry_put0 (idx := 37) (ci := 0) (k := 11) (by decide +kernel : 74 < 283 ∧ SHF 74 = (0, 17)) (by decide +kernel)).trans ?_
  exact Iff.rfl
theorem r2_21 {d : Nat} {X : Nat × (Nat → Int)} {v : Nat → Int} {M : PH} {K : PV → PS → Prop} {l1 l2 : Int} : pm_Run d 2 21 [vA 74, vI l1, vI l2] [] (GF X, M, PTF v) K ↔ pm_Run d 2 26 [vA 74, vI l1, vI l2] [] (GF X, pm_sa M 74 (pm_up (M 74) 12 l2), PTF v) K := by
  refine (px_go (by decide +kernel : pm_fe 2 21 = some (.aload_n 0, 1)) rfl).trans ?_
  refine (px_go (by decide +kernel : pm_fe 2 22 = some (.iload_n 2, 1)) rfl).trans ?_
  refine (ry_put0 (idx := 64) (ci := 0) (k := 12) (by decide +kernel : 74 < 283 ∧ SHF 74 = (0, 17)) (by decide +kernel)).trans ?_
  exact Iff.rfl
theorem r2_26 {d : Nat} {X : Nat × (Nat → Int)} {v : Nat → Int} {M : PH} {K : PV → PS → Prop} {l1 l2 : Int} : pm_Run d 2 26 [vA 74, vI l1, vI l2] [] (GF X, M, PTF v) K ↔ pm_Run d 2 31 [vA 74, vI l1, vI l2] [] (GF X, pm_sa M 74 (pm_up (M 74) 13 (-1)), PTF v) K := by
  refine (px_go (by decide +kernel : pm_fe 2 26 = some (.aload_n 0, 1)) rfl).trans ?_
  refine (px_go (by decide +kernel : pm_fe 2 27 = some (.iconst (-1), 1)) rfl).trans ?_
  refine (ry_put0 (idx := 41) (ci := 0) (k := 13) (by decide +kernel : 74 < 283 ∧ SHF 74 = (0, 17)) (by decide +kernel)).trans ?_
  exact Iff.rfl
theorem r2_31 {d : Nat} {X : Nat × (Nat → Int)} {v : Nat → Int} {M : PH} {K : PV → PS → Prop} {l1 l2 : Int} : pm_Run d 2 31 [vA 74, vI l1, vI l2] [] (GF X, M, PTF v) K ↔ pm_Call d 7 [vA 74, vI l1, vA 3] (GF X, M, PTF v) (fun r9 S1 => pm_Run d 2 40 [vA 74, vI l1, vI l2] (pm_push r9 []) S1 K) := by
  refine (px_go (by decide +kernel : pm_fe 2 31 = some (.aload_n 0, 1)) rfl).trans ?_
  refine (px_go (by decide +kernel : pm_fe 2 32 = some (.iload_n 1, 1)) rfl).trans ?_
  refine (px_go (by decide +kernel : pm_fe 2 33 = some (.aload_n 0, 1)) rfl).trans ?_
  refine (ry_get2 (idx := 58) (ci := 0) (k := 7) (by decide +kernel : 74 < 283 ∧ SHF 74 = (0, 17)) (ptf_l (a := 74) (k := 7) (n := 3) (by decide +kernel)) (by decide +kernel)).trans ?_
  refine (ry_v2 (idx := 67) (m' := 7) (ci := 0) (by decide +kernel : 74 < 283 ∧ SHF 74 = (0, 17)) (by simp [pm_wl_n, pm_wl_c, pm_w] : pm_wl [] ≤ 8) (by decide +kernel)).trans ?_
  exact Iff.rfl
theorem r2_40 {d : Nat} {X : Nat × (Nat → Int)} {v : Nat → Int} {M : PH} {K : PV → PS → Prop} {l1 l2 : Int} : pm_Run d 2 40 [vA 74, vI l1, vI l2] [] (GF X, M, PTF v) K ↔ pm_Call d 3 [vA 74, vI l2] (GF X, M, PTF v) (fun r9 S1 => pm_Run d 2 45 [vA 74, vI l1, vI l2] (pm_push r9 []) S1 K) := by
  refine (px_go (by decide +kernel : pm_fe 2 40 = some (.aload_n 0, 1)) rfl).trans ?_
  refine (px_go (by decide +kernel : pm_fe 2 41 = some (.iload_n 2, 1)) rfl).trans ?_
  refine (ry_v1 (idx := 71) (m' := 3) (ci := 0) (by decide +kernel : 74 < 283 ∧ SHF 74 = (0, 17)) (by simp [pm_wl_n, pm_wl_c, pm_w] : pm_wl [] ≤ 8) (by decide +kernel)).trans ?_
  exact Iff.rfl
theorem r2_45 {d : Nat} {X : Nat × (Nat → Int)} {v : Nat → Int} {M : PH} {K : PV → PS → Prop} {l1 l2 : Int} (h1 : inR (M 74 13)) : pm_Run d 2 45 [vA 74, vI l1, vI l2] [] (GF X, M, PTF v) K ↔ if M 74 13 = (-1) then pm_Run d 2 57 [vA 74, vI l1, vI l2] [] (GF X, M, PTF v) K else pm_Run d 2 53 [vA 74, vI l1, vI l2] [] (GF X, M, PTF v) K := by
  refine (px_go (by decide +kernel : pm_fe 2 45 = some (.aload_n 0, 1)) rfl).trans ?_
  refine (ry_get0 (idx := 41) (ci := 0) (k := 13) (by decide +kernel : 74 < 283 ∧ SHF 74 = (0, 17)) (by decide +kernel)).trans ?_
  refine (px_go (by decide +kernel : pm_fe 2 49 = some (.iconst (-1), 1)) rfl).trans ?_
  refine (ry_ic_eq (off := 7) (tgt := 57) h1 (by decide : (-2147483648 ≤ ((-1) : Int) ∧ ((-1) : Int) < 2147483648)) (by decide +kernel)).trans ?_
  exact Iff.rfl
theorem r2_53 {d : Nat} {X : Nat × (Nat → Int)} {v : Nat → Int} {M : PH} {K : PV → PS → Prop} {l1 l2 : Int} : pm_Run d 2 53 [vA 74, vI l1, vI l2] [] (GF X, M, PTF v) K ↔ pm_Run d 2 58 [vA 74, vI l1, vI l2] [vI 1] (GF X, M, PTF v) K := by
  refine (px_go (by decide +kernel : pm_fe 2 53 = some (.iconst 1, 1)) rfl).trans ?_
  refine (px_goto (off := 4) (tgt := 58) (by decide +kernel)).trans ?_
  exact Iff.rfl
theorem r2_57 {d : Nat} {X : Nat × (Nat → Int)} {v : Nat → Int} {M : PH} {K : PV → PS → Prop} {l1 l2 : Int} : pm_Run d 2 57 [vA 74, vI l1, vI l2] [] (GF X, M, PTF v) K ↔ pm_Run d 2 58 [vA 74, vI l1, vI l2] [vI 0] (GF X, M, PTF v) K := by
  refine (px_go (by decide +kernel : pm_fe 2 57 = some (.iconst 0, 1)) rfl).trans ?_
  exact Iff.rfl
theorem r2_58 {d : Nat} {X : Nat × (Nat → Int)} {v : Nat → Int} {M : PH} {K : PV → PS → Prop} {l1 l2 s0 : Int} (h1 : s0 = 0 ∨ s0 = 1) : pm_Run d 2 58 [vA 74, vI l1, vI l2] [vI s0] (GF X, M, PTF v) K ↔ K (vI s0) (GF X, M, PTF v) := by
  refine (px_rz (by decide +kernel)).trans ((and_iff_right h1).trans ?_)
  exact Iff.rfl
-- X0_searchWished searchWished(I)V
theorem r3_0 {d : Nat} {X : Nat × (Nat → Int)} {v : Nat → Int} {M : PH} {K : PV → PS → Prop} {l1 : Int} : pm_Run d 3 0 [vA 74, vI l1, PU, PU, PU, PU, PU] [] (GF X, M, PTF v) K ↔ pm_Call d 8 [vA 74, vI 10] (GF X, M, PTF v) (fun r9 S1 => pm_Run d 3 11 [vA 74, vI l1, vI 31, vI 31, PU, PU, PU] (pm_push r9 []) S1 K) := by
  refine (px_go (by decide +kernel : pm_fe 3 0 = some (.bipush 31, 2)) rfl).trans ?_
  refine (px_go (by decide +kernel : pm_fe 3 2 = some (.istore_n 2, 1)) rfl).trans ?_
  refine (px_go (by decide +kernel : pm_fe 3 3 = some (.iload_n 2, 1)) rfl).trans ?_
  refine (px_go (by decide +kernel : pm_fe 3 4 = some (.istore_n 3, 1)) rfl).trans ?_
  refine (px_go (by decide +kernel : pm_fe 3 5 = some (.aload_n 0, 1)) rfl).trans ?_
  refine (px_go (by decide +kernel : pm_fe 3 6 = some (.bipush 10, 2)) rfl).trans ?_
  refine (ry_v1 (idx := 75) (m' := 8) (ci := 0) (by decide +kernel : 74 < 283 ∧ SHF 74 = (0, 17)) (by simp [pm_wl_n, pm_wl_c, pm_w] : pm_wl [] ≤ 8) (by decide +kernel)).trans ?_
  exact Iff.rfl
theorem r3_11 {d : Nat} {X : Nat × (Nat → Int)} {v : Nat → Int} {M : PH} {K : PV → PS → Prop} {l1 l2 l3 s0 : Int} : pm_Run d 3 11 [vA 74, vI l1, vI l2, vI l3, PU, PU, PU] [vI s0] (GF X, M, PTF v) K ↔ pm_Run d 3 16 [vA 74, vI l1, vI l2, vI l3, vI s0, vI 0, PU] [] (GF X, M, PTF v) K := by
  refine (px_go (by decide +kernel : pm_fe 3 11 = some (.istore 4, 2)) rfl).trans ?_
  refine (px_go (by decide +kernel : pm_fe 3 13 = some (.iconst 0, 1)) rfl).trans ?_
  refine (px_go (by decide +kernel : pm_fe 3 14 = some (.istore 5, 2)) rfl).trans ?_
  exact Iff.rfl
theorem r3_16 {d : Nat} {X : Nat × (Nat → Int)} {v : Nat → Int} {M : PH} {K : PV → PS → Prop} {l1 l2 l3 l4 l5 : Int} {l6 : PV} (h1 : inR l5) (h2 : inR l4) : pm_Run d 3 16 [vA 74, vI l1, vI l2, vI l3, vI l4, vI l5, l6] [] (GF X, M, PTF v) K ↔ if l4 ≤ l5 then pm_Run d 3 76 [vA 74, vI l1, vI l2, vI l3, vI l4, vI l5, l6] [] (GF X, M, PTF v) K else pm_Run d 3 23 [vA 74, vI l1, vI l2, vI l3, vI l4, vI l5, l6] [] (GF X, M, PTF v) K := by
  refine (px_go (by decide +kernel : pm_fe 3 16 = some (.iload 5, 2)) rfl).trans ?_
  refine (px_go (by decide +kernel : pm_fe 3 18 = some (.iload 4, 2)) rfl).trans ?_
  refine (ry_ic_ge (off := 56) (tgt := 76) h1 h2 (by decide +kernel)).trans ?_
  exact Iff.rfl
theorem r3_23 {d : Nat} {X : Nat × (Nat → Int)} {v : Nat → Int} {M : PH} {K : PV → PS → Prop} {l1 l2 l3 l4 l5 : Int} {l6 : PV} : pm_Run d 3 23 [vA 74, vI l1, vI l2, vI l3, vI l4, vI l5, l6] [] (GF X, M, PTF v) K ↔ pm_Call d 10 [vA 74] (GF X, M, PTF v) (fun r9 S1 => pm_Run d 3 27 [vA 74, vI l1, vI l2, vI l3, vI l4, vI l5, l6] (pm_push r9 []) S1 K) := by
  refine (px_go (by decide +kernel : pm_fe 3 23 = some (.aload_n 0, 1)) rfl).trans ?_
  refine (ry_v0 (idx := 79) (m' := 10) (ci := 0) (by decide +kernel : 74 < 283 ∧ SHF 74 = (0, 17)) (by simp [pm_wl_n, pm_wl_c, pm_w] : pm_wl [] ≤ 8) (by decide +kernel)).trans ?_
  exact Iff.rfl
theorem r3_27 {d : Nat} {X : Nat × (Nat → Int)} {v : Nat → Int} {M : PH} {K : PV → PS → Prop} {l1 l2 l3 l4 l5 s0 : Int} {l6 : PV} (h1 : inR s0) (h2 : inR l3) : pm_Run d 3 27 [vA 74, vI l1, vI l2, vI l3, vI l4, vI l5, l6] [vI s0] (GF X, M, PTF v) K ↔ if l3 ≤ s0 then pm_Run d 3 64 [vA 74, vI l1, vI l2, vI l3, vI l4, vI l5, vI s0] [] (GF X, M, PTF v) K else pm_Run d 3 35 [vA 74, vI l1, vI l2, vI l3, vI l4, vI l5, vI s0] [] (GF X, M, PTF v) K := by
  refine (px_go (by decide +kernel : pm_fe 3 27 = some (.istore 6, 2)) rfl).trans ?_
  refine (px_go (by decide +kernel : pm_fe 3 29 = some (.iload 6, 2)) rfl).trans ?_
  refine (px_go (by decide +kernel : pm_fe 3 31 = some (.iload_n 3, 1)) rfl).trans ?_
  refine (ry_ic_ge (off := 32) (tgt := 64) h1 h2 (by decide +kernel)).trans ?_
  exact Iff.rfl
theorem r3_35 {d : Nat} {X : Nat × (Nat → Int)} {v : Nat → Int} {M : PH} {K : PV → PS → Prop} {l1 l2 l3 l4 l5 l6 : Int} : pm_Run d 3 35 [vA 74, vI l1, vI l2, vI l3, vI l4, vI l5, vI l6] [] (GF X, M, PTF v) K ↔ pm_Call d 11 [vA 74, vA 3] (GF X, M, PTF v) (fun r9 S1 => pm_Run d 3 43 [vA 74, vI l1, vI l2, vI l3, vI l4, vI l5, vI l6] (pm_push r9 []) S1 K) := by
  refine (px_go (by decide +kernel : pm_fe 3 35 = some (.aload_n 0, 1)) rfl).trans ?_
  refine (px_go (by decide +kernel : pm_fe 3 36 = some (.aload_n 0, 1)) rfl).trans ?_
  refine (ry_get2 (idx := 58) (ci := 0) (k := 7) (by decide +kernel : 74 < 283 ∧ SHF 74 = (0, 17)) (ptf_l (a := 74) (k := 7) (n := 3) (by decide +kernel)) (by decide +kernel)).trans ?_
  refine (ry_v1 (idx := 83) (m' := 11) (ci := 0) (by decide +kernel : 74 < 283 ∧ SHF 74 = (0, 17)) (by simp [pm_wl_n, pm_wl_c, pm_w] : pm_wl [] ≤ 8) (by decide +kernel)).trans ?_
  exact Iff.rfl
theorem r3_43 {d : Nat} {X : Nat × (Nat → Int)} {v : Nat → Int} {M : PH} {K : PV → PS → Prop} {l1 l2 l3 l4 l5 l6 s0 : Int} (h1 : inR s0) (h2 : inR l1) : pm_Run d 3 43 [vA 74, vI l1, vI l2, vI l3, vI l4, vI l5, vI l6] [vI s0] (GF X, M, PTF v) K ↔ if s0 < l1 then pm_Run d 3 64 [vA 74, vI l1, vI l2, vI l3, vI l4, vI l5, vI l6] [] (GF X, M, PTF v) K else pm_Run d 3 47 [vA 74, vI l1, vI l2, vI l3, vI l4, vI l5, vI l6] [] (GF X, M, PTF v) K := by
  refine (px_go (by decide +kernel : pm_fe 3 43 = some (.iload_n 1, 1)) rfl).trans ?_
  refine (ry_ic_lt (off := 20) (tgt := 64) h1 h2 (by decide +kernel)).trans ?_
  exact Iff.rfl
theorem r3_47 {d : Nat} {X : Nat × (Nat → Int)} {v : Nat → Int} {M : PH} {K : PV → PS → Prop} {l1 l2 l3 l4 l5 l6 : Int} : pm_Run d 3 47 [vA 74, vI l1, vI l2, vI l3, vI l4, vI l5, vI l6] [] (GF X, M, PTF v) K ↔ pm_Run d 3 64 [vA 74, vI l1, vI l2, vI l6, vI l4, vI l5, vI l6] [] (GF X, pm_sa M 84 (pm_cp (M 82) (M 84) 0 0 3), PTF v) K := by
  refine (px_go (by decide +kernel : pm_fe 3 47 = some (.iload 6, 2)) rfl).trans ?_
  refine (px_go (by decide +kernel : pm_fe 3 49 = some (.istore_n 3, 1)) rfl).trans ?_
  refine (px_go (by decide +kernel : pm_fe 3 50 = some (.aload_n 0, 1)) rfl).trans ?_
  refine (ry_get2 (idx := 31) (ci := 0) (k := 5) (by decide +kernel : 74 < 283 ∧ SHF 74 = (0, 17)) (ptf_l (a := 74) (k := 5) (n := 82) (by decide +kernel)) (by decide +kernel)).trans ?_
  refine (px_go (by decide +kernel : pm_fe 3 54 = some (.iconst 0, 1)) rfl).trans ?_
  refine (px_go (by decide +kernel : pm_fe 3 55 = some (.aload_n 0, 1)) rfl).trans ?_
  refine (ry_get2 (idx := 44) (ci := 0) (k := 14) (by decide +kernel : 74 < 283 ∧ SHF 74 = (0, 17)) (ptf_l (a := 74) (k := 14) (n := 84) (by decide +kernel)) (by decide +kernel)).trans ?_
  refine (px_go (by decide +kernel : pm_fe 3 59 = some (.iconst 0, 1)) rfl).trans ?_
  refine (px_go (by decide +kernel : pm_fe 3 60 = some (.iconst 3, 1)) rfl).trans ?_
  refine (ry_acpy (idx := 87) (by decide +kernel : 82 < 283 ∧ SHF 82 = (100, 3)) (by decide +kernel : 84 < 283 ∧ SHF 84 = (100, 3)) (by decide : 82 ≠ 84) (by decide : (0 : Int) ≤ (0 : Int) ∧ (0 : Int) ≤ (0 : Int) ∧ (0 : Int) ≤ (3 : Int) ∧ (0 : Int) + (3 : Int) ≤ (3 : Int) ∧ (0 : Int) + (3 : Int) ≤ (3 : Int)) (by simp [pm_wl_n, pm_wl_c, pm_w] : pm_wl [] ≤ 8) (by decide +kernel)).trans ?_
  exact Iff.rfl
theorem r3_64 {d : Nat} {X : Nat × (Nat → Int)} {v : Nat → Int} {M : PH} {K : PV → PS → Prop} {l1 l2 l3 l4 l5 l6 : Int} : pm_Run d 3 64 [vA 74, vI l1, vI l2, vI l3, vI l4, vI l5, vI l6] [] (GF X, M, PTF v) K ↔ pm_Call d 9 [vA 74, vI 10] (GF X, M, PTF v) (fun r9 S1 => pm_Run d 3 70 [vA 74, vI l1, vI l2, vI l3, vI l4, vI l5, vI l6] (pm_push r9 []) S1 K) := by
  refine (px_go (by decide +kernel : pm_fe 3 64 = some (.aload_n 0, 1)) rfl).trans ?_
  refine (px_go (by decide +kernel : pm_fe 3 65 = some (.bipush 10, 2)) rfl).trans ?_
  refine (ry_v1 (idx := 93) (m' := 9) (ci := 0) (by decide +kernel : 74 < 283 ∧ SHF 74 = (0, 17)) (by simp [pm_wl_n, pm_wl_c, pm_w] : pm_wl [] ≤ 8) (by decide +kernel)).trans ?_
  exact Iff.rfl
theorem r3_70 {d : Nat} {X : Nat × (Nat → Int)} {v : Nat → Int} {M : PH} {K : PV → PS → Prop} {l1 l2 l3 l4 l5 l6 : Int} : pm_Run d 3 70 [vA 74, vI l1, vI l2, vI l3, vI l4, vI l5, vI l6] [] (GF X, M, PTF v) K ↔ pm_Run d 3 16 [vA 74, vI l1, vI l2, vI l3, vI l4, vI (l5 + 1), vI l6] [] (GF X, M, PTF v) K := by
  refine (px_go (by decide +kernel : pm_fe 3 70 = some (.iinc 5 1, 3)) rfl).trans ?_
  refine (px_goto (off := (-57)) (tgt := 16) (by decide +kernel)).trans ?_
  exact Iff.rfl
theorem r3_76 {d : Nat} {X : Nat × (Nat → Int)} {v : Nat → Int} {M : PH} {K : PV → PS → Prop} {l1 l2 l3 l4 l5 : Int} {l6 : PV} (h1 : inR l3) (h2 : inR l2) : pm_Run d 3 76 [vA 74, vI l1, vI l2, vI l3, vI l4, vI l5, l6] [] (GF X, M, PTF v) K ↔ if l2 ≤ l3 then pm_Run d 3 86 [vA 74, vI l1, vI l2, vI l3, vI l4, vI l5, l6] [] (GF X, M, PTF v) K else pm_Run d 3 81 [vA 74, vI l1, vI l2, vI l3, vI l4, vI l5, l6] [] (GF X, M, PTF v) K := by
  refine (px_go (by decide +kernel : pm_fe 3 76 = some (.iload_n 3, 1)) rfl).trans ?_
  refine (px_go (by decide +kernel : pm_fe 3 77 = some (.iload_n 2, 1)) rfl).trans ?_
  refine (ry_ic_ge (off := 8) (tgt := 86) h1 h2 (by decide +kernel)).trans ?_
  exact Iff.rfl
theorem r3_81 {d : Nat} {X : Nat × (Nat → Int)} {v : Nat → Int} {M : PH} {K : PV → PS → Prop} {l1 l2 l3 l4 l5 : Int} {l6 : PV} : pm_Run d 3 81 [vA 74, vI l1, vI l2, vI l3, vI l4, vI l5, l6] [] (GF X, M, PTF v) K ↔ pm_Run d 3 86 [vA 74, vI l1, vI l2, vI l3, vI l4, vI l5, l6] [] (GF X, pm_sa M 74 (pm_up (M 74) 13 l3), PTF v) K := by
  refine (px_go (by decide +kernel : pm_fe 3 81 = some (.aload_n 0, 1)) rfl).trans ?_
  refine (px_go (by decide +kernel : pm_fe 3 82 = some (.iload_n 3, 1)) rfl).trans ?_
  refine (ry_put0 (idx := 41) (ci := 0) (k := 13) (by decide +kernel : 74 < 283 ∧ SHF 74 = (0, 17)) (by decide +kernel)).trans ?_
  exact Iff.rfl
theorem r3_86 {d : Nat} {X : Nat × (Nat → Int)} {v : Nat → Int} {M : PH} {K : PV → PS → Prop} {l1 l2 l3 l4 l5 : Int} {l6 : PV} : pm_Run d 3 86 [vA 74, vI l1, vI l2, vI l3, vI l4, vI l5, l6] [] (GF X, M, PTF v) K ↔ K PU (GF X, M, PTF v) := by
  refine (px_rv (by decide +kernel)).trans ?_
  exact Iff.rfl
-- X0_findRest findRest()V
theorem r4_0 {d : Nat} {X : Nat × (Nat → Int)} {v : Nat → Int} {M : PH} {K : PV → PS → Prop} (h1 : inR (M 74 16)) : pm_Run d 4 0 [vA 74, PU, PU, PU] [] (GF X, M, PTF v) K ↔ if M 74 16 ≤ 0 then pm_Run d 4 8 [vA 74, PU, PU, PU] [] (GF X, M, PTF v) K else pm_Run d 4 7 [vA 74, PU, PU, PU] [] (GF X, M, PTF v) K := by
  refine (px_go (by decide +kernel : pm_fe 4 0 = some (.aload_n 0, 1)) rfl).trans ?_
  refine (ry_get0 (idx := 61) (ci := 0) (k := 16) (by decide +kernel : 74 < 283 ∧ SHF 74 = (0, 17)) (by decide +kernel)).trans ?_
  refine (ry_if_le (off := 4) (tgt := 8) h1 (by decide +kernel)).trans ?_
  exact Iff.rfl
theorem r4_7 {d : Nat} {X : Nat × (Nat → Int)} {v : Nat → Int} {M : PH} {K : PV → PS → Prop} : pm_Run d 4 7 [vA 74, PU, PU, PU] [] (GF X, M, PTF v) K ↔ K PU (GF X, M, PTF v) := by
  refine (px_rv (by decide +kernel)).trans ?_
  exact Iff.rfl
theorem r4_8 {d : Nat} {X : Nat × (Nat → Int)} {v : Nat → Int} {M : PH} {K : PV → PS → Prop} : pm_Run d 4 8 [vA 74, PU, PU, PU] [] (GF X, M, PTF v) K ↔ pm_Call d 56 [vA 85, vA 3] (GF X, M, PTF v) (fun r9 S1 => pm_Run d 4 19 [vA 74, PU, PU, PU] (pm_push r9 []) S1 K) := by
  refine (px_go (by decide +kernel : pm_fe 4 8 = some (.aload_n 0, 1)) rfl).trans ?_
  refine (ry_get2 (idx := 50) (ci := 0) (k := 15) (by decide +kernel : 74 < 283 ∧ SHF 74 = (0, 17)) (ptf_l (a := 74) (k := 15) (n := 85) (by decide +kernel)) (by decide +kernel)).trans ?_
  refine (px_go (by decide +kernel : pm_fe 4 12 = some (.aload_n 0, 1)) rfl).trans ?_
  refine (ry_get2 (idx := 58) (ci := 0) (k := 7) (by decide +kernel : 74 < 283 ∧ SHF 74 = (0, 17)) (ptf_l (a := 74) (k := 7) (n := 3) (by decide +kernel)) (by decide +kernel)).trans ?_
  refine (ry_v1 (idx := 96) (m' := 56) (ci := 5) (by decide +kernel : 85 < 283 ∧ SHF 85 = (5, 6)) (by simp [pm_wl_n, pm_wl_c, pm_w] : pm_wl [] ≤ 8) (by decide +kernel)).trans ?_
  exact Iff.rfl
theorem r4_19 {d : Nat} {X : Nat × (Nat → Int)} {v : Nat → Int} {M : PH} {K : PV → PS → Prop} : pm_Run d 4 19 [vA 74, PU, PU, PU] [] (GF X, M, PTF v) K ↔ pm_Run d 4 25 [vA 74, PU, PU, PU] [] (GF X, pm_sa M 74 (pm_up (M 74) 16 13), PTF v) K := by
  refine (px_go (by decide +kernel : pm_fe 4 19 = some (.aload_n 0, 1)) rfl).trans ?_
  refine (px_go (by decide +kernel : pm_fe 4 20 = some (.bipush 13, 2)) rfl).trans ?_
  refine (ry_put0 (idx := 61) (ci := 0) (k := 16) (by decide +kernel : 74 < 283 ∧ SHF 74 = (0, 17)) (by decide +kernel)).trans ?_
  exact Iff.rfl
theorem r4_25 {d : Nat} {X : Nat × (Nat → Int)} {v : Nat → Int} {M : PH} {K : PV → PS → Prop} : pm_Run d 4 25 [vA 74, PU, PU, PU] [] (GF X, M, PTF v) K ↔ pm_Run d 4 27 [vA 74, vI 1, PU, PU] [] (GF X, M, PTF v) K := by
  refine (px_go (by decide +kernel : pm_fe 4 25 = some (.iconst 1, 1)) rfl).trans ?_
  refine (px_go (by decide +kernel : pm_fe 4 26 = some (.istore_n 1, 1)) rfl).trans ?_
  exact Iff.rfl
theorem r4_27 {d : Nat} {X : Nat × (Nat → Int)} {v : Nat → Int} {M : PH} {K : PV → PS → Prop} {l1 : Int} {l2 l3 : PV} (h1 : inR l1) : pm_Run d 4 27 [vA 74, vI l1, l2, l3] [] (GF X, M, PTF v) K ↔ if 12 < l1 then pm_Run d 4 86 [vA 74, vI l1, l2, l3] [] (GF X, M, PTF v) K else pm_Run d 4 33 [vA 74, vI l1, l2, l3] [] (GF X, M, PTF v) K := by
  refine (px_go (by decide +kernel : pm_fe 4 27 = some (.iload_n 1, 1)) rfl).trans ?_
  refine (px_go (by decide +kernel : pm_fe 4 28 = some (.bipush 12, 2)) rfl).trans ?_
  refine (ry_ic_gt (off := 56) (tgt := 86) h1 (by decide : (-2147483648 ≤ (12 : Int) ∧ (12 : Int) < 2147483648)) (by decide +kernel)).trans ?_
  exact Iff.rfl
theorem r4_33 {d : Nat} {X : Nat × (Nat → Int)} {v : Nat → Int} {M : PH} {K : PV → PS → Prop} {l1 : Int} {l2 l3 : PV} (h1 : inR (M 74 16)) : pm_Run d 4 33 [vA 74, vI l1, l2, l3] [] (GF X, M, PTF v) K ↔ if M 74 16 ≤ 12 then pm_Run d 4 86 [vA 74, vI l1, l2, l3] [] (GF X, M, PTF v) K else pm_Run d 4 42 [vA 74, vI l1, l2, l3] [] (GF X, M, PTF v) K := by
  refine (px_go (by decide +kernel : pm_fe 4 33 = some (.aload_n 0, 1)) rfl).trans ?_
  refine (ry_get0 (idx := 61) (ci := 0) (k := 16) (by decide +kernel : 74 < 283 ∧ SHF 74 = (0, 17)) (by decide +kernel)).trans ?_
  refine (px_go (by decide +kernel : pm_fe 4 37 = some (.bipush 12, 2)) rfl).trans ?_
  refine (ry_ic_le (off := 47) (tgt := 86) h1 (by decide : (-2147483648 ≤ (12 : Int) ∧ (12 : Int) < 2147483648)) (by decide +kernel)).trans ?_
  exact Iff.rfl
theorem r4_42 {d : Nat} {X : Nat × (Nat → Int)} {v : Nat → Int} {M : PH} {K : PV → PS → Prop} {l1 : Int} {l2 l3 : PV} : pm_Run d 4 42 [vA 74, vI l1, l2, l3] [] (GF X, M, PTF v) K ↔ pm_Run d 4 46 [vA 74, vI l1, vI 0, vI 0] [] (GF X, M, PTF v) K := by
  refine (px_go (by decide +kernel : pm_fe 4 42 = some (.iconst 0, 1)) rfl).trans ?_
  refine (px_go (by decide +kernel : pm_fe 4 43 = some (.istore_n 2, 1)) rfl).trans ?_
  refine (px_go (by decide +kernel : pm_fe 4 44 = some (.iconst 0, 1)) rfl).trans ?_
  refine (px_go (by decide +kernel : pm_fe 4 45 = some (.istore_n 3, 1)) rfl).trans ?_
  exact Iff.rfl
theorem r4_46 {d : Nat} {c : Nat} {X : Nat × (Nat → Int)} {v : Nat → Int} {M : PH} {K : PV → PS → Prop} {l1 l2 l3 : Int} (hc : isCh c) (hv3 : v 3 = ((c : Nat) : Int)) (h1 : inR l3) (h2 : inR (M c 2)) : pm_Run d 4 46 [vA 74, vI l1, vI l2, vI l3] [] (GF X, M, PTF v) K ↔ if M c 2 ≤ l3 then pm_Run d 4 71 [vA 74, vI l1, vI l2, vI l3] [] (GF X, M, PTF v) K else pm_Run d 4 57 [vA 74, vI l1, vI l2, vI l3] [] (GF X, M, PTF v) K := by
  refine (px_go (by decide +kernel : pm_fe 4 46 = some (.iload_n 3, 1)) rfl).trans ?_
  refine (px_go (by decide +kernel : pm_fe 4 47 = some (.aload_n 0, 1)) rfl).trans ?_
  refine (ry_get2 (idx := 54) (ci := 0) (k := 8) (by decide +kernel : 74 < 283 ∧ SHF 74 = (0, 17)) (ptd3 hv3) (by decide +kernel)).trans ?_
  refine (ry_get0 (idx := 100) (ci := 1) (k := 2) (chs0 hc) (by decide +kernel)).trans ?_
  refine (ry_ic_ge (off := 17) (tgt := 71) h1 h2 (by decide +kernel)).trans ?_
  exact Iff.rfl
theorem r4_57 {d : Nat} {X : Nat × (Nat → Int)} {v : Nat → Int} {M : PH} {K : PV → PS → Prop} {l1 l2 l3 : Int} : pm_Run d 4 57 [vA 74, vI l1, vI l2, vI l3] [] (GF X, M, PTF v) K ↔ pm_Call d 5 [vA 74, vI l3] (GF X, M, PTF v) (fun r9 S1 => pm_Run d 4 63 [vA 74, vI l1, vI l2, vI l3] (pm_push r9 [vI l2]) S1 K) := by
  refine (px_go (by decide +kernel : pm_fe 4 57 = some (.iload_n 2, 1)) rfl).trans ?_
  refine (px_go (by decide +kernel : pm_fe 4 58 = some (.aload_n 0, 1)) rfl).trans ?_
  refine (px_go (by decide +kernel : pm_fe 4 59 = some (.iload_n 3, 1)) rfl).trans ?_
  refine (ry_v1 (idx := 105) (m' := 5) (ci := 0) (by decide +kernel : 74 < 283 ∧ SHF 74 = (0, 17)) (by simp [pm_wl_n, pm_wl_c, pm_w] : pm_wl [vI l2] ≤ 8) (by decide +kernel)).trans ?_
  exact Iff.rfl
theorem r4_63 {d : Nat} {X : Nat × (Nat → Int)} {v : Nat → Int} {M : PH} {K : PV → PS → Prop} {l1 l2 l3 s0 s1 : Int} : pm_Run d 4 63 [vA 74, vI l1, vI l2, vI l3] [vI s0, vI s1] (GF X, M, PTF v) K ↔ pm_Run d 4 46 [vA 74, vI l1, vI (pm_or s1 s0), vI (l3 + 1)] [] (GF X, M, PTF v) K := by
  refine (px_go (by decide +kernel : pm_fe 4 63 = some (.ior, 1)) rfl).trans ?_
  refine (px_go (by decide +kernel : pm_fe 4 64 = some (.istore_n 2, 1)) rfl).trans ?_
  refine (px_go (by decide +kernel : pm_fe 4 65 = some (.iinc 3 1, 3)) rfl).trans ?_
  refine (px_goto (off := (-22)) (tgt := 46) (by decide +kernel)).trans ?_
  exact Iff.rfl
theorem r4_71 {d : Nat} {X : Nat × (Nat → Int)} {v : Nat → Int} {M : PH} {K : PV → PS → Prop} {l1 l2 l3 : Int} (h1 : inR l2) : pm_Run d 4 71 [vA 74, vI l1, vI l2, vI l3] [] (GF X, M, PTF v) K ↔ if l2 ≠ 0 then pm_Run d 4 80 [vA 74, vI l1, vI l2, vI l3] [] (GF X, M, PTF v) K else pm_Run d 4 75 [vA 74, vI l1, vI l2, vI l3] [] (GF X, M, PTF v) K := by
  refine (px_go (by decide +kernel : pm_fe 4 71 = some (.iload_n 2, 1)) rfl).trans ?_
  refine (ry_if_ne (off := 8) (tgt := 80) h1 (by decide +kernel)).trans ?_
  exact Iff.rfl
theorem r4_75 {d : Nat} {X : Nat × (Nat → Int)} {v : Nat → Int} {M : PH} {K : PV → PS → Prop} {l1 l2 l3 : Int} : pm_Run d 4 75 [vA 74, vI l1, vI l2, vI l3] [] (GF X, M, PTF v) K ↔ pm_Run d 4 80 [vA 74, vI l1, vI l2, vI l3] [] (GF X, pm_sa M 74 (pm_up (M 74) 16 l1), PTF v) K := by
  refine (px_go (by decide +kernel : pm_fe 4 75 = some (.aload_n 0, 1)) rfl).trans ?_
  refine (px_go (by decide +kernel : pm_fe 4 76 = some (.iload_n 1, 1)) rfl).trans ?_
  refine (ry_put0 (idx := 61) (ci := 0) (k := 16) (by decide +kernel : 74 < 283 ∧ SHF 74 = (0, 17)) (by decide +kernel)).trans ?_
  exact Iff.rfl
theorem r4_80 {d : Nat} {X : Nat × (Nat → Int)} {v : Nat → Int} {M : PH} {K : PV → PS → Prop} {l1 l2 l3 : Int} : pm_Run d 4 80 [vA 74, vI l1, vI l2, vI l3] [] (GF X, M, PTF v) K ↔ pm_Run d 4 27 [vA 74, vI (l1 + 1), vI l2, vI l3] [] (GF X, M, PTF v) K := by
  refine (px_go (by decide +kernel : pm_fe 4 80 = some (.iinc 1 1, 3)) rfl).trans ?_
  refine (px_goto (off := (-56)) (tgt := 27) (by decide +kernel)).trans ?_
  exact Iff.rfl
theorem r4_86 {d : Nat} {X : Nat × (Nat → Int)} {v : Nat → Int} {M : PH} {K : PV → PS → Prop} {l1 : Int} {l2 l3 : PV} : pm_Run d 4 86 [vA 74, vI l1, l2, l3] [] (GF X, M, PTF v) K ↔ K PU (GF X, M, PTF v) := by
  refine (px_rv (by decide +kernel)).trans ?_
  exact Iff.rfl
-- X0_takesOthers takesOthers(I)Z
theorem r5_0 {d : Nat} {X : Nat × (Nat → Int)} {v : Nat → Int} {M : PH} {K : PV → PS → Prop} {l1 : Int} : pm_Run d 5 0 [vA 74, vI l1, PU, PU, PU, PU, PU] [] (GF X, M, PTF v) K ↔ pm_Call d 7 [vA 74, vI l1, vA 85] (GF X, M, PTF v) (fun r9 S1 => pm_Run d 5 9 [vA 74, vI l1, PU, PU, PU, PU, PU] (pm_push r9 []) S1 K) := by
  refine (px_go (by decide +kernel : pm_fe 5 0 = some (.aload_n 0, 1)) rfl).trans ?_
  refine (px_go (by decide +kernel : pm_fe 5 1 = some (.iload_n 1, 1)) rfl).trans ?_
  refine (px_go (by decide +kernel : pm_fe 5 2 = some (.aload_n 0, 1)) rfl).trans ?_
  refine (ry_get2 (idx := 50) (ci := 0) (k := 15) (by decide +kernel : 74 < 283 ∧ SHF 74 = (0, 17)) (ptf_l (a := 74) (k := 15) (n := 85) (by decide +kernel)) (by decide +kernel)).trans ?_
  refine (ry_v2 (idx := 67) (m' := 7) (ci := 0) (by decide +kernel : 74 < 283 ∧ SHF 74 = (0, 17)) (by simp [pm_wl_n, pm_wl_c, pm_w] : pm_wl [] ≤ 8) (by decide +kernel)).trans ?_
  exact Iff.rfl
theorem r5_9 {d : Nat} {X : Nat × (Nat → Int)} {v : Nat → Int} {M : PH} {K : PV → PS → Prop} {l1 : Int} : pm_Run d 5 9 [vA 74, vI l1, PU, PU, PU, PU, PU] [] (GF X, M, PTF v) K ↔ pm_Call d 8 [vA 74, vI 4] (GF X, M, PTF v) (fun r9 S1 => pm_Run d 5 20 [vA 74, vI l1, vI (-1000000000), vI (-1000000000), PU, PU, PU] (pm_push r9 []) S1 K) := by
  refine (px_ldcI (idx := 109) (n := 2) (x := (-1000000000)) (by decide +kernel)).trans ?_
  refine (px_go (by decide +kernel : pm_fe 5 11 = some (.istore_n 2, 1)) rfl).trans ?_
  refine (px_ldcI (idx := 109) (n := 2) (x := (-1000000000)) (by decide +kernel)).trans ?_
  refine (px_go (by decide +kernel : pm_fe 5 14 = some (.istore_n 3, 1)) rfl).trans ?_
  refine (px_go (by decide +kernel : pm_fe 5 15 = some (.aload_n 0, 1)) rfl).trans ?_
  refine (px_go (by decide +kernel : pm_fe 5 16 = some (.iconst 4, 1)) rfl).trans ?_
  refine (ry_v1 (idx := 75) (m' := 8) (ci := 0) (by decide +kernel : 74 < 283 ∧ SHF 74 = (0, 17)) (by simp [pm_wl_n, pm_wl_c, pm_w] : pm_wl [] ≤ 8) (by decide +kernel)).trans ?_
  exact Iff.rfl
theorem r5_20 {d : Nat} {X : Nat × (Nat → Int)} {v : Nat → Int} {M : PH} {K : PV → PS → Prop} {l1 l2 l3 s0 : Int} : pm_Run d 5 20 [vA 74, vI l1, vI l2, vI l3, PU, PU, PU] [vI s0] (GF X, M, PTF v) K ↔ pm_Run d 5 25 [vA 74, vI l1, vI l2, vI l3, vI s0, vI 0, PU] [] (GF X, M, PTF v) K := by
  refine (px_go (by decide +kernel : pm_fe 5 20 = some (.istore 4, 2)) rfl).trans ?_
  refine (px_go (by decide +kernel : pm_fe 5 22 = some (.iconst 0, 1)) rfl).trans ?_
  refine (px_go (by decide +kernel : pm_fe 5 23 = some (.istore 5, 2)) rfl).trans ?_
  exact Iff.rfl
theorem r5_25 {d : Nat} {X : Nat × (Nat → Int)} {v : Nat → Int} {M : PH} {K : PV → PS → Prop} {l1 l2 l3 l4 l5 : Int} {l6 : PV} (h1 : inR l5) (h2 : inR l4) : pm_Run d 5 25 [vA 74, vI l1, vI l2, vI l3, vI l4, vI l5, l6] [] (GF X, M, PTF v) K ↔ if l4 ≤ l5 then pm_Run d 5 92 [vA 74, vI l1, vI l2, vI l3, vI l4, vI l5, l6] [] (GF X, M, PTF v) K else pm_Run d 5 32 [vA 74, vI l1, vI l2, vI l3, vI l4, vI l5, l6] [] (GF X, M, PTF v) K := by
  refine (px_go (by decide +kernel : pm_fe 5 25 = some (.iload 5, 2)) rfl).trans ?_
  refine (px_go (by decide +kernel : pm_fe 5 27 = some (.iload 4, 2)) rfl).trans ?_
  refine (ry_ic_ge (off := 63) (tgt := 92) h1 h2 (by decide +kernel)).trans ?_
  exact Iff.rfl
theorem r5_32 {d : Nat} {X : Nat × (Nat → Int)} {v : Nat → Int} {M : PH} {K : PV → PS → Prop} {l1 l2 l3 l4 l5 : Int} {l6 : PV} : pm_Run d 5 32 [vA 74, vI l1, vI l2, vI l3, vI l4, vI l5, l6] [] (GF X, M, PTF v) K ↔ pm_Call d 11 [vA 74, vA 85] (GF X, M, PTF v) (fun r9 S1 => pm_Run d 5 40 [vA 74, vI l1, vI l2, vI l3, vI l4, vI l5, l6] (pm_push r9 []) S1 K) := by
  refine (px_go (by decide +kernel : pm_fe 5 32 = some (.aload_n 0, 1)) rfl).trans ?_
  refine (px_go (by decide +kernel : pm_fe 5 33 = some (.aload_n 0, 1)) rfl).trans ?_
  refine (ry_get2 (idx := 50) (ci := 0) (k := 15) (by decide +kernel : 74 < 283 ∧ SHF 74 = (0, 17)) (ptf_l (a := 74) (k := 15) (n := 85) (by decide +kernel)) (by decide +kernel)).trans ?_
  refine (ry_v1 (idx := 83) (m' := 11) (ci := 0) (by decide +kernel : 74 < 283 ∧ SHF 74 = (0, 17)) (by simp [pm_wl_n, pm_wl_c, pm_w] : pm_wl [] ≤ 8) (by decide +kernel)).trans ?_
  exact Iff.rfl
theorem r5_40 {d : Nat} {X : Nat × (Nat → Int)} {v : Nat → Int} {M : PH} {K : PV → PS → Prop} {l1 l2 l3 l4 l5 s0 : Int} {l6 : PV} : pm_Run d 5 40 [vA 74, vI l1, vI l2, vI l3, vI l4, vI l5, l6] [vI s0] (GF X, M, PTF v) K ↔ pm_Call d 10 [vA 74] (GF X, M, PTF v) (fun r9 S1 => pm_Run d 5 44 [vA 74, vI l1, vI l2, vI l3, vI l4, vI l5, l6] (pm_push r9 [vI s0]) S1 K) := by
  refine (px_go (by decide +kernel : pm_fe 5 40 = some (.aload_n 0, 1)) rfl).trans ?_
  refine (ry_v0 (idx := 79) (m' := 10) (ci := 0) (by decide +kernel : 74 < 283 ∧ SHF 74 = (0, 17)) (by simp [pm_wl_n, pm_wl_c, pm_w] : pm_wl [vI s0] ≤ 8) (by decide +kernel)).trans ?_
  exact Iff.rfl
theorem r5_44 {d : Nat} {X : Nat × (Nat → Int)} {v : Nat → Int} {M : PH} {K : PV → PS → Prop} {l1 l2 l3 l4 l5 s0 s1 : Int} {l6 : PV} (h1 : inR (s1 - s0)) (h2 : inR l2) : pm_Run d 5 44 [vA 74, vI l1, vI l2, vI l3, vI l4, vI l5, l6] [vI s0, vI s1] (GF X, M, PTF v) K ↔ if s1 - s0 ≤ l2 then pm_Run d 5 70 [vA 74, vI l1, vI l2, vI l3, vI l4, vI l5, vI (s1 - s0)] [] (GF X, M, PTF v) K else pm_Run d 5 53 [vA 74, vI l1, vI l2, vI l3, vI l4, vI l5, vI (s1 - s0)] [] (GF X, M, PTF v) K := by
  refine (px_go (by decide +kernel : pm_fe 5 44 = some (.isub, 1)) rfl).trans ?_
  refine (px_go (by decide +kernel : pm_fe 5 45 = some (.istore 6, 2)) rfl).trans ?_
  refine (px_go (by decide +kernel : pm_fe 5 47 = some (.iload 6, 2)) rfl).trans ?_
  refine (px_go (by decide +kernel : pm_fe 5 49 = some (.iload_n 2, 1)) rfl).trans ?_
  refine (ry_ic_le (off := 20) (tgt := 70) h1 h2 (by decide +kernel)).trans ?_
  exact Iff.rfl
theorem r5_53 {d : Nat} {X : Nat × (Nat → Int)} {v : Nat → Int} {M : PH} {K : PV → PS → Prop} {l1 l2 l3 l4 l5 l6 : Int} : pm_Run d 5 53 [vA 74, vI l1, vI l2, vI l3, vI l4, vI l5, vI l6] [] (GF X, M, PTF v) K ↔ pm_Run d 5 70 [vA 74, vI l1, vI l6, vI l3, vI l4, vI l5, vI l6] [] (GF X, pm_sa M 83 (pm_cp (M 82) (M 83) 0 0 3), PTF v) K := by
  refine (px_go (by decide +kernel : pm_fe 5 53 = some (.iload 6, 2)) rfl).trans ?_
  refine (px_go (by decide +kernel : pm_fe 5 55 = some (.istore_n 2, 1)) rfl).trans ?_
  refine (px_go (by decide +kernel : pm_fe 5 56 = some (.aload_n 0, 1)) rfl).trans ?_
  refine (ry_get2 (idx := 31) (ci := 0) (k := 5) (by decide +kernel : 74 < 283 ∧ SHF 74 = (0, 17)) (ptf_l (a := 74) (k := 5) (n := 82) (by decide +kernel)) (by decide +kernel)).trans ?_
  refine (px_go (by decide +kernel : pm_fe 5 60 = some (.iconst 0, 1)) rfl).trans ?_
  refine (px_go (by decide +kernel : pm_fe 5 61 = some (.aload_n 0, 1)) rfl).trans ?_
  refine (ry_get2 (idx := 34) (ci := 0) (k := 6) (by decide +kernel : 74 < 283 ∧ SHF 74 = (0, 17)) (ptf_l (a := 74) (k := 6) (n := 83) (by decide +kernel)) (by decide +kernel)).trans ?_
  refine (px_go (by decide +kernel : pm_fe 5 65 = some (.iconst 0, 1)) rfl).trans ?_
  refine (px_go (by decide +kernel : pm_fe 5 66 = some (.iconst 3, 1)) rfl).trans ?_
  refine (ry_acpy (idx := 87) (by decide +kernel : 82 < 283 ∧ SHF 82 = (100, 3)) (by decide +kernel : 83 < 283 ∧ SHF 83 = (100, 3)) (by decide : 82 ≠ 83) (by decide : (0 : Int) ≤ (0 : Int) ∧ (0 : Int) ≤ (0 : Int) ∧ (0 : Int) ≤ (3 : Int) ∧ (0 : Int) + (3 : Int) ≤ (3 : Int) ∧ (0 : Int) + (3 : Int) ≤ (3 : Int)) (by simp [pm_wl_n, pm_wl_c, pm_w] : pm_wl [] ≤ 8) (by decide +kernel)).trans ?_
  exact Iff.rfl
theorem r5_70 {d : Nat} {X : Nat × (Nat → Int)} {v : Nat → Int} {M : PH} {K : PV → PS → Prop} {l1 l2 l3 l4 l5 l6 : Int} : pm_Run d 5 70 [vA 74, vI l1, vI l2, vI l3, vI l4, vI l5, vI l6] [] (GF X, M, PTF v) K ↔ pm_Call d 6 [vA 74, vI l1] (GF X, M, PTF v) (fun r9 S1 => pm_Run d 5 75 [vA 74, vI l1, vI l2, vI l3, vI l4, vI l5, vI l6] (pm_push r9 []) S1 K) := by
  refine (px_go (by decide +kernel : pm_fe 5 70 = some (.aload_n 0, 1)) rfl).trans ?_
  refine (px_go (by decide +kernel : pm_fe 5 71 = some (.iload_n 1, 1)) rfl).trans ?_
  refine (ry_v1 (idx := 110) (m' := 6) (ci := 0) (by decide +kernel : 74 < 283 ∧ SHF 74 = (0, 17)) (by simp [pm_wl_n, pm_wl_c, pm_w] : pm_wl [] ≤ 8) (by decide +kernel)).trans ?_
  exact Iff.rfl
theorem r5_75 {d : Nat} {X : Nat × (Nat → Int)} {v : Nat → Int} {M : PH} {K : PV → PS → Prop} {l1 l2 l3 l4 l5 l6 s0 : Int} (h1 : inR s0) : pm_Run d 5 75 [vA 74, vI l1, vI l2, vI l3, vI l4, vI l5, vI l6] [vI s0] (GF X, M, PTF v) K ↔ if s0 = 0 then pm_Run d 5 81 [vA 74, vI l1, vI l2, vI l3, vI l4, vI l5, vI l6] [] (GF X, M, PTF v) K else pm_Run d 5 78 [vA 74, vI l1, vI l2, vI l3, vI l4, vI l5, vI l6] [] (GF X, M, PTF v) K := by
  refine (ry_if_eq (off := 6) (tgt := 81) h1 (by decide +kernel)).trans ?_
  exact Iff.rfl
theorem r5_78 {d : Nat} {X : Nat × (Nat → Int)} {v : Nat → Int} {M : PH} {K : PV → PS → Prop} {l1 l2 l3 l4 l5 l6 : Int} : pm_Run d 5 78 [vA 74, vI l1, vI l2, vI l3, vI l4, vI l5, vI l6] [] (GF X, M, PTF v) K ↔ pm_Run d 5 81 [vA 74, vI l1, vI l2, vI l6, vI l4, vI l5, vI l6] [] (GF X, M, PTF v) K := by
  refine (px_go (by decide +kernel : pm_fe 5 78 = some (.iload 6, 2)) rfl).trans ?_
  refine (px_go (by decide +kernel : pm_fe 5 80 = some (.istore_n 3, 1)) rfl).trans ?_
  exact Iff.rfl
theorem r5_81 {d : Nat} {X : Nat × (Nat → Int)} {v : Nat → Int} {M : PH} {K : PV → PS → Prop} {l1 l2 l3 l4 l5 l6 : Int} : pm_Run d 5 81 [vA 74, vI l1, vI l2, vI l3, vI l4, vI l5, vI l6] [] (GF X, M, PTF v) K ↔ pm_Call d 9 [vA 74, vI 4] (GF X, M, PTF v) (fun r9 S1 => pm_Run d 5 86 [vA 74, vI l1, vI l2, vI l3, vI l4, vI l5, vI l6] (pm_push r9 []) S1 K) := by
  refine (px_go (by decide +kernel : pm_fe 5 81 = some (.aload_n 0, 1)) rfl).trans ?_
  refine (px_go (by decide +kernel : pm_fe 5 82 = some (.iconst 4, 1)) rfl).trans ?_
  refine (ry_v1 (idx := 93) (m' := 9) (ci := 0) (by decide +kernel : 74 < 283 ∧ SHF 74 = (0, 17)) (by simp [pm_wl_n, pm_wl_c, pm_w] : pm_wl [] ≤ 8) (by decide +kernel)).trans ?_
  exact Iff.rfl
theorem r5_86 {d : Nat} {X : Nat × (Nat → Int)} {v : Nat → Int} {M : PH} {K : PV → PS → Prop} {l1 l2 l3 l4 l5 l6 : Int} : pm_Run d 5 86 [vA 74, vI l1, vI l2, vI l3, vI l4, vI l5, vI l6] [] (GF X, M, PTF v) K ↔ pm_Run d 5 25 [vA 74, vI l1, vI l2, vI l3, vI l4, vI (l5 + 1), vI l6] [] (GF X, M, PTF v) K := by
  refine (px_go (by decide +kernel : pm_fe 5 86 = some (.iinc 5 1, 3)) rfl).trans ?_
  refine (px_goto (off := (-64)) (tgt := 25) (by decide +kernel)).trans ?_
  exact Iff.rfl
theorem r5_92 {d : Nat} {X : Nat × (Nat → Int)} {v : Nat → Int} {M : PH} {K : PV → PS → Prop} {l1 l2 l3 l4 l5 : Int} {l6 : PV} (h1 : inR l3) (h2 : inR l2) : pm_Run d 5 92 [vA 74, vI l1, vI l2, vI l3, vI l4, vI l5, l6] [] (GF X, M, PTF v) K ↔ if l3 ≠ l2 then pm_Run d 5 99 [vA 74, vI l1, vI l2, vI l3, vI l4, vI l5, l6] [] (GF X, M, PTF v) K else pm_Run d 5 97 [vA 74, vI l1, vI l2, vI l3, vI l4, vI l5, l6] [] (GF X, M, PTF v) K := by
  refine (px_go (by decide +kernel : pm_fe 5 92 = some (.iload_n 3, 1)) rfl).trans ?_
  refine (px_go (by decide +kernel : pm_fe 5 93 = some (.iload_n 2, 1)) rfl).trans ?_
  refine (ry_ic_ne (off := 5) (tgt := 99) h1 h2 (by decide +kernel)).trans ?_
  exact Iff.rfl
theorem r5_97 {d : Nat} {X : Nat × (Nat → Int)} {v : Nat → Int} {M : PH} {K : PV → PS → Prop} {l1 l2 l3 l4 l5 : Int} {l6 : PV} : pm_Run d 5 97 [vA 74, vI l1, vI l2, vI l3, vI l4, vI l5, l6] [] (GF X, M, PTF v) K ↔ K (vI 0) (GF X, M, PTF v) := by
  refine (px_go (by decide +kernel : pm_fe 5 97 = some (.iconst 0, 1)) rfl).trans ?_
  refine (px_rz (by decide +kernel)).trans ((and_iff_right (by decide : (0 : Int) = (0 : Int) ∨ (0 : Int) = (1 : Int))).trans ?_)
  exact Iff.rfl
theorem r5_99 {d : Nat} {X : Nat × (Nat → Int)} {v : Nat → Int} {M : PH} {K : PV → PS → Prop} {l1 l2 l3 l4 l5 : Int} {l6 : PV} : pm_Run d 5 99 [vA 74, vI l1, vI l2, vI l3, vI l4, vI l5, l6] [] (GF X, M, PTF v) K ↔ pm_Call d 55 [vI l1, vI 0] (GF X, M, PTF v) (fun r9 S1 => pm_Run d 5 116 [vA 74, vI l1, vI l2, vI l3, vI l4, vI l5, l6] (pm_push r9 [vA 89, vI 0, vA 83]) S1 K) := by
  refine (px_go (by decide +kernel : pm_fe 5 99 = some (.aload_n 0, 1)) rfl).trans ?_
  refine (ry_get2 (idx := 34) (ci := 0) (k := 6) (by decide +kernel : 74 < 283 ∧ SHF 74 = (0, 17)) (ptf_l (a := 74) (k := 6) (n := 83) (by decide +kernel)) (by decide +kernel)).trans ?_
  refine (px_go (by decide +kernel : pm_fe 5 103 = some (.iconst 0, 1)) rfl).trans ?_
  refine (px_go (by decide +kernel : pm_fe 5 104 = some (.aload_n 0, 1)) rfl).trans ?_
  refine (ry_get2 (idx := 50) (ci := 0) (k := 15) (by decide +kernel : 74 < 283 ∧ SHF 74 = (0, 17)) (ptf_l (a := 74) (k := 15) (n := 85) (by decide +kernel)) (by decide +kernel)).trans ?_
  refine (ry_get2 (idx := 113) (ci := 5) (k := 4) (by decide +kernel : 85 < 283 ∧ SHF 85 = (5, 6)) (ptf_l (a := 85) (k := 4) (n := 89) (by decide +kernel)) (by decide +kernel)).trans ?_
  refine (px_go (by decide +kernel : pm_fe 5 111 = some (.iload_n 1, 1)) rfl).trans ?_
  refine (px_go (by decide +kernel : pm_fe 5 112 = some (.iconst 0, 1)) rfl).trans ?_
  refine (px_s2 (idx := 116) (m' := 55) (nest := 0) (by decide +kernel)).trans ((and_iff_right (by simp [pm_wl_n, pm_wl_c, pm_w] : pm_wl [vA 89, vI 0, vA 83] ≤ 8)).trans ?_)
  exact Iff.rfl
theorem r5_116 {d : Nat} {X : Nat × (Nat → Int)} {v : Nat → Int} {M : PH} {K : PV → PS → Prop} {l1 l2 l3 l4 l5 s0 s2 : Int} {l6 : PV} (h1 : (0 : Int) ≤ s2 ∧ (0 : Int) ≤ s0 ∧ (0 : Int) ≤ 3 ∧ (s2 : Int) + 3 ≤ 3 ∧ (s0 : Int) + 3 ≤ 24) : pm_Run d 5 116 [vA 74, vI l1, vI l2, vI l3, vI l4, vI l5, l6] [vI s0, vA 89, vI s2, vA 83] (GF X, M, PTF v) K ↔ pm_Run d 5 120 [vA 74, vI l1, vI l2, vI l3, vI l4, vI l5, l6] [] (GF X, pm_sa M 89 (pm_cp (M 83) (M 89) s2.toNat s0.toNat 3), PTF v) K := by
  refine (px_go (by decide +kernel : pm_fe 5 116 = some (.iconst 3, 1)) rfl).trans ?_
  refine (ry_acpy (idx := 87) (by decide +kernel : 83 < 283 ∧ SHF 83 = (100, 3)) (by decide +kernel : 89 < 283 ∧ SHF 89 = (100, 24)) (by decide : 83 ≠ 89) h1 (by simp [pm_wl_n, pm_wl_c, pm_w] : pm_wl [] ≤ 8) (by decide +kernel)).trans ?_
  exact Iff.rfl
theorem r5_120 {d : Nat} {X : Nat × (Nat → Int)} {v : Nat → Int} {M : PH} {K : PV → PS → Prop} {l1 l2 l3 l4 l5 : Int} {l6 : PV} : pm_Run d 5 120 [vA 74, vI l1, vI l2, vI l3, vI l4, vI l5, l6] [] (GF X, M, PTF v) K ↔ K (vI 1) (GF X, M, PTF v) := by
  refine (px_go (by decide +kernel : pm_fe 5 120 = some (.iconst 1, 1)) rfl).trans ?_
  refine (px_rz (by decide +kernel)).trans ((and_iff_right (by decide : (1 : Int) = (0 : Int) ∨ (1 : Int) = (1 : Int))).trans ?_)
  exact Iff.rfl
-- X0_isOwn isOwn(I)Z
theorem r6_0 {d : Nat} {X : Nat × (Nat → Int)} {v : Nat → Int} {M : PH} {K : PV → PS → Prop} {l1 : Int} : pm_Run d 6 0 [vA 74, vI l1, PU, PU] [] (GF X, M, PTF v) K ↔ pm_Run d 6 4 [vA 74, vI l1, vI 1, vI 0] [] (GF X, M, PTF v) K := by
  refine (px_go (by decide +kernel : pm_fe 6 0 = some (.iconst 1, 1)) rfl).trans ?_
  refine (px_go (by decide +kernel : pm_fe 6 1 = some (.istore_n 2, 1)) rfl).trans ?_
  refine (px_go (by decide +kernel : pm_fe 6 2 = some (.iconst 0, 1)) rfl).trans ?_
  refine (px_go (by decide +kernel : pm_fe 6 3 = some (.istore_n 3, 1)) rfl).trans ?_
  exact Iff.rfl
theorem r6_4 {d : Nat} {c : Nat} {X : Nat × (Nat → Int)} {v : Nat → Int} {M : PH} {K : PV → PS → Prop} {l1 l2 l3 : Int} (hc : isCh c) (hv3 : v 3 = ((c : Nat) : Int)) (h1 : inR l3) (h2 : inR (M c 1)) : pm_Run d 6 4 [vA 74, vI l1, vI l2, vI l3] [] (GF X, M, PTF v) K ↔ if M c 1 ≤ l3 then pm_Run d 6 51 [vA 74, vI l1, vI l2, vI l3] [] (GF X, M, PTF v) K else pm_Run d 6 15 [vA 74, vI l1, vI l2, vI l3] [] (GF X, M, PTF v) K := by
  refine (px_go (by decide +kernel : pm_fe 6 4 = some (.iload_n 3, 1)) rfl).trans ?_
  refine (px_go (by decide +kernel : pm_fe 6 5 = some (.aload_n 0, 1)) rfl).trans ?_
  refine (ry_get2 (idx := 54) (ci := 0) (k := 8) (by decide +kernel : 74 < 283 ∧ SHF 74 = (0, 17)) (ptd3 hv3) (by decide +kernel)).trans ?_
  refine (ry_get0 (idx := 120) (ci := 1) (k := 1) (chs0 hc) (by decide +kernel)).trans ?_
  refine (ry_ic_ge (off := 39) (tgt := 51) h1 h2 (by decide +kernel)).trans ?_
  exact Iff.rfl
theorem r6_15 {d : Nat} {X : Nat × (Nat → Int)} {v : Nat → Int} {M : PH} {K : PV → PS → Prop} {l1 l2 l3 : Int} (h1 : 0 ≤ l3) (h2 : l3 < 3) : pm_Run d 6 15 [vA 74, vI l1, vI l2, vI l3] [] (GF X, M, PTF v) K ↔ pm_Call d 55 [vI l1, vI l3] (GF X, M, PTF v) (fun r9 S1 => pm_Run d 6 34 [vA 74, vI l1, vI l2, vI l3] (pm_push r9 [vA 89, vI (M 82 l3.toNat), vI l2]) S1 K) := by
  refine (px_go (by decide +kernel : pm_fe 6 15 = some (.iload_n 2, 1)) rfl).trans ?_
  refine (px_go (by decide +kernel : pm_fe 6 16 = some (.aload_n 0, 1)) rfl).trans ?_
  refine (ry_get2 (idx := 31) (ci := 0) (k := 5) (by decide +kernel : 74 < 283 ∧ SHF 74 = (0, 17)) (ptf_l (a := 74) (k := 5) (n := 82) (by decide +kernel)) (by decide +kernel)).trans ?_
  refine (px_go (by decide +kernel : pm_fe 6 20 = some (.iload_n 3, 1)) rfl).trans ?_
  refine (ry_iald (by decide +kernel : 82 < 283 ∧ SHF 82 = (100, 3)) h1 h2 (by decide +kernel)).trans ?_
  refine (px_go (by decide +kernel : pm_fe 6 22 = some (.aload_n 0, 1)) rfl).trans ?_
  refine (ry_get2 (idx := 50) (ci := 0) (k := 15) (by decide +kernel : 74 < 283 ∧ SHF 74 = (0, 17)) (ptf_l (a := 74) (k := 15) (n := 85) (by decide +kernel)) (by decide +kernel)).trans ?_
  refine (ry_get2 (idx := 113) (ci := 5) (k := 4) (by decide +kernel : 85 < 283 ∧ SHF 85 = (5, 6)) (ptf_l (a := 85) (k := 4) (n := 89) (by decide +kernel)) (by decide +kernel)).trans ?_
  refine (px_go (by decide +kernel : pm_fe 6 29 = some (.iload_n 1, 1)) rfl).trans ?_
  refine (px_go (by decide +kernel : pm_fe 6 30 = some (.iload_n 3, 1)) rfl).trans ?_
  refine (px_s2 (idx := 116) (m' := 55) (nest := 0) (by decide +kernel)).trans ((and_iff_right (by simp [pm_wl_n, pm_wl_c, pm_w] : pm_wl [vA 89, vI (M 82 l3.toNat), vI l2] ≤ 8)).trans ?_)
  exact Iff.rfl
theorem r6_34 {d : Nat} {X : Nat × (Nat → Int)} {v : Nat → Int} {M : PH} {K : PV → PS → Prop} {l1 l2 l3 s0 s2 s3 : Int} (h1 : 0 ≤ s0) (h2 : s0 < 24) (h3 : inR s2) (h4 : inR (M 89 s0.toNat)) : pm_Run d 6 34 [vA 74, vI l1, vI l2, vI l3] [vI s0, vA 89, vI s2, vI s3] (GF X, M, PTF v) K ↔ if s2 ≠ M 89 s0.toNat then pm_Run d 6 42 [vA 74, vI l1, vI l2, vI l3] [vI s3] (GF X, M, PTF v) K else pm_Run d 6 38 [vA 74, vI l1, vI l2, vI l3] [vI s3] (GF X, M, PTF v) K := by
  refine (ry_iald (by decide +kernel : 89 < 283 ∧ SHF 89 = (100, 24)) h1 h2 (by decide +kernel)).trans ?_
  refine (ry_ic_ne (off := 7) (tgt := 42) h3 h4 (by decide +kernel)).trans ?_
  exact Iff.rfl
theorem r6_38 {d : Nat} {X : Nat × (Nat → Int)} {v : Nat → Int} {M : PH} {K : PV → PS → Prop} {l1 l2 l3 s0 : Int} : pm_Run d 6 38 [vA 74, vI l1, vI l2, vI l3] [vI s0] (GF X, M, PTF v) K ↔ pm_Run d 6 43 [vA 74, vI l1, vI l2, vI l3] [vI 1, vI s0] (GF X, M, PTF v) K := by
  refine (px_go (by decide +kernel : pm_fe 6 38 = some (.iconst 1, 1)) rfl).trans ?_
  refine (px_goto (off := 4) (tgt := 43) (by decide +kernel)).trans ?_
  exact Iff.rfl
theorem r6_42 {d : Nat} {X : Nat × (Nat → Int)} {v : Nat → Int} {M : PH} {K : PV → PS → Prop} {l1 l2 l3 s0 : Int} : pm_Run d 6 42 [vA 74, vI l1, vI l2, vI l3] [vI s0] (GF X, M, PTF v) K ↔ pm_Run d 6 43 [vA 74, vI l1, vI l2, vI l3] [vI 0, vI s0] (GF X, M, PTF v) K := by
  refine (px_go (by decide +kernel : pm_fe 6 42 = some (.iconst 0, 1)) rfl).trans ?_
  exact Iff.rfl
theorem r6_43 {d : Nat} {X : Nat × (Nat → Int)} {v : Nat → Int} {M : PH} {K : PV → PS → Prop} {l1 l2 l3 s0 s1 : Int} : pm_Run d 6 43 [vA 74, vI l1, vI l2, vI l3] [vI s0, vI s1] (GF X, M, PTF v) K ↔ pm_Run d 6 4 [vA 74, vI l1, vI (pm_and s1 s0), vI (l3 + 1)] [] (GF X, M, PTF v) K := by
  refine (px_go (by decide +kernel : pm_fe 6 43 = some (.iand, 1)) rfl).trans ?_
  refine (px_go (by decide +kernel : pm_fe 6 44 = some (.istore_n 2, 1)) rfl).trans ?_
  refine (px_go (by decide +kernel : pm_fe 6 45 = some (.iinc 3 1, 3)) rfl).trans ?_
  refine (px_goto (off := (-44)) (tgt := 4) (by decide +kernel)).trans ?_
  exact Iff.rfl
theorem r6_51 {d : Nat} {X : Nat × (Nat → Int)} {v : Nat → Int} {M : PH} {K : PV → PS → Prop} {l1 l2 l3 : Int} (h1 : l2 = 0 ∨ l2 = 1) : pm_Run d 6 51 [vA 74, vI l1, vI l2, vI l3] [] (GF X, M, PTF v) K ↔ K (vI l2) (GF X, M, PTF v) := by
  refine (px_go (by decide +kernel : pm_fe 6 51 = some (.iload_n 2, 1)) rfl).trans ?_
  refine (px_rz (by decide +kernel)).trans ((and_iff_right h1).trans ?_)
  exact Iff.rfl
-- X0_takeUp takeUp(ILMoonTender$Moment;)V
theorem r7_0 {d : Nat} {b : Nat} {X : Nat × (Nat → Int)} {v : Nat → Int} {M : PH} {K : PV → PS → Prop} {l1 : Int} : pm_Run d 7 0 [vA 74, vI l1, vA b, PU] [] (GF X, M, PTF v) K ↔ pm_Run d 7 5 [vA 74, vI l1, vA b, PU] [] (GF X, pm_sa M 74 (pm_up (M 74) 9 l1), PTF v) K := by
  refine (px_go (by decide +kernel : pm_fe 7 0 = some (.aload_n 0, 1)) rfl).trans ?_
  refine (px_go (by decide +kernel : pm_fe 7 1 = some (.iload_n 1, 1)) rfl).trans ?_
  refine (ry_put0 (idx := 123) (ci := 0) (k := 9) (by decide +kernel : 74 < 283 ∧ SHF 74 = (0, 17)) (by decide +kernel)).trans ?_
  exact Iff.rfl
theorem r7_5 {d : Nat} {b : Nat} {X : Nat × (Nat → Int)} {v : Nat → Int} {M : PH} {K : PV → PS → Prop} {l1 : Int} : pm_Run d 7 5 [vA 74, vI l1, vA b, PU] [] (GF X, M, PTF v) K ↔ pm_Run d 7 15 [vA 74, vI l1, vA b, PU] [] (GF X, pm_sa M 74 (pm_up (M 74) 10 ((M 74 10) + 1)), PTF v) K := by
  refine (px_go (by decide +kernel : pm_fe 7 5 = some (.aload_n 0, 1)) rfl).trans ?_
  refine (px_go (by decide +kernel : pm_fe 7 6 = some (.dup, 1)) rfl).trans ?_
  refine (ry_get0 (idx := 126) (ci := 0) (k := 10) (by decide +kernel : 74 < 283 ∧ SHF 74 = (0, 17)) (by decide +kernel)).trans ?_
  refine (px_go (by decide +kernel : pm_fe 7 10 = some (.iconst 1, 1)) rfl).trans ?_
  refine (px_go (by decide +kernel : pm_fe 7 11 = some (.iadd, 1)) rfl).trans ?_
  refine (ry_put0 (idx := 126) (ci := 0) (k := 10) (by decide +kernel : 74 < 283 ∧ SHF 74 = (0, 17)) (by decide +kernel)).trans ?_
  exact Iff.rfl
theorem r7_15 {d : Nat} {b : Nat} {X : Nat × (Nat → Int)} {v : Nat → Int} {M : PH} {K : PV → PS → Prop} {l1 : Int} : pm_Run d 7 15 [vA 74, vI l1, vA b, PU] [] (GF X, M, PTF v) K ↔ pm_Call d 307 [vA 82, vI 0] (GF X, M, PTF v) (fun r9 S1 => pm_Run d 7 23 [vA 74, vI l1, vA b, PU] (pm_push r9 []) S1 K) := by
  refine (px_go (by decide +kernel : pm_fe 7 15 = some (.aload_n 0, 1)) rfl).trans ?_
  refine (ry_get2 (idx := 31) (ci := 0) (k := 5) (by decide +kernel : 74 < 283 ∧ SHF 74 = (0, 17)) (ptf_l (a := 74) (k := 5) (n := 82) (by decide +kernel)) (by decide +kernel)).trans ?_
  refine (px_go (by decide +kernel : pm_fe 7 19 = some (.iconst 0, 1)) rfl).trans ?_
  refine (px_s2 (idx := 129) (m' := 307) (nest := 0) (by decide +kernel)).trans ((and_iff_right (by simp [pm_wl_n, pm_wl_c, pm_w] : pm_wl [] ≤ 8)).trans ?_)
  exact Iff.rfl
theorem r7_23 {d : Nat} {b : Nat} {X : Nat × (Nat → Int)} {v : Nat → Int} {M : PH} {K : PV → PS → Prop} {l1 : Int} : pm_Run d 7 23 [vA 74, vI l1, vA b, PU] [] (GF X, M, PTF v) K ↔ pm_Run d 7 25 [vA 74, vI l1, vA b, vI 0] [] (GF X, M, PTF v) K := by
  refine (px_go (by decide +kernel : pm_fe 7 23 = some (.iconst 0, 1)) rfl).trans ?_
  refine (px_go (by decide +kernel : pm_fe 7 24 = some (.istore_n 3, 1)) rfl).trans ?_
  exact Iff.rfl
theorem r7_25 {d : Nat} {b : Nat} {X : Nat × (Nat → Int)} {v : Nat → Int} {M : PH} {K : PV → PS → Prop} {l1 l3 : Int} (h1 : inR l3) : pm_Run d 7 25 [vA 74, vI l1, vA b, vI l3] [] (GF X, M, PTF v) K ↔ if 3 ≤ l3 then pm_Run d 7 58 [vA 74, vI l1, vA b, vI l3] [] (GF X, M, PTF v) K else pm_Run d 7 30 [vA 74, vI l1, vA b, vI l3] [] (GF X, M, PTF v) K := by
  refine (px_go (by decide +kernel : pm_fe 7 25 = some (.iload_n 3, 1)) rfl).trans ?_
  refine (px_go (by decide +kernel : pm_fe 7 26 = some (.iconst 3, 1)) rfl).trans ?_
  refine (ry_ic_ge (off := 31) (tgt := 58) h1 (by decide : (-2147483648 ≤ (3 : Int) ∧ (3 : Int) < 2147483648)) (by decide +kernel)).trans ?_
  exact Iff.rfl
theorem r7_30 {d : Nat} {b : Nat} {X : Nat × (Nat → Int)} {v : Nat → Int} {M : PH} {K : PV → PS → Prop} {l1 l3 : Int} (hb : isMo b) : pm_Run d 7 30 [vA 74, vI l1, vA b, vI l3] [] (GF X, M, PTF v) K ↔ pm_Call d 58 [vA b, vI l3] (GF X, M, PTF v) (fun r9 S1 => pm_Run d 7 40 [vA 74, vI l1, vA b, vI l3] (pm_push r9 [vI l3, vA 81]) S1 K) := by
  refine (px_go (by decide +kernel : pm_fe 7 30 = some (.aload_n 0, 1)) rfl).trans ?_
  refine (ry_get2 (idx := 28) (ci := 0) (k := 4) (by decide +kernel : 74 < 283 ∧ SHF 74 = (0, 17)) (ptf_l (a := 74) (k := 4) (n := 81) (by decide +kernel)) (by decide +kernel)).trans ?_
  refine (px_go (by decide +kernel : pm_fe 7 34 = some (.iload_n 3, 1)) rfl).trans ?_
  refine (px_go (by decide +kernel : pm_fe 7 35 = some (.aload_n 2, 1)) rfl).trans ?_
  refine (px_go (by decide +kernel : pm_fe 7 36 = some (.iload_n 3, 1)) rfl).trans ?_
  refine (ry_v1 (idx := 135) (m' := 58) (ci := 5) (mos0 hb) (by simp [pm_wl_n, pm_wl_c, pm_w] : pm_wl [vI l3, vA 81] ≤ 8) (by decide +kernel)).trans ?_
  exact Iff.rfl
theorem r7_40 {d : Nat} {b : Nat} {X : Nat × (Nat → Int)} {v : Nat → Int} {M : PH} {K : PV → PS → Prop} {l1 l3 s0 s1 : Int} (hb : isMo b) : pm_Run d 7 40 [vA 74, vI l1, vA b, vI l3] [vI s0, vI s1, vA 81] (GF X, M, PTF v) K ↔ pm_Call d 55 [vI l1, vI l3] (GF X, M, PTF v) (fun r9 S1 => pm_Run d 7 49 [vA 74, vI l1, vA b, vI l3] (pm_push r9 [vA (b + 4), vI s0, vI s1, vA 81]) S1 K) := by
  refine (px_go (by decide +kernel : pm_fe 7 40 = some (.aload_n 2, 1)) rfl).trans ?_
  refine (ry_get2 (idx := 113) (ci := 5) (k := 4) (mos0 hb) (mop4 hb) (by decide +kernel)).trans ?_
  refine (px_go (by decide +kernel : pm_fe 7 44 = some (.iload_n 1, 1)) rfl).trans ?_
  refine (px_go (by decide +kernel : pm_fe 7 45 = some (.iload_n 3, 1)) rfl).trans ?_
  refine (px_s2 (idx := 116) (m' := 55) (nest := 0) (by decide +kernel)).trans ((and_iff_right (by simp [pm_wl_n, pm_wl_c, pm_w] : pm_wl [vA (b + 4), vI s0, vI s1, vA 81] ≤ 8)).trans ?_)
  exact Iff.rfl
theorem r7_49 {d : Nat} {b : Nat} {X : Nat × (Nat → Int)} {v : Nat → Int} {M : PH} {K : PV → PS → Prop} {l1 l3 s0 s2 s3 : Int} (hb : isMo b) (h1 : 0 ≤ s0) (h2 : s0 < 24) (h3 : 0 ≤ s3) (h4 : s3 < 3) : pm_Run d 7 49 [vA 74, vI l1, vA b, vI l3] [vI s0, vA (b + 4), vI s2, vI s3, vA 81] (GF X, M, PTF v) K ↔ pm_Run d 7 52 [vA 74, vI l1, vA b, vI l3] [] (GF X, pm_sa M 81 (pm_up (M 81) s3.toNat (s2 - (M (b + 4) s0.toNat))), PTF v) K := by
  refine (ry_iald (mos4 hb) h1 h2 (by decide +kernel)).trans ?_
  refine (px_go (by decide +kernel : pm_fe 7 50 = some (.isub, 1)) rfl).trans ?_
  refine (ry_iast (by decide +kernel : 81 < 283 ∧ SHF 81 = (100, 3)) h3 h4 (by decide +kernel)).trans ?_
  exact Iff.rfl
theorem r7_52 {d : Nat} {b : Nat} {X : Nat × (Nat → Int)} {v : Nat → Int} {M : PH} {K : PV → PS → Prop} {l1 l3 : Int} : pm_Run d 7 52 [vA 74, vI l1, vA b, vI l3] [] (GF X, M, PTF v) K ↔ pm_Run d 7 25 [vA 74, vI l1, vA b, vI (l3 + 1)] [] (GF X, M, PTF v) K := by
  refine (px_go (by decide +kernel : pm_fe 7 52 = some (.iinc 3 1, 3)) rfl).trans ?_
  refine (px_goto (off := (-30)) (tgt := 25) (by decide +kernel)).trans ?_
  exact Iff.rfl
theorem r7_58 {d : Nat} {b : Nat} {X : Nat × (Nat → Int)} {v : Nat → Int} {M : PH} {K : PV → PS → Prop} {l1 l3 : Int} : pm_Run d 7 58 [vA 74, vI l1, vA b, vI l3] [] (GF X, M, PTF v) K ↔ K PU (GF X, M, PTF v) := by
  refine (px_rv (by decide +kernel)).trans ?_
  exact Iff.rfl
-- X0_triesUpTo triesUpTo(I)I
theorem r8_0 {d : Nat} {X : Nat × (Nat → Int)} {v : Nat → Int} {M : PH} {K : PV → PS → Prop} {l1 : Int} : pm_Run d 8 0 [vA 74, vI l1, PU, PU] [] (GF X, M, PTF v) K ↔ pm_Run d 8 4 [vA 74, vI l1, vI 1, vI 0] [] (GF X, M, PTF v) K := by
  refine (px_go (by decide +kernel : pm_fe 8 0 = some (.iconst 1, 1)) rfl).trans ?_
  refine (px_go (by decide +kernel : pm_fe 8 1 = some (.istore_n 2, 1)) rfl).trans ?_
  refine (px_go (by decide +kernel : pm_fe 8 2 = some (.iconst 0, 1)) rfl).trans ?_
  refine (px_go (by decide +kernel : pm_fe 8 3 = some (.istore_n 3, 1)) rfl).trans ?_
  exact Iff.rfl
theorem r8_4 {d : Nat} {c : Nat} {X : Nat × (Nat → Int)} {v : Nat → Int} {M : PH} {K : PV → PS → Prop} {l1 l2 l3 : Int} (hc : isCh c) (hv3 : v 3 = ((c : Nat) : Int)) (h1 : inR l3) (h2 : inR (M c 1)) : pm_Run d 8 4 [vA 74, vI l1, vI l2, vI l3] [] (GF X, M, PTF v) K ↔ if M c 1 ≤ l3 then pm_Run d 8 27 [vA 74, vI l1, vI l2, vI l3] [] (GF X, M, PTF v) K else pm_Run d 8 15 [vA 74, vI l1, vI l2, vI l3] [] (GF X, M, PTF v) K := by
  refine (px_go (by decide +kernel : pm_fe 8 4 = some (.iload_n 3, 1)) rfl).trans ?_
  refine (px_go (by decide +kernel : pm_fe 8 5 = some (.aload_n 0, 1)) rfl).trans ?_
  refine (ry_get2 (idx := 54) (ci := 0) (k := 8) (by decide +kernel : 74 < 283 ∧ SHF 74 = (0, 17)) (ptd3 hv3) (by decide +kernel)).trans ?_
  refine (ry_get0 (idx := 120) (ci := 1) (k := 1) (chs0 hc) (by decide +kernel)).trans ?_
  refine (ry_ic_ge (off := 15) (tgt := 27) h1 h2 (by decide +kernel)).trans ?_
  exact Iff.rfl
theorem r8_15 {d : Nat} {X : Nat × (Nat → Int)} {v : Nat → Int} {M : PH} {K : PV → PS → Prop} {l1 l2 l3 : Int} : pm_Run d 8 15 [vA 74, vI l1, vI l2, vI l3] [] (GF X, M, PTF v) K ↔ pm_Run d 8 4 [vA 74, vI l1, vI (l2 * (l1 + 1)), vI (l3 + 1)] [] (GF X, M, PTF v) K := by
  refine (px_go (by decide +kernel : pm_fe 8 15 = some (.iload_n 2, 1)) rfl).trans ?_
  refine (px_go (by decide +kernel : pm_fe 8 16 = some (.iload_n 1, 1)) rfl).trans ?_
  refine (px_go (by decide +kernel : pm_fe 8 17 = some (.iconst 1, 1)) rfl).trans ?_
  refine (px_go (by decide +kernel : pm_fe 8 18 = some (.iadd, 1)) rfl).trans ?_
  refine (px_go (by decide +kernel : pm_fe 8 19 = some (.imul, 1)) rfl).trans ?_
  refine (px_go (by decide +kernel : pm_fe 8 20 = some (.istore_n 2, 1)) rfl).trans ?_
  refine (px_go (by decide +kernel : pm_fe 8 21 = some (.iinc 3 1, 3)) rfl).trans ?_
  refine (px_goto (off := (-20)) (tgt := 4) (by decide +kernel)).trans ?_
  exact Iff.rfl
theorem r8_27 {d : Nat} {X : Nat × (Nat → Int)} {v : Nat → Int} {M : PH} {K : PV → PS → Prop} {l1 l2 l3 : Int} : pm_Run d 8 27 [vA 74, vI l1, vI l2, vI l3] [] (GF X, M, PTF v) K ↔ K (vI l2) (GF X, M, PTF v) := by
  refine (px_go (by decide +kernel : pm_fe 8 27 = some (.iload_n 2, 1)) rfl).trans ?_
  refine (px_ri (by decide +kernel)).trans ?_
  exact Iff.rfl
-- X0_nextTrial nextTrial(I)V
theorem r9_0 {d : Nat} {c : Nat} {X : Nat × (Nat → Int)} {v : Nat → Int} {M : PH} {K : PV → PS → Prop} {l1 : Int} (hc : isCh c) (hv3 : v 3 = ((c : Nat) : Int)) : pm_Run d 9 0 [vA 74, vI l1, PU] [] (GF X, M, PTF v) K ↔ pm_Run d 9 10 [vA 74, vI l1, vI ((M c 1) - 1)] [] (GF X, M, PTF v) K := by
  refine (px_go (by decide +kernel : pm_fe 9 0 = some (.aload_n 0, 1)) rfl).trans ?_
  refine (ry_get2 (idx := 54) (ci := 0) (k := 8) (by decide +kernel : 74 < 283 ∧ SHF 74 = (0, 17)) (ptd3 hv3) (by decide +kernel)).trans ?_
  refine (ry_get0 (idx := 120) (ci := 1) (k := 1) (chs0 hc) (by decide +kernel)).trans ?_
  refine (px_go (by decide +kernel : pm_fe 9 7 = some (.iconst 1, 1)) rfl).trans ?_
  refine (px_go (by decide +kernel : pm_fe 9 8 = some (.isub, 1)) rfl).trans ?_
  refine (px_go (by decide +kernel : pm_fe 9 9 = some (.istore_n 2, 1)) rfl).trans ?_
  exact Iff.rfl
theorem r9_10 {d : Nat} {X : Nat × (Nat → Int)} {v : Nat → Int} {M : PH} {K : PV → PS → Prop} {l1 l2 : Int} (h1 : inR l2) : pm_Run d 9 10 [vA 74, vI l1, vI l2] [] (GF X, M, PTF v) K ↔ if l2 < 0 then pm_Run d 9 48 [vA 74, vI l1, vI l2] [] (GF X, M, PTF v) K else pm_Run d 9 14 [vA 74, vI l1, vI l2] [] (GF X, M, PTF v) K := by
  refine (px_go (by decide +kernel : pm_fe 9 10 = some (.iload_n 2, 1)) rfl).trans ?_
  refine (ry_if_lt (off := 37) (tgt := 48) h1 (by decide +kernel)).trans ?_
  exact Iff.rfl
theorem r9_14 {d : Nat} {X : Nat × (Nat → Int)} {v : Nat → Int} {M : PH} {K : PV → PS → Prop} {l1 l2 : Int} (h1 : 0 ≤ l2) (h2 : l2 < 3) (h3 : inR (M 82 l2.toNat)) (h4 : inR l1) : pm_Run d 9 14 [vA 74, vI l1, vI l2] [] (GF X, M, PTF v) K ↔ if l1 ≤ M 82 l2.toNat then pm_Run d 9 35 [vA 74, vI l1, vI l2] [] (GF X, M, PTF v) K else pm_Run d 9 24 [vA 74, vI l1, vI l2] [] (GF X, M, PTF v) K := by
  refine (px_go (by decide +kernel : pm_fe 9 14 = some (.aload_n 0, 1)) rfl).trans ?_
  refine (ry_get2 (idx := 31) (ci := 0) (k := 5) (by decide +kernel : 74 < 283 ∧ SHF 74 = (0, 17)) (ptf_l (a := 74) (k := 5) (n := 82) (by decide +kernel)) (by decide +kernel)).trans ?_
  refine (px_go (by decide +kernel : pm_fe 9 18 = some (.iload_n 2, 1)) rfl).trans ?_
  refine (ry_iald (by decide +kernel : 82 < 283 ∧ SHF 82 = (100, 3)) h1 h2 (by decide +kernel)).trans ?_
  refine (px_go (by decide +kernel : pm_fe 9 20 = some (.iload_n 1, 1)) rfl).trans ?_
  refine (ry_ic_ge (off := 14) (tgt := 35) h3 h4 (by decide +kernel)).trans ?_
  exact Iff.rfl
theorem r9_24 {d : Nat} {X : Nat × (Nat → Int)} {v : Nat → Int} {M : PH} {K : PV → PS → Prop} {l1 l2 : Int} (h1 : 0 ≤ l2) (h2 : l2 < 3) : pm_Run d 9 24 [vA 74, vI l1, vI l2] [] (GF X, M, PTF v) K ↔ K PU (GF X, pm_sa M 82 (pm_up (M 82) l2.toNat ((M 82 l2.toNat) + 1)), PTF v) := by
  refine (px_go (by decide +kernel : pm_fe 9 24 = some (.aload_n 0, 1)) rfl).trans ?_
  refine (ry_get2 (idx := 31) (ci := 0) (k := 5) (by decide +kernel : 74 < 283 ∧ SHF 74 = (0, 17)) (ptf_l (a := 74) (k := 5) (n := 82) (by decide +kernel)) (by decide +kernel)).trans ?_
  refine (px_go (by decide +kernel : pm_fe 9 28 = some (.iload_n 2, 1)) rfl).trans ?_
  refine (px_go (by decide +kernel : pm_fe 9 29 = some (.dup2, 1)) rfl).trans ?_
  refine (ry_iald (by decide +kernel : 82 < 283 ∧ SHF 82 = (100, 3)) h1 h2 (by decide +kernel)).trans ?_
  refine (px_go (by decide +kernel : pm_fe 9 31 = some (.iconst 1, 1)) rfl).trans ?_
  refine (px_go (by decide +kernel : pm_fe 9 32 = some (.iadd, 1)) rfl).trans ?_
  refine (ry_iast (by decide +kernel : 82 < 283 ∧ SHF 82 = (100, 3)) h1 h2 (by decide +kernel)).trans ?_
  refine (px_rv (by decide +kernel)).trans ?_
  exact Iff.rfl
theorem r9_35 {d : Nat} {X : Nat × (Nat → Int)} {v : Nat → Int} {M : PH} {K : PV → PS → Prop} {l1 l2 : Int} (h1 : 0 ≤ l2) (h2 : l2 < 3) : pm_Run d 9 35 [vA 74, vI l1, vI l2] [] (GF X, M, PTF v) K ↔ pm_Run d 9 42 [vA 74, vI l1, vI l2] [] (GF X, pm_sa M 82 (pm_up (M 82) l2.toNat 0), PTF v) K := by
  refine (px_go (by decide +kernel : pm_fe 9 35 = some (.aload_n 0, 1)) rfl).trans ?_
  refine (ry_get2 (idx := 31) (ci := 0) (k := 5) (by decide +kernel : 74 < 283 ∧ SHF 74 = (0, 17)) (ptf_l (a := 74) (k := 5) (n := 82) (by decide +kernel)) (by decide +kernel)).trans ?_
  refine (px_go (by decide +kernel : pm_fe 9 39 = some (.iload_n 2, 1)) rfl).trans ?_
  refine (px_go (by decide +kernel : pm_fe 9 40 = some (.iconst 0, 1)) rfl).trans ?_
  refine (ry_iast (by decide +kernel : 82 < 283 ∧ SHF 82 = (100, 3)) h1 h2 (by decide +kernel)).trans ?_
  exact Iff.rfl
theorem r9_42 {d : Nat} {X : Nat × (Nat → Int)} {v : Nat → Int} {M : PH} {K : PV → PS → Prop} {l1 l2 : Int} : pm_Run d 9 42 [vA 74, vI l1, vI l2] [] (GF X, M, PTF v) K ↔ pm_Run d 9 10 [vA 74, vI l1, vI (l2 + (-1))] [] (GF X, M, PTF v) K := by
  refine (px_go (by decide +kernel : pm_fe 9 42 = some (.iinc 2 (-1), 3)) rfl).trans ?_
  refine (px_goto (off := (-35)) (tgt := 10) (by decide +kernel)).trans ?_
  exact Iff.rfl
theorem r9_48 {d : Nat} {X : Nat × (Nat → Int)} {v : Nat → Int} {M : PH} {K : PV → PS → Prop} {l1 l2 : Int} : pm_Run d 9 48 [vA 74, vI l1, vI l2] [] (GF X, M, PTF v) K ↔ K PU (GF X, M, PTF v) := by
  refine (px_rv (by decide +kernel)).trans ?_
  exact Iff.rfl
-- X0_trialSum trialSum()I
theorem r10_0 {d : Nat} {X : Nat × (Nat → Int)} {v : Nat → Int} {M : PH} {K : PV → PS → Prop} : pm_Run d 10 0 [vA 74] [] (GF X, M, PTF v) K ↔ K (vI (((M 82 0) + (M 82 1)) + (M 82 2))) (GF X, M, PTF v) := by
  refine (px_go (by decide +kernel : pm_fe 10 0 = some (.aload_n 0, 1)) rfl).trans ?_
  refine (ry_get2 (idx := 31) (ci := 0) (k := 5) (by decide +kernel : 74 < 283 ∧ SHF 74 = (0, 17)) (ptf_l (a := 74) (k := 5) (n := 82) (by decide +kernel)) (by decide +kernel)).trans ?_
  refine (px_go (by decide +kernel : pm_fe 10 4 = some (.iconst 0, 1)) rfl).trans ?_
  refine (ry_iald (by decide +kernel : 82 < 283 ∧ SHF 82 = (100, 3)) (by decide : (0 : Int) ≤ (0 : Int)) (by decide : (0 : Int) < (3 : Int)) (by decide +kernel)).trans ?_
  refine (px_go (by decide +kernel : pm_fe 10 6 = some (.aload_n 0, 1)) rfl).trans ?_
  refine (ry_get2 (idx := 31) (ci := 0) (k := 5) (by decide +kernel : 74 < 283 ∧ SHF 74 = (0, 17)) (ptf_l (a := 74) (k := 5) (n := 82) (by decide +kernel)) (by decide +kernel)).trans ?_
  refine (px_go (by decide +kernel : pm_fe 10 10 = some (.iconst 1, 1)) rfl).trans ?_
  refine (ry_iald (by decide +kernel : 82 < 283 ∧ SHF 82 = (100, 3)) (by decide : (0 : Int) ≤ (1 : Int)) (by decide : (1 : Int) < (3 : Int)) (by decide +kernel)).trans ?_
  refine (px_go (by decide +kernel : pm_fe 10 12 = some (.iadd, 1)) rfl).trans ?_
  refine (px_go (by decide +kernel : pm_fe 10 13 = some (.aload_n 0, 1)) rfl).trans ?_
  refine (ry_get2 (idx := 31) (ci := 0) (k := 5) (by decide +kernel : 74 < 283 ∧ SHF 74 = (0, 17)) (ptf_l (a := 74) (k := 5) (n := 82) (by decide +kernel)) (by decide +kernel)).trans ?_
  refine (px_go (by decide +kernel : pm_fe 10 17 = some (.iconst 2, 1)) rfl).trans ?_
  refine (ry_iald (by decide +kernel : 82 < 283 ∧ SHF 82 = (100, 3)) (by decide : (0 : Int) ≤ (2 : Int)) (by decide : (2 : Int) < (3 : Int)) (by decide +kernel)).trans ?_
  refine (px_go (by decide +kernel : pm_fe 10 19 = some (.iadd, 1)) rfl).trans ?_
  refine (px_ri (by decide +kernel)).trans ?_
  exact Iff.rfl
-- X0_trialHeight trialHeight(LMoonTender$Moment;)I
theorem r11_0 {d : Nat} {b : Nat} {X : Nat × (Nat → Int)} {v : Nat → Int} {M : PH} {K : PV → PS → Prop} : pm_Run d 11 0 [vA 74, vA b, PU, PU, PU, PU, PU, PU, PU, PU, PU] [] (GF X, M, PTF v) K ↔ pm_Call d 10 [vA 74] (GF X, M, PTF v) (fun r9 S1 => pm_Run d 11 4 [vA 74, vA b, PU, PU, PU, PU, PU, PU, PU, PU, PU] (pm_push r9 []) S1 K) := by
  refine (px_go (by decide +kernel : pm_fe 11 0 = some (.aload_n 0, 1)) rfl).trans ?_
  refine (ry_v0 (idx := 79) (m' := 10) (ci := 0) (by decide +kernel : 74 < 283 ∧ SHF 74 = (0, 17)) (by simp [pm_wl_n, pm_wl_c, pm_w] : pm_wl [] ≤ 8) (by decide +kernel)).trans ?_
  exact Iff.rfl
theorem r11_4 {d : Nat} {b c : Nat} {X : Nat × (Nat → Int)} {v : Nat → Int} {M : PH} {K : PV → PS → Prop} {s0 : Int} (hc : isCh c) (hv3 : v 3 = ((c : Nat) : Int)) (h1 : 0 ≤ (M 74 9)) (h2 : (M 74 9) < 8) : pm_Run d 11 4 [vA 74, vA b, PU, PU, PU, PU, PU, PU, PU, PU, PU] [vI s0] (GF X, M, PTF v) K ↔ pm_Call d 45 [vA (c + 15), vI 0, vI 20] (GF X, M, PTF v) (fun r9 S1 => pm_Run d 11 37 [vA 74, vA b, vI s0, vI (M (c + 4) (M 74 9).toNat), vI 0, vI 0, PU, PU, PU, PU, PU] (pm_push r9 []) S1 K) := by
  refine (px_go (by decide +kernel : pm_fe 11 4 = some (.istore_n 2, 1)) rfl).trans ?_
  refine (px_go (by decide +kernel : pm_fe 11 5 = some (.aload_n 0, 1)) rfl).trans ?_
  refine (ry_get2 (idx := 54) (ci := 0) (k := 8) (by decide +kernel : 74 < 283 ∧ SHF 74 = (0, 17)) (ptd3 hv3) (by decide +kernel)).trans ?_
  refine (ry_get2 (idx := 138) (ci := 1) (k := 11) (chs0 hc) (chp0_11 hc) (by decide +kernel)).trans ?_
  refine (px_go (by decide +kernel : pm_fe 11 12 = some (.aload_n 0, 1)) rfl).trans ?_
  refine (ry_get0 (idx := 123) (ci := 0) (k := 9) (by decide +kernel : 74 < 283 ∧ SHF 74 = (0, 17)) (by decide +kernel)).trans ?_
  refine (ry_iald (chs4 hc) h1 h2 (by decide +kernel)).trans ?_
  refine (px_go (by decide +kernel : pm_fe 11 17 = some (.istore_n 3, 1)) rfl).trans ?_
  refine (px_go (by decide +kernel : pm_fe 11 18 = some (.iconst 0, 1)) rfl).trans ?_
  refine (px_go (by decide +kernel : pm_fe 11 19 = some (.istore 4, 2)) rfl).trans ?_
  refine (px_go (by decide +kernel : pm_fe 11 21 = some (.iconst 0, 1)) rfl).trans ?_
  refine (px_go (by decide +kernel : pm_fe 11 22 = some (.istore 5, 2)) rfl).trans ?_
  refine (px_go (by decide +kernel : pm_fe 11 24 = some (.aload_n 0, 1)) rfl).trans ?_
  refine (ry_get2 (idx := 54) (ci := 0) (k := 8) (by decide +kernel : 74 < 283 ∧ SHF 74 = (0, 17)) (ptd3 hv3) (by decide +kernel)).trans ?_
  refine (ry_get2 (idx := 141) (ci := 1) (k := 17) (chs0 hc) (chp0_17 hc) (by decide +kernel)).trans ?_
  refine (px_go (by decide +kernel : pm_fe 11 31 = some (.iconst 0, 1)) rfl).trans ?_
  refine (px_go (by decide +kernel : pm_fe 11 32 = some (.bipush 20, 2)) rfl).trans ?_
  refine (ry_v2 (idx := 147) (m' := 45) (ci := 3) (chs15 hc) (by simp [pm_wl_n, pm_wl_c, pm_w] : pm_wl [] ≤ 8) (by decide +kernel)).trans ?_
  exact Iff.rfl
theorem r11_37 {d : Nat} {b : Nat} {X : Nat × (Nat → Int)} {v : Nat → Int} {M : PH} {K : PV → PS → Prop} {l2 l3 l4 l5 s0 : Int} : pm_Run d 11 37 [vA 74, vA b, vI l2, vI l3, vI l4, vI l5, PU, PU, PU, PU, PU] [vI s0] (GF X, M, PTF v) K ↔ pm_Run d 11 42 [vA 74, vA b, vI l2, vI l3, vI l4, vI l5, vI s0, vI 0, PU, PU, PU] [] (GF X, M, PTF v) K := by
  refine (px_go (by decide +kernel : pm_fe 11 37 = some (.istore 6, 2)) rfl).trans ?_
  refine (px_go (by decide +kernel : pm_fe 11 39 = some (.iconst 0, 1)) rfl).trans ?_
  refine (px_go (by decide +kernel : pm_fe 11 40 = some (.istore 7, 2)) rfl).trans ?_
  exact Iff.rfl
theorem r11_42 {d : Nat} {b c : Nat} {X : Nat × (Nat → Int)} {v : Nat → Int} {M : PH} {K : PV → PS → Prop} {l2 l3 l4 l5 l6 l7 : Int} {l8 l9 l10 : PV} (hc : isCh c) (hv3 : v 3 = ((c : Nat) : Int)) (h1 : inR l7) (h2 : inR (M c 1)) : pm_Run d 11 42 [vA 74, vA b, vI l2, vI l3, vI l4, vI l5, vI l6, vI l7, l8, l9, l10] [] (GF X, M, PTF v) K ↔ if M c 1 ≤ l7 then pm_Run d 11 256 [vA 74, vA b, vI l2, vI l3, vI l4, vI l5, vI l6, vI l7, l8, l9, l10] [] (GF X, M, PTF v) K else pm_Run d 11 54 [vA 74, vA b, vI l2, vI l3, vI l4, vI l5, vI l6, vI l7, l8, l9, l10] [] (GF X, M, PTF v) K := by
  refine (px_go (by decide +kernel : pm_fe 11 42 = some (.iload 7, 2)) rfl).trans ?_
  refine (px_go (by decide +kernel : pm_fe 11 44 = some (.aload_n 0, 1)) rfl).trans ?_
  refine (ry_get2 (idx := 54) (ci := 0) (k := 8) (by decide +kernel : 74 < 283 ∧ SHF 74 = (0, 17)) (ptd3 hv3) (by decide +kernel)).trans ?_
  refine (ry_get0 (idx := 120) (ci := 1) (k := 1) (chs0 hc) (by decide +kernel)).trans ?_
  refine (ry_ic_ge (off := 205) (tgt := 256) h1 h2 (by decide +kernel)).trans ?_
  exact Iff.rfl
theorem r11_54 {d : Nat} {b : Nat} {X : Nat × (Nat → Int)} {v : Nat → Int} {M : PH} {K : PV → PS → Prop} {l2 l3 l4 l5 l6 l7 : Int} {l8 l9 l10 : PV} (h1 : inR l6) : pm_Run d 11 54 [vA 74, vA b, vI l2, vI l3, vI l4, vI l5, vI l6, vI l7, l8, l9, l10] [] (GF X, M, PTF v) K ↔ if l6 = 0 then pm_Run d 11 71 [vA 74, vA b, vI l2, vI l3, vI l4, vI l5, vI l6, vI l7, l8, l9, l10] [] (GF X, M, PTF v) K else pm_Run d 11 59 [vA 74, vA b, vI l2, vI l3, vI l4, vI l5, vI l6, vI l7, l8, l9, l10] [] (GF X, M, PTF v) K := by
  refine (px_go (by decide +kernel : pm_fe 11 54 = some (.iload 6, 2)) rfl).trans ?_
  refine (ry_if_eq (off := 15) (tgt := 71) h1 (by decide +kernel)).trans ?_
  exact Iff.rfl
theorem r11_59 {d : Nat} {b : Nat} {X : Nat × (Nat → Int)} {v : Nat → Int} {M : PH} {K : PV → PS → Prop} {l2 l3 l4 l5 l6 l7 : Int} {l8 l9 l10 : PV} (h1 : 0 ≤ l7) (h2 : l7 < 3) : pm_Run d 11 59 [vA 74, vA b, vI l2, vI l3, vI l4, vI l5, vI l6, vI l7, l8, l9, l10] [] (GF X, M, PTF v) K ↔ pm_Run d 11 72 [vA 74, vA b, vI l2, vI l3, vI l4, vI l5, vI l6, vI l7, l8, l9, l10] [vI (l2 - (M 82 l7.toNat))] (GF X, M, PTF v) K := by
  refine (px_go (by decide +kernel : pm_fe 11 59 = some (.iload_n 2, 1)) rfl).trans ?_
  refine (px_go (by decide +kernel : pm_fe 11 60 = some (.aload_n 0, 1)) rfl).trans ?_
  refine (ry_get2 (idx := 31) (ci := 0) (k := 5) (by decide +kernel : 74 < 283 ∧ SHF 74 = (0, 17)) (ptf_l (a := 74) (k := 5) (n := 82) (by decide +kernel)) (by decide +kernel)).trans ?_
  refine (px_go (by decide +kernel : pm_fe 11 64 = some (.iload 7, 2)) rfl).trans ?_
  refine (ry_iald (by decide +kernel : 82 < 283 ∧ SHF 82 = (100, 3)) h1 h2 (by decide +kernel)).trans ?_
  refine (px_go (by decide +kernel : pm_fe 11 67 = some (.isub, 1)) rfl).trans ?_
  refine (px_goto (off := 4) (tgt := 72) (by decide +kernel)).trans ?_
  exact Iff.rfl
theorem r11_71 {d : Nat} {b : Nat} {X : Nat × (Nat → Int)} {v : Nat → Int} {M : PH} {K : PV → PS → Prop} {l2 l3 l4 l5 l6 l7 : Int} {l8 l9 l10 : PV} : pm_Run d 11 71 [vA 74, vA b, vI l2, vI l3, vI l4, vI l5, vI l6, vI l7, l8, l9, l10] [] (GF X, M, PTF v) K ↔ pm_Run d 11 72 [vA 74, vA b, vI l2, vI l3, vI l4, vI l5, vI l6, vI l7, l8, l9, l10] [vI 0] (GF X, M, PTF v) K := by
  refine (px_go (by decide +kernel : pm_fe 11 71 = some (.iconst 0, 1)) rfl).trans ?_
  exact Iff.rfl
theorem r11_72 {d : Nat} {b : Nat} {X : Nat × (Nat → Int)} {v : Nat → Int} {M : PH} {K : PV → PS → Prop} {l2 l3 l4 l5 l6 l7 s0 : Int} {l8 l9 l10 : PV} (h1 : 0 ≤ l7) (h2 : l7 < 3) (h3 : 0 ≤ ((((l7 * 11) + (M 82 l7.toNat)) * 21) + s0)) (h4 : ((((l7 * 11) + (M 82 l7.toNat)) * 21) + s0) < 693) (h5 : inR (M 80 ((((l7 * 11) + (M 82 l7.toNat)) * 21) + s0).toNat)) (h6 : inR (M 74 10)) : pm_Run d 11 72 [vA 74, vA b, vI l2, vI l3, vI l4, vI l5, vI l6, vI l7, l8, l9, l10] [vI s0] (GF X, M, PTF v) K ↔ if M 80 ((((l7 * 11) + (M 82 l7.toNat)) * 21) + s0).toNat = M 74 10 then pm_Run d 11 226 [vA 74, vA b, vI l2, vI l3, vI l4, vI l5, vI l6, vI l7, vI s0, vI ((((l7 * 11) + (M 82 l7.toNat)) * 21) + s0), l10] [] (GF X, M, PTF v) K else pm_Run d 11 109 [vA 74, vA b, vI l2, vI l3, vI l4, vI l5, vI l6, vI l7, vI s0, vI ((((l7 * 11) + (M 82 l7.toNat)) * 21) + s0), l10] [] (GF X, M, PTF v) K := by
  refine (px_go (by decide +kernel : pm_fe 11 72 = some (.istore 8, 2)) rfl).trans ?_
  refine (px_go (by decide +kernel : pm_fe 11 74 = some (.iload 7, 2)) rfl).trans ?_
  refine (px_go (by decide +kernel : pm_fe 11 76 = some (.bipush 11, 2)) rfl).trans ?_
  refine (px_go (by decide +kernel : pm_fe 11 78 = some (.imul, 1)) rfl).trans ?_
  refine (px_go (by decide +kernel : pm_fe 11 79 = some (.aload_n 0, 1)) rfl).trans ?_
  refine (ry_get2 (idx := 31) (ci := 0) (k := 5) (by decide +kernel : 74 < 283 ∧ SHF 74 = (0, 17)) (ptf_l (a := 74) (k := 5) (n := 82) (by decide +kernel)) (by decide +kernel)).trans ?_
  refine (px_go (by decide +kernel : pm_fe 11 83 = some (.iload 7, 2)) rfl).trans ?_
  refine (ry_iald (by decide +kernel : 82 < 283 ∧ SHF 82 = (100, 3)) h1 h2 (by decide +kernel)).trans ?_
  refine (px_go (by decide +kernel : pm_fe 11 86 = some (.iadd, 1)) rfl).trans ?_
  refine (px_go (by decide +kernel : pm_fe 11 87 = some (.bipush 21, 2)) rfl).trans ?_
  refine (px_go (by decide +kernel : pm_fe 11 89 = some (.imul, 1)) rfl).trans ?_
  refine (px_go (by decide +kernel : pm_fe 11 90 = some (.iload 8, 2)) rfl).trans ?_
  refine (px_go (by decide +kernel : pm_fe 11 92 = some (.iadd, 1)) rfl).trans ?_
  refine (px_go (by decide +kernel : pm_fe 11 93 = some (.istore 9, 2)) rfl).trans ?_
  refine (px_go (by decide +kernel : pm_fe 11 95 = some (.aload_n 0, 1)) rfl).trans ?_
  refine (ry_get2 (idx := 25) (ci := 0) (k := 3) (by decide +kernel : 74 < 283 ∧ SHF 74 = (0, 17)) (ptf_l (a := 74) (k := 3) (n := 80) (by decide +kernel)) (by decide +kernel)).trans ?_
  refine (px_go (by decide +kernel : pm_fe 11 99 = some (.iload 9, 2)) rfl).trans ?_
  refine (ry_iald (by decide +kernel : 80 < 283 ∧ SHF 80 = (100, 693)) h3 h4 (by decide +kernel)).trans ?_
  refine (px_go (by decide +kernel : pm_fe 11 102 = some (.aload_n 0, 1)) rfl).trans ?_
  refine (ry_get0 (idx := 126) (ci := 0) (k := 10) (by decide +kernel : 74 < 283 ∧ SHF 74 = (0, 17)) (by decide +kernel)).trans ?_
  refine (ry_ic_eq (off := 120) (tgt := 226) h5 h6 (by decide +kernel)).trans ?_
  exact Iff.rfl
theorem r11_109 {d : Nat} {b c : Nat} {X : Nat × (Nat → Int)} {v : Nat → Int} {M : PH} {K : PV → PS → Prop} {l2 l3 l4 l5 l6 l7 l8 l9 : Int} {l10 : PV} (hc : isCh c) (hv3 : v 3 = ((c : Nat) : Int)) (h1 : 0 ≤ l7) (h2 : l7 < 3) : pm_Run d 11 109 [vA 74, vA b, vI l2, vI l3, vI l4, vI l5, vI l6, vI l7, vI l8, vI l9, l10] [] (GF X, M, PTF v) K ↔ pm_Call d 114 [vA 75, vA c, vA b, vI l7, vI ((M 81 l7.toNat) + (M 82 l7.toNat)), vI (((((M 81 0) + (M 81 1)) + (M 81 2)) - (M 81 l7.toNat)) + l8)] (GF X, M, PTF v) (fun r9 S1 => pm_Run d 11 173 [vA 74, vA b, vI l2, vI l3, vI l4, vI l5, vI l6, vI l7, vI l8, vI l9, vI (((((M 81 0) + (M 81 1)) + (M 81 2)) - (M 81 l7.toNat)) + l8)] (pm_push r9 []) S1 K) := by
  refine (px_go (by decide +kernel : pm_fe 11 109 = some (.aload_n 0, 1)) rfl).trans ?_
  refine (ry_get2 (idx := 28) (ci := 0) (k := 4) (by decide +kernel : 74 < 283 ∧ SHF 74 = (0, 17)) (ptf_l (a := 74) (k := 4) (n := 81) (by decide +kernel)) (by decide +kernel)).trans ?_
  refine (px_go (by decide +kernel : pm_fe 11 113 = some (.iconst 0, 1)) rfl).trans ?_
  refine (ry_iald (by decide +kernel : 81 < 283 ∧ SHF 81 = (100, 3)) (by decide : (0 : Int) ≤ (0 : Int)) (by decide : (0 : Int) < (3 : Int)) (by decide +kernel)).trans ?_
  refine (px_go (by decide +kernel : pm_fe 11 115 = some (.aload_n 0, 1)) rfl).trans ?_
  refine (ry_get2 (idx := 28) (ci := 0) (k := 4) (by decide +kernel : 74 < 283 ∧ SHF 74 = (0, 17)) (ptf_l (a := 74) (k := 4) (n := 81) (by decide +kernel)) (by decide +kernel)).trans ?_
  refine (px_go (by decide +kernel : pm_fe 11 119 = some (.iconst 1, 1)) rfl).trans ?_
  refine (ry_iald (by decide +kernel : 81 < 283 ∧ SHF 81 = (100, 3)) (by decide : (0 : Int) ≤ (1 : Int)) (by decide : (1 : Int) < (3 : Int)) (by decide +kernel)).trans ?_
  refine (px_go (by decide +kernel : pm_fe 11 121 = some (.iadd, 1)) rfl).trans ?_
  refine (px_go (by decide +kernel : pm_fe 11 122 = some (.aload_n 0, 1)) rfl).trans ?_
  refine (ry_get2 (idx := 28) (ci := 0) (k := 4) (by decide +kernel : 74 < 283 ∧ SHF 74 = (0, 17)) (ptf_l (a := 74) (k := 4) (n := 81) (by decide +kernel)) (by decide +kernel)).trans ?_
  refine (px_go (by decide +kernel : pm_fe 11 126 = some (.iconst 2, 1)) rfl).trans ?_
  refine (ry_iald (by decide +kernel : 81 < 283 ∧ SHF 81 = (100, 3)) (by decide : (0 : Int) ≤ (2 : Int)) (by decide : (2 : Int) < (3 : Int)) (by decide +kernel)).trans ?_
  refine (px_go (by decide +kernel : pm_fe 11 128 = some (.iadd, 1)) rfl).trans ?_
  refine (px_go (by decide +kernel : pm_fe 11 129 = some (.aload_n 0, 1)) rfl).trans ?_
  refine (ry_get2 (idx := 28) (ci := 0) (k := 4) (by decide +kernel : 74 < 283 ∧ SHF 74 = (0, 17)) (ptf_l (a := 74) (k := 4) (n := 81) (by decide +kernel)) (by decide +kernel)).trans ?_
  refine (px_go (by decide +kernel : pm_fe 11 133 = some (.iload 7, 2)) rfl).trans ?_
  refine (ry_iald (by decide +kernel : 81 < 283 ∧ SHF 81 = (100, 3)) h1 h2 (by decide +kernel)).trans ?_
  refine (px_go (by decide +kernel : pm_fe 11 136 = some (.isub, 1)) rfl).trans ?_
  refine (px_go (by decide +kernel : pm_fe 11 137 = some (.iload 8, 2)) rfl).trans ?_
  refine (px_go (by decide +kernel : pm_fe 11 139 = some (.iadd, 1)) rfl).trans ?_
  refine (px_go (by decide +kernel : pm_fe 11 140 = some (.istore 10, 2)) rfl).trans ?_
  refine (px_go (by decide +kernel : pm_fe 11 142 = some (.aload_n 0, 1)) rfl).trans ?_
  refine (ry_get2 (idx := 14) (ci := 0) (k := 0) (by decide +kernel : 74 < 283 ∧ SHF 74 = (0, 17)) (ptf_l (a := 74) (k := 0) (n := 75) (by decide +kernel)) (by decide +kernel)).trans ?_
  refine (px_go (by decide +kernel : pm_fe 11 146 = some (.aload_n 0, 1)) rfl).trans ?_
  refine (ry_get2 (idx := 54) (ci := 0) (k := 8) (by decide +kernel : 74 < 283 ∧ SHF 74 = (0, 17)) (ptd3 hv3) (by decide +kernel)).trans ?_
  refine (px_go (by decide +kernel : pm_fe 11 150 = some (.aload_n 1, 1)) rfl).trans ?_
  refine (px_go (by decide +kernel : pm_fe 11 151 = some (.iload 7, 2)) rfl).trans ?_
  refine (px_go (by decide +kernel : pm_fe 11 153 = some (.aload_n 0, 1)) rfl).trans ?_
  refine (ry_get2 (idx := 28) (ci := 0) (k := 4) (by decide +kernel : 74 < 283 ∧ SHF 74 = (0, 17)) (ptf_l (a := 74) (k := 4) (n := 81) (by decide +kernel)) (by decide +kernel)).trans ?_
  refine (px_go (by decide +kernel : pm_fe 11 157 = some (.iload 7, 2)) rfl).trans ?_
  refine (ry_iald (by decide +kernel : 81 < 283 ∧ SHF 81 = (100, 3)) h1 h2 (by decide +kernel)).trans ?_
  refine (px_go (by decide +kernel : pm_fe 11 160 = some (.aload_n 0, 1)) rfl).trans ?_
  refine (ry_get2 (idx := 31) (ci := 0) (k := 5) (by decide +kernel : 74 < 283 ∧ SHF 74 = (0, 17)) (ptf_l (a := 74) (k := 5) (n := 82) (by decide +kernel)) (by decide +kernel)).trans ?_
  refine (px_go (by decide +kernel : pm_fe 11 164 = some (.iload 7, 2)) rfl).trans ?_
  refine (ry_iald (by decide +kernel : 82 < 283 ∧ SHF 82 = (100, 3)) h1 h2 (by decide +kernel)).trans ?_
  refine (px_go (by decide +kernel : pm_fe 11 167 = some (.iadd, 1)) rfl).trans ?_
  refine (px_go (by decide +kernel : pm_fe 11 168 = some (.iload 10, 2)) rfl).trans ?_
  refine (ry_v5 (idx := 151) (m' := 114) (ci := 9) (by decide +kernel : 75 < 283 ∧ SHF 75 = (9, 2)) (by simp [pm_wl_n, pm_wl_c, pm_w] : pm_wl [] ≤ 8) (by decide +kernel)).trans ?_
  exact Iff.rfl
theorem r11_173 {d : Nat} {b : Nat} {X : Nat × (Nat → Int)} {v : Nat → Int} {M : PH} {K : PV → PS → Prop} {l10 l2 l3 l4 l5 l6 l7 l8 l9 : Int} (h1 : 0 ≤ ((l7 * 24) + l3)) (h2 : ((l7 * 24) + l3) < 72) (h3 : 0 ≤ l9) (h4 : l9 < 693) : pm_Run d 11 173 [vA 74, vA b, vI l2, vI l3, vI l4, vI l5, vI l6, vI l7, vI l8, vI l9, vI l10] [] (GF X, M, PTF v) K ↔ pm_Run d 11 195 [vA 74, vA b, vI l2, vI l3, vI l4, vI l5, vI l6, vI l7, vI l8, vI l9, vI l10] [] (GF X, pm_sa M 78 (pm_up (M 78) l9.toNat (M 76 ((l7 * 24) + l3).toNat)), PTF v) K := by
  refine (px_go (by decide +kernel : pm_fe 11 173 = some (.aload_n 0, 1)) rfl).trans ?_
  refine (ry_get2 (idx := 18) (ci := 0) (k := 1) (by decide +kernel : 74 < 283 ∧ SHF 74 = (0, 17)) (ptf_l (a := 74) (k := 1) (n := 78) (by decide +kernel)) (by decide +kernel)).trans ?_
  refine (px_go (by decide +kernel : pm_fe 11 177 = some (.iload 9, 2)) rfl).trans ?_
  refine (px_go (by decide +kernel : pm_fe 11 179 = some (.aload_n 0, 1)) rfl).trans ?_
  refine (ry_get2 (idx := 14) (ci := 0) (k := 0) (by decide +kernel : 74 < 283 ∧ SHF 74 = (0, 17)) (ptf_l (a := 74) (k := 0) (n := 75) (by decide +kernel)) (by decide +kernel)).trans ?_
  refine (ry_get2 (idx := 155) (ci := 9) (k := 0) (by decide +kernel : 75 < 283 ∧ SHF 75 = (9, 2)) (ptf_l (a := 75) (k := 0) (n := 76) (by decide +kernel)) (by decide +kernel)).trans ?_
  refine (px_go (by decide +kernel : pm_fe 11 186 = some (.iload 7, 2)) rfl).trans ?_
  refine (px_go (by decide +kernel : pm_fe 11 188 = some (.bipush 24, 2)) rfl).trans ?_
  refine (px_go (by decide +kernel : pm_fe 11 190 = some (.imul, 1)) rfl).trans ?_
  refine (px_go (by decide +kernel : pm_fe 11 191 = some (.iload_n 3, 1)) rfl).trans ?_
  refine (px_go (by decide +kernel : pm_fe 11 192 = some (.iadd, 1)) rfl).trans ?_
  refine (ry_iald (by decide +kernel : 76 < 283 ∧ SHF 76 = (100, 72)) h1 h2 (by decide +kernel)).trans ?_
  refine (ry_iast (by decide +kernel : 78 < 283 ∧ SHF 78 = (100, 693)) h3 h4 (by decide +kernel)).trans ?_
  exact Iff.rfl
theorem r11_195 {d : Nat} {b c : Nat} {X : Nat × (Nat → Int)} {v : Nat → Int} {M : PH} {K : PV → PS → Prop} {l10 l2 l3 l4 l5 l6 l7 l8 l9 : Int} (hc : isCh c) (hv3 : v 3 = ((c : Nat) : Int)) : pm_Run d 11 195 [vA 74, vA b, vI l2, vI l3, vI l4, vI l5, vI l6, vI l7, vI l8, vI l9, vI l10] [] (GF X, M, PTF v) K ↔ pm_Call d 115 [vA 75, vA c, vI l7] (GF X, M, PTF v) (fun r9 S1 => pm_Run d 11 214 [vA 74, vA b, vI l2, vI l3, vI l4, vI l5, vI l6, vI l7, vI l8, vI l9, vI l10] (pm_push r9 [vI l9, vA 79]) S1 K) := by
  refine (px_go (by decide +kernel : pm_fe 11 195 = some (.aload_n 0, 1)) rfl).trans ?_
  refine (ry_get2 (idx := 22) (ci := 0) (k := 2) (by decide +kernel : 74 < 283 ∧ SHF 74 = (0, 17)) (ptf_l (a := 74) (k := 2) (n := 79) (by decide +kernel)) (by decide +kernel)).trans ?_
  refine (px_go (by decide +kernel : pm_fe 11 199 = some (.iload 9, 2)) rfl).trans ?_
  refine (px_go (by decide +kernel : pm_fe 11 201 = some (.aload_n 0, 1)) rfl).trans ?_
  refine (ry_get2 (idx := 14) (ci := 0) (k := 0) (by decide +kernel : 74 < 283 ∧ SHF 74 = (0, 17)) (ptf_l (a := 74) (k := 0) (n := 75) (by decide +kernel)) (by decide +kernel)).trans ?_
  refine (px_go (by decide +kernel : pm_fe 11 205 = some (.aload_n 0, 1)) rfl).trans ?_
  refine (ry_get2 (idx := 54) (ci := 0) (k := 8) (by decide +kernel : 74 < 283 ∧ SHF 74 = (0, 17)) (ptd3 hv3) (by decide +kernel)).trans ?_
  refine (px_go (by decide +kernel : pm_fe 11 209 = some (.iload 7, 2)) rfl).trans ?_
  refine (ry_v2 (idx := 158) (m' := 115) (ci := 9) (by decide +kernel : 75 < 283 ∧ SHF 75 = (9, 2)) (by simp [pm_wl_n, pm_wl_c, pm_w] : pm_wl [vI l9, vA 79] ≤ 8) (by decide +kernel)).trans ?_
  exact Iff.rfl
theorem r11_214 {d : Nat} {b : Nat} {X : Nat × (Nat → Int)} {v : Nat → Int} {M : PH} {K : PV → PS → Prop} {l10 l2 l3 l4 l5 l6 l7 l8 l9 s0 s1 : Int} (h1 : 0 ≤ s1) (h2 : s1 < 693) : pm_Run d 11 214 [vA 74, vA b, vI l2, vI l3, vI l4, vI l5, vI l6, vI l7, vI l8, vI l9, vI l10] [vI s0, vI s1, vA 79] (GF X, M, PTF v) K ↔ pm_Run d 11 215 [vA 74, vA b, vI l2, vI l3, vI l4, vI l5, vI l6, vI l7, vI l8, vI l9, vI l10] [] (GF X, pm_sa M 79 (pm_up (M 79) s1.toNat s0), PTF v) K := by
  refine (ry_iast (by decide +kernel : 79 < 283 ∧ SHF 79 = (100, 693)) h1 h2 (by decide +kernel)).trans ?_
  exact Iff.rfl
theorem r11_215 {d : Nat} {b : Nat} {X : Nat × (Nat → Int)} {v : Nat → Int} {M : PH} {K : PV → PS → Prop} {l10 l2 l3 l4 l5 l6 l7 l8 l9 : Int} (h1 : 0 ≤ l9) (h2 : l9 < 693) : pm_Run d 11 215 [vA 74, vA b, vI l2, vI l3, vI l4, vI l5, vI l6, vI l7, vI l8, vI l9, vI l10] [] (GF X, M, PTF v) K ↔ pm_Run d 11 226 [vA 74, vA b, vI l2, vI l3, vI l4, vI l5, vI l6, vI l7, vI l8, vI l9, vI l10] [] (GF X, pm_sa M 80 (pm_up (M 80) l9.toNat (M 74 10)), PTF v) K := by
  refine (px_go (by decide +kernel : pm_fe 11 215 = some (.aload_n 0, 1)) rfl).trans ?_
  refine (ry_get2 (idx := 25) (ci := 0) (k := 3) (by decide +kernel : 74 < 283 ∧ SHF 74 = (0, 17)) (ptf_l (a := 74) (k := 3) (n := 80) (by decide +kernel)) (by decide +kernel)).trans ?_
  refine (px_go (by decide +kernel : pm_fe 11 219 = some (.iload 9, 2)) rfl).trans ?_
  refine (px_go (by decide +kernel : pm_fe 11 221 = some (.aload_n 0, 1)) rfl).trans ?_
  refine (ry_get0 (idx := 126) (ci := 0) (k := 10) (by decide +kernel : 74 < 283 ∧ SHF 74 = (0, 17)) (by decide +kernel)).trans ?_
  refine (ry_iast (by decide +kernel : 80 < 283 ∧ SHF 80 = (100, 693)) h1 h2 (by decide +kernel)).trans ?_
  exact Iff.rfl
theorem r11_226 {d : Nat} {b : Nat} {X : Nat × (Nat → Int)} {v : Nat → Int} {M : PH} {K : PV → PS → Prop} {l2 l3 l4 l5 l6 l7 l8 l9 : Int} {l10 : PV} (h1 : 0 ≤ l9) (h2 : l9 < 693) : pm_Run d 11 226 [vA 74, vA b, vI l2, vI l3, vI l4, vI l5, vI l6, vI l7, vI l8, vI l9, l10] [] (GF X, M, PTF v) K ↔ pm_Run d 11 42 [vA 74, vA b, vI l2, vI l3, vI (l4 + (M 78 l9.toNat)), vI (l5 + (M 79 l9.toNat)), vI l6, vI (l7 + 1), vI l8, vI l9, l10] [] (GF X, M, PTF v) K := by
  refine (px_go (by decide +kernel : pm_fe 11 226 = some (.iload 4, 2)) rfl).trans ?_
  refine (px_go (by decide +kernel : pm_fe 11 228 = some (.aload_n 0, 1)) rfl).trans ?_
  refine (ry_get2 (idx := 18) (ci := 0) (k := 1) (by decide +kernel : 74 < 283 ∧ SHF 74 = (0, 17)) (ptf_l (a := 74) (k := 1) (n := 78) (by decide +kernel)) (by decide +kernel)).trans ?_
  refine (px_go (by decide +kernel : pm_fe 11 232 = some (.iload 9, 2)) rfl).trans ?_
  refine (ry_iald (by decide +kernel : 78 < 283 ∧ SHF 78 = (100, 693)) h1 h2 (by decide +kernel)).trans ?_
  refine (px_go (by decide +kernel : pm_fe 11 235 = some (.iadd, 1)) rfl).trans ?_
  refine (px_go (by decide +kernel : pm_fe 11 236 = some (.istore 4, 2)) rfl).trans ?_
  refine (px_go (by decide +kernel : pm_fe 11 238 = some (.iload 5, 2)) rfl).trans ?_
  refine (px_go (by decide +kernel : pm_fe 11 240 = some (.aload_n 0, 1)) rfl).trans ?_
  refine (ry_get2 (idx := 22) (ci := 0) (k := 2) (by decide +kernel : 74 < 283 ∧ SHF 74 = (0, 17)) (ptf_l (a := 74) (k := 2) (n := 79) (by decide +kernel)) (by decide +kernel)).trans ?_
  refine (px_go (by decide +kernel : pm_fe 11 244 = some (.iload 9, 2)) rfl).trans ?_
  refine (ry_iald (by decide +kernel : 79 < 283 ∧ SHF 79 = (100, 693)) h1 h2 (by decide +kernel)).trans ?_
  refine (px_go (by decide +kernel : pm_fe 11 247 = some (.iadd, 1)) rfl).trans ?_
  refine (px_go (by decide +kernel : pm_fe 11 248 = some (.istore 5, 2)) rfl).trans ?_
  refine (px_go (by decide +kernel : pm_fe 11 250 = some (.iinc 7 1, 3)) rfl).trans ?_
  refine (px_goto (off := (-211)) (tgt := 42) (by decide +kernel)).trans ?_
  exact Iff.rfl
theorem r11_256 {d : Nat} {b c : Nat} {X : Nat × (Nat → Int)} {v : Nat → Int} {M : PH} {K : PV → PS → Prop} {l2 l3 l4 l5 l6 l7 : Int} {l8 l9 l10 : PV} (hc : isCh c) (hv3 : v 3 = ((c : Nat) : Int)) : pm_Run d 11 256 [vA 74, vA b, vI l2, vI l3, vI l4, vI l5, vI l6, vI l7, l8, l9, l10] [] (GF X, M, PTF v) K ↔ pm_Call d 117 [vA c, vI l3, vI l4, vI l5] (GF X, M, PTF v) (fun r9 S1 => pm_Run d 11 268 [vA 74, vA b, vI l2, vI l3, vI l4, vI l5, vI l6, vI l7, l8, l9, l10] (pm_push r9 []) S1 K) := by
  refine (px_go (by decide +kernel : pm_fe 11 256 = some (.aload_n 0, 1)) rfl).trans ?_
  refine (ry_get2 (idx := 54) (ci := 0) (k := 8) (by decide +kernel : 74 < 283 ∧ SHF 74 = (0, 17)) (ptd3 hv3) (by decide +kernel)).trans ?_
  refine (px_go (by decide +kernel : pm_fe 11 260 = some (.iload_n 3, 1)) rfl).trans ?_
  refine (px_go (by decide +kernel : pm_fe 11 261 = some (.iload 4, 2)) rfl).trans ?_
  refine (px_go (by decide +kernel : pm_fe 11 263 = some (.iload 5, 2)) rfl).trans ?_
  refine (px_s4 (idx := 162) (m' := 117) (nest := 0) (by decide +kernel)).trans ((and_iff_right (by simp [pm_wl_n, pm_wl_c, pm_w] : pm_wl [] ≤ 8)).trans ?_)
  exact Iff.rfl
theorem r11_268 {d : Nat} {b : Nat} {X : Nat × (Nat → Int)} {v : Nat → Int} {M : PH} {K : PV → PS → Prop} {l2 l3 l4 l5 l6 l7 s0 : Int} {l8 l9 l10 : PV} : pm_Run d 11 268 [vA 74, vA b, vI l2, vI l3, vI l4, vI l5, vI l6, vI l7, l8, l9, l10] [vI s0] (GF X, M, PTF v) K ↔ K (vI s0) (GF X, M, PTF v) := by
  refine (px_ri (by decide +kernel)).trans ?_
  exact Iff.rfl
