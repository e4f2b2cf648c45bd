-- X2_begin begin(LMoonTender$Chart;)V
-- X2_reaches reaches(I)Z
theorem r24_0 {d : Nat} {c : Nat} {X : Nat × (Nat → Int)} {v : Nat → Int} {M : PH} {K : PV → PS → Prop} {l1 : Int} (hc : isCh c) (hv2 : v 2 = ((c : Nat) : Int)) (h1 : inR (M c 0)) : pm_Run d 24 0 [vA 60, vI l1] [] (GF X, M, PTF v) K ↔ if M c 0 ≤ 0 then pm_Run d 24 26 [vA 60, vI l1] [] (GF X, M, PTF v) K else pm_Run d 24 10 [vA 60, vI l1] [] (GF X, M, PTF v) K := by
  refine (px_go (by decide +kernel : pm_fe 24 0 = some (.aload_n 0, 1)) rfl).trans ?_
  refine (ry_get2 (idx := 51) (ci := 2) (k := 7) (by decide +kernel : 60 < 283 ∧ SHF 60 = (2, 13)) (ptd2 hv2) (by decide +kernel)).trans ?_
  refine (ry_get0 (idx := 70) (ci := 1) (k := 0) (chs0 hc) (by decide +kernel)).trans ?_
  refine (ry_if_le (off := 19) (tgt := 26) h1 (by decide +kernel)).trans ?_
  exact Iff.rfl
theorem r24_10 {d : Nat} {X : Nat × (Nat → Int)} {v : Nat → Int} {M : PH} {K : PV → PS → Prop} {l1 : Int} (h1 : inR l1) : pm_Run d 24 10 [vA 60, vI l1] [] (GF X, M, PTF v) K ↔ if l1 < 0 then pm_Run d 24 26 [vA 60, vI l1] [] (GF X, M, PTF v) K else pm_Run d 24 14 [vA 60, vI l1] [] (GF X, M, PTF v) K := by
  refine (px_go (by decide +kernel : pm_fe 24 10 = some (.iload_n 1, 1)) rfl).trans ?_
  refine (ry_if_lt (off := 15) (tgt := 26) h1 (by decide +kernel)).trans ?_
  exact Iff.rfl
theorem r24_14 {d : Nat} {X : Nat × (Nat → Int)} {v : Nat → Int} {M : PH} {K : PV → PS → Prop} {l1 : Int} (h1 : inR l1) (h2 : inR (M 60 8)) : pm_Run d 24 14 [vA 60, vI l1] [] (GF X, M, PTF v) K ↔ if M 60 8 < l1 then pm_Run d 24 26 [vA 60, vI l1] [] (GF X, M, PTF v) K else pm_Run d 24 22 [vA 60, vI l1] [] (GF X, M, PTF v) K := by
  refine (px_go (by decide +kernel : pm_fe 24 14 = some (.iload_n 1, 1)) rfl).trans ?_
  refine (px_go (by decide +kernel : pm_fe 24 15 = some (.aload_n 0, 1)) rfl).trans ?_
  refine (ry_get0 (idx := 38) (ci := 2) (k := 8) (by decide +kernel : 60 < 283 ∧ SHF 60 = (2, 13)) (by decide +kernel)).trans ?_
  refine (ry_ic_gt (off := 7) (tgt := 26) h1 h2 (by decide +kernel)).trans ?_
  exact Iff.rfl
theorem r24_22 {d : Nat} {X : Nat × (Nat → Int)} {v : Nat → Int} {M : PH} {K : PV → PS → Prop} {l1 : Int} : pm_Run d 24 22 [vA 60, vI l1] [] (GF X, M, PTF v) K ↔ pm_Run d 24 27 [vA 60, vI l1] [vI 1] (GF X, M, PTF v) K := by
  refine (px_go (by decide +kernel : pm_fe 24 22 = some (.iconst 1, 1)) rfl).trans ?_
  refine (px_goto (off := 4) (tgt := 27) (by decide +kernel)).trans ?_
  exact Iff.rfl
theorem r24_26 {d : Nat} {X : Nat × (Nat → Int)} {v : Nat → Int} {M : PH} {K : PV → PS → Prop} {l1 : Int} : pm_Run d 24 26 [vA 60, vI l1] [] (GF X, M, PTF v) K ↔ pm_Run d 24 27 [vA 60, vI l1] [vI 0] (GF X, M, PTF v) K := by
  refine (px_go (by decide +kernel : pm_fe 24 26 = some (.iconst 0, 1)) rfl).trans ?_
  exact Iff.rfl
theorem r24_27 {d : Nat} {X : Nat × (Nat → Int)} {v : Nat → Int} {M : PH} {K : PV → PS → Prop} {l1 s0 : Int} (h1 : s0 = 0 ∨ s0 = 1) : pm_Run d 24 27 [vA 60, vI l1] [vI s0] (GF X, M, PTF v) K ↔ K (vI s0) (GF X, M, PTF v) := by
  refine (px_rz (by decide +kernel)).trans ((and_iff_right h1).trans ?_)
  exact Iff.rfl
-- X2_learn learn(I)V
theorem r25_0 {d : Nat} {X : Nat × (Nat → Int)} {v : Nat → Int} {M : PH} {K : PV → PS → Prop} {l1 : Int} (h1 : inR l1) (h2 : inR (M 60 8)) : pm_Run d 25 0 [vA 60, vI l1, PU, PU] [] (GF X, M, PTF v) K ↔ pm_Run d 25 14 [vA 60, vI l1, vI (min l1 (M 60 8)), vI (M 60 9)] [] (GF X, M, PTF v) K := by
  refine (px_go (by decide +kernel : pm_fe 25 0 = some (.iload_n 1, 1)) rfl).trans ?_
  refine (px_go (by decide +kernel : pm_fe 25 1 = some (.aload_n 0, 1)) rfl).trans ?_
  refine (ry_get0 (idx := 38) (ci := 2) (k := 8) (by decide +kernel : 60 < 283 ∧ SHF 60 = (2, 13)) (by decide +kernel)).trans ?_
  refine (ry_mn (idx := 61) h1 h2 (by simp [pm_wl_n, pm_wl_c, pm_w] : pm_wl [] ≤ 8) (by decide +kernel)).trans ?_
  refine (px_go (by decide +kernel : pm_fe 25 8 = some (.istore_n 2, 1)) rfl).trans ?_
  refine (px_go (by decide +kernel : pm_fe 25 9 = some (.aload_n 0, 1)) rfl).trans ?_
  refine (ry_get0 (idx := 67) (ci := 2) (k := 9) (by decide +kernel : 60 < 283 ∧ SHF 60 = (2, 13)) (by decide +kernel)).trans ?_
  refine (px_go (by decide +kernel : pm_fe 25 13 = some (.istore_n 3, 1)) rfl).trans ?_
  exact Iff.rfl
theorem r25_14 {d : Nat} {X : Nat × (Nat → Int)} {v : Nat → Int} {M : PH} {K : PV → PS → Prop} {l1 l2 l3 : Int} (h1 : inR l3) (h2 : inR l2) : pm_Run d 25 14 [vA 60, vI l1, vI l2, vI l3] [] (GF X, M, PTF v) K ↔ if l2 < l3 then pm_Run d 25 85 [vA 60, vI l1, vI l2, vI l3] [] (GF X, M, PTF v) K else pm_Run d 25 19 [vA 60, vI l1, vI l2, vI l3] [] (GF X, M, PTF v) K := by
  refine (px_go (by decide +kernel : pm_fe 25 14 = some (.iload_n 3, 1)) rfl).trans ?_
  refine (px_go (by decide +kernel : pm_fe 25 15 = some (.iload_n 2, 1)) rfl).trans ?_
  refine (ry_ic_gt (off := 69) (tgt := 85) h1 h2 (by decide +kernel)).trans ?_
  exact Iff.rfl
theorem r25_19 {d : Nat} {X : Nat × (Nat → Int)} {v : Nat → Int} {M : PH} {K : PV → PS → Prop} {l1 l2 l3 : Int} (h1 : inR l3) : pm_Run d 25 19 [vA 60, vI l1, vI l2, vI l3] [] (GF X, M, PTF v) K ↔ if l3 ≠ 0 then pm_Run d 25 37 [vA 60, vI l1, vI l2, vI l3] [] (GF X, M, PTF v) K else pm_Run d 25 23 [vA 60, vI l1, vI l2, vI l3] [] (GF X, M, PTF v) K := by
  refine (px_go (by decide +kernel : pm_fe 25 19 = some (.iload_n 3, 1)) rfl).trans ?_
  refine (ry_if_ne (off := 17) (tgt := 37) h1 (by decide +kernel)).trans ?_
  exact Iff.rfl
theorem r25_23 {d : Nat} {X : Nat × (Nat → Int)} {v : Nat → Int} {M : PH} {K : PV → PS → Prop} {l1 l2 l3 : Int} : pm_Run d 25 23 [vA 60, vI l1, vI l2, vI l3] [] (GF X, M, PTF v) K ↔ pm_Call d 56 [vA 64, vA 3] (GF X, M, PTF v) (fun r9 S1 => pm_Run d 25 34 [vA 60, vI l1, vI l2, vI l3] (pm_push r9 []) S1 K) := by
  refine (px_go (by decide +kernel : pm_fe 25 23 = some (.aload_n 0, 1)) rfl).trans ?_
  refine (ry_get2 (idx := 21) (ci := 2) (k := 1) (by decide +kernel : 60 < 283 ∧ SHF 60 = (2, 13)) (ptf_l (a := 60) (k := 1) (n := 64) (by decide +kernel)) (by decide +kernel)).trans ?_
  refine (px_go (by decide +kernel : pm_fe 25 27 = some (.aload_n 0, 1)) rfl).trans ?_
  refine (ry_get2 (idx := 55) (ci := 2) (k := 6) (by decide +kernel : 60 < 283 ∧ SHF 60 = (2, 13)) (ptf_l (a := 60) (k := 6) (n := 3) (by decide +kernel)) (by decide +kernel)).trans ?_
  refine (ry_v1 (idx := 75) (m' := 56) (ci := 5) (by decide +kernel : 64 < 283 ∧ SHF 64 = (5, 6)) (by simp [pm_wl_n, pm_wl_c, pm_w] : pm_wl [] ≤ 8) (by decide +kernel)).trans ?_
  exact Iff.rfl
theorem r25_34 {d : Nat} {X : Nat × (Nat → Int)} {v : Nat → Int} {M : PH} {K : PV → PS → Prop} {l1 l2 l3 : Int} : pm_Run d 25 34 [vA 60, vI l1, vI l2, vI l3] [] (GF X, M, PTF v) K ↔ pm_Run d 25 52 [vA 60, vI l1, vI l2, vI l3] [] (GF X, M, PTF v) K := by
  refine (px_goto (off := 18) (tgt := 52) (by decide +kernel)).trans ?_
  exact Iff.rfl
theorem r25_37 {d : Nat} {c : Nat} {X : Nat × (Nat → Int)} {v : Nat → Int} {M : PH} {K : PV → PS → Prop} {l1 l2 l3 : Int} (hc : isCh c) (hv2 : v 2 = ((c : Nat) : Int)) : pm_Run d 25 37 [vA 60, vI l1, vI l2, vI l3] [] (GF X, M, PTF v) K ↔ pm_Call d 122 [vA 61, vA c, vA 64] (GF X, M, PTF v) (fun r9 S1 => pm_Run d 25 52 [vA 60, vI l1, vI l2, vI l3] (pm_push r9 []) S1 K) := by
  refine (px_go (by decide +kernel : pm_fe 25 37 = some (.aload_n 0, 1)) rfl).trans ?_
  refine (ry_get2 (idx := 12) (ci := 2) (k := 0) (by decide +kernel : 60 < 283 ∧ SHF 60 = (2, 13)) (ptf_l (a := 60) (k := 0) (n := 61) (by decide +kernel)) (by decide +kernel)).trans ?_
  refine (px_go (by decide +kernel : pm_fe 25 41 = some (.aload_n 0, 1)) rfl).trans ?_
  refine (ry_get2 (idx := 51) (ci := 2) (k := 7) (by decide +kernel : 60 < 283 ∧ SHF 60 = (2, 13)) (ptd2 hv2) (by decide +kernel)).trans ?_
  refine (px_go (by decide +kernel : pm_fe 25 45 = some (.aload_n 0, 1)) rfl).trans ?_
  refine (ry_get2 (idx := 21) (ci := 2) (k := 1) (by decide +kernel : 60 < 283 ∧ SHF 60 = (2, 13)) (ptf_l (a := 60) (k := 1) (n := 64) (by decide +kernel)) (by decide +kernel)).trans ?_
  refine (ry_v2 (idx := 79) (m' := 122) (ci := 9) (by decide +kernel : 61 < 283 ∧ SHF 61 = (9, 2)) (by simp [pm_wl_n, pm_wl_c, pm_w] : pm_wl [] ≤ 8) (by decide +kernel)).trans ?_
  exact Iff.rfl
theorem r25_52 {d : Nat} {c : Nat} {X : Nat × (Nat → Int)} {v : Nat → Int} {M : PH} {K : PV → PS → Prop} {l1 l2 l3 : Int} (hc : isCh c) (hv2 : v 2 = ((c : Nat) : Int)) : pm_Run d 25 52 [vA 60, vI l1, vI l2, vI l3] [] (GF X, M, PTF v) K ↔ pm_Call d 113 [vA 61, vA c, vA 64] (GF X, M, PTF v) (fun r9 S1 => pm_Run d 25 67 [vA 60, vI l1, vI l2, vI l3] (pm_push r9 []) S1 K) := by
  refine (px_go (by decide +kernel : pm_fe 25 52 = some (.aload_n 0, 1)) rfl).trans ?_
  refine (ry_get2 (idx := 12) (ci := 2) (k := 0) (by decide +kernel : 60 < 283 ∧ SHF 60 = (2, 13)) (ptf_l (a := 60) (k := 0) (n := 61) (by decide +kernel)) (by decide +kernel)).trans ?_
  refine (px_go (by decide +kernel : pm_fe 25 56 = some (.aload_n 0, 1)) rfl).trans ?_
  refine (ry_get2 (idx := 51) (ci := 2) (k := 7) (by decide +kernel : 60 < 283 ∧ SHF 60 = (2, 13)) (ptd2 hv2) (by decide +kernel)).trans ?_
  refine (px_go (by decide +kernel : pm_fe 25 60 = some (.aload_n 0, 1)) rfl).trans ?_
  refine (ry_get2 (idx := 21) (ci := 2) (k := 1) (by decide +kernel : 60 < 283 ∧ SHF 60 = (2, 13)) (ptf_l (a := 60) (k := 1) (n := 64) (by decide +kernel)) (by decide +kernel)).trans ?_
  refine (ry_v2 (idx := 83) (m' := 113) (ci := 9) (by decide +kernel : 61 < 283 ∧ SHF 61 = (9, 2)) (by simp [pm_wl_n, pm_wl_c, pm_w] : pm_wl [] ≤ 8) (by decide +kernel)).trans ?_
  exact Iff.rfl
theorem r25_67 {d : Nat} {X : Nat × (Nat → Int)} {v : Nat → Int} {M : PH} {K : PV → PS → Prop} {l1 l2 l3 : Int} : pm_Run d 25 67 [vA 60, vI l1, vI l2, vI l3] [] (GF X, M, PTF v) K ↔ pm_Call d 38 [vA 60, vI l3] (GF X, M, PTF v) (fun r9 S1 => pm_Run d 25 72 [vA 60, vI l1, vI l2, vI l3] (pm_push r9 []) S1 K) := by
  refine (px_go (by decide +kernel : pm_fe 25 67 = some (.aload_n 0, 1)) rfl).trans ?_
  refine (px_go (by decide +kernel : pm_fe 25 68 = some (.iload_n 3, 1)) rfl).trans ?_
  refine (ry_v1 (idx := 86) (m' := 38) (ci := 2) (by decide +kernel : 60 < 283 ∧ SHF 60 = (2, 13)) (by simp [pm_wl_n, pm_wl_c, pm_w] : pm_wl [] ≤ 8) (by decide +kernel)).trans ?_
  exact Iff.rfl
theorem r25_72 {d : Nat} {X : Nat × (Nat → Int)} {v : Nat → Int} {M : PH} {K : PV → PS → Prop} {l1 l2 l3 : Int} : pm_Run d 25 72 [vA 60, vI l1, vI l2, vI l3] [] (GF X, M, PTF v) K ↔ pm_Run d 25 79 [vA 60, vI l1, vI l2, vI l3] [] (GF X, pm_sa M 60 (pm_up (M 60) 9 (l3 + 1)), PTF v) K := by
  refine (px_go (by decide +kernel : pm_fe 25 72 = some (.aload_n 0, 1)) rfl).trans ?_
  refine (px_go (by decide +kernel : pm_fe 25 73 = some (.iload_n 3, 1)) rfl).trans ?_
  refine (px_go (by decide +kernel : pm_fe 25 74 = some (.iconst 1, 1)) rfl).trans ?_
  refine (px_go (by decide +kernel : pm_fe 25 75 = some (.iadd, 1)) rfl).trans ?_
  refine (ry_put0 (idx := 67) (ci := 2) (k := 9) (by decide +kernel : 60 < 283 ∧ SHF 60 = (2, 13)) (by decide +kernel)).trans ?_
  exact Iff.rfl
theorem r25_79 {d : Nat} {X : Nat × (Nat → Int)} {v : Nat → Int} {M : PH} {K : PV → PS → Prop} {l1 l2 l3 : Int} : pm_Run d 25 79 [vA 60, vI l1, vI l2, vI l3] [] (GF X, M, PTF v) K ↔ pm_Run d 25 14 [vA 60, vI l1, vI l2, vI (l3 + 1)] [] (GF X, M, PTF v) K := by
  refine (px_go (by decide +kernel : pm_fe 25 79 = some (.iinc 3 1, 3)) rfl).trans ?_
  refine (px_goto (off := (-68)) (tgt := 14) (by decide +kernel)).trans ?_
  exact Iff.rfl
theorem r25_85 {d : Nat} {X : Nat × (Nat → Int)} {v : Nat → Int} {M : PH} {K : PV → PS → Prop} {l1 l2 l3 : Int} : pm_Run d 25 85 [vA 60, vI l1, vI l2, vI l3] [] (GF X, M, PTF v) K ↔ K PU (GF X, M, PTF v) := by
  refine (px_rv (by decide +kernel)).trans ?_
  exact Iff.rfl
-- X2_pullNow pullNow(II)I
theorem r26_0 {d : Nat} {X : Nat × (Nat → Int)} {v : Nat → Int} {M : PH} {K : PV → PS → Prop} {l1 l2 : Int} (h1 : 0 ≤ ((l1 * 24) + l2)) (h2 : ((l1 * 24) + l2) < 72) : pm_Run d 26 0 [vA 60, vI l1, vI l2] [] (GF X, M, PTF v) K ↔ K (vI (M 70 ((l1 * 24) + l2).toNat)) (GF X, M, PTF v) := by
  refine (px_go (by decide +kernel : pm_fe 26 0 = some (.aload_n 0, 1)) rfl).trans ?_
  refine (ry_get2 (idx := 25) (ci := 2) (k := 2) (by decide +kernel : 60 < 283 ∧ SHF 60 = (2, 13)) (ptf_l (a := 60) (k := 2) (n := 70) (by decide +kernel)) (by decide +kernel)).trans ?_
  refine (px_go (by decide +kernel : pm_fe 26 4 = some (.iload_n 1, 1)) rfl).trans ?_
  refine (px_go (by decide +kernel : pm_fe 26 5 = some (.bipush 24, 2)) rfl).trans ?_
  refine (px_go (by decide +kernel : pm_fe 26 7 = some (.imul, 1)) rfl).trans ?_
  refine (px_go (by decide +kernel : pm_fe 26 8 = some (.iload_n 2, 1)) rfl).trans ?_
  refine (px_go (by decide +kernel : pm_fe 26 9 = some (.iadd, 1)) rfl).trans ?_
  refine (ry_iald (by decide +kernel : 70 < 283 ∧ SHF 70 = (100, 72)) h1 h2 (by decide +kernel)).trans ?_
  refine (px_ri (by decide +kernel)).trans ?_
  exact Iff.rfl
-- X2_heightOf heightOf(II)I
theorem r27_0 {d : Nat} {X : Nat × (Nat → Int)} {v : Nat → Int} {M : PH} {K : PV → PS → Prop} {l1 l2 : Int} (h1 : 0 ≤ ((l2 * 24) + l1)) (h2 : ((l2 * 24) + l1) < 1176) : pm_Run d 27 0 [vA 60, vI l1, vI l2] [] (GF X, M, PTF v) K ↔ K (vI (M 71 ((l2 * 24) + l1).toNat)) (GF X, M, PTF v) := by
  refine (px_go (by decide +kernel : pm_fe 27 0 = some (.aload_n 0, 1)) rfl).trans ?_
  refine (ry_get2 (idx := 29) (ci := 2) (k := 3) (by decide +kernel : 60 < 283 ∧ SHF 60 = (2, 13)) (ptf_l (a := 60) (k := 3) (n := 71) (by decide +kernel)) (by decide +kernel)).trans ?_
  refine (px_go (by decide +kernel : pm_fe 27 4 = some (.iload_n 2, 1)) rfl).trans ?_
  refine (px_go (by decide +kernel : pm_fe 27 5 = some (.bipush 24, 2)) rfl).trans ?_
  refine (px_go (by decide +kernel : pm_fe 27 7 = some (.imul, 1)) rfl).trans ?_
  refine (px_go (by decide +kernel : pm_fe 27 8 = some (.iload_n 1, 1)) rfl).trans ?_
  refine (px_go (by decide +kernel : pm_fe 27 9 = some (.iadd, 1)) rfl).trans ?_
  refine (ry_iald (by decide +kernel : 71 < 283 ∧ SHF 71 = (100, 1176)) h1 h2 (by decide +kernel)).trans ?_
  refine (px_ri (by decide +kernel)).trans ?_
  exact Iff.rfl
-- X2_purseOf purseOf(II)I
theorem r28_0 {d : Nat} {X : Nat × (Nat → Int)} {v : Nat → Int} {M : PH} {K : PV → PS → Prop} {l1 l2 : Int} (h1 : 0 ≤ ((l2 * 8) + l1)) (h2 : ((l2 * 8) + l1) < 392) : pm_Run d 28 0 [vA 60, vI l1, vI l2] [] (GF X, M, PTF v) K ↔ K (vI (M 72 ((l2 * 8) + l1).toNat)) (GF X, M, PTF v) := by
  refine (px_go (by decide +kernel : pm_fe 28 0 = some (.aload_n 0, 1)) rfl).trans ?_
  refine (ry_get2 (idx := 32) (ci := 2) (k := 4) (by decide +kernel : 60 < 283 ∧ SHF 60 = (2, 13)) (ptf_l (a := 60) (k := 4) (n := 72) (by decide +kernel)) (by decide +kernel)).trans ?_
  refine (px_go (by decide +kernel : pm_fe 28 4 = some (.iload_n 2, 1)) rfl).trans ?_
  refine (px_go (by decide +kernel : pm_fe 28 5 = some (.bipush 8, 2)) rfl).trans ?_
  refine (px_go (by decide +kernel : pm_fe 28 7 = some (.imul, 1)) rfl).trans ?_
  refine (px_go (by decide +kernel : pm_fe 28 8 = some (.iload_n 1, 1)) rfl).trans ?_
  refine (px_go (by decide +kernel : pm_fe 28 9 = some (.iadd, 1)) rfl).trans ?_
  refine (ry_iald (by decide +kernel : 72 < 283 ∧ SHF 72 = (100, 392)) h1 h2 (by decide +kernel)).trans ?_
  refine (px_ri (by decide +kernel)).trans ?_
  exact Iff.rfl
-- X2_dueFrom dueFrom(II)I
theorem r29_0 {d : Nat} {X : Nat × (Nat → Int)} {v : Nat → Int} {M : PH} {K : PV → PS → Prop} {l1 l2 : Int} (h1 : 0 ≤ ((l2 * 8) + l1)) (h2 : ((l2 * 8) + l1) < 392) : pm_Run d 29 0 [vA 60, vI l1, vI l2] [] (GF X, M, PTF v) K ↔ K (vI (M 73 ((l2 * 8) + l1).toNat)) (GF X, M, PTF v) := by
  refine (px_go (by decide +kernel : pm_fe 29 0 = some (.aload_n 0, 1)) rfl).trans ?_
  refine (ry_get2 (idx := 35) (ci := 2) (k := 5) (by decide +kernel : 60 < 283 ∧ SHF 60 = (2, 13)) (ptf_l (a := 60) (k := 5) (n := 73) (by decide +kernel)) (by decide +kernel)).trans ?_
  refine (px_go (by decide +kernel : pm_fe 29 4 = some (.iload_n 2, 1)) rfl).trans ?_
  refine (px_go (by decide +kernel : pm_fe 29 5 = some (.bipush 8, 2)) rfl).trans ?_
  refine (px_go (by decide +kernel : pm_fe 29 7 = some (.imul, 1)) rfl).trans ?_
  refine (px_go (by decide +kernel : pm_fe 29 8 = some (.iload_n 1, 1)) rfl).trans ?_
  refine (px_go (by decide +kernel : pm_fe 29 9 = some (.iadd, 1)) rfl).trans ?_
  refine (ry_iald (by decide +kernel : 73 < 283 ∧ SHF 73 = (100, 392)) h1 h2 (by decide +kernel)).trans ?_
  refine (px_ri (by decide +kernel)).trans ?_
  exact Iff.rfl
-- X2_strands strands(II)Z
theorem r30_0 {d : Nat} {c : Nat} {X : Nat × (Nat → Int)} {v : Nat → Int} {M : PH} {K : PV → PS → Prop} {l1 l2 : Int} (hc : isCh c) (hv2 : v 2 = ((c : Nat) : Int)) (h1 : 0 ≤ l1) (h2 : l1 < 8) : pm_Run d 30 0 [vA 60, vI l1, vI l2] [] (GF X, M, PTF v) K ↔ pm_Call d 27 [vA 60, vI (M (c + 4) l1.toNat), vI l2] (GF X, M, PTF v) (fun r9 S1 => pm_Run d 30 14 [vA 60, vI l1, vI l2] (pm_push r9 []) S1 K) := by
  refine (px_go (by decide +kernel : pm_fe 30 0 = some (.aload_n 0, 1)) rfl).trans ?_
  refine (px_go (by decide +kernel : pm_fe 30 1 = some (.aload_n 0, 1)) rfl).trans ?_
  refine (ry_get2 (idx := 51) (ci := 2) (k := 7) (by decide +kernel : 60 < 283 ∧ SHF 60 = (2, 13)) (ptd2 hv2) (by decide +kernel)).trans ?_
  refine (ry_get2 (idx := 90) (ci := 1) (k := 11) (chs0 hc) (chp0_11 hc) (by decide +kernel)).trans ?_
  refine (px_go (by decide +kernel : pm_fe 30 8 = some (.iload_n 1, 1)) rfl).trans ?_
  refine (ry_iald (chs4 hc) h1 h2 (by decide +kernel)).trans ?_
  refine (px_go (by decide +kernel : pm_fe 30 10 = some (.iload_n 2, 1)) rfl).trans ?_
  refine (ry_v2 (idx := 93) (m' := 27) (ci := 2) (by decide +kernel : 60 < 283 ∧ SHF 60 = (2, 13)) (by simp [pm_wl_n, pm_wl_c, pm_w] : pm_wl [] ≤ 8) (by decide +kernel)).trans ?_
  exact Iff.rfl
theorem r30_14 {d : Nat} {c : Nat} {X : Nat × (Nat → Int)} {v : Nat → Int} {M : PH} {K : PV → PS → Prop} {l1 l2 s0 : Int} (hc : isCh c) (hv2 : v 2 = ((c : Nat) : Int)) (h1 : 0 ≤ l1) (h2 : l1 < 8) (h3 : inR s0) (h4 : inR (M (c + 5) l1.toNat)) : pm_Run d 30 14 [vA 60, vI l1, vI l2] [vI s0] (GF X, M, PTF v) K ↔ if M (c + 5) l1.toNat ≤ s0 then pm_Run d 30 30 [vA 60, vI l1, vI l2] [] (GF X, M, PTF v) K else pm_Run d 30 26 [vA 60, vI l1, vI l2] [] (GF X, M, PTF v) K := by
  refine (px_go (by decide +kernel : pm_fe 30 14 = some (.aload_n 0, 1)) rfl).trans ?_
  refine (ry_get2 (idx := 51) (ci := 2) (k := 7) (by decide +kernel : 60 < 283 ∧ SHF 60 = (2, 13)) (ptd2 hv2) (by decide +kernel)).trans ?_
  refine (ry_get2 (idx := 96) (ci := 1) (k := 12) (chs0 hc) (chp0_12 hc) (by decide +kernel)).trans ?_
  refine (px_go (by decide +kernel : pm_fe 30 21 = some (.iload_n 1, 1)) rfl).trans ?_
  refine (ry_iald (chs5 hc) h1 h2 (by decide +kernel)).trans ?_
  refine (ry_ic_ge (off := 7) (tgt := 30) h3 h4 (by decide +kernel)).trans ?_
  exact Iff.rfl
theorem r30_26 {d : Nat} {X : Nat × (Nat → Int)} {v : Nat → Int} {M : PH} {K : PV → PS → Prop} {l1 l2 : Int} : pm_Run d 30 26 [vA 60, vI l1, vI l2] [] (GF X, M, PTF v) K ↔ pm_Run d 30 31 [vA 60, vI l1, vI l2] [vI 1] (GF X, M, PTF v) K := by
  refine (px_go (by decide +kernel : pm_fe 30 26 = some (.iconst 1, 1)) rfl).trans ?_
  refine (px_goto (off := 4) (tgt := 31) (by decide +kernel)).trans ?_
  exact Iff.rfl
theorem r30_30 {d : Nat} {X : Nat × (Nat → Int)} {v : Nat → Int} {M : PH} {K : PV → PS → Prop} {l1 l2 : Int} : pm_Run d 30 30 [vA 60, vI l1, vI l2] [] (GF X, M, PTF v) K ↔ pm_Run d 30 31 [vA 60, vI l1, vI l2] [vI 0] (GF X, M, PTF v) K := by
  refine (px_go (by decide +kernel : pm_fe 30 30 = some (.iconst 0, 1)) rfl).trans ?_
  exact Iff.rfl
theorem r30_31 {d : Nat} {X : Nat × (Nat → Int)} {v : Nat → Int} {M : PH} {K : PV → PS → Prop} {l1 l2 s0 : Int} (h1 : s0 = 0 ∨ s0 = 1) : pm_Run d 30 31 [vA 60, vI l1, vI l2] [vI s0] (GF X, M, PTF v) K ↔ K (vI s0) (GF X, M, PTF v) := by
  refine (px_rz (by decide +kernel)).trans ((and_iff_right h1).trans ?_)
  exact Iff.rfl
-- X2_countStranded countStranded(I)I
theorem r31_0 {d : Nat} {X : Nat × (Nat → Int)} {v : Nat → Int} {M : PH} {K : PV → PS → Prop} {l1 : Int} : pm_Run d 31 0 [vA 60, vI l1, PU, PU] [] (GF X, M, PTF v) K ↔ pm_Run d 31 4 [vA 60, vI l1, vI 0, vI 0] [] (GF X, M, PTF v) K := by
  refine (px_go (by decide +kernel : pm_fe 31 0 = some (.iconst 0, 1)) rfl).trans ?_
  refine (px_go (by decide +kernel : pm_fe 31 1 = some (.istore_n 2, 1)) rfl).trans ?_
  refine (px_go (by decide +kernel : pm_fe 31 2 = some (.iconst 0, 1)) rfl).trans ?_
  refine (px_go (by decide +kernel : pm_fe 31 3 = some (.istore_n 3, 1)) rfl).trans ?_
  exact Iff.rfl
theorem r31_4 {d : Nat} {c : Nat} {X : Nat × (Nat → Int)} {v : Nat → Int} {M : PH} {K : PV → PS → Prop} {l1 l2 l3 : Int} (hc : isCh c) (hv2 : v 2 = ((c : Nat) : Int)) (h1 : inR l3) (h2 : inR (M c 2)) : pm_Run d 31 4 [vA 60, vI l1, vI l2, vI l3] [] (GF X, M, PTF v) K ↔ if M c 2 ≤ l3 then pm_Run d 31 33 [vA 60, vI l1, vI l2, vI l3] [] (GF X, M, PTF v) K else pm_Run d 31 15 [vA 60, vI l1, vI l2, vI l3] [] (GF X, M, PTF v) K := by
  refine (px_go (by decide +kernel : pm_fe 31 4 = some (.iload_n 3, 1)) rfl).trans ?_
  refine (px_go (by decide +kernel : pm_fe 31 5 = some (.aload_n 0, 1)) rfl).trans ?_
  refine (ry_get2 (idx := 51) (ci := 2) (k := 7) (by decide +kernel : 60 < 283 ∧ SHF 60 = (2, 13)) (ptd2 hv2) (by decide +kernel)).trans ?_
  refine (ry_get0 (idx := 99) (ci := 1) (k := 2) (chs0 hc) (by decide +kernel)).trans ?_
  refine (ry_ic_ge (off := 21) (tgt := 33) h1 h2 (by decide +kernel)).trans ?_
  exact Iff.rfl
theorem r31_15 {d : Nat} {X : Nat × (Nat → Int)} {v : Nat → Int} {M : PH} {K : PV → PS → Prop} {l1 l2 l3 : Int} : pm_Run d 31 15 [vA 60, vI l1, vI l2, vI l3] [] (GF X, M, PTF v) K ↔ pm_Call d 30 [vA 60, vI l3, vI l1] (GF X, M, PTF v) (fun r9 S1 => pm_Run d 31 21 [vA 60, vI l1, vI l2, vI l3] (pm_push r9 []) S1 K) := by
  refine (px_go (by decide +kernel : pm_fe 31 15 = some (.aload_n 0, 1)) rfl).trans ?_
  refine (px_go (by decide +kernel : pm_fe 31 16 = some (.iload_n 3, 1)) rfl).trans ?_
  refine (px_go (by decide +kernel : pm_fe 31 17 = some (.iload_n 1, 1)) rfl).trans ?_
  refine (ry_v2 (idx := 102) (m' := 30) (ci := 2) (by decide +kernel : 60 < 283 ∧ SHF 60 = (2, 13)) (by simp [pm_wl_n, pm_wl_c, pm_w] : pm_wl [] ≤ 8) (by decide +kernel)).trans ?_
  exact Iff.rfl
theorem r31_21 {d : Nat} {X : Nat × (Nat → Int)} {v : Nat → Int} {M : PH} {K : PV → PS → Prop} {l1 l2 l3 s0 : Int} (h1 : inR s0) : pm_Run d 31 21 [vA 60, vI l1, vI l2, vI l3] [vI s0] (GF X, M, PTF v) K ↔ if s0 = 0 then pm_Run d 31 27 [vA 60, vI l1, vI l2, vI l3] [] (GF X, M, PTF v) K else pm_Run d 31 24 [vA 60, vI l1, vI l2, vI l3] [] (GF X, M, PTF v) K := by
  refine (ry_if_eq (off := 6) (tgt := 27) h1 (by decide +kernel)).trans ?_
  exact Iff.rfl
theorem r31_24 {d : Nat} {X : Nat × (Nat → Int)} {v : Nat → Int} {M : PH} {K : PV → PS → Prop} {l1 l2 l3 : Int} : pm_Run d 31 24 [vA 60, vI l1, vI l2, vI l3] [] (GF X, M, PTF v) K ↔ pm_Run d 31 27 [vA 60, vI l1, vI (l2 + 1), vI l3] [] (GF X, M, PTF v) K := by
  refine (px_go (by decide +kernel : pm_fe 31 24 = some (.iinc 2 1, 3)) rfl).trans ?_
  exact Iff.rfl
theorem r31_27 {d : Nat} {X : Nat × (Nat → Int)} {v : Nat → Int} {M : PH} {K : PV → PS → Prop} {l1 l2 l3 : Int} : pm_Run d 31 27 [vA 60, vI l1, vI l2, vI l3] [] (GF X, M, PTF v) K ↔ pm_Run d 31 4 [vA 60, vI l1, vI l2, vI (l3 + 1)] [] (GF X, M, PTF v) K := by
  refine (px_go (by decide +kernel : pm_fe 31 27 = some (.iinc 3 1, 3)) rfl).trans ?_
  refine (px_goto (off := (-26)) (tgt := 4) (by decide +kernel)).trans ?_
  exact Iff.rfl
theorem r31_33 {d : Nat} {X : Nat × (Nat → Int)} {v : Nat → Int} {M : PH} {K : PV → PS → Prop} {l1 l2 l3 : Int} : pm_Run d 31 33 [vA 60, vI l1, vI l2, vI l3] [] (GF X, M, PTF v) K ↔ K (vI l2) (GF X, M, PTF v) := by
  refine (px_go (by decide +kernel : pm_fe 31 33 = some (.iload_n 2, 1)) rfl).trans ?_
  refine (px_ri (by decide +kernel)).trans ?_
  exact Iff.rfl
-- X2_firstStrandedFrom firstStrandedFrom(I)I
theorem r32_0 {d : Nat} {X : Nat × (Nat → Int)} {v : Nat → Int} {M : PH} {K : PV → PS → Prop} {l1 : Int} : pm_Run d 32 0 [vA 60, vI l1, PU] [] (GF X, M, PTF v) K ↔ pm_Run d 32 2 [vA 60, vI l1, vI l1] [] (GF X, M, PTF v) K := by
  refine (px_go (by decide +kernel : pm_fe 32 0 = some (.iload_n 1, 1)) rfl).trans ?_
  refine (px_go (by decide +kernel : pm_fe 32 1 = some (.istore_n 2, 1)) rfl).trans ?_
  exact Iff.rfl
theorem r32_2 {d : Nat} {X : Nat × (Nat → Int)} {v : Nat → Int} {M : PH} {K : PV → PS → Prop} {l1 l2 : Int} (h1 : inR l2) (h2 : inR (M 60 8)) : pm_Run d 32 2 [vA 60, vI l1, vI l2] [] (GF X, M, PTF v) K ↔ if M 60 8 < l2 then pm_Run d 32 31 [vA 60, vI l1, vI l2] [] (GF X, M, PTF v) K else pm_Run d 32 10 [vA 60, vI l1, vI l2] [] (GF X, M, PTF v) K := by
  refine (px_go (by decide +kernel : pm_fe 32 2 = some (.iload_n 2, 1)) rfl).trans ?_
  refine (px_go (by decide +kernel : pm_fe 32 3 = some (.aload_n 0, 1)) rfl).trans ?_
  refine (ry_get0 (idx := 38) (ci := 2) (k := 8) (by decide +kernel : 60 < 283 ∧ SHF 60 = (2, 13)) (by decide +kernel)).trans ?_
  refine (ry_ic_gt (off := 24) (tgt := 31) h1 h2 (by decide +kernel)).trans ?_
  exact Iff.rfl
theorem r32_10 {d : Nat} {X : Nat × (Nat → Int)} {v : Nat → Int} {M : PH} {K : PV → PS → Prop} {l1 l2 : Int} : pm_Run d 32 10 [vA 60, vI l1, vI l2] [] (GF X, M, PTF v) K ↔ pm_Call d 25 [vA 60, vI l2] (GF X, M, PTF v) (fun r9 S1 => pm_Run d 32 15 [vA 60, vI l1, vI l2] (pm_push r9 []) S1 K) := by
  refine (px_go (by decide +kernel : pm_fe 32 10 = some (.aload_n 0, 1)) rfl).trans ?_
  refine (px_go (by decide +kernel : pm_fe 32 11 = some (.iload_n 2, 1)) rfl).trans ?_
  refine (ry_v1 (idx := 106) (m' := 25) (ci := 2) (by decide +kernel : 60 < 283 ∧ SHF 60 = (2, 13)) (by simp [pm_wl_n, pm_wl_c, pm_w] : pm_wl [] ≤ 8) (by decide +kernel)).trans ?_
  exact Iff.rfl
theorem r32_15 {d : Nat} {X : Nat × (Nat → Int)} {v : Nat → Int} {M : PH} {K : PV → PS → Prop} {l1 l2 : Int} : pm_Run d 32 15 [vA 60, vI l1, vI l2] [] (GF X, M, PTF v) K ↔ pm_Call d 31 [vA 60, vI l2] (GF X, M, PTF v) (fun r9 S1 => pm_Run d 32 20 [vA 60, vI l1, vI l2] (pm_push r9 []) S1 K) := by
  refine (px_go (by decide +kernel : pm_fe 32 15 = some (.aload_n 0, 1)) rfl).trans ?_
  refine (px_go (by decide +kernel : pm_fe 32 16 = some (.iload_n 2, 1)) rfl).trans ?_
  refine (ry_v1 (idx := 109) (m' := 31) (ci := 2) (by decide +kernel : 60 < 283 ∧ SHF 60 = (2, 13)) (by simp [pm_wl_n, pm_wl_c, pm_w] : pm_wl [] ≤ 8) (by decide +kernel)).trans ?_
  exact Iff.rfl
theorem r32_20 {d : Nat} {X : Nat × (Nat → Int)} {v : Nat → Int} {M : PH} {K : PV → PS → Prop} {l1 l2 s0 : Int} (h1 : inR s0) : pm_Run d 32 20 [vA 60, vI l1, vI l2] [vI s0] (GF X, M, PTF v) K ↔ if s0 ≤ 0 then pm_Run d 32 25 [vA 60, vI l1, vI l2] [] (GF X, M, PTF v) K else pm_Run d 32 23 [vA 60, vI l1, vI l2] [] (GF X, M, PTF v) K := by
  refine (ry_if_le (off := 5) (tgt := 25) h1 (by decide +kernel)).trans ?_
  exact Iff.rfl
theorem r32_23 {d : Nat} {X : Nat × (Nat → Int)} {v : Nat → Int} {M : PH} {K : PV → PS → Prop} {l1 l2 : Int} : pm_Run d 32 23 [vA 60, vI l1, vI l2] [] (GF X, M, PTF v) K ↔ K (vI l2) (GF X, M, PTF v) := by
  refine (px_go (by decide +kernel : pm_fe 32 23 = some (.iload_n 2, 1)) rfl).trans ?_
  refine (px_ri (by decide +kernel)).trans ?_
  exact Iff.rfl
theorem r32_25 {d : Nat} {X : Nat × (Nat → Int)} {v : Nat → Int} {M : PH} {K : PV → PS → Prop} {l1 l2 : Int} : pm_Run d 32 25 [vA 60, vI l1, vI l2] [] (GF X, M, PTF v) K ↔ pm_Run d 32 2 [vA 60, vI l1, vI (l2 + 1)] [] (GF X, M, PTF v) K := by
  refine (px_go (by decide +kernel : pm_fe 32 25 = some (.iinc 2 1, 3)) rfl).trans ?_
  refine (px_goto (off := (-26)) (tgt := 2) (by decide +kernel)).trans ?_
  exact Iff.rfl
theorem r32_31 {d : Nat} {X : Nat × (Nat → Int)} {v : Nat → Int} {M : PH} {K : PV → PS → Prop} {l1 l2 : Int} : pm_Run d 32 31 [vA 60, vI l1, vI l2] [] (GF X, M, PTF v) K ↔ K (vI (-1)) (GF X, M, PTF v) := by
  refine (px_go (by decide +kernel : pm_fe 32 31 = some (.iconst (-1), 1)) rfl).trans ?_
  refine (px_ri (by decide +kernel)).trans ?_
  exact Iff.rfl
-- X2_findBroken findBroken()Z
theorem r33_0 {d : Nat} {X : Nat × (Nat → Int)} {v : Nat → Int} {M : PH} {K : PV → PS → Prop} : pm_Run d 33 0 [vA 60, PU] [] (GF X, M, PTF v) K ↔ pm_Run d 33 2 [vA 60, vI 0] [] (GF X, M, PTF v) K := by
  refine (px_go (by decide +kernel : pm_fe 33 0 = some (.iconst 0, 1)) rfl).trans ?_
  refine (px_go (by decide +kernel : pm_fe 33 1 = some (.istore_n 1, 1)) rfl).trans ?_
  exact Iff.rfl
theorem r33_2 {d : Nat} {X : Nat × (Nat → Int)} {v : Nat → Int} {M : PH} {K : PV → PS → Prop} {l1 : Int} (h1 : inR l1) (h2 : inR (M 60 8)) : pm_Run d 33 2 [vA 60, vI l1] [] (GF X, M, PTF v) K ↔ if M 60 8 < l1 then pm_Run d 33 29 [vA 60, vI l1] [] (GF X, M, PTF v) K else pm_Run d 33 10 [vA 60, vI l1] [] (GF X, M, PTF v) K := by
  refine (px_go (by decide +kernel : pm_fe 33 2 = some (.iload_n 1, 1)) rfl).trans ?_
  refine (px_go (by decide +kernel : pm_fe 33 3 = some (.aload_n 0, 1)) rfl).trans ?_
  refine (ry_get0 (idx := 38) (ci := 2) (k := 8) (by decide +kernel : 60 < 283 ∧ SHF 60 = (2, 13)) (by decide +kernel)).trans ?_
  refine (ry_ic_gt (off := 22) (tgt := 29) h1 h2 (by decide +kernel)).trans ?_
  exact Iff.rfl
theorem r33_10 {d : Nat} {X : Nat × (Nat → Int)} {v : Nat → Int} {M : PH} {K : PV → PS → Prop} {l1 : Int} (h1 : inR (M 60 10)) : pm_Run d 33 10 [vA 60, vI l1] [] (GF X, M, PTF v) K ↔ if M 60 10 ≠ (-1) then pm_Run d 33 29 [vA 60, vI l1] [] (GF X, M, PTF v) K else pm_Run d 33 18 [vA 60, vI l1] [] (GF X, M, PTF v) K := by
  refine (px_go (by decide +kernel : pm_fe 33 10 = some (.aload_n 0, 1)) rfl).trans ?_
  refine (ry_get0 (idx := 42) (ci := 2) (k := 10) (by decide +kernel : 60 < 283 ∧ SHF 60 = (2, 13)) (by decide +kernel)).trans ?_
  refine (px_go (by decide +kernel : pm_fe 33 14 = some (.iconst (-1), 1)) rfl).trans ?_
  refine (ry_ic_ne (off := 14) (tgt := 29) h1 (by decide : (-2147483648 ≤ ((-1) : Int) ∧ ((-1) : Int) < 2147483648)) (by decide +kernel)).trans ?_
  exact Iff.rfl
theorem r33_18 {d : Nat} {X : Nat × (Nat → Int)} {v : Nat → Int} {M : PH} {K : PV → PS → Prop} {l1 : Int} : pm_Run d 33 18 [vA 60, vI l1] [] (GF X, M, PTF v) K ↔ pm_Call d 25 [vA 60, vI l1] (GF X, M, PTF v) (fun r9 S1 => pm_Run d 33 23 [vA 60, vI l1] (pm_push r9 []) S1 K) := by
  refine (px_go (by decide +kernel : pm_fe 33 18 = some (.aload_n 0, 1)) rfl).trans ?_
  refine (px_go (by decide +kernel : pm_fe 33 19 = some (.iload_n 1, 1)) rfl).trans ?_
  refine (ry_v1 (idx := 106) (m' := 25) (ci := 2) (by decide +kernel : 60 < 283 ∧ SHF 60 = (2, 13)) (by simp [pm_wl_n, pm_wl_c, pm_w] : pm_wl [] ≤ 8) (by decide +kernel)).trans ?_
  exact Iff.rfl
theorem r33_23 {d : Nat} {X : Nat × (Nat → Int)} {v : Nat → Int} {M : PH} {K : PV → PS → Prop} {l1 : Int} : pm_Run d 33 23 [vA 60, vI l1] [] (GF X, M, PTF v) K ↔ pm_Run d 33 2 [vA 60, vI (l1 + 1)] [] (GF X, M, PTF v) K := by
  refine (px_go (by decide +kernel : pm_fe 33 23 = some (.iinc 1 1, 3)) rfl).trans ?_
  refine (px_goto (off := (-24)) (tgt := 2) (by decide +kernel)).trans ?_
  exact Iff.rfl
theorem r33_29 {d : Nat} {X : Nat × (Nat → Int)} {v : Nat → Int} {M : PH} {K : PV → PS → Prop} {l1 : Int} (h1 : inR (M 60 10)) : pm_Run d 33 29 [vA 60, vI l1] [] (GF X, M, PTF v) K ↔ if M 60 10 = (-1) then pm_Run d 33 41 [vA 60, vI l1] [] (GF X, M, PTF v) K else pm_Run d 33 37 [vA 60, vI l1] [] (GF X, M, PTF v) K := by
  refine (px_go (by decide +kernel : pm_fe 33 29 = some (.aload_n 0, 1)) rfl).trans ?_
  refine (ry_get0 (idx := 42) (ci := 2) (k := 10) (by decide +kernel : 60 < 283 ∧ SHF 60 = (2, 13)) (by decide +kernel)).trans ?_
  refine (px_go (by decide +kernel : pm_fe 33 33 = some (.iconst (-1), 1)) rfl).trans ?_
  refine (ry_ic_eq (off := 7) (tgt := 41) h1 (by decide : (-2147483648 ≤ ((-1) : Int) ∧ ((-1) : Int) < 2147483648)) (by decide +kernel)).trans ?_
  exact Iff.rfl
theorem r33_37 {d : Nat} {X : Nat × (Nat → Int)} {v : Nat → Int} {M : PH} {K : PV → PS → Prop} {l1 : Int} : pm_Run d 33 37 [vA 60, vI l1] [] (GF X, M, PTF v) K ↔ pm_Run d 33 42 [vA 60, vI l1] [vI 1] (GF X, M, PTF v) K := by
  refine (px_go (by decide +kernel : pm_fe 33 37 = some (.iconst 1, 1)) rfl).trans ?_
  refine (px_goto (off := 4) (tgt := 42) (by decide +kernel)).trans ?_
  exact Iff.rfl
theorem r33_41 {d : Nat} {X : Nat × (Nat → Int)} {v : Nat → Int} {M : PH} {K : PV → PS → Prop} {l1 : Int} : pm_Run d 33 41 [vA 60, vI l1] [] (GF X, M, PTF v) K ↔ pm_Run d 33 42 [vA 60, vI l1] [vI 0] (GF X, M, PTF v) K := by
  refine (px_go (by decide +kernel : pm_fe 33 41 = some (.iconst 0, 1)) rfl).trans ?_
  exact Iff.rfl
theorem r33_42 {d : Nat} {X : Nat × (Nat → Int)} {v : Nat → Int} {M : PH} {K : PV → PS → Prop} {l1 s0 : Int} (h1 : s0 = 0 ∨ s0 = 1) : pm_Run d 33 42 [vA 60, vI l1] [vI s0] (GF X, M, PTF v) K ↔ K (vI s0) (GF X, M, PTF v) := by
  refine (px_rz (by decide +kernel)).trans ((and_iff_right h1).trans ?_)
  exact Iff.rfl
-- X2_crossing crossing(III)I
theorem r34_0 {d : Nat} {X : Nat × (Nat → Int)} {v : Nat → Int} {M : PH} {K : PV → PS → Prop} {l1 l2 l3 : Int} : pm_Run d 34 0 [vA 60, vI l1, vI l2, vI l3, PU, PU] [] (GF X, M, PTF v) K ↔ pm_Run d 34 8 [vA 60, vI l1, vI l2, vI l3, vI (pm_shl 1 l1), vI 0] [] (GF X, M, PTF v) K := by
  refine (px_go (by decide +kernel : pm_fe 34 0 = some (.iconst 1, 1)) rfl).trans ?_
  refine (px_go (by decide +kernel : pm_fe 34 1 = some (.iload_n 1, 1)) rfl).trans ?_
  refine (px_go (by decide +kernel : pm_fe 34 2 = some (.ishl, 1)) rfl).trans ?_
  refine (px_go (by decide +kernel : pm_fe 34 3 = some (.istore 4, 2)) rfl).trans ?_
  refine (px_go (by decide +kernel : pm_fe 34 5 = some (.iconst 0, 1)) rfl).trans ?_
  refine (px_go (by decide +kernel : pm_fe 34 6 = some (.istore 5, 2)) rfl).trans ?_
  exact Iff.rfl
theorem r34_8 {d : Nat} {X : Nat × (Nat → Int)} {v : Nat → Int} {M : PH} {K : PV → PS → Prop} {l1 l2 l3 l4 l5 : Int} (h1 : inR l5) (h2 : inR (M 60 8)) : pm_Run d 34 8 [vA 60, vI l1, vI l2, vI l3, vI l4, vI l5] [] (GF X, M, PTF v) K ↔ if M 60 8 < l5 then pm_Run d 34 73 [vA 60, vI l1, vI l2, vI l3, vI l4, vI l5] [] (GF X, M, PTF v) K else pm_Run d 34 17 [vA 60, vI l1, vI l2, vI l3, vI l4, vI l5] [] (GF X, M, PTF v) K := by
  refine (px_go (by decide +kernel : pm_fe 34 8 = some (.iload 5, 2)) rfl).trans ?_
  refine (px_go (by decide +kernel : pm_fe 34 10 = some (.aload_n 0, 1)) rfl).trans ?_
  refine (ry_get0 (idx := 38) (ci := 2) (k := 8) (by decide +kernel : 60 < 283 ∧ SHF 60 = (2, 13)) (by decide +kernel)).trans ?_
  refine (ry_ic_gt (off := 59) (tgt := 73) h1 h2 (by decide +kernel)).trans ?_
  exact Iff.rfl
theorem r34_17 {d : Nat} {X : Nat × (Nat → Int)} {v : Nat → Int} {M : PH} {K : PV → PS → Prop} {l1 l2 l3 l4 l5 : Int} (h1 : inR l4) : pm_Run d 34 17 [vA 60, vI l1, vI l2, vI l3, vI l4, vI l5] [] (GF X, M, PTF v) K ↔ if l4 = 0 then pm_Run d 34 73 [vA 60, vI l1, vI l2, vI l3, vI l4, vI l5] [] (GF X, M, PTF v) K else pm_Run d 34 22 [vA 60, vI l1, vI l2, vI l3, vI l4, vI l5] [] (GF X, M, PTF v) K := by
  refine (px_go (by decide +kernel : pm_fe 34 17 = some (.iload 4, 2)) rfl).trans ?_
  refine (ry_if_eq (off := 54) (tgt := 73) h1 (by decide +kernel)).trans ?_
  exact Iff.rfl
theorem r34_22 {d : Nat} {X : Nat × (Nat → Int)} {v : Nat → Int} {M : PH} {K : PV → PS → Prop} {l1 l2 l3 l4 l5 : Int} : pm_Run d 34 22 [vA 60, vI l1, vI l2, vI l3, vI l4, vI l5] [] (GF X, M, PTF v) K ↔ pm_Call d 25 [vA 60, vI l5] (GF X, M, PTF v) (fun r9 S1 => pm_Run d 34 28 [vA 60, vI l1, vI l2, vI l3, vI l4, vI l5] (pm_push r9 []) S1 K) := by
  refine (px_go (by decide +kernel : pm_fe 34 22 = some (.aload_n 0, 1)) rfl).trans ?_
  refine (px_go (by decide +kernel : pm_fe 34 23 = some (.iload 5, 2)) rfl).trans ?_
  refine (ry_v1 (idx := 106) (m' := 25) (ci := 2) (by decide +kernel : 60 < 283 ∧ SHF 60 = (2, 13)) (by simp [pm_wl_n, pm_wl_c, pm_w] : pm_wl [] ≤ 8) (by decide +kernel)).trans ?_
  exact Iff.rfl
theorem r34_28 {d : Nat} {X : Nat × (Nat → Int)} {v : Nat → Int} {M : PH} {K : PV → PS → Prop} {l1 l2 l3 l4 l5 : Int} (h1 : inR l5) : pm_Run d 34 28 [vA 60, vI l1, vI l2, vI l3, vI l4, vI l5] [] (GF X, M, PTF v) K ↔ if l5 ≠ 0 then pm_Run d 34 38 [vA 60, vI l1, vI l2, vI l3, vI l4, vI l5] [] (GF X, M, PTF v) K else pm_Run d 34 33 [vA 60, vI l1, vI l2, vI l3, vI l4, vI l5] [] (GF X, M, PTF v) K := by
  refine (px_go (by decide +kernel : pm_fe 34 28 = some (.iload 5, 2)) rfl).trans ?_
  refine (ry_if_ne (off := 8) (tgt := 38) h1 (by decide +kernel)).trans ?_
  exact Iff.rfl
theorem r34_33 {d : Nat} {X : Nat × (Nat → Int)} {v : Nat → Int} {M : PH} {K : PV → PS → Prop} {l1 l2 l3 l4 l5 : Int} : pm_Run d 34 33 [vA 60, vI l1, vI l2, vI l3, vI l4, vI l5] [] (GF X, M, PTF v) K ↔ pm_Run d 34 44 [vA 60, vI l1, vI l2, vI l3, vI l4, vI l5] [vI l4] (GF X, M, PTF v) K := by
  refine (px_go (by decide +kernel : pm_fe 34 33 = some (.iload 4, 2)) rfl).trans ?_
  refine (px_goto (off := 9) (tgt := 44) (by decide +kernel)).trans ?_
  exact Iff.rfl
theorem r34_38 {d : Nat} {X : Nat × (Nat → Int)} {v : Nat → Int} {M : PH} {K : PV → PS → Prop} {l1 l2 l3 l4 l5 : Int} : pm_Run d 34 38 [vA 60, vI l1, vI l2, vI l3, vI l4, vI l5] [] (GF X, M, PTF v) K ↔ pm_Call d 37 [vA 60, vI l4] (GF X, M, PTF v) (fun r9 S1 => pm_Run d 34 44 [vA 60, vI l1, vI l2, vI l3, vI l4, vI l5] (pm_push r9 []) S1 K) := by
  refine (px_go (by decide +kernel : pm_fe 34 38 = some (.aload_n 0, 1)) rfl).trans ?_
  refine (px_go (by decide +kernel : pm_fe 34 39 = some (.iload 4, 2)) rfl).trans ?_
  refine (ry_v1 (idx := 113) (m' := 37) (ci := 2) (by decide +kernel : 60 < 283 ∧ SHF 60 = (2, 13)) (by simp [pm_wl_n, pm_wl_c, pm_w] : pm_wl [] ≤ 8) (by decide +kernel)).trans ?_
  exact Iff.rfl
theorem r34_44 {d : Nat} {X : Nat × (Nat → Int)} {v : Nat → Int} {M : PH} {K : PV → PS → Prop} {l1 l2 l3 l4 l5 s0 : Int} : pm_Run d 34 44 [vA 60, vI l1, vI l2, vI l3, vI l4, vI l5] [vI s0] (GF X, M, PTF v) K ↔ pm_Call d 36 [vA 60, vI l5, vI l3] (GF X, M, PTF v) (fun r9 S1 => pm_Run d 34 51 [vA 60, vI l1, vI l2, vI l3, vI l4, vI l5] (pm_push r9 [vI s0]) S1 K) := by
  refine (px_go (by decide +kernel : pm_fe 34 44 = some (.aload_n 0, 1)) rfl).trans ?_
  refine (px_go (by decide +kernel : pm_fe 34 45 = some (.iload 5, 2)) rfl).trans ?_
  refine (px_go (by decide +kernel : pm_fe 34 47 = some (.iload_n 3, 1)) rfl).trans ?_
  refine (ry_v2 (idx := 116) (m' := 36) (ci := 2) (by decide +kernel : 60 < 283 ∧ SHF 60 = (2, 13)) (by simp [pm_wl_n, pm_wl_c, pm_w] : pm_wl [vI s0] ≤ 8) (by decide +kernel)).trans ?_
  exact Iff.rfl
theorem r34_51 {d : Nat} {X : Nat × (Nat → Int)} {v : Nat → Int} {M : PH} {K : PV → PS → Prop} {l1 l2 l3 l4 l5 s0 s1 : Int} (h1 : inR (pm_and (pm_shr (pm_and s1 s0) l2) 1)) : pm_Run d 34 51 [vA 60, vI l1, vI l2, vI l3, vI l4, vI l5] [vI s0, vI s1] (GF X, M, PTF v) K ↔ if pm_and (pm_shr (pm_and s1 s0) l2) 1 ≠ 1 then pm_Run d 34 67 [vA 60, vI l1, vI l2, vI l3, vI (pm_and s1 s0), vI l5] [] (GF X, M, PTF v) K else pm_Run d 34 64 [vA 60, vI l1, vI l2, vI l3, vI (pm_and s1 s0), vI l5] [] (GF X, M, PTF v) K := by
  refine (px_go (by decide +kernel : pm_fe 34 51 = some (.iand, 1)) rfl).trans ?_
  refine (px_go (by decide +kernel : pm_fe 34 52 = some (.istore 4, 2)) rfl).trans ?_
  refine (px_go (by decide +kernel : pm_fe 34 54 = some (.iload 4, 2)) rfl).trans ?_
  refine (px_go (by decide +kernel : pm_fe 34 56 = some (.iload_n 2, 1)) rfl).trans ?_
  refine (px_go (by decide +kernel : pm_fe 34 57 = some (.ishr, 1)) rfl).trans ?_
  refine (px_go (by decide +kernel : pm_fe 34 58 = some (.iconst 1, 1)) rfl).trans ?_
  refine (px_go (by decide +kernel : pm_fe 34 59 = some (.iand, 1)) rfl).trans ?_
  refine (px_go (by decide +kernel : pm_fe 34 60 = some (.iconst 1, 1)) rfl).trans ?_
  refine (ry_ic_ne (off := 6) (tgt := 67) h1 (by decide : (-2147483648 ≤ (1 : Int) ∧ (1 : Int) < 2147483648)) (by decide +kernel)).trans ?_
  exact Iff.rfl
theorem r34_64 {d : Nat} {X : Nat × (Nat → Int)} {v : Nat → Int} {M : PH} {K : PV → PS → Prop} {l1 l2 l3 l4 l5 : Int} : pm_Run d 34 64 [vA 60, vI l1, vI l2, vI l3, vI l4, vI l5] [] (GF X, M, PTF v) K ↔ K (vI l5) (GF X, M, PTF v) := by
  refine (px_go (by decide +kernel : pm_fe 34 64 = some (.iload 5, 2)) rfl).trans ?_
  refine (px_ri (by decide +kernel)).trans ?_
  exact Iff.rfl
theorem r34_67 {d : Nat} {X : Nat × (Nat → Int)} {v : Nat → Int} {M : PH} {K : PV → PS → Prop} {l1 l2 l3 l4 l5 : Int} : pm_Run d 34 67 [vA 60, vI l1, vI l2, vI l3, vI l4, vI l5] [] (GF X, M, PTF v) K ↔ pm_Run d 34 8 [vA 60, vI l1, vI l2, vI l3, vI l4, vI (l5 + 1)] [] (GF X, M, PTF v) K := by
  refine (px_go (by decide +kernel : pm_fe 34 67 = some (.iinc 5 1, 3)) rfl).trans ?_
  refine (px_goto (off := (-62)) (tgt := 8) (by decide +kernel)).trans ?_
  exact Iff.rfl
theorem r34_73 {d : Nat} {X : Nat × (Nat → Int)} {v : Nat → Int} {M : PH} {K : PV → PS → Prop} {l1 l2 l3 l4 l5 : Int} : pm_Run d 34 73 [vA 60, vI l1, vI l2, vI l3, vI l4, vI l5] [] (GF X, M, PTF v) K ↔ K (vI (-1)) (GF X, M, PTF v) := by
  refine (px_go (by decide +kernel : pm_fe 34 73 = some (.iconst (-1), 1)) rfl).trans ?_
  refine (px_ri (by decide +kernel)).trans ?_
  exact Iff.rfl
-- X2_lastStart lastStart(III)I
theorem r35_0 {d : Nat} {X : Nat × (Nat → Int)} {v : Nat → Int} {M : PH} {K : PV → PS → Prop} {l1 l2 l3 : Int} : pm_Run d 35 0 [vA 60, vI l1, vI l2, vI l3, PU, PU] [] (GF X, M, PTF v) K ↔ pm_Call d 25 [vA 60, vI (M 60 8)] (GF X, M, PTF v) (fun r9 S1 => pm_Run d 35 11 [vA 60, vI l1, vI l2, vI l3, vI 0, PU] (pm_push r9 []) S1 K) := by
  refine (px_go (by decide +kernel : pm_fe 35 0 = some (.iconst 0, 1)) rfl).trans ?_
  refine (px_go (by decide +kernel : pm_fe 35 1 = some (.istore 4, 2)) rfl).trans ?_
  refine (px_go (by decide +kernel : pm_fe 35 3 = some (.aload_n 0, 1)) rfl).trans ?_
  refine (px_go (by decide +kernel : pm_fe 35 4 = some (.aload_n 0, 1)) rfl).trans ?_
  refine (ry_get0 (idx := 38) (ci := 2) (k := 8) (by decide +kernel : 60 < 283 ∧ SHF 60 = (2, 13)) (by decide +kernel)).trans ?_
  refine (ry_v1 (idx := 106) (m' := 25) (ci := 2) (by decide +kernel : 60 < 283 ∧ SHF 60 = (2, 13)) (by simp [pm_wl_n, pm_wl_c, pm_w] : pm_wl [] ≤ 8) (by decide +kernel)).trans ?_
  exact Iff.rfl
theorem r35_11 {d : Nat} {X : Nat × (Nat → Int)} {v : Nat → Int} {M : PH} {K : PV → PS → Prop} {l1 l2 l3 l4 : Int} : pm_Run d 35 11 [vA 60, vI l1, vI l2, vI l3, vI l4, PU] [] (GF X, M, PTF v) K ↔ pm_Run d 35 17 [vA 60, vI l1, vI l2, vI l3, vI l4, vI (M 60 8)] [] (GF X, M, PTF v) K := by
  refine (px_go (by decide +kernel : pm_fe 35 11 = some (.aload_n 0, 1)) rfl).trans ?_
  refine (ry_get0 (idx := 38) (ci := 2) (k := 8) (by decide +kernel : 60 < 283 ∧ SHF 60 = (2, 13)) (by decide +kernel)).trans ?_
  refine (px_go (by decide +kernel : pm_fe 35 15 = some (.istore 5, 2)) rfl).trans ?_
  exact Iff.rfl
theorem r35_17 {d : Nat} {X : Nat × (Nat → Int)} {v : Nat → Int} {M : PH} {K : PV → PS → Prop} {l1 l2 l3 l4 l5 : Int} (h1 : inR l5) : pm_Run d 35 17 [vA 60, vI l1, vI l2, vI l3, vI l4, vI l5] [] (GF X, M, PTF v) K ↔ if l5 < 0 then pm_Run d 35 61 [vA 60, vI l1, vI l2, vI l3, vI l4, vI l5] [] (GF X, M, PTF v) K else pm_Run d 35 22 [vA 60, vI l1, vI l2, vI l3, vI l4, vI l5] [] (GF X, M, PTF v) K := by
  refine (px_go (by decide +kernel : pm_fe 35 17 = some (.iload 5, 2)) rfl).trans ?_
  refine (ry_if_lt (off := 42) (tgt := 61) h1 (by decide +kernel)).trans ?_
  exact Iff.rfl
theorem r35_22 {d : Nat} {X : Nat × (Nat → Int)} {v : Nat → Int} {M : PH} {K : PV → PS → Prop} {l1 l2 l3 l4 l5 : Int} : pm_Run d 35 22 [vA 60, vI l1, vI l2, vI l3, vI l4, vI l5] [] (GF X, M, PTF v) K ↔ pm_Call d 37 [vA 60, vI l4] (GF X, M, PTF v) (fun r9 S1 => pm_Run d 35 31 [vA 60, vI l1, vI l2, vI l3, vI l4, vI l5] (pm_push r9 [vI (pm_shl 1 l2)]) S1 K) := by
  refine (px_go (by decide +kernel : pm_fe 35 22 = some (.iconst 1, 1)) rfl).trans ?_
  refine (px_go (by decide +kernel : pm_fe 35 23 = some (.iload_n 2, 1)) rfl).trans ?_
  refine (px_go (by decide +kernel : pm_fe 35 24 = some (.ishl, 1)) rfl).trans ?_
  refine (px_go (by decide +kernel : pm_fe 35 25 = some (.aload_n 0, 1)) rfl).trans ?_
  refine (px_go (by decide +kernel : pm_fe 35 26 = some (.iload 4, 2)) rfl).trans ?_
  refine (ry_v1 (idx := 113) (m' := 37) (ci := 2) (by decide +kernel : 60 < 283 ∧ SHF 60 = (2, 13)) (by simp [pm_wl_n, pm_wl_c, pm_w] : pm_wl [vI (pm_shl 1 l2)] ≤ 8) (by decide +kernel)).trans ?_
  exact Iff.rfl
theorem r35_31 {d : Nat} {X : Nat × (Nat → Int)} {v : Nat → Int} {M : PH} {K : PV → PS → Prop} {l1 l2 l3 l4 l5 s0 s1 : Int} : pm_Run d 35 31 [vA 60, vI l1, vI l2, vI l3, vI l4, vI l5] [vI s0, vI s1] (GF X, M, PTF v) K ↔ pm_Call d 36 [vA 60, vI l5, vI l3] (GF X, M, PTF v) (fun r9 S1 => pm_Run d 35 39 [vA 60, vI l1, vI l2, vI l3, vI l4, vI l5] (pm_push r9 [vI (pm_or s1 s0)]) S1 K) := by
  refine (px_go (by decide +kernel : pm_fe 35 31 = some (.ior, 1)) rfl).trans ?_
  refine (px_go (by decide +kernel : pm_fe 35 32 = some (.aload_n 0, 1)) rfl).trans ?_
  refine (px_go (by decide +kernel : pm_fe 35 33 = some (.iload 5, 2)) rfl).trans ?_
  refine (px_go (by decide +kernel : pm_fe 35 35 = some (.iload_n 3, 1)) rfl).trans ?_
  refine (ry_v2 (idx := 116) (m' := 36) (ci := 2) (by decide +kernel : 60 < 283 ∧ SHF 60 = (2, 13)) (by simp [pm_wl_n, pm_wl_c, pm_w] : pm_wl [vI (pm_or s1 s0)] ≤ 8) (by decide +kernel)).trans ?_
  exact Iff.rfl
theorem r35_39 {d : Nat} {X : Nat × (Nat → Int)} {v : Nat → Int} {M : PH} {K : PV → PS → Prop} {l1 l2 l3 l4 l5 s0 s1 : Int} (h1 : inR (pm_and (pm_shr (pm_and s1 s0) l1) 1)) : pm_Run d 35 39 [vA 60, vI l1, vI l2, vI l3, vI l4, vI l5] [vI s0, vI s1] (GF X, M, PTF v) K ↔ if pm_and (pm_shr (pm_and s1 s0) l1) 1 ≠ 1 then pm_Run d 35 55 [vA 60, vI l1, vI l2, vI l3, vI (pm_and s1 s0), vI l5] [] (GF X, M, PTF v) K else pm_Run d 35 52 [vA 60, vI l1, vI l2, vI l3, vI (pm_and s1 s0), vI l5] [] (GF X, M, PTF v) K := by
  refine (px_go (by decide +kernel : pm_fe 35 39 = some (.iand, 1)) rfl).trans ?_
  refine (px_go (by decide +kernel : pm_fe 35 40 = some (.istore 4, 2)) rfl).trans ?_
  refine (px_go (by decide +kernel : pm_fe 35 42 = some (.iload 4, 2)) rfl).trans ?_
  refine (px_go (by decide +kernel : pm_fe 35 44 = some (.iload_n 1, 1)) rfl).trans ?_
  refine (px_go (by decide +kernel : pm_fe 35 45 = some (.ishr, 1)) rfl).trans ?_
  refine (px_go (by decide +kernel : pm_fe 35 46 = some (.iconst 1, 1)) rfl).trans ?_
  refine (px_go (by decide +kernel : pm_fe 35 47 = some (.iand, 1)) rfl).trans ?_
  refine (px_go (by decide +kernel : pm_fe 35 48 = some (.iconst 1, 1)) rfl).trans ?_
  refine (ry_ic_ne (off := 6) (tgt := 55) h1 (by decide : (-2147483648 ≤ (1 : Int) ∧ (1 : Int) < 2147483648)) (by decide +kernel)).trans ?_
  exact Iff.rfl
theorem r35_52 {d : Nat} {X : Nat × (Nat → Int)} {v : Nat → Int} {M : PH} {K : PV → PS → Prop} {l1 l2 l3 l4 l5 : Int} : pm_Run d 35 52 [vA 60, vI l1, vI l2, vI l3, vI l4, vI l5] [] (GF X, M, PTF v) K ↔ K (vI l5) (GF X, M, PTF v) := by
  refine (px_go (by decide +kernel : pm_fe 35 52 = some (.iload 5, 2)) rfl).trans ?_
  refine (px_ri (by decide +kernel)).trans ?_
  exact Iff.rfl
theorem r35_55 {d : Nat} {X : Nat × (Nat → Int)} {v : Nat → Int} {M : PH} {K : PV → PS → Prop} {l1 l2 l3 l4 l5 : Int} : pm_Run d 35 55 [vA 60, vI l1, vI l2, vI l3, vI l4, vI l5] [] (GF X, M, PTF v) K ↔ pm_Run d 35 17 [vA 60, vI l1, vI l2, vI l3, vI l4, vI (l5 + (-1))] [] (GF X, M, PTF v) K := by
  refine (px_go (by decide +kernel : pm_fe 35 55 = some (.iinc 5 (-1), 3)) rfl).trans ?_
  refine (px_goto (off := (-41)) (tgt := 17) (by decide +kernel)).trans ?_
  exact Iff.rfl
theorem r35_61 {d : Nat} {X : Nat × (Nat → Int)} {v : Nat → Int} {M : PH} {K : PV → PS → Prop} {l1 l2 l3 l4 l5 : Int} : pm_Run d 35 61 [vA 60, vI l1, vI l2, vI l3, vI l4, vI l5] [] (GF X, M, PTF v) K ↔ K (vI (-1)) (GF X, M, PTF v) := by
  refine (px_go (by decide +kernel : pm_fe 35 61 = some (.iconst (-1), 1)) rfl).trans ?_
  refine (px_ri (by decide +kernel)).trans ?_
  exact Iff.rfl
-- X2_floating floating(II)I
theorem r36_0 {d : Nat} {X : Nat × (Nat → Int)} {v : Nat → Int} {M : PH} {K : PV → PS → Prop} {l1 l2 : Int} : pm_Run d 36 0 [vA 60, vI l1, vI l2, PU, PU] [] (GF X, M, PTF v) K ↔ pm_Run d 36 5 [vA 60, vI l1, vI l2, vI 0, vI 0] [] (GF X, M, PTF v) K := by
  refine (px_go (by decide +kernel : pm_fe 36 0 = some (.iconst 0, 1)) rfl).trans ?_
  refine (px_go (by decide +kernel : pm_fe 36 1 = some (.istore_n 3, 1)) rfl).trans ?_
  refine (px_go (by decide +kernel : pm_fe 36 2 = some (.iconst 0, 1)) rfl).trans ?_
  refine (px_go (by decide +kernel : pm_fe 36 3 = some (.istore 4, 2)) rfl).trans ?_
  exact Iff.rfl
theorem r36_5 {d : Nat} {c : Nat} {X : Nat × (Nat → Int)} {v : Nat → Int} {M : PH} {K : PV → PS → Prop} {l1 l2 l3 l4 : Int} (hc : isCh c) (hv2 : v 2 = ((c : Nat) : Int)) (h1 : inR l4) (h2 : inR (M c 0)) : pm_Run d 36 5 [vA 60, vI l1, vI l2, vI l3, vI l4] [] (GF X, M, PTF v) K ↔ if M c 0 ≤ l4 then pm_Run d 36 41 [vA 60, vI l1, vI l2, vI l3, vI l4] [] (GF X, M, PTF v) K else pm_Run d 36 17 [vA 60, vI l1, vI l2, vI l3, vI l4] [] (GF X, M, PTF v) K := by
  refine (px_go (by decide +kernel : pm_fe 36 5 = some (.iload 4, 2)) rfl).trans ?_
  refine (px_go (by decide +kernel : pm_fe 36 7 = some (.aload_n 0, 1)) rfl).trans ?_
  refine (ry_get2 (idx := 51) (ci := 2) (k := 7) (by decide +kernel : 60 < 283 ∧ SHF 60 = (2, 13)) (ptd2 hv2) (by decide +kernel)).trans ?_
  refine (ry_get0 (idx := 70) (ci := 1) (k := 0) (chs0 hc) (by decide +kernel)).trans ?_
  refine (ry_ic_ge (off := 27) (tgt := 41) h1 h2 (by decide +kernel)).trans ?_
  exact Iff.rfl
theorem r36_17 {d : Nat} {X : Nat × (Nat → Int)} {v : Nat → Int} {M : PH} {K : PV → PS → Prop} {l1 l2 l3 l4 : Int} : pm_Run d 36 17 [vA 60, vI l1, vI l2, vI l3, vI l4] [] (GF X, M, PTF v) K ↔ pm_Call d 27 [vA 60, vI l4, vI l1] (GF X, M, PTF v) (fun r9 S1 => pm_Run d 36 24 [vA 60, vI l1, vI l2, vI l3, vI l4] (pm_push r9 []) S1 K) := by
  refine (px_go (by decide +kernel : pm_fe 36 17 = some (.aload_n 0, 1)) rfl).trans ?_
  refine (px_go (by decide +kernel : pm_fe 36 18 = some (.iload 4, 2)) rfl).trans ?_
  refine (px_go (by decide +kernel : pm_fe 36 20 = some (.iload_n 1, 1)) rfl).trans ?_
  refine (ry_v2 (idx := 93) (m' := 27) (ci := 2) (by decide +kernel : 60 < 283 ∧ SHF 60 = (2, 13)) (by simp [pm_wl_n, pm_wl_c, pm_w] : pm_wl [] ≤ 8) (by decide +kernel)).trans ?_
  exact Iff.rfl
theorem r36_24 {d : Nat} {X : Nat × (Nat → Int)} {v : Nat → Int} {M : PH} {K : PV → PS → Prop} {l1 l2 l3 l4 s0 : Int} (h1 : inR s0) (h2 : inR l2) : pm_Run d 36 24 [vA 60, vI l1, vI l2, vI l3, vI l4] [vI s0] (GF X, M, PTF v) K ↔ if s0 < l2 then pm_Run d 36 35 [vA 60, vI l1, vI l2, vI l3, vI l4] [] (GF X, M, PTF v) K else pm_Run d 36 28 [vA 60, vI l1, vI l2, vI l3, vI l4] [] (GF X, M, PTF v) K := by
  refine (px_go (by decide +kernel : pm_fe 36 24 = some (.iload_n 2, 1)) rfl).trans ?_
  refine (ry_ic_lt (off := 10) (tgt := 35) h1 h2 (by decide +kernel)).trans ?_
  exact Iff.rfl
theorem r36_28 {d : Nat} {X : Nat × (Nat → Int)} {v : Nat → Int} {M : PH} {K : PV → PS → Prop} {l1 l2 l3 l4 : Int} : pm_Run d 36 28 [vA 60, vI l1, vI l2, vI l3, vI l4] [] (GF X, M, PTF v) K ↔ pm_Run d 36 35 [vA 60, vI l1, vI l2, vI (pm_or l3 (pm_shl 1 l4)), vI l4] [] (GF X, M, PTF v) K := by
  refine (px_go (by decide +kernel : pm_fe 36 28 = some (.iload_n 3, 1)) rfl).trans ?_
  refine (px_go (by decide +kernel : pm_fe 36 29 = some (.iconst 1, 1)) rfl).trans ?_
  refine (px_go (by decide +kernel : pm_fe 36 30 = some (.iload 4, 2)) rfl).trans ?_
  refine (px_go (by decide +kernel : pm_fe 36 32 = some (.ishl, 1)) rfl).trans ?_
  refine (px_go (by decide +kernel : pm_fe 36 33 = some (.ior, 1)) rfl).trans ?_
  refine (px_go (by decide +kernel : pm_fe 36 34 = some (.istore_n 3, 1)) rfl).trans ?_
  exact Iff.rfl
theorem r36_35 {d : Nat} {X : Nat × (Nat → Int)} {v : Nat → Int} {M : PH} {K : PV → PS → Prop} {l1 l2 l3 l4 : Int} : pm_Run d 36 35 [vA 60, vI l1, vI l2, vI l3, vI l4] [] (GF X, M, PTF v) K ↔ pm_Run d 36 5 [vA 60, vI l1, vI l2, vI l3, vI (l4 + 1)] [] (GF X, M, PTF v) K := by
  refine (px_go (by decide +kernel : pm_fe 36 35 = some (.iinc 4 1, 3)) rfl).trans ?_
  refine (px_goto (off := (-33)) (tgt := 5) (by decide +kernel)).trans ?_
  exact Iff.rfl
theorem r36_41 {d : Nat} {X : Nat × (Nat → Int)} {v : Nat → Int} {M : PH} {K : PV → PS → Prop} {l1 l2 l3 l4 : Int} : pm_Run d 36 41 [vA 60, vI l1, vI l2, vI l3, vI l4] [] (GF X, M, PTF v) K ↔ K (vI l3) (GF X, M, PTF v) := by
  refine (px_go (by decide +kernel : pm_fe 36 41 = some (.iload_n 3, 1)) rfl).trans ?_
  refine (px_ri (by decide +kernel)).trans ?_
  exact Iff.rfl
-- X2_spread spread(I)I
theorem r37_0 {d : Nat} {c : Nat} {X : Nat × (Nat → Int)} {v : Nat → Int} {M : PH} {K : PV → PS → Prop} {l1 : Int} (hc : isCh c) (hv2 : v 2 = ((c : Nat) : Int)) (h1 : inR (M c 0)) : pm_Run d 37 0 [vA 60, vI l1, PU] [] (GF X, M, PTF v) K ↔ if 0 < M c 0 then pm_Run d 37 12 [vA 60, vI l1, PU] [] (GF X, M, PTF v) K else pm_Run d 37 10 [vA 60, vI l1, PU] [] (GF X, M, PTF v) K := by
  refine (px_go (by decide +kernel : pm_fe 37 0 = some (.aload_n 0, 1)) rfl).trans ?_
  refine (ry_get2 (idx := 51) (ci := 2) (k := 7) (by decide +kernel : 60 < 283 ∧ SHF 60 = (2, 13)) (ptd2 hv2) (by decide +kernel)).trans ?_
  refine (ry_get0 (idx := 70) (ci := 1) (k := 0) (chs0 hc) (by decide +kernel)).trans ?_
  refine (ry_if_gt (off := 5) (tgt := 12) h1 (by decide +kernel)).trans ?_
  exact Iff.rfl
theorem r37_10 {d : Nat} {X : Nat × (Nat → Int)} {v : Nat → Int} {M : PH} {K : PV → PS → Prop} {l1 : Int} : pm_Run d 37 10 [vA 60, vI l1, PU] [] (GF X, M, PTF v) K ↔ K (vI 0) (GF X, M, PTF v) := by
  refine (px_go (by decide +kernel : pm_fe 37 10 = some (.iconst 0, 1)) rfl).trans ?_
  refine (px_ri (by decide +kernel)).trans ?_
  exact Iff.rfl
theorem r37_12 {d : Nat} {c : Nat} {X : Nat × (Nat → Int)} {v : Nat → Int} {M : PH} {K : PV → PS → Prop} {l1 : Int} (hc : isCh c) (hv2 : v 2 = ((c : Nat) : Int)) : pm_Run d 37 12 [vA 60, vI l1, PU] [] (GF X, M, PTF v) K ↔ K (vI (pm_and (pm_or (pm_or (pm_or (pm_or (pm_shl l1 1) l1) (pm_shr l1 1)) (pm_and (pm_shr l1 ((M c 0) - 1)) 1)) (pm_shl (pm_and l1 1) ((M c 0) - 1))) ((pm_shl 1 (M c 0)) - 1))) (GF X, M, PTF v) := by
  refine (px_go (by decide +kernel : pm_fe 37 12 = some (.iload_n 1, 1)) rfl).trans ?_
  refine (px_go (by decide +kernel : pm_fe 37 13 = some (.iconst 1, 1)) rfl).trans ?_
  refine (px_go (by decide +kernel : pm_fe 37 14 = some (.ishl, 1)) rfl).trans ?_
  refine (px_go (by decide +kernel : pm_fe 37 15 = some (.iload_n 1, 1)) rfl).trans ?_
  refine (px_go (by decide +kernel : pm_fe 37 16 = some (.ior, 1)) rfl).trans ?_
  refine (px_go (by decide +kernel : pm_fe 37 17 = some (.iload_n 1, 1)) rfl).trans ?_
  refine (px_go (by decide +kernel : pm_fe 37 18 = some (.iconst 1, 1)) rfl).trans ?_
  refine (px_go (by decide +kernel : pm_fe 37 19 = some (.ishr, 1)) rfl).trans ?_
  refine (px_go (by decide +kernel : pm_fe 37 20 = some (.ior, 1)) rfl).trans ?_
  refine (px_go (by decide +kernel : pm_fe 37 21 = some (.istore_n 2, 1)) rfl).trans ?_
  refine (px_go (by decide +kernel : pm_fe 37 22 = some (.iload_n 2, 1)) rfl).trans ?_
  refine (px_go (by decide +kernel : pm_fe 37 23 = some (.iload_n 1, 1)) rfl).trans ?_
  refine (px_go (by decide +kernel : pm_fe 37 24 = some (.aload_n 0, 1)) rfl).trans ?_
  refine (ry_get2 (idx := 51) (ci := 2) (k := 7) (by decide +kernel : 60 < 283 ∧ SHF 60 = (2, 13)) (ptd2 hv2) (by decide +kernel)).trans ?_
  refine (ry_get0 (idx := 70) (ci := 1) (k := 0) (chs0 hc) (by decide +kernel)).trans ?_
  refine (px_go (by decide +kernel : pm_fe 37 31 = some (.iconst 1, 1)) rfl).trans ?_
  refine (px_go (by decide +kernel : pm_fe 37 32 = some (.isub, 1)) rfl).trans ?_
  refine (px_go (by decide +kernel : pm_fe 37 33 = some (.ishr, 1)) rfl).trans ?_
  refine (px_go (by decide +kernel : pm_fe 37 34 = some (.iconst 1, 1)) rfl).trans ?_
  refine (px_go (by decide +kernel : pm_fe 37 35 = some (.iand, 1)) rfl).trans ?_
  refine (px_go (by decide +kernel : pm_fe 37 36 = some (.ior, 1)) rfl).trans ?_
  refine (px_go (by decide +kernel : pm_fe 37 37 = some (.istore_n 2, 1)) rfl).trans ?_
  refine (px_go (by decide +kernel : pm_fe 37 38 = some (.iload_n 2, 1)) rfl).trans ?_
  refine (px_go (by decide +kernel : pm_fe 37 39 = some (.iload_n 1, 1)) rfl).trans ?_
  refine (px_go (by decide +kernel : pm_fe 37 40 = some (.iconst 1, 1)) rfl).trans ?_
  refine (px_go (by decide +kernel : pm_fe 37 41 = some (.iand, 1)) rfl).trans ?_
  refine (px_go (by decide +kernel : pm_fe 37 42 = some (.aload_n 0, 1)) rfl).trans ?_
  refine (ry_get2 (idx := 51) (ci := 2) (k := 7) (by decide +kernel : 60 < 283 ∧ SHF 60 = (2, 13)) (ptd2 hv2) (by decide +kernel)).trans ?_
  refine (ry_get0 (idx := 70) (ci := 1) (k := 0) (chs0 hc) (by decide +kernel)).trans ?_
  refine (px_go (by decide +kernel : pm_fe 37 49 = some (.iconst 1, 1)) rfl).trans ?_
  refine (px_go (by decide +kernel : pm_fe 37 50 = some (.isub, 1)) rfl).trans ?_
  refine (px_go (by decide +kernel : pm_fe 37 51 = some (.ishl, 1)) rfl).trans ?_
  refine (px_go (by decide +kernel : pm_fe 37 52 = some (.ior, 1)) rfl).trans ?_
  refine (px_go (by decide +kernel : pm_fe 37 53 = some (.istore_n 2, 1)) rfl).trans ?_
  refine (px_go (by decide +kernel : pm_fe 37 54 = some (.iload_n 2, 1)) rfl).trans ?_
  refine (px_go (by decide +kernel : pm_fe 37 55 = some (.iconst 1, 1)) rfl).trans ?_
  refine (px_go (by decide +kernel : pm_fe 37 56 = some (.aload_n 0, 1)) rfl).trans ?_
  refine (ry_get2 (idx := 51) (ci := 2) (k := 7) (by decide +kernel : 60 < 283 ∧ SHF 60 = (2, 13)) (ptd2 hv2) (by decide +kernel)).trans ?_
  refine (ry_get0 (idx := 70) (ci := 1) (k := 0) (chs0 hc) (by decide +kernel)).trans ?_
  refine (px_go (by decide +kernel : pm_fe 37 63 = some (.ishl, 1)) rfl).trans ?_
  refine (px_go (by decide +kernel : pm_fe 37 64 = some (.iconst 1, 1)) rfl).trans ?_
  refine (px_go (by decide +kernel : pm_fe 37 65 = some (.isub, 1)) rfl).trans ?_
  refine (px_go (by decide +kernel : pm_fe 37 66 = some (.iand, 1)) rfl).trans ?_
  refine (px_ri (by decide +kernel)).trans ?_
  exact Iff.rfl
-- X2_write write(I)V
theorem r38_0 {d : Nat} {X : Nat × (Nat → Int)} {v : Nat → Int} {M : PH} {K : PV → PS → Prop} {l1 : Int} (h1 : inR l1) : pm_Run d 38 0 [vA 60, vI l1, PU, PU] [] (GF X, M, PTF v) K ↔ if l1 ≠ 0 then pm_Run d 38 25 [vA 60, vI l1, PU, PU] [] (GF X, M, PTF v) K else pm_Run d 38 4 [vA 60, vI l1, PU, PU] [] (GF X, M, PTF v) K := by
  refine (px_go (by decide +kernel : pm_fe 38 0 = some (.iload_n 1, 1)) rfl).trans ?_
  refine (ry_if_ne (off := 24) (tgt := 25) h1 (by decide +kernel)).trans ?_
  exact Iff.rfl
theorem r38_4 {d : Nat} {X : Nat × (Nat → Int)} {v : Nat → Int} {M : PH} {K : PV → PS → Prop} {l1 : Int} : pm_Run d 38 4 [vA 60, vI l1, PU, PU] [] (GF X, M, PTF v) K ↔ pm_Run d 38 25 [vA 60, vI l1, PU, PU] [] (GF X, pm_sa M 70 (pm_cp (M 62) (M 70) 0 0 72), PTF v) K := by
  refine (px_go (by decide +kernel : pm_fe 38 4 = some (.aload_n 0, 1)) rfl).trans ?_
  refine (ry_get2 (idx := 12) (ci := 2) (k := 0) (by decide +kernel : 60 < 283 ∧ SHF 60 = (2, 13)) (ptf_l (a := 60) (k := 0) (n := 61) (by decide +kernel)) (by decide +kernel)).trans ?_
  refine (ry_get2 (idx := 119) (ci := 9) (k := 0) (by decide +kernel : 61 < 283 ∧ SHF 61 = (9, 2)) (ptf_l (a := 61) (k := 0) (n := 62) (by decide +kernel)) (by decide +kernel)).trans ?_
  refine (px_go (by decide +kernel : pm_fe 38 11 = some (.iconst 0, 1)) rfl).trans ?_
  refine (px_go (by decide +kernel : pm_fe 38 12 = some (.aload_n 0, 1)) rfl).trans ?_
  refine (ry_get2 (idx := 25) (ci := 2) (k := 2) (by decide +kernel : 60 < 283 ∧ SHF 60 = (2, 13)) (ptf_l (a := 60) (k := 2) (n := 70) (by decide +kernel)) (by decide +kernel)).trans ?_
  refine (px_go (by decide +kernel : pm_fe 38 16 = some (.iconst 0, 1)) rfl).trans ?_
  refine (px_go (by decide +kernel : pm_fe 38 17 = some (.aload_n 0, 1)) rfl).trans ?_
  refine (ry_get2 (idx := 25) (ci := 2) (k := 2) (by decide +kernel : 60 < 283 ∧ SHF 60 = (2, 13)) (ptf_l (a := 60) (k := 2) (n := 70) (by decide +kernel)) (by decide +kernel)).trans ?_
  refine (ry_alen (by decide +kernel : 70 < 283 ∧ SHF 70 = (100, 72)) (by decide) (by decide +kernel)).trans ?_
  refine (ry_acpy (idx := 120) (by decide +kernel : 62 < 283 ∧ SHF 62 = (100, 72)) (by decide +kernel : 70 < 283 ∧ SHF 70 = (100, 72)) (by decide : 62 ≠ 70) (by decide : (0 : Int) ≤ (0 : Int) ∧ (0 : Int) ≤ (0 : Int) ∧ (0 : Int) ≤ (72 : Int) ∧ (0 : Int) + (72 : Int) ≤ (72 : Int) ∧ (0 : Int) + (72 : Int) ≤ (72 : Int)) (by simp [pm_wl_n, pm_wl_c, pm_w] : pm_wl [] ≤ 8) (by decide +kernel)).trans ?_
  exact Iff.rfl
theorem r38_25 {d : Nat} {X : Nat × (Nat → Int)} {v : Nat → Int} {M : PH} {K : PV → PS → Prop} {l1 : Int} (h1 : (0 : Int) ≤ 0 ∧ (0 : Int) ≤ (l1 * 24) ∧ (0 : Int) ≤ 24 ∧ (0 : Int) + 24 ≤ 24 ∧ ((l1 * 24) : Int) + 24 ≤ 1176) : pm_Run d 38 25 [vA 60, vI l1, PU, PU] [] (GF X, M, PTF v) K ↔ pm_Run d 38 46 [vA 60, vI l1, PU, PU] [] (GF X, pm_sa M 71 (pm_cp (M 63) (M 71) 0 (l1 * 24).toNat 24), PTF v) K := by
  refine (px_go (by decide +kernel : pm_fe 38 25 = some (.aload_n 0, 1)) rfl).trans ?_
  refine (ry_get2 (idx := 12) (ci := 2) (k := 0) (by decide +kernel : 60 < 283 ∧ SHF 60 = (2, 13)) (ptf_l (a := 60) (k := 0) (n := 61) (by decide +kernel)) (by decide +kernel)).trans ?_
  refine (ry_get2 (idx := 126) (ci := 9) (k := 1) (by decide +kernel : 61 < 283 ∧ SHF 61 = (9, 2)) (ptf_l (a := 61) (k := 1) (n := 63) (by decide +kernel)) (by decide +kernel)).trans ?_
  refine (px_go (by decide +kernel : pm_fe 38 32 = some (.iconst 0, 1)) rfl).trans ?_
  refine (px_go (by decide +kernel : pm_fe 38 33 = some (.aload_n 0, 1)) rfl).trans ?_
  refine (ry_get2 (idx := 29) (ci := 2) (k := 3) (by decide +kernel : 60 < 283 ∧ SHF 60 = (2, 13)) (ptf_l (a := 60) (k := 3) (n := 71) (by decide +kernel)) (by decide +kernel)).trans ?_
  refine (px_go (by decide +kernel : pm_fe 38 37 = some (.iload_n 1, 1)) rfl).trans ?_
  refine (px_go (by decide +kernel : pm_fe 38 38 = some (.bipush 24, 2)) rfl).trans ?_
  refine (px_go (by decide +kernel : pm_fe 38 40 = some (.imul, 1)) rfl).trans ?_
  refine (px_go (by decide +kernel : pm_fe 38 41 = some (.bipush 24, 2)) rfl).trans ?_
  refine (ry_acpy (idx := 120) (by decide +kernel : 63 < 283 ∧ SHF 63 = (100, 24)) (by decide +kernel : 71 < 283 ∧ SHF 71 = (100, 1176)) (by decide : 63 ≠ 71) h1 (by simp [pm_wl_n, pm_wl_c, pm_w] : pm_wl [] ≤ 8) (by decide +kernel)).trans ?_
  exact Iff.rfl
theorem r38_46 {d : Nat} {X : Nat × (Nat → Int)} {v : Nat → Int} {M : PH} {K : PV → PS → Prop} {l1 : Int} : pm_Run d 38 46 [vA 60, vI l1, PU, PU] [] (GF X, M, PTF v) K ↔ pm_Run d 38 48 [vA 60, vI l1, vI 0, PU] [] (GF X, M, PTF v) K := by
  refine (px_go (by decide +kernel : pm_fe 38 46 = some (.iconst 0, 1)) rfl).trans ?_
  refine (px_go (by decide +kernel : pm_fe 38 47 = some (.istore_n 2, 1)) rfl).trans ?_
  exact Iff.rfl
theorem r38_48 {d : Nat} {c : Nat} {X : Nat × (Nat → Int)} {v : Nat → Int} {M : PH} {K : PV → PS → Prop} {l1 l2 : Int} {l3 : PV} (hc : isCh c) (hv2 : v 2 = ((c : Nat) : Int)) (h1 : inR l2) (h2 : inR (M c 2)) : pm_Run d 38 48 [vA 60, vI l1, vI l2, l3] [] (GF X, M, PTF v) K ↔ if M c 2 ≤ l2 then pm_Run d 38 153 [vA 60, vI l1, vI l2, l3] [] (GF X, M, PTF v) K else pm_Run d 38 59 [vA 60, vI l1, vI l2, l3] [] (GF X, M, PTF v) K := by
  refine (px_go (by decide +kernel : pm_fe 38 48 = some (.iload_n 2, 1)) rfl).trans ?_
  refine (px_go (by decide +kernel : pm_fe 38 49 = some (.aload_n 0, 1)) rfl).trans ?_
  refine (ry_get2 (idx := 51) (ci := 2) (k := 7) (by decide +kernel : 60 < 283 ∧ SHF 60 = (2, 13)) (ptd2 hv2) (by decide +kernel)).trans ?_
  refine (ry_get0 (idx := 99) (ci := 1) (k := 2) (chs0 hc) (by decide +kernel)).trans ?_
  refine (ry_ic_ge (off := 97) (tgt := 153) h1 h2 (by decide +kernel)).trans ?_
  exact Iff.rfl
theorem r38_59 {d : Nat} {X : Nat × (Nat → Int)} {v : Nat → Int} {M : PH} {K : PV → PS → Prop} {l1 l2 : Int} {l3 : PV} (h1 : 0 ≤ l2) (h2 : l2 < 8) (h3 : 0 ≤ ((l1 * 8) + l2)) (h4 : ((l1 * 8) + l2) < 392) : pm_Run d 38 59 [vA 60, vI l1, vI l2, l3] [] (GF X, M, PTF v) K ↔ pm_Run d 38 79 [vA 60, vI l1, vI l2, l3] [] (GF X, pm_sa M 72 (pm_up (M 72) ((l1 * 8) + l2).toNat (M 67 l2.toNat)), PTF v) K := by
  refine (px_go (by decide +kernel : pm_fe 38 59 = some (.aload_n 0, 1)) rfl).trans ?_
  refine (ry_get2 (idx := 32) (ci := 2) (k := 4) (by decide +kernel : 60 < 283 ∧ SHF 60 = (2, 13)) (ptf_l (a := 60) (k := 4) (n := 72) (by decide +kernel)) (by decide +kernel)).trans ?_
  refine (px_go (by decide +kernel : pm_fe 38 63 = some (.iload_n 1, 1)) rfl).trans ?_
  refine (px_go (by decide +kernel : pm_fe 38 64 = some (.bipush 8, 2)) rfl).trans ?_
  refine (px_go (by decide +kernel : pm_fe 38 66 = some (.imul, 1)) rfl).trans ?_
  refine (px_go (by decide +kernel : pm_fe 38 67 = some (.iload_n 2, 1)) rfl).trans ?_
  refine (px_go (by decide +kernel : pm_fe 38 68 = some (.iadd, 1)) rfl).trans ?_
  refine (px_go (by decide +kernel : pm_fe 38 69 = some (.aload_n 0, 1)) rfl).trans ?_
  refine (ry_get2 (idx := 21) (ci := 2) (k := 1) (by decide +kernel : 60 < 283 ∧ SHF 60 = (2, 13)) (ptf_l (a := 60) (k := 1) (n := 64) (by decide +kernel)) (by decide +kernel)).trans ?_
  refine (ry_get2 (idx := 127) (ci := 5) (k := 3) (by decide +kernel : 64 < 283 ∧ SHF 64 = (5, 6)) (ptf_l (a := 64) (k := 3) (n := 67) (by decide +kernel)) (by decide +kernel)).trans ?_
  refine (px_go (by decide +kernel : pm_fe 38 76 = some (.iload_n 2, 1)) rfl).trans ?_
  refine (ry_iald (by decide +kernel : 67 < 283 ∧ SHF 67 = (100, 8)) h1 h2 (by decide +kernel)).trans ?_
  refine (ry_iast (by decide +kernel : 72 < 283 ∧ SHF 72 = (100, 392)) h3 h4 (by decide +kernel)).trans ?_
  exact Iff.rfl
theorem r38_79 {d : Nat} {X : Nat × (Nat → Int)} {v : Nat → Int} {M : PH} {K : PV → PS → Prop} {l1 l2 : Int} {l3 : PV} : pm_Run d 38 79 [vA 60, vI l1, vI l2, l3] [] (GF X, M, PTF v) K ↔ pm_Call d 61 [vA 64, vI l2] (GF X, M, PTF v) (fun r9 S1 => pm_Run d 38 97 [vA 60, vI l1, vI l2, l3] (pm_push r9 [vI ((l1 * 8) + l2), vA 73]) S1 K) := by
  refine (px_go (by decide +kernel : pm_fe 38 79 = some (.aload_n 0, 1)) rfl).trans ?_
  refine (ry_get2 (idx := 35) (ci := 2) (k := 5) (by decide +kernel : 60 < 283 ∧ SHF 60 = (2, 13)) (ptf_l (a := 60) (k := 5) (n := 73) (by decide +kernel)) (by decide +kernel)).trans ?_
  refine (px_go (by decide +kernel : pm_fe 38 83 = some (.iload_n 1, 1)) rfl).trans ?_
  refine (px_go (by decide +kernel : pm_fe 38 84 = some (.bipush 8, 2)) rfl).trans ?_
  refine (px_go (by decide +kernel : pm_fe 38 86 = some (.imul, 1)) rfl).trans ?_
  refine (px_go (by decide +kernel : pm_fe 38 87 = some (.iload_n 2, 1)) rfl).trans ?_
  refine (px_go (by decide +kernel : pm_fe 38 88 = some (.iadd, 1)) rfl).trans ?_
  refine (px_go (by decide +kernel : pm_fe 38 89 = some (.aload_n 0, 1)) rfl).trans ?_
  refine (ry_get2 (idx := 21) (ci := 2) (k := 1) (by decide +kernel : 60 < 283 ∧ SHF 60 = (2, 13)) (ptf_l (a := 60) (k := 1) (n := 64) (by decide +kernel)) (by decide +kernel)).trans ?_
  refine (px_go (by decide +kernel : pm_fe 38 93 = some (.iload_n 2, 1)) rfl).trans ?_
  refine (ry_v1 (idx := 130) (m' := 61) (ci := 5) (by decide +kernel : 64 < 283 ∧ SHF 64 = (5, 6)) (by simp [pm_wl_n, pm_wl_c, pm_w] : pm_wl [vI ((l1 * 8) + l2), vA 73] ≤ 8) (by decide +kernel)).trans ?_
  exact Iff.rfl
theorem r38_97 {d : Nat} {X : Nat × (Nat → Int)} {v : Nat → Int} {M : PH} {K : PV → PS → Prop} {l1 l2 s0 s1 : Int} {l3 : PV} (h1 : 0 ≤ s1) (h2 : s1 < 392) : pm_Run d 38 97 [vA 60, vI l1, vI l2, l3] [vI s0, vI s1, vA 73] (GF X, M, PTF v) K ↔ pm_Run d 38 98 [vA 60, vI l1, vI l2, l3] [] (GF X, pm_sa M 73 (pm_up (M 73) s1.toNat s0), PTF v) K := by
  refine (ry_iast (by decide +kernel : 73 < 283 ∧ SHF 73 = (100, 392)) h1 h2 (by decide +kernel)).trans ?_
  exact Iff.rfl
theorem r38_98 {d : Nat} {X : Nat × (Nat → Int)} {v : Nat → Int} {M : PH} {K : PV → PS → Prop} {l1 l2 : Int} {l3 : PV} (h1 : inR (M 60 10)) : pm_Run d 38 98 [vA 60, vI l1, vI l2, l3] [] (GF X, M, PTF v) K ↔ if M 60 10 ≠ (-1) then pm_Run d 38 125 [vA 60, vI l1, vI l2, l3] [] (GF X, M, PTF v) K else pm_Run d 38 106 [vA 60, vI l1, vI l2, l3] [] (GF X, M, PTF v) K := by
  refine (px_go (by decide +kernel : pm_fe 38 98 = some (.aload_n 0, 1)) rfl).trans ?_
  refine (ry_get0 (idx := 42) (ci := 2) (k := 10) (by decide +kernel : 60 < 283 ∧ SHF 60 = (2, 13)) (by decide +kernel)).trans ?_
  refine (px_go (by decide +kernel : pm_fe 38 102 = some (.iconst (-1), 1)) rfl).trans ?_
  refine (ry_ic_ne (off := 22) (tgt := 125) h1 (by decide : (-2147483648 ≤ ((-1) : Int) ∧ ((-1) : Int) < 2147483648)) (by decide +kernel)).trans ?_
  exact Iff.rfl
theorem r38_106 {d : Nat} {c : Nat} {X : Nat × (Nat → Int)} {v : Nat → Int} {M : PH} {K : PV → PS → Prop} {l1 l2 : Int} {l3 : PV} (hc : isCh c) (hv2 : v 2 = ((c : Nat) : Int)) : pm_Run d 38 106 [vA 60, vI l1, vI l2, l3] [] (GF X, M, PTF v) K ↔ pm_Call d 120 [vA 61, vA c, vA 64, vI l2] (GF X, M, PTF v) (fun r9 S1 => pm_Run d 38 122 [vA 60, vI l1, vI l2, l3] (pm_push r9 []) S1 K) := by
  refine (px_go (by decide +kernel : pm_fe 38 106 = some (.aload_n 0, 1)) rfl).trans ?_
  refine (ry_get2 (idx := 12) (ci := 2) (k := 0) (by decide +kernel : 60 < 283 ∧ SHF 60 = (2, 13)) (ptf_l (a := 60) (k := 0) (n := 61) (by decide +kernel)) (by decide +kernel)).trans ?_
  refine (px_go (by decide +kernel : pm_fe 38 110 = some (.aload_n 0, 1)) rfl).trans ?_
  refine (ry_get2 (idx := 51) (ci := 2) (k := 7) (by decide +kernel : 60 < 283 ∧ SHF 60 = (2, 13)) (ptd2 hv2) (by decide +kernel)).trans ?_
  refine (px_go (by decide +kernel : pm_fe 38 114 = some (.aload_n 0, 1)) rfl).trans ?_
  refine (ry_get2 (idx := 21) (ci := 2) (k := 1) (by decide +kernel : 60 < 283 ∧ SHF 60 = (2, 13)) (ptf_l (a := 60) (k := 1) (n := 64) (by decide +kernel)) (by decide +kernel)).trans ?_
  refine (px_go (by decide +kernel : pm_fe 38 118 = some (.iload_n 2, 1)) rfl).trans ?_
  refine (ry_v3 (idx := 133) (m' := 120) (ci := 9) (by decide +kernel : 61 < 283 ∧ SHF 61 = (9, 2)) (by simp [pm_wl_n, pm_wl_c, pm_w] : pm_wl [] ≤ 8) (by decide +kernel)).trans ?_
  exact Iff.rfl
theorem r38_122 {d : Nat} {X : Nat × (Nat → Int)} {v : Nat → Int} {M : PH} {K : PV → PS → Prop} {l1 l2 s0 : Int} {l3 : PV} : pm_Run d 38 122 [vA 60, vI l1, vI l2, l3] [vI s0] (GF X, M, PTF v) K ↔ pm_Run d 38 126 [vA 60, vI l1, vI l2, l3] [vI s0] (GF X, M, PTF v) K := by
  refine (px_goto (off := 4) (tgt := 126) (by decide +kernel)).trans ?_
  exact Iff.rfl
theorem r38_125 {d : Nat} {X : Nat × (Nat → Int)} {v : Nat → Int} {M : PH} {K : PV → PS → Prop} {l1 l2 : Int} {l3 : PV} : pm_Run d 38 125 [vA 60, vI l1, vI l2, l3] [] (GF X, M, PTF v) K ↔ pm_Run d 38 126 [vA 60, vI l1, vI l2, l3] [vI (-1)] (GF X, M, PTF v) K := by
  refine (px_go (by decide +kernel : pm_fe 38 125 = some (.iconst (-1), 1)) rfl).trans ?_
  exact Iff.rfl
theorem r38_126 {d : Nat} {X : Nat × (Nat → Int)} {v : Nat → Int} {M : PH} {K : PV → PS → Prop} {l1 l2 s0 : Int} {l3 : PV} (h1 : inR s0) : pm_Run d 38 126 [vA 60, vI l1, vI l2, l3] [vI s0] (GF X, M, PTF v) K ↔ if s0 = (-1) then pm_Run d 38 147 [vA 60, vI l1, vI l2, vI s0] [] (GF X, M, PTF v) K else pm_Run d 38 132 [vA 60, vI l1, vI l2, vI s0] [] (GF X, M, PTF v) K := by
  refine (px_go (by decide +kernel : pm_fe 38 126 = some (.istore_n 3, 1)) rfl).trans ?_
  refine (px_go (by decide +kernel : pm_fe 38 127 = some (.iload_n 3, 1)) rfl).trans ?_
  refine (px_go (by decide +kernel : pm_fe 38 128 = some (.iconst (-1), 1)) rfl).trans ?_
  refine (ry_ic_eq (off := 18) (tgt := 147) h1 (by decide : (-2147483648 ≤ ((-1) : Int) ∧ ((-1) : Int) < 2147483648)) (by decide +kernel)).trans ?_
  exact Iff.rfl
theorem r38_132 {d : Nat} {X : Nat × (Nat → Int)} {v : Nat → Int} {M : PH} {K : PV → PS → Prop} {l1 l2 l3 : Int} : pm_Run d 38 132 [vA 60, vI l1, vI l2, vI l3] [] (GF X, M, PTF v) K ↔ pm_Run d 38 137 [vA 60, vI l1, vI l2, vI l3] [] (GF X, pm_sa M 60 (pm_up (M 60) 10 l1), PTF v) K := by
  refine (px_go (by decide +kernel : pm_fe 38 132 = some (.aload_n 0, 1)) rfl).trans ?_
  refine (px_go (by decide +kernel : pm_fe 38 133 = some (.iload_n 1, 1)) rfl).trans ?_
  refine (ry_put0 (idx := 42) (ci := 2) (k := 10) (by decide +kernel : 60 < 283 ∧ SHF 60 = (2, 13)) (by decide +kernel)).trans ?_
  exact Iff.rfl
theorem r38_137 {d : Nat} {X : Nat × (Nat → Int)} {v : Nat → Int} {M : PH} {K : PV → PS → Prop} {l1 l2 l3 : Int} : pm_Run d 38 137 [vA 60, vI l1, vI l2, vI l3] [] (GF X, M, PTF v) K ↔ pm_Run d 38 142 [vA 60, vI l1, vI l2, vI l3] [] (GF X, pm_sa M 60 (pm_up (M 60) 11 l2), PTF v) K := by
  refine (px_go (by decide +kernel : pm_fe 38 137 = some (.aload_n 0, 1)) rfl).trans ?_
  refine (px_go (by decide +kernel : pm_fe 38 138 = some (.iload_n 2, 1)) rfl).trans ?_
  refine (ry_put0 (idx := 45) (ci := 2) (k := 11) (by decide +kernel : 60 < 283 ∧ SHF 60 = (2, 13)) (by decide +kernel)).trans ?_
  exact Iff.rfl
theorem r38_142 {d : Nat} {X : Nat × (Nat → Int)} {v : Nat → Int} {M : PH} {K : PV → PS → Prop} {l1 l2 l3 : Int} : pm_Run d 38 142 [vA 60, vI l1, vI l2, vI l3] [] (GF X, M, PTF v) K ↔ pm_Run d 38 147 [vA 60, vI l1, vI l2, vI l3] [] (GF X, pm_sa M 60 (pm_up (M 60) 12 l3), PTF v) K := by
  refine (px_go (by decide +kernel : pm_fe 38 142 = some (.aload_n 0, 1)) rfl).trans ?_
  refine (px_go (by decide +kernel : pm_fe 38 143 = some (.iload_n 3, 1)) rfl).trans ?_
  refine (ry_put0 (idx := 48) (ci := 2) (k := 12) (by decide +kernel : 60 < 283 ∧ SHF 60 = (2, 13)) (by decide +kernel)).trans ?_
  exact Iff.rfl
theorem r38_147 {d : Nat} {X : Nat × (Nat → Int)} {v : Nat → Int} {M : PH} {K : PV → PS → Prop} {l1 l2 l3 : Int} : pm_Run d 38 147 [vA 60, vI l1, vI l2, vI l3] [] (GF X, M, PTF v) K ↔ pm_Run d 38 48 [vA 60, vI l1, vI (l2 + 1), vI l3] [] (GF X, M, PTF v) K := by
  refine (px_go (by decide +kernel : pm_fe 38 147 = some (.iinc 2 1, 3)) rfl).trans ?_
  refine (px_goto (off := (-102)) (tgt := 48) (by decide +kernel)).trans ?_
  exact Iff.rfl
theorem r38_153 {d : Nat} {X : Nat × (Nat → Int)} {v : Nat → Int} {M : PH} {K : PV → PS → Prop} {l1 l2 : Int} {l3 : PV} : pm_Run d 38 153 [vA 60, vI l1, vI l2, l3] [] (GF X, M, PTF v) K ↔ K PU (GF X, M, PTF v) := by
  refine (px_rv (by decide +kernel)).trans ?_
  exact Iff.rfl
