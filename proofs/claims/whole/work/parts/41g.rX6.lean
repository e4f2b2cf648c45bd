-- X6_read read([BI)Z
theorem r67_0 {d : Nat} {c r nr : Nat} {X : Nat × (Nat → Int)} {v : Nat → Int} {M : PH} {K : PV → PS → Prop} {l2 : Int} (hc : isCh c) (hv1 : v 1 = ((c : Nat) : Int)) : pm_Run d 67 0 [vA 31, vA r, vI l2, PU] [] (GF X, M, PTF v) K ↔ pm_Call d 13 [vA c] (GF X, M, PTF v) (fun r9 S1 => pm_Run d 67 7 [vA 31, vA r, vI l2, PU] (pm_push r9 []) S1 K) := by
  refine (px_go (by decide +kernel : pm_fe 67 0 = some (.aload_n 0, 1)) rfl).trans ?_
  refine (ry_get2 (idx := 21) (ci := 6) (k := 1) (by decide +kernel : 31 < 283 ∧ SHF 31 = (6, 5)) (ptd1 hv1) (by decide +kernel)).trans ?_
  refine (ry_v0 (idx := 29) (m' := 13) (ci := 1) (chs0 hc) (by simp [pm_wl_n, pm_wl_c, pm_w] : pm_wl [] ≤ 8) (by decide +kernel)).trans ?_
  exact Iff.rfl
theorem r67_7 {d : Nat} {r nr : Nat} {X : Nat × (Nat → Int)} {v : Nat → Int} {M : PH} {K : PV → PS → Prop} {l2 : Int} : pm_Run d 67 7 [vA 31, vA r, vI l2, PU] [] (GF X, M, PTF v) K ↔ pm_Run d 67 12 [vA 31, vA r, vI l2, PU] [] (GF X, pm_sa M 31 (pm_up (M 31) 3 0), PTF v) K := by
  refine (px_go (by decide +kernel : pm_fe 67 7 = some (.aload_n 0, 1)) rfl).trans ?_
  refine (px_go (by decide +kernel : pm_fe 67 8 = some (.iconst 0, 1)) rfl).trans ?_
  refine (ry_put0 (idx := 32) (ci := 6) (k := 3) (by decide +kernel : 31 < 283 ∧ SHF 31 = (6, 5)) (by decide +kernel)).trans ?_
  exact Iff.rfl
theorem r67_12 {d : Nat} {r nr : Nat} {X : Nat × (Nat → Int)} {v : Nat → Int} {M : PH} {K : PV → PS → Prop} {l2 : Int} : pm_Run d 67 12 [vA 31, vA r, vI l2, PU] [] (GF X, M, PTF v) K ↔ pm_Run d 67 17 [vA 31, vA r, vI l2, PU] [] (GF X, pm_sa M 31 (pm_up (M 31) 4 (-1)), PTF v) K := by
  refine (px_go (by decide +kernel : pm_fe 67 12 = some (.aload_n 0, 1)) rfl).trans ?_
  refine (px_go (by decide +kernel : pm_fe 67 13 = some (.iconst (-1), 1)) rfl).trans ?_
  refine (ry_put0 (idx := 25) (ci := 6) (k := 4) (by decide +kernel : 31 < 283 ∧ SHF 31 = (6, 5)) (by decide +kernel)).trans ?_
  exact Iff.rfl
theorem r67_17 {d : Nat} {r nr : Nat} {X : Nat × (Nat → Int)} {v : Nat → Int} {M : PH} {K : PV → PS → Prop} {l2 : Int} : pm_Run d 67 17 [vA 31, vA r, vI l2, PU] [] (GF X, M, PTF v) K ↔ pm_Run d 67 22 [vA 31, vA r, vI l2, PU] [] (GF X, pm_sa M 31 (pm_up (M 31) 2 0), PTF v) K := by
  refine (px_go (by decide +kernel : pm_fe 67 17 = some (.aload_n 0, 1)) rfl).trans ?_
  refine (px_go (by decide +kernel : pm_fe 67 18 = some (.iconst 0, 1)) rfl).trans ?_
  refine (ry_put0 (idx := 35) (ci := 6) (k := 2) (by decide +kernel : 31 < 283 ∧ SHF 31 = (6, 5)) (by decide +kernel)).trans ?_
  exact Iff.rfl
theorem r67_22 {d : Nat} {r nr : Nat} {X : Nat × (Nat → Int)} {v : Nat → Int} {M : PH} {K : PV → PS → Prop} {l2 : Int} : pm_Run d 67 22 [vA 31, vA r, vI l2, PU] [] (GF X, M, PTF v) K ↔ pm_Call d 50 [vA 32, vA r, vI l2] (GF X, M, PTF v) (fun r9 S1 => pm_Run d 67 31 [vA 31, vA r, vI l2, PU] (pm_push r9 []) S1 K) := by
  refine (px_go (by decide +kernel : pm_fe 67 22 = some (.aload_n 0, 1)) rfl).trans ?_
  refine (ry_get2 (idx := 12) (ci := 6) (k := 0) (by decide +kernel : 31 < 283 ∧ SHF 31 = (6, 5)) (ptf_l (a := 31) (k := 0) (n := 32) (by decide +kernel)) (by decide +kernel)).trans ?_
  refine (px_go (by decide +kernel : pm_fe 67 26 = some (.aload_n 1, 1)) rfl).trans ?_
  refine (px_go (by decide +kernel : pm_fe 67 27 = some (.iload_n 2, 1)) rfl).trans ?_
  refine (ry_v2 (idx := 38) (m' := 50) (ci := 4) (by decide +kernel : 32 < 283 ∧ SHF 32 = (4, 9)) (by simp [pm_wl_n, pm_wl_c, pm_w] : pm_wl [] ≤ 8) (by decide +kernel)).trans ?_
  exact Iff.rfl
theorem r67_31 {d : Nat} {r nr : Nat} {X : Nat × (Nat → Int)} {v : Nat → Int} {M : PH} {K : PV → PS → Prop} {l2 : Int} : pm_Run d 67 31 [vA 31, vA r, vI l2, PU] [] (GF X, M, PTF v) K ↔ pm_Call d 51 [vA 32] (GF X, M, PTF v) (fun r9 S1 => pm_Run d 67 38 [vA 31, vA r, vI l2, PU] (pm_push r9 []) S1 K) := by
  refine (px_go (by decide +kernel : pm_fe 67 31 = some (.aload_n 0, 1)) rfl).trans ?_
  refine (ry_get2 (idx := 12) (ci := 6) (k := 0) (by decide +kernel : 31 < 283 ∧ SHF 31 = (6, 5)) (ptf_l (a := 31) (k := 0) (n := 32) (by decide +kernel)) (by decide +kernel)).trans ?_
  refine (ry_v0 (idx := 42) (m' := 51) (ci := 4) (by decide +kernel : 32 < 283 ∧ SHF 32 = (4, 9)) (by simp [pm_wl_n, pm_wl_c, pm_w] : pm_wl [] ≤ 8) (by decide +kernel)).trans ?_
  exact Iff.rfl
theorem r67_38 {d : Nat} {r nr : Nat} {X : Nat × (Nat → Int)} {v : Nat → Int} {M : PH} {K : PV → PS → Prop} {l2 : Int} (h1 : inR (M 32 4)) : pm_Run d 67 38 [vA 31, vA r, vI l2, PU] [] (GF X, M, PTF v) K ↔ if M 32 4 ≠ 0 then pm_Run d 67 52 [vA 31, vA r, vI l2, PU] [] (GF X, M, PTF v) K else pm_Run d 67 48 [vA 31, vA r, vI l2, PU] [] (GF X, M, PTF v) K := by
  refine (px_go (by decide +kernel : pm_fe 67 38 = some (.aload_n 0, 1)) rfl).trans ?_
  refine (ry_get2 (idx := 12) (ci := 6) (k := 0) (by decide +kernel : 31 < 283 ∧ SHF 31 = (6, 5)) (ptf_l (a := 31) (k := 0) (n := 32) (by decide +kernel)) (by decide +kernel)).trans ?_
  refine (ry_get0 (idx := 45) (ci := 4) (k := 4) (by decide +kernel : 32 < 283 ∧ SHF 32 = (4, 9)) (by decide +kernel)).trans ?_
  refine (ry_if_ne (off := 7) (tgt := 52) h1 (by decide +kernel)).trans ?_
  exact Iff.rfl
theorem r67_48 {d : Nat} {r nr : Nat} {X : Nat × (Nat → Int)} {v : Nat → Int} {M : PH} {K : PV → PS → Prop} {l2 : Int} : pm_Run d 67 48 [vA 31, vA r, vI l2, PU] [] (GF X, M, PTF v) K ↔ pm_Call d 70 [vA 31] (GF X, M, PTF v) (fun r9 S1 => pm_Run d 67 52 [vA 31, vA r, vI l2, PU] (pm_push r9 []) S1 K) := by
  refine (px_go (by decide +kernel : pm_fe 67 48 = some (.aload_n 0, 1)) rfl).trans ?_
  refine (ry_v0 (idx := 48) (m' := 70) (ci := 6) (by decide +kernel : 31 < 283 ∧ SHF 31 = (6, 5)) (by simp [pm_wl_n, pm_wl_c, pm_w] : pm_wl [] ≤ 8) (by decide +kernel)).trans ?_
  exact Iff.rfl
theorem r67_52 {d : Nat} {r nr : Nat} {X : Nat × (Nat → Int)} {v : Nat → Int} {M : PH} {K : PV → PS → Prop} {l2 : Int} : pm_Run d 67 52 [vA 31, vA r, vI l2, PU] [] (GF X, M, PTF v) K ↔ pm_Run d 67 54 [vA 31, vA r, vI l2, vI 0] [] (GF X, M, PTF v) K := by
  refine (px_go (by decide +kernel : pm_fe 67 52 = some (.iconst 0, 1)) rfl).trans ?_
  refine (px_go (by decide +kernel : pm_fe 67 53 = some (.istore_n 3, 1)) rfl).trans ?_
  exact Iff.rfl
theorem r67_54 {d : Nat} {r nr : Nat} {X : Nat × (Nat → Int)} {v : Nat → Int} {M : PH} {K : PV → PS → Prop} {l2 l3 : Int} (h1 : inR l3) : pm_Run d 67 54 [vA 31, vA r, vI l2, vI l3] [] (GF X, M, PTF v) K ↔ if 80 < l3 then pm_Run d 67 134 [vA 31, vA r, vI l2, vI l3] [] (GF X, M, PTF v) K else pm_Run d 67 60 [vA 31, vA r, vI l2, vI l3] [] (GF X, M, PTF v) K := by
  refine (px_go (by decide +kernel : pm_fe 67 54 = some (.iload_n 3, 1)) rfl).trans ?_
  refine (px_go (by decide +kernel : pm_fe 67 55 = some (.bipush 80, 2)) rfl).trans ?_
  refine (ry_ic_gt (off := 77) (tgt := 134) h1 (by decide : (-2147483648 ≤ (80 : Int) ∧ (80 : Int) < 2147483648)) (by decide +kernel)).trans ?_
  exact Iff.rfl
theorem r67_60 {d : Nat} {r nr : Nat} {X : Nat × (Nat → Int)} {v : Nat → Int} {M : PH} {K : PV → PS → Prop} {l2 l3 : Int} (h1 : inR (M 31 3)) : pm_Run d 67 60 [vA 31, vA r, vI l2, vI l3] [] (GF X, M, PTF v) K ↔ if M 31 3 ≠ 0 then pm_Run d 67 134 [vA 31, vA r, vI l2, vI l3] [] (GF X, M, PTF v) K else pm_Run d 67 67 [vA 31, vA r, vI l2, vI l3] [] (GF X, M, PTF v) K := by
  refine (px_go (by decide +kernel : pm_fe 67 60 = some (.aload_n 0, 1)) rfl).trans ?_
  refine (ry_get0 (idx := 32) (ci := 6) (k := 3) (by decide +kernel : 31 < 283 ∧ SHF 31 = (6, 5)) (by decide +kernel)).trans ?_
  refine (ry_if_ne (off := 70) (tgt := 134) h1 (by decide +kernel)).trans ?_
  exact Iff.rfl
theorem r67_67 {d : Nat} {r nr : Nat} {X : Nat × (Nat → Int)} {v : Nat → Int} {M : PH} {K : PV → PS → Prop} {l2 l3 : Int} (h1 : inR (M 32 4)) : pm_Run d 67 67 [vA 31, vA r, vI l2, vI l3] [] (GF X, M, PTF v) K ↔ if M 32 4 = 0 then pm_Run d 67 134 [vA 31, vA r, vI l2, vI l3] [] (GF X, M, PTF v) K else pm_Run d 67 77 [vA 31, vA r, vI l2, vI l3] [] (GF X, M, PTF v) K := by
  refine (px_go (by decide +kernel : pm_fe 67 67 = some (.aload_n 0, 1)) rfl).trans ?_
  refine (ry_get2 (idx := 12) (ci := 6) (k := 0) (by decide +kernel : 31 < 283 ∧ SHF 31 = (6, 5)) (ptf_l (a := 31) (k := 0) (n := 32) (by decide +kernel)) (by decide +kernel)).trans ?_
  refine (ry_get0 (idx := 45) (ci := 4) (k := 4) (by decide +kernel : 32 < 283 ∧ SHF 32 = (4, 9)) (by decide +kernel)).trans ?_
  refine (ry_if_eq (off := 60) (tgt := 134) h1 (by decide +kernel)).trans ?_
  exact Iff.rfl
theorem r67_77 {d : Nat} {r nr : Nat} {X : Nat × (Nat → Int)} {v : Nat → Int} {M : PH} {K : PV → PS → Prop} {l2 l3 : Int} (h1 : inR l3) : pm_Run d 67 77 [vA 31, vA r, vI l2, vI l3] [] (GF X, M, PTF v) K ↔ if l3 ≠ 80 then pm_Run d 67 99 [vA 31, vA r, vI l2, vI l3] [] (GF X, M, PTF v) K else pm_Run d 67 83 [vA 31, vA r, vI l2, vI l3] [] (GF X, M, PTF v) K := by
  refine (px_go (by decide +kernel : pm_fe 67 77 = some (.iload_n 3, 1)) rfl).trans ?_
  refine (px_go (by decide +kernel : pm_fe 67 78 = some (.bipush 80, 2)) rfl).trans ?_
  refine (ry_ic_ne (off := 19) (tgt := 99) h1 (by decide : (-2147483648 ≤ (80 : Int) ∧ (80 : Int) < 2147483648)) (by decide +kernel)).trans ?_
  exact Iff.rfl
theorem r67_83 {d : Nat} {r nr : Nat} {X : Nat × (Nat → Int)} {v : Nat → Int} {M : PH} {K : PV → PS → Prop} {l2 l3 : Int} : pm_Run d 67 83 [vA 31, vA r, vI l2, vI l3] [] (GF X, M, PTF v) K ↔ pm_Call d 69 [vA 31, vI 6, vI (M 32 5)] (GF X, M, PTF v) (fun r9 S1 => pm_Run d 67 96 [vA 31, vA r, vI l2, vI l3] (pm_push r9 []) S1 K) := by
  refine (px_go (by decide +kernel : pm_fe 67 83 = some (.aload_n 0, 1)) rfl).trans ?_
  refine (px_go (by decide +kernel : pm_fe 67 84 = some (.bipush 6, 2)) rfl).trans ?_
  refine (px_go (by decide +kernel : pm_fe 67 86 = some (.aload_n 0, 1)) rfl).trans ?_
  refine (ry_get2 (idx := 12) (ci := 6) (k := 0) (by decide +kernel : 31 < 283 ∧ SHF 31 = (6, 5)) (ptf_l (a := 31) (k := 0) (n := 32) (by decide +kernel)) (by decide +kernel)).trans ?_
  refine (ry_get0 (idx := 51) (ci := 4) (k := 5) (by decide +kernel : 32 < 283 ∧ SHF 32 = (4, 9)) (by decide +kernel)).trans ?_
  refine (ry_v2 (idx := 54) (m' := 69) (ci := 6) (by decide +kernel : 31 < 283 ∧ SHF 31 = (6, 5)) (by simp [pm_wl_n, pm_wl_c, pm_w] : pm_wl [] ≤ 8) (by decide +kernel)).trans ?_
  exact Iff.rfl
theorem r67_96 {d : Nat} {r nr : Nat} {X : Nat × (Nat → Int)} {v : Nat → Int} {M : PH} {K : PV → PS → Prop} {l2 l3 : Int} : pm_Run d 67 96 [vA 31, vA r, vI l2, vI l3] [] (GF X, M, PTF v) K ↔ pm_Run d 67 128 [vA 31, vA r, vI l2, vI l3] [] (GF X, M, PTF v) K := by
  refine (px_goto (off := 32) (tgt := 128) (by decide +kernel)).trans ?_
  exact Iff.rfl
theorem r67_99 {d : Nat} {r nr : Nat} {X : Nat × (Nat → Int)} {v : Nat → Int} {M : PH} {K : PV → PS → Prop} {l2 l3 : Int} (h1 : inR l3) : pm_Run d 67 99 [vA 31, vA r, vI l2, vI l3] [] (GF X, M, PTF v) K ↔ if l3 ≠ 0 then pm_Run d 67 108 [vA 31, vA r, vI l2, vI l3] [vA 31] (GF X, M, PTF v) K else pm_Run d 67 104 [vA 31, vA r, vI l2, vI l3] [vA 31] (GF X, M, PTF v) K := by
  refine (px_go (by decide +kernel : pm_fe 67 99 = some (.aload_n 0, 1)) rfl).trans ?_
  refine (px_go (by decide +kernel : pm_fe 67 100 = some (.iload_n 3, 1)) rfl).trans ?_
  refine (ry_if_ne (off := 7) (tgt := 108) h1 (by decide +kernel)).trans ?_
  exact Iff.rfl
theorem r67_104 {d : Nat} {r nr : Nat} {X : Nat × (Nat → Int)} {v : Nat → Int} {M : PH} {K : PV → PS → Prop} {l2 l3 : Int} : pm_Run d 67 104 [vA 31, vA r, vI l2, vI l3] [vA 31] (GF X, M, PTF v) K ↔ pm_Run d 67 109 [vA 31, vA r, vI l2, vI l3] [vI 1, vA 31] (GF X, M, PTF v) K := by
  refine (px_go (by decide +kernel : pm_fe 67 104 = some (.iconst 1, 1)) rfl).trans ?_
  refine (px_goto (off := 4) (tgt := 109) (by decide +kernel)).trans ?_
  exact Iff.rfl
theorem r67_108 {d : Nat} {r nr : Nat} {X : Nat × (Nat → Int)} {v : Nat → Int} {M : PH} {K : PV → PS → Prop} {l2 l3 : Int} : pm_Run d 67 108 [vA 31, vA r, vI l2, vI l3] [vA 31] (GF X, M, PTF v) K ↔ pm_Run d 67 109 [vA 31, vA r, vI l2, vI l3] [vI 0, vA 31] (GF X, M, PTF v) K := by
  refine (px_go (by decide +kernel : pm_fe 67 108 = some (.iconst 0, 1)) rfl).trans ?_
  exact Iff.rfl
theorem r67_109 {d : Nat} {r nr : Nat} {X : Nat × (Nat → Int)} {v : Nat → Int} {M : PH} {K : PV → PS → Prop} {l2 l3 s0 : Int} : pm_Run d 67 109 [vA 31, vA r, vI l2, vI l3] [vI s0, vA 31] (GF X, M, PTF v) K ↔ pm_Call d 82 [vA 31, vI s0] (GF X, M, PTF v) (fun r9 S1 => pm_Run d 67 112 [vA 31, vA r, vI l2, vI l3] (pm_push r9 []) S1 K) := by
  refine (ry_v1 (idx := 58) (m' := 82) (ci := 6) (by decide +kernel : 31 < 283 ∧ SHF 31 = (6, 5)) (by simp [pm_wl_n, pm_wl_c, pm_w] : pm_wl [] ≤ 8) (by decide +kernel)).trans ?_
  exact Iff.rfl
theorem r67_112 {d : Nat} {r nr : Nat} {X : Nat × (Nat → Int)} {v : Nat → Int} {M : PH} {K : PV → PS → Prop} {l2 l3 : Int} : pm_Run d 67 112 [vA 31, vA r, vI l2, vI l3] [] (GF X, M, PTF v) K ↔ pm_Call d 74 [vA 31, vI 59] (GF X, M, PTF v) (fun r9 S1 => pm_Run d 67 118 [vA 31, vA r, vI l2, vI l3] (pm_push r9 []) S1 K) := by
  refine (px_go (by decide +kernel : pm_fe 67 112 = some (.aload_n 0, 1)) rfl).trans ?_
  refine (px_go (by decide +kernel : pm_fe 67 113 = some (.bipush 59, 2)) rfl).trans ?_
  refine (ry_v1 (idx := 62) (m' := 74) (ci := 6) (by decide +kernel : 31 < 283 ∧ SHF 31 = (6, 5)) (by simp [pm_wl_n, pm_wl_c, pm_w] : pm_wl [] ≤ 8) (by decide +kernel)).trans ?_
  exact Iff.rfl
theorem r67_118 {d : Nat} {c r nr : Nat} {X : Nat × (Nat → Int)} {v : Nat → Int} {M : PH} {K : PV → PS → Prop} {l2 l3 : Int} (hc : isCh c) (hv1 : v 1 = ((c : Nat) : Int)) : pm_Run d 67 118 [vA 31, vA r, vI l2, vI l3] [] (GF X, M, PTF v) K ↔ pm_Run d 67 128 [vA 31, vA r, vI l2, vI l3] [] (GF X, pm_sa M c (pm_up (M c) 7 (l3 + 1)), PTF v) K := by
  refine (px_go (by decide +kernel : pm_fe 67 118 = some (.aload_n 0, 1)) rfl).trans ?_
  refine (ry_get2 (idx := 21) (ci := 6) (k := 1) (by decide +kernel : 31 < 283 ∧ SHF 31 = (6, 5)) (ptd1 hv1) (by decide +kernel)).trans ?_
  refine (px_go (by decide +kernel : pm_fe 67 122 = some (.iload_n 3, 1)) rfl).trans ?_
  refine (px_go (by decide +kernel : pm_fe 67 123 = some (.iconst 1, 1)) rfl).trans ?_
  refine (px_go (by decide +kernel : pm_fe 67 124 = some (.iadd, 1)) rfl).trans ?_
  refine (ry_put0 (idx := 66) (ci := 1) (k := 7) (chs0 hc) (by decide +kernel)).trans ?_
  exact Iff.rfl
theorem r67_128 {d : Nat} {r nr : Nat} {X : Nat × (Nat → Int)} {v : Nat → Int} {M : PH} {K : PV → PS → Prop} {l2 l3 : Int} : pm_Run d 67 128 [vA 31, vA r, vI l2, vI l3] [] (GF X, M, PTF v) K ↔ pm_Run d 67 54 [vA 31, vA r, vI l2, vI (l3 + 1)] [] (GF X, M, PTF v) K := by
  refine (px_go (by decide +kernel : pm_fe 67 128 = some (.iinc 3 1, 3)) rfl).trans ?_
  refine (px_goto (off := (-77)) (tgt := 54) (by decide +kernel)).trans ?_
  exact Iff.rfl
theorem r67_134 {d : Nat} {r nr : Nat} {X : Nat × (Nat → Int)} {v : Nat → Int} {M : PH} {K : PV → PS → Prop} {l2 l3 : Int} (h1 : inR (M 31 3)) : pm_Run d 67 134 [vA 31, vA r, vI l2, vI l3] [] (GF X, M, PTF v) K ↔ if M 31 3 ≠ 0 then pm_Run d 67 145 [vA 31, vA r, vI l2, vI l3] [] (GF X, M, PTF v) K else pm_Run d 67 141 [vA 31, vA r, vI l2, vI l3] [] (GF X, M, PTF v) K := by
  refine (px_go (by decide +kernel : pm_fe 67 134 = some (.aload_n 0, 1)) rfl).trans ?_
  refine (ry_get0 (idx := 32) (ci := 6) (k := 3) (by decide +kernel : 31 < 283 ∧ SHF 31 = (6, 5)) (by decide +kernel)).trans ?_
  refine (ry_if_ne (off := 7) (tgt := 145) h1 (by decide +kernel)).trans ?_
  exact Iff.rfl
theorem r67_141 {d : Nat} {r nr : Nat} {X : Nat × (Nat → Int)} {v : Nat → Int} {M : PH} {K : PV → PS → Prop} {l2 l3 : Int} : pm_Run d 67 141 [vA 31, vA r, vI l2, vI l3] [] (GF X, M, PTF v) K ↔ pm_Run d 67 146 [vA 31, vA r, vI l2, vI l3] [vI 1] (GF X, M, PTF v) K := by
  refine (px_go (by decide +kernel : pm_fe 67 141 = some (.iconst 1, 1)) rfl).trans ?_
  refine (px_goto (off := 4) (tgt := 146) (by decide +kernel)).trans ?_
  exact Iff.rfl
theorem r67_145 {d : Nat} {r nr : Nat} {X : Nat × (Nat → Int)} {v : Nat → Int} {M : PH} {K : PV → PS → Prop} {l2 l3 : Int} : pm_Run d 67 145 [vA 31, vA r, vI l2, vI l3] [] (GF X, M, PTF v) K ↔ pm_Run d 67 146 [vA 31, vA r, vI l2, vI l3] [vI 0] (GF X, M, PTF v) K := by
  refine (px_go (by decide +kernel : pm_fe 67 145 = some (.iconst 0, 1)) rfl).trans ?_
  exact Iff.rfl
theorem r67_146 {d : Nat} {r nr : Nat} {X : Nat × (Nat → Int)} {v : Nat → Int} {M : PH} {K : PV → PS → Prop} {l2 l3 s0 : Int} (h1 : s0 = 0 ∨ s0 = 1) : pm_Run d 67 146 [vA 31, vA r, vI l2, vI l3] [vI s0] (GF X, M, PTF v) K ↔ K (vI s0) (GF X, M, PTF v) := by
  refine (px_rz (by decide +kernel)).trans ((and_iff_right h1).trans ?_)
  exact Iff.rfl
-- X6_handOver handOver(LMoonTender$Chart;)LMoonTender$Chart;
-- X6_fail fail(II)V
theorem r69_0 {d : Nat} {X : Nat × (Nat → Int)} {v : Nat → Int} {M : PH} {K : PV → PS → Prop} {l1 l2 : Int} (h1 : inR (M 31 3)) : pm_Run d 69 0 [vA 31, vI l1, vI l2] [] (GF X, M, PTF v) K ↔ if M 31 3 ≠ 0 then pm_Run d 69 17 [vA 31, vI l1, vI l2] [] (GF X, M, PTF v) K else pm_Run d 69 7 [vA 31, vI l1, vI l2] [] (GF X, M, PTF v) K := by
  refine (px_go (by decide +kernel : pm_fe 69 0 = some (.aload_n 0, 1)) rfl).trans ?_
  refine (ry_get0 (idx := 32) (ci := 6) (k := 3) (by decide +kernel : 31 < 283 ∧ SHF 31 = (6, 5)) (by decide +kernel)).trans ?_
  refine (ry_if_ne (off := 13) (tgt := 17) h1 (by decide +kernel)).trans ?_
  exact Iff.rfl
theorem r69_7 {d : Nat} {X : Nat × (Nat → Int)} {v : Nat → Int} {M : PH} {K : PV → PS → Prop} {l1 l2 : Int} : pm_Run d 69 7 [vA 31, vI l1, vI l2] [] (GF X, M, PTF v) K ↔ pm_Run d 69 12 [vA 31, vI l1, vI l2] [] (GF X, pm_sa M 31 (pm_up (M 31) 3 l1), PTF v) K := by
  refine (px_go (by decide +kernel : pm_fe 69 7 = some (.aload_n 0, 1)) rfl).trans ?_
  refine (px_go (by decide +kernel : pm_fe 69 8 = some (.iload_n 1, 1)) rfl).trans ?_
  refine (ry_put0 (idx := 32) (ci := 6) (k := 3) (by decide +kernel : 31 < 283 ∧ SHF 31 = (6, 5)) (by decide +kernel)).trans ?_
  exact Iff.rfl
theorem r69_12 {d : Nat} {X : Nat × (Nat → Int)} {v : Nat → Int} {M : PH} {K : PV → PS → Prop} {l1 l2 : Int} : pm_Run d 69 12 [vA 31, vI l1, vI l2] [] (GF X, M, PTF v) K ↔ pm_Run d 69 17 [vA 31, vI l1, vI l2] [] (GF X, pm_sa M 31 (pm_up (M 31) 4 l2), PTF v) K := by
  refine (px_go (by decide +kernel : pm_fe 69 12 = some (.aload_n 0, 1)) rfl).trans ?_
  refine (px_go (by decide +kernel : pm_fe 69 13 = some (.iload_n 2, 1)) rfl).trans ?_
  refine (ry_put0 (idx := 25) (ci := 6) (k := 4) (by decide +kernel : 31 < 283 ∧ SHF 31 = (6, 5)) (by decide +kernel)).trans ?_
  exact Iff.rfl
theorem r69_17 {d : Nat} {X : Nat × (Nat → Int)} {v : Nat → Int} {M : PH} {K : PV → PS → Prop} {l1 l2 : Int} : pm_Run d 69 17 [vA 31, vI l1, vI l2] [] (GF X, M, PTF v) K ↔ pm_Run d 69 25 [vA 31, vI l1, vI l2] [] (GF X, pm_sa M 32 (pm_up (M 32) 4 4), PTF v) K := by
  refine (px_go (by decide +kernel : pm_fe 69 17 = some (.aload_n 0, 1)) rfl).trans ?_
  refine (ry_get2 (idx := 12) (ci := 6) (k := 0) (by decide +kernel : 31 < 283 ∧ SHF 31 = (6, 5)) (ptf_l (a := 31) (k := 0) (n := 32) (by decide +kernel)) (by decide +kernel)).trans ?_
  refine (px_go (by decide +kernel : pm_fe 69 21 = some (.iconst 4, 1)) rfl).trans ?_
  refine (ry_put0 (idx := 45) (ci := 4) (k := 4) (by decide +kernel : 32 < 283 ∧ SHF 32 = (4, 9)) (by decide +kernel)).trans ?_
  exact Iff.rfl
theorem r69_25 {d : Nat} {X : Nat × (Nat → Int)} {v : Nat → Int} {M : PH} {K : PV → PS → Prop} {l1 l2 : Int} : pm_Run d 69 25 [vA 31, vI l1, vI l2] [] (GF X, M, PTF v) K ↔ K PU (GF X, pm_sa M 32 (pm_up (M 32) 8 (-1)), PTF v) := by
  refine (px_go (by decide +kernel : pm_fe 69 25 = some (.aload_n 0, 1)) rfl).trans ?_
  refine (ry_get2 (idx := 12) (ci := 6) (k := 0) (by decide +kernel : 31 < 283 ∧ SHF 31 = (6, 5)) (ptf_l (a := 31) (k := 0) (n := 32) (by decide +kernel)) (by decide +kernel)).trans ?_
  refine (px_go (by decide +kernel : pm_fe 69 29 = some (.iconst (-1), 1)) rfl).trans ?_
  refine (ry_put0 (idx := 69) (ci := 4) (k := 8) (by decide +kernel : 32 < 283 ∧ SHF 32 = (4, 9)) (by decide +kernel)).trans ?_
  refine (px_rv (by decide +kernel)).trans ?_
  exact Iff.rfl
-- X6_wrong wrong()V
theorem r70_0 {d : Nat} {X : Nat × (Nat → Int)} {v : Nat → Int} {M : PH} {K : PV → PS → Prop} : pm_Run d 70 0 [vA 31] [] (GF X, M, PTF v) K ↔ pm_Call d 69 [vA 31, vI 1, vI (M 32 6)] (GF X, M, PTF v) (fun r9 S1 => pm_Run d 70 12 [vA 31] (pm_push r9 []) S1 K) := by
  refine (px_go (by decide +kernel : pm_fe 70 0 = some (.aload_n 0, 1)) rfl).trans ?_
  refine (px_go (by decide +kernel : pm_fe 70 1 = some (.iconst 1, 1)) rfl).trans ?_
  refine (px_go (by decide +kernel : pm_fe 70 2 = some (.aload_n 0, 1)) rfl).trans ?_
  refine (ry_get2 (idx := 12) (ci := 6) (k := 0) (by decide +kernel : 31 < 283 ∧ SHF 31 = (6, 5)) (ptf_l (a := 31) (k := 0) (n := 32) (by decide +kernel)) (by decide +kernel)).trans ?_
  refine (ry_get0 (idx := 72) (ci := 4) (k := 6) (by decide +kernel : 32 < 283 ∧ SHF 32 = (4, 9)) (by decide +kernel)).trans ?_
  refine (ry_v2 (idx := 54) (m' := 69) (ci := 6) (by decide +kernel : 31 < 283 ∧ SHF 31 = (6, 5)) (by simp [pm_wl_n, pm_wl_c, pm_w] : pm_wl [] ≤ 8) (by decide +kernel)).trans ?_
  exact Iff.rfl
theorem r70_12 {d : Nat} {X : Nat × (Nat → Int)} {v : Nat → Int} {M : PH} {K : PV → PS → Prop} : pm_Run d 70 12 [vA 31] [] (GF X, M, PTF v) K ↔ K PU (GF X, M, PTF v) := by
  refine (px_rv (by decide +kernel)).trans ?_
  exact Iff.rfl
-- X6_isWord isWord(I)Z
theorem r71_0 {d : Nat} {X : Nat × (Nat → Int)} {v : Nat → Int} {M : PH} {K : PV → PS → Prop} {l1 : Int} (h1 : inR (M 32 4)) : pm_Run d 71 0 [vA 31, vI l1] [] (GF X, M, PTF v) K ↔ if M 32 4 ≠ 1 then pm_Run d 71 26 [vA 31, vI l1] [] (GF X, M, PTF v) K else pm_Run d 71 11 [vA 31, vI l1] [] (GF X, M, PTF v) K := by
  refine (px_go (by decide +kernel : pm_fe 71 0 = some (.aload_n 0, 1)) rfl).trans ?_
  refine (ry_get2 (idx := 12) (ci := 6) (k := 0) (by decide +kernel : 31 < 283 ∧ SHF 31 = (6, 5)) (ptf_l (a := 31) (k := 0) (n := 32) (by decide +kernel)) (by decide +kernel)).trans ?_
  refine (ry_get0 (idx := 45) (ci := 4) (k := 4) (by decide +kernel : 32 < 283 ∧ SHF 32 = (4, 9)) (by decide +kernel)).trans ?_
  refine (px_go (by decide +kernel : pm_fe 71 7 = some (.iconst 1, 1)) rfl).trans ?_
  refine (ry_ic_ne (off := 18) (tgt := 26) h1 (by decide : (-2147483648 ≤ (1 : Int) ∧ (1 : Int) < 2147483648)) (by decide +kernel)).trans ?_
  exact Iff.rfl
theorem r71_11 {d : Nat} {X : Nat × (Nat → Int)} {v : Nat → Int} {M : PH} {K : PV → PS → Prop} {l1 : Int} (h1 : inR (M 32 8)) (h2 : inR l1) : pm_Run d 71 11 [vA 31, vI l1] [] (GF X, M, PTF v) K ↔ if M 32 8 ≠ l1 then pm_Run d 71 26 [vA 31, vI l1] [] (GF X, M, PTF v) K else pm_Run d 71 22 [vA 31, vI l1] [] (GF X, M, PTF v) K := by
  refine (px_go (by decide +kernel : pm_fe 71 11 = some (.aload_n 0, 1)) rfl).trans ?_
  refine (ry_get2 (idx := 12) (ci := 6) (k := 0) (by decide +kernel : 31 < 283 ∧ SHF 31 = (6, 5)) (ptf_l (a := 31) (k := 0) (n := 32) (by decide +kernel)) (by decide +kernel)).trans ?_
  refine (ry_get0 (idx := 69) (ci := 4) (k := 8) (by decide +kernel : 32 < 283 ∧ SHF 32 = (4, 9)) (by decide +kernel)).trans ?_
  refine (px_go (by decide +kernel : pm_fe 71 18 = some (.iload_n 1, 1)) rfl).trans ?_
  refine (ry_ic_ne (off := 7) (tgt := 26) h1 h2 (by decide +kernel)).trans ?_
  exact Iff.rfl
theorem r71_22 {d : Nat} {X : Nat × (Nat → Int)} {v : Nat → Int} {M : PH} {K : PV → PS → Prop} {l1 : Int} : pm_Run d 71 22 [vA 31, vI l1] [] (GF X, M, PTF v) K ↔ pm_Run d 71 27 [vA 31, vI l1] [vI 1] (GF X, M, PTF v) K := by
  refine (px_go (by decide +kernel : pm_fe 71 22 = some (.iconst 1, 1)) rfl).trans ?_
  refine (px_goto (off := 4) (tgt := 27) (by decide +kernel)).trans ?_
  exact Iff.rfl
theorem r71_26 {d : Nat} {X : Nat × (Nat → Int)} {v : Nat → Int} {M : PH} {K : PV → PS → Prop} {l1 : Int} : pm_Run d 71 26 [vA 31, vI l1] [] (GF X, M, PTF v) K ↔ pm_Run d 71 27 [vA 31, vI l1] [vI 0] (GF X, M, PTF v) K := by
  refine (px_go (by decide +kernel : pm_fe 71 26 = some (.iconst 0, 1)) rfl).trans ?_
  exact Iff.rfl
theorem r71_27 {d : Nat} {X : Nat × (Nat → Int)} {v : Nat → Int} {M : PH} {K : PV → PS → Prop} {l1 s0 : Int} (h1 : s0 = 0 ∨ s0 = 1) : pm_Run d 71 27 [vA 31, vI l1] [vI s0] (GF X, M, PTF v) K ↔ K (vI s0) (GF X, M, PTF v) := by
  refine (px_rz (by decide +kernel)).trans ((and_iff_right h1).trans ?_)
  exact Iff.rfl
-- X6_isSign isSign(I)Z
theorem r72_0 {d : Nat} {X : Nat × (Nat → Int)} {v : Nat → Int} {M : PH} {K : PV → PS → Prop} {l1 : Int} (h1 : inR (M 32 4)) : pm_Run d 72 0 [vA 31, vI l1] [] (GF X, M, PTF v) K ↔ if M 32 4 ≠ 3 then pm_Run d 72 26 [vA 31, vI l1] [] (GF X, M, PTF v) K else pm_Run d 72 11 [vA 31, vI l1] [] (GF X, M, PTF v) K := by
  refine (px_go (by decide +kernel : pm_fe 72 0 = some (.aload_n 0, 1)) rfl).trans ?_
  refine (ry_get2 (idx := 12) (ci := 6) (k := 0) (by decide +kernel : 31 < 283 ∧ SHF 31 = (6, 5)) (ptf_l (a := 31) (k := 0) (n := 32) (by decide +kernel)) (by decide +kernel)).trans ?_
  refine (ry_get0 (idx := 45) (ci := 4) (k := 4) (by decide +kernel : 32 < 283 ∧ SHF 32 = (4, 9)) (by decide +kernel)).trans ?_
  refine (px_go (by decide +kernel : pm_fe 72 7 = some (.iconst 3, 1)) rfl).trans ?_
  refine (ry_ic_ne (off := 18) (tgt := 26) h1 (by decide : (-2147483648 ≤ (3 : Int) ∧ (3 : Int) < 2147483648)) (by decide +kernel)).trans ?_
  exact Iff.rfl
theorem r72_11 {d : Nat} {X : Nat × (Nat → Int)} {v : Nat → Int} {M : PH} {K : PV → PS → Prop} {l1 : Int} (h1 : inR (M 32 7)) (h2 : inR l1) : pm_Run d 72 11 [vA 31, vI l1] [] (GF X, M, PTF v) K ↔ if M 32 7 ≠ l1 then pm_Run d 72 26 [vA 31, vI l1] [] (GF X, M, PTF v) K else pm_Run d 72 22 [vA 31, vI l1] [] (GF X, M, PTF v) K := by
  refine (px_go (by decide +kernel : pm_fe 72 11 = some (.aload_n 0, 1)) rfl).trans ?_
  refine (ry_get2 (idx := 12) (ci := 6) (k := 0) (by decide +kernel : 31 < 283 ∧ SHF 31 = (6, 5)) (ptf_l (a := 31) (k := 0) (n := 32) (by decide +kernel)) (by decide +kernel)).trans ?_
  refine (ry_get0 (idx := 75) (ci := 4) (k := 7) (by decide +kernel : 32 < 283 ∧ SHF 32 = (4, 9)) (by decide +kernel)).trans ?_
  refine (px_go (by decide +kernel : pm_fe 72 18 = some (.iload_n 1, 1)) rfl).trans ?_
  refine (ry_ic_ne (off := 7) (tgt := 26) h1 h2 (by decide +kernel)).trans ?_
  exact Iff.rfl
theorem r72_22 {d : Nat} {X : Nat × (Nat → Int)} {v : Nat → Int} {M : PH} {K : PV → PS → Prop} {l1 : Int} : pm_Run d 72 22 [vA 31, vI l1] [] (GF X, M, PTF v) K ↔ pm_Run d 72 27 [vA 31, vI l1] [vI 1] (GF X, M, PTF v) K := by
  refine (px_go (by decide +kernel : pm_fe 72 22 = some (.iconst 1, 1)) rfl).trans ?_
  refine (px_goto (off := 4) (tgt := 27) (by decide +kernel)).trans ?_
  exact Iff.rfl
theorem r72_26 {d : Nat} {X : Nat × (Nat → Int)} {v : Nat → Int} {M : PH} {K : PV → PS → Prop} {l1 : Int} : pm_Run d 72 26 [vA 31, vI l1] [] (GF X, M, PTF v) K ↔ pm_Run d 72 27 [vA 31, vI l1] [vI 0] (GF X, M, PTF v) K := by
  refine (px_go (by decide +kernel : pm_fe 72 26 = some (.iconst 0, 1)) rfl).trans ?_
  exact Iff.rfl
theorem r72_27 {d : Nat} {X : Nat × (Nat → Int)} {v : Nat → Int} {M : PH} {K : PV → PS → Prop} {l1 s0 : Int} (h1 : s0 = 0 ∨ s0 = 1) : pm_Run d 72 27 [vA 31, vI l1] [vI s0] (GF X, M, PTF v) K ↔ K (vI s0) (GF X, M, PTF v) := by
  refine (px_rz (by decide +kernel)).trans ((and_iff_right h1).trans ?_)
  exact Iff.rfl
-- X6_word word(I)V
theorem r73_0 {d : Nat} {X : Nat × (Nat → Int)} {v : Nat → Int} {M : PH} {K : PV → PS → Prop} {l1 : Int} : pm_Run d 73 0 [vA 31, vI l1] [] (GF X, M, PTF v) K ↔ pm_Call d 71 [vA 31, vI l1] (GF X, M, PTF v) (fun r9 S1 => pm_Run d 73 5 [vA 31, vI l1] (pm_push r9 []) S1 K) := by
  refine (px_go (by decide +kernel : pm_fe 73 0 = some (.aload_n 0, 1)) rfl).trans ?_
  refine (px_go (by decide +kernel : pm_fe 73 1 = some (.iload_n 1, 1)) rfl).trans ?_
  refine (ry_v1 (idx := 78) (m' := 71) (ci := 6) (by decide +kernel : 31 < 283 ∧ SHF 31 = (6, 5)) (by simp [pm_wl_n, pm_wl_c, pm_w] : pm_wl [] ≤ 8) (by decide +kernel)).trans ?_
  exact Iff.rfl
theorem r73_5 {d : Nat} {X : Nat × (Nat → Int)} {v : Nat → Int} {M : PH} {K : PV → PS → Prop} {l1 s0 : Int} (h1 : inR s0) : pm_Run d 73 5 [vA 31, vI l1] [vI s0] (GF X, M, PTF v) K ↔ if s0 = 0 then pm_Run d 73 18 [vA 31, vI l1] [] (GF X, M, PTF v) K else pm_Run d 73 8 [vA 31, vI l1] [] (GF X, M, PTF v) K := by
  refine (ry_if_eq (off := 13) (tgt := 18) h1 (by decide +kernel)).trans ?_
  exact Iff.rfl
theorem r73_8 {d : Nat} {X : Nat × (Nat → Int)} {v : Nat → Int} {M : PH} {K : PV → PS → Prop} {l1 : Int} : pm_Run d 73 8 [vA 31, vI l1] [] (GF X, M, PTF v) K ↔ pm_Call d 51 [vA 32] (GF X, M, PTF v) (fun r9 S1 => pm_Run d 73 15 [vA 31, vI l1] (pm_push r9 []) S1 K) := by
  refine (px_go (by decide +kernel : pm_fe 73 8 = some (.aload_n 0, 1)) rfl).trans ?_
  refine (ry_get2 (idx := 12) (ci := 6) (k := 0) (by decide +kernel : 31 < 283 ∧ SHF 31 = (6, 5)) (ptf_l (a := 31) (k := 0) (n := 32) (by decide +kernel)) (by decide +kernel)).trans ?_
  refine (ry_v0 (idx := 42) (m' := 51) (ci := 4) (by decide +kernel : 32 < 283 ∧ SHF 32 = (4, 9)) (by simp [pm_wl_n, pm_wl_c, pm_w] : pm_wl [] ≤ 8) (by decide +kernel)).trans ?_
  exact Iff.rfl
theorem r73_15 {d : Nat} {X : Nat × (Nat → Int)} {v : Nat → Int} {M : PH} {K : PV → PS → Prop} {l1 : Int} : pm_Run d 73 15 [vA 31, vI l1] [] (GF X, M, PTF v) K ↔ pm_Run d 73 22 [vA 31, vI l1] [] (GF X, M, PTF v) K := by
  refine (px_goto (off := 7) (tgt := 22) (by decide +kernel)).trans ?_
  exact Iff.rfl
theorem r73_18 {d : Nat} {X : Nat × (Nat → Int)} {v : Nat → Int} {M : PH} {K : PV → PS → Prop} {l1 : Int} : pm_Run d 73 18 [vA 31, vI l1] [] (GF X, M, PTF v) K ↔ pm_Call d 70 [vA 31] (GF X, M, PTF v) (fun r9 S1 => pm_Run d 73 22 [vA 31, vI l1] (pm_push r9 []) S1 K) := by
  refine (px_go (by decide +kernel : pm_fe 73 18 = some (.aload_n 0, 1)) rfl).trans ?_
  refine (ry_v0 (idx := 48) (m' := 70) (ci := 6) (by decide +kernel : 31 < 283 ∧ SHF 31 = (6, 5)) (by simp [pm_wl_n, pm_wl_c, pm_w] : pm_wl [] ≤ 8) (by decide +kernel)).trans ?_
  exact Iff.rfl
theorem r73_22 {d : Nat} {X : Nat × (Nat → Int)} {v : Nat → Int} {M : PH} {K : PV → PS → Prop} {l1 : Int} : pm_Run d 73 22 [vA 31, vI l1] [] (GF X, M, PTF v) K ↔ K PU (GF X, M, PTF v) := by
  refine (px_rv (by decide +kernel)).trans ?_
  exact Iff.rfl
-- X6_sign sign(I)V
theorem r74_0 {d : Nat} {X : Nat × (Nat → Int)} {v : Nat → Int} {M : PH} {K : PV → PS → Prop} {l1 : Int} : pm_Run d 74 0 [vA 31, vI l1] [] (GF X, M, PTF v) K ↔ pm_Call d 72 [vA 31, vI l1] (GF X, M, PTF v) (fun r9 S1 => pm_Run d 74 5 [vA 31, vI l1] (pm_push r9 []) S1 K) := by
  refine (px_go (by decide +kernel : pm_fe 74 0 = some (.aload_n 0, 1)) rfl).trans ?_
  refine (px_go (by decide +kernel : pm_fe 74 1 = some (.iload_n 1, 1)) rfl).trans ?_
  refine (ry_v1 (idx := 82) (m' := 72) (ci := 6) (by decide +kernel : 31 < 283 ∧ SHF 31 = (6, 5)) (by simp [pm_wl_n, pm_wl_c, pm_w] : pm_wl [] ≤ 8) (by decide +kernel)).trans ?_
  exact Iff.rfl
theorem r74_5 {d : Nat} {X : Nat × (Nat → Int)} {v : Nat → Int} {M : PH} {K : PV → PS → Prop} {l1 s0 : Int} (h1 : inR s0) : pm_Run d 74 5 [vA 31, vI l1] [vI s0] (GF X, M, PTF v) K ↔ if s0 = 0 then pm_Run d 74 18 [vA 31, vI l1] [] (GF X, M, PTF v) K else pm_Run d 74 8 [vA 31, vI l1] [] (GF X, M, PTF v) K := by
  refine (ry_if_eq (off := 13) (tgt := 18) h1 (by decide +kernel)).trans ?_
  exact Iff.rfl
theorem r74_8 {d : Nat} {X : Nat × (Nat → Int)} {v : Nat → Int} {M : PH} {K : PV → PS → Prop} {l1 : Int} : pm_Run d 74 8 [vA 31, vI l1] [] (GF X, M, PTF v) K ↔ pm_Call d 51 [vA 32] (GF X, M, PTF v) (fun r9 S1 => pm_Run d 74 15 [vA 31, vI l1] (pm_push r9 []) S1 K) := by
  refine (px_go (by decide +kernel : pm_fe 74 8 = some (.aload_n 0, 1)) rfl).trans ?_
  refine (ry_get2 (idx := 12) (ci := 6) (k := 0) (by decide +kernel : 31 < 283 ∧ SHF 31 = (6, 5)) (ptf_l (a := 31) (k := 0) (n := 32) (by decide +kernel)) (by decide +kernel)).trans ?_
  refine (ry_v0 (idx := 42) (m' := 51) (ci := 4) (by decide +kernel : 32 < 283 ∧ SHF 32 = (4, 9)) (by simp [pm_wl_n, pm_wl_c, pm_w] : pm_wl [] ≤ 8) (by decide +kernel)).trans ?_
  exact Iff.rfl
theorem r74_15 {d : Nat} {X : Nat × (Nat → Int)} {v : Nat → Int} {M : PH} {K : PV → PS → Prop} {l1 : Int} : pm_Run d 74 15 [vA 31, vI l1] [] (GF X, M, PTF v) K ↔ pm_Run d 74 22 [vA 31, vI l1] [] (GF X, M, PTF v) K := by
  refine (px_goto (off := 7) (tgt := 22) (by decide +kernel)).trans ?_
  exact Iff.rfl
theorem r74_18 {d : Nat} {X : Nat × (Nat → Int)} {v : Nat → Int} {M : PH} {K : PV → PS → Prop} {l1 : Int} : pm_Run d 74 18 [vA 31, vI l1] [] (GF X, M, PTF v) K ↔ pm_Call d 70 [vA 31] (GF X, M, PTF v) (fun r9 S1 => pm_Run d 74 22 [vA 31, vI l1] (pm_push r9 []) S1 K) := by
  refine (px_go (by decide +kernel : pm_fe 74 18 = some (.aload_n 0, 1)) rfl).trans ?_
  refine (ry_v0 (idx := 48) (m' := 70) (ci := 6) (by decide +kernel : 31 < 283 ∧ SHF 31 = (6, 5)) (by simp [pm_wl_n, pm_wl_c, pm_w] : pm_wl [] ≤ 8) (by decide +kernel)).trans ?_
  exact Iff.rfl
theorem r74_22 {d : Nat} {X : Nat × (Nat → Int)} {v : Nat → Int} {M : PH} {K : PV → PS → Prop} {l1 : Int} : pm_Run d 74 22 [vA 31, vI l1] [] (GF X, M, PTF v) K ↔ K PU (GF X, M, PTF v) := by
  refine (px_rv (by decide +kernel)).trans ?_
  exact Iff.rfl
-- X6_number number(II)I
theorem r75_0 {d : Nat} {X : Nat × (Nat → Int)} {v : Nat → Int} {M : PH} {K : PV → PS → Prop} {l1 l2 : Int} (h1 : inR (M 32 4)) : pm_Run d 75 0 [vA 31, vI l1, vI l2, PU] [] (GF X, M, PTF v) K ↔ if M 32 4 = 2 then pm_Run d 75 26 [vA 31, vI l1, vI l2, vI (M 32 7)] [] (GF X, M, PTF v) K else pm_Run d 75 19 [vA 31, vI l1, vI l2, vI (M 32 7)] [] (GF X, M, PTF v) K := by
  refine (px_go (by decide +kernel : pm_fe 75 0 = some (.aload_n 0, 1)) rfl).trans ?_
  refine (ry_get2 (idx := 12) (ci := 6) (k := 0) (by decide +kernel : 31 < 283 ∧ SHF 31 = (6, 5)) (ptf_l (a := 31) (k := 0) (n := 32) (by decide +kernel)) (by decide +kernel)).trans ?_
  refine (ry_get0 (idx := 75) (ci := 4) (k := 7) (by decide +kernel : 32 < 283 ∧ SHF 32 = (4, 9)) (by decide +kernel)).trans ?_
  refine (px_go (by decide +kernel : pm_fe 75 7 = some (.istore_n 3, 1)) rfl).trans ?_
  refine (px_go (by decide +kernel : pm_fe 75 8 = some (.aload_n 0, 1)) rfl).trans ?_
  refine (ry_get2 (idx := 12) (ci := 6) (k := 0) (by decide +kernel : 31 < 283 ∧ SHF 31 = (6, 5)) (ptf_l (a := 31) (k := 0) (n := 32) (by decide +kernel)) (by decide +kernel)).trans ?_
  refine (ry_get0 (idx := 45) (ci := 4) (k := 4) (by decide +kernel : 32 < 283 ∧ SHF 32 = (4, 9)) (by decide +kernel)).trans ?_
  refine (px_go (by decide +kernel : pm_fe 75 15 = some (.iconst 2, 1)) rfl).trans ?_
  refine (ry_ic_eq (off := 10) (tgt := 26) h1 (by decide : (-2147483648 ≤ (2 : Int) ∧ (2 : Int) < 2147483648)) (by decide +kernel)).trans ?_
  exact Iff.rfl
theorem r75_19 {d : Nat} {X : Nat × (Nat → Int)} {v : Nat → Int} {M : PH} {K : PV → PS → Prop} {l1 l2 l3 : Int} : pm_Run d 75 19 [vA 31, vI l1, vI l2, vI l3] [] (GF X, M, PTF v) K ↔ pm_Call d 70 [vA 31] (GF X, M, PTF v) (fun r9 S1 => pm_Run d 75 23 [vA 31, vI l1, vI l2, vI l3] (pm_push r9 []) S1 K) := by
  refine (px_go (by decide +kernel : pm_fe 75 19 = some (.aload_n 0, 1)) rfl).trans ?_
  refine (ry_v0 (idx := 48) (m' := 70) (ci := 6) (by decide +kernel : 31 < 283 ∧ SHF 31 = (6, 5)) (by simp [pm_wl_n, pm_wl_c, pm_w] : pm_wl [] ≤ 8) (by decide +kernel)).trans ?_
  exact Iff.rfl
theorem r75_23 {d : Nat} {X : Nat × (Nat → Int)} {v : Nat → Int} {M : PH} {K : PV → PS → Prop} {l1 l2 l3 : Int} : pm_Run d 75 23 [vA 31, vI l1, vI l2, vI l3] [] (GF X, M, PTF v) K ↔ pm_Run d 75 60 [vA 31, vI l1, vI l2, vI l3] [] (GF X, M, PTF v) K := by
  refine (px_goto (off := 37) (tgt := 60) (by decide +kernel)).trans ?_
  exact Iff.rfl
theorem r75_26 {d : Nat} {X : Nat × (Nat → Int)} {v : Nat → Int} {M : PH} {K : PV → PS → Prop} {l1 l2 l3 : Int} (h1 : inR l3) (h2 : inR l1) : pm_Run d 75 26 [vA 31, vI l1, vI l2, vI l3] [] (GF X, M, PTF v) K ↔ if l3 < l1 then pm_Run d 75 36 [vA 31, vI l1, vI l2, vI l3] [] (GF X, M, PTF v) K else pm_Run d 75 31 [vA 31, vI l1, vI l2, vI l3] [] (GF X, M, PTF v) K := by
  refine (px_go (by decide +kernel : pm_fe 75 26 = some (.iload_n 3, 1)) rfl).trans ?_
  refine (px_go (by decide +kernel : pm_fe 75 27 = some (.iload_n 1, 1)) rfl).trans ?_
  refine (ry_ic_lt (off := 8) (tgt := 36) h1 h2 (by decide +kernel)).trans ?_
  exact Iff.rfl
theorem r75_31 {d : Nat} {X : Nat × (Nat → Int)} {v : Nat → Int} {M : PH} {K : PV → PS → Prop} {l1 l2 l3 : Int} (h1 : inR l3) (h2 : inR l2) : pm_Run d 75 31 [vA 31, vI l1, vI l2, vI l3] [] (GF X, M, PTF v) K ↔ if l3 ≤ l2 then pm_Run d 75 51 [vA 31, vI l1, vI l2, vI l3] [] (GF X, M, PTF v) K else pm_Run d 75 36 [vA 31, vI l1, vI l2, vI l3] [] (GF X, M, PTF v) K := by
  refine (px_go (by decide +kernel : pm_fe 75 31 = some (.iload_n 3, 1)) rfl).trans ?_
  refine (px_go (by decide +kernel : pm_fe 75 32 = some (.iload_n 2, 1)) rfl).trans ?_
  refine (ry_ic_le (off := 18) (tgt := 51) h1 h2 (by decide +kernel)).trans ?_
  exact Iff.rfl
theorem r75_36 {d : Nat} {X : Nat × (Nat → Int)} {v : Nat → Int} {M : PH} {K : PV → PS → Prop} {l1 l2 l3 : Int} : pm_Run d 75 36 [vA 31, vI l1, vI l2, vI l3] [] (GF X, M, PTF v) K ↔ pm_Call d 69 [vA 31, vI 4, vI (M 32 5)] (GF X, M, PTF v) (fun r9 S1 => pm_Run d 75 48 [vA 31, vI l1, vI l2, vI l3] (pm_push r9 []) S1 K) := by
  refine (px_go (by decide +kernel : pm_fe 75 36 = some (.aload_n 0, 1)) rfl).trans ?_
  refine (px_go (by decide +kernel : pm_fe 75 37 = some (.iconst 4, 1)) rfl).trans ?_
  refine (px_go (by decide +kernel : pm_fe 75 38 = some (.aload_n 0, 1)) rfl).trans ?_
  refine (ry_get2 (idx := 12) (ci := 6) (k := 0) (by decide +kernel : 31 < 283 ∧ SHF 31 = (6, 5)) (ptf_l (a := 31) (k := 0) (n := 32) (by decide +kernel)) (by decide +kernel)).trans ?_
  refine (ry_get0 (idx := 51) (ci := 4) (k := 5) (by decide +kernel : 32 < 283 ∧ SHF 32 = (4, 9)) (by decide +kernel)).trans ?_
  refine (ry_v2 (idx := 54) (m' := 69) (ci := 6) (by decide +kernel : 31 < 283 ∧ SHF 31 = (6, 5)) (by simp [pm_wl_n, pm_wl_c, pm_w] : pm_wl [] ≤ 8) (by decide +kernel)).trans ?_
  exact Iff.rfl
theorem r75_48 {d : Nat} {X : Nat × (Nat → Int)} {v : Nat → Int} {M : PH} {K : PV → PS → Prop} {l1 l2 l3 : Int} : pm_Run d 75 48 [vA 31, vI l1, vI l2, vI l3] [] (GF X, M, PTF v) K ↔ pm_Run d 75 60 [vA 31, vI l1, vI l2, vI l3] [] (GF X, M, PTF v) K := by
  refine (px_goto (off := 12) (tgt := 60) (by decide +kernel)).trans ?_
  exact Iff.rfl
theorem r75_51 {d : Nat} {X : Nat × (Nat → Int)} {v : Nat → Int} {M : PH} {K : PV → PS → Prop} {l1 l2 l3 : Int} : pm_Run d 75 51 [vA 31, vI l1, vI l2, vI l3] [] (GF X, M, PTF v) K ↔ pm_Call d 51 [vA 32] (GF X, M, PTF v) (fun r9 S1 => pm_Run d 75 58 [vA 31, vI l1, vI l2, vI l3] (pm_push r9 []) S1 K) := by
  refine (px_go (by decide +kernel : pm_fe 75 51 = some (.aload_n 0, 1)) rfl).trans ?_
  refine (ry_get2 (idx := 12) (ci := 6) (k := 0) (by decide +kernel : 31 < 283 ∧ SHF 31 = (6, 5)) (ptf_l (a := 31) (k := 0) (n := 32) (by decide +kernel)) (by decide +kernel)).trans ?_
  refine (ry_v0 (idx := 42) (m' := 51) (ci := 4) (by decide +kernel : 32 < 283 ∧ SHF 32 = (4, 9)) (by simp [pm_wl_n, pm_wl_c, pm_w] : pm_wl [] ≤ 8) (by decide +kernel)).trans ?_
  exact Iff.rfl
theorem r75_58 {d : Nat} {X : Nat × (Nat → Int)} {v : Nat → Int} {M : PH} {K : PV → PS → Prop} {l1 l2 l3 : Int} : pm_Run d 75 58 [vA 31, vI l1, vI l2, vI l3] [] (GF X, M, PTF v) K ↔ K (vI l3) (GF X, M, PTF v) := by
  refine (px_go (by decide +kernel : pm_fe 75 58 = some (.iload_n 3, 1)) rfl).trans ?_
  refine (px_ri (by decide +kernel)).trans ?_
  exact Iff.rfl
theorem r75_60 {d : Nat} {X : Nat × (Nat → Int)} {v : Nat → Int} {M : PH} {K : PV → PS → Prop} {l1 l2 l3 : Int} : pm_Run d 75 60 [vA 31, vI l1, vI l2, vI l3] [] (GF X, M, PTF v) K ↔ K (vI l1) (GF X, M, PTF v) := by
  refine (px_go (by decide +kernel : pm_fe 75 60 = some (.iload_n 1, 1)) rfl).trans ?_
  refine (px_ri (by decide +kernel)).trans ?_
  exact Iff.rfl
-- X6_isName isName()Z
theorem r76_0 {d : Nat} {X : Nat × (Nat → Int)} {v : Nat → Int} {M : PH} {K : PV → PS → Prop} (h1 : inR (M 32 4)) : pm_Run d 76 0 [vA 31] [] (GF X, M, PTF v) K ↔ if M 32 4 ≠ 1 then pm_Run d 76 26 [vA 31] [] (GF X, M, PTF v) K else pm_Run d 76 11 [vA 31] [] (GF X, M, PTF v) K := by
  refine (px_go (by decide +kernel : pm_fe 76 0 = some (.aload_n 0, 1)) rfl).trans ?_
  refine (ry_get2 (idx := 12) (ci := 6) (k := 0) (by decide +kernel : 31 < 283 ∧ SHF 31 = (6, 5)) (ptf_l (a := 31) (k := 0) (n := 32) (by decide +kernel)) (by decide +kernel)).trans ?_
  refine (ry_get0 (idx := 45) (ci := 4) (k := 4) (by decide +kernel : 32 < 283 ∧ SHF 32 = (4, 9)) (by decide +kernel)).trans ?_
  refine (px_go (by decide +kernel : pm_fe 76 7 = some (.iconst 1, 1)) rfl).trans ?_
  refine (ry_ic_ne (off := 18) (tgt := 26) h1 (by decide : (-2147483648 ≤ (1 : Int) ∧ (1 : Int) < 2147483648)) (by decide +kernel)).trans ?_
  exact Iff.rfl
theorem r76_11 {d : Nat} {X : Nat × (Nat → Int)} {v : Nat → Int} {M : PH} {K : PV → PS → Prop} (h1 : inR (M 32 8)) : pm_Run d 76 11 [vA 31] [] (GF X, M, PTF v) K ↔ if M 32 8 ≠ (-1) then pm_Run d 76 26 [vA 31] [] (GF X, M, PTF v) K else pm_Run d 76 22 [vA 31] [] (GF X, M, PTF v) K := by
  refine (px_go (by decide +kernel : pm_fe 76 11 = some (.aload_n 0, 1)) rfl).trans ?_
  refine (ry_get2 (idx := 12) (ci := 6) (k := 0) (by decide +kernel : 31 < 283 ∧ SHF 31 = (6, 5)) (ptf_l (a := 31) (k := 0) (n := 32) (by decide +kernel)) (by decide +kernel)).trans ?_
  refine (ry_get0 (idx := 69) (ci := 4) (k := 8) (by decide +kernel : 32 < 283 ∧ SHF 32 = (4, 9)) (by decide +kernel)).trans ?_
  refine (px_go (by decide +kernel : pm_fe 76 18 = some (.iconst (-1), 1)) rfl).trans ?_
  refine (ry_ic_ne (off := 7) (tgt := 26) h1 (by decide : (-2147483648 ≤ ((-1) : Int) ∧ ((-1) : Int) < 2147483648)) (by decide +kernel)).trans ?_
  exact Iff.rfl
theorem r76_22 {d : Nat} {X : Nat × (Nat → Int)} {v : Nat → Int} {M : PH} {K : PV → PS → Prop} : pm_Run d 76 22 [vA 31] [] (GF X, M, PTF v) K ↔ pm_Run d 76 27 [vA 31] [vI 1] (GF X, M, PTF v) K := by
  refine (px_go (by decide +kernel : pm_fe 76 22 = some (.iconst 1, 1)) rfl).trans ?_
  refine (px_goto (off := 4) (tgt := 27) (by decide +kernel)).trans ?_
  exact Iff.rfl
theorem r76_26 {d : Nat} {X : Nat × (Nat → Int)} {v : Nat → Int} {M : PH} {K : PV → PS → Prop} : pm_Run d 76 26 [vA 31] [] (GF X, M, PTF v) K ↔ pm_Run d 76 27 [vA 31] [vI 0] (GF X, M, PTF v) K := by
  refine (px_go (by decide +kernel : pm_fe 76 26 = some (.iconst 0, 1)) rfl).trans ?_
  exact Iff.rfl
theorem r76_27 {d : Nat} {X : Nat × (Nat → Int)} {v : Nat → Int} {M : PH} {K : PV → PS → Prop} {s0 : Int} (h1 : s0 = 0 ∨ s0 = 1) : pm_Run d 76 27 [vA 31] [vI s0] (GF X, M, PTF v) K ↔ K (vI s0) (GF X, M, PTF v) := by
  refine (px_rz (by decide +kernel)).trans ((and_iff_right h1).trans ?_)
  exact Iff.rfl
-- X6_newName newName()I
theorem r77_0 {d : Nat} {X : Nat × (Nat → Int)} {v : Nat → Int} {M : PH} {K : PV → PS → Prop} : pm_Run d 77 0 [vA 31, PU] [] (GF X, M, PTF v) K ↔ pm_Call d 76 [vA 31] (GF X, M, PTF v) (fun r9 S1 => pm_Run d 77 12 [vA 31, vI (M 32 7)] (pm_push r9 []) S1 K) := by
  refine (px_go (by decide +kernel : pm_fe 77 0 = some (.aload_n 0, 1)) rfl).trans ?_
  refine (ry_get2 (idx := 12) (ci := 6) (k := 0) (by decide +kernel : 31 < 283 ∧ SHF 31 = (6, 5)) (ptf_l (a := 31) (k := 0) (n := 32) (by decide +kernel)) (by decide +kernel)).trans ?_
  refine (ry_get0 (idx := 75) (ci := 4) (k := 7) (by decide +kernel : 32 < 283 ∧ SHF 32 = (4, 9)) (by decide +kernel)).trans ?_
  refine (px_go (by decide +kernel : pm_fe 77 7 = some (.istore_n 1, 1)) rfl).trans ?_
  refine (px_go (by decide +kernel : pm_fe 77 8 = some (.aload_n 0, 1)) rfl).trans ?_
  refine (ry_v0 (idx := 85) (m' := 76) (ci := 6) (by decide +kernel : 31 < 283 ∧ SHF 31 = (6, 5)) (by simp [pm_wl_n, pm_wl_c, pm_w] : pm_wl [] ≤ 8) (by decide +kernel)).trans ?_
  exact Iff.rfl
theorem r77_12 {d : Nat} {X : Nat × (Nat → Int)} {v : Nat → Int} {M : PH} {K : PV → PS → Prop} {l1 s0 : Int} (h1 : inR s0) : pm_Run d 77 12 [vA 31, vI l1] [vI s0] (GF X, M, PTF v) K ↔ if s0 ≠ 0 then pm_Run d 77 22 [vA 31, vI l1] [] (GF X, M, PTF v) K else pm_Run d 77 15 [vA 31, vI l1] [] (GF X, M, PTF v) K := by
  refine (ry_if_ne (off := 10) (tgt := 22) h1 (by decide +kernel)).trans ?_
  exact Iff.rfl
theorem r77_15 {d : Nat} {X : Nat × (Nat → Int)} {v : Nat → Int} {M : PH} {K : PV → PS → Prop} {l1 : Int} : pm_Run d 77 15 [vA 31, vI l1] [] (GF X, M, PTF v) K ↔ pm_Call d 70 [vA 31] (GF X, M, PTF v) (fun r9 S1 => pm_Run d 77 19 [vA 31, vI l1] (pm_push r9 []) S1 K) := by
  refine (px_go (by decide +kernel : pm_fe 77 15 = some (.aload_n 0, 1)) rfl).trans ?_
  refine (ry_v0 (idx := 48) (m' := 70) (ci := 6) (by decide +kernel : 31 < 283 ∧ SHF 31 = (6, 5)) (by simp [pm_wl_n, pm_wl_c, pm_w] : pm_wl [] ≤ 8) (by decide +kernel)).trans ?_
  exact Iff.rfl
theorem r77_19 {d : Nat} {X : Nat × (Nat → Int)} {v : Nat → Int} {M : PH} {K : PV → PS → Prop} {l1 : Int} : pm_Run d 77 19 [vA 31, vI l1] [] (GF X, M, PTF v) K ↔ pm_Run d 77 68 [vA 31, vI l1] [] (GF X, M, PTF v) K := by
  refine (px_goto (off := 49) (tgt := 68) (by decide +kernel)).trans ?_
  exact Iff.rfl
theorem r77_22 {d : Nat} {c : Nat} {X : Nat × (Nat → Int)} {v : Nat → Int} {M : PH} {K : PV → PS → Prop} {l1 : Int} (hc : isCh c) (hv1 : v 1 = ((c : Nat) : Int)) : pm_Run d 77 22 [vA 31, vI l1] [] (GF X, M, PTF v) K ↔ pm_Call d 14 [vA c, vI l1] (GF X, M, PTF v) (fun r9 S1 => pm_Run d 77 30 [vA 31, vI l1] (pm_push r9 []) S1 K) := by
  refine (px_go (by decide +kernel : pm_fe 77 22 = some (.aload_n 0, 1)) rfl).trans ?_
  refine (ry_get2 (idx := 21) (ci := 6) (k := 1) (by decide +kernel : 31 < 283 ∧ SHF 31 = (6, 5)) (ptd1 hv1) (by decide +kernel)).trans ?_
  refine (px_go (by decide +kernel : pm_fe 77 26 = some (.iload_n 1, 1)) rfl).trans ?_
  refine (ry_v1 (idx := 89) (m' := 14) (ci := 1) (chs0 hc) (by simp [pm_wl_n, pm_wl_c, pm_w] : pm_wl [] ≤ 8) (by decide +kernel)).trans ?_
  exact Iff.rfl
theorem r77_30 {d : Nat} {X : Nat × (Nat → Int)} {v : Nat → Int} {M : PH} {K : PV → PS → Prop} {l1 s0 : Int} (h1 : inR s0) : pm_Run d 77 30 [vA 31, vI l1] [vI s0] (GF X, M, PTF v) K ↔ if s0 ≠ (-1) then pm_Run d 77 46 [vA 31, vI l1] [] (GF X, M, PTF v) K else pm_Run d 77 34 [vA 31, vI l1] [] (GF X, M, PTF v) K := by
  refine (px_go (by decide +kernel : pm_fe 77 30 = some (.iconst (-1), 1)) rfl).trans ?_
  refine (ry_ic_ne (off := 15) (tgt := 46) h1 (by decide : (-2147483648 ≤ ((-1) : Int) ∧ ((-1) : Int) < 2147483648)) (by decide +kernel)).trans ?_
  exact Iff.rfl
theorem r77_34 {d : Nat} {c : Nat} {X : Nat × (Nat → Int)} {v : Nat → Int} {M : PH} {K : PV → PS → Prop} {l1 : Int} (hc : isCh c) (hv1 : v 1 = ((c : Nat) : Int)) : pm_Run d 77 34 [vA 31, vI l1] [] (GF X, M, PTF v) K ↔ pm_Call d 15 [vA c, vI l1] (GF X, M, PTF v) (fun r9 S1 => pm_Run d 77 42 [vA 31, vI l1] (pm_push r9 []) S1 K) := by
  refine (px_go (by decide +kernel : pm_fe 77 34 = some (.aload_n 0, 1)) rfl).trans ?_
  refine (ry_get2 (idx := 21) (ci := 6) (k := 1) (by decide +kernel : 31 < 283 ∧ SHF 31 = (6, 5)) (ptd1 hv1) (by decide +kernel)).trans ?_
  refine (px_go (by decide +kernel : pm_fe 77 38 = some (.iload_n 1, 1)) rfl).trans ?_
  refine (ry_v1 (idx := 93) (m' := 15) (ci := 1) (chs0 hc) (by simp [pm_wl_n, pm_wl_c, pm_w] : pm_wl [] ≤ 8) (by decide +kernel)).trans ?_
  exact Iff.rfl
theorem r77_42 {d : Nat} {X : Nat × (Nat → Int)} {v : Nat → Int} {M : PH} {K : PV → PS → Prop} {l1 s0 : Int} (h1 : inR s0) : pm_Run d 77 42 [vA 31, vI l1] [vI s0] (GF X, M, PTF v) K ↔ if s0 = (-1) then pm_Run d 77 61 [vA 31, vI l1] [] (GF X, M, PTF v) K else pm_Run d 77 46 [vA 31, vI l1] [] (GF X, M, PTF v) K := by
  refine (px_go (by decide +kernel : pm_fe 77 42 = some (.iconst (-1), 1)) rfl).trans ?_
  refine (ry_ic_eq (off := 18) (tgt := 61) h1 (by decide : (-2147483648 ≤ ((-1) : Int) ∧ ((-1) : Int) < 2147483648)) (by decide +kernel)).trans ?_
  exact Iff.rfl
theorem r77_46 {d : Nat} {X : Nat × (Nat → Int)} {v : Nat → Int} {M : PH} {K : PV → PS → Prop} {l1 : Int} : pm_Run d 77 46 [vA 31, vI l1] [] (GF X, M, PTF v) K ↔ pm_Call d 69 [vA 31, vI 2, vI (M 32 5)] (GF X, M, PTF v) (fun r9 S1 => pm_Run d 77 58 [vA 31, vI l1] (pm_push r9 []) S1 K) := by
  refine (px_go (by decide +kernel : pm_fe 77 46 = some (.aload_n 0, 1)) rfl).trans ?_
  refine (px_go (by decide +kernel : pm_fe 77 47 = some (.iconst 2, 1)) rfl).trans ?_
  refine (px_go (by decide +kernel : pm_fe 77 48 = some (.aload_n 0, 1)) rfl).trans ?_
  refine (ry_get2 (idx := 12) (ci := 6) (k := 0) (by decide +kernel : 31 < 283 ∧ SHF 31 = (6, 5)) (ptf_l (a := 31) (k := 0) (n := 32) (by decide +kernel)) (by decide +kernel)).trans ?_
  refine (ry_get0 (idx := 51) (ci := 4) (k := 5) (by decide +kernel : 32 < 283 ∧ SHF 32 = (4, 9)) (by decide +kernel)).trans ?_
  refine (ry_v2 (idx := 54) (m' := 69) (ci := 6) (by decide +kernel : 31 < 283 ∧ SHF 31 = (6, 5)) (by simp [pm_wl_n, pm_wl_c, pm_w] : pm_wl [] ≤ 8) (by decide +kernel)).trans ?_
  exact Iff.rfl
theorem r77_58 {d : Nat} {X : Nat × (Nat → Int)} {v : Nat → Int} {M : PH} {K : PV → PS → Prop} {l1 : Int} : pm_Run d 77 58 [vA 31, vI l1] [] (GF X, M, PTF v) K ↔ pm_Run d 77 68 [vA 31, vI l1] [] (GF X, M, PTF v) K := by
  refine (px_goto (off := 10) (tgt := 68) (by decide +kernel)).trans ?_
  exact Iff.rfl
theorem r77_61 {d : Nat} {X : Nat × (Nat → Int)} {v : Nat → Int} {M : PH} {K : PV → PS → Prop} {l1 : Int} : pm_Run d 77 61 [vA 31, vI l1] [] (GF X, M, PTF v) K ↔ pm_Call d 51 [vA 32] (GF X, M, PTF v) (fun r9 S1 => pm_Run d 77 68 [vA 31, vI l1] (pm_push r9 []) S1 K) := by
  refine (px_go (by decide +kernel : pm_fe 77 61 = some (.aload_n 0, 1)) rfl).trans ?_
  refine (ry_get2 (idx := 12) (ci := 6) (k := 0) (by decide +kernel : 31 < 283 ∧ SHF 31 = (6, 5)) (ptf_l (a := 31) (k := 0) (n := 32) (by decide +kernel)) (by decide +kernel)).trans ?_
  refine (ry_v0 (idx := 42) (m' := 51) (ci := 4) (by decide +kernel : 32 < 283 ∧ SHF 32 = (4, 9)) (by simp [pm_wl_n, pm_wl_c, pm_w] : pm_wl [] ≤ 8) (by decide +kernel)).trans ?_
  exact Iff.rfl
theorem r77_68 {d : Nat} {X : Nat × (Nat → Int)} {v : Nat → Int} {M : PH} {K : PV → PS → Prop} {l1 : Int} : pm_Run d 77 68 [vA 31, vI l1] [] (GF X, M, PTF v) K ↔ K (vI l1) (GF X, M, PTF v) := by
  refine (px_go (by decide +kernel : pm_fe 77 68 = some (.iload_n 1, 1)) rfl).trans ?_
  refine (px_ri (by decide +kernel)).trans ?_
  exact Iff.rfl
-- X6_moonName moonName()I
theorem r78_0 {d : Nat} {c : Nat} {X : Nat × (Nat → Int)} {v : Nat → Int} {M : PH} {K : PV → PS → Prop} (hc : isCh c) (hv1 : v 1 = ((c : Nat) : Int)) : pm_Run d 78 0 [vA 31, PU] [] (GF X, M, PTF v) K ↔ pm_Call d 14 [vA c, vI (M 32 7)] (GF X, M, PTF v) (fun r9 S1 => pm_Run d 78 14 [vA 31, PU] (pm_push r9 []) S1 K) := by
  refine (px_go (by decide +kernel : pm_fe 78 0 = some (.aload_n 0, 1)) rfl).trans ?_
  refine (ry_get2 (idx := 21) (ci := 6) (k := 1) (by decide +kernel : 31 < 283 ∧ SHF 31 = (6, 5)) (ptd1 hv1) (by decide +kernel)).trans ?_
  refine (px_go (by decide +kernel : pm_fe 78 4 = some (.aload_n 0, 1)) rfl).trans ?_
  refine (ry_get2 (idx := 12) (ci := 6) (k := 0) (by decide +kernel : 31 < 283 ∧ SHF 31 = (6, 5)) (ptf_l (a := 31) (k := 0) (n := 32) (by decide +kernel)) (by decide +kernel)).trans ?_
  refine (ry_get0 (idx := 75) (ci := 4) (k := 7) (by decide +kernel : 32 < 283 ∧ SHF 32 = (4, 9)) (by decide +kernel)).trans ?_
  refine (ry_v1 (idx := 89) (m' := 14) (ci := 1) (chs0 hc) (by simp [pm_wl_n, pm_wl_c, pm_w] : pm_wl [] ≤ 8) (by decide +kernel)).trans ?_
  exact Iff.rfl
theorem r78_14 {d : Nat} {X : Nat × (Nat → Int)} {v : Nat → Int} {M : PH} {K : PV → PS → Prop} {s0 : Int} (h1 : inR s0) : pm_Run d 78 14 [vA 31, PU] [vI s0] (GF X, M, PTF v) K ↔ if s0 = (-1) then pm_Run d 78 25 [vA 31, vI s0] [vA 31] (GF X, M, PTF v) K else pm_Run d 78 21 [vA 31, vI s0] [vA 31] (GF X, M, PTF v) K := by
  refine (px_go (by decide +kernel : pm_fe 78 14 = some (.istore_n 1, 1)) rfl).trans ?_
  refine (px_go (by decide +kernel : pm_fe 78 15 = some (.aload_n 0, 1)) rfl).trans ?_
  refine (px_go (by decide +kernel : pm_fe 78 16 = some (.iload_n 1, 1)) rfl).trans ?_
  refine (px_go (by decide +kernel : pm_fe 78 17 = some (.iconst (-1), 1)) rfl).trans ?_
  refine (ry_ic_eq (off := 7) (tgt := 25) h1 (by decide : (-2147483648 ≤ ((-1) : Int) ∧ ((-1) : Int) < 2147483648)) (by decide +kernel)).trans ?_
  exact Iff.rfl
theorem r78_21 {d : Nat} {X : Nat × (Nat → Int)} {v : Nat → Int} {M : PH} {K : PV → PS → Prop} {l1 : Int} : pm_Run d 78 21 [vA 31, vI l1] [vA 31] (GF X, M, PTF v) K ↔ pm_Run d 78 26 [vA 31, vI l1] [vI 1, vA 31] (GF X, M, PTF v) K := by
  refine (px_go (by decide +kernel : pm_fe 78 21 = some (.iconst 1, 1)) rfl).trans ?_
  refine (px_goto (off := 4) (tgt := 26) (by decide +kernel)).trans ?_
  exact Iff.rfl
theorem r78_25 {d : Nat} {X : Nat × (Nat → Int)} {v : Nat → Int} {M : PH} {K : PV → PS → Prop} {l1 : Int} : pm_Run d 78 25 [vA 31, vI l1] [vA 31] (GF X, M, PTF v) K ↔ pm_Run d 78 26 [vA 31, vI l1] [vI 0, vA 31] (GF X, M, PTF v) K := by
  refine (px_go (by decide +kernel : pm_fe 78 25 = some (.iconst 0, 1)) rfl).trans ?_
  exact Iff.rfl
theorem r78_26 {d : Nat} {X : Nat × (Nat → Int)} {v : Nat → Int} {M : PH} {K : PV → PS → Prop} {l1 s0 : Int} : pm_Run d 78 26 [vA 31, vI l1] [vI s0, vA 31] (GF X, M, PTF v) K ↔ pm_Call d 80 [vA 31, vI s0] (GF X, M, PTF v) (fun r9 S1 => pm_Run d 78 29 [vA 31, vI l1] (pm_push r9 []) S1 K) := by
  refine (ry_v1 (idx := 96) (m' := 80) (ci := 6) (by decide +kernel : 31 < 283 ∧ SHF 31 = (6, 5)) (by simp [pm_wl_n, pm_wl_c, pm_w] : pm_wl [] ≤ 8) (by decide +kernel)).trans ?_
  exact Iff.rfl
theorem r78_29 {d : Nat} {X : Nat × (Nat → Int)} {v : Nat → Int} {M : PH} {K : PV → PS → Prop} {l1 : Int} : pm_Run d 78 29 [vA 31, vI l1] [] (GF X, M, PTF v) K ↔ K (vI l1) (GF X, M, PTF v) := by
  refine (px_go (by decide +kernel : pm_fe 78 29 = some (.iload_n 1, 1)) rfl).trans ?_
  refine (px_ri (by decide +kernel)).trans ?_
  exact Iff.rfl
-- X6_harborName harborName(I)I
theorem r79_0 {d : Nat} {c : Nat} {X : Nat × (Nat → Int)} {v : Nat → Int} {M : PH} {K : PV → PS → Prop} {l1 : Int} (hc : isCh c) (hv1 : v 1 = ((c : Nat) : Int)) : pm_Run d 79 0 [vA 31, vI l1, PU] [] (GF X, M, PTF v) K ↔ pm_Call d 15 [vA c, vI (M 32 7)] (GF X, M, PTF v) (fun r9 S1 => pm_Run d 79 14 [vA 31, vI l1, PU] (pm_push r9 []) S1 K) := by
  refine (px_go (by decide +kernel : pm_fe 79 0 = some (.aload_n 0, 1)) rfl).trans ?_
  refine (ry_get2 (idx := 21) (ci := 6) (k := 1) (by decide +kernel : 31 < 283 ∧ SHF 31 = (6, 5)) (ptd1 hv1) (by decide +kernel)).trans ?_
  refine (px_go (by decide +kernel : pm_fe 79 4 = some (.aload_n 0, 1)) rfl).trans ?_
  refine (ry_get2 (idx := 12) (ci := 6) (k := 0) (by decide +kernel : 31 < 283 ∧ SHF 31 = (6, 5)) (ptf_l (a := 31) (k := 0) (n := 32) (by decide +kernel)) (by decide +kernel)).trans ?_
  refine (ry_get0 (idx := 75) (ci := 4) (k := 7) (by decide +kernel : 32 < 283 ∧ SHF 32 = (4, 9)) (by decide +kernel)).trans ?_
  refine (ry_v1 (idx := 93) (m' := 15) (ci := 1) (chs0 hc) (by simp [pm_wl_n, pm_wl_c, pm_w] : pm_wl [] ≤ 8) (by decide +kernel)).trans ?_
  exact Iff.rfl
theorem r79_14 {d : Nat} {X : Nat × (Nat → Int)} {v : Nat → Int} {M : PH} {K : PV → PS → Prop} {l1 s0 : Int} (h1 : inR s0) : pm_Run d 79 14 [vA 31, vI l1, PU] [vI s0] (GF X, M, PTF v) K ↔ if s0 = (-1) then pm_Run d 79 30 [vA 31, vI l1, vI s0] [vA 31] (GF X, M, PTF v) K else pm_Run d 79 21 [vA 31, vI l1, vI s0] [vA 31] (GF X, M, PTF v) K := by
  refine (px_go (by decide +kernel : pm_fe 79 14 = some (.istore_n 2, 1)) rfl).trans ?_
  refine (px_go (by decide +kernel : pm_fe 79 15 = some (.aload_n 0, 1)) rfl).trans ?_
  refine (px_go (by decide +kernel : pm_fe 79 16 = some (.iload_n 2, 1)) rfl).trans ?_
  refine (px_go (by decide +kernel : pm_fe 79 17 = some (.iconst (-1), 1)) rfl).trans ?_
  refine (ry_ic_eq (off := 12) (tgt := 30) h1 (by decide : (-2147483648 ≤ ((-1) : Int) ∧ ((-1) : Int) < 2147483648)) (by decide +kernel)).trans ?_
  exact Iff.rfl
theorem r79_21 {d : Nat} {X : Nat × (Nat → Int)} {v : Nat → Int} {M : PH} {K : PV → PS → Prop} {l1 l2 : Int} (h1 : inR l2) (h2 : inR l1) : pm_Run d 79 21 [vA 31, vI l1, vI l2] [vA 31] (GF X, M, PTF v) K ↔ if l2 = l1 then pm_Run d 79 30 [vA 31, vI l1, vI l2] [vA 31] (GF X, M, PTF v) K else pm_Run d 79 26 [vA 31, vI l1, vI l2] [vA 31] (GF X, M, PTF v) K := by
  refine (px_go (by decide +kernel : pm_fe 79 21 = some (.iload_n 2, 1)) rfl).trans ?_
  refine (px_go (by decide +kernel : pm_fe 79 22 = some (.iload_n 1, 1)) rfl).trans ?_
  refine (ry_ic_eq (off := 7) (tgt := 30) h1 h2 (by decide +kernel)).trans ?_
  exact Iff.rfl
theorem r79_26 {d : Nat} {X : Nat × (Nat → Int)} {v : Nat → Int} {M : PH} {K : PV → PS → Prop} {l1 l2 : Int} : pm_Run d 79 26 [vA 31, vI l1, vI l2] [vA 31] (GF X, M, PTF v) K ↔ pm_Run d 79 31 [vA 31, vI l1, vI l2] [vI 1, vA 31] (GF X, M, PTF v) K := by
  refine (px_go (by decide +kernel : pm_fe 79 26 = some (.iconst 1, 1)) rfl).trans ?_
  refine (px_goto (off := 4) (tgt := 31) (by decide +kernel)).trans ?_
  exact Iff.rfl
theorem r79_30 {d : Nat} {X : Nat × (Nat → Int)} {v : Nat → Int} {M : PH} {K : PV → PS → Prop} {l1 l2 : Int} : pm_Run d 79 30 [vA 31, vI l1, vI l2] [vA 31] (GF X, M, PTF v) K ↔ pm_Run d 79 31 [vA 31, vI l1, vI l2] [vI 0, vA 31] (GF X, M, PTF v) K := by
  refine (px_go (by decide +kernel : pm_fe 79 30 = some (.iconst 0, 1)) rfl).trans ?_
  exact Iff.rfl
theorem r79_31 {d : Nat} {X : Nat × (Nat → Int)} {v : Nat → Int} {M : PH} {K : PV → PS → Prop} {l1 l2 s0 : Int} : pm_Run d 79 31 [vA 31, vI l1, vI l2] [vI s0, vA 31] (GF X, M, PTF v) K ↔ pm_Call d 80 [vA 31, vI s0] (GF X, M, PTF v) (fun r9 S1 => pm_Run d 79 34 [vA 31, vI l1, vI l2] (pm_push r9 []) S1 K) := by
  refine (ry_v1 (idx := 96) (m' := 80) (ci := 6) (by decide +kernel : 31 < 283 ∧ SHF 31 = (6, 5)) (by simp [pm_wl_n, pm_wl_c, pm_w] : pm_wl [] ≤ 8) (by decide +kernel)).trans ?_
  exact Iff.rfl
theorem r79_34 {d : Nat} {X : Nat × (Nat → Int)} {v : Nat → Int} {M : PH} {K : PV → PS → Prop} {l1 l2 : Int} : pm_Run d 79 34 [vA 31, vI l1, vI l2] [] (GF X, M, PTF v) K ↔ K (vI l2) (GF X, M, PTF v) := by
  refine (px_go (by decide +kernel : pm_fe 79 34 = some (.iload_n 2, 1)) rfl).trans ?_
  refine (px_ri (by decide +kernel)).trans ?_
  exact Iff.rfl
-- X6_knownName knownName(Z)V
theorem r80_0 {d : Nat} {X : Nat × (Nat → Int)} {v : Nat → Int} {M : PH} {K : PV → PS → Prop} {l1 : Int} : pm_Run d 80 0 [vA 31, vI l1] [] (GF X, M, PTF v) K ↔ pm_Call d 76 [vA 31] (GF X, M, PTF v) (fun r9 S1 => pm_Run d 80 4 [vA 31, vI l1] (pm_push r9 []) S1 K) := by
  refine (px_go (by decide +kernel : pm_fe 80 0 = some (.aload_n 0, 1)) rfl).trans ?_
  refine (ry_v0 (idx := 85) (m' := 76) (ci := 6) (by decide +kernel : 31 < 283 ∧ SHF 31 = (6, 5)) (by simp [pm_wl_n, pm_wl_c, pm_w] : pm_wl [] ≤ 8) (by decide +kernel)).trans ?_
  exact Iff.rfl
theorem r80_4 {d : Nat} {X : Nat × (Nat → Int)} {v : Nat → Int} {M : PH} {K : PV → PS → Prop} {l1 s0 : Int} (h1 : inR s0) : pm_Run d 80 4 [vA 31, vI l1] [vI s0] (GF X, M, PTF v) K ↔ if s0 ≠ 0 then pm_Run d 80 14 [vA 31, vI l1] [] (GF X, M, PTF v) K else pm_Run d 80 7 [vA 31, vI l1] [] (GF X, M, PTF v) K := by
  refine (ry_if_ne (off := 10) (tgt := 14) h1 (by decide +kernel)).trans ?_
  exact Iff.rfl
theorem r80_7 {d : Nat} {X : Nat × (Nat → Int)} {v : Nat → Int} {M : PH} {K : PV → PS → Prop} {l1 : Int} : pm_Run d 80 7 [vA 31, vI l1] [] (GF X, M, PTF v) K ↔ pm_Call d 70 [vA 31] (GF X, M, PTF v) (fun r9 S1 => pm_Run d 80 11 [vA 31, vI l1] (pm_push r9 []) S1 K) := by
  refine (px_go (by decide +kernel : pm_fe 80 7 = some (.aload_n 0, 1)) rfl).trans ?_
  refine (ry_v0 (idx := 48) (m' := 70) (ci := 6) (by decide +kernel : 31 < 283 ∧ SHF 31 = (6, 5)) (by simp [pm_wl_n, pm_wl_c, pm_w] : pm_wl [] ≤ 8) (by decide +kernel)).trans ?_
  exact Iff.rfl
theorem r80_11 {d : Nat} {X : Nat × (Nat → Int)} {v : Nat → Int} {M : PH} {K : PV → PS → Prop} {l1 : Int} : pm_Run d 80 11 [vA 31, vI l1] [] (GF X, M, PTF v) K ↔ pm_Run d 80 40 [vA 31, vI l1] [] (GF X, M, PTF v) K := by
  refine (px_goto (off := 29) (tgt := 40) (by decide +kernel)).trans ?_
  exact Iff.rfl
theorem r80_14 {d : Nat} {X : Nat × (Nat → Int)} {v : Nat → Int} {M : PH} {K : PV → PS → Prop} {l1 : Int} (h1 : inR l1) : pm_Run d 80 14 [vA 31, vI l1] [] (GF X, M, PTF v) K ↔ if l1 ≠ 0 then pm_Run d 80 33 [vA 31, vI l1] [] (GF X, M, PTF v) K else pm_Run d 80 18 [vA 31, vI l1] [] (GF X, M, PTF v) K := by
  refine (px_go (by decide +kernel : pm_fe 80 14 = some (.iload_n 1, 1)) rfl).trans ?_
  refine (ry_if_ne (off := 18) (tgt := 33) h1 (by decide +kernel)).trans ?_
  exact Iff.rfl
theorem r80_18 {d : Nat} {X : Nat × (Nat → Int)} {v : Nat → Int} {M : PH} {K : PV → PS → Prop} {l1 : Int} : pm_Run d 80 18 [vA 31, vI l1] [] (GF X, M, PTF v) K ↔ pm_Call d 69 [vA 31, vI 3, vI (M 32 5)] (GF X, M, PTF v) (fun r9 S1 => pm_Run d 80 30 [vA 31, vI l1] (pm_push r9 []) S1 K) := by
  refine (px_go (by decide +kernel : pm_fe 80 18 = some (.aload_n 0, 1)) rfl).trans ?_
  refine (px_go (by decide +kernel : pm_fe 80 19 = some (.iconst 3, 1)) rfl).trans ?_
  refine (px_go (by decide +kernel : pm_fe 80 20 = some (.aload_n 0, 1)) rfl).trans ?_
  refine (ry_get2 (idx := 12) (ci := 6) (k := 0) (by decide +kernel : 31 < 283 ∧ SHF 31 = (6, 5)) (ptf_l (a := 31) (k := 0) (n := 32) (by decide +kernel)) (by decide +kernel)).trans ?_
  refine (ry_get0 (idx := 51) (ci := 4) (k := 5) (by decide +kernel : 32 < 283 ∧ SHF 32 = (4, 9)) (by decide +kernel)).trans ?_
  refine (ry_v2 (idx := 54) (m' := 69) (ci := 6) (by decide +kernel : 31 < 283 ∧ SHF 31 = (6, 5)) (by simp [pm_wl_n, pm_wl_c, pm_w] : pm_wl [] ≤ 8) (by decide +kernel)).trans ?_
  exact Iff.rfl
theorem r80_30 {d : Nat} {X : Nat × (Nat → Int)} {v : Nat → Int} {M : PH} {K : PV → PS → Prop} {l1 : Int} : pm_Run d 80 30 [vA 31, vI l1] [] (GF X, M, PTF v) K ↔ pm_Run d 80 40 [vA 31, vI l1] [] (GF X, M, PTF v) K := by
  refine (px_goto (off := 10) (tgt := 40) (by decide +kernel)).trans ?_
  exact Iff.rfl
theorem r80_33 {d : Nat} {X : Nat × (Nat → Int)} {v : Nat → Int} {M : PH} {K : PV → PS → Prop} {l1 : Int} : pm_Run d 80 33 [vA 31, vI l1] [] (GF X, M, PTF v) K ↔ pm_Call d 51 [vA 32] (GF X, M, PTF v) (fun r9 S1 => pm_Run d 80 40 [vA 31, vI l1] (pm_push r9 []) S1 K) := by
  refine (px_go (by decide +kernel : pm_fe 80 33 = some (.aload_n 0, 1)) rfl).trans ?_
  refine (ry_get2 (idx := 12) (ci := 6) (k := 0) (by decide +kernel : 31 < 283 ∧ SHF 31 = (6, 5)) (ptf_l (a := 31) (k := 0) (n := 32) (by decide +kernel)) (by decide +kernel)).trans ?_
  refine (ry_v0 (idx := 42) (m' := 51) (ci := 4) (by decide +kernel : 32 < 283 ∧ SHF 32 = (4, 9)) (by simp [pm_wl_n, pm_wl_c, pm_w] : pm_wl [] ≤ 8) (by decide +kernel)).trans ?_
  exact Iff.rfl
theorem r80_40 {d : Nat} {X : Nat × (Nat → Int)} {v : Nat → Int} {M : PH} {K : PV → PS → Prop} {l1 : Int} : pm_Run d 80 40 [vA 31, vI l1] [] (GF X, M, PTF v) K ↔ K PU (GF X, M, PTF v) := by
  refine (px_rv (by decide +kernel)).trans ?_
  exact Iff.rfl
-- X6_oneMore oneMore(Z)Z
theorem r81_0 {d : Nat} {X : Nat × (Nat → Int)} {v : Nat → Int} {M : PH} {K : PV → PS → Prop} {l1 : Int} (h1 : inR l1) : pm_Run d 81 0 [vA 31, vI l1] [] (GF X, M, PTF v) K ↔ if l1 = 0 then pm_Run d 81 14 [vA 31, vI l1] [] (GF X, M, PTF v) K else pm_Run d 81 4 [vA 31, vI l1] [] (GF X, M, PTF v) K := by
  refine (px_go (by decide +kernel : pm_fe 81 0 = some (.iload_n 1, 1)) rfl).trans ?_
  refine (ry_if_eq (off := 13) (tgt := 14) h1 (by decide +kernel)).trans ?_
  exact Iff.rfl
theorem r81_4 {d : Nat} {X : Nat × (Nat → Int)} {v : Nat → Int} {M : PH} {K : PV → PS → Prop} {l1 : Int} : pm_Run d 81 4 [vA 31, vI l1] [] (GF X, M, PTF v) K ↔ pm_Call d 51 [vA 32] (GF X, M, PTF v) (fun r9 S1 => pm_Run d 81 11 [vA 31, vI l1] (pm_push r9 []) S1 K) := by
  refine (px_go (by decide +kernel : pm_fe 81 4 = some (.aload_n 0, 1)) rfl).trans ?_
  refine (ry_get2 (idx := 12) (ci := 6) (k := 0) (by decide +kernel : 31 < 283 ∧ SHF 31 = (6, 5)) (ptf_l (a := 31) (k := 0) (n := 32) (by decide +kernel)) (by decide +kernel)).trans ?_
  refine (ry_v0 (idx := 42) (m' := 51) (ci := 4) (by decide +kernel : 32 < 283 ∧ SHF 32 = (4, 9)) (by simp [pm_wl_n, pm_wl_c, pm_w] : pm_wl [] ≤ 8) (by decide +kernel)).trans ?_
  exact Iff.rfl
theorem r81_11 {d : Nat} {X : Nat × (Nat → Int)} {v : Nat → Int} {M : PH} {K : PV → PS → Prop} {l1 : Int} : pm_Run d 81 11 [vA 31, vI l1] [] (GF X, M, PTF v) K ↔ pm_Run d 81 27 [vA 31, vI l1] [] (GF X, M, PTF v) K := by
  refine (px_goto (off := 16) (tgt := 27) (by decide +kernel)).trans ?_
  exact Iff.rfl
theorem r81_14 {d : Nat} {X : Nat × (Nat → Int)} {v : Nat → Int} {M : PH} {K : PV → PS → Prop} {l1 : Int} : pm_Run d 81 14 [vA 31, vI l1] [] (GF X, M, PTF v) K ↔ pm_Call d 69 [vA 31, vI 6, vI (M 32 5)] (GF X, M, PTF v) (fun r9 S1 => pm_Run d 81 27 [vA 31, vI l1] (pm_push r9 []) S1 K) := by
  refine (px_go (by decide +kernel : pm_fe 81 14 = some (.aload_n 0, 1)) rfl).trans ?_
  refine (px_go (by decide +kernel : pm_fe 81 15 = some (.bipush 6, 2)) rfl).trans ?_
  refine (px_go (by decide +kernel : pm_fe 81 17 = some (.aload_n 0, 1)) rfl).trans ?_
  refine (ry_get2 (idx := 12) (ci := 6) (k := 0) (by decide +kernel : 31 < 283 ∧ SHF 31 = (6, 5)) (ptf_l (a := 31) (k := 0) (n := 32) (by decide +kernel)) (by decide +kernel)).trans ?_
  refine (ry_get0 (idx := 51) (ci := 4) (k := 5) (by decide +kernel : 32 < 283 ∧ SHF 32 = (4, 9)) (by decide +kernel)).trans ?_
  refine (ry_v2 (idx := 54) (m' := 69) (ci := 6) (by decide +kernel : 31 < 283 ∧ SHF 31 = (6, 5)) (by simp [pm_wl_n, pm_wl_c, pm_w] : pm_wl [] ≤ 8) (by decide +kernel)).trans ?_
  exact Iff.rfl
theorem r81_27 {d : Nat} {X : Nat × (Nat → Int)} {v : Nat → Int} {M : PH} {K : PV → PS → Prop} {l1 : Int} (h1 : inR (M 31 3)) : pm_Run d 81 27 [vA 31, vI l1] [] (GF X, M, PTF v) K ↔ if M 31 3 ≠ 0 then pm_Run d 81 38 [vA 31, vI l1] [] (GF X, M, PTF v) K else pm_Run d 81 34 [vA 31, vI l1] [] (GF X, M, PTF v) K := by
  refine (px_go (by decide +kernel : pm_fe 81 27 = some (.aload_n 0, 1)) rfl).trans ?_
  refine (ry_get0 (idx := 32) (ci := 6) (k := 3) (by decide +kernel : 31 < 283 ∧ SHF 31 = (6, 5)) (by decide +kernel)).trans ?_
  refine (ry_if_ne (off := 7) (tgt := 38) h1 (by decide +kernel)).trans ?_
  exact Iff.rfl
theorem r81_34 {d : Nat} {X : Nat × (Nat → Int)} {v : Nat → Int} {M : PH} {K : PV → PS → Prop} {l1 : Int} : pm_Run d 81 34 [vA 31, vI l1] [] (GF X, M, PTF v) K ↔ pm_Run d 81 39 [vA 31, vI l1] [vI 1] (GF X, M, PTF v) K := by
  refine (px_go (by decide +kernel : pm_fe 81 34 = some (.iconst 1, 1)) rfl).trans ?_
  refine (px_goto (off := 4) (tgt := 39) (by decide +kernel)).trans ?_
  exact Iff.rfl
theorem r81_38 {d : Nat} {X : Nat × (Nat → Int)} {v : Nat → Int} {M : PH} {K : PV → PS → Prop} {l1 : Int} : pm_Run d 81 38 [vA 31, vI l1] [] (GF X, M, PTF v) K ↔ pm_Run d 81 39 [vA 31, vI l1] [vI 0] (GF X, M, PTF v) K := by
  refine (px_go (by decide +kernel : pm_fe 81 38 = some (.iconst 0, 1)) rfl).trans ?_
  exact Iff.rfl
theorem r81_39 {d : Nat} {X : Nat × (Nat → Int)} {v : Nat → Int} {M : PH} {K : PV → PS → Prop} {l1 s0 : Int} (h1 : s0 = 0 ∨ s0 = 1) : pm_Run d 81 39 [vA 31, vI l1] [vI s0] (GF X, M, PTF v) K ↔ K (vI s0) (GF X, M, PTF v) := by
  refine (px_rz (by decide +kernel)).trans ((and_iff_right h1).trans ?_)
  exact Iff.rfl
-- X6_statement statement(Z)V
theorem r82_0 {d : Nat} {X : Nat × (Nat → Int)} {v : Nat → Int} {M : PH} {K : PV → PS → Prop} {l1 : Int} (h1 : inR (M 32 4)) : pm_Run d 82 0 [vA 31, vI l1, PU, PU] [] (GF X, M, PTF v) K ↔ if M 32 4 ≠ 1 then pm_Run d 82 21 [vA 31, vI l1, PU, PU] [] (GF X, M, PTF v) K else pm_Run d 82 11 [vA 31, vI l1, PU, PU] [] (GF X, M, PTF v) K := by
  refine (px_go (by decide +kernel : pm_fe 82 0 = some (.aload_n 0, 1)) rfl).trans ?_
  refine (ry_get2 (idx := 12) (ci := 6) (k := 0) (by decide +kernel : 31 < 283 ∧ SHF 31 = (6, 5)) (ptf_l (a := 31) (k := 0) (n := 32) (by decide +kernel)) (by decide +kernel)).trans ?_
  refine (ry_get0 (idx := 45) (ci := 4) (k := 4) (by decide +kernel : 32 < 283 ∧ SHF 32 = (4, 9)) (by decide +kernel)).trans ?_
  refine (px_go (by decide +kernel : pm_fe 82 7 = some (.iconst 1, 1)) rfl).trans ?_
  refine (ry_ic_ne (off := 13) (tgt := 21) h1 (by decide : (-2147483648 ≤ (1 : Int) ∧ (1 : Int) < 2147483648)) (by decide +kernel)).trans ?_
  exact Iff.rfl
theorem r82_11 {d : Nat} {X : Nat × (Nat → Int)} {v : Nat → Int} {M : PH} {K : PV → PS → Prop} {l1 : Int} : pm_Run d 82 11 [vA 31, vI l1, PU, PU] [] (GF X, M, PTF v) K ↔ pm_Run d 82 22 [vA 31, vI l1, PU, PU] [vI (M 32 8)] (GF X, M, PTF v) K := by
  refine (px_go (by decide +kernel : pm_fe 82 11 = some (.aload_n 0, 1)) rfl).trans ?_
  refine (ry_get2 (idx := 12) (ci := 6) (k := 0) (by decide +kernel : 31 < 283 ∧ SHF 31 = (6, 5)) (ptf_l (a := 31) (k := 0) (n := 32) (by decide +kernel)) (by decide +kernel)).trans ?_
  refine (ry_get0 (idx := 69) (ci := 4) (k := 8) (by decide +kernel : 32 < 283 ∧ SHF 32 = (4, 9)) (by decide +kernel)).trans ?_
  refine (px_goto (off := 4) (tgt := 22) (by decide +kernel)).trans ?_
  exact Iff.rfl
theorem r82_21 {d : Nat} {X : Nat × (Nat → Int)} {v : Nat → Int} {M : PH} {K : PV → PS → Prop} {l1 : Int} : pm_Run d 82 21 [vA 31, vI l1, PU, PU] [] (GF X, M, PTF v) K ↔ pm_Run d 82 22 [vA 31, vI l1, PU, PU] [vI (-1)] (GF X, M, PTF v) K := by
  refine (px_go (by decide +kernel : pm_fe 82 21 = some (.iconst (-1), 1)) rfl).trans ?_
  exact Iff.rfl
theorem r82_22 {d : Nat} {X : Nat × (Nat → Int)} {v : Nat → Int} {M : PH} {K : PV → PS → Prop} {l1 s0 : Int} (h1 : inR s0) : pm_Run d 82 22 [vA 31, vI l1, PU, PU] [vI s0] (GF X, M, PTF v) K ↔ if s0 ≠ 0 then pm_Run d 82 32 [vA 31, vI l1, vI s0, PU] [vI l1] (GF X, M, PTF v) K else pm_Run d 82 28 [vA 31, vI l1, vI s0, PU] [vI l1] (GF X, M, PTF v) K := by
  refine (px_go (by decide +kernel : pm_fe 82 22 = some (.istore_n 2, 1)) rfl).trans ?_
  refine (px_go (by decide +kernel : pm_fe 82 23 = some (.iload_n 1, 1)) rfl).trans ?_
  refine (px_go (by decide +kernel : pm_fe 82 24 = some (.iload_n 2, 1)) rfl).trans ?_
  refine (ry_if_ne (off := 7) (tgt := 32) h1 (by decide +kernel)).trans ?_
  exact Iff.rfl
theorem r82_28 {d : Nat} {X : Nat × (Nat → Int)} {v : Nat → Int} {M : PH} {K : PV → PS → Prop} {l1 l2 s0 : Int} : pm_Run d 82 28 [vA 31, vI l1, vI l2, PU] [vI s0] (GF X, M, PTF v) K ↔ pm_Run d 82 33 [vA 31, vI l1, vI l2, PU] [vI 1, vI s0] (GF X, M, PTF v) K := by
  refine (px_go (by decide +kernel : pm_fe 82 28 = some (.iconst 1, 1)) rfl).trans ?_
  refine (px_goto (off := 4) (tgt := 33) (by decide +kernel)).trans ?_
  exact Iff.rfl
theorem r82_32 {d : Nat} {X : Nat × (Nat → Int)} {v : Nat → Int} {M : PH} {K : PV → PS → Prop} {l1 l2 s0 : Int} : pm_Run d 82 32 [vA 31, vI l1, vI l2, PU] [vI s0] (GF X, M, PTF v) K ↔ pm_Run d 82 33 [vA 31, vI l1, vI l2, PU] [vI 0, vI s0] (GF X, M, PTF v) K := by
  refine (px_go (by decide +kernel : pm_fe 82 32 = some (.iconst 0, 1)) rfl).trans ?_
  exact Iff.rfl
theorem r82_33 {d : Nat} {X : Nat × (Nat → Int)} {v : Nat → Int} {M : PH} {K : PV → PS → Prop} {l1 l2 s0 s1 : Int} (h1 : inR s1) (h2 : inR s0) : pm_Run d 82 33 [vA 31, vI l1, vI l2, PU] [vI s0, vI s1] (GF X, M, PTF v) K ↔ if s1 = s0 then pm_Run d 82 41 [vA 31, vI l1, vI l2, PU] [] (GF X, M, PTF v) K else pm_Run d 82 36 [vA 31, vI l1, vI l2, PU] [] (GF X, M, PTF v) K := by
  refine (ry_ic_eq (off := 8) (tgt := 41) h1 h2 (by decide +kernel)).trans ?_
  exact Iff.rfl
theorem r82_36 {d : Nat} {X : Nat × (Nat → Int)} {v : Nat → Int} {M : PH} {K : PV → PS → Prop} {l1 l2 : Int} : pm_Run d 82 36 [vA 31, vI l1, vI l2, PU] [] (GF X, M, PTF v) K ↔ pm_Call d 70 [vA 31] (GF X, M, PTF v) (fun r9 S1 => pm_Run d 82 40 [vA 31, vI l1, vI l2, PU] (pm_push r9 []) S1 K) := by
  refine (px_go (by decide +kernel : pm_fe 82 36 = some (.aload_n 0, 1)) rfl).trans ?_
  refine (ry_v0 (idx := 48) (m' := 70) (ci := 6) (by decide +kernel : 31 < 283 ∧ SHF 31 = (6, 5)) (by simp [pm_wl_n, pm_wl_c, pm_w] : pm_wl [] ≤ 8) (by decide +kernel)).trans ?_
  exact Iff.rfl
theorem r82_40 {d : Nat} {X : Nat × (Nat → Int)} {v : Nat → Int} {M : PH} {K : PV → PS → Prop} {l1 l2 : Int} : pm_Run d 82 40 [vA 31, vI l1, vI l2, PU] [] (GF X, M, PTF v) K ↔ K PU (GF X, M, PTF v) := by
  refine (px_rv (by decide +kernel)).trans ?_
  exact Iff.rfl
theorem r82_41 {d : Nat} {X : Nat × (Nat → Int)} {v : Nat → Int} {M : PH} {K : PV → PS → Prop} {l1 l2 : Int} (h1 : inR l2) : pm_Run d 82 41 [vA 31, vI l1, vI l2, PU] [] (GF X, M, PTF v) K ↔ pm_Run d 82 (pm_tg 0 [116, 140, 270, 270, 270, 147, 270, 270, 154, 161, 217, 217, 217, 168, 192] 270 l2) [vA 31, vI l1, vI l2, PU] [] (GF X, M, PTF v) K := by
  refine (px_go (by decide +kernel : pm_fe 82 41 = some (.iload_n 2, 1)) rfl).trans ?_
  refine (ry_tsw (lo := 0) (dt := 270) (tl := [116, 140, 270, 270, 270, 147, 270, 270, 154, 161, 217, 217, 217, 168, 192]) h1 (by decide +kernel : pm_fe 82 42 = some (.tableswitch 228 0 14 #[74, 98, 228, 228, 228, 105, 228, 228, 112, 119, 175, 175, 175, 126, 150], 74) ∧ _)).trans ?_
  exact Iff.rfl
theorem r82_116 {d : Nat} {X : Nat × (Nat → Int)} {v : Nat → Int} {M : PH} {K : PV → PS → Prop} {l1 l2 : Int} : pm_Run d 82 116 [vA 31, vI l1, vI l2, PU] [] (GF X, M, PTF v) K ↔ pm_Call d 51 [vA 32] (GF X, M, PTF v) (fun r9 S1 => pm_Run d 82 123 [vA 31, vI l1, vI l2, PU] (pm_push r9 []) S1 K) := by
  refine (px_go (by decide +kernel : pm_fe 82 116 = some (.aload_n 0, 1)) rfl).trans ?_
  refine (ry_get2 (idx := 12) (ci := 6) (k := 0) (by decide +kernel : 31 < 283 ∧ SHF 31 = (6, 5)) (ptf_l (a := 31) (k := 0) (n := 32) (by decide +kernel)) (by decide +kernel)).trans ?_
  refine (ry_v0 (idx := 42) (m' := 51) (ci := 4) (by decide +kernel : 32 < 283 ∧ SHF 32 = (4, 9)) (by simp [pm_wl_n, pm_wl_c, pm_w] : pm_wl [] ≤ 8) (by decide +kernel)).trans ?_
  exact Iff.rfl
theorem r82_123 {d : Nat} {c : Nat} {X : Nat × (Nat → Int)} {v : Nat → Int} {M : PH} {K : PV → PS → Prop} {l1 l2 : Int} (hc : isCh c) (hv1 : v 1 = ((c : Nat) : Int)) : pm_Run d 82 123 [vA 31, vI l1, vI l2, PU] [] (GF X, M, PTF v) K ↔ pm_Call d 75 [vA 31, vI 4, vI 24] (GF X, M, PTF v) (fun r9 S1 => pm_Run d 82 134 [vA 31, vI l1, vI l2, PU] (pm_push r9 [vA c]) S1 K) := by
  refine (px_go (by decide +kernel : pm_fe 82 123 = some (.aload_n 0, 1)) rfl).trans ?_
  refine (ry_get2 (idx := 21) (ci := 6) (k := 1) (by decide +kernel : 31 < 283 ∧ SHF 31 = (6, 5)) (ptd1 hv1) (by decide +kernel)).trans ?_
  refine (px_go (by decide +kernel : pm_fe 82 127 = some (.aload_n 0, 1)) rfl).trans ?_
  refine (px_go (by decide +kernel : pm_fe 82 128 = some (.iconst 4, 1)) rfl).trans ?_
  refine (px_go (by decide +kernel : pm_fe 82 129 = some (.bipush 24, 2)) rfl).trans ?_
  refine (ry_v2 (idx := 99) (m' := 75) (ci := 6) (by decide +kernel : 31 < 283 ∧ SHF 31 = (6, 5)) (by simp [pm_wl_n, pm_wl_c, pm_w] : pm_wl [vA c] ≤ 8) (by decide +kernel)).trans ?_
  exact Iff.rfl
theorem r82_134 {d : Nat} {c : Nat} {X : Nat × (Nat → Int)} {v : Nat → Int} {M : PH} {K : PV → PS → Prop} {l1 l2 s0 : Int} (hc : isCh c) : pm_Run d 82 134 [vA 31, vI l1, vI l2, PU] [vI s0, vA c] (GF X, M, PTF v) K ↔ pm_Run d 82 274 [vA 31, vI l1, vI l2, PU] [] (GF X, pm_sa M c (pm_up (M c) 0 s0), PTF v) K := by
  refine (ry_put0 (idx := 103) (ci := 1) (k := 0) (chs0 hc) (by decide +kernel)).trans ?_
  refine (px_goto (off := 137) (tgt := 274) (by decide +kernel)).trans ?_
  exact Iff.rfl
theorem r82_140 {d : Nat} {X : Nat × (Nat → Int)} {v : Nat → Int} {M : PH} {K : PV → PS → Prop} {l1 l2 : Int} : pm_Run d 82 140 [vA 31, vI l1, vI l2, PU] [] (GF X, M, PTF v) K ↔ pm_Call d 84 [vA 31] (GF X, M, PTF v) (fun r9 S1 => pm_Run d 82 144 [vA 31, vI l1, vI l2, PU] (pm_push r9 []) S1 K) := by
  refine (px_go (by decide +kernel : pm_fe 82 140 = some (.aload_n 0, 1)) rfl).trans ?_
  refine (ry_v0 (idx := 106) (m' := 84) (ci := 6) (by decide +kernel : 31 < 283 ∧ SHF 31 = (6, 5)) (by simp [pm_wl_n, pm_wl_c, pm_w] : pm_wl [] ≤ 8) (by decide +kernel)).trans ?_
  exact Iff.rfl
theorem r82_144 {d : Nat} {X : Nat × (Nat → Int)} {v : Nat → Int} {M : PH} {K : PV → PS → Prop} {l1 l2 : Int} : pm_Run d 82 144 [vA 31, vI l1, vI l2, PU] [] (GF X, M, PTF v) K ↔ pm_Run d 82 274 [vA 31, vI l1, vI l2, PU] [] (GF X, M, PTF v) K := by
  refine (px_goto (off := 130) (tgt := 274) (by decide +kernel)).trans ?_
  exact Iff.rfl
theorem r82_147 {d : Nat} {X : Nat × (Nat → Int)} {v : Nat → Int} {M : PH} {K : PV → PS → Prop} {l1 l2 : Int} : pm_Run d 82 147 [vA 31, vI l1, vI l2, PU] [] (GF X, M, PTF v) K ↔ pm_Call d 85 [vA 31] (GF X, M, PTF v) (fun r9 S1 => pm_Run d 82 151 [vA 31, vI l1, vI l2, PU] (pm_push r9 []) S1 K) := by
  refine (px_go (by decide +kernel : pm_fe 82 147 = some (.aload_n 0, 1)) rfl).trans ?_
  refine (ry_v0 (idx := 109) (m' := 85) (ci := 6) (by decide +kernel : 31 < 283 ∧ SHF 31 = (6, 5)) (by simp [pm_wl_n, pm_wl_c, pm_w] : pm_wl [] ≤ 8) (by decide +kernel)).trans ?_
  exact Iff.rfl
theorem r82_151 {d : Nat} {X : Nat × (Nat → Int)} {v : Nat → Int} {M : PH} {K : PV → PS → Prop} {l1 l2 : Int} : pm_Run d 82 151 [vA 31, vI l1, vI l2, PU] [] (GF X, M, PTF v) K ↔ pm_Run d 82 274 [vA 31, vI l1, vI l2, PU] [] (GF X, M, PTF v) K := by
  refine (px_goto (off := 123) (tgt := 274) (by decide +kernel)).trans ?_
  exact Iff.rfl
theorem r82_154 {d : Nat} {X : Nat × (Nat → Int)} {v : Nat → Int} {M : PH} {K : PV → PS → Prop} {l1 l2 : Int} : pm_Run d 82 154 [vA 31, vI l1, vI l2, PU] [] (GF X, M, PTF v) K ↔ pm_Call d 87 [vA 31] (GF X, M, PTF v) (fun r9 S1 => pm_Run d 82 158 [vA 31, vI l1, vI l2, PU] (pm_push r9 []) S1 K) := by
  refine (px_go (by decide +kernel : pm_fe 82 154 = some (.aload_n 0, 1)) rfl).trans ?_
  refine (ry_v0 (idx := 112) (m' := 87) (ci := 6) (by decide +kernel : 31 < 283 ∧ SHF 31 = (6, 5)) (by simp [pm_wl_n, pm_wl_c, pm_w] : pm_wl [] ≤ 8) (by decide +kernel)).trans ?_
  exact Iff.rfl
theorem r82_158 {d : Nat} {X : Nat × (Nat → Int)} {v : Nat → Int} {M : PH} {K : PV → PS → Prop} {l1 l2 : Int} : pm_Run d 82 158 [vA 31, vI l1, vI l2, PU] [] (GF X, M, PTF v) K ↔ pm_Run d 82 274 [vA 31, vI l1, vI l2, PU] [] (GF X, M, PTF v) K := by
  refine (px_goto (off := 116) (tgt := 274) (by decide +kernel)).trans ?_
  exact Iff.rfl
theorem r82_161 {d : Nat} {X : Nat × (Nat → Int)} {v : Nat → Int} {M : PH} {K : PV → PS → Prop} {l1 l2 : Int} : pm_Run d 82 161 [vA 31, vI l1, vI l2, PU] [] (GF X, M, PTF v) K ↔ pm_Call d 88 [vA 31] (GF X, M, PTF v) (fun r9 S1 => pm_Run d 82 165 [vA 31, vI l1, vI l2, PU] (pm_push r9 []) S1 K) := by
  refine (px_go (by decide +kernel : pm_fe 82 161 = some (.aload_n 0, 1)) rfl).trans ?_
  refine (ry_v0 (idx := 115) (m' := 88) (ci := 6) (by decide +kernel : 31 < 283 ∧ SHF 31 = (6, 5)) (by simp [pm_wl_n, pm_wl_c, pm_w] : pm_wl [] ≤ 8) (by decide +kernel)).trans ?_
  exact Iff.rfl
theorem r82_165 {d : Nat} {X : Nat × (Nat → Int)} {v : Nat → Int} {M : PH} {K : PV → PS → Prop} {l1 l2 : Int} : pm_Run d 82 165 [vA 31, vI l1, vI l2, PU] [] (GF X, M, PTF v) K ↔ pm_Run d 82 274 [vA 31, vI l1, vI l2, PU] [] (GF X, M, PTF v) K := by
  refine (px_goto (off := 109) (tgt := 274) (by decide +kernel)).trans ?_
  exact Iff.rfl
theorem r82_168 {d : Nat} {X : Nat × (Nat → Int)} {v : Nat → Int} {M : PH} {K : PV → PS → Prop} {l1 l2 : Int} : pm_Run d 82 168 [vA 31, vI l1, vI l2, PU] [] (GF X, M, PTF v) K ↔ pm_Call d 51 [vA 32] (GF X, M, PTF v) (fun r9 S1 => pm_Run d 82 175 [vA 31, vI l1, vI l2, PU] (pm_push r9 []) S1 K) := by
  refine (px_go (by decide +kernel : pm_fe 82 168 = some (.aload_n 0, 1)) rfl).trans ?_
  refine (ry_get2 (idx := 12) (ci := 6) (k := 0) (by decide +kernel : 31 < 283 ∧ SHF 31 = (6, 5)) (ptf_l (a := 31) (k := 0) (n := 32) (by decide +kernel)) (by decide +kernel)).trans ?_
  refine (ry_v0 (idx := 42) (m' := 51) (ci := 4) (by decide +kernel : 32 < 283 ∧ SHF 32 = (4, 9)) (by simp [pm_wl_n, pm_wl_c, pm_w] : pm_wl [] ≤ 8) (by decide +kernel)).trans ?_
  exact Iff.rfl
theorem r82_175 {d : Nat} {c : Nat} {X : Nat × (Nat → Int)} {v : Nat → Int} {M : PH} {K : PV → PS → Prop} {l1 l2 : Int} (hc : isCh c) (hv1 : v 1 = ((c : Nat) : Int)) : pm_Run d 82 175 [vA 31, vI l1, vI l2, PU] [] (GF X, M, PTF v) K ↔ pm_Call d 75 [vA 31, vI 0, vI 99] (GF X, M, PTF v) (fun r9 S1 => pm_Run d 82 186 [vA 31, vI l1, vI l2, PU] (pm_push r9 [vA c]) S1 K) := by
  refine (px_go (by decide +kernel : pm_fe 82 175 = some (.aload_n 0, 1)) rfl).trans ?_
  refine (ry_get2 (idx := 21) (ci := 6) (k := 1) (by decide +kernel : 31 < 283 ∧ SHF 31 = (6, 5)) (ptd1 hv1) (by decide +kernel)).trans ?_
  refine (px_go (by decide +kernel : pm_fe 82 179 = some (.aload_n 0, 1)) rfl).trans ?_
  refine (px_go (by decide +kernel : pm_fe 82 180 = some (.iconst 0, 1)) rfl).trans ?_
  refine (px_go (by decide +kernel : pm_fe 82 181 = some (.bipush 99, 2)) rfl).trans ?_
  refine (ry_v2 (idx := 99) (m' := 75) (ci := 6) (by decide +kernel : 31 < 283 ∧ SHF 31 = (6, 5)) (by simp [pm_wl_n, pm_wl_c, pm_w] : pm_wl [vA c] ≤ 8) (by decide +kernel)).trans ?_
  exact Iff.rfl
theorem r82_186 {d : Nat} {c : Nat} {X : Nat × (Nat → Int)} {v : Nat → Int} {M : PH} {K : PV → PS → Prop} {l1 l2 s0 : Int} (hc : isCh c) : pm_Run d 82 186 [vA 31, vI l1, vI l2, PU] [vI s0, vA c] (GF X, M, PTF v) K ↔ pm_Run d 82 274 [vA 31, vI l1, vI l2, PU] [] (GF X, pm_sa M c (pm_up (M c) 5 s0), PTF v) K := by
  refine (ry_put0 (idx := 118) (ci := 1) (k := 5) (chs0 hc) (by decide +kernel)).trans ?_
  refine (px_goto (off := 85) (tgt := 274) (by decide +kernel)).trans ?_
  exact Iff.rfl
theorem r82_192 {d : Nat} {X : Nat × (Nat → Int)} {v : Nat → Int} {M : PH} {K : PV → PS → Prop} {l1 l2 : Int} : pm_Run d 82 192 [vA 31, vI l1, vI l2, PU] [] (GF X, M, PTF v) K ↔ pm_Call d 51 [vA 32] (GF X, M, PTF v) (fun r9 S1 => pm_Run d 82 199 [vA 31, vI l1, vI l2, PU] (pm_push r9 []) S1 K) := by
  refine (px_go (by decide +kernel : pm_fe 82 192 = some (.aload_n 0, 1)) rfl).trans ?_
  refine (ry_get2 (idx := 12) (ci := 6) (k := 0) (by decide +kernel : 31 < 283 ∧ SHF 31 = (6, 5)) (ptf_l (a := 31) (k := 0) (n := 32) (by decide +kernel)) (by decide +kernel)).trans ?_
  refine (ry_v0 (idx := 42) (m' := 51) (ci := 4) (by decide +kernel : 32 < 283 ∧ SHF 32 = (4, 9)) (by simp [pm_wl_n, pm_wl_c, pm_w] : pm_wl [] ≤ 8) (by decide +kernel)).trans ?_
  exact Iff.rfl
theorem r82_199 {d : Nat} {c : Nat} {X : Nat × (Nat → Int)} {v : Nat → Int} {M : PH} {K : PV → PS → Prop} {l1 l2 : Int} (hc : isCh c) (hv1 : v 1 = ((c : Nat) : Int)) : pm_Run d 82 199 [vA 31, vI l1, vI l2, PU] [] (GF X, M, PTF v) K ↔ pm_Call d 75 [vA 31, vI 1, vI 999] (GF X, M, PTF v) (fun r9 S1 => pm_Run d 82 211 [vA 31, vI l1, vI l2, PU] (pm_push r9 [vA c]) S1 K) := by
  refine (px_go (by decide +kernel : pm_fe 82 199 = some (.aload_n 0, 1)) rfl).trans ?_
  refine (ry_get2 (idx := 21) (ci := 6) (k := 1) (by decide +kernel : 31 < 283 ∧ SHF 31 = (6, 5)) (ptd1 hv1) (by decide +kernel)).trans ?_
  refine (px_go (by decide +kernel : pm_fe 82 203 = some (.aload_n 0, 1)) rfl).trans ?_
  refine (px_go (by decide +kernel : pm_fe 82 204 = some (.iconst 1, 1)) rfl).trans ?_
  refine (px_go (by decide +kernel : pm_fe 82 205 = some (.sipush 999, 3)) rfl).trans ?_
  refine (ry_v2 (idx := 99) (m' := 75) (ci := 6) (by decide +kernel : 31 < 283 ∧ SHF 31 = (6, 5)) (by simp [pm_wl_n, pm_wl_c, pm_w] : pm_wl [vA c] ≤ 8) (by decide +kernel)).trans ?_
  exact Iff.rfl
theorem r82_211 {d : Nat} {c : Nat} {X : Nat × (Nat → Int)} {v : Nat → Int} {M : PH} {K : PV → PS → Prop} {l1 l2 s0 : Int} (hc : isCh c) : pm_Run d 82 211 [vA 31, vI l1, vI l2, PU] [vI s0, vA c] (GF X, M, PTF v) K ↔ pm_Run d 82 274 [vA 31, vI l1, vI l2, PU] [] (GF X, pm_sa M c (pm_up (M c) 6 s0), PTF v) K := by
  refine (ry_put0 (idx := 121) (ci := 1) (k := 6) (chs0 hc) (by decide +kernel)).trans ?_
  refine (px_goto (off := 60) (tgt := 274) (by decide +kernel)).trans ?_
  exact Iff.rfl
theorem r82_217 {d : Nat} {X : Nat × (Nat → Int)} {v : Nat → Int} {M : PH} {K : PV → PS → Prop} {l1 l2 : Int} : pm_Run d 82 217 [vA 31, vI l1, vI l2, PU] [] (GF X, M, PTF v) K ↔ pm_Call d 83 [vA 31, vI l2] (GF X, M, PTF v) (fun r9 S1 => pm_Run d 82 222 [vA 31, vI l1, vI l2, PU] (pm_push r9 []) S1 K) := by
  refine (px_go (by decide +kernel : pm_fe 82 217 = some (.aload_n 0, 1)) rfl).trans ?_
  refine (px_go (by decide +kernel : pm_fe 82 218 = some (.iload_n 2, 1)) rfl).trans ?_
  refine (ry_v1 (idx := 124) (m' := 83) (ci := 6) (by decide +kernel : 31 < 283 ∧ SHF 31 = (6, 5)) (by simp [pm_wl_n, pm_wl_c, pm_w] : pm_wl [] ≤ 8) (by decide +kernel)).trans ?_
  exact Iff.rfl
theorem r82_222 {d : Nat} {X : Nat × (Nat → Int)} {v : Nat → Int} {M : PH} {K : PV → PS → Prop} {l1 l2 s0 : Int} (h1 : inR s0) : pm_Run d 82 222 [vA 31, vI l1, vI l2, PU] [vI s0] (GF X, M, PTF v) K ↔ if s0 = (-1) then pm_Run d 82 274 [vA 31, vI l1, vI l2, vI s0] [] (GF X, M, PTF v) K else pm_Run d 82 228 [vA 31, vI l1, vI l2, vI s0] [] (GF X, M, PTF v) K := by
  refine (px_go (by decide +kernel : pm_fe 82 222 = some (.istore_n 3, 1)) rfl).trans ?_
  refine (px_go (by decide +kernel : pm_fe 82 223 = some (.iload_n 3, 1)) rfl).trans ?_
  refine (px_go (by decide +kernel : pm_fe 82 224 = some (.iconst (-1), 1)) rfl).trans ?_
  refine (ry_ic_eq (off := 49) (tgt := 274) h1 (by decide : (-2147483648 ≤ ((-1) : Int) ∧ ((-1) : Int) < 2147483648)) (by decide +kernel)).trans ?_
  exact Iff.rfl
theorem r82_228 {d : Nat} {c : Nat} {X : Nat × (Nat → Int)} {v : Nat → Int} {M : PH} {K : PV → PS → Prop} {l1 l2 l3 : Int} (hc : isCh c) (hv1 : v 1 = ((c : Nat) : Int)) : pm_Run d 82 228 [vA 31, vI l1, vI l2, vI l3] [] (GF X, M, PTF v) K ↔ pm_Call d 41 [vA (c + 15), vI l3] (GF X, M, PTF v) (fun r9 S1 => pm_Run d 82 239 [vA 31, vI l1, vI l2, vI l3] (pm_push r9 []) S1 K) := by
  refine (px_go (by decide +kernel : pm_fe 82 228 = some (.aload_n 0, 1)) rfl).trans ?_
  refine (ry_get2 (idx := 21) (ci := 6) (k := 1) (by decide +kernel : 31 < 283 ∧ SHF 31 = (6, 5)) (ptd1 hv1) (by decide +kernel)).trans ?_
  refine (ry_get2 (idx := 127) (ci := 1) (k := 17) (chs0 hc) (chp0_17 hc) (by decide +kernel)).trans ?_
  refine (px_go (by decide +kernel : pm_fe 82 235 = some (.iload_n 3, 1)) rfl).trans ?_
  refine (ry_v1 (idx := 131) (m' := 41) (ci := 3) (chs15 hc) (by simp [pm_wl_n, pm_wl_c, pm_w] : pm_wl [] ≤ 8) (by decide +kernel)).trans ?_
  exact Iff.rfl
theorem r82_239 {d : Nat} {X : Nat × (Nat → Int)} {v : Nat → Int} {M : PH} {K : PV → PS → Prop} {l1 l2 l3 : Int} (h1 : inR l2) : pm_Run d 82 239 [vA 31, vI l1, vI l2, vI l3] [] (GF X, M, PTF v) K ↔ if l2 ≠ 10 then pm_Run d 82 252 [vA 31, vI l1, vI l2, vI l3] [] (GF X, M, PTF v) K else pm_Run d 82 245 [vA 31, vI l1, vI l2, vI l3] [] (GF X, M, PTF v) K := by
  refine (px_go (by decide +kernel : pm_fe 82 239 = some (.iload_n 2, 1)) rfl).trans ?_
  refine (px_go (by decide +kernel : pm_fe 82 240 = some (.bipush 10, 2)) rfl).trans ?_
  refine (ry_ic_ne (off := 10) (tgt := 252) h1 (by decide : (-2147483648 ≤ (10 : Int) ∧ (10 : Int) < 2147483648)) (by decide +kernel)).trans ?_
  exact Iff.rfl
theorem r82_245 {d : Nat} {X : Nat × (Nat → Int)} {v : Nat → Int} {M : PH} {K : PV → PS → Prop} {l1 l2 l3 : Int} : pm_Run d 82 245 [vA 31, vI l1, vI l2, vI l3] [] (GF X, M, PTF v) K ↔ pm_Call d 91 [vA 31] (GF X, M, PTF v) (fun r9 S1 => pm_Run d 82 249 [vA 31, vI l1, vI l2, vI l3] (pm_push r9 []) S1 K) := by
  refine (px_go (by decide +kernel : pm_fe 82 245 = some (.aload_n 0, 1)) rfl).trans ?_
  refine (ry_v0 (idx := 136) (m' := 91) (ci := 6) (by decide +kernel : 31 < 283 ∧ SHF 31 = (6, 5)) (by simp [pm_wl_n, pm_wl_c, pm_w] : pm_wl [] ≤ 8) (by decide +kernel)).trans ?_
  exact Iff.rfl
theorem r82_249 {d : Nat} {X : Nat × (Nat → Int)} {v : Nat → Int} {M : PH} {K : PV → PS → Prop} {l1 l2 l3 : Int} : pm_Run d 82 249 [vA 31, vI l1, vI l2, vI l3] [] (GF X, M, PTF v) K ↔ pm_Run d 82 256 [vA 31, vI l1, vI l2, vI l3] [] (GF X, M, PTF v) K := by
  refine (px_goto (off := 7) (tgt := 256) (by decide +kernel)).trans ?_
  exact Iff.rfl
theorem r82_252 {d : Nat} {X : Nat × (Nat → Int)} {v : Nat → Int} {M : PH} {K : PV → PS → Prop} {l1 l2 l3 : Int} : pm_Run d 82 252 [vA 31, vI l1, vI l2, vI l3] [] (GF X, M, PTF v) K ↔ pm_Call d 94 [vA 31] (GF X, M, PTF v) (fun r9 S1 => pm_Run d 82 256 [vA 31, vI l1, vI l2, vI l3] (pm_push r9 []) S1 K) := by
  refine (px_go (by decide +kernel : pm_fe 82 252 = some (.aload_n 0, 1)) rfl).trans ?_
  refine (ry_v0 (idx := 139) (m' := 94) (ci := 6) (by decide +kernel : 31 < 283 ∧ SHF 31 = (6, 5)) (by simp [pm_wl_n, pm_wl_c, pm_w] : pm_wl [] ≤ 8) (by decide +kernel)).trans ?_
  exact Iff.rfl
theorem r82_256 {d : Nat} {c : Nat} {X : Nat × (Nat → Int)} {v : Nat → Int} {M : PH} {K : PV → PS → Prop} {l1 l2 l3 : Int} (hc : isCh c) (hv1 : v 1 = ((c : Nat) : Int)) : pm_Run d 82 256 [vA 31, vI l1, vI l2, vI l3] [] (GF X, M, PTF v) K ↔ pm_Call d 42 [vA (c + 15), vI l3] (GF X, M, PTF v) (fun r9 S1 => pm_Run d 82 267 [vA 31, vI l1, vI l2, vI l3] (pm_push r9 []) S1 K) := by
  refine (px_go (by decide +kernel : pm_fe 82 256 = some (.aload_n 0, 1)) rfl).trans ?_
  refine (ry_get2 (idx := 21) (ci := 6) (k := 1) (by decide +kernel : 31 < 283 ∧ SHF 31 = (6, 5)) (ptd1 hv1) (by decide +kernel)).trans ?_
  refine (ry_get2 (idx := 127) (ci := 1) (k := 17) (chs0 hc) (chp0_17 hc) (by decide +kernel)).trans ?_
  refine (px_go (by decide +kernel : pm_fe 82 263 = some (.iload_n 3, 1)) rfl).trans ?_
  refine (ry_v1 (idx := 142) (m' := 42) (ci := 3) (chs15 hc) (by simp [pm_wl_n, pm_wl_c, pm_w] : pm_wl [] ≤ 8) (by decide +kernel)).trans ?_
  exact Iff.rfl
theorem r82_267 {d : Nat} {X : Nat × (Nat → Int)} {v : Nat → Int} {M : PH} {K : PV → PS → Prop} {l1 l2 l3 : Int} : pm_Run d 82 267 [vA 31, vI l1, vI l2, vI l3] [] (GF X, M, PTF v) K ↔ pm_Run d 82 274 [vA 31, vI l1, vI l2, vI l3] [] (GF X, M, PTF v) K := by
  refine (px_goto (off := 7) (tgt := 274) (by decide +kernel)).trans ?_
  exact Iff.rfl
theorem r82_270 {d : Nat} {X : Nat × (Nat → Int)} {v : Nat → Int} {M : PH} {K : PV → PS → Prop} {l1 l2 : Int} : pm_Run d 82 270 [vA 31, vI l1, vI l2, PU] [] (GF X, M, PTF v) K ↔ pm_Call d 70 [vA 31] (GF X, M, PTF v) (fun r9 S1 => pm_Run d 82 274 [vA 31, vI l1, vI l2, PU] (pm_push r9 []) S1 K) := by
  refine (px_go (by decide +kernel : pm_fe 82 270 = some (.aload_n 0, 1)) rfl).trans ?_
  refine (ry_v0 (idx := 48) (m' := 70) (ci := 6) (by decide +kernel : 31 < 283 ∧ SHF 31 = (6, 5)) (by simp [pm_wl_n, pm_wl_c, pm_w] : pm_wl [] ≤ 8) (by decide +kernel)).trans ?_
  exact Iff.rfl
theorem r82_274 {d : Nat} {X : Nat × (Nat → Int)} {v : Nat → Int} {M : PH} {K : PV → PS → Prop} {l1 l2 : Int} {l3 : PV} : pm_Run d 82 274 [vA 31, vI l1, vI l2, l3] [] (GF X, M, PTF v) K ↔ K PU (GF X, M, PTF v) := by
  refine (px_rv (by decide +kernel)).trans ?_
  exact Iff.rfl
-- X6_formulaOf formulaOf(I)I
theorem r83_0 {d : Nat} {X : Nat × (Nat → Int)} {v : Nat → Int} {M : PH} {K : PV → PS → Prop} {l1 : Int} (h1 : inR l1) : pm_Run d 83 0 [vA 31, vI l1, PU] [] (GF X, M, PTF v) K ↔ if l1 ≠ 11 then pm_Run d 83 10 [vA 31, vI l1, PU] [] (GF X, M, PTF v) K else pm_Run d 83 6 [vA 31, vI l1, PU] [] (GF X, M, PTF v) K := by
  refine (px_go (by decide +kernel : pm_fe 83 0 = some (.iload_n 1, 1)) rfl).trans ?_
  refine (px_go (by decide +kernel : pm_fe 83 1 = some (.bipush 11, 2)) rfl).trans ?_
  refine (ry_ic_ne (off := 7) (tgt := 10) h1 (by decide : (-2147483648 ≤ (11 : Int) ∧ (11 : Int) < 2147483648)) (by decide +kernel)).trans ?_
  exact Iff.rfl
theorem r83_6 {d : Nat} {X : Nat × (Nat → Int)} {v : Nat → Int} {M : PH} {K : PV → PS → Prop} {l1 : Int} : pm_Run d 83 6 [vA 31, vI l1, PU] [] (GF X, M, PTF v) K ↔ pm_Run d 83 11 [vA 31, vI l1, PU] [vI 0] (GF X, M, PTF v) K := by
  refine (px_go (by decide +kernel : pm_fe 83 6 = some (.iconst 0, 1)) rfl).trans ?_
  refine (px_goto (off := 4) (tgt := 11) (by decide +kernel)).trans ?_
  exact Iff.rfl
theorem r83_10 {d : Nat} {X : Nat × (Nat → Int)} {v : Nat → Int} {M : PH} {K : PV → PS → Prop} {l1 : Int} : pm_Run d 83 10 [vA 31, vI l1, PU] [] (GF X, M, PTF v) K ↔ pm_Run d 83 11 [vA 31, vI l1, PU] [vI 1] (GF X, M, PTF v) K := by
  refine (px_go (by decide +kernel : pm_fe 83 10 = some (.iconst 1, 1)) rfl).trans ?_
  exact Iff.rfl
theorem r83_11 {d : Nat} {X : Nat × (Nat → Int)} {v : Nat → Int} {M : PH} {K : PV → PS → Prop} {l1 s0 : Int} (h1 : inR l1) : pm_Run d 83 11 [vA 31, vI l1, PU] [vI s0] (GF X, M, PTF v) K ↔ if l1 ≠ 10 then pm_Run d 83 69 [vA 31, vI l1, vI s0] [] (GF X, M, PTF v) K else pm_Run d 83 18 [vA 31, vI l1, vI s0] [] (GF X, M, PTF v) K := by
  refine (px_go (by decide +kernel : pm_fe 83 11 = some (.istore_n 2, 1)) rfl).trans ?_
  refine (px_go (by decide +kernel : pm_fe 83 12 = some (.iload_n 1, 1)) rfl).trans ?_
  refine (px_go (by decide +kernel : pm_fe 83 13 = some (.bipush 10, 2)) rfl).trans ?_
  refine (ry_ic_ne (off := 54) (tgt := 69) h1 (by decide : (-2147483648 ≤ (10 : Int) ∧ (10 : Int) < 2147483648)) (by decide +kernel)).trans ?_
  exact Iff.rfl
theorem r83_18 {d : Nat} {c : Nat} {X : Nat × (Nat → Int)} {v : Nat → Int} {M : PH} {K : PV → PS → Prop} {l1 l2 : Int} (hc : isCh c) (hv1 : v 1 = ((c : Nat) : Int)) (h1 : inR (M c 4)) : pm_Run d 83 18 [vA 31, vI l1, vI l2] [] (GF X, M, PTF v) K ↔ if 6 ≤ M c 4 then pm_Run d 83 45 [vA 31, vI l1, vI (2 + (M c 4))] [vA 31] (GF X, M, PTF v) K else pm_Run d 83 41 [vA 31, vI l1, vI (2 + (M c 4))] [vA 31] (GF X, M, PTF v) K := by
  refine (px_go (by decide +kernel : pm_fe 83 18 = some (.iconst 2, 1)) rfl).trans ?_
  refine (px_go (by decide +kernel : pm_fe 83 19 = some (.aload_n 0, 1)) rfl).trans ?_
  refine (ry_get2 (idx := 21) (ci := 6) (k := 1) (by decide +kernel : 31 < 283 ∧ SHF 31 = (6, 5)) (ptd1 hv1) (by decide +kernel)).trans ?_
  refine (ry_get0 (idx := 145) (ci := 1) (k := 4) (chs0 hc) (by decide +kernel)).trans ?_
  refine (px_go (by decide +kernel : pm_fe 83 26 = some (.iadd, 1)) rfl).trans ?_
  refine (px_go (by decide +kernel : pm_fe 83 27 = some (.istore_n 2, 1)) rfl).trans ?_
  refine (px_go (by decide +kernel : pm_fe 83 28 = some (.aload_n 0, 1)) rfl).trans ?_
  refine (px_go (by decide +kernel : pm_fe 83 29 = some (.aload_n 0, 1)) rfl).trans ?_
  refine (ry_get2 (idx := 21) (ci := 6) (k := 1) (by decide +kernel : 31 < 283 ∧ SHF 31 = (6, 5)) (ptd1 hv1) (by decide +kernel)).trans ?_
  refine (ry_get0 (idx := 145) (ci := 1) (k := 4) (chs0 hc) (by decide +kernel)).trans ?_
  refine (px_go (by decide +kernel : pm_fe 83 36 = some (.bipush 6, 2)) rfl).trans ?_
  refine (ry_ic_ge (off := 7) (tgt := 45) h1 (by decide : (-2147483648 ≤ (6 : Int) ∧ (6 : Int) < 2147483648)) (by decide +kernel)).trans ?_
  exact Iff.rfl
theorem r83_41 {d : Nat} {X : Nat × (Nat → Int)} {v : Nat → Int} {M : PH} {K : PV → PS → Prop} {l1 l2 : Int} : pm_Run d 83 41 [vA 31, vI l1, vI l2] [vA 31] (GF X, M, PTF v) K ↔ pm_Run d 83 46 [vA 31, vI l1, vI l2] [vI 1, vA 31] (GF X, M, PTF v) K := by
  refine (px_go (by decide +kernel : pm_fe 83 41 = some (.iconst 1, 1)) rfl).trans ?_
  refine (px_goto (off := 4) (tgt := 46) (by decide +kernel)).trans ?_
  exact Iff.rfl
theorem r83_45 {d : Nat} {X : Nat × (Nat → Int)} {v : Nat → Int} {M : PH} {K : PV → PS → Prop} {l1 l2 : Int} : pm_Run d 83 45 [vA 31, vI l1, vI l2] [vA 31] (GF X, M, PTF v) K ↔ pm_Run d 83 46 [vA 31, vI l1, vI l2] [vI 0, vA 31] (GF X, M, PTF v) K := by
  refine (px_go (by decide +kernel : pm_fe 83 45 = some (.iconst 0, 1)) rfl).trans ?_
  exact Iff.rfl
theorem r83_46 {d : Nat} {X : Nat × (Nat → Int)} {v : Nat → Int} {M : PH} {K : PV → PS → Prop} {l1 l2 s0 : Int} : pm_Run d 83 46 [vA 31, vI l1, vI l2] [vI s0, vA 31] (GF X, M, PTF v) K ↔ pm_Call d 81 [vA 31, vI s0] (GF X, M, PTF v) (fun r9 S1 => pm_Run d 83 49 [vA 31, vI l1, vI l2] (pm_push r9 []) S1 K) := by
  refine (ry_v1 (idx := 148) (m' := 81) (ci := 6) (by decide +kernel : 31 < 283 ∧ SHF 31 = (6, 5)) (by simp [pm_wl_n, pm_wl_c, pm_w] : pm_wl [] ≤ 8) (by decide +kernel)).trans ?_
  exact Iff.rfl
theorem r83_49 {d : Nat} {X : Nat × (Nat → Int)} {v : Nat → Int} {M : PH} {K : PV → PS → Prop} {l1 l2 s0 : Int} (h1 : inR s0) : pm_Run d 83 49 [vA 31, vI l1, vI l2] [vI s0] (GF X, M, PTF v) K ↔ if s0 ≠ 0 then pm_Run d 83 54 [vA 31, vI l1, vI l2] [] (GF X, M, PTF v) K else pm_Run d 83 52 [vA 31, vI l1, vI l2] [] (GF X, M, PTF v) K := by
  refine (ry_if_ne (off := 5) (tgt := 54) h1 (by decide +kernel)).trans ?_
  exact Iff.rfl
theorem r83_52 {d : Nat} {X : Nat × (Nat → Int)} {v : Nat → Int} {M : PH} {K : PV → PS → Prop} {l1 l2 : Int} : pm_Run d 83 52 [vA 31, vI l1, vI l2] [] (GF X, M, PTF v) K ↔ K (vI (-1)) (GF X, M, PTF v) := by
  refine (px_go (by decide +kernel : pm_fe 83 52 = some (.iconst (-1), 1)) rfl).trans ?_
  refine (px_ri (by decide +kernel)).trans ?_
  exact Iff.rfl
theorem r83_54 {d : Nat} {c : Nat} {X : Nat × (Nat → Int)} {v : Nat → Int} {M : PH} {K : PV → PS → Prop} {l1 l2 : Int} (hc : isCh c) (hv1 : v 1 = ((c : Nat) : Int)) : pm_Run d 83 54 [vA 31, vI l1, vI l2] [] (GF X, M, PTF v) K ↔ pm_Run d 83 67 [vA 31, vI l1, vI l2] [] (GF X, pm_sa M c (pm_up (M c) 4 ((M c 4) + 1)), PTF v) K := by
  refine (px_go (by decide +kernel : pm_fe 83 54 = some (.aload_n 0, 1)) rfl).trans ?_
  refine (ry_get2 (idx := 21) (ci := 6) (k := 1) (by decide +kernel : 31 < 283 ∧ SHF 31 = (6, 5)) (ptd1 hv1) (by decide +kernel)).trans ?_
  refine (px_go (by decide +kernel : pm_fe 83 58 = some (.dup, 1)) rfl).trans ?_
  refine (ry_get0 (idx := 145) (ci := 1) (k := 4) (chs0 hc) (by decide +kernel)).trans ?_
  refine (px_go (by decide +kernel : pm_fe 83 62 = some (.iconst 1, 1)) rfl).trans ?_
  refine (px_go (by decide +kernel : pm_fe 83 63 = some (.iadd, 1)) rfl).trans ?_
  refine (ry_put0 (idx := 145) (ci := 1) (k := 4) (chs0 hc) (by decide +kernel)).trans ?_
  exact Iff.rfl
theorem r83_67 {d : Nat} {X : Nat × (Nat → Int)} {v : Nat → Int} {M : PH} {K : PV → PS → Prop} {l1 l2 : Int} : pm_Run d 83 67 [vA 31, vI l1, vI l2] [] (GF X, M, PTF v) K ↔ K (vI l2) (GF X, M, PTF v) := by
  refine (px_go (by decide +kernel : pm_fe 83 67 = some (.iload_n 2, 1)) rfl).trans ?_
  refine (px_ri (by decide +kernel)).trans ?_
  exact Iff.rfl
theorem r83_69 {d : Nat} {c : Nat} {X : Nat × (Nat → Int)} {v : Nat → Int} {M : PH} {K : PV → PS → Prop} {l1 l2 : Int} (hc : isCh c) (hv1 : v 1 = ((c : Nat) : Int)) : pm_Run d 83 69 [vA 31, vI l1, vI l2] [] (GF X, M, PTF v) K ↔ pm_Call d 44 [vA (c + 15), vI l2] (GF X, M, PTF v) (fun r9 S1 => pm_Run d 83 81 [vA 31, vI l1, vI l2] (pm_push r9 [vA 31]) S1 K) := by
  refine (px_go (by decide +kernel : pm_fe 83 69 = some (.aload_n 0, 1)) rfl).trans ?_
  refine (px_go (by decide +kernel : pm_fe 83 70 = some (.aload_n 0, 1)) rfl).trans ?_
  refine (ry_get2 (idx := 21) (ci := 6) (k := 1) (by decide +kernel : 31 < 283 ∧ SHF 31 = (6, 5)) (ptd1 hv1) (by decide +kernel)).trans ?_
  refine (ry_get2 (idx := 127) (ci := 1) (k := 17) (chs0 hc) (chp0_17 hc) (by decide +kernel)).trans ?_
  refine (px_go (by decide +kernel : pm_fe 83 77 = some (.iload_n 2, 1)) rfl).trans ?_
  refine (ry_v1 (idx := 152) (m' := 44) (ci := 3) (chs15 hc) (by simp [pm_wl_n, pm_wl_c, pm_w] : pm_wl [vA 31] ≤ 8) (by decide +kernel)).trans ?_
  exact Iff.rfl
theorem r83_81 {d : Nat} {X : Nat × (Nat → Int)} {v : Nat → Int} {M : PH} {K : PV → PS → Prop} {l1 l2 s0 : Int} (h1 : inR s0) : pm_Run d 83 81 [vA 31, vI l1, vI l2] [vI s0, vA 31] (GF X, M, PTF v) K ↔ if s0 ≠ 0 then pm_Run d 83 88 [vA 31, vI l1, vI l2] [vA 31] (GF X, M, PTF v) K else pm_Run d 83 84 [vA 31, vI l1, vI l2] [vA 31] (GF X, M, PTF v) K := by
  refine (ry_if_ne (off := 7) (tgt := 88) h1 (by decide +kernel)).trans ?_
  exact Iff.rfl
theorem r83_84 {d : Nat} {X : Nat × (Nat → Int)} {v : Nat → Int} {M : PH} {K : PV → PS → Prop} {l1 l2 : Int} : pm_Run d 83 84 [vA 31, vI l1, vI l2] [vA 31] (GF X, M, PTF v) K ↔ pm_Run d 83 89 [vA 31, vI l1, vI l2] [vI 1, vA 31] (GF X, M, PTF v) K := by
  refine (px_go (by decide +kernel : pm_fe 83 84 = some (.iconst 1, 1)) rfl).trans ?_
  refine (px_goto (off := 4) (tgt := 89) (by decide +kernel)).trans ?_
  exact Iff.rfl
theorem r83_88 {d : Nat} {X : Nat × (Nat → Int)} {v : Nat → Int} {M : PH} {K : PV → PS → Prop} {l1 l2 : Int} : pm_Run d 83 88 [vA 31, vI l1, vI l2] [vA 31] (GF X, M, PTF v) K ↔ pm_Run d 83 89 [vA 31, vI l1, vI l2] [vI 0, vA 31] (GF X, M, PTF v) K := by
  refine (px_go (by decide +kernel : pm_fe 83 88 = some (.iconst 0, 1)) rfl).trans ?_
  exact Iff.rfl
theorem r83_89 {d : Nat} {X : Nat × (Nat → Int)} {v : Nat → Int} {M : PH} {K : PV → PS → Prop} {l1 l2 s0 : Int} : pm_Run d 83 89 [vA 31, vI l1, vI l2] [vI s0, vA 31] (GF X, M, PTF v) K ↔ pm_Call d 81 [vA 31, vI s0] (GF X, M, PTF v) (fun r9 S1 => pm_Run d 83 92 [vA 31, vI l1, vI l2] (pm_push r9 []) S1 K) := by
  refine (ry_v1 (idx := 148) (m' := 81) (ci := 6) (by decide +kernel : 31 < 283 ∧ SHF 31 = (6, 5)) (by simp [pm_wl_n, pm_wl_c, pm_w] : pm_wl [] ≤ 8) (by decide +kernel)).trans ?_
  exact Iff.rfl
theorem r83_92 {d : Nat} {X : Nat × (Nat → Int)} {v : Nat → Int} {M : PH} {K : PV → PS → Prop} {l1 l2 s0 : Int} (h1 : inR s0) : pm_Run d 83 92 [vA 31, vI l1, vI l2] [vI s0] (GF X, M, PTF v) K ↔ if s0 = 0 then pm_Run d 83 99 [vA 31, vI l1, vI l2] [] (GF X, M, PTF v) K else pm_Run d 83 95 [vA 31, vI l1, vI l2] [] (GF X, M, PTF v) K := by
  refine (ry_if_eq (off := 7) (tgt := 99) h1 (by decide +kernel)).trans ?_
  exact Iff.rfl
theorem r83_95 {d : Nat} {X : Nat × (Nat → Int)} {v : Nat → Int} {M : PH} {K : PV → PS → Prop} {l1 l2 : Int} : pm_Run d 83 95 [vA 31, vI l1, vI l2] [] (GF X, M, PTF v) K ↔ pm_Run d 83 100 [vA 31, vI l1, vI l2] [vI l2] (GF X, M, PTF v) K := by
  refine (px_go (by decide +kernel : pm_fe 83 95 = some (.iload_n 2, 1)) rfl).trans ?_
  refine (px_goto (off := 4) (tgt := 100) (by decide +kernel)).trans ?_
  exact Iff.rfl
theorem r83_99 {d : Nat} {X : Nat × (Nat → Int)} {v : Nat → Int} {M : PH} {K : PV → PS → Prop} {l1 l2 : Int} : pm_Run d 83 99 [vA 31, vI l1, vI l2] [] (GF X, M, PTF v) K ↔ pm_Run d 83 100 [vA 31, vI l1, vI l2] [vI (-1)] (GF X, M, PTF v) K := by
  refine (px_go (by decide +kernel : pm_fe 83 99 = some (.iconst (-1), 1)) rfl).trans ?_
  exact Iff.rfl
theorem r83_100 {d : Nat} {X : Nat × (Nat → Int)} {v : Nat → Int} {M : PH} {K : PV → PS → Prop} {l1 l2 s0 : Int} : pm_Run d 83 100 [vA 31, vI l1, vI l2] [vI s0] (GF X, M, PTF v) K ↔ K (vI s0) (GF X, M, PTF v) := by
  refine (px_ri (by decide +kernel)).trans ?_
  exact Iff.rfl
-- X6_moonStatement moonStatement()V
theorem r84_0 {d : Nat} {c : Nat} {X : Nat × (Nat → Int)} {v : Nat → Int} {M : PH} {K : PV → PS → Prop} (hc : isCh c) (hv1 : v 1 = ((c : Nat) : Int)) (h1 : inR (M c 1)) : pm_Run d 84 0 [vA 31, PU] [] (GF X, M, PTF v) K ↔ if 3 ≤ M c 1 then pm_Run d 84 18 [vA 31, vI (M c 1)] [vA 31] (GF X, M, PTF v) K else pm_Run d 84 14 [vA 31, vI (M c 1)] [vA 31] (GF X, M, PTF v) K := by
  refine (px_go (by decide +kernel : pm_fe 84 0 = some (.aload_n 0, 1)) rfl).trans ?_
  refine (ry_get2 (idx := 21) (ci := 6) (k := 1) (by decide +kernel : 31 < 283 ∧ SHF 31 = (6, 5)) (ptd1 hv1) (by decide +kernel)).trans ?_
  refine (ry_get0 (idx := 155) (ci := 1) (k := 1) (chs0 hc) (by decide +kernel)).trans ?_
  refine (px_go (by decide +kernel : pm_fe 84 7 = some (.istore_n 1, 1)) rfl).trans ?_
  refine (px_go (by decide +kernel : pm_fe 84 8 = some (.aload_n 0, 1)) rfl).trans ?_
  refine (px_go (by decide +kernel : pm_fe 84 9 = some (.iload_n 1, 1)) rfl).trans ?_
  refine (px_go (by decide +kernel : pm_fe 84 10 = some (.iconst 3, 1)) rfl).trans ?_
  refine (ry_ic_ge (off := 7) (tgt := 18) h1 (by decide : (-2147483648 ≤ (3 : Int) ∧ (3 : Int) < 2147483648)) (by decide +kernel)).trans ?_
  exact Iff.rfl
theorem r84_14 {d : Nat} {X : Nat × (Nat → Int)} {v : Nat → Int} {M : PH} {K : PV → PS → Prop} {l1 : Int} : pm_Run d 84 14 [vA 31, vI l1] [vA 31] (GF X, M, PTF v) K ↔ pm_Run d 84 19 [vA 31, vI l1] [vI 1, vA 31] (GF X, M, PTF v) K := by
  refine (px_go (by decide +kernel : pm_fe 84 14 = some (.iconst 1, 1)) rfl).trans ?_
  refine (px_goto (off := 4) (tgt := 19) (by decide +kernel)).trans ?_
  exact Iff.rfl
theorem r84_18 {d : Nat} {X : Nat × (Nat → Int)} {v : Nat → Int} {M : PH} {K : PV → PS → Prop} {l1 : Int} : pm_Run d 84 18 [vA 31, vI l1] [vA 31] (GF X, M, PTF v) K ↔ pm_Run d 84 19 [vA 31, vI l1] [vI 0, vA 31] (GF X, M, PTF v) K := by
  refine (px_go (by decide +kernel : pm_fe 84 18 = some (.iconst 0, 1)) rfl).trans ?_
  exact Iff.rfl
theorem r84_19 {d : Nat} {X : Nat × (Nat → Int)} {v : Nat → Int} {M : PH} {K : PV → PS → Prop} {l1 s0 : Int} : pm_Run d 84 19 [vA 31, vI l1] [vI s0, vA 31] (GF X, M, PTF v) K ↔ pm_Call d 81 [vA 31, vI s0] (GF X, M, PTF v) (fun r9 S1 => pm_Run d 84 22 [vA 31, vI l1] (pm_push r9 []) S1 K) := by
  refine (ry_v1 (idx := 148) (m' := 81) (ci := 6) (by decide +kernel : 31 < 283 ∧ SHF 31 = (6, 5)) (by simp [pm_wl_n, pm_wl_c, pm_w] : pm_wl [] ≤ 8) (by decide +kernel)).trans ?_
  exact Iff.rfl
theorem r84_22 {d : Nat} {X : Nat × (Nat → Int)} {v : Nat → Int} {M : PH} {K : PV → PS → Prop} {l1 s0 : Int} (h1 : inR s0) : pm_Run d 84 22 [vA 31, vI l1] [vI s0] (GF X, M, PTF v) K ↔ if s0 ≠ 0 then pm_Run d 84 26 [vA 31, vI l1] [] (GF X, M, PTF v) K else pm_Run d 84 25 [vA 31, vI l1] [] (GF X, M, PTF v) K := by
  refine (ry_if_ne (off := 4) (tgt := 26) h1 (by decide +kernel)).trans ?_
  exact Iff.rfl
theorem r84_25 {d : Nat} {X : Nat × (Nat → Int)} {v : Nat → Int} {M : PH} {K : PV → PS → Prop} {l1 : Int} : pm_Run d 84 25 [vA 31, vI l1] [] (GF X, M, PTF v) K ↔ K PU (GF X, M, PTF v) := by
  refine (px_rv (by decide +kernel)).trans ?_
  exact Iff.rfl
theorem r84_26 {d : Nat} {c : Nat} {X : Nat × (Nat → Int)} {v : Nat → Int} {M : PH} {K : PV → PS → Prop} {l1 : Int} (hc : isCh c) (hv1 : v 1 = ((c : Nat) : Int)) : pm_Run d 84 26 [vA 31, vI l1] [] (GF X, M, PTF v) K ↔ pm_Call d 77 [vA 31] (GF X, M, PTF v) (fun r9 S1 => pm_Run d 84 38 [vA 31, vI l1] (pm_push r9 [vI l1, vA (c + 1)]) S1 K) := by
  refine (px_go (by decide +kernel : pm_fe 84 26 = some (.aload_n 0, 1)) rfl).trans ?_
  refine (ry_get2 (idx := 21) (ci := 6) (k := 1) (by decide +kernel : 31 < 283 ∧ SHF 31 = (6, 5)) (ptd1 hv1) (by decide +kernel)).trans ?_
  refine (ry_get2 (idx := 158) (ci := 1) (k := 8) (chs0 hc) (chp0_8 hc) (by decide +kernel)).trans ?_
  refine (px_go (by decide +kernel : pm_fe 84 33 = some (.iload_n 1, 1)) rfl).trans ?_
  refine (px_go (by decide +kernel : pm_fe 84 34 = some (.aload_n 0, 1)) rfl).trans ?_
  refine (ry_v0 (idx := 162) (m' := 77) (ci := 6) (by decide +kernel : 31 < 283 ∧ SHF 31 = (6, 5)) (by simp [pm_wl_n, pm_wl_c, pm_w] : pm_wl [vI l1, vA (c + 1)] ≤ 8) (by decide +kernel)).trans ?_
  exact Iff.rfl
theorem r84_38 {d : Nat} {c : Nat} {X : Nat × (Nat → Int)} {v : Nat → Int} {M : PH} {K : PV → PS → Prop} {l1 s0 s1 : Int} (hc : isCh c) (h1 : 0 ≤ s1) (h2 : s1 < 3) : pm_Run d 84 38 [vA 31, vI l1] [vI s0, vI s1, vA (c + 1)] (GF X, M, PTF v) K ↔ pm_Run d 84 39 [vA 31, vI l1] [] (GF X, pm_sa M (c + 1) (pm_up (M (c + 1)) s1.toNat s0), PTF v) K := by
  refine (ry_iast (chs1 hc) h1 h2 (by decide +kernel)).trans ?_
  exact Iff.rfl
theorem r84_39 {d : Nat} {X : Nat × (Nat → Int)} {v : Nat → Int} {M : PH} {K : PV → PS → Prop} {l1 : Int} : pm_Run d 84 39 [vA 31, vI l1] [] (GF X, M, PTF v) K ↔ pm_Call d 73 [vA 31, vI 2] (GF X, M, PTF v) (fun r9 S1 => pm_Run d 84 44 [vA 31, vI l1] (pm_push r9 []) S1 K) := by
  refine (px_go (by decide +kernel : pm_fe 84 39 = some (.aload_n 0, 1)) rfl).trans ?_
  refine (px_go (by decide +kernel : pm_fe 84 40 = some (.iconst 2, 1)) rfl).trans ?_
  refine (ry_v1 (idx := 166) (m' := 73) (ci := 6) (by decide +kernel : 31 < 283 ∧ SHF 31 = (6, 5)) (by simp [pm_wl_n, pm_wl_c, pm_w] : pm_wl [] ≤ 8) (by decide +kernel)).trans ?_
  exact Iff.rfl
theorem r84_44 {d : Nat} {c : Nat} {X : Nat × (Nat → Int)} {v : Nat → Int} {M : PH} {K : PV → PS → Prop} {l1 : Int} (hc : isCh c) (hv1 : v 1 = ((c : Nat) : Int)) : pm_Run d 84 44 [vA 31, vI l1] [] (GF X, M, PTF v) K ↔ pm_Call d 75 [vA 31, vI 0, vI ((M c 0) - 1)] (GF X, M, PTF v) (fun r9 S1 => pm_Run d 84 69 [vA 31, vI l1] (pm_push r9 [vI l1, vA (c + 10)]) S1 K) := by
  refine (px_go (by decide +kernel : pm_fe 84 44 = some (.aload_n 0, 1)) rfl).trans ?_
  refine (ry_get2 (idx := 21) (ci := 6) (k := 1) (by decide +kernel : 31 < 283 ∧ SHF 31 = (6, 5)) (ptd1 hv1) (by decide +kernel)).trans ?_
  refine (ry_get2 (idx := 169) (ci := 1) (k := 16) (chs0 hc) (chp0_16 hc) (by decide +kernel)).trans ?_
  refine (ry_get2 (idx := 173) (ci := 5) (k := 1) (chs9 hc) (chp9_1 hc) (by decide +kernel)).trans ?_
  refine (px_go (by decide +kernel : pm_fe 84 54 = some (.iload_n 1, 1)) rfl).trans ?_
  refine (px_go (by decide +kernel : pm_fe 84 55 = some (.aload_n 0, 1)) rfl).trans ?_
  refine (px_go (by decide +kernel : pm_fe 84 56 = some (.iconst 0, 1)) rfl).trans ?_
  refine (px_go (by decide +kernel : pm_fe 84 57 = some (.aload_n 0, 1)) rfl).trans ?_
  refine (ry_get2 (idx := 21) (ci := 6) (k := 1) (by decide +kernel : 31 < 283 ∧ SHF 31 = (6, 5)) (ptd1 hv1) (by decide +kernel)).trans ?_
  refine (ry_get0 (idx := 103) (ci := 1) (k := 0) (chs0 hc) (by decide +kernel)).trans ?_
  refine (px_go (by decide +kernel : pm_fe 84 64 = some (.iconst 1, 1)) rfl).trans ?_
  refine (px_go (by decide +kernel : pm_fe 84 65 = some (.isub, 1)) rfl).trans ?_
  refine (ry_v2 (idx := 99) (m' := 75) (ci := 6) (by decide +kernel : 31 < 283 ∧ SHF 31 = (6, 5)) (by simp [pm_wl_n, pm_wl_c, pm_w] : pm_wl [vI l1, vA (c + 10)] ≤ 8) (by decide +kernel)).trans ?_
  exact Iff.rfl
theorem r84_69 {d : Nat} {c : Nat} {X : Nat × (Nat → Int)} {v : Nat → Int} {M : PH} {K : PV → PS → Prop} {l1 s0 s1 : Int} (hc : isCh c) (h1 : 0 ≤ s1) (h2 : s1 < 3) : pm_Run d 84 69 [vA 31, vI l1] [vI s0, vI s1, vA (c + 10)] (GF X, M, PTF v) K ↔ pm_Run d 84 70 [vA 31, vI l1] [] (GF X, pm_sa M (c + 10) (pm_up (M (c + 10)) s1.toNat s0), PTF v) K := by
  refine (ry_iast (chs10 hc) h1 h2 (by decide +kernel)).trans ?_
  exact Iff.rfl
theorem r84_70 {d : Nat} {X : Nat × (Nat → Int)} {v : Nat → Int} {M : PH} {K : PV → PS → Prop} {l1 : Int} : pm_Run d 84 70 [vA 31, vI l1] [] (GF X, M, PTF v) K ↔ pm_Call d 73 [vA 31, vI 3] (GF X, M, PTF v) (fun r9 S1 => pm_Run d 84 75 [vA 31, vI l1] (pm_push r9 []) S1 K) := by
  refine (px_go (by decide +kernel : pm_fe 84 70 = some (.aload_n 0, 1)) rfl).trans ?_
  refine (px_go (by decide +kernel : pm_fe 84 71 = some (.iconst 3, 1)) rfl).trans ?_
  refine (ry_v1 (idx := 166) (m' := 73) (ci := 6) (by decide +kernel : 31 < 283 ∧ SHF 31 = (6, 5)) (by simp [pm_wl_n, pm_wl_c, pm_w] : pm_wl [] ≤ 8) (by decide +kernel)).trans ?_
  exact Iff.rfl
theorem r84_75 {d : Nat} {c : Nat} {X : Nat × (Nat → Int)} {v : Nat → Int} {M : PH} {K : PV → PS → Prop} {l1 : Int} (hc : isCh c) (hv1 : v 1 = ((c : Nat) : Int)) : pm_Run d 84 75 [vA 31, vI l1] [] (GF X, M, PTF v) K ↔ pm_Call d 75 [vA 31, vI 0, vI 23] (GF X, M, PTF v) (fun r9 S1 => pm_Run d 84 90 [vA 31, vI l1] (pm_push r9 [vI l1, vA (c + 2)]) S1 K) := by
  refine (px_go (by decide +kernel : pm_fe 84 75 = some (.aload_n 0, 1)) rfl).trans ?_
  refine (ry_get2 (idx := 21) (ci := 6) (k := 1) (by decide +kernel : 31 < 283 ∧ SHF 31 = (6, 5)) (ptd1 hv1) (by decide +kernel)).trans ?_
  refine (ry_get2 (idx := 178) (ci := 1) (k := 9) (chs0 hc) (chp0_9 hc) (by decide +kernel)).trans ?_
  refine (px_go (by decide +kernel : pm_fe 84 82 = some (.iload_n 1, 1)) rfl).trans ?_
  refine (px_go (by decide +kernel : pm_fe 84 83 = some (.aload_n 0, 1)) rfl).trans ?_
  refine (px_go (by decide +kernel : pm_fe 84 84 = some (.iconst 0, 1)) rfl).trans ?_
  refine (px_go (by decide +kernel : pm_fe 84 85 = some (.bipush 23, 2)) rfl).trans ?_
  refine (ry_v2 (idx := 99) (m' := 75) (ci := 6) (by decide +kernel : 31 < 283 ∧ SHF 31 = (6, 5)) (by simp [pm_wl_n, pm_wl_c, pm_w] : pm_wl [vI l1, vA (c + 2)] ≤ 8) (by decide +kernel)).trans ?_
  exact Iff.rfl
theorem r84_90 {d : Nat} {c : Nat} {X : Nat × (Nat → Int)} {v : Nat → Int} {M : PH} {K : PV → PS → Prop} {l1 s0 s1 : Int} (hc : isCh c) (h1 : 0 ≤ s1) (h2 : s1 < 3) : pm_Run d 84 90 [vA 31, vI l1] [vI s0, vI s1, vA (c + 2)] (GF X, M, PTF v) K ↔ pm_Run d 84 91 [vA 31, vI l1] [] (GF X, pm_sa M (c + 2) (pm_up (M (c + 2)) s1.toNat s0), PTF v) K := by
  refine (ry_iast (chs2 hc) h1 h2 (by decide +kernel)).trans ?_
  exact Iff.rfl
theorem r84_91 {d : Nat} {X : Nat × (Nat → Int)} {v : Nat → Int} {M : PH} {K : PV → PS → Prop} {l1 : Int} : pm_Run d 84 91 [vA 31, vI l1] [] (GF X, M, PTF v) K ↔ pm_Call d 73 [vA 31, vI 4] (GF X, M, PTF v) (fun r9 S1 => pm_Run d 84 96 [vA 31, vI l1] (pm_push r9 []) S1 K) := by
  refine (px_go (by decide +kernel : pm_fe 84 91 = some (.aload_n 0, 1)) rfl).trans ?_
  refine (px_go (by decide +kernel : pm_fe 84 92 = some (.iconst 4, 1)) rfl).trans ?_
  refine (ry_v1 (idx := 166) (m' := 73) (ci := 6) (by decide +kernel : 31 < 283 ∧ SHF 31 = (6, 5)) (by simp [pm_wl_n, pm_wl_c, pm_w] : pm_wl [] ≤ 8) (by decide +kernel)).trans ?_
  exact Iff.rfl
theorem r84_96 {d : Nat} {c : Nat} {X : Nat × (Nat → Int)} {v : Nat → Int} {M : PH} {K : PV → PS → Prop} {l1 : Int} (hc : isCh c) (hv1 : v 1 = ((c : Nat) : Int)) : pm_Run d 84 96 [vA 31, vI l1] [] (GF X, M, PTF v) K ↔ pm_Call d 75 [vA 31, vI 0, vI 9] (GF X, M, PTF v) (fun r9 S1 => pm_Run d 84 114 [vA 31, vI l1] (pm_push r9 [vI l1, vA (c + 11)]) S1 K) := by
  refine (px_go (by decide +kernel : pm_fe 84 96 = some (.aload_n 0, 1)) rfl).trans ?_
  refine (ry_get2 (idx := 21) (ci := 6) (k := 1) (by decide +kernel : 31 < 283 ∧ SHF 31 = (6, 5)) (ptd1 hv1) (by decide +kernel)).trans ?_
  refine (ry_get2 (idx := 169) (ci := 1) (k := 16) (chs0 hc) (chp0_16 hc) (by decide +kernel)).trans ?_
  refine (ry_get2 (idx := 181) (ci := 5) (k := 2) (chs9 hc) (chp9_2 hc) (by decide +kernel)).trans ?_
  refine (px_go (by decide +kernel : pm_fe 84 106 = some (.iload_n 1, 1)) rfl).trans ?_
  refine (px_go (by decide +kernel : pm_fe 84 107 = some (.aload_n 0, 1)) rfl).trans ?_
  refine (px_go (by decide +kernel : pm_fe 84 108 = some (.iconst 0, 1)) rfl).trans ?_
  refine (px_go (by decide +kernel : pm_fe 84 109 = some (.bipush 9, 2)) rfl).trans ?_
  refine (ry_v2 (idx := 99) (m' := 75) (ci := 6) (by decide +kernel : 31 < 283 ∧ SHF 31 = (6, 5)) (by simp [pm_wl_n, pm_wl_c, pm_w] : pm_wl [vI l1, vA (c + 11)] ≤ 8) (by decide +kernel)).trans ?_
  exact Iff.rfl
theorem r84_114 {d : Nat} {c : Nat} {X : Nat × (Nat → Int)} {v : Nat → Int} {M : PH} {K : PV → PS → Prop} {l1 s0 s1 : Int} (hc : isCh c) (h1 : 0 ≤ s1) (h2 : s1 < 3) : pm_Run d 84 114 [vA 31, vI l1] [vI s0, vI s1, vA (c + 11)] (GF X, M, PTF v) K ↔ pm_Run d 84 115 [vA 31, vI l1] [] (GF X, pm_sa M (c + 11) (pm_up (M (c + 11)) s1.toNat s0), PTF v) K := by
  refine (ry_iast (chs11 hc) h1 h2 (by decide +kernel)).trans ?_
  exact Iff.rfl
theorem r84_115 {d : Nat} {c : Nat} {X : Nat × (Nat → Int)} {v : Nat → Int} {M : PH} {K : PV → PS → Prop} {l1 : Int} (hc : isCh c) (hv1 : v 1 = ((c : Nat) : Int)) : pm_Run d 84 115 [vA 31, vI l1] [] (GF X, M, PTF v) K ↔ K PU (GF X, pm_sa M c (pm_up (M c) 1 (l1 + 1)), PTF v) := by
  refine (px_go (by decide +kernel : pm_fe 84 115 = some (.aload_n 0, 1)) rfl).trans ?_
  refine (ry_get2 (idx := 21) (ci := 6) (k := 1) (by decide +kernel : 31 < 283 ∧ SHF 31 = (6, 5)) (ptd1 hv1) (by decide +kernel)).trans ?_
  refine (px_go (by decide +kernel : pm_fe 84 119 = some (.iload_n 1, 1)) rfl).trans ?_
  refine (px_go (by decide +kernel : pm_fe 84 120 = some (.iconst 1, 1)) rfl).trans ?_
  refine (px_go (by decide +kernel : pm_fe 84 121 = some (.iadd, 1)) rfl).trans ?_
  refine (ry_put0 (idx := 155) (ci := 1) (k := 1) (chs0 hc) (by decide +kernel)).trans ?_
  refine (px_rv (by decide +kernel)).trans ?_
  exact Iff.rfl
-- X6_harborStatement harborStatement()V
theorem r85_0 {d : Nat} {c : Nat} {X : Nat × (Nat → Int)} {v : Nat → Int} {M : PH} {K : PV → PS → Prop} (hc : isCh c) (hv1 : v 1 = ((c : Nat) : Int)) (h1 : inR (M c 2)) : pm_Run d 85 0 [vA 31, PU] [] (GF X, M, PTF v) K ↔ if 8 ≤ M c 2 then pm_Run d 85 19 [vA 31, vI (M c 2)] [vA 31] (GF X, M, PTF v) K else pm_Run d 85 15 [vA 31, vI (M c 2)] [vA 31] (GF X, M, PTF v) K := by
  refine (px_go (by decide +kernel : pm_fe 85 0 = some (.aload_n 0, 1)) rfl).trans ?_
  refine (ry_get2 (idx := 21) (ci := 6) (k := 1) (by decide +kernel : 31 < 283 ∧ SHF 31 = (6, 5)) (ptd1 hv1) (by decide +kernel)).trans ?_
  refine (ry_get0 (idx := 184) (ci := 1) (k := 2) (chs0 hc) (by decide +kernel)).trans ?_
  refine (px_go (by decide +kernel : pm_fe 85 7 = some (.istore_n 1, 1)) rfl).trans ?_
  refine (px_go (by decide +kernel : pm_fe 85 8 = some (.aload_n 0, 1)) rfl).trans ?_
  refine (px_go (by decide +kernel : pm_fe 85 9 = some (.iload_n 1, 1)) rfl).trans ?_
  refine (px_go (by decide +kernel : pm_fe 85 10 = some (.bipush 8, 2)) rfl).trans ?_
  refine (ry_ic_ge (off := 7) (tgt := 19) h1 (by decide : (-2147483648 ≤ (8 : Int) ∧ (8 : Int) < 2147483648)) (by decide +kernel)).trans ?_
  exact Iff.rfl
theorem r85_15 {d : Nat} {X : Nat × (Nat → Int)} {v : Nat → Int} {M : PH} {K : PV → PS → Prop} {l1 : Int} : pm_Run d 85 15 [vA 31, vI l1] [vA 31] (GF X, M, PTF v) K ↔ pm_Run d 85 20 [vA 31, vI l1] [vI 1, vA 31] (GF X, M, PTF v) K := by
  refine (px_go (by decide +kernel : pm_fe 85 15 = some (.iconst 1, 1)) rfl).trans ?_
  refine (px_goto (off := 4) (tgt := 20) (by decide +kernel)).trans ?_
  exact Iff.rfl
theorem r85_19 {d : Nat} {X : Nat × (Nat → Int)} {v : Nat → Int} {M : PH} {K : PV → PS → Prop} {l1 : Int} : pm_Run d 85 19 [vA 31, vI l1] [vA 31] (GF X, M, PTF v) K ↔ pm_Run d 85 20 [vA 31, vI l1] [vI 0, vA 31] (GF X, M, PTF v) K := by
  refine (px_go (by decide +kernel : pm_fe 85 19 = some (.iconst 0, 1)) rfl).trans ?_
  exact Iff.rfl
theorem r85_20 {d : Nat} {X : Nat × (Nat → Int)} {v : Nat → Int} {M : PH} {K : PV → PS → Prop} {l1 s0 : Int} : pm_Run d 85 20 [vA 31, vI l1] [vI s0, vA 31] (GF X, M, PTF v) K ↔ pm_Call d 81 [vA 31, vI s0] (GF X, M, PTF v) (fun r9 S1 => pm_Run d 85 23 [vA 31, vI l1] (pm_push r9 []) S1 K) := by
  refine (ry_v1 (idx := 148) (m' := 81) (ci := 6) (by decide +kernel : 31 < 283 ∧ SHF 31 = (6, 5)) (by simp [pm_wl_n, pm_wl_c, pm_w] : pm_wl [] ≤ 8) (by decide +kernel)).trans ?_
  exact Iff.rfl
theorem r85_23 {d : Nat} {X : Nat × (Nat → Int)} {v : Nat → Int} {M : PH} {K : PV → PS → Prop} {l1 s0 : Int} (h1 : inR s0) : pm_Run d 85 23 [vA 31, vI l1] [vI s0] (GF X, M, PTF v) K ↔ if s0 ≠ 0 then pm_Run d 85 27 [vA 31, vI l1] [] (GF X, M, PTF v) K else pm_Run d 85 26 [vA 31, vI l1] [] (GF X, M, PTF v) K := by
  refine (ry_if_ne (off := 4) (tgt := 27) h1 (by decide +kernel)).trans ?_
  exact Iff.rfl
theorem r85_26 {d : Nat} {X : Nat × (Nat → Int)} {v : Nat → Int} {M : PH} {K : PV → PS → Prop} {l1 : Int} : pm_Run d 85 26 [vA 31, vI l1] [] (GF X, M, PTF v) K ↔ K PU (GF X, M, PTF v) := by
  refine (px_rv (by decide +kernel)).trans ?_
  exact Iff.rfl
theorem r85_27 {d : Nat} {c : Nat} {X : Nat × (Nat → Int)} {v : Nat → Int} {M : PH} {K : PV → PS → Prop} {l1 : Int} (hc : isCh c) (hv1 : v 1 = ((c : Nat) : Int)) : pm_Run d 85 27 [vA 31, vI l1] [] (GF X, M, PTF v) K ↔ pm_Call d 77 [vA 31] (GF X, M, PTF v) (fun r9 S1 => pm_Run d 85 39 [vA 31, vI l1] (pm_push r9 [vI l1, vA (c + 3)]) S1 K) := by
  refine (px_go (by decide +kernel : pm_fe 85 27 = some (.aload_n 0, 1)) rfl).trans ?_
  refine (ry_get2 (idx := 21) (ci := 6) (k := 1) (by decide +kernel : 31 < 283 ∧ SHF 31 = (6, 5)) (ptd1 hv1) (by decide +kernel)).trans ?_
  refine (ry_get2 (idx := 187) (ci := 1) (k := 10) (chs0 hc) (chp0_10 hc) (by decide +kernel)).trans ?_
  refine (px_go (by decide +kernel : pm_fe 85 34 = some (.iload_n 1, 1)) rfl).trans ?_
  refine (px_go (by decide +kernel : pm_fe 85 35 = some (.aload_n 0, 1)) rfl).trans ?_
  refine (ry_v0 (idx := 162) (m' := 77) (ci := 6) (by decide +kernel : 31 < 283 ∧ SHF 31 = (6, 5)) (by simp [pm_wl_n, pm_wl_c, pm_w] : pm_wl [vI l1, vA (c + 3)] ≤ 8) (by decide +kernel)).trans ?_
  exact Iff.rfl
theorem r85_39 {d : Nat} {c : Nat} {X : Nat × (Nat → Int)} {v : Nat → Int} {M : PH} {K : PV → PS → Prop} {l1 s0 s1 : Int} (hc : isCh c) (h1 : 0 ≤ s1) (h2 : s1 < 8) : pm_Run d 85 39 [vA 31, vI l1] [vI s0, vI s1, vA (c + 3)] (GF X, M, PTF v) K ↔ pm_Run d 85 40 [vA 31, vI l1] [] (GF X, pm_sa M (c + 3) (pm_up (M (c + 3)) s1.toNat s0), PTF v) K := by
  refine (ry_iast (chs3 hc) h1 h2 (by decide +kernel)).trans ?_
  exact Iff.rfl
theorem r85_40 {d : Nat} {X : Nat × (Nat → Int)} {v : Nat → Int} {M : PH} {K : PV → PS → Prop} {l1 : Int} : pm_Run d 85 40 [vA 31, vI l1] [] (GF X, M, PTF v) K ↔ pm_Call d 73 [vA 31, vI 2] (GF X, M, PTF v) (fun r9 S1 => pm_Run d 85 45 [vA 31, vI l1] (pm_push r9 []) S1 K) := by
  refine (px_go (by decide +kernel : pm_fe 85 40 = some (.aload_n 0, 1)) rfl).trans ?_
  refine (px_go (by decide +kernel : pm_fe 85 41 = some (.iconst 2, 1)) rfl).trans ?_
  refine (ry_v1 (idx := 166) (m' := 73) (ci := 6) (by decide +kernel : 31 < 283 ∧ SHF 31 = (6, 5)) (by simp [pm_wl_n, pm_wl_c, pm_w] : pm_wl [] ≤ 8) (by decide +kernel)).trans ?_
  exact Iff.rfl
theorem r85_45 {d : Nat} {c : Nat} {X : Nat × (Nat → Int)} {v : Nat → Int} {M : PH} {K : PV → PS → Prop} {l1 : Int} (hc : isCh c) (hv1 : v 1 = ((c : Nat) : Int)) : pm_Run d 85 45 [vA 31, vI l1] [] (GF X, M, PTF v) K ↔ pm_Call d 86 [vA 31] (GF X, M, PTF v) (fun r9 S1 => pm_Run d 85 57 [vA 31, vI l1] (pm_push r9 [vI l1, vA (c + 4)]) S1 K) := by
  refine (px_go (by decide +kernel : pm_fe 85 45 = some (.aload_n 0, 1)) rfl).trans ?_
  refine (ry_get2 (idx := 21) (ci := 6) (k := 1) (by decide +kernel : 31 < 283 ∧ SHF 31 = (6, 5)) (ptd1 hv1) (by decide +kernel)).trans ?_
  refine (ry_get2 (idx := 190) (ci := 1) (k := 11) (chs0 hc) (chp0_11 hc) (by decide +kernel)).trans ?_
  refine (px_go (by decide +kernel : pm_fe 85 52 = some (.iload_n 1, 1)) rfl).trans ?_
  refine (px_go (by decide +kernel : pm_fe 85 53 = some (.aload_n 0, 1)) rfl).trans ?_
  refine (ry_v0 (idx := 193) (m' := 86) (ci := 6) (by decide +kernel : 31 < 283 ∧ SHF 31 = (6, 5)) (by simp [pm_wl_n, pm_wl_c, pm_w] : pm_wl [vI l1, vA (c + 4)] ≤ 8) (by decide +kernel)).trans ?_
  exact Iff.rfl
theorem r85_57 {d : Nat} {c : Nat} {X : Nat × (Nat → Int)} {v : Nat → Int} {M : PH} {K : PV → PS → Prop} {l1 s0 s1 : Int} (hc : isCh c) (h1 : 0 ≤ s1) (h2 : s1 < 8) : pm_Run d 85 57 [vA 31, vI l1] [vI s0, vI s1, vA (c + 4)] (GF X, M, PTF v) K ↔ pm_Run d 85 58 [vA 31, vI l1] [] (GF X, pm_sa M (c + 4) (pm_up (M (c + 4)) s1.toNat s0), PTF v) K := by
  refine (ry_iast (chs4 hc) h1 h2 (by decide +kernel)).trans ?_
  exact Iff.rfl
theorem r85_58 {d : Nat} {X : Nat × (Nat → Int)} {v : Nat → Int} {M : PH} {K : PV → PS → Prop} {l1 : Int} : pm_Run d 85 58 [vA 31, vI l1] [] (GF X, M, PTF v) K ↔ pm_Call d 73 [vA 31, vI 6] (GF X, M, PTF v) (fun r9 S1 => pm_Run d 85 64 [vA 31, vI l1] (pm_push r9 []) S1 K) := by
  refine (px_go (by decide +kernel : pm_fe 85 58 = some (.aload_n 0, 1)) rfl).trans ?_
  refine (px_go (by decide +kernel : pm_fe 85 59 = some (.bipush 6, 2)) rfl).trans ?_
  refine (ry_v1 (idx := 166) (m' := 73) (ci := 6) (by decide +kernel : 31 < 283 ∧ SHF 31 = (6, 5)) (by simp [pm_wl_n, pm_wl_c, pm_w] : pm_wl [] ≤ 8) (by decide +kernel)).trans ?_
  exact Iff.rfl
theorem r85_64 {d : Nat} {c : Nat} {X : Nat × (Nat → Int)} {v : Nat → Int} {M : PH} {K : PV → PS → Prop} {l1 : Int} (hc : isCh c) (hv1 : v 1 = ((c : Nat) : Int)) : pm_Run d 85 64 [vA 31, vI l1] [] (GF X, M, PTF v) K ↔ pm_Call d 75 [vA 31, vI 0, vI 999] (GF X, M, PTF v) (fun r9 S1 => pm_Run d 85 83 [vA 31, vI l1] (pm_push r9 [vI l1, vA (c + 12)]) S1 K) := by
  refine (px_go (by decide +kernel : pm_fe 85 64 = some (.aload_n 0, 1)) rfl).trans ?_
  refine (ry_get2 (idx := 21) (ci := 6) (k := 1) (by decide +kernel : 31 < 283 ∧ SHF 31 = (6, 5)) (ptd1 hv1) (by decide +kernel)).trans ?_
  refine (ry_get2 (idx := 169) (ci := 1) (k := 16) (chs0 hc) (chp0_16 hc) (by decide +kernel)).trans ?_
  refine (ry_get2 (idx := 196) (ci := 5) (k := 3) (chs9 hc) (chp9_3 hc) (by decide +kernel)).trans ?_
  refine (px_go (by decide +kernel : pm_fe 85 74 = some (.iload_n 1, 1)) rfl).trans ?_
  refine (px_go (by decide +kernel : pm_fe 85 75 = some (.aload_n 0, 1)) rfl).trans ?_
  refine (px_go (by decide +kernel : pm_fe 85 76 = some (.iconst 0, 1)) rfl).trans ?_
  refine (px_go (by decide +kernel : pm_fe 85 77 = some (.sipush 999, 3)) rfl).trans ?_
  refine (ry_v2 (idx := 99) (m' := 75) (ci := 6) (by decide +kernel : 31 < 283 ∧ SHF 31 = (6, 5)) (by simp [pm_wl_n, pm_wl_c, pm_w] : pm_wl [vI l1, vA (c + 12)] ≤ 8) (by decide +kernel)).trans ?_
  exact Iff.rfl
theorem r85_83 {d : Nat} {c : Nat} {X : Nat × (Nat → Int)} {v : Nat → Int} {M : PH} {K : PV → PS → Prop} {l1 s0 s1 : Int} (hc : isCh c) (h1 : 0 ≤ s1) (h2 : s1 < 8) : pm_Run d 85 83 [vA 31, vI l1] [vI s0, vI s1, vA (c + 12)] (GF X, M, PTF v) K ↔ pm_Run d 85 84 [vA 31, vI l1] [] (GF X, pm_sa M (c + 12) (pm_up (M (c + 12)) s1.toNat s0), PTF v) K := by
  refine (ry_iast (chs12 hc) h1 h2 (by decide +kernel)).trans ?_
  exact Iff.rfl
theorem r85_84 {d : Nat} {X : Nat × (Nat → Int)} {v : Nat → Int} {M : PH} {K : PV → PS → Prop} {l1 : Int} : pm_Run d 85 84 [vA 31, vI l1] [] (GF X, M, PTF v) K ↔ pm_Call d 73 [vA 31, vI 7] (GF X, M, PTF v) (fun r9 S1 => pm_Run d 85 90 [vA 31, vI l1] (pm_push r9 []) S1 K) := by
  refine (px_go (by decide +kernel : pm_fe 85 84 = some (.aload_n 0, 1)) rfl).trans ?_
  refine (px_go (by decide +kernel : pm_fe 85 85 = some (.bipush 7, 2)) rfl).trans ?_
  refine (ry_v1 (idx := 166) (m' := 73) (ci := 6) (by decide +kernel : 31 < 283 ∧ SHF 31 = (6, 5)) (by simp [pm_wl_n, pm_wl_c, pm_w] : pm_wl [] ≤ 8) (by decide +kernel)).trans ?_
  exact Iff.rfl
theorem r85_90 {d : Nat} {c : Nat} {X : Nat × (Nat → Int)} {v : Nat → Int} {M : PH} {K : PV → PS → Prop} {l1 : Int} (hc : isCh c) (hv1 : v 1 = ((c : Nat) : Int)) : pm_Run d 85 90 [vA 31, vI l1] [] (GF X, M, PTF v) K ↔ pm_Call d 75 [vA 31, vI 0, vI 99] (GF X, M, PTF v) (fun r9 S1 => pm_Run d 85 105 [vA 31, vI l1] (pm_push r9 [vI l1, vA (c + 5)]) S1 K) := by
  refine (px_go (by decide +kernel : pm_fe 85 90 = some (.aload_n 0, 1)) rfl).trans ?_
  refine (ry_get2 (idx := 21) (ci := 6) (k := 1) (by decide +kernel : 31 < 283 ∧ SHF 31 = (6, 5)) (ptd1 hv1) (by decide +kernel)).trans ?_
  refine (ry_get2 (idx := 199) (ci := 1) (k := 12) (chs0 hc) (chp0_12 hc) (by decide +kernel)).trans ?_
  refine (px_go (by decide +kernel : pm_fe 85 97 = some (.iload_n 1, 1)) rfl).trans ?_
  refine (px_go (by decide +kernel : pm_fe 85 98 = some (.aload_n 0, 1)) rfl).trans ?_
  refine (px_go (by decide +kernel : pm_fe 85 99 = some (.iconst 0, 1)) rfl).trans ?_
  refine (px_go (by decide +kernel : pm_fe 85 100 = some (.bipush 99, 2)) rfl).trans ?_
  refine (ry_v2 (idx := 99) (m' := 75) (ci := 6) (by decide +kernel : 31 < 283 ∧ SHF 31 = (6, 5)) (by simp [pm_wl_n, pm_wl_c, pm_w] : pm_wl [vI l1, vA (c + 5)] ≤ 8) (by decide +kernel)).trans ?_
  exact Iff.rfl
theorem r85_105 {d : Nat} {c : Nat} {X : Nat × (Nat → Int)} {v : Nat → Int} {M : PH} {K : PV → PS → Prop} {l1 s0 s1 : Int} (hc : isCh c) (h1 : 0 ≤ s1) (h2 : s1 < 8) : pm_Run d 85 105 [vA 31, vI l1] [vI s0, vI s1, vA (c + 5)] (GF X, M, PTF v) K ↔ pm_Run d 85 106 [vA 31, vI l1] [] (GF X, pm_sa M (c + 5) (pm_up (M (c + 5)) s1.toNat s0), PTF v) K := by
  refine (ry_iast (chs5 hc) h1 h2 (by decide +kernel)).trans ?_
  exact Iff.rfl
theorem r85_106 {d : Nat} {c : Nat} {X : Nat × (Nat → Int)} {v : Nat → Int} {M : PH} {K : PV → PS → Prop} {l1 : Int} (hc : isCh c) (hv1 : v 1 = ((c : Nat) : Int)) : pm_Run d 85 106 [vA 31, vI l1] [] (GF X, M, PTF v) K ↔ K PU (GF X, pm_sa M c (pm_up (M c) 2 (l1 + 1)), PTF v) := by
  refine (px_go (by decide +kernel : pm_fe 85 106 = some (.aload_n 0, 1)) rfl).trans ?_
  refine (ry_get2 (idx := 21) (ci := 6) (k := 1) (by decide +kernel : 31 < 283 ∧ SHF 31 = (6, 5)) (ptd1 hv1) (by decide +kernel)).trans ?_
  refine (px_go (by decide +kernel : pm_fe 85 110 = some (.iload_n 1, 1)) rfl).trans ?_
  refine (px_go (by decide +kernel : pm_fe 85 111 = some (.iconst 1, 1)) rfl).trans ?_
  refine (px_go (by decide +kernel : pm_fe 85 112 = some (.iadd, 1)) rfl).trans ?_
  refine (ry_put0 (idx := 184) (ci := 1) (k := 2) (chs0 hc) (by decide +kernel)).trans ?_
  refine (px_rv (by decide +kernel)).trans ?_
  exact Iff.rfl
-- X6_freePlace freePlace()I
theorem r86_0 {d : Nat} {X : Nat × (Nat → Int)} {v : Nat → Int} {M : PH} {K : PV → PS → Prop} (h1 : inR (M 32 4)) : pm_Run d 86 0 [vA 31] [] (GF X, M, PTF v) K ↔ if M 32 4 ≠ 2 then pm_Run d 86 40 [vA 31] [] (GF X, M, PTF v) K else pm_Run d 86 11 [vA 31] [] (GF X, M, PTF v) K := by
  refine (px_go (by decide +kernel : pm_fe 86 0 = some (.aload_n 0, 1)) rfl).trans ?_
  refine (ry_get2 (idx := 12) (ci := 6) (k := 0) (by decide +kernel : 31 < 283 ∧ SHF 31 = (6, 5)) (ptf_l (a := 31) (k := 0) (n := 32) (by decide +kernel)) (by decide +kernel)).trans ?_
  refine (ry_get0 (idx := 45) (ci := 4) (k := 4) (by decide +kernel : 32 < 283 ∧ SHF 32 = (4, 9)) (by decide +kernel)).trans ?_
  refine (px_go (by decide +kernel : pm_fe 86 7 = some (.iconst 2, 1)) rfl).trans ?_
  refine (ry_ic_ne (off := 32) (tgt := 40) h1 (by decide : (-2147483648 ≤ (2 : Int) ∧ (2 : Int) < 2147483648)) (by decide +kernel)).trans ?_
  exact Iff.rfl
theorem r86_11 {d : Nat} {c : Nat} {X : Nat × (Nat → Int)} {v : Nat → Int} {M : PH} {K : PV → PS → Prop} (hc : isCh c) (hv1 : v 1 = ((c : Nat) : Int)) : pm_Run d 86 11 [vA 31] [] (GF X, M, PTF v) K ↔ pm_Call d 16 [vA c, vI (M 32 7)] (GF X, M, PTF v) (fun r9 S1 => pm_Run d 86 25 [vA 31] (pm_push r9 []) S1 K) := by
  refine (px_go (by decide +kernel : pm_fe 86 11 = some (.aload_n 0, 1)) rfl).trans ?_
  refine (ry_get2 (idx := 21) (ci := 6) (k := 1) (by decide +kernel : 31 < 283 ∧ SHF 31 = (6, 5)) (ptd1 hv1) (by decide +kernel)).trans ?_
  refine (px_go (by decide +kernel : pm_fe 86 15 = some (.aload_n 0, 1)) rfl).trans ?_
  refine (ry_get2 (idx := 12) (ci := 6) (k := 0) (by decide +kernel : 31 < 283 ∧ SHF 31 = (6, 5)) (ptf_l (a := 31) (k := 0) (n := 32) (by decide +kernel)) (by decide +kernel)).trans ?_
  refine (ry_get0 (idx := 75) (ci := 4) (k := 7) (by decide +kernel : 32 < 283 ∧ SHF 32 = (4, 9)) (by decide +kernel)).trans ?_
  refine (ry_v1 (idx := 202) (m' := 16) (ci := 1) (chs0 hc) (by simp [pm_wl_n, pm_wl_c, pm_w] : pm_wl [] ≤ 8) (by decide +kernel)).trans ?_
  exact Iff.rfl
theorem r86_25 {d : Nat} {X : Nat × (Nat → Int)} {v : Nat → Int} {M : PH} {K : PV → PS → Prop} {s0 : Int} (h1 : inR s0) : pm_Run d 86 25 [vA 31] [vI s0] (GF X, M, PTF v) K ↔ if s0 = 0 then pm_Run d 86 40 [vA 31] [] (GF X, M, PTF v) K else pm_Run d 86 28 [vA 31] [] (GF X, M, PTF v) K := by
  refine (ry_if_eq (off := 15) (tgt := 40) h1 (by decide +kernel)).trans ?_
  exact Iff.rfl
theorem r86_28 {d : Nat} {X : Nat × (Nat → Int)} {v : Nat → Int} {M : PH} {K : PV → PS → Prop} : pm_Run d 86 28 [vA 31] [] (GF X, M, PTF v) K ↔ pm_Call d 69 [vA 31, vI 4, vI (M 32 5)] (GF X, M, PTF v) (fun r9 S1 => pm_Run d 86 40 [vA 31] (pm_push r9 []) S1 K) := by
  refine (px_go (by decide +kernel : pm_fe 86 28 = some (.aload_n 0, 1)) rfl).trans ?_
  refine (px_go (by decide +kernel : pm_fe 86 29 = some (.iconst 4, 1)) rfl).trans ?_
  refine (px_go (by decide +kernel : pm_fe 86 30 = some (.aload_n 0, 1)) rfl).trans ?_
  refine (ry_get2 (idx := 12) (ci := 6) (k := 0) (by decide +kernel : 31 < 283 ∧ SHF 31 = (6, 5)) (ptf_l (a := 31) (k := 0) (n := 32) (by decide +kernel)) (by decide +kernel)).trans ?_
  refine (ry_get0 (idx := 51) (ci := 4) (k := 5) (by decide +kernel : 32 < 283 ∧ SHF 32 = (4, 9)) (by decide +kernel)).trans ?_
  refine (ry_v2 (idx := 54) (m' := 69) (ci := 6) (by decide +kernel : 31 < 283 ∧ SHF 31 = (6, 5)) (by simp [pm_wl_n, pm_wl_c, pm_w] : pm_wl [] ≤ 8) (by decide +kernel)).trans ?_
  exact Iff.rfl
theorem r86_40 {d : Nat} {c : Nat} {X : Nat × (Nat → Int)} {v : Nat → Int} {M : PH} {K : PV → PS → Prop} (hc : isCh c) (hv1 : v 1 = ((c : Nat) : Int)) : pm_Run d 86 40 [vA 31] [] (GF X, M, PTF v) K ↔ pm_Call d 75 [vA 31, vI 0, vI ((M c 0) - 1)] (GF X, M, PTF v) (fun r9 S1 => pm_Run d 86 54 [vA 31] (pm_push r9 []) S1 K) := by
  refine (px_go (by decide +kernel : pm_fe 86 40 = some (.aload_n 0, 1)) rfl).trans ?_
  refine (px_go (by decide +kernel : pm_fe 86 41 = some (.iconst 0, 1)) rfl).trans ?_
  refine (px_go (by decide +kernel : pm_fe 86 42 = some (.aload_n 0, 1)) rfl).trans ?_
  refine (ry_get2 (idx := 21) (ci := 6) (k := 1) (by decide +kernel : 31 < 283 ∧ SHF 31 = (6, 5)) (ptd1 hv1) (by decide +kernel)).trans ?_
  refine (ry_get0 (idx := 103) (ci := 1) (k := 0) (chs0 hc) (by decide +kernel)).trans ?_
  refine (px_go (by decide +kernel : pm_fe 86 49 = some (.iconst 1, 1)) rfl).trans ?_
  refine (px_go (by decide +kernel : pm_fe 86 50 = some (.isub, 1)) rfl).trans ?_
  refine (ry_v2 (idx := 99) (m' := 75) (ci := 6) (by decide +kernel : 31 < 283 ∧ SHF 31 = (6, 5)) (by simp [pm_wl_n, pm_wl_c, pm_w] : pm_wl [] ≤ 8) (by decide +kernel)).trans ?_
  exact Iff.rfl
theorem r86_54 {d : Nat} {X : Nat × (Nat → Int)} {v : Nat → Int} {M : PH} {K : PV → PS → Prop} {s0 : Int} : pm_Run d 86 54 [vA 31] [vI s0] (GF X, M, PTF v) K ↔ K (vI s0) (GF X, M, PTF v) := by
  refine (px_ri (by decide +kernel)).trans ?_
  exact Iff.rfl
-- X6_paysStatement paysStatement()V
theorem r87_0 {d : Nat} {X : Nat × (Nat → Int)} {v : Nat → Int} {M : PH} {K : PV → PS → Prop} : pm_Run d 87 0 [vA 31, PU, PU, PU] [] (GF X, M, PTF v) K ↔ pm_Call d 51 [vA 32] (GF X, M, PTF v) (fun r9 S1 => pm_Run d 87 7 [vA 31, PU, PU, PU] (pm_push r9 []) S1 K) := by
  refine (px_go (by decide +kernel : pm_fe 87 0 = some (.aload_n 0, 1)) rfl).trans ?_
  refine (ry_get2 (idx := 12) (ci := 6) (k := 0) (by decide +kernel : 31 < 283 ∧ SHF 31 = (6, 5)) (ptf_l (a := 31) (k := 0) (n := 32) (by decide +kernel)) (by decide +kernel)).trans ?_
  refine (ry_v0 (idx := 42) (m' := 51) (ci := 4) (by decide +kernel : 32 < 283 ∧ SHF 32 = (4, 9)) (by simp [pm_wl_n, pm_wl_c, pm_w] : pm_wl [] ≤ 8) (by decide +kernel)).trans ?_
  exact Iff.rfl
theorem r87_7 {d : Nat} {X : Nat × (Nat → Int)} {v : Nat → Int} {M : PH} {K : PV → PS → Prop} : pm_Run d 87 7 [vA 31, PU, PU, PU] [] (GF X, M, PTF v) K ↔ pm_Call d 79 [vA 31, vI (-1)] (GF X, M, PTF v) (fun r9 S1 => pm_Run d 87 12 [vA 31, PU, PU, PU] (pm_push r9 []) S1 K) := by
  refine (px_go (by decide +kernel : pm_fe 87 7 = some (.aload_n 0, 1)) rfl).trans ?_
  refine (px_go (by decide +kernel : pm_fe 87 8 = some (.iconst (-1), 1)) rfl).trans ?_
  refine (ry_v1 (idx := 205) (m' := 79) (ci := 6) (by decide +kernel : 31 < 283 ∧ SHF 31 = (6, 5)) (by simp [pm_wl_n, pm_wl_c, pm_w] : pm_wl [] ≤ 8) (by decide +kernel)).trans ?_
  exact Iff.rfl
theorem r87_12 {d : Nat} {X : Nat × (Nat → Int)} {v : Nat → Int} {M : PH} {K : PV → PS → Prop} {s0 : Int} : pm_Run d 87 12 [vA 31, PU, PU, PU] [vI s0] (GF X, M, PTF v) K ↔ pm_Call d 78 [vA 31] (GF X, M, PTF v) (fun r9 S1 => pm_Run d 87 17 [vA 31, vI s0, PU, PU] (pm_push r9 []) S1 K) := by
  refine (px_go (by decide +kernel : pm_fe 87 12 = some (.istore_n 1, 1)) rfl).trans ?_
  refine (px_go (by decide +kernel : pm_fe 87 13 = some (.aload_n 0, 1)) rfl).trans ?_
  refine (ry_v0 (idx := 207) (m' := 78) (ci := 6) (by decide +kernel : 31 < 283 ∧ SHF 31 = (6, 5)) (by simp [pm_wl_n, pm_wl_c, pm_w] : pm_wl [] ≤ 8) (by decide +kernel)).trans ?_
  exact Iff.rfl
theorem r87_17 {d : Nat} {X : Nat × (Nat → Int)} {v : Nat → Int} {M : PH} {K : PV → PS → Prop} {l1 s0 : Int} : pm_Run d 87 17 [vA 31, vI l1, PU, PU] [vI s0] (GF X, M, PTF v) K ↔ pm_Call d 75 [vA 31, vI 0, vI 20] (GF X, M, PTF v) (fun r9 S1 => pm_Run d 87 25 [vA 31, vI l1, vI s0, PU] (pm_push r9 []) S1 K) := by
  refine (px_go (by decide +kernel : pm_fe 87 17 = some (.istore_n 2, 1)) rfl).trans ?_
  refine (px_go (by decide +kernel : pm_fe 87 18 = some (.aload_n 0, 1)) rfl).trans ?_
  refine (px_go (by decide +kernel : pm_fe 87 19 = some (.iconst 0, 1)) rfl).trans ?_
  refine (px_go (by decide +kernel : pm_fe 87 20 = some (.bipush 20, 2)) rfl).trans ?_
  refine (ry_v2 (idx := 99) (m' := 75) (ci := 6) (by decide +kernel : 31 < 283 ∧ SHF 31 = (6, 5)) (by simp [pm_wl_n, pm_wl_c, pm_w] : pm_wl [] ≤ 8) (by decide +kernel)).trans ?_
  exact Iff.rfl
theorem r87_25 {d : Nat} {X : Nat × (Nat → Int)} {v : Nat → Int} {M : PH} {K : PV → PS → Prop} {l1 l2 s0 : Int} (h1 : inR (M 31 3)) : pm_Run d 87 25 [vA 31, vI l1, vI l2, PU] [vI s0] (GF X, M, PTF v) K ↔ if M 31 3 ≠ 0 then pm_Run d 87 50 [vA 31, vI l1, vI l2, vI s0] [] (GF X, M, PTF v) K else pm_Run d 87 33 [vA 31, vI l1, vI l2, vI s0] [] (GF X, M, PTF v) K := by
  refine (px_go (by decide +kernel : pm_fe 87 25 = some (.istore_n 3, 1)) rfl).trans ?_
  refine (px_go (by decide +kernel : pm_fe 87 26 = some (.aload_n 0, 1)) rfl).trans ?_
  refine (ry_get0 (idx := 32) (ci := 6) (k := 3) (by decide +kernel : 31 < 283 ∧ SHF 31 = (6, 5)) (by decide +kernel)).trans ?_
  refine (ry_if_ne (off := 20) (tgt := 50) h1 (by decide +kernel)).trans ?_
  exact Iff.rfl
theorem r87_33 {d : Nat} {c : Nat} {X : Nat × (Nat → Int)} {v : Nat → Int} {M : PH} {K : PV → PS → Prop} {l1 l2 l3 : Int} (hc : isCh c) (hv1 : v 1 = ((c : Nat) : Int)) : pm_Run d 87 33 [vA 31, vI l1, vI l2, vI l3] [] (GF X, M, PTF v) K ↔ pm_Call d 55 [vI l1, vI l2] (GF X, M, PTF v) (fun r9 S1 => pm_Run d 87 48 [vA 31, vI l1, vI l2, vI l3] (pm_push r9 [vA (c + 13)]) S1 K) := by
  refine (px_go (by decide +kernel : pm_fe 87 33 = some (.aload_n 0, 1)) rfl).trans ?_
  refine (ry_get2 (idx := 21) (ci := 6) (k := 1) (by decide +kernel : 31 < 283 ∧ SHF 31 = (6, 5)) (ptd1 hv1) (by decide +kernel)).trans ?_
  refine (ry_get2 (idx := 169) (ci := 1) (k := 16) (chs0 hc) (chp0_16 hc) (by decide +kernel)).trans ?_
  refine (ry_get2 (idx := 209) (ci := 5) (k := 4) (chs9 hc) (chp9_4 hc) (by decide +kernel)).trans ?_
  refine (px_go (by decide +kernel : pm_fe 87 43 = some (.iload_n 1, 1)) rfl).trans ?_
  refine (px_go (by decide +kernel : pm_fe 87 44 = some (.iload_n 2, 1)) rfl).trans ?_
  refine (px_s2 (idx := 212) (m' := 55) (nest := 0) (by decide +kernel)).trans ((and_iff_right (by simp [pm_wl_n, pm_wl_c, pm_w] : pm_wl [vA (c + 13)] ≤ 8)).trans ?_)
  exact Iff.rfl
theorem r87_48 {d : Nat} {c : Nat} {X : Nat × (Nat → Int)} {v : Nat → Int} {M : PH} {K : PV → PS → Prop} {l1 l2 l3 s0 : Int} (hc : isCh c) (h1 : 0 ≤ s0) (h2 : s0 < 24) : pm_Run d 87 48 [vA 31, vI l1, vI l2, vI l3] [vI s0, vA (c + 13)] (GF X, M, PTF v) K ↔ pm_Run d 87 50 [vA 31, vI l1, vI l2, vI l3] [] (GF X, pm_sa M (c + 13) (pm_up (M (c + 13)) s0.toNat l3), PTF v) K := by
  refine (px_go (by decide +kernel : pm_fe 87 48 = some (.iload_n 3, 1)) rfl).trans ?_
  refine (ry_iast (chs13 hc) h1 h2 (by decide +kernel)).trans ?_
  exact Iff.rfl
theorem r87_50 {d : Nat} {X : Nat × (Nat → Int)} {v : Nat → Int} {M : PH} {K : PV → PS → Prop} {l1 l2 l3 : Int} : pm_Run d 87 50 [vA 31, vI l1, vI l2, vI l3] [] (GF X, M, PTF v) K ↔ K PU (GF X, M, PTF v) := by
  refine (px_rv (by decide +kernel)).trans ?_
  exact Iff.rfl
-- X6_owesStatement owesStatement()V
theorem r88_0 {d : Nat} {c : Nat} {X : Nat × (Nat → Int)} {v : Nat → Int} {M : PH} {K : PV → PS → Prop} (hc : isCh c) (hv1 : v 1 = ((c : Nat) : Int)) (h1 : inR (M c 3)) : pm_Run d 88 0 [vA 31, PU, PU, PU, PU] [] (GF X, M, PTF v) K ↔ if 16 ≤ M c 3 then pm_Run d 88 19 [vA 31, vI (M c 3), PU, PU, PU] [vA 31] (GF X, M, PTF v) K else pm_Run d 88 15 [vA 31, vI (M c 3), PU, PU, PU] [vA 31] (GF X, M, PTF v) K := by
  refine (px_go (by decide +kernel : pm_fe 88 0 = some (.aload_n 0, 1)) rfl).trans ?_
  refine (ry_get2 (idx := 21) (ci := 6) (k := 1) (by decide +kernel : 31 < 283 ∧ SHF 31 = (6, 5)) (ptd1 hv1) (by decide +kernel)).trans ?_
  refine (ry_get0 (idx := 215) (ci := 1) (k := 3) (chs0 hc) (by decide +kernel)).trans ?_
  refine (px_go (by decide +kernel : pm_fe 88 7 = some (.istore_n 1, 1)) rfl).trans ?_
  refine (px_go (by decide +kernel : pm_fe 88 8 = some (.aload_n 0, 1)) rfl).trans ?_
  refine (px_go (by decide +kernel : pm_fe 88 9 = some (.iload_n 1, 1)) rfl).trans ?_
  refine (px_go (by decide +kernel : pm_fe 88 10 = some (.bipush 16, 2)) rfl).trans ?_
  refine (ry_ic_ge (off := 7) (tgt := 19) h1 (by decide : (-2147483648 ≤ (16 : Int) ∧ (16 : Int) < 2147483648)) (by decide +kernel)).trans ?_
  exact Iff.rfl
theorem r88_15 {d : Nat} {X : Nat × (Nat → Int)} {v : Nat → Int} {M : PH} {K : PV → PS → Prop} {l1 : Int} : pm_Run d 88 15 [vA 31, vI l1, PU, PU, PU] [vA 31] (GF X, M, PTF v) K ↔ pm_Run d 88 20 [vA 31, vI l1, PU, PU, PU] [vI 1, vA 31] (GF X, M, PTF v) K := by
  refine (px_go (by decide +kernel : pm_fe 88 15 = some (.iconst 1, 1)) rfl).trans ?_
  refine (px_goto (off := 4) (tgt := 20) (by decide +kernel)).trans ?_
  exact Iff.rfl
theorem r88_19 {d : Nat} {X : Nat × (Nat → Int)} {v : Nat → Int} {M : PH} {K : PV → PS → Prop} {l1 : Int} : pm_Run d 88 19 [vA 31, vI l1, PU, PU, PU] [vA 31] (GF X, M, PTF v) K ↔ pm_Run d 88 20 [vA 31, vI l1, PU, PU, PU] [vI 0, vA 31] (GF X, M, PTF v) K := by
  refine (px_go (by decide +kernel : pm_fe 88 19 = some (.iconst 0, 1)) rfl).trans ?_
  exact Iff.rfl
theorem r88_20 {d : Nat} {X : Nat × (Nat → Int)} {v : Nat → Int} {M : PH} {K : PV → PS → Prop} {l1 s0 : Int} : pm_Run d 88 20 [vA 31, vI l1, PU, PU, PU] [vI s0, vA 31] (GF X, M, PTF v) K ↔ pm_Call d 81 [vA 31, vI s0] (GF X, M, PTF v) (fun r9 S1 => pm_Run d 88 23 [vA 31, vI l1, PU, PU, PU] (pm_push r9 []) S1 K) := by
  refine (ry_v1 (idx := 148) (m' := 81) (ci := 6) (by decide +kernel : 31 < 283 ∧ SHF 31 = (6, 5)) (by simp [pm_wl_n, pm_wl_c, pm_w] : pm_wl [] ≤ 8) (by decide +kernel)).trans ?_
  exact Iff.rfl
theorem r88_23 {d : Nat} {X : Nat × (Nat → Int)} {v : Nat → Int} {M : PH} {K : PV → PS → Prop} {l1 s0 : Int} (h1 : inR s0) : pm_Run d 88 23 [vA 31, vI l1, PU, PU, PU] [vI s0] (GF X, M, PTF v) K ↔ if s0 ≠ 0 then pm_Run d 88 27 [vA 31, vI l1, PU, PU, PU] [] (GF X, M, PTF v) K else pm_Run d 88 26 [vA 31, vI l1, PU, PU, PU] [] (GF X, M, PTF v) K := by
  refine (ry_if_ne (off := 4) (tgt := 27) h1 (by decide +kernel)).trans ?_
  exact Iff.rfl
theorem r88_26 {d : Nat} {X : Nat × (Nat → Int)} {v : Nat → Int} {M : PH} {K : PV → PS → Prop} {l1 : Int} : pm_Run d 88 26 [vA 31, vI l1, PU, PU, PU] [] (GF X, M, PTF v) K ↔ K PU (GF X, M, PTF v) := by
  refine (px_rv (by decide +kernel)).trans ?_
  exact Iff.rfl
theorem r88_27 {d : Nat} {X : Nat × (Nat → Int)} {v : Nat → Int} {M : PH} {K : PV → PS → Prop} {l1 : Int} : pm_Run d 88 27 [vA 31, vI l1, PU, PU, PU] [] (GF X, M, PTF v) K ↔ pm_Call d 79 [vA 31, vI (-1)] (GF X, M, PTF v) (fun r9 S1 => pm_Run d 88 32 [vA 31, vI l1, PU, PU, PU] (pm_push r9 []) S1 K) := by
  refine (px_go (by decide +kernel : pm_fe 88 27 = some (.aload_n 0, 1)) rfl).trans ?_
  refine (px_go (by decide +kernel : pm_fe 88 28 = some (.iconst (-1), 1)) rfl).trans ?_
  refine (ry_v1 (idx := 205) (m' := 79) (ci := 6) (by decide +kernel : 31 < 283 ∧ SHF 31 = (6, 5)) (by simp [pm_wl_n, pm_wl_c, pm_w] : pm_wl [] ≤ 8) (by decide +kernel)).trans ?_
  exact Iff.rfl
theorem r88_32 {d : Nat} {X : Nat × (Nat → Int)} {v : Nat → Int} {M : PH} {K : PV → PS → Prop} {l1 s0 : Int} : pm_Run d 88 32 [vA 31, vI l1, PU, PU, PU] [vI s0] (GF X, M, PTF v) K ↔ pm_Call d 79 [vA 31, vI s0] (GF X, M, PTF v) (fun r9 S1 => pm_Run d 88 38 [vA 31, vI l1, vI s0, PU, PU] (pm_push r9 []) S1 K) := by
  refine (px_go (by decide +kernel : pm_fe 88 32 = some (.istore_n 2, 1)) rfl).trans ?_
  refine (px_go (by decide +kernel : pm_fe 88 33 = some (.aload_n 0, 1)) rfl).trans ?_
  refine (px_go (by decide +kernel : pm_fe 88 34 = some (.iload_n 2, 1)) rfl).trans ?_
  refine (ry_v1 (idx := 205) (m' := 79) (ci := 6) (by decide +kernel : 31 < 283 ∧ SHF 31 = (6, 5)) (by simp [pm_wl_n, pm_wl_c, pm_w] : pm_wl [] ≤ 8) (by decide +kernel)).trans ?_
  exact Iff.rfl
theorem r88_38 {d : Nat} {X : Nat × (Nat → Int)} {v : Nat → Int} {M : PH} {K : PV → PS → Prop} {l1 l2 s0 : Int} : pm_Run d 88 38 [vA 31, vI l1, vI l2, PU, PU] [vI s0] (GF X, M, PTF v) K ↔ pm_Call d 75 [vA 31, vI 1, vI 999] (GF X, M, PTF v) (fun r9 S1 => pm_Run d 88 47 [vA 31, vI l1, vI l2, vI s0, PU] (pm_push r9 []) S1 K) := by
  refine (px_go (by decide +kernel : pm_fe 88 38 = some (.istore_n 3, 1)) rfl).trans ?_
  refine (px_go (by decide +kernel : pm_fe 88 39 = some (.aload_n 0, 1)) rfl).trans ?_
  refine (px_go (by decide +kernel : pm_fe 88 40 = some (.iconst 1, 1)) rfl).trans ?_
  refine (px_go (by decide +kernel : pm_fe 88 41 = some (.sipush 999, 3)) rfl).trans ?_
  refine (ry_v2 (idx := 99) (m' := 75) (ci := 6) (by decide +kernel : 31 < 283 ∧ SHF 31 = (6, 5)) (by simp [pm_wl_n, pm_wl_c, pm_w] : pm_wl [] ≤ 8) (by decide +kernel)).trans ?_
  exact Iff.rfl
theorem r88_47 {d : Nat} {X : Nat × (Nat → Int)} {v : Nat → Int} {M : PH} {K : PV → PS → Prop} {l1 l2 l3 s0 : Int} (h1 : inR (M 31 3)) : pm_Run d 88 47 [vA 31, vI l1, vI l2, vI l3, PU] [vI s0] (GF X, M, PTF v) K ↔ if M 31 3 ≠ 0 then pm_Run d 88 97 [vA 31, vI l1, vI l2, vI l3, vI s0] [] (GF X, M, PTF v) K else pm_Run d 88 56 [vA 31, vI l1, vI l2, vI l3, vI s0] [] (GF X, M, PTF v) K := by
  refine (px_go (by decide +kernel : pm_fe 88 47 = some (.istore 4, 2)) rfl).trans ?_
  refine (px_go (by decide +kernel : pm_fe 88 49 = some (.aload_n 0, 1)) rfl).trans ?_
  refine (ry_get0 (idx := 32) (ci := 6) (k := 3) (by decide +kernel : 31 < 283 ∧ SHF 31 = (6, 5)) (by decide +kernel)).trans ?_
  refine (ry_if_ne (off := 44) (tgt := 97) h1 (by decide +kernel)).trans ?_
  exact Iff.rfl
theorem r88_56 {d : Nat} {c : Nat} {X : Nat × (Nat → Int)} {v : Nat → Int} {M : PH} {K : PV → PS → Prop} {l1 l2 l3 l4 : Int} (hc : isCh c) (hv1 : v 1 = ((c : Nat) : Int)) (h1 : 0 ≤ l1) (h2 : l1 < 16) : pm_Run d 88 56 [vA 31, vI l1, vI l2, vI l3, vI l4] [] (GF X, M, PTF v) K ↔ pm_Run d 88 66 [vA 31, vI l1, vI l2, vI l3, vI l4] [] (GF X, pm_sa M (c + 6) (pm_up (M (c + 6)) l1.toNat l2), PTF v) K := by
  refine (px_go (by decide +kernel : pm_fe 88 56 = some (.aload_n 0, 1)) rfl).trans ?_
  refine (ry_get2 (idx := 21) (ci := 6) (k := 1) (by decide +kernel : 31 < 283 ∧ SHF 31 = (6, 5)) (ptd1 hv1) (by decide +kernel)).trans ?_
  refine (ry_get2 (idx := 218) (ci := 1) (k := 13) (chs0 hc) (chp0_13 hc) (by decide +kernel)).trans ?_
  refine (px_go (by decide +kernel : pm_fe 88 63 = some (.iload_n 1, 1)) rfl).trans ?_
  refine (px_go (by decide +kernel : pm_fe 88 64 = some (.iload_n 2, 1)) rfl).trans ?_
  refine (ry_iast (chs6 hc) h1 h2 (by decide +kernel)).trans ?_
  exact Iff.rfl
theorem r88_66 {d : Nat} {c : Nat} {X : Nat × (Nat → Int)} {v : Nat → Int} {M : PH} {K : PV → PS → Prop} {l1 l2 l3 l4 : Int} (hc : isCh c) (hv1 : v 1 = ((c : Nat) : Int)) (h1 : 0 ≤ l1) (h2 : l1 < 16) : pm_Run d 88 66 [vA 31, vI l1, vI l2, vI l3, vI l4] [] (GF X, M, PTF v) K ↔ pm_Run d 88 76 [vA 31, vI l1, vI l2, vI l3, vI l4] [] (GF X, pm_sa M (c + 7) (pm_up (M (c + 7)) l1.toNat l3), PTF v) K := by
  refine (px_go (by decide +kernel : pm_fe 88 66 = some (.aload_n 0, 1)) rfl).trans ?_
  refine (ry_get2 (idx := 21) (ci := 6) (k := 1) (by decide +kernel : 31 < 283 ∧ SHF 31 = (6, 5)) (ptd1 hv1) (by decide +kernel)).trans ?_
  refine (ry_get2 (idx := 221) (ci := 1) (k := 14) (chs0 hc) (chp0_14 hc) (by decide +kernel)).trans ?_
  refine (px_go (by decide +kernel : pm_fe 88 73 = some (.iload_n 1, 1)) rfl).trans ?_
  refine (px_go (by decide +kernel : pm_fe 88 74 = some (.iload_n 3, 1)) rfl).trans ?_
  refine (ry_iast (chs7 hc) h1 h2 (by decide +kernel)).trans ?_
  exact Iff.rfl
theorem r88_76 {d : Nat} {c : Nat} {X : Nat × (Nat → Int)} {v : Nat → Int} {M : PH} {K : PV → PS → Prop} {l1 l2 l3 l4 : Int} (hc : isCh c) (hv1 : v 1 = ((c : Nat) : Int)) (h1 : 0 ≤ l1) (h2 : l1 < 16) : pm_Run d 88 76 [vA 31, vI l1, vI l2, vI l3, vI l4] [] (GF X, M, PTF v) K ↔ pm_Run d 88 87 [vA 31, vI l1, vI l2, vI l3, vI l4] [] (GF X, pm_sa M (c + 8) (pm_up (M (c + 8)) l1.toNat l4), PTF v) K := by
  refine (px_go (by decide +kernel : pm_fe 88 76 = some (.aload_n 0, 1)) rfl).trans ?_
  refine (ry_get2 (idx := 21) (ci := 6) (k := 1) (by decide +kernel : 31 < 283 ∧ SHF 31 = (6, 5)) (ptd1 hv1) (by decide +kernel)).trans ?_
  refine (ry_get2 (idx := 224) (ci := 1) (k := 15) (chs0 hc) (chp0_15 hc) (by decide +kernel)).trans ?_
  refine (px_go (by decide +kernel : pm_fe 88 83 = some (.iload_n 1, 1)) rfl).trans ?_
  refine (px_go (by decide +kernel : pm_fe 88 84 = some (.iload 4, 2)) rfl).trans ?_
  refine (ry_iast (chs8 hc) h1 h2 (by decide +kernel)).trans ?_
  exact Iff.rfl
theorem r88_87 {d : Nat} {c : Nat} {X : Nat × (Nat → Int)} {v : Nat → Int} {M : PH} {K : PV → PS → Prop} {l1 l2 l3 l4 : Int} (hc : isCh c) (hv1 : v 1 = ((c : Nat) : Int)) : pm_Run d 88 87 [vA 31, vI l1, vI l2, vI l3, vI l4] [] (GF X, M, PTF v) K ↔ pm_Run d 88 97 [vA 31, vI l1, vI l2, vI l3, vI l4] [] (GF X, pm_sa M c (pm_up (M c) 3 (l1 + 1)), PTF v) K := by
  refine (px_go (by decide +kernel : pm_fe 88 87 = some (.aload_n 0, 1)) rfl).trans ?_
  refine (ry_get2 (idx := 21) (ci := 6) (k := 1) (by decide +kernel : 31 < 283 ∧ SHF 31 = (6, 5)) (ptd1 hv1) (by decide +kernel)).trans ?_
  refine (px_go (by decide +kernel : pm_fe 88 91 = some (.iload_n 1, 1)) rfl).trans ?_
  refine (px_go (by decide +kernel : pm_fe 88 92 = some (.iconst 1, 1)) rfl).trans ?_
  refine (px_go (by decide +kernel : pm_fe 88 93 = some (.iadd, 1)) rfl).trans ?_
  refine (ry_put0 (idx := 215) (ci := 1) (k := 3) (chs0 hc) (by decide +kernel)).trans ?_
  exact Iff.rfl
theorem r88_97 {d : Nat} {X : Nat × (Nat → Int)} {v : Nat → Int} {M : PH} {K : PV → PS → Prop} {l1 l2 l3 l4 : Int} : pm_Run d 88 97 [vA 31, vI l1, vI l2, vI l3, vI l4] [] (GF X, M, PTF v) K ↔ K PU (GF X, M, PTF v) := by
  refine (px_rv (by decide +kernel)).trans ?_
  exact Iff.rfl
-- X6_work work(I)V
theorem r89_0 {d : Nat} {c : Nat} {X : Nat × (Nat → Int)} {v : Nat → Int} {M : PH} {K : PV → PS → Prop} {l1 : Int} (hc : isCh c) (hv1 : v 1 = ((c : Nat) : Int)) : pm_Run d 89 0 [vA 31, vI l1] [] (GF X, M, PTF v) K ↔ pm_Call d 43 [vA (c + 15), vI (20000 + l1)] (GF X, M, PTF v) (fun r9 S1 => pm_Run d 89 15 [vA 31, vI l1] (pm_push r9 []) S1 K) := by
  refine (px_go (by decide +kernel : pm_fe 89 0 = some (.aload_n 0, 1)) rfl).trans ?_
  refine (ry_get2 (idx := 21) (ci := 6) (k := 1) (by decide +kernel : 31 < 283 ∧ SHF 31 = (6, 5)) (ptd1 hv1) (by decide +kernel)).trans ?_
  refine (ry_get2 (idx := 127) (ci := 1) (k := 17) (chs0 hc) (chp0_17 hc) (by decide +kernel)).trans ?_
  refine (px_go (by decide +kernel : pm_fe 89 7 = some (.sipush 20000, 3)) rfl).trans ?_
  refine (px_go (by decide +kernel : pm_fe 89 10 = some (.iload_n 1, 1)) rfl).trans ?_
  refine (px_go (by decide +kernel : pm_fe 89 11 = some (.iadd, 1)) rfl).trans ?_
  refine (ry_v1 (idx := 227) (m' := 43) (ci := 3) (chs15 hc) (by simp [pm_wl_n, pm_wl_c, pm_w] : pm_wl [] ≤ 8) (by decide +kernel)).trans ?_
  exact Iff.rfl
theorem r89_15 {d : Nat} {X : Nat × (Nat → Int)} {v : Nat → Int} {M : PH} {K : PV → PS → Prop} {l1 : Int} : pm_Run d 89 15 [vA 31, vI l1] [] (GF X, M, PTF v) K ↔ K PU (GF X, M, PTF v) := by
  refine (px_rv (by decide +kernel)).trans ?_
  exact Iff.rfl
-- X6_opened opened()Z
theorem r90_0 {d : Nat} {X : Nat × (Nat → Int)} {v : Nat → Int} {M : PH} {K : PV → PS → Prop} (h1 : inR (M 31 2)) : pm_Run d 90 0 [vA 31] [] (GF X, M, PTF v) K ↔ if M 31 2 < 7 then pm_Run d 90 23 [vA 31] [] (GF X, M, PTF v) K else pm_Run d 90 9 [vA 31] [] (GF X, M, PTF v) K := by
  refine (px_go (by decide +kernel : pm_fe 90 0 = some (.aload_n 0, 1)) rfl).trans ?_
  refine (ry_get0 (idx := 35) (ci := 6) (k := 2) (by decide +kernel : 31 < 283 ∧ SHF 31 = (6, 5)) (by decide +kernel)).trans ?_
  refine (px_go (by decide +kernel : pm_fe 90 4 = some (.bipush 7, 2)) rfl).trans ?_
  refine (ry_ic_lt (off := 17) (tgt := 23) h1 (by decide : (-2147483648 ≤ (7 : Int) ∧ (7 : Int) < 2147483648)) (by decide +kernel)).trans ?_
  exact Iff.rfl
theorem r90_9 {d : Nat} {X : Nat × (Nat → Int)} {v : Nat → Int} {M : PH} {K : PV → PS → Prop} : pm_Run d 90 9 [vA 31] [] (GF X, M, PTF v) K ↔ pm_Call d 69 [vA 31, vI 5, vI (M 32 5)] (GF X, M, PTF v) (fun r9 S1 => pm_Run d 90 21 [vA 31] (pm_push r9 []) S1 K) := by
  refine (px_go (by decide +kernel : pm_fe 90 9 = some (.aload_n 0, 1)) rfl).trans ?_
  refine (px_go (by decide +kernel : pm_fe 90 10 = some (.iconst 5, 1)) rfl).trans ?_
  refine (px_go (by decide +kernel : pm_fe 90 11 = some (.aload_n 0, 1)) rfl).trans ?_
  refine (ry_get2 (idx := 12) (ci := 6) (k := 0) (by decide +kernel : 31 < 283 ∧ SHF 31 = (6, 5)) (ptf_l (a := 31) (k := 0) (n := 32) (by decide +kernel)) (by decide +kernel)).trans ?_
  refine (ry_get0 (idx := 51) (ci := 4) (k := 5) (by decide +kernel : 32 < 283 ∧ SHF 32 = (4, 9)) (by decide +kernel)).trans ?_
  refine (ry_v2 (idx := 54) (m' := 69) (ci := 6) (by decide +kernel : 31 < 283 ∧ SHF 31 = (6, 5)) (by simp [pm_wl_n, pm_wl_c, pm_w] : pm_wl [] ≤ 8) (by decide +kernel)).trans ?_
  exact Iff.rfl
theorem r90_21 {d : Nat} {X : Nat × (Nat → Int)} {v : Nat → Int} {M : PH} {K : PV → PS → Prop} : pm_Run d 90 21 [vA 31] [] (GF X, M, PTF v) K ↔ K (vI 0) (GF X, M, PTF v) := by
  refine (px_go (by decide +kernel : pm_fe 90 21 = some (.iconst 0, 1)) rfl).trans ?_
  refine (px_rz (by decide +kernel)).trans ((and_iff_right (by decide : (0 : Int) = (0 : Int) ∨ (0 : Int) = (1 : Int))).trans ?_)
  exact Iff.rfl
theorem r90_23 {d : Nat} {X : Nat × (Nat → Int)} {v : Nat → Int} {M : PH} {K : PV → PS → Prop} : pm_Run d 90 23 [vA 31] [] (GF X, M, PTF v) K ↔ pm_Run d 90 33 [vA 31] [] (GF X, pm_sa M 31 (pm_up (M 31) 2 ((M 31 2) + 1)), PTF v) K := by
  refine (px_go (by decide +kernel : pm_fe 90 23 = some (.aload_n 0, 1)) rfl).trans ?_
  refine (px_go (by decide +kernel : pm_fe 90 24 = some (.dup, 1)) rfl).trans ?_
  refine (ry_get0 (idx := 35) (ci := 6) (k := 2) (by decide +kernel : 31 < 283 ∧ SHF 31 = (6, 5)) (by decide +kernel)).trans ?_
  refine (px_go (by decide +kernel : pm_fe 90 28 = some (.iconst 1, 1)) rfl).trans ?_
  refine (px_go (by decide +kernel : pm_fe 90 29 = some (.iadd, 1)) rfl).trans ?_
  refine (ry_put0 (idx := 35) (ci := 6) (k := 2) (by decide +kernel : 31 < 283 ∧ SHF 31 = (6, 5)) (by decide +kernel)).trans ?_
  exact Iff.rfl
theorem r90_33 {d : Nat} {X : Nat × (Nat → Int)} {v : Nat → Int} {M : PH} {K : PV → PS → Prop} : pm_Run d 90 33 [vA 31] [] (GF X, M, PTF v) K ↔ pm_Call d 51 [vA 32] (GF X, M, PTF v) (fun r9 S1 => pm_Run d 90 40 [vA 31] (pm_push r9 []) S1 K) := by
  refine (px_go (by decide +kernel : pm_fe 90 33 = some (.aload_n 0, 1)) rfl).trans ?_
  refine (ry_get2 (idx := 12) (ci := 6) (k := 0) (by decide +kernel : 31 < 283 ∧ SHF 31 = (6, 5)) (ptf_l (a := 31) (k := 0) (n := 32) (by decide +kernel)) (by decide +kernel)).trans ?_
  refine (ry_v0 (idx := 42) (m' := 51) (ci := 4) (by decide +kernel : 32 < 283 ∧ SHF 32 = (4, 9)) (by simp [pm_wl_n, pm_wl_c, pm_w] : pm_wl [] ≤ 8) (by decide +kernel)).trans ?_
  exact Iff.rfl
theorem r90_40 {d : Nat} {X : Nat × (Nat → Int)} {v : Nat → Int} {M : PH} {K : PV → PS → Prop} : pm_Run d 90 40 [vA 31] [] (GF X, M, PTF v) K ↔ K (vI 1) (GF X, M, PTF v) := by
  refine (px_go (by decide +kernel : pm_fe 90 40 = some (.iconst 1, 1)) rfl).trans ?_
  refine (px_rz (by decide +kernel)).trans ((and_iff_right (by decide : (1 : Int) = (0 : Int) ∨ (1 : Int) = (1 : Int))).trans ?_)
  exact Iff.rfl
-- X6_test test()V
theorem r91_0 {d : Nat} {X : Nat × (Nat → Int)} {v : Nat → Int} {M : PH} {K : PV → PS → Prop} : pm_Run d 91 0 [vA 31, PU] [] (GF X, M, PTF v) K ↔ pm_Call d 92 [vA 31] (GF X, M, PTF v) (fun r9 S1 => pm_Run d 91 4 [vA 31, PU] (pm_push r9 []) S1 K) := by
  refine (px_go (by decide +kernel : pm_fe 91 0 = some (.aload_n 0, 1)) rfl).trans ?_
  refine (ry_v0 (idx := 230) (m' := 92) (ci := 6) (by decide +kernel : 31 < 283 ∧ SHF 31 = (6, 5)) (by simp [pm_wl_n, pm_wl_c, pm_w] : pm_wl [] ≤ 8) (by decide +kernel)).trans ?_
  exact Iff.rfl
theorem r91_4 {d : Nat} {X : Nat × (Nat → Int)} {v : Nat → Int} {M : PH} {K : PV → PS → Prop} : pm_Run d 91 4 [vA 31, PU] [] (GF X, M, PTF v) K ↔ pm_Run d 91 6 [vA 31, vI 0] [] (GF X, M, PTF v) K := by
  refine (px_go (by decide +kernel : pm_fe 91 4 = some (.iconst 0, 1)) rfl).trans ?_
  refine (px_go (by decide +kernel : pm_fe 91 5 = some (.istore_n 1, 1)) rfl).trans ?_
  exact Iff.rfl
theorem r91_6 {d : Nat} {X : Nat × (Nat → Int)} {v : Nat → Int} {M : PH} {K : PV → PS → Prop} {l1 : Int} (h1 : inR l1) : pm_Run d 91 6 [vA 31, vI l1] [] (GF X, M, PTF v) K ↔ if 1600 ≤ l1 then pm_Run d 91 45 [vA 31, vI l1] [] (GF X, M, PTF v) K else pm_Run d 91 13 [vA 31, vI l1] [] (GF X, M, PTF v) K := by
  refine (px_go (by decide +kernel : pm_fe 91 6 = some (.iload_n 1, 1)) rfl).trans ?_
  refine (px_go (by decide +kernel : pm_fe 91 7 = some (.sipush 1600, 3)) rfl).trans ?_
  refine (ry_ic_ge (off := 35) (tgt := 45) h1 (by decide : (-2147483648 ≤ (1600 : Int) ∧ (1600 : Int) < 2147483648)) (by decide +kernel)).trans ?_
  exact Iff.rfl
theorem r91_13 {d : Nat} {X : Nat × (Nat → Int)} {v : Nat → Int} {M : PH} {K : PV → PS → Prop} {l1 : Int} : pm_Run d 91 13 [vA 31, vI l1] [] (GF X, M, PTF v) K ↔ pm_Call d 71 [vA 31, vI 23] (GF X, M, PTF v) (fun r9 S1 => pm_Run d 91 19 [vA 31, vI l1] (pm_push r9 []) S1 K) := by
  refine (px_go (by decide +kernel : pm_fe 91 13 = some (.aload_n 0, 1)) rfl).trans ?_
  refine (px_go (by decide +kernel : pm_fe 91 14 = some (.bipush 23, 2)) rfl).trans ?_
  refine (ry_v1 (idx := 78) (m' := 71) (ci := 6) (by decide +kernel : 31 < 283 ∧ SHF 31 = (6, 5)) (by simp [pm_wl_n, pm_wl_c, pm_w] : pm_wl [] ≤ 8) (by decide +kernel)).trans ?_
  exact Iff.rfl
theorem r91_19 {d : Nat} {X : Nat × (Nat → Int)} {v : Nat → Int} {M : PH} {K : PV → PS → Prop} {l1 s0 : Int} (h1 : inR s0) : pm_Run d 91 19 [vA 31, vI l1] [vI s0] (GF X, M, PTF v) K ↔ if s0 = 0 then pm_Run d 91 45 [vA 31, vI l1] [] (GF X, M, PTF v) K else pm_Run d 91 22 [vA 31, vI l1] [] (GF X, M, PTF v) K := by
  refine (ry_if_eq (off := 26) (tgt := 45) h1 (by decide +kernel)).trans ?_
  exact Iff.rfl
theorem r91_22 {d : Nat} {X : Nat × (Nat → Int)} {v : Nat → Int} {M : PH} {K : PV → PS → Prop} {l1 : Int} : pm_Run d 91 22 [vA 31, vI l1] [] (GF X, M, PTF v) K ↔ pm_Call d 51 [vA 32] (GF X, M, PTF v) (fun r9 S1 => pm_Run d 91 29 [vA 31, vI l1] (pm_push r9 []) S1 K) := by
  refine (px_go (by decide +kernel : pm_fe 91 22 = some (.aload_n 0, 1)) rfl).trans ?_
  refine (ry_get2 (idx := 12) (ci := 6) (k := 0) (by decide +kernel : 31 < 283 ∧ SHF 31 = (6, 5)) (ptf_l (a := 31) (k := 0) (n := 32) (by decide +kernel)) (by decide +kernel)).trans ?_
  refine (ry_v0 (idx := 42) (m' := 51) (ci := 4) (by decide +kernel : 32 < 283 ∧ SHF 32 = (4, 9)) (by simp [pm_wl_n, pm_wl_c, pm_w] : pm_wl [] ≤ 8) (by decide +kernel)).trans ?_
  exact Iff.rfl
theorem r91_29 {d : Nat} {X : Nat × (Nat → Int)} {v : Nat → Int} {M : PH} {K : PV → PS → Prop} {l1 : Int} : pm_Run d 91 29 [vA 31, vI l1] [] (GF X, M, PTF v) K ↔ pm_Call d 92 [vA 31] (GF X, M, PTF v) (fun r9 S1 => pm_Run d 91 33 [vA 31, vI l1] (pm_push r9 []) S1 K) := by
  refine (px_go (by decide +kernel : pm_fe 91 29 = some (.aload_n 0, 1)) rfl).trans ?_
  refine (ry_v0 (idx := 230) (m' := 92) (ci := 6) (by decide +kernel : 31 < 283 ∧ SHF 31 = (6, 5)) (by simp [pm_wl_n, pm_wl_c, pm_w] : pm_wl [] ≤ 8) (by decide +kernel)).trans ?_
  exact Iff.rfl
theorem r91_33 {d : Nat} {X : Nat × (Nat → Int)} {v : Nat → Int} {M : PH} {K : PV → PS → Prop} {l1 : Int} : pm_Run d 91 33 [vA 31, vI l1] [] (GF X, M, PTF v) K ↔ pm_Call d 89 [vA 31, vI 23] (GF X, M, PTF v) (fun r9 S1 => pm_Run d 91 39 [vA 31, vI l1] (pm_push r9 []) S1 K) := by
  refine (px_go (by decide +kernel : pm_fe 91 33 = some (.aload_n 0, 1)) rfl).trans ?_
  refine (px_go (by decide +kernel : pm_fe 91 34 = some (.bipush 23, 2)) rfl).trans ?_
  refine (ry_v1 (idx := 233) (m' := 89) (ci := 6) (by decide +kernel : 31 < 283 ∧ SHF 31 = (6, 5)) (by simp [pm_wl_n, pm_wl_c, pm_w] : pm_wl [] ≤ 8) (by decide +kernel)).trans ?_
  exact Iff.rfl
theorem r91_39 {d : Nat} {X : Nat × (Nat → Int)} {v : Nat → Int} {M : PH} {K : PV → PS → Prop} {l1 : Int} : pm_Run d 91 39 [vA 31, vI l1] [] (GF X, M, PTF v) K ↔ pm_Run d 91 6 [vA 31, vI (l1 + 1)] [] (GF X, M, PTF v) K := by
  refine (px_go (by decide +kernel : pm_fe 91 39 = some (.iinc 1 1, 3)) rfl).trans ?_
  refine (px_goto (off := (-36)) (tgt := 6) (by decide +kernel)).trans ?_
  exact Iff.rfl
theorem r91_45 {d : Nat} {X : Nat × (Nat → Int)} {v : Nat → Int} {M : PH} {K : PV → PS → Prop} {l1 : Int} : pm_Run d 91 45 [vA 31, vI l1] [] (GF X, M, PTF v) K ↔ K PU (GF X, M, PTF v) := by
  refine (px_rv (by decide +kernel)).trans ?_
  exact Iff.rfl
-- X6_both both()V
theorem r92_0 {d : Nat} {X : Nat × (Nat → Int)} {v : Nat → Int} {M : PH} {K : PV → PS → Prop} : pm_Run d 92 0 [vA 31, PU] [] (GF X, M, PTF v) K ↔ pm_Call d 93 [vA 31] (GF X, M, PTF v) (fun r9 S1 => pm_Run d 92 4 [vA 31, PU] (pm_push r9 []) S1 K) := by
  refine (px_go (by decide +kernel : pm_fe 92 0 = some (.aload_n 0, 1)) rfl).trans ?_
  refine (ry_v0 (idx := 236) (m' := 93) (ci := 6) (by decide +kernel : 31 < 283 ∧ SHF 31 = (6, 5)) (by simp [pm_wl_n, pm_wl_c, pm_w] : pm_wl [] ≤ 8) (by decide +kernel)).trans ?_
  exact Iff.rfl
theorem r92_4 {d : Nat} {X : Nat × (Nat → Int)} {v : Nat → Int} {M : PH} {K : PV → PS → Prop} : pm_Run d 92 4 [vA 31, PU] [] (GF X, M, PTF v) K ↔ pm_Run d 92 6 [vA 31, vI 0] [] (GF X, M, PTF v) K := by
  refine (px_go (by decide +kernel : pm_fe 92 4 = some (.iconst 0, 1)) rfl).trans ?_
  refine (px_go (by decide +kernel : pm_fe 92 5 = some (.istore_n 1, 1)) rfl).trans ?_
  exact Iff.rfl
theorem r92_6 {d : Nat} {X : Nat × (Nat → Int)} {v : Nat → Int} {M : PH} {K : PV → PS → Prop} {l1 : Int} (h1 : inR l1) : pm_Run d 92 6 [vA 31, vI l1] [] (GF X, M, PTF v) K ↔ if 1600 ≤ l1 then pm_Run d 92 45 [vA 31, vI l1] [] (GF X, M, PTF v) K else pm_Run d 92 13 [vA 31, vI l1] [] (GF X, M, PTF v) K := by
  refine (px_go (by decide +kernel : pm_fe 92 6 = some (.iload_n 1, 1)) rfl).trans ?_
  refine (px_go (by decide +kernel : pm_fe 92 7 = some (.sipush 1600, 3)) rfl).trans ?_
  refine (ry_ic_ge (off := 35) (tgt := 45) h1 (by decide : (-2147483648 ≤ (1600 : Int) ∧ (1600 : Int) < 2147483648)) (by decide +kernel)).trans ?_
  exact Iff.rfl
theorem r92_13 {d : Nat} {X : Nat × (Nat → Int)} {v : Nat → Int} {M : PH} {K : PV → PS → Prop} {l1 : Int} : pm_Run d 92 13 [vA 31, vI l1] [] (GF X, M, PTF v) K ↔ pm_Call d 71 [vA 31, vI 24] (GF X, M, PTF v) (fun r9 S1 => pm_Run d 92 19 [vA 31, vI l1] (pm_push r9 []) S1 K) := by
  refine (px_go (by decide +kernel : pm_fe 92 13 = some (.aload_n 0, 1)) rfl).trans ?_
  refine (px_go (by decide +kernel : pm_fe 92 14 = some (.bipush 24, 2)) rfl).trans ?_
  refine (ry_v1 (idx := 78) (m' := 71) (ci := 6) (by decide +kernel : 31 < 283 ∧ SHF 31 = (6, 5)) (by simp [pm_wl_n, pm_wl_c, pm_w] : pm_wl [] ≤ 8) (by decide +kernel)).trans ?_
  exact Iff.rfl
theorem r92_19 {d : Nat} {X : Nat × (Nat → Int)} {v : Nat → Int} {M : PH} {K : PV → PS → Prop} {l1 s0 : Int} (h1 : inR s0) : pm_Run d 92 19 [vA 31, vI l1] [vI s0] (GF X, M, PTF v) K ↔ if s0 = 0 then pm_Run d 92 45 [vA 31, vI l1] [] (GF X, M, PTF v) K else pm_Run d 92 22 [vA 31, vI l1] [] (GF X, M, PTF v) K := by
  refine (ry_if_eq (off := 26) (tgt := 45) h1 (by decide +kernel)).trans ?_
  exact Iff.rfl
theorem r92_22 {d : Nat} {X : Nat × (Nat → Int)} {v : Nat → Int} {M : PH} {K : PV → PS → Prop} {l1 : Int} : pm_Run d 92 22 [vA 31, vI l1] [] (GF X, M, PTF v) K ↔ pm_Call d 51 [vA 32] (GF X, M, PTF v) (fun r9 S1 => pm_Run d 92 29 [vA 31, vI l1] (pm_push r9 []) S1 K) := by
  refine (px_go (by decide +kernel : pm_fe 92 22 = some (.aload_n 0, 1)) rfl).trans ?_
  refine (ry_get2 (idx := 12) (ci := 6) (k := 0) (by decide +kernel : 31 < 283 ∧ SHF 31 = (6, 5)) (ptf_l (a := 31) (k := 0) (n := 32) (by decide +kernel)) (by decide +kernel)).trans ?_
  refine (ry_v0 (idx := 42) (m' := 51) (ci := 4) (by decide +kernel : 32 < 283 ∧ SHF 32 = (4, 9)) (by simp [pm_wl_n, pm_wl_c, pm_w] : pm_wl [] ≤ 8) (by decide +kernel)).trans ?_
  exact Iff.rfl
theorem r92_29 {d : Nat} {X : Nat × (Nat → Int)} {v : Nat → Int} {M : PH} {K : PV → PS → Prop} {l1 : Int} : pm_Run d 92 29 [vA 31, vI l1] [] (GF X, M, PTF v) K ↔ pm_Call d 93 [vA 31] (GF X, M, PTF v) (fun r9 S1 => pm_Run d 92 33 [vA 31, vI l1] (pm_push r9 []) S1 K) := by
  refine (px_go (by decide +kernel : pm_fe 92 29 = some (.aload_n 0, 1)) rfl).trans ?_
  refine (ry_v0 (idx := 236) (m' := 93) (ci := 6) (by decide +kernel : 31 < 283 ∧ SHF 31 = (6, 5)) (by simp [pm_wl_n, pm_wl_c, pm_w] : pm_wl [] ≤ 8) (by decide +kernel)).trans ?_
  exact Iff.rfl
theorem r92_33 {d : Nat} {X : Nat × (Nat → Int)} {v : Nat → Int} {M : PH} {K : PV → PS → Prop} {l1 : Int} : pm_Run d 92 33 [vA 31, vI l1] [] (GF X, M, PTF v) K ↔ pm_Call d 89 [vA 31, vI 24] (GF X, M, PTF v) (fun r9 S1 => pm_Run d 92 39 [vA 31, vI l1] (pm_push r9 []) S1 K) := by
  refine (px_go (by decide +kernel : pm_fe 92 33 = some (.aload_n 0, 1)) rfl).trans ?_
  refine (px_go (by decide +kernel : pm_fe 92 34 = some (.bipush 24, 2)) rfl).trans ?_
  refine (ry_v1 (idx := 233) (m' := 89) (ci := 6) (by decide +kernel : 31 < 283 ∧ SHF 31 = (6, 5)) (by simp [pm_wl_n, pm_wl_c, pm_w] : pm_wl [] ≤ 8) (by decide +kernel)).trans ?_
  exact Iff.rfl
theorem r92_39 {d : Nat} {X : Nat × (Nat → Int)} {v : Nat → Int} {M : PH} {K : PV → PS → Prop} {l1 : Int} : pm_Run d 92 39 [vA 31, vI l1] [] (GF X, M, PTF v) K ↔ pm_Run d 92 6 [vA 31, vI (l1 + 1)] [] (GF X, M, PTF v) K := by
  refine (px_go (by decide +kernel : pm_fe 92 39 = some (.iinc 1 1, 3)) rfl).trans ?_
  refine (px_goto (off := (-36)) (tgt := 6) (by decide +kernel)).trans ?_
  exact Iff.rfl
theorem r92_45 {d : Nat} {X : Nat × (Nat → Int)} {v : Nat → Int} {M : PH} {K : PV → PS → Prop} {l1 : Int} : pm_Run d 92 45 [vA 31, vI l1] [] (GF X, M, PTF v) K ↔ K PU (GF X, M, PTF v) := by
  refine (px_rv (by decide +kernel)).trans ?_
  exact Iff.rfl
-- X6_fact fact()V
theorem r93_0 {d : Nat} {X : Nat × (Nat → Int)} {v : Nat → Int} {M : PH} {K : PV → PS → Prop} : pm_Run d 93 0 [vA 31, PU] [] (GF X, M, PTF v) K ↔ pm_Call d 71 [vA 31, vI 25] (GF X, M, PTF v) (fun r9 S1 => pm_Run d 93 6 [vA 31, PU] (pm_push r9 []) S1 K) := by
  refine (px_go (by decide +kernel : pm_fe 93 0 = some (.aload_n 0, 1)) rfl).trans ?_
  refine (px_go (by decide +kernel : pm_fe 93 1 = some (.bipush 25, 2)) rfl).trans ?_
  refine (ry_v1 (idx := 78) (m' := 71) (ci := 6) (by decide +kernel : 31 < 283 ∧ SHF 31 = (6, 5)) (by simp [pm_wl_n, pm_wl_c, pm_w] : pm_wl [] ≤ 8) (by decide +kernel)).trans ?_
  exact Iff.rfl
theorem r93_6 {d : Nat} {X : Nat × (Nat → Int)} {v : Nat → Int} {M : PH} {K : PV → PS → Prop} {s0 : Int} (h1 : inR s0) : pm_Run d 93 6 [vA 31, PU] [vI s0] (GF X, M, PTF v) K ↔ if s0 = 0 then pm_Run d 93 39 [vA 31, PU] [] (GF X, M, PTF v) K else pm_Run d 93 9 [vA 31, PU] [] (GF X, M, PTF v) K := by
  refine (ry_if_eq (off := 33) (tgt := 39) h1 (by decide +kernel)).trans ?_
  exact Iff.rfl
theorem r93_9 {d : Nat} {X : Nat × (Nat → Int)} {v : Nat → Int} {M : PH} {K : PV → PS → Prop} : pm_Run d 93 9 [vA 31, PU] [] (GF X, M, PTF v) K ↔ pm_Call d 90 [vA 31] (GF X, M, PTF v) (fun r9 S1 => pm_Run d 93 13 [vA 31, PU] (pm_push r9 []) S1 K) := by
  refine (px_go (by decide +kernel : pm_fe 93 9 = some (.aload_n 0, 1)) rfl).trans ?_
  refine (ry_v0 (idx := 239) (m' := 90) (ci := 6) (by decide +kernel : 31 < 283 ∧ SHF 31 = (6, 5)) (by simp [pm_wl_n, pm_wl_c, pm_w] : pm_wl [] ≤ 8) (by decide +kernel)).trans ?_
  exact Iff.rfl
theorem r93_13 {d : Nat} {X : Nat × (Nat → Int)} {v : Nat → Int} {M : PH} {K : PV → PS → Prop} {s0 : Int} (h1 : inR s0) : pm_Run d 93 13 [vA 31, PU] [vI s0] (GF X, M, PTF v) K ↔ if s0 = 0 then pm_Run d 93 165 [vA 31, PU] [] (GF X, M, PTF v) K else pm_Run d 93 16 [vA 31, PU] [] (GF X, M, PTF v) K := by
  refine (ry_if_eq (off := 152) (tgt := 165) h1 (by decide +kernel)).trans ?_
  exact Iff.rfl
theorem r93_16 {d : Nat} {X : Nat × (Nat → Int)} {v : Nat → Int} {M : PH} {K : PV → PS → Prop} : pm_Run d 93 16 [vA 31, PU] [] (GF X, M, PTF v) K ↔ pm_Call d 93 [vA 31] (GF X, M, PTF v) (fun r9 S1 => pm_Run d 93 20 [vA 31, PU] (pm_push r9 []) S1 K) := by
  refine (px_go (by decide +kernel : pm_fe 93 16 = some (.aload_n 0, 1)) rfl).trans ?_
  refine (ry_v0 (idx := 236) (m' := 93) (ci := 6) (by decide +kernel : 31 < 283 ∧ SHF 31 = (6, 5)) (by simp [pm_wl_n, pm_wl_c, pm_w] : pm_wl [] ≤ 8) (by decide +kernel)).trans ?_
  exact Iff.rfl
theorem r93_20 {d : Nat} {X : Nat × (Nat → Int)} {v : Nat → Int} {M : PH} {K : PV → PS → Prop} : pm_Run d 93 20 [vA 31, PU] [] (GF X, M, PTF v) K ↔ pm_Run d 93 30 [vA 31, PU] [] (GF X, pm_sa M 31 (pm_up (M 31) 2 ((M 31 2) - 1)), PTF v) K := by
  refine (px_go (by decide +kernel : pm_fe 93 20 = some (.aload_n 0, 1)) rfl).trans ?_
  refine (px_go (by decide +kernel : pm_fe 93 21 = some (.dup, 1)) rfl).trans ?_
  refine (ry_get0 (idx := 35) (ci := 6) (k := 2) (by decide +kernel : 31 < 283 ∧ SHF 31 = (6, 5)) (by decide +kernel)).trans ?_
  refine (px_go (by decide +kernel : pm_fe 93 25 = some (.iconst 1, 1)) rfl).trans ?_
  refine (px_go (by decide +kernel : pm_fe 93 26 = some (.isub, 1)) rfl).trans ?_
  refine (ry_put0 (idx := 35) (ci := 6) (k := 2) (by decide +kernel : 31 < 283 ∧ SHF 31 = (6, 5)) (by decide +kernel)).trans ?_
  exact Iff.rfl
theorem r93_30 {d : Nat} {X : Nat × (Nat → Int)} {v : Nat → Int} {M : PH} {K : PV → PS → Prop} : pm_Run d 93 30 [vA 31, PU] [] (GF X, M, PTF v) K ↔ pm_Call d 89 [vA 31, vI 25] (GF X, M, PTF v) (fun r9 S1 => pm_Run d 93 36 [vA 31, PU] (pm_push r9 []) S1 K) := by
  refine (px_go (by decide +kernel : pm_fe 93 30 = some (.aload_n 0, 1)) rfl).trans ?_
  refine (px_go (by decide +kernel : pm_fe 93 31 = some (.bipush 25, 2)) rfl).trans ?_
  refine (ry_v1 (idx := 233) (m' := 89) (ci := 6) (by decide +kernel : 31 < 283 ∧ SHF 31 = (6, 5)) (by simp [pm_wl_n, pm_wl_c, pm_w] : pm_wl [] ≤ 8) (by decide +kernel)).trans ?_
  exact Iff.rfl
theorem r93_36 {d : Nat} {X : Nat × (Nat → Int)} {v : Nat → Int} {M : PH} {K : PV → PS → Prop} : pm_Run d 93 36 [vA 31, PU] [] (GF X, M, PTF v) K ↔ pm_Run d 93 165 [vA 31, PU] [] (GF X, M, PTF v) K := by
  refine (px_goto (off := 129) (tgt := 165) (by decide +kernel)).trans ?_
  exact Iff.rfl
theorem r93_39 {d : Nat} {X : Nat × (Nat → Int)} {v : Nat → Int} {M : PH} {K : PV → PS → Prop} : pm_Run d 93 39 [vA 31, PU] [] (GF X, M, PTF v) K ↔ pm_Call d 72 [vA 31, vI 91] (GF X, M, PTF v) (fun r9 S1 => pm_Run d 93 45 [vA 31, PU] (pm_push r9 []) S1 K) := by
  refine (px_go (by decide +kernel : pm_fe 93 39 = some (.aload_n 0, 1)) rfl).trans ?_
  refine (px_go (by decide +kernel : pm_fe 93 40 = some (.bipush 91, 2)) rfl).trans ?_
  refine (ry_v1 (idx := 82) (m' := 72) (ci := 6) (by decide +kernel : 31 < 283 ∧ SHF 31 = (6, 5)) (by simp [pm_wl_n, pm_wl_c, pm_w] : pm_wl [] ≤ 8) (by decide +kernel)).trans ?_
  exact Iff.rfl
theorem r93_45 {d : Nat} {X : Nat × (Nat → Int)} {v : Nat → Int} {M : PH} {K : PV → PS → Prop} {s0 : Int} (h1 : inR s0) : pm_Run d 93 45 [vA 31, PU] [vI s0] (GF X, M, PTF v) K ↔ if s0 = 0 then pm_Run d 93 78 [vA 31, PU] [] (GF X, M, PTF v) K else pm_Run d 93 48 [vA 31, PU] [] (GF X, M, PTF v) K := by
  refine (ry_if_eq (off := 33) (tgt := 78) h1 (by decide +kernel)).trans ?_
  exact Iff.rfl
theorem r93_48 {d : Nat} {X : Nat × (Nat → Int)} {v : Nat → Int} {M : PH} {K : PV → PS → Prop} : pm_Run d 93 48 [vA 31, PU] [] (GF X, M, PTF v) K ↔ pm_Call d 90 [vA 31] (GF X, M, PTF v) (fun r9 S1 => pm_Run d 93 52 [vA 31, PU] (pm_push r9 []) S1 K) := by
  refine (px_go (by decide +kernel : pm_fe 93 48 = some (.aload_n 0, 1)) rfl).trans ?_
  refine (ry_v0 (idx := 239) (m' := 90) (ci := 6) (by decide +kernel : 31 < 283 ∧ SHF 31 = (6, 5)) (by simp [pm_wl_n, pm_wl_c, pm_w] : pm_wl [] ≤ 8) (by decide +kernel)).trans ?_
  exact Iff.rfl
theorem r93_52 {d : Nat} {X : Nat × (Nat → Int)} {v : Nat → Int} {M : PH} {K : PV → PS → Prop} {s0 : Int} (h1 : inR s0) : pm_Run d 93 52 [vA 31, PU] [vI s0] (GF X, M, PTF v) K ↔ if s0 = 0 then pm_Run d 93 165 [vA 31, PU] [] (GF X, M, PTF v) K else pm_Run d 93 55 [vA 31, PU] [] (GF X, M, PTF v) K := by
  refine (ry_if_eq (off := 113) (tgt := 165) h1 (by decide +kernel)).trans ?_
  exact Iff.rfl
theorem r93_55 {d : Nat} {X : Nat × (Nat → Int)} {v : Nat → Int} {M : PH} {K : PV → PS → Prop} : pm_Run d 93 55 [vA 31, PU] [] (GF X, M, PTF v) K ↔ pm_Call d 91 [vA 31] (GF X, M, PTF v) (fun r9 S1 => pm_Run d 93 59 [vA 31, PU] (pm_push r9 []) S1 K) := by
  refine (px_go (by decide +kernel : pm_fe 93 55 = some (.aload_n 0, 1)) rfl).trans ?_
  refine (ry_v0 (idx := 136) (m' := 91) (ci := 6) (by decide +kernel : 31 < 283 ∧ SHF 31 = (6, 5)) (by simp [pm_wl_n, pm_wl_c, pm_w] : pm_wl [] ≤ 8) (by decide +kernel)).trans ?_
  exact Iff.rfl
theorem r93_59 {d : Nat} {X : Nat × (Nat → Int)} {v : Nat → Int} {M : PH} {K : PV → PS → Prop} : pm_Run d 93 59 [vA 31, PU] [] (GF X, M, PTF v) K ↔ pm_Call d 74 [vA 31, vI 93] (GF X, M, PTF v) (fun r9 S1 => pm_Run d 93 65 [vA 31, PU] (pm_push r9 []) S1 K) := by
  refine (px_go (by decide +kernel : pm_fe 93 59 = some (.aload_n 0, 1)) rfl).trans ?_
  refine (px_go (by decide +kernel : pm_fe 93 60 = some (.bipush 93, 2)) rfl).trans ?_
  refine (ry_v1 (idx := 62) (m' := 74) (ci := 6) (by decide +kernel : 31 < 283 ∧ SHF 31 = (6, 5)) (by simp [pm_wl_n, pm_wl_c, pm_w] : pm_wl [] ≤ 8) (by decide +kernel)).trans ?_
  exact Iff.rfl
theorem r93_65 {d : Nat} {X : Nat × (Nat → Int)} {v : Nat → Int} {M : PH} {K : PV → PS → Prop} : pm_Run d 93 65 [vA 31, PU] [] (GF X, M, PTF v) K ↔ pm_Run d 93 165 [vA 31, PU] [] (GF X, pm_sa M 31 (pm_up (M 31) 2 ((M 31 2) - 1)), PTF v) K := by
  refine (px_go (by decide +kernel : pm_fe 93 65 = some (.aload_n 0, 1)) rfl).trans ?_
  refine (px_go (by decide +kernel : pm_fe 93 66 = some (.dup, 1)) rfl).trans ?_
  refine (ry_get0 (idx := 35) (ci := 6) (k := 2) (by decide +kernel : 31 < 283 ∧ SHF 31 = (6, 5)) (by decide +kernel)).trans ?_
  refine (px_go (by decide +kernel : pm_fe 93 70 = some (.iconst 1, 1)) rfl).trans ?_
  refine (px_go (by decide +kernel : pm_fe 93 71 = some (.isub, 1)) rfl).trans ?_
  refine (ry_put0 (idx := 35) (ci := 6) (k := 2) (by decide +kernel : 31 < 283 ∧ SHF 31 = (6, 5)) (by decide +kernel)).trans ?_
  refine (px_goto (off := 90) (tgt := 165) (by decide +kernel)).trans ?_
  exact Iff.rfl
theorem r93_78 {d : Nat} {X : Nat × (Nat → Int)} {v : Nat → Int} {M : PH} {K : PV → PS → Prop} : pm_Run d 93 78 [vA 31, PU] [] (GF X, M, PTF v) K ↔ pm_Call d 71 [vA 31, vI 26] (GF X, M, PTF v) (fun r9 S1 => pm_Run d 93 84 [vA 31, PU] (pm_push r9 []) S1 K) := by
  refine (px_go (by decide +kernel : pm_fe 93 78 = some (.aload_n 0, 1)) rfl).trans ?_
  refine (px_go (by decide +kernel : pm_fe 93 79 = some (.bipush 26, 2)) rfl).trans ?_
  refine (ry_v1 (idx := 78) (m' := 71) (ci := 6) (by decide +kernel : 31 < 283 ∧ SHF 31 = (6, 5)) (by simp [pm_wl_n, pm_wl_c, pm_w] : pm_wl [] ≤ 8) (by decide +kernel)).trans ?_
  exact Iff.rfl
theorem r93_84 {d : Nat} {X : Nat × (Nat → Int)} {v : Nat → Int} {M : PH} {K : PV → PS → Prop} {s0 : Int} (h1 : inR s0) : pm_Run d 93 84 [vA 31, PU] [vI s0] (GF X, M, PTF v) K ↔ if s0 = 0 then pm_Run d 93 103 [vA 31, PU] [] (GF X, M, PTF v) K else pm_Run d 93 87 [vA 31, PU] [] (GF X, M, PTF v) K := by
  refine (ry_if_eq (off := 19) (tgt := 103) h1 (by decide +kernel)).trans ?_
  exact Iff.rfl
theorem r93_87 {d : Nat} {X : Nat × (Nat → Int)} {v : Nat → Int} {M : PH} {K : PV → PS → Prop} : pm_Run d 93 87 [vA 31, PU] [] (GF X, M, PTF v) K ↔ pm_Call d 89 [vA 31, vI 26] (GF X, M, PTF v) (fun r9 S1 => pm_Run d 93 93 [vA 31, PU] (pm_push r9 []) S1 K) := by
  refine (px_go (by decide +kernel : pm_fe 93 87 = some (.aload_n 0, 1)) rfl).trans ?_
  refine (px_go (by decide +kernel : pm_fe 93 88 = some (.bipush 26, 2)) rfl).trans ?_
  refine (ry_v1 (idx := 233) (m' := 89) (ci := 6) (by decide +kernel : 31 < 283 ∧ SHF 31 = (6, 5)) (by simp [pm_wl_n, pm_wl_c, pm_w] : pm_wl [] ≤ 8) (by decide +kernel)).trans ?_
  exact Iff.rfl
theorem r93_93 {d : Nat} {X : Nat × (Nat → Int)} {v : Nat → Int} {M : PH} {K : PV → PS → Prop} : pm_Run d 93 93 [vA 31, PU] [] (GF X, M, PTF v) K ↔ pm_Call d 51 [vA 32] (GF X, M, PTF v) (fun r9 S1 => pm_Run d 93 100 [vA 31, PU] (pm_push r9 []) S1 K) := by
  refine (px_go (by decide +kernel : pm_fe 93 93 = some (.aload_n 0, 1)) rfl).trans ?_
  refine (ry_get2 (idx := 12) (ci := 6) (k := 0) (by decide +kernel : 31 < 283 ∧ SHF 31 = (6, 5)) (ptf_l (a := 31) (k := 0) (n := 32) (by decide +kernel)) (by decide +kernel)).trans ?_
  refine (ry_v0 (idx := 42) (m' := 51) (ci := 4) (by decide +kernel : 32 < 283 ∧ SHF 32 = (4, 9)) (by simp [pm_wl_n, pm_wl_c, pm_w] : pm_wl [] ≤ 8) (by decide +kernel)).trans ?_
  exact Iff.rfl
theorem r93_100 {d : Nat} {X : Nat × (Nat → Int)} {v : Nat → Int} {M : PH} {K : PV → PS → Prop} : pm_Run d 93 100 [vA 31, PU] [] (GF X, M, PTF v) K ↔ pm_Run d 93 165 [vA 31, PU] [] (GF X, M, PTF v) K := by
  refine (px_goto (off := 65) (tgt := 165) (by decide +kernel)).trans ?_
  exact Iff.rfl
theorem r93_103 {d : Nat} {X : Nat × (Nat → Int)} {v : Nat → Int} {M : PH} {K : PV → PS → Prop} : pm_Run d 93 103 [vA 31, PU] [] (GF X, M, PTF v) K ↔ pm_Call d 94 [vA 31] (GF X, M, PTF v) (fun r9 S1 => pm_Run d 93 107 [vA 31, PU] (pm_push r9 []) S1 K) := by
  refine (px_go (by decide +kernel : pm_fe 93 103 = some (.aload_n 0, 1)) rfl).trans ?_
  refine (ry_v0 (idx := 139) (m' := 94) (ci := 6) (by decide +kernel : 31 < 283 ∧ SHF 31 = (6, 5)) (by simp [pm_wl_n, pm_wl_c, pm_w] : pm_wl [] ≤ 8) (by decide +kernel)).trans ?_
  exact Iff.rfl
theorem r93_107 {d : Nat} {X : Nat × (Nat → Int)} {v : Nat → Int} {M : PH} {K : PV → PS → Prop} : pm_Run d 93 107 [vA 31, PU] [] (GF X, M, PTF v) K ↔ pm_Call d 72 [vA 31, vI 60] (GF X, M, PTF v) (fun r9 S1 => pm_Run d 93 121 [vA 31, vI (M 32 7)] (pm_push r9 []) S1 K) := by
  refine (px_go (by decide +kernel : pm_fe 93 107 = some (.aload_n 0, 1)) rfl).trans ?_
  refine (ry_get2 (idx := 12) (ci := 6) (k := 0) (by decide +kernel : 31 < 283 ∧ SHF 31 = (6, 5)) (ptf_l (a := 31) (k := 0) (n := 32) (by decide +kernel)) (by decide +kernel)).trans ?_
  refine (ry_get0 (idx := 75) (ci := 4) (k := 7) (by decide +kernel : 32 < 283 ∧ SHF 32 = (4, 9)) (by decide +kernel)).trans ?_
  refine (px_go (by decide +kernel : pm_fe 93 114 = some (.istore_n 1, 1)) rfl).trans ?_
  refine (px_go (by decide +kernel : pm_fe 93 115 = some (.aload_n 0, 1)) rfl).trans ?_
  refine (px_go (by decide +kernel : pm_fe 93 116 = some (.bipush 60, 2)) rfl).trans ?_
  refine (ry_v1 (idx := 82) (m' := 72) (ci := 6) (by decide +kernel : 31 < 283 ∧ SHF 31 = (6, 5)) (by simp [pm_wl_n, pm_wl_c, pm_w] : pm_wl [] ≤ 8) (by decide +kernel)).trans ?_
  exact Iff.rfl
theorem r93_121 {d : Nat} {X : Nat × (Nat → Int)} {v : Nat → Int} {M : PH} {K : PV → PS → Prop} {l1 s0 : Int} (h1 : inR s0) : pm_Run d 93 121 [vA 31, vI l1] [vI s0] (GF X, M, PTF v) K ↔ if s0 ≠ 0 then pm_Run d 93 142 [vA 31, vI l1] [] (GF X, M, PTF v) K else pm_Run d 93 124 [vA 31, vI l1] [] (GF X, M, PTF v) K := by
  refine (ry_if_ne (off := 21) (tgt := 142) h1 (by decide +kernel)).trans ?_
  exact Iff.rfl
theorem r93_124 {d : Nat} {X : Nat × (Nat → Int)} {v : Nat → Int} {M : PH} {K : PV → PS → Prop} {l1 : Int} : pm_Run d 93 124 [vA 31, vI l1] [] (GF X, M, PTF v) K ↔ pm_Call d 72 [vA 31, vI 62] (GF X, M, PTF v) (fun r9 S1 => pm_Run d 93 130 [vA 31, vI l1] (pm_push r9 []) S1 K) := by
  refine (px_go (by decide +kernel : pm_fe 93 124 = some (.aload_n 0, 1)) rfl).trans ?_
  refine (px_go (by decide +kernel : pm_fe 93 125 = some (.bipush 62, 2)) rfl).trans ?_
  refine (ry_v1 (idx := 82) (m' := 72) (ci := 6) (by decide +kernel : 31 < 283 ∧ SHF 31 = (6, 5)) (by simp [pm_wl_n, pm_wl_c, pm_w] : pm_wl [] ≤ 8) (by decide +kernel)).trans ?_
  exact Iff.rfl
theorem r93_130 {d : Nat} {X : Nat × (Nat → Int)} {v : Nat → Int} {M : PH} {K : PV → PS → Prop} {l1 s0 : Int} (h1 : inR s0) : pm_Run d 93 130 [vA 31, vI l1] [vI s0] (GF X, M, PTF v) K ↔ if s0 ≠ 0 then pm_Run d 93 142 [vA 31, vI l1] [] (GF X, M, PTF v) K else pm_Run d 93 133 [vA 31, vI l1] [] (GF X, M, PTF v) K := by
  refine (ry_if_ne (off := 12) (tgt := 142) h1 (by decide +kernel)).trans ?_
  exact Iff.rfl
theorem r93_133 {d : Nat} {X : Nat × (Nat → Int)} {v : Nat → Int} {M : PH} {K : PV → PS → Prop} {l1 : Int} : pm_Run d 93 133 [vA 31, vI l1] [] (GF X, M, PTF v) K ↔ pm_Call d 72 [vA 31, vI 61] (GF X, M, PTF v) (fun r9 S1 => pm_Run d 93 139 [vA 31, vI l1] (pm_push r9 []) S1 K) := by
  refine (px_go (by decide +kernel : pm_fe 93 133 = some (.aload_n 0, 1)) rfl).trans ?_
  refine (px_go (by decide +kernel : pm_fe 93 134 = some (.bipush 61, 2)) rfl).trans ?_
  refine (ry_v1 (idx := 82) (m' := 72) (ci := 6) (by decide +kernel : 31 < 283 ∧ SHF 31 = (6, 5)) (by simp [pm_wl_n, pm_wl_c, pm_w] : pm_wl [] ≤ 8) (by decide +kernel)).trans ?_
  exact Iff.rfl
theorem r93_139 {d : Nat} {X : Nat × (Nat → Int)} {v : Nat → Int} {M : PH} {K : PV → PS → Prop} {l1 s0 : Int} (h1 : inR s0) : pm_Run d 93 139 [vA 31, vI l1] [vI s0] (GF X, M, PTF v) K ↔ if s0 = 0 then pm_Run d 93 161 [vA 31, vI l1] [] (GF X, M, PTF v) K else pm_Run d 93 142 [vA 31, vI l1] [] (GF X, M, PTF v) K := by
  refine (ry_if_eq (off := 22) (tgt := 161) h1 (by decide +kernel)).trans ?_
  exact Iff.rfl
theorem r93_142 {d : Nat} {X : Nat × (Nat → Int)} {v : Nat → Int} {M : PH} {K : PV → PS → Prop} {l1 : Int} : pm_Run d 93 142 [vA 31, vI l1] [] (GF X, M, PTF v) K ↔ pm_Call d 51 [vA 32] (GF X, M, PTF v) (fun r9 S1 => pm_Run d 93 149 [vA 31, vI l1] (pm_push r9 []) S1 K) := by
  refine (px_go (by decide +kernel : pm_fe 93 142 = some (.aload_n 0, 1)) rfl).trans ?_
  refine (ry_get2 (idx := 12) (ci := 6) (k := 0) (by decide +kernel : 31 < 283 ∧ SHF 31 = (6, 5)) (ptf_l (a := 31) (k := 0) (n := 32) (by decide +kernel)) (by decide +kernel)).trans ?_
  refine (ry_v0 (idx := 42) (m' := 51) (ci := 4) (by decide +kernel : 32 < 283 ∧ SHF 32 = (4, 9)) (by simp [pm_wl_n, pm_wl_c, pm_w] : pm_wl [] ≤ 8) (by decide +kernel)).trans ?_
  exact Iff.rfl
theorem r93_149 {d : Nat} {X : Nat × (Nat → Int)} {v : Nat → Int} {M : PH} {K : PV → PS → Prop} {l1 : Int} : pm_Run d 93 149 [vA 31, vI l1] [] (GF X, M, PTF v) K ↔ pm_Call d 94 [vA 31] (GF X, M, PTF v) (fun r9 S1 => pm_Run d 93 153 [vA 31, vI l1] (pm_push r9 []) S1 K) := by
  refine (px_go (by decide +kernel : pm_fe 93 149 = some (.aload_n 0, 1)) rfl).trans ?_
  refine (ry_v0 (idx := 139) (m' := 94) (ci := 6) (by decide +kernel : 31 < 283 ∧ SHF 31 = (6, 5)) (by simp [pm_wl_n, pm_wl_c, pm_w] : pm_wl [] ≤ 8) (by decide +kernel)).trans ?_
  exact Iff.rfl
theorem r93_153 {d : Nat} {X : Nat × (Nat → Int)} {v : Nat → Int} {M : PH} {K : PV → PS → Prop} {l1 : Int} : pm_Run d 93 153 [vA 31, vI l1] [] (GF X, M, PTF v) K ↔ pm_Call d 89 [vA 31, vI l1] (GF X, M, PTF v) (fun r9 S1 => pm_Run d 93 158 [vA 31, vI l1] (pm_push r9 []) S1 K) := by
  refine (px_go (by decide +kernel : pm_fe 93 153 = some (.aload_n 0, 1)) rfl).trans ?_
  refine (px_go (by decide +kernel : pm_fe 93 154 = some (.iload_n 1, 1)) rfl).trans ?_
  refine (ry_v1 (idx := 233) (m' := 89) (ci := 6) (by decide +kernel : 31 < 283 ∧ SHF 31 = (6, 5)) (by simp [pm_wl_n, pm_wl_c, pm_w] : pm_wl [] ≤ 8) (by decide +kernel)).trans ?_
  exact Iff.rfl
theorem r93_158 {d : Nat} {X : Nat × (Nat → Int)} {v : Nat → Int} {M : PH} {K : PV → PS → Prop} {l1 : Int} : pm_Run d 93 158 [vA 31, vI l1] [] (GF X, M, PTF v) K ↔ pm_Run d 93 165 [vA 31, vI l1] [] (GF X, M, PTF v) K := by
  refine (px_goto (off := 7) (tgt := 165) (by decide +kernel)).trans ?_
  exact Iff.rfl
theorem r93_161 {d : Nat} {X : Nat × (Nat → Int)} {v : Nat → Int} {M : PH} {K : PV → PS → Prop} {l1 : Int} : pm_Run d 93 161 [vA 31, vI l1] [] (GF X, M, PTF v) K ↔ pm_Call d 70 [vA 31] (GF X, M, PTF v) (fun r9 S1 => pm_Run d 93 165 [vA 31, vI l1] (pm_push r9 []) S1 K) := by
  refine (px_go (by decide +kernel : pm_fe 93 161 = some (.aload_n 0, 1)) rfl).trans ?_
  refine (ry_v0 (idx := 48) (m' := 70) (ci := 6) (by decide +kernel : 31 < 283 ∧ SHF 31 = (6, 5)) (by simp [pm_wl_n, pm_wl_c, pm_w] : pm_wl [] ≤ 8) (by decide +kernel)).trans ?_
  exact Iff.rfl
theorem r93_165 {d : Nat} {X : Nat × (Nat → Int)} {v : Nat → Int} {M : PH} {K : PV → PS → Prop} {l1 : PV} : pm_Run d 93 165 [vA 31, l1] [] (GF X, M, PTF v) K ↔ K PU (GF X, M, PTF v) := by
  refine (px_rv (by decide +kernel)).trans ?_
  exact Iff.rfl
-- X6_sum sum()V
theorem r94_0 {d : Nat} {X : Nat × (Nat → Int)} {v : Nat → Int} {M : PH} {K : PV → PS → Prop} : pm_Run d 94 0 [vA 31, PU, PU] [] (GF X, M, PTF v) K ↔ pm_Call d 95 [vA 31] (GF X, M, PTF v) (fun r9 S1 => pm_Run d 94 4 [vA 31, PU, PU] (pm_push r9 []) S1 K) := by
  refine (px_go (by decide +kernel : pm_fe 94 0 = some (.aload_n 0, 1)) rfl).trans ?_
  refine (ry_v0 (idx := 242) (m' := 95) (ci := 6) (by decide +kernel : 31 < 283 ∧ SHF 31 = (6, 5)) (by simp [pm_wl_n, pm_wl_c, pm_w] : pm_wl [] ≤ 8) (by decide +kernel)).trans ?_
  exact Iff.rfl
theorem r94_4 {d : Nat} {X : Nat × (Nat → Int)} {v : Nat → Int} {M : PH} {K : PV → PS → Prop} : pm_Run d 94 4 [vA 31, PU, PU] [] (GF X, M, PTF v) K ↔ pm_Run d 94 6 [vA 31, vI 0, PU] [] (GF X, M, PTF v) K := by
  refine (px_go (by decide +kernel : pm_fe 94 4 = some (.iconst 0, 1)) rfl).trans ?_
  refine (px_go (by decide +kernel : pm_fe 94 5 = some (.istore_n 1, 1)) rfl).trans ?_
  exact Iff.rfl
theorem r94_6 {d : Nat} {X : Nat × (Nat → Int)} {v : Nat → Int} {M : PH} {K : PV → PS → Prop} {l1 : Int} {l2 : PV} (h1 : inR l1) : pm_Run d 94 6 [vA 31, vI l1, l2] [] (GF X, M, PTF v) K ↔ if 1600 ≤ l1 then pm_Run d 94 61 [vA 31, vI l1, l2] [] (GF X, M, PTF v) K else pm_Run d 94 13 [vA 31, vI l1, l2] [] (GF X, M, PTF v) K := by
  refine (px_go (by decide +kernel : pm_fe 94 6 = some (.iload_n 1, 1)) rfl).trans ?_
  refine (px_go (by decide +kernel : pm_fe 94 7 = some (.sipush 1600, 3)) rfl).trans ?_
  refine (ry_ic_ge (off := 51) (tgt := 61) h1 (by decide : (-2147483648 ≤ (1600 : Int) ∧ (1600 : Int) < 2147483648)) (by decide +kernel)).trans ?_
  exact Iff.rfl
theorem r94_13 {d : Nat} {X : Nat × (Nat → Int)} {v : Nat → Int} {M : PH} {K : PV → PS → Prop} {l1 : Int} {l2 : PV} : pm_Run d 94 13 [vA 31, vI l1, l2] [] (GF X, M, PTF v) K ↔ pm_Call d 72 [vA 31, vI 43] (GF X, M, PTF v) (fun r9 S1 => pm_Run d 94 19 [vA 31, vI l1, l2] (pm_push r9 []) S1 K) := by
  refine (px_go (by decide +kernel : pm_fe 94 13 = some (.aload_n 0, 1)) rfl).trans ?_
  refine (px_go (by decide +kernel : pm_fe 94 14 = some (.bipush 43, 2)) rfl).trans ?_
  refine (ry_v1 (idx := 82) (m' := 72) (ci := 6) (by decide +kernel : 31 < 283 ∧ SHF 31 = (6, 5)) (by simp [pm_wl_n, pm_wl_c, pm_w] : pm_wl [] ≤ 8) (by decide +kernel)).trans ?_
  exact Iff.rfl
theorem r94_19 {d : Nat} {X : Nat × (Nat → Int)} {v : Nat → Int} {M : PH} {K : PV → PS → Prop} {l1 s0 : Int} {l2 : PV} (h1 : inR s0) : pm_Run d 94 19 [vA 31, vI l1, l2] [vI s0] (GF X, M, PTF v) K ↔ if s0 ≠ 0 then pm_Run d 94 31 [vA 31, vI l1, l2] [] (GF X, M, PTF v) K else pm_Run d 94 22 [vA 31, vI l1, l2] [] (GF X, M, PTF v) K := by
  refine (ry_if_ne (off := 12) (tgt := 31) h1 (by decide +kernel)).trans ?_
  exact Iff.rfl
theorem r94_22 {d : Nat} {X : Nat × (Nat → Int)} {v : Nat → Int} {M : PH} {K : PV → PS → Prop} {l1 : Int} {l2 : PV} : pm_Run d 94 22 [vA 31, vI l1, l2] [] (GF X, M, PTF v) K ↔ pm_Call d 72 [vA 31, vI 45] (GF X, M, PTF v) (fun r9 S1 => pm_Run d 94 28 [vA 31, vI l1, l2] (pm_push r9 []) S1 K) := by
  refine (px_go (by decide +kernel : pm_fe 94 22 = some (.aload_n 0, 1)) rfl).trans ?_
  refine (px_go (by decide +kernel : pm_fe 94 23 = some (.bipush 45, 2)) rfl).trans ?_
  refine (ry_v1 (idx := 82) (m' := 72) (ci := 6) (by decide +kernel : 31 < 283 ∧ SHF 31 = (6, 5)) (by simp [pm_wl_n, pm_wl_c, pm_w] : pm_wl [] ≤ 8) (by decide +kernel)).trans ?_
  exact Iff.rfl
theorem r94_28 {d : Nat} {X : Nat × (Nat → Int)} {v : Nat → Int} {M : PH} {K : PV → PS → Prop} {l1 s0 : Int} {l2 : PV} (h1 : inR s0) : pm_Run d 94 28 [vA 31, vI l1, l2] [vI s0] (GF X, M, PTF v) K ↔ if s0 = 0 then pm_Run d 94 61 [vA 31, vI l1, l2] [] (GF X, M, PTF v) K else pm_Run d 94 31 [vA 31, vI l1, l2] [] (GF X, M, PTF v) K := by
  refine (ry_if_eq (off := 33) (tgt := 61) h1 (by decide +kernel)).trans ?_
  exact Iff.rfl
theorem r94_31 {d : Nat} {X : Nat × (Nat → Int)} {v : Nat → Int} {M : PH} {K : PV → PS → Prop} {l1 : Int} {l2 : PV} : pm_Run d 94 31 [vA 31, vI l1, l2] [] (GF X, M, PTF v) K ↔ pm_Call d 51 [vA 32] (GF X, M, PTF v) (fun r9 S1 => pm_Run d 94 46 [vA 31, vI l1, vI (M 32 7)] (pm_push r9 []) S1 K) := by
  refine (px_go (by decide +kernel : pm_fe 94 31 = some (.aload_n 0, 1)) rfl).trans ?_
  refine (ry_get2 (idx := 12) (ci := 6) (k := 0) (by decide +kernel : 31 < 283 ∧ SHF 31 = (6, 5)) (ptf_l (a := 31) (k := 0) (n := 32) (by decide +kernel)) (by decide +kernel)).trans ?_
  refine (ry_get0 (idx := 75) (ci := 4) (k := 7) (by decide +kernel : 32 < 283 ∧ SHF 32 = (4, 9)) (by decide +kernel)).trans ?_
  refine (px_go (by decide +kernel : pm_fe 94 38 = some (.istore_n 2, 1)) rfl).trans ?_
  refine (px_go (by decide +kernel : pm_fe 94 39 = some (.aload_n 0, 1)) rfl).trans ?_
  refine (ry_get2 (idx := 12) (ci := 6) (k := 0) (by decide +kernel : 31 < 283 ∧ SHF 31 = (6, 5)) (ptf_l (a := 31) (k := 0) (n := 32) (by decide +kernel)) (by decide +kernel)).trans ?_
  refine (ry_v0 (idx := 42) (m' := 51) (ci := 4) (by decide +kernel : 32 < 283 ∧ SHF 32 = (4, 9)) (by simp [pm_wl_n, pm_wl_c, pm_w] : pm_wl [] ≤ 8) (by decide +kernel)).trans ?_
  exact Iff.rfl
theorem r94_46 {d : Nat} {X : Nat × (Nat → Int)} {v : Nat → Int} {M : PH} {K : PV → PS → Prop} {l1 l2 : Int} : pm_Run d 94 46 [vA 31, vI l1, vI l2] [] (GF X, M, PTF v) K ↔ pm_Call d 95 [vA 31] (GF X, M, PTF v) (fun r9 S1 => pm_Run d 94 50 [vA 31, vI l1, vI l2] (pm_push r9 []) S1 K) := by
  refine (px_go (by decide +kernel : pm_fe 94 46 = some (.aload_n 0, 1)) rfl).trans ?_
  refine (ry_v0 (idx := 242) (m' := 95) (ci := 6) (by decide +kernel : 31 < 283 ∧ SHF 31 = (6, 5)) (by simp [pm_wl_n, pm_wl_c, pm_w] : pm_wl [] ≤ 8) (by decide +kernel)).trans ?_
  exact Iff.rfl
theorem r94_50 {d : Nat} {X : Nat × (Nat → Int)} {v : Nat → Int} {M : PH} {K : PV → PS → Prop} {l1 l2 : Int} : pm_Run d 94 50 [vA 31, vI l1, vI l2] [] (GF X, M, PTF v) K ↔ pm_Call d 89 [vA 31, vI l2] (GF X, M, PTF v) (fun r9 S1 => pm_Run d 94 55 [vA 31, vI l1, vI l2] (pm_push r9 []) S1 K) := by
  refine (px_go (by decide +kernel : pm_fe 94 50 = some (.aload_n 0, 1)) rfl).trans ?_
  refine (px_go (by decide +kernel : pm_fe 94 51 = some (.iload_n 2, 1)) rfl).trans ?_
  refine (ry_v1 (idx := 233) (m' := 89) (ci := 6) (by decide +kernel : 31 < 283 ∧ SHF 31 = (6, 5)) (by simp [pm_wl_n, pm_wl_c, pm_w] : pm_wl [] ≤ 8) (by decide +kernel)).trans ?_
  exact Iff.rfl
theorem r94_55 {d : Nat} {X : Nat × (Nat → Int)} {v : Nat → Int} {M : PH} {K : PV → PS → Prop} {l1 l2 : Int} : pm_Run d 94 55 [vA 31, vI l1, vI l2] [] (GF X, M, PTF v) K ↔ pm_Run d 94 6 [vA 31, vI (l1 + 1), vI l2] [] (GF X, M, PTF v) K := by
  refine (px_go (by decide +kernel : pm_fe 94 55 = some (.iinc 1 1, 3)) rfl).trans ?_
  refine (px_goto (off := (-52)) (tgt := 6) (by decide +kernel)).trans ?_
  exact Iff.rfl
theorem r94_61 {d : Nat} {X : Nat × (Nat → Int)} {v : Nat → Int} {M : PH} {K : PV → PS → Prop} {l1 : Int} {l2 : PV} : pm_Run d 94 61 [vA 31, vI l1, l2] [] (GF X, M, PTF v) K ↔ K PU (GF X, M, PTF v) := by
  refine (px_rv (by decide +kernel)).trans ?_
  exact Iff.rfl
-- X6_product product()V
theorem r95_0 {d : Nat} {X : Nat × (Nat → Int)} {v : Nat → Int} {M : PH} {K : PV → PS → Prop} : pm_Run d 95 0 [vA 31, PU, PU] [] (GF X, M, PTF v) K ↔ pm_Call d 96 [vA 31] (GF X, M, PTF v) (fun r9 S1 => pm_Run d 95 4 [vA 31, PU, PU] (pm_push r9 []) S1 K) := by
  refine (px_go (by decide +kernel : pm_fe 95 0 = some (.aload_n 0, 1)) rfl).trans ?_
  refine (ry_v0 (idx := 245) (m' := 96) (ci := 6) (by decide +kernel : 31 < 283 ∧ SHF 31 = (6, 5)) (by simp [pm_wl_n, pm_wl_c, pm_w] : pm_wl [] ≤ 8) (by decide +kernel)).trans ?_
  exact Iff.rfl
theorem r95_4 {d : Nat} {X : Nat × (Nat → Int)} {v : Nat → Int} {M : PH} {K : PV → PS → Prop} : pm_Run d 95 4 [vA 31, PU, PU] [] (GF X, M, PTF v) K ↔ pm_Run d 95 6 [vA 31, vI 0, PU] [] (GF X, M, PTF v) K := by
  refine (px_go (by decide +kernel : pm_fe 95 4 = some (.iconst 0, 1)) rfl).trans ?_
  refine (px_go (by decide +kernel : pm_fe 95 5 = some (.istore_n 1, 1)) rfl).trans ?_
  exact Iff.rfl
theorem r95_6 {d : Nat} {X : Nat × (Nat → Int)} {v : Nat → Int} {M : PH} {K : PV → PS → Prop} {l1 : Int} {l2 : PV} (h1 : inR l1) : pm_Run d 95 6 [vA 31, vI l1, l2] [] (GF X, M, PTF v) K ↔ if 1600 ≤ l1 then pm_Run d 95 70 [vA 31, vI l1, l2] [] (GF X, M, PTF v) K else pm_Run d 95 13 [vA 31, vI l1, l2] [] (GF X, M, PTF v) K := by
  refine (px_go (by decide +kernel : pm_fe 95 6 = some (.iload_n 1, 1)) rfl).trans ?_
  refine (px_go (by decide +kernel : pm_fe 95 7 = some (.sipush 1600, 3)) rfl).trans ?_
  refine (ry_ic_ge (off := 60) (tgt := 70) h1 (by decide : (-2147483648 ≤ (1600 : Int) ∧ (1600 : Int) < 2147483648)) (by decide +kernel)).trans ?_
  exact Iff.rfl
theorem r95_13 {d : Nat} {X : Nat × (Nat → Int)} {v : Nat → Int} {M : PH} {K : PV → PS → Prop} {l1 : Int} {l2 : PV} : pm_Run d 95 13 [vA 31, vI l1, l2] [] (GF X, M, PTF v) K ↔ pm_Call d 72 [vA 31, vI 42] (GF X, M, PTF v) (fun r9 S1 => pm_Run d 95 19 [vA 31, vI l1, l2] (pm_push r9 []) S1 K) := by
  refine (px_go (by decide +kernel : pm_fe 95 13 = some (.aload_n 0, 1)) rfl).trans ?_
  refine (px_go (by decide +kernel : pm_fe 95 14 = some (.bipush 42, 2)) rfl).trans ?_
  refine (ry_v1 (idx := 82) (m' := 72) (ci := 6) (by decide +kernel : 31 < 283 ∧ SHF 31 = (6, 5)) (by simp [pm_wl_n, pm_wl_c, pm_w] : pm_wl [] ≤ 8) (by decide +kernel)).trans ?_
  exact Iff.rfl
theorem r95_19 {d : Nat} {X : Nat × (Nat → Int)} {v : Nat → Int} {M : PH} {K : PV → PS → Prop} {l1 s0 : Int} {l2 : PV} (h1 : inR s0) : pm_Run d 95 19 [vA 31, vI l1, l2] [vI s0] (GF X, M, PTF v) K ↔ if s0 ≠ 0 then pm_Run d 95 40 [vA 31, vI l1, l2] [] (GF X, M, PTF v) K else pm_Run d 95 22 [vA 31, vI l1, l2] [] (GF X, M, PTF v) K := by
  refine (ry_if_ne (off := 21) (tgt := 40) h1 (by decide +kernel)).trans ?_
  exact Iff.rfl
theorem r95_22 {d : Nat} {X : Nat × (Nat → Int)} {v : Nat → Int} {M : PH} {K : PV → PS → Prop} {l1 : Int} {l2 : PV} : pm_Run d 95 22 [vA 31, vI l1, l2] [] (GF X, M, PTF v) K ↔ pm_Call d 72 [vA 31, vI 47] (GF X, M, PTF v) (fun r9 S1 => pm_Run d 95 28 [vA 31, vI l1, l2] (pm_push r9 []) S1 K) := by
  refine (px_go (by decide +kernel : pm_fe 95 22 = some (.aload_n 0, 1)) rfl).trans ?_
  refine (px_go (by decide +kernel : pm_fe 95 23 = some (.bipush 47, 2)) rfl).trans ?_
  refine (ry_v1 (idx := 82) (m' := 72) (ci := 6) (by decide +kernel : 31 < 283 ∧ SHF 31 = (6, 5)) (by simp [pm_wl_n, pm_wl_c, pm_w] : pm_wl [] ≤ 8) (by decide +kernel)).trans ?_
  exact Iff.rfl
theorem r95_28 {d : Nat} {X : Nat × (Nat → Int)} {v : Nat → Int} {M : PH} {K : PV → PS → Prop} {l1 s0 : Int} {l2 : PV} (h1 : inR s0) : pm_Run d 95 28 [vA 31, vI l1, l2] [vI s0] (GF X, M, PTF v) K ↔ if s0 ≠ 0 then pm_Run d 95 40 [vA 31, vI l1, l2] [] (GF X, M, PTF v) K else pm_Run d 95 31 [vA 31, vI l1, l2] [] (GF X, M, PTF v) K := by
  refine (ry_if_ne (off := 12) (tgt := 40) h1 (by decide +kernel)).trans ?_
  exact Iff.rfl
theorem r95_31 {d : Nat} {X : Nat × (Nat → Int)} {v : Nat → Int} {M : PH} {K : PV → PS → Prop} {l1 : Int} {l2 : PV} : pm_Run d 95 31 [vA 31, vI l1, l2] [] (GF X, M, PTF v) K ↔ pm_Call d 72 [vA 31, vI 37] (GF X, M, PTF v) (fun r9 S1 => pm_Run d 95 37 [vA 31, vI l1, l2] (pm_push r9 []) S1 K) := by
  refine (px_go (by decide +kernel : pm_fe 95 31 = some (.aload_n 0, 1)) rfl).trans ?_
  refine (px_go (by decide +kernel : pm_fe 95 32 = some (.bipush 37, 2)) rfl).trans ?_
  refine (ry_v1 (idx := 82) (m' := 72) (ci := 6) (by decide +kernel : 31 < 283 ∧ SHF 31 = (6, 5)) (by simp [pm_wl_n, pm_wl_c, pm_w] : pm_wl [] ≤ 8) (by decide +kernel)).trans ?_
  exact Iff.rfl
theorem r95_37 {d : Nat} {X : Nat × (Nat → Int)} {v : Nat → Int} {M : PH} {K : PV → PS → Prop} {l1 s0 : Int} {l2 : PV} (h1 : inR s0) : pm_Run d 95 37 [vA 31, vI l1, l2] [vI s0] (GF X, M, PTF v) K ↔ if s0 = 0 then pm_Run d 95 70 [vA 31, vI l1, l2] [] (GF X, M, PTF v) K else pm_Run d 95 40 [vA 31, vI l1, l2] [] (GF X, M, PTF v) K := by
  refine (ry_if_eq (off := 33) (tgt := 70) h1 (by decide +kernel)).trans ?_
  exact Iff.rfl
theorem r95_40 {d : Nat} {X : Nat × (Nat → Int)} {v : Nat → Int} {M : PH} {K : PV → PS → Prop} {l1 : Int} {l2 : PV} : pm_Run d 95 40 [vA 31, vI l1, l2] [] (GF X, M, PTF v) K ↔ pm_Call d 51 [vA 32] (GF X, M, PTF v) (fun r9 S1 => pm_Run d 95 55 [vA 31, vI l1, vI (M 32 7)] (pm_push r9 []) S1 K) := by
  refine (px_go (by decide +kernel : pm_fe 95 40 = some (.aload_n 0, 1)) rfl).trans ?_
  refine (ry_get2 (idx := 12) (ci := 6) (k := 0) (by decide +kernel : 31 < 283 ∧ SHF 31 = (6, 5)) (ptf_l (a := 31) (k := 0) (n := 32) (by decide +kernel)) (by decide +kernel)).trans ?_
  refine (ry_get0 (idx := 75) (ci := 4) (k := 7) (by decide +kernel : 32 < 283 ∧ SHF 32 = (4, 9)) (by decide +kernel)).trans ?_
  refine (px_go (by decide +kernel : pm_fe 95 47 = some (.istore_n 2, 1)) rfl).trans ?_
  refine (px_go (by decide +kernel : pm_fe 95 48 = some (.aload_n 0, 1)) rfl).trans ?_
  refine (ry_get2 (idx := 12) (ci := 6) (k := 0) (by decide +kernel : 31 < 283 ∧ SHF 31 = (6, 5)) (ptf_l (a := 31) (k := 0) (n := 32) (by decide +kernel)) (by decide +kernel)).trans ?_
  refine (ry_v0 (idx := 42) (m' := 51) (ci := 4) (by decide +kernel : 32 < 283 ∧ SHF 32 = (4, 9)) (by simp [pm_wl_n, pm_wl_c, pm_w] : pm_wl [] ≤ 8) (by decide +kernel)).trans ?_
  exact Iff.rfl
theorem r95_55 {d : Nat} {X : Nat × (Nat → Int)} {v : Nat → Int} {M : PH} {K : PV → PS → Prop} {l1 l2 : Int} : pm_Run d 95 55 [vA 31, vI l1, vI l2] [] (GF X, M, PTF v) K ↔ pm_Call d 96 [vA 31] (GF X, M, PTF v) (fun r9 S1 => pm_Run d 95 59 [vA 31, vI l1, vI l2] (pm_push r9 []) S1 K) := by
  refine (px_go (by decide +kernel : pm_fe 95 55 = some (.aload_n 0, 1)) rfl).trans ?_
  refine (ry_v0 (idx := 245) (m' := 96) (ci := 6) (by decide +kernel : 31 < 283 ∧ SHF 31 = (6, 5)) (by simp [pm_wl_n, pm_wl_c, pm_w] : pm_wl [] ≤ 8) (by decide +kernel)).trans ?_
  exact Iff.rfl
theorem r95_59 {d : Nat} {X : Nat × (Nat → Int)} {v : Nat → Int} {M : PH} {K : PV → PS → Prop} {l1 l2 : Int} : pm_Run d 95 59 [vA 31, vI l1, vI l2] [] (GF X, M, PTF v) K ↔ pm_Call d 89 [vA 31, vI l2] (GF X, M, PTF v) (fun r9 S1 => pm_Run d 95 64 [vA 31, vI l1, vI l2] (pm_push r9 []) S1 K) := by
  refine (px_go (by decide +kernel : pm_fe 95 59 = some (.aload_n 0, 1)) rfl).trans ?_
  refine (px_go (by decide +kernel : pm_fe 95 60 = some (.iload_n 2, 1)) rfl).trans ?_
  refine (ry_v1 (idx := 233) (m' := 89) (ci := 6) (by decide +kernel : 31 < 283 ∧ SHF 31 = (6, 5)) (by simp [pm_wl_n, pm_wl_c, pm_w] : pm_wl [] ≤ 8) (by decide +kernel)).trans ?_
  exact Iff.rfl
theorem r95_64 {d : Nat} {X : Nat × (Nat → Int)} {v : Nat → Int} {M : PH} {K : PV → PS → Prop} {l1 l2 : Int} : pm_Run d 95 64 [vA 31, vI l1, vI l2] [] (GF X, M, PTF v) K ↔ pm_Run d 95 6 [vA 31, vI (l1 + 1), vI l2] [] (GF X, M, PTF v) K := by
  refine (px_go (by decide +kernel : pm_fe 95 64 = some (.iinc 1 1, 3)) rfl).trans ?_
  refine (px_goto (off := (-61)) (tgt := 6) (by decide +kernel)).trans ?_
  exact Iff.rfl
theorem r95_70 {d : Nat} {X : Nat × (Nat → Int)} {v : Nat → Int} {M : PH} {K : PV → PS → Prop} {l1 : Int} {l2 : PV} : pm_Run d 95 70 [vA 31, vI l1, l2] [] (GF X, M, PTF v) K ↔ K PU (GF X, M, PTF v) := by
  refine (px_rv (by decide +kernel)).trans ?_
  exact Iff.rfl
-- X6_part part()V
theorem r96_0 {d : Nat} {X : Nat × (Nat → Int)} {v : Nat → Int} {M : PH} {K : PV → PS → Prop} (h1 : inR (M 32 4)) : pm_Run d 96 0 [vA 31] [] (GF X, M, PTF v) K ↔ if M 32 4 ≠ 2 then pm_Run d 96 38 [vA 31] [] (GF X, M, PTF v) K else pm_Run d 96 11 [vA 31] [] (GF X, M, PTF v) K := by
  refine (px_go (by decide +kernel : pm_fe 96 0 = some (.aload_n 0, 1)) rfl).trans ?_
  refine (ry_get2 (idx := 12) (ci := 6) (k := 0) (by decide +kernel : 31 < 283 ∧ SHF 31 = (6, 5)) (ptf_l (a := 31) (k := 0) (n := 32) (by decide +kernel)) (by decide +kernel)).trans ?_
  refine (ry_get0 (idx := 45) (ci := 4) (k := 4) (by decide +kernel : 32 < 283 ∧ SHF 32 = (4, 9)) (by decide +kernel)).trans ?_
  refine (px_go (by decide +kernel : pm_fe 96 7 = some (.iconst 2, 1)) rfl).trans ?_
  refine (ry_ic_ne (off := 30) (tgt := 38) h1 (by decide : (-2147483648 ≤ (2 : Int) ∧ (2 : Int) < 2147483648)) (by decide +kernel)).trans ?_
  exact Iff.rfl
theorem r96_11 {d : Nat} {c : Nat} {X : Nat × (Nat → Int)} {v : Nat → Int} {M : PH} {K : PV → PS → Prop} (hc : isCh c) (hv1 : v 1 = ((c : Nat) : Int)) : pm_Run d 96 11 [vA 31] [] (GF X, M, PTF v) K ↔ pm_Call d 43 [vA (c + 15), vI (M 32 7)] (GF X, M, PTF v) (fun r9 S1 => pm_Run d 96 28 [vA 31] (pm_push r9 []) S1 K) := by
  refine (px_go (by decide +kernel : pm_fe 96 11 = some (.aload_n 0, 1)) rfl).trans ?_
  refine (ry_get2 (idx := 21) (ci := 6) (k := 1) (by decide +kernel : 31 < 283 ∧ SHF 31 = (6, 5)) (ptd1 hv1) (by decide +kernel)).trans ?_
  refine (ry_get2 (idx := 127) (ci := 1) (k := 17) (chs0 hc) (chp0_17 hc) (by decide +kernel)).trans ?_
  refine (px_go (by decide +kernel : pm_fe 96 18 = some (.aload_n 0, 1)) rfl).trans ?_
  refine (ry_get2 (idx := 12) (ci := 6) (k := 0) (by decide +kernel : 31 < 283 ∧ SHF 31 = (6, 5)) (ptf_l (a := 31) (k := 0) (n := 32) (by decide +kernel)) (by decide +kernel)).trans ?_
  refine (ry_get0 (idx := 75) (ci := 4) (k := 7) (by decide +kernel : 32 < 283 ∧ SHF 32 = (4, 9)) (by decide +kernel)).trans ?_
  refine (ry_v1 (idx := 227) (m' := 43) (ci := 3) (chs15 hc) (by simp [pm_wl_n, pm_wl_c, pm_w] : pm_wl [] ≤ 8) (by decide +kernel)).trans ?_
  exact Iff.rfl
theorem r96_28 {d : Nat} {X : Nat × (Nat → Int)} {v : Nat → Int} {M : PH} {K : PV → PS → Prop} : pm_Run d 96 28 [vA 31] [] (GF X, M, PTF v) K ↔ pm_Call d 51 [vA 32] (GF X, M, PTF v) (fun r9 S1 => pm_Run d 96 35 [vA 31] (pm_push r9 []) S1 K) := by
  refine (px_go (by decide +kernel : pm_fe 96 28 = some (.aload_n 0, 1)) rfl).trans ?_
  refine (ry_get2 (idx := 12) (ci := 6) (k := 0) (by decide +kernel : 31 < 283 ∧ SHF 31 = (6, 5)) (ptf_l (a := 31) (k := 0) (n := 32) (by decide +kernel)) (by decide +kernel)).trans ?_
  refine (ry_v0 (idx := 42) (m' := 51) (ci := 4) (by decide +kernel : 32 < 283 ∧ SHF 32 = (4, 9)) (by simp [pm_wl_n, pm_wl_c, pm_w] : pm_wl [] ≤ 8) (by decide +kernel)).trans ?_
  exact Iff.rfl
theorem r96_35 {d : Nat} {X : Nat × (Nat → Int)} {v : Nat → Int} {M : PH} {K : PV → PS → Prop} : pm_Run d 96 35 [vA 31] [] (GF X, M, PTF v) K ↔ pm_Run d 96 151 [vA 31] [] (GF X, M, PTF v) K := by
  refine (px_goto (off := 116) (tgt := 151) (by decide +kernel)).trans ?_
  exact Iff.rfl
theorem r96_38 {d : Nat} {X : Nat × (Nat → Int)} {v : Nat → Int} {M : PH} {K : PV → PS → Prop} : pm_Run d 96 38 [vA 31] [] (GF X, M, PTF v) K ↔ pm_Call d 72 [vA 31, vI 40] (GF X, M, PTF v) (fun r9 S1 => pm_Run d 96 44 [vA 31] (pm_push r9 []) S1 K) := by
  refine (px_go (by decide +kernel : pm_fe 96 38 = some (.aload_n 0, 1)) rfl).trans ?_
  refine (px_go (by decide +kernel : pm_fe 96 39 = some (.bipush 40, 2)) rfl).trans ?_
  refine (ry_v1 (idx := 82) (m' := 72) (ci := 6) (by decide +kernel : 31 < 283 ∧ SHF 31 = (6, 5)) (by simp [pm_wl_n, pm_wl_c, pm_w] : pm_wl [] ≤ 8) (by decide +kernel)).trans ?_
  exact Iff.rfl
theorem r96_44 {d : Nat} {X : Nat × (Nat → Int)} {v : Nat → Int} {M : PH} {K : PV → PS → Prop} {s0 : Int} (h1 : inR s0) : pm_Run d 96 44 [vA 31] [vI s0] (GF X, M, PTF v) K ↔ if s0 = 0 then pm_Run d 96 77 [vA 31] [] (GF X, M, PTF v) K else pm_Run d 96 47 [vA 31] [] (GF X, M, PTF v) K := by
  refine (ry_if_eq (off := 33) (tgt := 77) h1 (by decide +kernel)).trans ?_
  exact Iff.rfl
theorem r96_47 {d : Nat} {X : Nat × (Nat → Int)} {v : Nat → Int} {M : PH} {K : PV → PS → Prop} : pm_Run d 96 47 [vA 31] [] (GF X, M, PTF v) K ↔ pm_Call d 90 [vA 31] (GF X, M, PTF v) (fun r9 S1 => pm_Run d 96 51 [vA 31] (pm_push r9 []) S1 K) := by
  refine (px_go (by decide +kernel : pm_fe 96 47 = some (.aload_n 0, 1)) rfl).trans ?_
  refine (ry_v0 (idx := 239) (m' := 90) (ci := 6) (by decide +kernel : 31 < 283 ∧ SHF 31 = (6, 5)) (by simp [pm_wl_n, pm_wl_c, pm_w] : pm_wl [] ≤ 8) (by decide +kernel)).trans ?_
  exact Iff.rfl
theorem r96_51 {d : Nat} {X : Nat × (Nat → Int)} {v : Nat → Int} {M : PH} {K : PV → PS → Prop} {s0 : Int} (h1 : inR s0) : pm_Run d 96 51 [vA 31] [vI s0] (GF X, M, PTF v) K ↔ if s0 = 0 then pm_Run d 96 151 [vA 31] [] (GF X, M, PTF v) K else pm_Run d 96 54 [vA 31] [] (GF X, M, PTF v) K := by
  refine (ry_if_eq (off := 100) (tgt := 151) h1 (by decide +kernel)).trans ?_
  exact Iff.rfl
theorem r96_54 {d : Nat} {X : Nat × (Nat → Int)} {v : Nat → Int} {M : PH} {K : PV → PS → Prop} : pm_Run d 96 54 [vA 31] [] (GF X, M, PTF v) K ↔ pm_Call d 94 [vA 31] (GF X, M, PTF v) (fun r9 S1 => pm_Run d 96 58 [vA 31] (pm_push r9 []) S1 K) := by
  refine (px_go (by decide +kernel : pm_fe 96 54 = some (.aload_n 0, 1)) rfl).trans ?_
  refine (ry_v0 (idx := 139) (m' := 94) (ci := 6) (by decide +kernel : 31 < 283 ∧ SHF 31 = (6, 5)) (by simp [pm_wl_n, pm_wl_c, pm_w] : pm_wl [] ≤ 8) (by decide +kernel)).trans ?_
  exact Iff.rfl
theorem r96_58 {d : Nat} {X : Nat × (Nat → Int)} {v : Nat → Int} {M : PH} {K : PV → PS → Prop} : pm_Run d 96 58 [vA 31] [] (GF X, M, PTF v) K ↔ pm_Call d 74 [vA 31, vI 41] (GF X, M, PTF v) (fun r9 S1 => pm_Run d 96 64 [vA 31] (pm_push r9 []) S1 K) := by
  refine (px_go (by decide +kernel : pm_fe 96 58 = some (.aload_n 0, 1)) rfl).trans ?_
  refine (px_go (by decide +kernel : pm_fe 96 59 = some (.bipush 41, 2)) rfl).trans ?_
  refine (ry_v1 (idx := 62) (m' := 74) (ci := 6) (by decide +kernel : 31 < 283 ∧ SHF 31 = (6, 5)) (by simp [pm_wl_n, pm_wl_c, pm_w] : pm_wl [] ≤ 8) (by decide +kernel)).trans ?_
  exact Iff.rfl
theorem r96_64 {d : Nat} {X : Nat × (Nat → Int)} {v : Nat → Int} {M : PH} {K : PV → PS → Prop} : pm_Run d 96 64 [vA 31] [] (GF X, M, PTF v) K ↔ pm_Run d 96 151 [vA 31] [] (GF X, pm_sa M 31 (pm_up (M 31) 2 ((M 31 2) - 1)), PTF v) K := by
  refine (px_go (by decide +kernel : pm_fe 96 64 = some (.aload_n 0, 1)) rfl).trans ?_
  refine (px_go (by decide +kernel : pm_fe 96 65 = some (.dup, 1)) rfl).trans ?_
  refine (ry_get0 (idx := 35) (ci := 6) (k := 2) (by decide +kernel : 31 < 283 ∧ SHF 31 = (6, 5)) (by decide +kernel)).trans ?_
  refine (px_go (by decide +kernel : pm_fe 96 69 = some (.iconst 1, 1)) rfl).trans ?_
  refine (px_go (by decide +kernel : pm_fe 96 70 = some (.isub, 1)) rfl).trans ?_
  refine (ry_put0 (idx := 35) (ci := 6) (k := 2) (by decide +kernel : 31 < 283 ∧ SHF 31 = (6, 5)) (by decide +kernel)).trans ?_
  refine (px_goto (off := 77) (tgt := 151) (by decide +kernel)).trans ?_
  exact Iff.rfl
theorem r96_77 {d : Nat} {X : Nat × (Nat → Int)} {v : Nat → Int} {M : PH} {K : PV → PS → Prop} : pm_Run d 96 77 [vA 31] [] (GF X, M, PTF v) K ↔ pm_Call d 71 [vA 31, vI 27] (GF X, M, PTF v) (fun r9 S1 => pm_Run d 96 83 [vA 31] (pm_push r9 []) S1 K) := by
  refine (px_go (by decide +kernel : pm_fe 96 77 = some (.aload_n 0, 1)) rfl).trans ?_
  refine (px_go (by decide +kernel : pm_fe 96 78 = some (.bipush 27, 2)) rfl).trans ?_
  refine (ry_v1 (idx := 78) (m' := 71) (ci := 6) (by decide +kernel : 31 < 283 ∧ SHF 31 = (6, 5)) (by simp [pm_wl_n, pm_wl_c, pm_w] : pm_wl [] ≤ 8) (by decide +kernel)).trans ?_
  exact Iff.rfl
theorem r96_83 {d : Nat} {X : Nat × (Nat → Int)} {v : Nat → Int} {M : PH} {K : PV → PS → Prop} {s0 : Int} (h1 : inR s0) : pm_Run d 96 83 [vA 31] [vI s0] (GF X, M, PTF v) K ↔ if s0 ≠ 0 then pm_Run d 96 95 [vA 31] [] (GF X, M, PTF v) K else pm_Run d 96 86 [vA 31] [] (GF X, M, PTF v) K := by
  refine (ry_if_ne (off := 12) (tgt := 95) h1 (by decide +kernel)).trans ?_
  exact Iff.rfl
theorem r96_86 {d : Nat} {X : Nat × (Nat → Int)} {v : Nat → Int} {M : PH} {K : PV → PS → Prop} : pm_Run d 96 86 [vA 31] [] (GF X, M, PTF v) K ↔ pm_Call d 71 [vA 31, vI 28] (GF X, M, PTF v) (fun r9 S1 => pm_Run d 96 92 [vA 31] (pm_push r9 []) S1 K) := by
  refine (px_go (by decide +kernel : pm_fe 96 86 = some (.aload_n 0, 1)) rfl).trans ?_
  refine (px_go (by decide +kernel : pm_fe 96 87 = some (.bipush 28, 2)) rfl).trans ?_
  refine (ry_v1 (idx := 78) (m' := 71) (ci := 6) (by decide +kernel : 31 < 283 ∧ SHF 31 = (6, 5)) (by simp [pm_wl_n, pm_wl_c, pm_w] : pm_wl [] ≤ 8) (by decide +kernel)).trans ?_
  exact Iff.rfl
theorem r96_92 {d : Nat} {X : Nat × (Nat → Int)} {v : Nat → Int} {M : PH} {K : PV → PS → Prop} {s0 : Int} (h1 : inR s0) : pm_Run d 96 92 [vA 31] [vI s0] (GF X, M, PTF v) K ↔ if s0 = 0 then pm_Run d 96 109 [vA 31] [] (GF X, M, PTF v) K else pm_Run d 96 95 [vA 31] [] (GF X, M, PTF v) K := by
  refine (ry_if_eq (off := 17) (tgt := 109) h1 (by decide +kernel)).trans ?_
  exact Iff.rfl
theorem r96_95 {d : Nat} {X : Nat × (Nat → Int)} {v : Nat → Int} {M : PH} {K : PV → PS → Prop} : pm_Run d 96 95 [vA 31] [] (GF X, M, PTF v) K ↔ pm_Call d 97 [vA 31, vI (M 32 8)] (GF X, M, PTF v) (fun r9 S1 => pm_Run d 96 106 [vA 31] (pm_push r9 []) S1 K) := by
  refine (px_go (by decide +kernel : pm_fe 96 95 = some (.aload_n 0, 1)) rfl).trans ?_
  refine (px_go (by decide +kernel : pm_fe 96 96 = some (.aload_n 0, 1)) rfl).trans ?_
  refine (ry_get2 (idx := 12) (ci := 6) (k := 0) (by decide +kernel : 31 < 283 ∧ SHF 31 = (6, 5)) (ptf_l (a := 31) (k := 0) (n := 32) (by decide +kernel)) (by decide +kernel)).trans ?_
  refine (ry_get0 (idx := 69) (ci := 4) (k := 8) (by decide +kernel : 32 < 283 ∧ SHF 32 = (4, 9)) (by decide +kernel)).trans ?_
  refine (ry_v1 (idx := 248) (m' := 97) (ci := 6) (by decide +kernel : 31 < 283 ∧ SHF 31 = (6, 5)) (by simp [pm_wl_n, pm_wl_c, pm_w] : pm_wl [] ≤ 8) (by decide +kernel)).trans ?_
  exact Iff.rfl
theorem r96_106 {d : Nat} {X : Nat × (Nat → Int)} {v : Nat → Int} {M : PH} {K : PV → PS → Prop} : pm_Run d 96 106 [vA 31] [] (GF X, M, PTF v) K ↔ pm_Run d 96 151 [vA 31] [] (GF X, M, PTF v) K := by
  refine (px_goto (off := 45) (tgt := 151) (by decide +kernel)).trans ?_
  exact Iff.rfl
theorem r96_109 {d : Nat} {X : Nat × (Nat → Int)} {v : Nat → Int} {M : PH} {K : PV → PS → Prop} : pm_Run d 96 109 [vA 31] [] (GF X, M, PTF v) K ↔ pm_Call d 98 [vA 31] (GF X, M, PTF v) (fun r9 S1 => pm_Run d 96 113 [vA 31] (pm_push r9 []) S1 K) := by
  refine (px_go (by decide +kernel : pm_fe 96 109 = some (.aload_n 0, 1)) rfl).trans ?_
  refine (ry_v0 (idx := 251) (m' := 98) (ci := 6) (by decide +kernel : 31 < 283 ∧ SHF 31 = (6, 5)) (by simp [pm_wl_n, pm_wl_c, pm_w] : pm_wl [] ≤ 8) (by decide +kernel)).trans ?_
  exact Iff.rfl
theorem r96_113 {d : Nat} {X : Nat × (Nat → Int)} {v : Nat → Int} {M : PH} {K : PV → PS → Prop} {s0 : Int} (h1 : inR s0) : pm_Run d 96 113 [vA 31] [vI s0] (GF X, M, PTF v) K ↔ if s0 = 0 then pm_Run d 96 147 [vA 31] [] (GF X, M, PTF v) K else pm_Run d 96 116 [vA 31] [] (GF X, M, PTF v) K := by
  refine (ry_if_eq (off := 34) (tgt := 147) h1 (by decide +kernel)).trans ?_
  exact Iff.rfl
theorem r96_116 {d : Nat} {c : Nat} {X : Nat × (Nat → Int)} {v : Nat → Int} {M : PH} {K : PV → PS → Prop} (hc : isCh c) (hv1 : v 1 = ((c : Nat) : Int)) : pm_Run d 96 116 [vA 31] [] (GF X, M, PTF v) K ↔ pm_Call d 43 [vA (c + 15), vI (10000 + (M 32 8))] (GF X, M, PTF v) (fun r9 S1 => pm_Run d 96 137 [vA 31] (pm_push r9 []) S1 K) := by
  refine (px_go (by decide +kernel : pm_fe 96 116 = some (.aload_n 0, 1)) rfl).trans ?_
  refine (ry_get2 (idx := 21) (ci := 6) (k := 1) (by decide +kernel : 31 < 283 ∧ SHF 31 = (6, 5)) (ptd1 hv1) (by decide +kernel)).trans ?_
  refine (ry_get2 (idx := 127) (ci := 1) (k := 17) (chs0 hc) (chp0_17 hc) (by decide +kernel)).trans ?_
  refine (px_go (by decide +kernel : pm_fe 96 123 = some (.sipush 10000, 3)) rfl).trans ?_
  refine (px_go (by decide +kernel : pm_fe 96 126 = some (.aload_n 0, 1)) rfl).trans ?_
  refine (ry_get2 (idx := 12) (ci := 6) (k := 0) (by decide +kernel : 31 < 283 ∧ SHF 31 = (6, 5)) (ptf_l (a := 31) (k := 0) (n := 32) (by decide +kernel)) (by decide +kernel)).trans ?_
  refine (ry_get0 (idx := 69) (ci := 4) (k := 8) (by decide +kernel : 32 < 283 ∧ SHF 32 = (4, 9)) (by decide +kernel)).trans ?_
  refine (px_go (by decide +kernel : pm_fe 96 133 = some (.iadd, 1)) rfl).trans ?_
  refine (ry_v1 (idx := 227) (m' := 43) (ci := 3) (chs15 hc) (by simp [pm_wl_n, pm_wl_c, pm_w] : pm_wl [] ≤ 8) (by decide +kernel)).trans ?_
  exact Iff.rfl
theorem r96_137 {d : Nat} {X : Nat × (Nat → Int)} {v : Nat → Int} {M : PH} {K : PV → PS → Prop} : pm_Run d 96 137 [vA 31] [] (GF X, M, PTF v) K ↔ pm_Call d 51 [vA 32] (GF X, M, PTF v) (fun r9 S1 => pm_Run d 96 144 [vA 31] (pm_push r9 []) S1 K) := by
  refine (px_go (by decide +kernel : pm_fe 96 137 = some (.aload_n 0, 1)) rfl).trans ?_
  refine (ry_get2 (idx := 12) (ci := 6) (k := 0) (by decide +kernel : 31 < 283 ∧ SHF 31 = (6, 5)) (ptf_l (a := 31) (k := 0) (n := 32) (by decide +kernel)) (by decide +kernel)).trans ?_
  refine (ry_v0 (idx := 42) (m' := 51) (ci := 4) (by decide +kernel : 32 < 283 ∧ SHF 32 = (4, 9)) (by simp [pm_wl_n, pm_wl_c, pm_w] : pm_wl [] ≤ 8) (by decide +kernel)).trans ?_
  exact Iff.rfl
theorem r96_144 {d : Nat} {X : Nat × (Nat → Int)} {v : Nat → Int} {M : PH} {K : PV → PS → Prop} : pm_Run d 96 144 [vA 31] [] (GF X, M, PTF v) K ↔ pm_Run d 96 151 [vA 31] [] (GF X, M, PTF v) K := by
  refine (px_goto (off := 7) (tgt := 151) (by decide +kernel)).trans ?_
  exact Iff.rfl
theorem r96_147 {d : Nat} {X : Nat × (Nat → Int)} {v : Nat → Int} {M : PH} {K : PV → PS → Prop} : pm_Run d 96 147 [vA 31] [] (GF X, M, PTF v) K ↔ pm_Call d 70 [vA 31] (GF X, M, PTF v) (fun r9 S1 => pm_Run d 96 151 [vA 31] (pm_push r9 []) S1 K) := by
  refine (px_go (by decide +kernel : pm_fe 96 147 = some (.aload_n 0, 1)) rfl).trans ?_
  refine (ry_v0 (idx := 48) (m' := 70) (ci := 6) (by decide +kernel : 31 < 283 ∧ SHF 31 = (6, 5)) (by simp [pm_wl_n, pm_wl_c, pm_w] : pm_wl [] ≤ 8) (by decide +kernel)).trans ?_
  exact Iff.rfl
theorem r96_151 {d : Nat} {X : Nat × (Nat → Int)} {v : Nat → Int} {M : PH} {K : PV → PS → Prop} : pm_Run d 96 151 [vA 31] [] (GF X, M, PTF v) K ↔ K PU (GF X, M, PTF v) := by
  refine (px_rv (by decide +kernel)).trans ?_
  exact Iff.rfl
-- X6_ofTwo ofTwo(I)V
theorem r97_0 {d : Nat} {X : Nat × (Nat → Int)} {v : Nat → Int} {M : PH} {K : PV → PS → Prop} {l1 : Int} : pm_Run d 97 0 [vA 31, vI l1] [] (GF X, M, PTF v) K ↔ pm_Call d 51 [vA 32] (GF X, M, PTF v) (fun r9 S1 => pm_Run d 97 7 [vA 31, vI l1] (pm_push r9 []) S1 K) := by
  refine (px_go (by decide +kernel : pm_fe 97 0 = some (.aload_n 0, 1)) rfl).trans ?_
  refine (ry_get2 (idx := 12) (ci := 6) (k := 0) (by decide +kernel : 31 < 283 ∧ SHF 31 = (6, 5)) (ptf_l (a := 31) (k := 0) (n := 32) (by decide +kernel)) (by decide +kernel)).trans ?_
  refine (ry_v0 (idx := 42) (m' := 51) (ci := 4) (by decide +kernel : 32 < 283 ∧ SHF 32 = (4, 9)) (by simp [pm_wl_n, pm_wl_c, pm_w] : pm_wl [] ≤ 8) (by decide +kernel)).trans ?_
  exact Iff.rfl
theorem r97_7 {d : Nat} {X : Nat × (Nat → Int)} {v : Nat → Int} {M : PH} {K : PV → PS → Prop} {l1 : Int} : pm_Run d 97 7 [vA 31, vI l1] [] (GF X, M, PTF v) K ↔ pm_Call d 72 [vA 31, vI 40] (GF X, M, PTF v) (fun r9 S1 => pm_Run d 97 13 [vA 31, vI l1] (pm_push r9 []) S1 K) := by
  refine (px_go (by decide +kernel : pm_fe 97 7 = some (.aload_n 0, 1)) rfl).trans ?_
  refine (px_go (by decide +kernel : pm_fe 97 8 = some (.bipush 40, 2)) rfl).trans ?_
  refine (ry_v1 (idx := 82) (m' := 72) (ci := 6) (by decide +kernel : 31 < 283 ∧ SHF 31 = (6, 5)) (by simp [pm_wl_n, pm_wl_c, pm_w] : pm_wl [] ≤ 8) (by decide +kernel)).trans ?_
  exact Iff.rfl
theorem r97_13 {d : Nat} {X : Nat × (Nat → Int)} {v : Nat → Int} {M : PH} {K : PV → PS → Prop} {l1 s0 : Int} (h1 : inR s0) : pm_Run d 97 13 [vA 31, vI l1] [vI s0] (GF X, M, PTF v) K ↔ if s0 ≠ 0 then pm_Run d 97 23 [vA 31, vI l1] [] (GF X, M, PTF v) K else pm_Run d 97 16 [vA 31, vI l1] [] (GF X, M, PTF v) K := by
  refine (ry_if_ne (off := 10) (tgt := 23) h1 (by decide +kernel)).trans ?_
  exact Iff.rfl
theorem r97_16 {d : Nat} {X : Nat × (Nat → Int)} {v : Nat → Int} {M : PH} {K : PV → PS → Prop} {l1 : Int} : pm_Run d 97 16 [vA 31, vI l1] [] (GF X, M, PTF v) K ↔ pm_Call d 70 [vA 31] (GF X, M, PTF v) (fun r9 S1 => pm_Run d 97 20 [vA 31, vI l1] (pm_push r9 []) S1 K) := by
  refine (px_go (by decide +kernel : pm_fe 97 16 = some (.aload_n 0, 1)) rfl).trans ?_
  refine (ry_v0 (idx := 48) (m' := 70) (ci := 6) (by decide +kernel : 31 < 283 ∧ SHF 31 = (6, 5)) (by simp [pm_wl_n, pm_wl_c, pm_w] : pm_wl [] ≤ 8) (by decide +kernel)).trans ?_
  exact Iff.rfl
theorem r97_20 {d : Nat} {X : Nat × (Nat → Int)} {v : Nat → Int} {M : PH} {K : PV → PS → Prop} {l1 : Int} : pm_Run d 97 20 [vA 31, vI l1] [] (GF X, M, PTF v) K ↔ pm_Run d 97 65 [vA 31, vI l1] [] (GF X, M, PTF v) K := by
  refine (px_goto (off := 45) (tgt := 65) (by decide +kernel)).trans ?_
  exact Iff.rfl
theorem r97_23 {d : Nat} {X : Nat × (Nat → Int)} {v : Nat → Int} {M : PH} {K : PV → PS → Prop} {l1 : Int} : pm_Run d 97 23 [vA 31, vI l1] [] (GF X, M, PTF v) K ↔ pm_Call d 90 [vA 31] (GF X, M, PTF v) (fun r9 S1 => pm_Run d 97 27 [vA 31, vI l1] (pm_push r9 []) S1 K) := by
  refine (px_go (by decide +kernel : pm_fe 97 23 = some (.aload_n 0, 1)) rfl).trans ?_
  refine (ry_v0 (idx := 239) (m' := 90) (ci := 6) (by decide +kernel : 31 < 283 ∧ SHF 31 = (6, 5)) (by simp [pm_wl_n, pm_wl_c, pm_w] : pm_wl [] ≤ 8) (by decide +kernel)).trans ?_
  exact Iff.rfl
theorem r97_27 {d : Nat} {X : Nat × (Nat → Int)} {v : Nat → Int} {M : PH} {K : PV → PS → Prop} {l1 s0 : Int} (h1 : inR s0) : pm_Run d 97 27 [vA 31, vI l1] [vI s0] (GF X, M, PTF v) K ↔ if s0 = 0 then pm_Run d 97 65 [vA 31, vI l1] [] (GF X, M, PTF v) K else pm_Run d 97 30 [vA 31, vI l1] [] (GF X, M, PTF v) K := by
  refine (ry_if_eq (off := 38) (tgt := 65) h1 (by decide +kernel)).trans ?_
  exact Iff.rfl
theorem r97_30 {d : Nat} {X : Nat × (Nat → Int)} {v : Nat → Int} {M : PH} {K : PV → PS → Prop} {l1 : Int} : pm_Run d 97 30 [vA 31, vI l1] [] (GF X, M, PTF v) K ↔ pm_Call d 94 [vA 31] (GF X, M, PTF v) (fun r9 S1 => pm_Run d 97 34 [vA 31, vI l1] (pm_push r9 []) S1 K) := by
  refine (px_go (by decide +kernel : pm_fe 97 30 = some (.aload_n 0, 1)) rfl).trans ?_
  refine (ry_v0 (idx := 139) (m' := 94) (ci := 6) (by decide +kernel : 31 < 283 ∧ SHF 31 = (6, 5)) (by simp [pm_wl_n, pm_wl_c, pm_w] : pm_wl [] ≤ 8) (by decide +kernel)).trans ?_
  exact Iff.rfl
theorem r97_34 {d : Nat} {X : Nat × (Nat → Int)} {v : Nat → Int} {M : PH} {K : PV → PS → Prop} {l1 : Int} : pm_Run d 97 34 [vA 31, vI l1] [] (GF X, M, PTF v) K ↔ pm_Call d 74 [vA 31, vI 44] (GF X, M, PTF v) (fun r9 S1 => pm_Run d 97 40 [vA 31, vI l1] (pm_push r9 []) S1 K) := by
  refine (px_go (by decide +kernel : pm_fe 97 34 = some (.aload_n 0, 1)) rfl).trans ?_
  refine (px_go (by decide +kernel : pm_fe 97 35 = some (.bipush 44, 2)) rfl).trans ?_
  refine (ry_v1 (idx := 62) (m' := 74) (ci := 6) (by decide +kernel : 31 < 283 ∧ SHF 31 = (6, 5)) (by simp [pm_wl_n, pm_wl_c, pm_w] : pm_wl [] ≤ 8) (by decide +kernel)).trans ?_
  exact Iff.rfl
theorem r97_40 {d : Nat} {X : Nat × (Nat → Int)} {v : Nat → Int} {M : PH} {K : PV → PS → Prop} {l1 : Int} : pm_Run d 97 40 [vA 31, vI l1] [] (GF X, M, PTF v) K ↔ pm_Call d 94 [vA 31] (GF X, M, PTF v) (fun r9 S1 => pm_Run d 97 44 [vA 31, vI l1] (pm_push r9 []) S1 K) := by
  refine (px_go (by decide +kernel : pm_fe 97 40 = some (.aload_n 0, 1)) rfl).trans ?_
  refine (ry_v0 (idx := 139) (m' := 94) (ci := 6) (by decide +kernel : 31 < 283 ∧ SHF 31 = (6, 5)) (by simp [pm_wl_n, pm_wl_c, pm_w] : pm_wl [] ≤ 8) (by decide +kernel)).trans ?_
  exact Iff.rfl
theorem r97_44 {d : Nat} {X : Nat × (Nat → Int)} {v : Nat → Int} {M : PH} {K : PV → PS → Prop} {l1 : Int} : pm_Run d 97 44 [vA 31, vI l1] [] (GF X, M, PTF v) K ↔ pm_Call d 74 [vA 31, vI 41] (GF X, M, PTF v) (fun r9 S1 => pm_Run d 97 50 [vA 31, vI l1] (pm_push r9 []) S1 K) := by
  refine (px_go (by decide +kernel : pm_fe 97 44 = some (.aload_n 0, 1)) rfl).trans ?_
  refine (px_go (by decide +kernel : pm_fe 97 45 = some (.bipush 41, 2)) rfl).trans ?_
  refine (ry_v1 (idx := 62) (m' := 74) (ci := 6) (by decide +kernel : 31 < 283 ∧ SHF 31 = (6, 5)) (by simp [pm_wl_n, pm_wl_c, pm_w] : pm_wl [] ≤ 8) (by decide +kernel)).trans ?_
  exact Iff.rfl
theorem r97_50 {d : Nat} {X : Nat × (Nat → Int)} {v : Nat → Int} {M : PH} {K : PV → PS → Prop} {l1 : Int} : pm_Run d 97 50 [vA 31, vI l1] [] (GF X, M, PTF v) K ↔ pm_Run d 97 60 [vA 31, vI l1] [] (GF X, pm_sa M 31 (pm_up (M 31) 2 ((M 31 2) - 1)), PTF v) K := by
  refine (px_go (by decide +kernel : pm_fe 97 50 = some (.aload_n 0, 1)) rfl).trans ?_
  refine (px_go (by decide +kernel : pm_fe 97 51 = some (.dup, 1)) rfl).trans ?_
  refine (ry_get0 (idx := 35) (ci := 6) (k := 2) (by decide +kernel : 31 < 283 ∧ SHF 31 = (6, 5)) (by decide +kernel)).trans ?_
  refine (px_go (by decide +kernel : pm_fe 97 55 = some (.iconst 1, 1)) rfl).trans ?_
  refine (px_go (by decide +kernel : pm_fe 97 56 = some (.isub, 1)) rfl).trans ?_
  refine (ry_put0 (idx := 35) (ci := 6) (k := 2) (by decide +kernel : 31 < 283 ∧ SHF 31 = (6, 5)) (by decide +kernel)).trans ?_
  exact Iff.rfl
theorem r97_60 {d : Nat} {X : Nat × (Nat → Int)} {v : Nat → Int} {M : PH} {K : PV → PS → Prop} {l1 : Int} : pm_Run d 97 60 [vA 31, vI l1] [] (GF X, M, PTF v) K ↔ pm_Call d 89 [vA 31, vI l1] (GF X, M, PTF v) (fun r9 S1 => pm_Run d 97 65 [vA 31, vI l1] (pm_push r9 []) S1 K) := by
  refine (px_go (by decide +kernel : pm_fe 97 60 = some (.aload_n 0, 1)) rfl).trans ?_
  refine (px_go (by decide +kernel : pm_fe 97 61 = some (.iload_n 1, 1)) rfl).trans ?_
  refine (ry_v1 (idx := 233) (m' := 89) (ci := 6) (by decide +kernel : 31 < 283 ∧ SHF 31 = (6, 5)) (by simp [pm_wl_n, pm_wl_c, pm_w] : pm_wl [] ≤ 8) (by decide +kernel)).trans ?_
  exact Iff.rfl
theorem r97_65 {d : Nat} {X : Nat × (Nat → Int)} {v : Nat → Int} {M : PH} {K : PV → PS → Prop} {l1 : Int} : pm_Run d 97 65 [vA 31, vI l1] [] (GF X, M, PTF v) K ↔ K PU (GF X, M, PTF v) := by
  refine (px_rv (by decide +kernel)).trans ?_
  exact Iff.rfl
-- X6_isValueWord isValueWord()Z
theorem r98_0 {d : Nat} {X : Nat × (Nat → Int)} {v : Nat → Int} {M : PH} {K : PV → PS → Prop} (h1 : inR (M 32 4)) : pm_Run d 98 0 [vA 31, PU] [] (GF X, M, PTF v) K ↔ if M 32 4 ≠ 1 then pm_Run d 98 52 [vA 31, vI (M 32 8)] [] (GF X, M, PTF v) K else pm_Run d 98 19 [vA 31, vI (M 32 8)] [] (GF X, M, PTF v) K := by
  refine (px_go (by decide +kernel : pm_fe 98 0 = some (.aload_n 0, 1)) rfl).trans ?_
  refine (ry_get2 (idx := 12) (ci := 6) (k := 0) (by decide +kernel : 31 < 283 ∧ SHF 31 = (6, 5)) (ptf_l (a := 31) (k := 0) (n := 32) (by decide +kernel)) (by decide +kernel)).trans ?_
  refine (ry_get0 (idx := 69) (ci := 4) (k := 8) (by decide +kernel : 32 < 283 ∧ SHF 32 = (4, 9)) (by decide +kernel)).trans ?_
  refine (px_go (by decide +kernel : pm_fe 98 7 = some (.istore_n 1, 1)) rfl).trans ?_
  refine (px_go (by decide +kernel : pm_fe 98 8 = some (.aload_n 0, 1)) rfl).trans ?_
  refine (ry_get2 (idx := 12) (ci := 6) (k := 0) (by decide +kernel : 31 < 283 ∧ SHF 31 = (6, 5)) (ptf_l (a := 31) (k := 0) (n := 32) (by decide +kernel)) (by decide +kernel)).trans ?_
  refine (ry_get0 (idx := 45) (ci := 4) (k := 4) (by decide +kernel : 32 < 283 ∧ SHF 32 = (4, 9)) (by decide +kernel)).trans ?_
  refine (px_go (by decide +kernel : pm_fe 98 15 = some (.iconst 1, 1)) rfl).trans ?_
  refine (ry_ic_ne (off := 36) (tgt := 52) h1 (by decide : (-2147483648 ≤ (1 : Int) ∧ (1 : Int) < 2147483648)) (by decide +kernel)).trans ?_
  exact Iff.rfl
theorem r98_19 {d : Nat} {X : Nat × (Nat → Int)} {v : Nat → Int} {M : PH} {K : PV → PS → Prop} {l1 : Int} (h1 : inR l1) : pm_Run d 98 19 [vA 31, vI l1] [] (GF X, M, PTF v) K ↔ if l1 < 15 then pm_Run d 98 31 [vA 31, vI l1] [] (GF X, M, PTF v) K else pm_Run d 98 25 [vA 31, vI l1] [] (GF X, M, PTF v) K := by
  refine (px_go (by decide +kernel : pm_fe 98 19 = some (.iload_n 1, 1)) rfl).trans ?_
  refine (px_go (by decide +kernel : pm_fe 98 20 = some (.bipush 15, 2)) rfl).trans ?_
  refine (ry_ic_lt (off := 9) (tgt := 31) h1 (by decide : (-2147483648 ≤ (15 : Int) ∧ (15 : Int) < 2147483648)) (by decide +kernel)).trans ?_
  exact Iff.rfl
theorem r98_25 {d : Nat} {X : Nat × (Nat → Int)} {v : Nat → Int} {M : PH} {K : PV → PS → Prop} {l1 : Int} (h1 : inR l1) : pm_Run d 98 25 [vA 31, vI l1] [] (GF X, M, PTF v) K ↔ if l1 ≤ 22 then pm_Run d 98 48 [vA 31, vI l1] [] (GF X, M, PTF v) K else pm_Run d 98 31 [vA 31, vI l1] [] (GF X, M, PTF v) K := by
  refine (px_go (by decide +kernel : pm_fe 98 25 = some (.iload_n 1, 1)) rfl).trans ?_
  refine (px_go (by decide +kernel : pm_fe 98 26 = some (.bipush 22, 2)) rfl).trans ?_
  refine (ry_ic_le (off := 20) (tgt := 48) h1 (by decide : (-2147483648 ≤ (22 : Int) ∧ (22 : Int) < 2147483648)) (by decide +kernel)).trans ?_
  exact Iff.rfl
theorem r98_31 {d : Nat} {X : Nat × (Nat → Int)} {v : Nat → Int} {M : PH} {K : PV → PS → Prop} {l1 : Int} (h1 : inR l1) : pm_Run d 98 31 [vA 31, vI l1] [] (GF X, M, PTF v) K ↔ if l1 = 7 then pm_Run d 98 48 [vA 31, vI l1] [] (GF X, M, PTF v) K else pm_Run d 98 37 [vA 31, vI l1] [] (GF X, M, PTF v) K := by
  refine (px_go (by decide +kernel : pm_fe 98 31 = some (.iload_n 1, 1)) rfl).trans ?_
  refine (px_go (by decide +kernel : pm_fe 98 32 = some (.bipush 7, 2)) rfl).trans ?_
  refine (ry_ic_eq (off := 14) (tgt := 48) h1 (by decide : (-2147483648 ≤ (7 : Int) ∧ (7 : Int) < 2147483648)) (by decide +kernel)).trans ?_
  exact Iff.rfl
theorem r98_37 {d : Nat} {X : Nat × (Nat → Int)} {v : Nat → Int} {M : PH} {K : PV → PS → Prop} {l1 : Int} (h1 : inR l1) : pm_Run d 98 37 [vA 31, vI l1] [] (GF X, M, PTF v) K ↔ if l1 = 6 then pm_Run d 98 48 [vA 31, vI l1] [] (GF X, M, PTF v) K else pm_Run d 98 43 [vA 31, vI l1] [] (GF X, M, PTF v) K := by
  refine (px_go (by decide +kernel : pm_fe 98 37 = some (.iload_n 1, 1)) rfl).trans ?_
  refine (px_go (by decide +kernel : pm_fe 98 38 = some (.bipush 6, 2)) rfl).trans ?_
  refine (ry_ic_eq (off := 8) (tgt := 48) h1 (by decide : (-2147483648 ≤ (6 : Int) ∧ (6 : Int) < 2147483648)) (by decide +kernel)).trans ?_
  exact Iff.rfl
theorem r98_43 {d : Nat} {X : Nat × (Nat → Int)} {v : Nat → Int} {M : PH} {K : PV → PS → Prop} {l1 : Int} (h1 : inR l1) : pm_Run d 98 43 [vA 31, vI l1] [] (GF X, M, PTF v) K ↔ if l1 ≠ 4 then pm_Run d 98 52 [vA 31, vI l1] [] (GF X, M, PTF v) K else pm_Run d 98 48 [vA 31, vI l1] [] (GF X, M, PTF v) K := by
  refine (px_go (by decide +kernel : pm_fe 98 43 = some (.iload_n 1, 1)) rfl).trans ?_
  refine (px_go (by decide +kernel : pm_fe 98 44 = some (.iconst 4, 1)) rfl).trans ?_
  refine (ry_ic_ne (off := 7) (tgt := 52) h1 (by decide : (-2147483648 ≤ (4 : Int) ∧ (4 : Int) < 2147483648)) (by decide +kernel)).trans ?_
  exact Iff.rfl
theorem r98_48 {d : Nat} {X : Nat × (Nat → Int)} {v : Nat → Int} {M : PH} {K : PV → PS → Prop} {l1 : Int} : pm_Run d 98 48 [vA 31, vI l1] [] (GF X, M, PTF v) K ↔ pm_Run d 98 53 [vA 31, vI l1] [vI 1] (GF X, M, PTF v) K := by
  refine (px_go (by decide +kernel : pm_fe 98 48 = some (.iconst 1, 1)) rfl).trans ?_
  refine (px_goto (off := 4) (tgt := 53) (by decide +kernel)).trans ?_
  exact Iff.rfl
theorem r98_52 {d : Nat} {X : Nat × (Nat → Int)} {v : Nat → Int} {M : PH} {K : PV → PS → Prop} {l1 : Int} : pm_Run d 98 52 [vA 31, vI l1] [] (GF X, M, PTF v) K ↔ pm_Run d 98 53 [vA 31, vI l1] [vI 0] (GF X, M, PTF v) K := by
  refine (px_go (by decide +kernel : pm_fe 98 52 = some (.iconst 0, 1)) rfl).trans ?_
  exact Iff.rfl
theorem r98_53 {d : Nat} {X : Nat × (Nat → Int)} {v : Nat → Int} {M : PH} {K : PV → PS → Prop} {l1 s0 : Int} (h1 : s0 = 0 ∨ s0 = 1) : pm_Run d 98 53 [vA 31, vI l1] [vI s0] (GF X, M, PTF v) K ↔ K (vI s0) (GF X, M, PTF v) := by
  refine (px_rz (by decide +kernel)).trans ((and_iff_right h1).trans ?_)
  exact Iff.rfl
