-- X4_advance advance()V
theorem r51_0 {d : Nat} {X : Nat × (Nat → Int)} {v : Nat → Int} {M : PH} {K : PV → PS → Prop} (h1 : inR (M 32 4)) : pm_Run d 51 0 [vA 32, PU, PU] [] (GF X, M, PTF v) K ↔ if M 32 4 = 1 then pm_Run d 51 16 [vA 32, PU, PU] [] (GF X, M, PTF v) K else pm_Run d 51 8 [vA 32, PU, PU] [] (GF X, M, PTF v) K := by
  refine (px_go (by decide +kernel : pm_fe 51 0 = some (.aload_n 0, 1)) rfl).trans ?_
  refine (ry_get0 (idx := 44) (ci := 4) (k := 4) (by decide +kernel : 32 < 283 ∧ SHF 32 = (4, 9)) (by decide +kernel)).trans ?_
  refine (px_go (by decide +kernel : pm_fe 51 4 = some (.iconst 1, 1)) rfl).trans ?_
  refine (ry_ic_eq (off := 11) (tgt := 16) h1 (by decide : (-2147483648 ≤ (1 : Int) ∧ (1 : Int) < 2147483648)) (by decide +kernel)).trans ?_
  exact Iff.rfl
theorem r51_8 {d : Nat} {X : Nat × (Nat → Int)} {v : Nat → Int} {M : PH} {K : PV → PS → Prop} (h1 : inR (M 32 4)) : pm_Run d 51 8 [vA 32, PU, PU] [] (GF X, M, PTF v) K ↔ if M 32 4 ≠ 2 then pm_Run d 51 23 [vA 32, PU, PU] [] (GF X, M, PTF v) K else pm_Run d 51 16 [vA 32, PU, PU] [] (GF X, M, PTF v) K := by
  refine (px_go (by decide +kernel : pm_fe 51 8 = some (.aload_n 0, 1)) rfl).trans ?_
  refine (ry_get0 (idx := 44) (ci := 4) (k := 4) (by decide +kernel : 32 < 283 ∧ SHF 32 = (4, 9)) (by decide +kernel)).trans ?_
  refine (px_go (by decide +kernel : pm_fe 51 12 = some (.iconst 2, 1)) rfl).trans ?_
  refine (ry_ic_ne (off := 10) (tgt := 23) h1 (by decide : (-2147483648 ≤ (2 : Int) ∧ (2 : Int) < 2147483648)) (by decide +kernel)).trans ?_
  exact Iff.rfl
theorem r51_16 {d : Nat} {X : Nat × (Nat → Int)} {v : Nat → Int} {M : PH} {K : PV → PS → Prop} : pm_Run d 51 16 [vA 32, PU, PU] [] (GF X, M, PTF v) K ↔ pm_Run d 51 24 [vA 32, PU, PU] [vI (M 32 3)] (GF X, M, PTF v) K := by
  refine (px_go (by decide +kernel : pm_fe 51 16 = some (.aload_n 0, 1)) rfl).trans ?_
  refine (ry_get0 (idx := 41) (ci := 4) (k := 3) (by decide +kernel : 32 < 283 ∧ SHF 32 = (4, 9)) (by decide +kernel)).trans ?_
  refine (px_goto (off := 4) (tgt := 24) (by decide +kernel)).trans ?_
  exact Iff.rfl
theorem r51_23 {d : Nat} {X : Nat × (Nat → Int)} {v : Nat → Int} {M : PH} {K : PV → PS → Prop} : pm_Run d 51 23 [vA 32, PU, PU] [] (GF X, M, PTF v) K ↔ pm_Run d 51 24 [vA 32, PU, PU] [vI (-1)] (GF X, M, PTF v) K := by
  refine (px_go (by decide +kernel : pm_fe 51 23 = some (.iconst (-1), 1)) rfl).trans ?_
  exact Iff.rfl
theorem r51_24 {d : Nat} {X : Nat × (Nat → Int)} {v : Nat → Int} {M : PH} {K : PV → PS → Prop} {s0 : Int} : pm_Run d 51 24 [vA 32, PU, PU] [vI s0] (GF X, M, PTF v) K ↔ pm_Run d 51 25 [vA 32, vI s0, PU] [] (GF X, M, PTF v) K := by
  refine (px_go (by decide +kernel : pm_fe 51 24 = some (.istore_n 1, 1)) rfl).trans ?_
  exact Iff.rfl
theorem r51_25 {d : Nat} {X : Nat × (Nat → Int)} {v : Nat → Int} {M : PH} {K : PV → PS → Prop} {l1 : Int} (h1 : inR (M 32 3)) (h2 : inR (M 32 2)) : pm_Run d 51 25 [vA 32, vI l1, PU] [] (GF X, M, PTF v) K ↔ if M 32 2 ≤ M 32 3 then pm_Run d 51 77 [vA 32, vI l1, PU] [] (GF X, M, PTF v) K else pm_Run d 51 36 [vA 32, vI l1, PU] [] (GF X, M, PTF v) K := by
  refine (px_go (by decide +kernel : pm_fe 51 25 = some (.aload_n 0, 1)) rfl).trans ?_
  refine (ry_get0 (idx := 41) (ci := 4) (k := 3) (by decide +kernel : 32 < 283 ∧ SHF 32 = (4, 9)) (by decide +kernel)).trans ?_
  refine (px_go (by decide +kernel : pm_fe 51 29 = some (.aload_n 0, 1)) rfl).trans ?_
  refine (ry_get0 (idx := 37) (ci := 4) (k := 2) (by decide +kernel : 32 < 283 ∧ SHF 32 = (4, 9)) (by decide +kernel)).trans ?_
  refine (ry_ic_ge (off := 44) (tgt := 77) h1 h2 (by decide +kernel)).trans ?_
  exact Iff.rfl
theorem r51_36 {d : Nat} {X : Nat × (Nat → Int)} {v : Nat → Int} {M : PH} {K : PV → PS → Prop} {l1 : Int} (hv5 : v 5 = ((1 : Nat) : Int)) (h1 : 0 ≤ (M 32 3)) (h2 : (M 32 3) < 1600) (h3 : inR (M 1 (M 32 3).toNat)) : pm_Run d 51 36 [vA 32, vI l1, PU] [] (GF X, M, PTF v) K ↔ if M 1 (M 32 3).toNat = 10 then pm_Run d 51 64 [vA 32, vI l1, PU] [] (GF X, M, PTF v) K else pm_Run d 51 50 [vA 32, vI l1, PU] [] (GF X, M, PTF v) K := by
  refine (px_go (by decide +kernel : pm_fe 51 36 = some (.aload_n 0, 1)) rfl).trans ?_
  refine (ry_get2 (idx := 15) (ci := 4) (k := 1) (by decide +kernel : 32 < 283 ∧ SHF 32 = (4, 9)) (ptd5 hv5) (by decide +kernel)).trans ?_
  refine (px_go (by decide +kernel : pm_fe 51 40 = some (.aload_n 0, 1)) rfl).trans ?_
  refine (ry_get0 (idx := 41) (ci := 4) (k := 3) (by decide +kernel : 32 < 283 ∧ SHF 32 = (4, 9)) (by decide +kernel)).trans ?_
  refine (ry_bald (by decide +kernel : 1 < 283 ∧ SHF 1 = (101, 1600)) h1 h2 (by decide +kernel)).trans ?_
  refine (px_go (by decide +kernel : pm_fe 51 45 = some (.bipush 10, 2)) rfl).trans ?_
  refine (ry_ic_eq (off := 17) (tgt := 64) h3 (by decide : (-2147483648 ≤ (10 : Int) ∧ (10 : Int) < 2147483648)) (by decide +kernel)).trans ?_
  exact Iff.rfl
theorem r51_50 {d : Nat} {X : Nat × (Nat → Int)} {v : Nat → Int} {M : PH} {K : PV → PS → Prop} {l1 : Int} (hv5 : v 5 = ((1 : Nat) : Int)) (h1 : 0 ≤ (M 32 3)) (h2 : (M 32 3) < 1600) (h3 : inR (M 1 (M 32 3).toNat)) : pm_Run d 51 50 [vA 32, vI l1, PU] [] (GF X, M, PTF v) K ↔ if M 1 (M 32 3).toNat ≠ 32 then pm_Run d 51 77 [vA 32, vI l1, PU] [] (GF X, M, PTF v) K else pm_Run d 51 64 [vA 32, vI l1, PU] [] (GF X, M, PTF v) K := by
  refine (px_go (by decide +kernel : pm_fe 51 50 = some (.aload_n 0, 1)) rfl).trans ?_
  refine (ry_get2 (idx := 15) (ci := 4) (k := 1) (by decide +kernel : 32 < 283 ∧ SHF 32 = (4, 9)) (ptd5 hv5) (by decide +kernel)).trans ?_
  refine (px_go (by decide +kernel : pm_fe 51 54 = some (.aload_n 0, 1)) rfl).trans ?_
  refine (ry_get0 (idx := 41) (ci := 4) (k := 3) (by decide +kernel : 32 < 283 ∧ SHF 32 = (4, 9)) (by decide +kernel)).trans ?_
  refine (ry_bald (by decide +kernel : 1 < 283 ∧ SHF 1 = (101, 1600)) h1 h2 (by decide +kernel)).trans ?_
  refine (px_go (by decide +kernel : pm_fe 51 59 = some (.bipush 32, 2)) rfl).trans ?_
  refine (ry_ic_ne (off := 16) (tgt := 77) h3 (by decide : (-2147483648 ≤ (32 : Int) ∧ (32 : Int) < 2147483648)) (by decide +kernel)).trans ?_
  exact Iff.rfl
theorem r51_64 {d : Nat} {X : Nat × (Nat → Int)} {v : Nat → Int} {M : PH} {K : PV → PS → Prop} {l1 : Int} : pm_Run d 51 64 [vA 32, vI l1, PU] [] (GF X, M, PTF v) K ↔ pm_Run d 51 25 [vA 32, vI l1, PU] [] (GF X, pm_sa M 32 (pm_up (M 32) 3 ((M 32 3) + 1)), PTF v) K := by
  refine (px_go (by decide +kernel : pm_fe 51 64 = some (.aload_n 0, 1)) rfl).trans ?_
  refine (px_go (by decide +kernel : pm_fe 51 65 = some (.dup, 1)) rfl).trans ?_
  refine (ry_get0 (idx := 41) (ci := 4) (k := 3) (by decide +kernel : 32 < 283 ∧ SHF 32 = (4, 9)) (by decide +kernel)).trans ?_
  refine (px_go (by decide +kernel : pm_fe 51 69 = some (.iconst 1, 1)) rfl).trans ?_
  refine (px_go (by decide +kernel : pm_fe 51 70 = some (.iadd, 1)) rfl).trans ?_
  refine (ry_put0 (idx := 41) (ci := 4) (k := 3) (by decide +kernel : 32 < 283 ∧ SHF 32 = (4, 9)) (by decide +kernel)).trans ?_
  refine (px_goto (off := (-49)) (tgt := 25) (by decide +kernel)).trans ?_
  exact Iff.rfl
theorem r51_77 {d : Nat} {X : Nat × (Nat → Int)} {v : Nat → Int} {M : PH} {K : PV → PS → Prop} {l1 : Int} : pm_Run d 51 77 [vA 32, vI l1, PU] [] (GF X, M, PTF v) K ↔ pm_Run d 51 85 [vA 32, vI l1, PU] [] (GF X, pm_sa M 32 (pm_up (M 32) 5 (M 32 3)), PTF v) K := by
  refine (px_go (by decide +kernel : pm_fe 51 77 = some (.aload_n 0, 1)) rfl).trans ?_
  refine (px_go (by decide +kernel : pm_fe 51 78 = some (.aload_n 0, 1)) rfl).trans ?_
  refine (ry_get0 (idx := 41) (ci := 4) (k := 3) (by decide +kernel : 32 < 283 ∧ SHF 32 = (4, 9)) (by decide +kernel)).trans ?_
  refine (ry_put0 (idx := 47) (ci := 4) (k := 5) (by decide +kernel : 32 < 283 ∧ SHF 32 = (4, 9)) (by decide +kernel)).trans ?_
  exact Iff.rfl
theorem r51_85 {d : Nat} {X : Nat × (Nat → Int)} {v : Nat → Int} {M : PH} {K : PV → PS → Prop} {l1 : Int} : pm_Run d 51 85 [vA 32, vI l1, PU] [] (GF X, M, PTF v) K ↔ pm_Run d 51 93 [vA 32, vI l1, PU] [] (GF X, pm_sa M 32 (pm_up (M 32) 6 (M 32 3)), PTF v) K := by
  refine (px_go (by decide +kernel : pm_fe 51 85 = some (.aload_n 0, 1)) rfl).trans ?_
  refine (px_go (by decide +kernel : pm_fe 51 86 = some (.aload_n 0, 1)) rfl).trans ?_
  refine (ry_get0 (idx := 41) (ci := 4) (k := 3) (by decide +kernel : 32 < 283 ∧ SHF 32 = (4, 9)) (by decide +kernel)).trans ?_
  refine (ry_put0 (idx := 50) (ci := 4) (k := 6) (by decide +kernel : 32 < 283 ∧ SHF 32 = (4, 9)) (by decide +kernel)).trans ?_
  exact Iff.rfl
theorem r51_93 {d : Nat} {X : Nat × (Nat → Int)} {v : Nat → Int} {M : PH} {K : PV → PS → Prop} {l1 : Int} : pm_Run d 51 93 [vA 32, vI l1, PU] [] (GF X, M, PTF v) K ↔ pm_Run d 51 98 [vA 32, vI l1, PU] [] (GF X, pm_sa M 32 (pm_up (M 32) 8 (-1)), PTF v) K := by
  refine (px_go (by decide +kernel : pm_fe 51 93 = some (.aload_n 0, 1)) rfl).trans ?_
  refine (px_go (by decide +kernel : pm_fe 51 94 = some (.iconst (-1), 1)) rfl).trans ?_
  refine (ry_put0 (idx := 53) (ci := 4) (k := 8) (by decide +kernel : 32 < 283 ∧ SHF 32 = (4, 9)) (by decide +kernel)).trans ?_
  exact Iff.rfl
theorem r51_98 {d : Nat} {X : Nat × (Nat → Int)} {v : Nat → Int} {M : PH} {K : PV → PS → Prop} {l1 : Int} : pm_Run d 51 98 [vA 32, vI l1, PU] [] (GF X, M, PTF v) K ↔ pm_Run d 51 103 [vA 32, vI l1, PU] [] (GF X, pm_sa M 32 (pm_up (M 32) 7 0), PTF v) K := by
  refine (px_go (by decide +kernel : pm_fe 51 98 = some (.aload_n 0, 1)) rfl).trans ?_
  refine (px_go (by decide +kernel : pm_fe 51 99 = some (.iconst 0, 1)) rfl).trans ?_
  refine (ry_put0 (idx := 56) (ci := 4) (k := 7) (by decide +kernel : 32 < 283 ∧ SHF 32 = (4, 9)) (by decide +kernel)).trans ?_
  exact Iff.rfl
theorem r51_103 {d : Nat} {X : Nat × (Nat → Int)} {v : Nat → Int} {M : PH} {K : PV → PS → Prop} {l1 : Int} (h1 : inR (M 32 3)) (h2 : inR (M 32 2)) : pm_Run d 51 103 [vA 32, vI l1, PU] [] (GF X, M, PTF v) K ↔ if M 32 2 ≤ M 32 3 then pm_Run d 51 126 [vA 32, vI l1, PU] [] (GF X, M, PTF v) K else pm_Run d 51 114 [vA 32, vI l1, PU] [] (GF X, M, PTF v) K := by
  refine (px_go (by decide +kernel : pm_fe 51 103 = some (.aload_n 0, 1)) rfl).trans ?_
  refine (ry_get0 (idx := 41) (ci := 4) (k := 3) (by decide +kernel : 32 < 283 ∧ SHF 32 = (4, 9)) (by decide +kernel)).trans ?_
  refine (px_go (by decide +kernel : pm_fe 51 107 = some (.aload_n 0, 1)) rfl).trans ?_
  refine (ry_get0 (idx := 37) (ci := 4) (k := 2) (by decide +kernel : 32 < 283 ∧ SHF 32 = (4, 9)) (by decide +kernel)).trans ?_
  refine (ry_ic_ge (off := 15) (tgt := 126) h1 h2 (by decide +kernel)).trans ?_
  exact Iff.rfl
theorem r51_114 {d : Nat} {X : Nat × (Nat → Int)} {v : Nat → Int} {M : PH} {K : PV → PS → Prop} {l1 : Int} (hv5 : v 5 = ((1 : Nat) : Int)) (h1 : 0 ≤ (M 32 3)) (h2 : (M 32 3) < 1600) : pm_Run d 51 114 [vA 32, vI l1, PU] [] (GF X, M, PTF v) K ↔ pm_Run d 51 127 [vA 32, vI l1, PU] [vI (M 1 (M 32 3).toNat)] (GF X, M, PTF v) K := by
  refine (px_go (by decide +kernel : pm_fe 51 114 = some (.aload_n 0, 1)) rfl).trans ?_
  refine (ry_get2 (idx := 15) (ci := 4) (k := 1) (by decide +kernel : 32 < 283 ∧ SHF 32 = (4, 9)) (ptd5 hv5) (by decide +kernel)).trans ?_
  refine (px_go (by decide +kernel : pm_fe 51 118 = some (.aload_n 0, 1)) rfl).trans ?_
  refine (ry_get0 (idx := 41) (ci := 4) (k := 3) (by decide +kernel : 32 < 283 ∧ SHF 32 = (4, 9)) (by decide +kernel)).trans ?_
  refine (ry_bald (by decide +kernel : 1 < 283 ∧ SHF 1 = (101, 1600)) h1 h2 (by decide +kernel)).trans ?_
  refine (px_goto (off := 4) (tgt := 127) (by decide +kernel)).trans ?_
  exact Iff.rfl
theorem r51_126 {d : Nat} {X : Nat × (Nat → Int)} {v : Nat → Int} {M : PH} {K : PV → PS → Prop} {l1 : Int} : pm_Run d 51 126 [vA 32, vI l1, PU] [] (GF X, M, PTF v) K ↔ pm_Run d 51 127 [vA 32, vI l1, PU] [vI 0] (GF X, M, PTF v) K := by
  refine (px_go (by decide +kernel : pm_fe 51 126 = some (.iconst 0, 1)) rfl).trans ?_
  exact Iff.rfl
theorem r51_127 {d : Nat} {X : Nat × (Nat → Int)} {v : Nat → Int} {M : PH} {K : PV → PS → Prop} {l1 s0 : Int} (h1 : inR (M 32 3)) (h2 : inR (M 32 2)) : pm_Run d 51 127 [vA 32, vI l1, PU] [vI s0] (GF X, M, PTF v) K ↔ if M 32 3 < M 32 2 then pm_Run d 51 147 [vA 32, vI l1, vI s0] [] (GF X, M, PTF v) K else pm_Run d 51 139 [vA 32, vI l1, vI s0] [] (GF X, M, PTF v) K := by
  refine (px_go (by decide +kernel : pm_fe 51 127 = some (.istore_n 2, 1)) rfl).trans ?_
  refine (px_go (by decide +kernel : pm_fe 51 128 = some (.aload_n 0, 1)) rfl).trans ?_
  refine (ry_get0 (idx := 41) (ci := 4) (k := 3) (by decide +kernel : 32 < 283 ∧ SHF 32 = (4, 9)) (by decide +kernel)).trans ?_
  refine (px_go (by decide +kernel : pm_fe 51 132 = some (.aload_n 0, 1)) rfl).trans ?_
  refine (ry_get0 (idx := 37) (ci := 4) (k := 2) (by decide +kernel : 32 < 283 ∧ SHF 32 = (4, 9)) (by decide +kernel)).trans ?_
  refine (ry_ic_lt (off := 11) (tgt := 147) h1 h2 (by decide +kernel)).trans ?_
  exact Iff.rfl
theorem r51_139 {d : Nat} {X : Nat × (Nat → Int)} {v : Nat → Int} {M : PH} {K : PV → PS → Prop} {l1 l2 : Int} : pm_Run d 51 139 [vA 32, vI l1, vI l2] [] (GF X, M, PTF v) K ↔ pm_Run d 51 249 [vA 32, vI l1, vI l2] [] (GF X, pm_sa M 32 (pm_up (M 32) 4 0), PTF v) K := by
  refine (px_go (by decide +kernel : pm_fe 51 139 = some (.aload_n 0, 1)) rfl).trans ?_
  refine (px_go (by decide +kernel : pm_fe 51 140 = some (.iconst 0, 1)) rfl).trans ?_
  refine (ry_put0 (idx := 44) (ci := 4) (k := 4) (by decide +kernel : 32 < 283 ∧ SHF 32 = (4, 9)) (by decide +kernel)).trans ?_
  refine (px_goto (off := 105) (tgt := 249) (by decide +kernel)).trans ?_
  exact Iff.rfl
theorem r51_147 {d : Nat} {X : Nat × (Nat → Int)} {v : Nat → Int} {M : PH} {K : PV → PS → Prop} {l1 l2 : Int} (h1 : inR l2) : pm_Run d 51 147 [vA 32, vI l1, vI l2] [] (GF X, M, PTF v) K ↔ if l2 < 97 then pm_Run d 51 179 [vA 32, vI l1, vI l2] [] (GF X, M, PTF v) K else pm_Run d 51 153 [vA 32, vI l1, vI l2] [] (GF X, M, PTF v) K := by
  refine (px_go (by decide +kernel : pm_fe 51 147 = some (.iload_n 2, 1)) rfl).trans ?_
  refine (px_go (by decide +kernel : pm_fe 51 148 = some (.bipush 97, 2)) rfl).trans ?_
  refine (ry_ic_lt (off := 29) (tgt := 179) h1 (by decide : (-2147483648 ≤ (97 : Int) ∧ (97 : Int) < 2147483648)) (by decide +kernel)).trans ?_
  exact Iff.rfl
theorem r51_153 {d : Nat} {X : Nat × (Nat → Int)} {v : Nat → Int} {M : PH} {K : PV → PS → Prop} {l1 l2 : Int} (h1 : inR l2) : pm_Run d 51 153 [vA 32, vI l1, vI l2] [] (GF X, M, PTF v) K ↔ if 122 < l2 then pm_Run d 51 179 [vA 32, vI l1, vI l2] [] (GF X, M, PTF v) K else pm_Run d 51 159 [vA 32, vI l1, vI l2] [] (GF X, M, PTF v) K := by
  refine (px_go (by decide +kernel : pm_fe 51 153 = some (.iload_n 2, 1)) rfl).trans ?_
  refine (px_go (by decide +kernel : pm_fe 51 154 = some (.bipush 122, 2)) rfl).trans ?_
  refine (ry_ic_gt (off := 23) (tgt := 179) h1 (by decide : (-2147483648 ≤ (122 : Int) ∧ (122 : Int) < 2147483648)) (by decide +kernel)).trans ?_
  exact Iff.rfl
theorem r51_159 {d : Nat} {X : Nat × (Nat → Int)} {v : Nat → Int} {M : PH} {K : PV → PS → Prop} {l1 l2 : Int} (h1 : inR l1) (h2 : inR (M 32 3)) : pm_Run d 51 159 [vA 32, vI l1, vI l2] [] (GF X, M, PTF v) K ↔ if l1 ≠ M 32 3 then pm_Run d 51 172 [vA 32, vI l1, vI l2] [vA 32] (GF X, M, PTF v) K else pm_Run d 51 168 [vA 32, vI l1, vI l2] [vA 32] (GF X, M, PTF v) K := by
  refine (px_go (by decide +kernel : pm_fe 51 159 = some (.aload_n 0, 1)) rfl).trans ?_
  refine (px_go (by decide +kernel : pm_fe 51 160 = some (.iload_n 1, 1)) rfl).trans ?_
  refine (px_go (by decide +kernel : pm_fe 51 161 = some (.aload_n 0, 1)) rfl).trans ?_
  refine (ry_get0 (idx := 41) (ci := 4) (k := 3) (by decide +kernel : 32 < 283 ∧ SHF 32 = (4, 9)) (by decide +kernel)).trans ?_
  refine (ry_ic_ne (off := 7) (tgt := 172) h1 h2 (by decide +kernel)).trans ?_
  exact Iff.rfl
theorem r51_168 {d : Nat} {X : Nat × (Nat → Int)} {v : Nat → Int} {M : PH} {K : PV → PS → Prop} {l1 l2 : Int} : pm_Run d 51 168 [vA 32, vI l1, vI l2] [vA 32] (GF X, M, PTF v) K ↔ pm_Run d 51 173 [vA 32, vI l1, vI l2] [vI 1, vA 32] (GF X, M, PTF v) K := by
  refine (px_go (by decide +kernel : pm_fe 51 168 = some (.iconst 1, 1)) rfl).trans ?_
  refine (px_goto (off := 4) (tgt := 173) (by decide +kernel)).trans ?_
  exact Iff.rfl
theorem r51_172 {d : Nat} {X : Nat × (Nat → Int)} {v : Nat → Int} {M : PH} {K : PV → PS → Prop} {l1 l2 : Int} : pm_Run d 51 172 [vA 32, vI l1, vI l2] [vA 32] (GF X, M, PTF v) K ↔ pm_Run d 51 173 [vA 32, vI l1, vI l2] [vI 0, vA 32] (GF X, M, PTF v) K := by
  refine (px_go (by decide +kernel : pm_fe 51 172 = some (.iconst 0, 1)) rfl).trans ?_
  exact Iff.rfl
theorem r51_173 {d : Nat} {X : Nat × (Nat → Int)} {v : Nat → Int} {M : PH} {K : PV → PS → Prop} {l1 l2 s0 : Int} : pm_Run d 51 173 [vA 32, vI l1, vI l2] [vI s0, vA 32] (GF X, M, PTF v) K ↔ pm_Call d 52 [vA 32, vI s0] (GF X, M, PTF v) (fun r9 S1 => pm_Run d 51 176 [vA 32, vI l1, vI l2] (pm_push r9 []) S1 K) := by
  refine (ry_v1 (idx := 59) (m' := 52) (ci := 4) (by decide +kernel : 32 < 283 ∧ SHF 32 = (4, 9)) (by simp [pm_wl_n, pm_wl_c, pm_w] : pm_wl [] ≤ 8) (by decide +kernel)).trans ?_
  exact Iff.rfl
theorem r51_176 {d : Nat} {X : Nat × (Nat → Int)} {v : Nat → Int} {M : PH} {K : PV → PS → Prop} {l1 l2 : Int} : pm_Run d 51 176 [vA 32, vI l1, vI l2] [] (GF X, M, PTF v) K ↔ pm_Run d 51 249 [vA 32, vI l1, vI l2] [] (GF X, M, PTF v) K := by
  refine (px_goto (off := 73) (tgt := 249) (by decide +kernel)).trans ?_
  exact Iff.rfl
theorem r51_179 {d : Nat} {X : Nat × (Nat → Int)} {v : Nat → Int} {M : PH} {K : PV → PS → Prop} {l1 l2 : Int} (h1 : inR l2) : pm_Run d 51 179 [vA 32, vI l1, vI l2] [] (GF X, M, PTF v) K ↔ if l2 < 48 then pm_Run d 51 211 [vA 32, vI l1, vI l2] [] (GF X, M, PTF v) K else pm_Run d 51 185 [vA 32, vI l1, vI l2] [] (GF X, M, PTF v) K := by
  refine (px_go (by decide +kernel : pm_fe 51 179 = some (.iload_n 2, 1)) rfl).trans ?_
  refine (px_go (by decide +kernel : pm_fe 51 180 = some (.bipush 48, 2)) rfl).trans ?_
  refine (ry_ic_lt (off := 29) (tgt := 211) h1 (by decide : (-2147483648 ≤ (48 : Int) ∧ (48 : Int) < 2147483648)) (by decide +kernel)).trans ?_
  exact Iff.rfl
theorem r51_185 {d : Nat} {X : Nat × (Nat → Int)} {v : Nat → Int} {M : PH} {K : PV → PS → Prop} {l1 l2 : Int} (h1 : inR l2) : pm_Run d 51 185 [vA 32, vI l1, vI l2] [] (GF X, M, PTF v) K ↔ if 57 < l2 then pm_Run d 51 211 [vA 32, vI l1, vI l2] [] (GF X, M, PTF v) K else pm_Run d 51 191 [vA 32, vI l1, vI l2] [] (GF X, M, PTF v) K := by
  refine (px_go (by decide +kernel : pm_fe 51 185 = some (.iload_n 2, 1)) rfl).trans ?_
  refine (px_go (by decide +kernel : pm_fe 51 186 = some (.bipush 57, 2)) rfl).trans ?_
  refine (ry_ic_gt (off := 23) (tgt := 211) h1 (by decide : (-2147483648 ≤ (57 : Int) ∧ (57 : Int) < 2147483648)) (by decide +kernel)).trans ?_
  exact Iff.rfl
theorem r51_191 {d : Nat} {X : Nat × (Nat → Int)} {v : Nat → Int} {M : PH} {K : PV → PS → Prop} {l1 l2 : Int} (h1 : inR l1) (h2 : inR (M 32 3)) : pm_Run d 51 191 [vA 32, vI l1, vI l2] [] (GF X, M, PTF v) K ↔ if l1 ≠ M 32 3 then pm_Run d 51 204 [vA 32, vI l1, vI l2] [vA 32] (GF X, M, PTF v) K else pm_Run d 51 200 [vA 32, vI l1, vI l2] [vA 32] (GF X, M, PTF v) K := by
  refine (px_go (by decide +kernel : pm_fe 51 191 = some (.aload_n 0, 1)) rfl).trans ?_
  refine (px_go (by decide +kernel : pm_fe 51 192 = some (.iload_n 1, 1)) rfl).trans ?_
  refine (px_go (by decide +kernel : pm_fe 51 193 = some (.aload_n 0, 1)) rfl).trans ?_
  refine (ry_get0 (idx := 41) (ci := 4) (k := 3) (by decide +kernel : 32 < 283 ∧ SHF 32 = (4, 9)) (by decide +kernel)).trans ?_
  refine (ry_ic_ne (off := 7) (tgt := 204) h1 h2 (by decide +kernel)).trans ?_
  exact Iff.rfl
theorem r51_200 {d : Nat} {X : Nat × (Nat → Int)} {v : Nat → Int} {M : PH} {K : PV → PS → Prop} {l1 l2 : Int} : pm_Run d 51 200 [vA 32, vI l1, vI l2] [vA 32] (GF X, M, PTF v) K ↔ pm_Run d 51 205 [vA 32, vI l1, vI l2] [vI 1, vA 32] (GF X, M, PTF v) K := by
  refine (px_go (by decide +kernel : pm_fe 51 200 = some (.iconst 1, 1)) rfl).trans ?_
  refine (px_goto (off := 4) (tgt := 205) (by decide +kernel)).trans ?_
  exact Iff.rfl
theorem r51_204 {d : Nat} {X : Nat × (Nat → Int)} {v : Nat → Int} {M : PH} {K : PV → PS → Prop} {l1 l2 : Int} : pm_Run d 51 204 [vA 32, vI l1, vI l2] [vA 32] (GF X, M, PTF v) K ↔ pm_Run d 51 205 [vA 32, vI l1, vI l2] [vI 0, vA 32] (GF X, M, PTF v) K := by
  refine (px_go (by decide +kernel : pm_fe 51 204 = some (.iconst 0, 1)) rfl).trans ?_
  exact Iff.rfl
theorem r51_205 {d : Nat} {X : Nat × (Nat → Int)} {v : Nat → Int} {M : PH} {K : PV → PS → Prop} {l1 l2 s0 : Int} : pm_Run d 51 205 [vA 32, vI l1, vI l2] [vI s0, vA 32] (GF X, M, PTF v) K ↔ pm_Call d 53 [vA 32, vI s0] (GF X, M, PTF v) (fun r9 S1 => pm_Run d 51 208 [vA 32, vI l1, vI l2] (pm_push r9 []) S1 K) := by
  refine (ry_v1 (idx := 63) (m' := 53) (ci := 4) (by decide +kernel : 32 < 283 ∧ SHF 32 = (4, 9)) (by simp [pm_wl_n, pm_wl_c, pm_w] : pm_wl [] ≤ 8) (by decide +kernel)).trans ?_
  exact Iff.rfl
theorem r51_208 {d : Nat} {X : Nat × (Nat → Int)} {v : Nat → Int} {M : PH} {K : PV → PS → Prop} {l1 l2 : Int} : pm_Run d 51 208 [vA 32, vI l1, vI l2] [] (GF X, M, PTF v) K ↔ pm_Run d 51 249 [vA 32, vI l1, vI l2] [] (GF X, M, PTF v) K := by
  refine (px_goto (off := 41) (tgt := 249) (by decide +kernel)).trans ?_
  exact Iff.rfl
theorem r51_211 {d : Nat} {X : Nat × (Nat → Int)} {v : Nat → Int} {M : PH} {K : PV → PS → Prop} {l1 l2 : Int} : pm_Run d 51 211 [vA 32, vI l1, vI l2] [] (GF X, M, PTF v) K ↔ pm_Run d 51 216 [vA 32, vI l1, vI l2] [] (GF X, pm_sa M 32 (pm_up (M 32) 7 l2), PTF v) K := by
  refine (px_go (by decide +kernel : pm_fe 51 211 = some (.aload_n 0, 1)) rfl).trans ?_
  refine (px_go (by decide +kernel : pm_fe 51 212 = some (.iload_n 2, 1)) rfl).trans ?_
  refine (ry_put0 (idx := 56) (ci := 4) (k := 7) (by decide +kernel : 32 < 283 ∧ SHF 32 = (4, 9)) (by decide +kernel)).trans ?_
  exact Iff.rfl
theorem r51_216 {d : Nat} {X : Nat × (Nat → Int)} {v : Nat → Int} {M : PH} {K : PV → PS → Prop} {l1 l2 : Int} (h1 : inR l2) : pm_Run d 51 216 [vA 32, vI l1, vI l2] [] (GF X, M, PTF v) K ↔ if l2 ≤ 0 then pm_Run d 51 235 [vA 32, vI l1, vI l2] [vA 32] (GF X, M, PTF v) K else pm_Run d 51 221 [vA 32, vI l1, vI l2] [vA 32] (GF X, M, PTF v) K := by
  refine (px_go (by decide +kernel : pm_fe 51 216 = some (.aload_n 0, 1)) rfl).trans ?_
  refine (px_go (by decide +kernel : pm_fe 51 217 = some (.iload_n 2, 1)) rfl).trans ?_
  refine (ry_if_le (off := 17) (tgt := 235) h1 (by decide +kernel)).trans ?_
  exact Iff.rfl
theorem r51_228 {d : Nat} {X : Nat × (Nat → Int)} {v : Nat → Int} {M : PH} {K : PV → PS → Prop} {l1 l2 s0 : Int} (h1 : inR s0) : pm_Run d 51 228 [vA 32, vI l1, vI l2] [vI s0, vA 32] (GF X, M, PTF v) K ↔ if s0 < 0 then pm_Run d 51 235 [vA 32, vI l1, vI l2] [vA 32] (GF X, M, PTF v) K else pm_Run d 51 231 [vA 32, vI l1, vI l2] [vA 32] (GF X, M, PTF v) K := by
  refine (ry_if_lt (off := 7) (tgt := 235) h1 (by decide +kernel)).trans ?_
  exact Iff.rfl
theorem r51_231 {d : Nat} {X : Nat × (Nat → Int)} {v : Nat → Int} {M : PH} {K : PV → PS → Prop} {l1 l2 : Int} : pm_Run d 51 231 [vA 32, vI l1, vI l2] [vA 32] (GF X, M, PTF v) K ↔ pm_Run d 51 236 [vA 32, vI l1, vI l2] [vI 3, vA 32] (GF X, M, PTF v) K := by
  refine (px_go (by decide +kernel : pm_fe 51 231 = some (.iconst 3, 1)) rfl).trans ?_
  refine (px_goto (off := 4) (tgt := 236) (by decide +kernel)).trans ?_
  exact Iff.rfl
theorem r51_235 {d : Nat} {X : Nat × (Nat → Int)} {v : Nat → Int} {M : PH} {K : PV → PS → Prop} {l1 l2 : Int} : pm_Run d 51 235 [vA 32, vI l1, vI l2] [vA 32] (GF X, M, PTF v) K ↔ pm_Run d 51 236 [vA 32, vI l1, vI l2] [vI 4, vA 32] (GF X, M, PTF v) K := by
  refine (px_go (by decide +kernel : pm_fe 51 235 = some (.iconst 4, 1)) rfl).trans ?_
  exact Iff.rfl
theorem r51_236 {d : Nat} {X : Nat × (Nat → Int)} {v : Nat → Int} {M : PH} {K : PV → PS → Prop} {l1 l2 s0 : Int} : pm_Run d 51 236 [vA 32, vI l1, vI l2] [vI s0, vA 32] (GF X, M, PTF v) K ↔ pm_Run d 51 239 [vA 32, vI l1, vI l2] [] (GF X, pm_sa M 32 (pm_up (M 32) 4 s0), PTF v) K := by
  refine (ry_put0 (idx := 44) (ci := 4) (k := 4) (by decide +kernel : 32 < 283 ∧ SHF 32 = (4, 9)) (by decide +kernel)).trans ?_
  exact Iff.rfl
theorem r51_239 {d : Nat} {X : Nat × (Nat → Int)} {v : Nat → Int} {M : PH} {K : PV → PS → Prop} {l1 l2 : Int} : pm_Run d 51 239 [vA 32, vI l1, vI l2] [] (GF X, M, PTF v) K ↔ pm_Run d 51 249 [vA 32, vI l1, vI l2] [] (GF X, pm_sa M 32 (pm_up (M 32) 3 ((M 32 3) + 1)), PTF v) K := by
  refine (px_go (by decide +kernel : pm_fe 51 239 = some (.aload_n 0, 1)) rfl).trans ?_
  refine (px_go (by decide +kernel : pm_fe 51 240 = some (.dup, 1)) rfl).trans ?_
  refine (ry_get0 (idx := 41) (ci := 4) (k := 3) (by decide +kernel : 32 < 283 ∧ SHF 32 = (4, 9)) (by decide +kernel)).trans ?_
  refine (px_go (by decide +kernel : pm_fe 51 244 = some (.iconst 1, 1)) rfl).trans ?_
  refine (px_go (by decide +kernel : pm_fe 51 245 = some (.iadd, 1)) rfl).trans ?_
  refine (ry_put0 (idx := 41) (ci := 4) (k := 3) (by decide +kernel : 32 < 283 ∧ SHF 32 = (4, 9)) (by decide +kernel)).trans ?_
  exact Iff.rfl
theorem r51_249 {d : Nat} {X : Nat × (Nat → Int)} {v : Nat → Int} {M : PH} {K : PV → PS → Prop} {l1 l2 : Int} : pm_Run d 51 249 [vA 32, vI l1, vI l2] [] (GF X, M, PTF v) K ↔ K PU (GF X, M, PTF v) := by
  refine (px_rv (by decide +kernel)).trans ?_
  exact Iff.rfl

theorem r51_221 {d : Nat} {X : Nat × (Nat → Int)} {v : Nat → Int} {M : PH} {K : PV → PS → Prop} {l1 l2 : Int} (h : 0 ≤ l2 ∧ l2 < 256) : pm_Run d 51 221 [vA 32, vI l1, vI l2] [vA 32] (GF X, M, PTF v) K ↔ pm_Run d 51 228 [vA 32, vI l1, vI l2] [vI (pm_ix pm_signs l2 0), vA 32] (GF X, M, PTF v) K := by
  have h1 : pm_ic (pm_cl 51) 66 = none := by decide +kernel
  have h2 : pm_sc (pm_cl 51) 66 = some (-4) := by decide +kernel
  refine (px_go (i := .ldc 66) (n := 2) (pc' := 223) (ls' := [vA 32, vI l1, vI l2]) (st' := [.inr (.inr (.inl (-4))), vA 32]) (S' := (GF X, M, PTF v)) (by decide +kernel) (by simp only [pm_step, pm_ldc, h1, h2]; rfl)).trans ?_
  refine (px_go (by decide +kernel : pm_fe 51 223 = some (.iload_n 2, 1)) rfl).trans ?_
  refine (px_go (by decide +kernel : pm_fe 51 224 = some (.i2c, 1)) rfl).trans ?_
  have h3 : pm_mr (pm_cl 51) 68 = some (904, 0) := by decide +kernel
  have e : l2 % 65536 = l2 := Int.emod_eq_of_lt h.1 (by omega)
  have e2 : pm_sg l2 = l2 := pm_sgid (by omega) (by omega)
  refine (px_go (i := .invokevirtual 68) (n := 3) (pc' := 228) (ls' := [vA 32, vI l1, vI l2]) (st' := [vI (pm_ix pm_signs l2 0), vA 32]) (S' := (GF X, M, PTF v)) (by decide +kernel) (by
    simp only [pm_step, pm_invv, h3]
    rw [if_neg (by decide), if_neg (by decide), if_neg (by decide), if_pos (by decide)]
    show (match pm_str (-4) with | some t => if pm_wl [vA 32] ≤ 8 ∧ 0 ≤ pm_sg (l2 % 65536) ∧ pm_sg (l2 % 65536) < 256 then pm_go 228 [vA 32, vI l1, vI l2] [vI (pm_ix t (pm_sg (l2 % 65536)) 0), vA 32] (GF X, M, PTF v) else none | none => none) = _
    rw [show pm_str (-4) = some pm_signs from rfl]
    simp only [e, e2]
    rw [if_pos ⟨by simp [pm_wl_n, pm_wl_c, pm_w], h.1, h.2⟩])).trans ?_
  exact Iff.rfl
-- X11_sea sea()I
theorem r134_0 {d : Nat} {X : Nat × (Nat → Int)} {v : Nat → Int} {M : PH} {K : PV → PS → Prop} : pm_Run d 134 0 [vA 0, PU] [] (GF X, M, PTF v) K ↔ pm_Call d 166 [vA 0] (GF X, M, PTF v) (fun r9 S1 => pm_Run d 134 4 [vA 0, PU] (pm_push r9 []) S1 K) := by
  refine (px_go (by decide +kernel : pm_fe 134 0 = some (.aload_n 0, 1)) rfl).trans ?_
  refine (ry_v0 (idx := 97) (m' := 166) (ci := 11) (by decide +kernel : 0 < 283 ∧ SHF 0 = (11, 13)) (by simp [pm_wl_n, pm_wl_c, pm_w] : pm_wl [] ≤ 8) (by decide +kernel)).trans ?_
  exact Iff.rfl
theorem r134_4 {d : Nat} {X : Nat × (Nat → Int)} {v : Nat → Int} {M : PH} {K : PV → PS → Prop} {s0 : Int} : pm_Run d 134 4 [vA 0, PU] [vI s0] (GF X, M, PTF v) K ↔ pm_Call d 67 [vA 31, vA 1, vI s0] (GF X, M, PTF v) (fun r9 S1 => pm_Run d 134 17 [vA 0, vI s0] (pm_push r9 []) S1 K) := by
  refine (px_go (by decide +kernel : pm_fe 134 4 = some (.istore_n 1, 1)) rfl).trans ?_
  refine (px_go (by decide +kernel : pm_fe 134 5 = some (.aload_n 0, 1)) rfl).trans ?_
  refine (ry_get2 (idx := 34) (ci := 11) (k := 4) (by decide +kernel : 0 < 283 ∧ SHF 0 = (11, 13)) (ptf_l (a := 0) (k := 4) (n := 31) (by decide +kernel)) (by decide +kernel)).trans ?_
  refine (px_go (by decide +kernel : pm_fe 134 9 = some (.aload_n 0, 1)) rfl).trans ?_
  refine (ry_get2 (idx := 9) (ci := 11) (k := 0) (by decide +kernel : 0 < 283 ∧ SHF 0 = (11, 13)) (ptf_l (a := 0) (k := 0) (n := 1) (by decide +kernel)) (by decide +kernel)).trans ?_
  refine (px_go (by decide +kernel : pm_fe 134 13 = some (.iload_n 1, 1)) rfl).trans ?_
  refine (ry_v2 (idx := 101) (m' := 67) (ci := 6) (by decide +kernel : 31 < 283 ∧ SHF 31 = (6, 5)) (by simp [pm_wl_n, pm_wl_c, pm_w] : pm_wl [] ≤ 8) (by decide +kernel)).trans ?_
  exact Iff.rfl
theorem r134_17 {d : Nat} {X : Nat × (Nat → Int)} {v : Nat → Int} {M : PH} {K : PV → PS → Prop} {l1 s0 : Int} (h1 : inR s0) : pm_Run d 134 17 [vA 0, vI l1] [vI s0] (GF X, M, PTF v) K ↔ if s0 ≠ 0 then pm_Run d 134 26 [vA 0, vI l1] [] (GF X, M, PTF v) K else pm_Run d 134 20 [vA 0, vI l1] [] (GF X, M, PTF v) K := by
  refine (ry_if_ne (off := 9) (tgt := 26) h1 (by decide +kernel)).trans ?_
  exact Iff.rfl
theorem r134_20 {d : Nat} {X : Nat × (Nat → Int)} {v : Nat → Int} {M : PH} {K : PV → PS → Prop} {l1 : Int} : pm_Run d 134 20 [vA 0, vI l1] [] (GF X, M, PTF v) K ↔ pm_Call d 164 [vA 0, vI 1] (GF X, M, PTF v) (fun r9 S1 => pm_Run d 134 25 [vA 0, vI l1] (pm_push r9 []) S1 K) := by
  refine (px_go (by decide +kernel : pm_fe 134 20 = some (.aload_n 0, 1)) rfl).trans ?_
  refine (px_go (by decide +kernel : pm_fe 134 21 = some (.iconst 1, 1)) rfl).trans ?_
  refine (ry_v1 (idx := 89) (m' := 164) (ci := 11) (by decide +kernel : 0 < 283 ∧ SHF 0 = (11, 13)) (by simp [pm_wl_n, pm_wl_c, pm_w] : pm_wl [] ≤ 8) (by decide +kernel)).trans ?_
  exact Iff.rfl
theorem r134_25 {d : Nat} {X : Nat × (Nat → Int)} {v : Nat → Int} {M : PH} {K : PV → PS → Prop} {l1 s0 : Int} : pm_Run d 134 25 [vA 0, vI l1] [vI s0] (GF X, M, PTF v) K ↔ K (vI s0) (GF X, M, PTF v) := by
  refine (px_ri (by decide +kernel)).trans ?_
  exact Iff.rfl
theorem r134_26 {d : Nat} {c : Nat} {X : Nat × (Nat → Int)} {v : Nat → Int} {M : PH} {K : PV → PS → Prop} {l1 : Int} (hc : isCh c) (hv0 : v 0 = ((c : Nat) : Int)) : pm_Run d 134 26 [vA 0, vI l1] [] (GF X, M, PTF v) K ↔ pm_Call d 68 [vA 31, vA c] (GF X, M, PTF v) (fun r9 S1 => pm_Run d 134 38 [vA 0, vI l1] (pm_push r9 [vA 0]) S1 K) := by
  refine (px_go (by decide +kernel : pm_fe 134 26 = some (.aload_n 0, 1)) rfl).trans ?_
  refine (px_go (by decide +kernel : pm_fe 134 27 = some (.aload_n 0, 1)) rfl).trans ?_
  refine (ry_get2 (idx := 34) (ci := 11) (k := 4) (by decide +kernel : 0 < 283 ∧ SHF 0 = (11, 13)) (ptf_l (a := 0) (k := 4) (n := 31) (by decide +kernel)) (by decide +kernel)).trans ?_
  refine (px_go (by decide +kernel : pm_fe 134 31 = some (.aload_n 0, 1)) rfl).trans ?_
  refine (ry_get2 (idx := 27) (ci := 11) (k := 3) (by decide +kernel : 0 < 283 ∧ SHF 0 = (11, 13)) (ptd0 hv0) (by decide +kernel)).trans ?_
  refine (ry_v1 (idx := 105) (m' := 68) (ci := 6) (by decide +kernel : 31 < 283 ∧ SHF 31 = (6, 5)) (by simp [pm_wl_n, pm_wl_c, pm_w] : pm_wl [vA 0] ≤ 8) (by decide +kernel)).trans ?_
  exact Iff.rfl
theorem r134_55 {d : Nat} {X : Nat × (Nat → Int)} {v : Nat → Int} {M : PH} {K : PV → PS → Prop} {l1 : Int} : pm_Run d 134 55 [vA 0, vI l1] [] (GF X, M, PTF v) K ↔ pm_Call d 100 [vA 103] (GF X, M, PTF v) (fun r9 S1 => pm_Run d 134 62 [vA 0, vI l1] (pm_push r9 []) S1 K) := by
  refine (px_go (by decide +kernel : pm_fe 134 55 = some (.aload_n 0, 1)) rfl).trans ?_
  refine (ry_get2 (idx := 71) (ci := 11) (k := 9) (by decide +kernel : 0 < 283 ∧ SHF 0 = (11, 13)) (ptf_l (a := 0) (k := 9) (n := 103) (by decide +kernel)) (by decide +kernel)).trans ?_
  refine (ry_v0 (idx := 116) (m' := 100) (ci := 7) (by decide +kernel : 103 < 283 ∧ SHF 103 = (7, 3)) (by simp [pm_wl_n, pm_wl_c, pm_w] : pm_wl [] ≤ 8) (by decide +kernel)).trans ?_
  exact Iff.rfl
theorem r134_62 {d : Nat} {X : Nat × (Nat → Int)} {v : Nat → Int} {M : PH} {K : PV → PS → Prop} {l1 : Int} : pm_Run d 134 62 [vA 0, vI l1] [] (GF X, M, PTF v) K ↔ pm_Call d 127 [vA 91] (GF X, M, PTF v) (fun r9 S1 => pm_Run d 134 69 [vA 0, vI l1] (pm_push r9 []) S1 K) := by
  refine (px_go (by decide +kernel : pm_fe 134 62 = some (.aload_n 0, 1)) rfl).trans ?_
  refine (ry_get2 (idx := 64) (ci := 11) (k := 8) (by decide +kernel : 0 < 283 ∧ SHF 0 = (11, 13)) (ptf_l (a := 0) (k := 8) (n := 91) (by decide +kernel)) (by decide +kernel)).trans ?_
  refine (ry_v0 (idx := 119) (m' := 127) (ci := 10) (by decide +kernel : 91 < 283 ∧ SHF 91 = (10, 11)) (by simp [pm_wl_n, pm_wl_c, pm_w] : pm_wl [] ≤ 8) (by decide +kernel)).trans ?_
  exact Iff.rfl
theorem r134_69 {d : Nat} {X : Nat × (Nat → Int)} {v : Nat → Int} {M : PH} {K : PV → PS → Prop} {l1 : Int} : pm_Run d 134 69 [vA 0, vI l1] [] (GF X, M, PTF v) K ↔ pm_Call d 167 [vA 0] (GF X, M, PTF v) (fun r9 S1 => pm_Run d 134 73 [vA 0, vI l1] (pm_push r9 []) S1 K) := by
  refine (px_go (by decide +kernel : pm_fe 134 69 = some (.aload_n 0, 1)) rfl).trans ?_
  refine (ry_v0 (idx := 120) (m' := 167) (ci := 11) (by decide +kernel : 0 < 283 ∧ SHF 0 = (11, 13)) (by simp [pm_wl_n, pm_wl_c, pm_w] : pm_wl [] ≤ 8) (by decide +kernel)).trans ?_
  exact Iff.rfl
theorem r134_73 {d : Nat} {c : Nat} {X : Nat × (Nat → Int)} {v : Nat → Int} {M : PH} {K : PV → PS → Prop} {l1 : Int} (hc : isCh c) (hv0 : v 0 = ((c : Nat) : Int)) : pm_Run d 134 73 [vA 0, vI l1] [] (GF X, M, PTF v) K ↔ K (vI (M c 7)) (GF X, M, PTF v) := by
  refine (px_go (by decide +kernel : pm_fe 134 73 = some (.aload_n 0, 1)) rfl).trans ?_
  refine (ry_get2 (idx := 27) (ci := 11) (k := 3) (by decide +kernel : 0 < 283 ∧ SHF 0 = (11, 13)) (ptd0 hv0) (by decide +kernel)).trans ?_
  refine (ry_get0 (idx := 123) (ci := 1) (k := 7) (chs0 hc) (by decide +kernel)).trans ?_
  refine (px_ri (by decide +kernel)).trans ?_
  exact Iff.rfl
