-- X4_letterOf letterOf(II)I
theorem r49_0 {d : Nat} {X : Nat × (Nat → Int)} {v : Nat → Int} {M : PH} {K : PV → PS → Prop} {l0 l1 : Int} : pm_Run d 49 0 [vI l0, vI l1] [] (GF X, M, PTF v) K ↔ K (vI (pm_and (pm_shr l0 (25 - (5 * l1))) 31)) (GF X, M, PTF v) := by
  refine (px_go (by decide +kernel : pm_fe 49 0 = some (.iload_n 0, 1)) rfl).trans ?_
  refine (px_go (by decide +kernel : pm_fe 49 1 = some (.bipush 25, 2)) rfl).trans ?_
  refine (px_go (by decide +kernel : pm_fe 49 3 = some (.iconst 5, 1)) rfl).trans ?_
  refine (px_go (by decide +kernel : pm_fe 49 4 = some (.iload_n 1, 1)) rfl).trans ?_
  refine (px_go (by decide +kernel : pm_fe 49 5 = some (.imul, 1)) rfl).trans ?_
  refine (px_go (by decide +kernel : pm_fe 49 6 = some (.isub, 1)) rfl).trans ?_
  refine (px_go (by decide +kernel : pm_fe 49 7 = some (.ishr, 1)) rfl).trans ?_
  refine (px_go (by decide +kernel : pm_fe 49 8 = some (.bipush 31, 2)) rfl).trans ?_
  refine (px_go (by decide +kernel : pm_fe 49 10 = some (.iand, 1)) rfl).trans ?_
  refine (px_ri (by decide +kernel)).trans ?_
  exact Iff.rfl
-- X4_begin begin([BI)V
-- X4_takeWord takeWord(Z)V
theorem r52_0 {d : Nat} {X : Nat × (Nat → Int)} {v : Nat → Int} {M : PH} {K : PV → PS → Prop} {l1 : Int} (h1 : inR (M 32 3)) (h2 : inR (M 32 2)) : pm_Run d 52 0 [vA 32, vI l1, PU, PU] [] (GF X, M, PTF v) K ↔ if M 32 2 ≤ M 32 3 then pm_Run d 52 104 [vA 32, vI l1, PU, PU] [] (GF X, M, PTF v) K else pm_Run d 52 11 [vA 32, vI l1, PU, PU] [] (GF X, M, PTF v) K := by
  refine (px_go (by decide +kernel : pm_fe 52 0 = some (.aload_n 0, 1)) rfl).trans ?_
  refine (ry_get0 (idx := 41) (ci := 4) (k := 3) (by decide +kernel : 32 < 283 ∧ SHF 32 = (4, 9)) (by decide +kernel)).trans ?_
  refine (px_go (by decide +kernel : pm_fe 52 4 = some (.aload_n 0, 1)) rfl).trans ?_
  refine (ry_get0 (idx := 37) (ci := 4) (k := 2) (by decide +kernel : 32 < 283 ∧ SHF 32 = (4, 9)) (by decide +kernel)).trans ?_
  refine (ry_ic_ge (off := 96) (tgt := 104) h1 h2 (by decide +kernel)).trans ?_
  exact Iff.rfl
theorem r52_11 {d : Nat} {X : Nat × (Nat → Int)} {v : Nat → Int} {M : PH} {K : PV → PS → Prop} {l1 : Int} (hv5 : v 5 = ((1 : Nat) : Int)) (h1 : 0 ≤ (M 32 3)) (h2 : (M 32 3) < 1600) (h3 : inR (M 1 (M 32 3).toNat)) : pm_Run d 52 11 [vA 32, vI l1, PU, PU] [] (GF X, M, PTF v) K ↔ if M 1 (M 32 3).toNat < 97 then pm_Run d 52 104 [vA 32, vI l1, PU, PU] [] (GF X, M, PTF v) K else pm_Run d 52 25 [vA 32, vI l1, PU, PU] [] (GF X, M, PTF v) K := by
  refine (px_go (by decide +kernel : pm_fe 52 11 = some (.aload_n 0, 1)) rfl).trans ?_
  refine (ry_get2 (idx := 15) (ci := 4) (k := 1) (by decide +kernel : 32 < 283 ∧ SHF 32 = (4, 9)) (ptd5 hv5) (by decide +kernel)).trans ?_
  refine (px_go (by decide +kernel : pm_fe 52 15 = some (.aload_n 0, 1)) rfl).trans ?_
  refine (ry_get0 (idx := 41) (ci := 4) (k := 3) (by decide +kernel : 32 < 283 ∧ SHF 32 = (4, 9)) (by decide +kernel)).trans ?_
  refine (ry_bald (by decide +kernel : 1 < 283 ∧ SHF 1 = (101, 1600)) h1 h2 (by decide +kernel)).trans ?_
  refine (px_go (by decide +kernel : pm_fe 52 20 = some (.bipush 97, 2)) rfl).trans ?_
  refine (ry_ic_lt (off := 82) (tgt := 104) h3 (by decide : (-2147483648 ≤ (97 : Int) ∧ (97 : Int) < 2147483648)) (by decide +kernel)).trans ?_
  exact Iff.rfl
theorem r52_25 {d : Nat} {X : Nat × (Nat → Int)} {v : Nat → Int} {M : PH} {K : PV → PS → Prop} {l1 : Int} (hv5 : v 5 = ((1 : Nat) : Int)) (h1 : 0 ≤ (M 32 3)) (h2 : (M 32 3) < 1600) (h3 : inR (M 1 (M 32 3).toNat)) : pm_Run d 52 25 [vA 32, vI l1, PU, PU] [] (GF X, M, PTF v) K ↔ if 122 < M 1 (M 32 3).toNat then pm_Run d 52 104 [vA 32, vI l1, PU, PU] [] (GF X, M, PTF v) K else pm_Run d 52 39 [vA 32, vI l1, PU, PU] [] (GF X, M, PTF v) K := by
  refine (px_go (by decide +kernel : pm_fe 52 25 = some (.aload_n 0, 1)) rfl).trans ?_
  refine (ry_get2 (idx := 15) (ci := 4) (k := 1) (by decide +kernel : 32 < 283 ∧ SHF 32 = (4, 9)) (ptd5 hv5) (by decide +kernel)).trans ?_
  refine (px_go (by decide +kernel : pm_fe 52 29 = some (.aload_n 0, 1)) rfl).trans ?_
  refine (ry_get0 (idx := 41) (ci := 4) (k := 3) (by decide +kernel : 32 < 283 ∧ SHF 32 = (4, 9)) (by decide +kernel)).trans ?_
  refine (ry_bald (by decide +kernel : 1 < 283 ∧ SHF 1 = (101, 1600)) h1 h2 (by decide +kernel)).trans ?_
  refine (px_go (by decide +kernel : pm_fe 52 34 = some (.bipush 122, 2)) rfl).trans ?_
  refine (ry_ic_gt (off := 68) (tgt := 104) h3 (by decide : (-2147483648 ≤ (122 : Int) ∧ (122 : Int) < 2147483648)) (by decide +kernel)).trans ?_
  exact Iff.rfl
theorem r52_39 {d : Nat} {X : Nat × (Nat → Int)} {v : Nat → Int} {M : PH} {K : PV → PS → Prop} {l1 : Int} (h1 : inR ((M 32 3) - (M 32 5))) : pm_Run d 52 39 [vA 32, vI l1, PU, PU] [] (GF X, M, PTF v) K ↔ if 6 ≤ (M 32 3) - (M 32 5) then pm_Run d 52 104 [vA 32, vI l1, PU, PU] [] (GF X, M, PTF v) K else pm_Run d 52 53 [vA 32, vI l1, PU, PU] [] (GF X, M, PTF v) K := by
  refine (px_go (by decide +kernel : pm_fe 52 39 = some (.aload_n 0, 1)) rfl).trans ?_
  refine (ry_get0 (idx := 41) (ci := 4) (k := 3) (by decide +kernel : 32 < 283 ∧ SHF 32 = (4, 9)) (by decide +kernel)).trans ?_
  refine (px_go (by decide +kernel : pm_fe 52 43 = some (.aload_n 0, 1)) rfl).trans ?_
  refine (ry_get0 (idx := 47) (ci := 4) (k := 5) (by decide +kernel : 32 < 283 ∧ SHF 32 = (4, 9)) (by decide +kernel)).trans ?_
  refine (px_go (by decide +kernel : pm_fe 52 47 = some (.isub, 1)) rfl).trans ?_
  refine (px_go (by decide +kernel : pm_fe 52 48 = some (.bipush 6, 2)) rfl).trans ?_
  refine (ry_ic_ge (off := 54) (tgt := 104) h1 (by decide : (-2147483648 ≤ (6 : Int) ∧ (6 : Int) < 2147483648)) (by decide +kernel)).trans ?_
  exact Iff.rfl
theorem r52_53 {d : Nat} {X : Nat × (Nat → Int)} {v : Nat → Int} {M : PH} {K : PV → PS → Prop} {l1 : Int} (hv5 : v 5 = ((1 : Nat) : Int)) (h1 : 0 ≤ (M 32 3)) (h2 : (M 32 3) < 1600) : pm_Run d 52 53 [vA 32, vI l1, PU, PU] [] (GF X, M, PTF v) K ↔ pm_Run d 52 91 [vA 32, vI l1, PU, PU] [] (GF X, pm_sa M 32 (pm_up (M 32) 7 (pm_or (M 32 7) (pm_shl (((M 1 (M 32 3).toNat) - 97) + 1) (25 - (5 * ((M 32 3) - (M 32 5))))))), PTF v) K := by
  refine (px_go (by decide +kernel : pm_fe 52 53 = some (.aload_n 0, 1)) rfl).trans ?_
  refine (px_go (by decide +kernel : pm_fe 52 54 = some (.dup, 1)) rfl).trans ?_
  refine (ry_get0 (idx := 56) (ci := 4) (k := 7) (by decide +kernel : 32 < 283 ∧ SHF 32 = (4, 9)) (by decide +kernel)).trans ?_
  refine (px_go (by decide +kernel : pm_fe 52 58 = some (.aload_n 0, 1)) rfl).trans ?_
  refine (ry_get2 (idx := 15) (ci := 4) (k := 1) (by decide +kernel : 32 < 283 ∧ SHF 32 = (4, 9)) (ptd5 hv5) (by decide +kernel)).trans ?_
  refine (px_go (by decide +kernel : pm_fe 52 62 = some (.aload_n 0, 1)) rfl).trans ?_
  refine (ry_get0 (idx := 41) (ci := 4) (k := 3) (by decide +kernel : 32 < 283 ∧ SHF 32 = (4, 9)) (by decide +kernel)).trans ?_
  refine (ry_bald (by decide +kernel : 1 < 283 ∧ SHF 1 = (101, 1600)) h1 h2 (by decide +kernel)).trans ?_
  refine (px_go (by decide +kernel : pm_fe 52 67 = some (.bipush 97, 2)) rfl).trans ?_
  refine (px_go (by decide +kernel : pm_fe 52 69 = some (.isub, 1)) rfl).trans ?_
  refine (px_go (by decide +kernel : pm_fe 52 70 = some (.iconst 1, 1)) rfl).trans ?_
  refine (px_go (by decide +kernel : pm_fe 52 71 = some (.iadd, 1)) rfl).trans ?_
  refine (px_go (by decide +kernel : pm_fe 52 72 = some (.bipush 25, 2)) rfl).trans ?_
  refine (px_go (by decide +kernel : pm_fe 52 74 = some (.iconst 5, 1)) rfl).trans ?_
  refine (px_go (by decide +kernel : pm_fe 52 75 = some (.aload_n 0, 1)) rfl).trans ?_
  refine (ry_get0 (idx := 41) (ci := 4) (k := 3) (by decide +kernel : 32 < 283 ∧ SHF 32 = (4, 9)) (by decide +kernel)).trans ?_
  refine (px_go (by decide +kernel : pm_fe 52 79 = some (.aload_n 0, 1)) rfl).trans ?_
  refine (ry_get0 (idx := 47) (ci := 4) (k := 5) (by decide +kernel : 32 < 283 ∧ SHF 32 = (4, 9)) (by decide +kernel)).trans ?_
  refine (px_go (by decide +kernel : pm_fe 52 83 = some (.isub, 1)) rfl).trans ?_
  refine (px_go (by decide +kernel : pm_fe 52 84 = some (.imul, 1)) rfl).trans ?_
  refine (px_go (by decide +kernel : pm_fe 52 85 = some (.isub, 1)) rfl).trans ?_
  refine (px_go (by decide +kernel : pm_fe 52 86 = some (.ishl, 1)) rfl).trans ?_
  refine (px_go (by decide +kernel : pm_fe 52 87 = some (.ior, 1)) rfl).trans ?_
  refine (ry_put0 (idx := 56) (ci := 4) (k := 7) (by decide +kernel : 32 < 283 ∧ SHF 32 = (4, 9)) (by decide +kernel)).trans ?_
  exact Iff.rfl
theorem r52_91 {d : Nat} {X : Nat × (Nat → Int)} {v : Nat → Int} {M : PH} {K : PV → PS → Prop} {l1 : Int} : pm_Run d 52 91 [vA 32, vI l1, PU, PU] [] (GF X, M, PTF v) K ↔ pm_Run d 52 0 [vA 32, vI l1, PU, PU] [] (GF X, pm_sa M 32 (pm_up (M 32) 3 ((M 32 3) + 1)), PTF v) K := by
  refine (px_go (by decide +kernel : pm_fe 52 91 = some (.aload_n 0, 1)) rfl).trans ?_
  refine (px_go (by decide +kernel : pm_fe 52 92 = some (.dup, 1)) rfl).trans ?_
  refine (ry_get0 (idx := 41) (ci := 4) (k := 3) (by decide +kernel : 32 < 283 ∧ SHF 32 = (4, 9)) (by decide +kernel)).trans ?_
  refine (px_go (by decide +kernel : pm_fe 52 96 = some (.iconst 1, 1)) rfl).trans ?_
  refine (px_go (by decide +kernel : pm_fe 52 97 = some (.iadd, 1)) rfl).trans ?_
  refine (ry_put0 (idx := 41) (ci := 4) (k := 3) (by decide +kernel : 32 < 283 ∧ SHF 32 = (4, 9)) (by decide +kernel)).trans ?_
  refine (px_goto (off := (-101)) (tgt := 0) (by decide +kernel)).trans ?_
  exact Iff.rfl
theorem r52_104 {d : Nat} {X : Nat × (Nat → Int)} {v : Nat → Int} {M : PH} {K : PV → PS → Prop} {l1 : Int} (h1 : inR (M 32 3)) (h2 : inR (M 32 2)) : pm_Run d 52 104 [vA 32, vI l1, PU, PU] [] (GF X, M, PTF v) K ↔ if M 32 2 ≤ M 32 3 then pm_Run d 52 147 [vA 32, vI l1, PU, PU] [] (GF X, M, PTF v) K else pm_Run d 52 115 [vA 32, vI l1, PU, PU] [] (GF X, M, PTF v) K := by
  refine (px_go (by decide +kernel : pm_fe 52 104 = some (.aload_n 0, 1)) rfl).trans ?_
  refine (ry_get0 (idx := 41) (ci := 4) (k := 3) (by decide +kernel : 32 < 283 ∧ SHF 32 = (4, 9)) (by decide +kernel)).trans ?_
  refine (px_go (by decide +kernel : pm_fe 52 108 = some (.aload_n 0, 1)) rfl).trans ?_
  refine (ry_get0 (idx := 37) (ci := 4) (k := 2) (by decide +kernel : 32 < 283 ∧ SHF 32 = (4, 9)) (by decide +kernel)).trans ?_
  refine (ry_ic_ge (off := 35) (tgt := 147) h1 h2 (by decide +kernel)).trans ?_
  exact Iff.rfl
theorem r52_115 {d : Nat} {X : Nat × (Nat → Int)} {v : Nat → Int} {M : PH} {K : PV → PS → Prop} {l1 : Int} (hv5 : v 5 = ((1 : Nat) : Int)) (h1 : 0 ≤ (M 32 3)) (h2 : (M 32 3) < 1600) (h3 : inR (M 1 (M 32 3).toNat)) : pm_Run d 52 115 [vA 32, vI l1, PU, PU] [] (GF X, M, PTF v) K ↔ if M 1 (M 32 3).toNat < 97 then pm_Run d 52 147 [vA 32, vI l1, PU, PU] [] (GF X, M, PTF v) K else pm_Run d 52 129 [vA 32, vI l1, PU, PU] [] (GF X, M, PTF v) K := by
  refine (px_go (by decide +kernel : pm_fe 52 115 = some (.aload_n 0, 1)) rfl).trans ?_
  refine (ry_get2 (idx := 15) (ci := 4) (k := 1) (by decide +kernel : 32 < 283 ∧ SHF 32 = (4, 9)) (ptd5 hv5) (by decide +kernel)).trans ?_
  refine (px_go (by decide +kernel : pm_fe 52 119 = some (.aload_n 0, 1)) rfl).trans ?_
  refine (ry_get0 (idx := 41) (ci := 4) (k := 3) (by decide +kernel : 32 < 283 ∧ SHF 32 = (4, 9)) (by decide +kernel)).trans ?_
  refine (ry_bald (by decide +kernel : 1 < 283 ∧ SHF 1 = (101, 1600)) h1 h2 (by decide +kernel)).trans ?_
  refine (px_go (by decide +kernel : pm_fe 52 124 = some (.bipush 97, 2)) rfl).trans ?_
  refine (ry_ic_lt (off := 21) (tgt := 147) h3 (by decide : (-2147483648 ≤ (97 : Int) ∧ (97 : Int) < 2147483648)) (by decide +kernel)).trans ?_
  exact Iff.rfl
theorem r52_129 {d : Nat} {X : Nat × (Nat → Int)} {v : Nat → Int} {M : PH} {K : PV → PS → Prop} {l1 : Int} (hv5 : v 5 = ((1 : Nat) : Int)) (h1 : 0 ≤ (M 32 3)) (h2 : (M 32 3) < 1600) (h3 : inR (M 1 (M 32 3).toNat)) : pm_Run d 52 129 [vA 32, vI l1, PU, PU] [] (GF X, M, PTF v) K ↔ if 122 < M 1 (M 32 3).toNat then pm_Run d 52 147 [vA 32, vI l1, PU, PU] [] (GF X, M, PTF v) K else pm_Run d 52 143 [vA 32, vI l1, PU, PU] [] (GF X, M, PTF v) K := by
  refine (px_go (by decide +kernel : pm_fe 52 129 = some (.aload_n 0, 1)) rfl).trans ?_
  refine (ry_get2 (idx := 15) (ci := 4) (k := 1) (by decide +kernel : 32 < 283 ∧ SHF 32 = (4, 9)) (ptd5 hv5) (by decide +kernel)).trans ?_
  refine (px_go (by decide +kernel : pm_fe 52 133 = some (.aload_n 0, 1)) rfl).trans ?_
  refine (ry_get0 (idx := 41) (ci := 4) (k := 3) (by decide +kernel : 32 < 283 ∧ SHF 32 = (4, 9)) (by decide +kernel)).trans ?_
  refine (ry_bald (by decide +kernel : 1 < 283 ∧ SHF 1 = (101, 1600)) h1 h2 (by decide +kernel)).trans ?_
  refine (px_go (by decide +kernel : pm_fe 52 138 = some (.bipush 122, 2)) rfl).trans ?_
  refine (ry_ic_gt (off := 7) (tgt := 147) h3 (by decide : (-2147483648 ≤ (122 : Int) ∧ (122 : Int) < 2147483648)) (by decide +kernel)).trans ?_
  exact Iff.rfl
theorem r52_143 {d : Nat} {X : Nat × (Nat → Int)} {v : Nat → Int} {M : PH} {K : PV → PS → Prop} {l1 : Int} : pm_Run d 52 143 [vA 32, vI l1, PU, PU] [] (GF X, M, PTF v) K ↔ pm_Run d 52 148 [vA 32, vI l1, PU, PU] [vI 1] (GF X, M, PTF v) K := by
  refine (px_go (by decide +kernel : pm_fe 52 143 = some (.iconst 1, 1)) rfl).trans ?_
  refine (px_goto (off := 4) (tgt := 148) (by decide +kernel)).trans ?_
  exact Iff.rfl
theorem r52_147 {d : Nat} {X : Nat × (Nat → Int)} {v : Nat → Int} {M : PH} {K : PV → PS → Prop} {l1 : Int} : pm_Run d 52 147 [vA 32, vI l1, PU, PU] [] (GF X, M, PTF v) K ↔ pm_Run d 52 148 [vA 32, vI l1, PU, PU] [vI 0] (GF X, M, PTF v) K := by
  refine (px_go (by decide +kernel : pm_fe 52 147 = some (.iconst 0, 1)) rfl).trans ?_
  exact Iff.rfl
theorem r52_148 {d : Nat} {X : Nat × (Nat → Int)} {v : Nat → Int} {M : PH} {K : PV → PS → Prop} {l1 s0 : Int} (h1 : inR l1) : pm_Run d 52 148 [vA 32, vI l1, PU, PU] [vI s0] (GF X, M, PTF v) K ↔ if l1 ≠ 0 then pm_Run d 52 158 [vA 32, vI l1, vI s0, PU] [vA 32] (GF X, M, PTF v) K else pm_Run d 52 154 [vA 32, vI l1, vI s0, PU] [vA 32] (GF X, M, PTF v) K := by
  refine (px_go (by decide +kernel : pm_fe 52 148 = some (.istore_n 2, 1)) rfl).trans ?_
  refine (px_go (by decide +kernel : pm_fe 52 149 = some (.aload_n 0, 1)) rfl).trans ?_
  refine (px_go (by decide +kernel : pm_fe 52 150 = some (.iload_n 1, 1)) rfl).trans ?_
  refine (ry_if_ne (off := 7) (tgt := 158) h1 (by decide +kernel)).trans ?_
  exact Iff.rfl
theorem r52_154 {d : Nat} {X : Nat × (Nat → Int)} {v : Nat → Int} {M : PH} {K : PV → PS → Prop} {l1 l2 : Int} (h1 : inR l2) : pm_Run d 52 154 [vA 32, vI l1, vI l2, PU] [vA 32] (GF X, M, PTF v) K ↔ if l2 = 0 then pm_Run d 52 162 [vA 32, vI l1, vI l2, PU] [vA 32] (GF X, M, PTF v) K else pm_Run d 52 158 [vA 32, vI l1, vI l2, PU] [vA 32] (GF X, M, PTF v) K := by
  refine (px_go (by decide +kernel : pm_fe 52 154 = some (.iload_n 2, 1)) rfl).trans ?_
  refine (ry_if_eq (off := 7) (tgt := 162) h1 (by decide +kernel)).trans ?_
  exact Iff.rfl
theorem r52_158 {d : Nat} {X : Nat × (Nat → Int)} {v : Nat → Int} {M : PH} {K : PV → PS → Prop} {l1 l2 : Int} : pm_Run d 52 158 [vA 32, vI l1, vI l2, PU] [vA 32] (GF X, M, PTF v) K ↔ pm_Run d 52 163 [vA 32, vI l1, vI l2, PU] [vI 4, vA 32] (GF X, M, PTF v) K := by
  refine (px_go (by decide +kernel : pm_fe 52 158 = some (.iconst 4, 1)) rfl).trans ?_
  refine (px_goto (off := 4) (tgt := 163) (by decide +kernel)).trans ?_
  exact Iff.rfl
theorem r52_162 {d : Nat} {X : Nat × (Nat → Int)} {v : Nat → Int} {M : PH} {K : PV → PS → Prop} {l1 l2 : Int} : pm_Run d 52 162 [vA 32, vI l1, vI l2, PU] [vA 32] (GF X, M, PTF v) K ↔ pm_Run d 52 163 [vA 32, vI l1, vI l2, PU] [vI 1, vA 32] (GF X, M, PTF v) K := by
  refine (px_go (by decide +kernel : pm_fe 52 162 = some (.iconst 1, 1)) rfl).trans ?_
  exact Iff.rfl
theorem r52_163 {d : Nat} {X : Nat × (Nat → Int)} {v : Nat → Int} {M : PH} {K : PV → PS → Prop} {l1 l2 s0 : Int} : pm_Run d 52 163 [vA 32, vI l1, vI l2, PU] [vI s0, vA 32] (GF X, M, PTF v) K ↔ pm_Run d 52 166 [vA 32, vI l1, vI l2, PU] [] (GF X, pm_sa M 32 (pm_up (M 32) 4 s0), PTF v) K := by
  refine (ry_put0 (idx := 44) (ci := 4) (k := 4) (by decide +kernel : 32 < 283 ∧ SHF 32 = (4, 9)) (by decide +kernel)).trans ?_
  exact Iff.rfl
theorem r52_166 {d : Nat} {X : Nat × (Nat → Int)} {v : Nat → Int} {M : PH} {K : PV → PS → Prop} {l1 l2 : Int} (h1 : inR l2) : pm_Run d 52 166 [vA 32, vI l1, vI l2, PU] [] (GF X, M, PTF v) K ↔ if l2 = 0 then pm_Run d 52 182 [vA 32, vI l1, vI l2, PU] [vA 32] (GF X, M, PTF v) K else pm_Run d 52 171 [vA 32, vI l1, vI l2, PU] [vA 32] (GF X, M, PTF v) K := by
  refine (px_go (by decide +kernel : pm_fe 52 166 = some (.aload_n 0, 1)) rfl).trans ?_
  refine (px_go (by decide +kernel : pm_fe 52 167 = some (.iload_n 2, 1)) rfl).trans ?_
  refine (ry_if_eq (off := 14) (tgt := 182) h1 (by decide +kernel)).trans ?_
  exact Iff.rfl
theorem r52_171 {d : Nat} {X : Nat × (Nat → Int)} {v : Nat → Int} {M : PH} {K : PV → PS → Prop} {l1 l2 : Int} (h1 : inR l1) : pm_Run d 52 171 [vA 32, vI l1, vI l2, PU] [vA 32] (GF X, M, PTF v) K ↔ if l1 ≠ 0 then pm_Run d 52 182 [vA 32, vI l1, vI l2, PU] [vA 32] (GF X, M, PTF v) K else pm_Run d 52 175 [vA 32, vI l1, vI l2, PU] [vA 32] (GF X, M, PTF v) K := by
  refine (px_go (by decide +kernel : pm_fe 52 171 = some (.iload_n 1, 1)) rfl).trans ?_
  refine (ry_if_ne (off := 10) (tgt := 182) h1 (by decide +kernel)).trans ?_
  exact Iff.rfl
theorem r52_175 {d : Nat} {X : Nat × (Nat → Int)} {v : Nat → Int} {M : PH} {K : PV → PS → Prop} {l1 l2 : Int} : pm_Run d 52 175 [vA 32, vI l1, vI l2, PU] [vA 32] (GF X, M, PTF v) K ↔ pm_Run d 52 186 [vA 32, vI l1, vI l2, PU] [vI (M 32 3), vA 32] (GF X, M, PTF v) K := by
  refine (px_go (by decide +kernel : pm_fe 52 175 = some (.aload_n 0, 1)) rfl).trans ?_
  refine (ry_get0 (idx := 41) (ci := 4) (k := 3) (by decide +kernel : 32 < 283 ∧ SHF 32 = (4, 9)) (by decide +kernel)).trans ?_
  refine (px_goto (off := 7) (tgt := 186) (by decide +kernel)).trans ?_
  exact Iff.rfl
theorem r52_182 {d : Nat} {X : Nat × (Nat → Int)} {v : Nat → Int} {M : PH} {K : PV → PS → Prop} {l1 l2 : Int} : pm_Run d 52 182 [vA 32, vI l1, vI l2, PU] [vA 32] (GF X, M, PTF v) K ↔ pm_Run d 52 186 [vA 32, vI l1, vI l2, PU] [vI (M 32 5), vA 32] (GF X, M, PTF v) K := by
  refine (px_go (by decide +kernel : pm_fe 52 182 = some (.aload_n 0, 1)) rfl).trans ?_
  refine (ry_get0 (idx := 47) (ci := 4) (k := 5) (by decide +kernel : 32 < 283 ∧ SHF 32 = (4, 9)) (by decide +kernel)).trans ?_
  exact Iff.rfl
theorem r52_186 {d : Nat} {X : Nat × (Nat → Int)} {v : Nat → Int} {M : PH} {K : PV → PS → Prop} {l1 l2 s0 : Int} : pm_Run d 52 186 [vA 32, vI l1, vI l2, PU] [vI s0, vA 32] (GF X, M, PTF v) K ↔ pm_Run d 52 189 [vA 32, vI l1, vI l2, PU] [] (GF X, pm_sa M 32 (pm_up (M 32) 6 s0), PTF v) K := by
  refine (ry_put0 (idx := 50) (ci := 4) (k := 6) (by decide +kernel : 32 < 283 ∧ SHF 32 = (4, 9)) (by decide +kernel)).trans ?_
  exact Iff.rfl
theorem r52_189 {d : Nat} {X : Nat × (Nat → Int)} {v : Nat → Int} {M : PH} {K : PV → PS → Prop} {l1 l2 : Int} : pm_Run d 52 189 [vA 32, vI l1, vI l2, PU] [] (GF X, M, PTF v) K ↔ pm_Run d 52 191 [vA 32, vI l1, vI l2, vI 0] [] (GF X, M, PTF v) K := by
  refine (px_go (by decide +kernel : pm_fe 52 189 = some (.iconst 0, 1)) rfl).trans ?_
  refine (px_go (by decide +kernel : pm_fe 52 190 = some (.istore_n 3, 1)) rfl).trans ?_
  exact Iff.rfl
theorem r52_191 {d : Nat} {X : Nat × (Nat → Int)} {v : Nat → Int} {M : PH} {K : PV → PS → Prop} {l1 l2 l3 : Int} (h1 : inR l3) : pm_Run d 52 191 [vA 32, vI l1, vI l2, vI l3] [] (GF X, M, PTF v) K ↔ if 29 ≤ l3 then pm_Run d 52 229 [vA 32, vI l1, vI l2, vI l3] [] (GF X, M, PTF v) K else pm_Run d 52 197 [vA 32, vI l1, vI l2, vI l3] [] (GF X, M, PTF v) K := by
  refine (px_go (by decide +kernel : pm_fe 52 191 = some (.iload_n 3, 1)) rfl).trans ?_
  refine (px_go (by decide +kernel : pm_fe 52 192 = some (.bipush 29, 2)) rfl).trans ?_
  refine (ry_ic_ge (off := 35) (tgt := 229) h1 (by decide : (-2147483648 ≤ (29 : Int) ∧ (29 : Int) < 2147483648)) (by decide +kernel)).trans ?_
  exact Iff.rfl
theorem r52_197 {d : Nat} {X : Nat × (Nat → Int)} {v : Nat → Int} {M : PH} {K : PV → PS → Prop} {l1 l2 l3 : Int} (h1 : inR (M 32 8)) : pm_Run d 52 197 [vA 32, vI l1, vI l2, vI l3] [] (GF X, M, PTF v) K ↔ if M 32 8 ≠ (-1) then pm_Run d 52 229 [vA 32, vI l1, vI l2, vI l3] [] (GF X, M, PTF v) K else pm_Run d 52 205 [vA 32, vI l1, vI l2, vI l3] [] (GF X, M, PTF v) K := by
  refine (px_go (by decide +kernel : pm_fe 52 197 = some (.aload_n 0, 1)) rfl).trans ?_
  refine (ry_get0 (idx := 53) (ci := 4) (k := 8) (by decide +kernel : 32 < 283 ∧ SHF 32 = (4, 9)) (by decide +kernel)).trans ?_
  refine (px_go (by decide +kernel : pm_fe 52 201 = some (.iconst (-1), 1)) rfl).trans ?_
  refine (ry_ic_ne (off := 27) (tgt := 229) h1 (by decide : (-2147483648 ≤ ((-1) : Int) ∧ ((-1) : Int) < 2147483648)) (by decide +kernel)).trans ?_
  exact Iff.rfl
theorem r52_205 {d : Nat} {X : Nat × (Nat → Int)} {v : Nat → Int} {M : PH} {K : PV → PS → Prop} {l1 l2 l3 : Int} (h1 : 0 ≤ l3) (h2 : l3 < 29) (h3 : inR (M 33 l3.toNat)) (h4 : inR (M 32 7)) : pm_Run d 52 205 [vA 32, vI l1, vI l2, vI l3] [] (GF X, M, PTF v) K ↔ if M 33 l3.toNat ≠ M 32 7 then pm_Run d 52 223 [vA 32, vI l1, vI l2, vI l3] [] (GF X, M, PTF v) K else pm_Run d 52 218 [vA 32, vI l1, vI l2, vI l3] [] (GF X, M, PTF v) K := by
  refine (px_go (by decide +kernel : pm_fe 52 205 = some (.aload_n 0, 1)) rfl).trans ?_
  refine (ry_get2 (idx := 9) (ci := 4) (k := 0) (by decide +kernel : 32 < 283 ∧ SHF 32 = (4, 9)) (ptf_l (a := 32) (k := 0) (n := 33) (by decide +kernel)) (by decide +kernel)).trans ?_
  refine (px_go (by decide +kernel : pm_fe 52 209 = some (.iload_n 3, 1)) rfl).trans ?_
  refine (ry_iald (by decide +kernel : 33 < 283 ∧ SHF 33 = (100, 29)) h1 h2 (by decide +kernel)).trans ?_
  refine (px_go (by decide +kernel : pm_fe 52 211 = some (.aload_n 0, 1)) rfl).trans ?_
  refine (ry_get0 (idx := 56) (ci := 4) (k := 7) (by decide +kernel : 32 < 283 ∧ SHF 32 = (4, 9)) (by decide +kernel)).trans ?_
  refine (ry_ic_ne (off := 8) (tgt := 223) h3 h4 (by decide +kernel)).trans ?_
  exact Iff.rfl
theorem r52_218 {d : Nat} {X : Nat × (Nat → Int)} {v : Nat → Int} {M : PH} {K : PV → PS → Prop} {l1 l2 l3 : Int} : pm_Run d 52 218 [vA 32, vI l1, vI l2, vI l3] [] (GF X, M, PTF v) K ↔ pm_Run d 52 223 [vA 32, vI l1, vI l2, vI l3] [] (GF X, pm_sa M 32 (pm_up (M 32) 8 l3), PTF v) K := by
  refine (px_go (by decide +kernel : pm_fe 52 218 = some (.aload_n 0, 1)) rfl).trans ?_
  refine (px_go (by decide +kernel : pm_fe 52 219 = some (.iload_n 3, 1)) rfl).trans ?_
  refine (ry_put0 (idx := 53) (ci := 4) (k := 8) (by decide +kernel : 32 < 283 ∧ SHF 32 = (4, 9)) (by decide +kernel)).trans ?_
  exact Iff.rfl
theorem r52_223 {d : Nat} {X : Nat × (Nat → Int)} {v : Nat → Int} {M : PH} {K : PV → PS → Prop} {l1 l2 l3 : Int} : pm_Run d 52 223 [vA 32, vI l1, vI l2, vI l3] [] (GF X, M, PTF v) K ↔ pm_Run d 52 191 [vA 32, vI l1, vI l2, vI (l3 + 1)] [] (GF X, M, PTF v) K := by
  refine (px_go (by decide +kernel : pm_fe 52 223 = some (.iinc 3 1, 3)) rfl).trans ?_
  refine (px_goto (off := (-35)) (tgt := 191) (by decide +kernel)).trans ?_
  exact Iff.rfl
theorem r52_229 {d : Nat} {X : Nat × (Nat → Int)} {v : Nat → Int} {M : PH} {K : PV → PS → Prop} {l1 l2 l3 : Int} : pm_Run d 52 229 [vA 32, vI l1, vI l2, vI l3] [] (GF X, M, PTF v) K ↔ K PU (GF X, M, PTF v) := by
  refine (px_rv (by decide +kernel)).trans ?_
  exact Iff.rfl
-- X4_takeNumber takeNumber(Z)V
theorem r53_0 {d : Nat} {X : Nat × (Nat → Int)} {v : Nat → Int} {M : PH} {K : PV → PS → Prop} {l1 : Int} (h1 : inR (M 32 3)) (h2 : inR (M 32 2)) : pm_Run d 53 0 [vA 32, vI l1, PU] [] (GF X, M, PTF v) K ↔ if M 32 2 ≤ M 32 3 then pm_Run d 53 89 [vA 32, vI l1, PU] [] (GF X, M, PTF v) K else pm_Run d 53 11 [vA 32, vI l1, PU] [] (GF X, M, PTF v) K := by
  refine (px_go (by decide +kernel : pm_fe 53 0 = some (.aload_n 0, 1)) rfl).trans ?_
  refine (ry_get0 (idx := 41) (ci := 4) (k := 3) (by decide +kernel : 32 < 283 ∧ SHF 32 = (4, 9)) (by decide +kernel)).trans ?_
  refine (px_go (by decide +kernel : pm_fe 53 4 = some (.aload_n 0, 1)) rfl).trans ?_
  refine (ry_get0 (idx := 37) (ci := 4) (k := 2) (by decide +kernel : 32 < 283 ∧ SHF 32 = (4, 9)) (by decide +kernel)).trans ?_
  refine (ry_ic_ge (off := 81) (tgt := 89) h1 h2 (by decide +kernel)).trans ?_
  exact Iff.rfl
theorem r53_11 {d : Nat} {X : Nat × (Nat → Int)} {v : Nat → Int} {M : PH} {K : PV → PS → Prop} {l1 : Int} (hv5 : v 5 = ((1 : Nat) : Int)) (h1 : 0 ≤ (M 32 3)) (h2 : (M 32 3) < 1600) (h3 : inR (M 1 (M 32 3).toNat)) : pm_Run d 53 11 [vA 32, vI l1, PU] [] (GF X, M, PTF v) K ↔ if M 1 (M 32 3).toNat < 48 then pm_Run d 53 89 [vA 32, vI l1, PU] [] (GF X, M, PTF v) K else pm_Run d 53 25 [vA 32, vI l1, PU] [] (GF X, M, PTF v) K := by
  refine (px_go (by decide +kernel : pm_fe 53 11 = some (.aload_n 0, 1)) rfl).trans ?_
  refine (ry_get2 (idx := 15) (ci := 4) (k := 1) (by decide +kernel : 32 < 283 ∧ SHF 32 = (4, 9)) (ptd5 hv5) (by decide +kernel)).trans ?_
  refine (px_go (by decide +kernel : pm_fe 53 15 = some (.aload_n 0, 1)) rfl).trans ?_
  refine (ry_get0 (idx := 41) (ci := 4) (k := 3) (by decide +kernel : 32 < 283 ∧ SHF 32 = (4, 9)) (by decide +kernel)).trans ?_
  refine (ry_bald (by decide +kernel : 1 < 283 ∧ SHF 1 = (101, 1600)) h1 h2 (by decide +kernel)).trans ?_
  refine (px_go (by decide +kernel : pm_fe 53 20 = some (.bipush 48, 2)) rfl).trans ?_
  refine (ry_ic_lt (off := 67) (tgt := 89) h3 (by decide : (-2147483648 ≤ (48 : Int) ∧ (48 : Int) < 2147483648)) (by decide +kernel)).trans ?_
  exact Iff.rfl
theorem r53_25 {d : Nat} {X : Nat × (Nat → Int)} {v : Nat → Int} {M : PH} {K : PV → PS → Prop} {l1 : Int} (hv5 : v 5 = ((1 : Nat) : Int)) (h1 : 0 ≤ (M 32 3)) (h2 : (M 32 3) < 1600) (h3 : inR (M 1 (M 32 3).toNat)) : pm_Run d 53 25 [vA 32, vI l1, PU] [] (GF X, M, PTF v) K ↔ if 57 < M 1 (M 32 3).toNat then pm_Run d 53 89 [vA 32, vI l1, PU] [] (GF X, M, PTF v) K else pm_Run d 53 39 [vA 32, vI l1, PU] [] (GF X, M, PTF v) K := by
  refine (px_go (by decide +kernel : pm_fe 53 25 = some (.aload_n 0, 1)) rfl).trans ?_
  refine (ry_get2 (idx := 15) (ci := 4) (k := 1) (by decide +kernel : 32 < 283 ∧ SHF 32 = (4, 9)) (ptd5 hv5) (by decide +kernel)).trans ?_
  refine (px_go (by decide +kernel : pm_fe 53 29 = some (.aload_n 0, 1)) rfl).trans ?_
  refine (ry_get0 (idx := 41) (ci := 4) (k := 3) (by decide +kernel : 32 < 283 ∧ SHF 32 = (4, 9)) (by decide +kernel)).trans ?_
  refine (ry_bald (by decide +kernel : 1 < 283 ∧ SHF 1 = (101, 1600)) h1 h2 (by decide +kernel)).trans ?_
  refine (px_go (by decide +kernel : pm_fe 53 34 = some (.bipush 57, 2)) rfl).trans ?_
  refine (ry_ic_gt (off := 53) (tgt := 89) h3 (by decide : (-2147483648 ≤ (57 : Int) ∧ (57 : Int) < 2147483648)) (by decide +kernel)).trans ?_
  exact Iff.rfl
theorem r53_39 {d : Nat} {X : Nat × (Nat → Int)} {v : Nat → Int} {M : PH} {K : PV → PS → Prop} {l1 : Int} (h1 : inR ((M 32 3) - (M 32 5))) : pm_Run d 53 39 [vA 32, vI l1, PU] [] (GF X, M, PTF v) K ↔ if 4 ≤ (M 32 3) - (M 32 5) then pm_Run d 53 89 [vA 32, vI l1, PU] [] (GF X, M, PTF v) K else pm_Run d 53 52 [vA 32, vI l1, PU] [] (GF X, M, PTF v) K := by
  refine (px_go (by decide +kernel : pm_fe 53 39 = some (.aload_n 0, 1)) rfl).trans ?_
  refine (ry_get0 (idx := 41) (ci := 4) (k := 3) (by decide +kernel : 32 < 283 ∧ SHF 32 = (4, 9)) (by decide +kernel)).trans ?_
  refine (px_go (by decide +kernel : pm_fe 53 43 = some (.aload_n 0, 1)) rfl).trans ?_
  refine (ry_get0 (idx := 47) (ci := 4) (k := 5) (by decide +kernel : 32 < 283 ∧ SHF 32 = (4, 9)) (by decide +kernel)).trans ?_
  refine (px_go (by decide +kernel : pm_fe 53 47 = some (.isub, 1)) rfl).trans ?_
  refine (px_go (by decide +kernel : pm_fe 53 48 = some (.iconst 4, 1)) rfl).trans ?_
  refine (ry_ic_ge (off := 40) (tgt := 89) h1 (by decide : (-2147483648 ≤ (4 : Int) ∧ (4 : Int) < 2147483648)) (by decide +kernel)).trans ?_
  exact Iff.rfl
theorem r53_52 {d : Nat} {X : Nat × (Nat → Int)} {v : Nat → Int} {M : PH} {K : PV → PS → Prop} {l1 : Int} (hv5 : v 5 = ((1 : Nat) : Int)) (h1 : 0 ≤ (M 32 3)) (h2 : (M 32 3) < 1600) : pm_Run d 53 52 [vA 32, vI l1, PU] [] (GF X, M, PTF v) K ↔ pm_Run d 53 76 [vA 32, vI l1, PU] [] (GF X, pm_sa M 32 (pm_up (M 32) 7 ((((M 32 7) * 10) + (M 1 (M 32 3).toNat)) - 48)), PTF v) K := by
  refine (px_go (by decide +kernel : pm_fe 53 52 = some (.aload_n 0, 1)) rfl).trans ?_
  refine (px_go (by decide +kernel : pm_fe 53 53 = some (.aload_n 0, 1)) rfl).trans ?_
  refine (ry_get0 (idx := 56) (ci := 4) (k := 7) (by decide +kernel : 32 < 283 ∧ SHF 32 = (4, 9)) (by decide +kernel)).trans ?_
  refine (px_go (by decide +kernel : pm_fe 53 57 = some (.bipush 10, 2)) rfl).trans ?_
  refine (px_go (by decide +kernel : pm_fe 53 59 = some (.imul, 1)) rfl).trans ?_
  refine (px_go (by decide +kernel : pm_fe 53 60 = some (.aload_n 0, 1)) rfl).trans ?_
  refine (ry_get2 (idx := 15) (ci := 4) (k := 1) (by decide +kernel : 32 < 283 ∧ SHF 32 = (4, 9)) (ptd5 hv5) (by decide +kernel)).trans ?_
  refine (px_go (by decide +kernel : pm_fe 53 64 = some (.aload_n 0, 1)) rfl).trans ?_
  refine (ry_get0 (idx := 41) (ci := 4) (k := 3) (by decide +kernel : 32 < 283 ∧ SHF 32 = (4, 9)) (by decide +kernel)).trans ?_
  refine (ry_bald (by decide +kernel : 1 < 283 ∧ SHF 1 = (101, 1600)) h1 h2 (by decide +kernel)).trans ?_
  refine (px_go (by decide +kernel : pm_fe 53 69 = some (.iadd, 1)) rfl).trans ?_
  refine (px_go (by decide +kernel : pm_fe 53 70 = some (.bipush 48, 2)) rfl).trans ?_
  refine (px_go (by decide +kernel : pm_fe 53 72 = some (.isub, 1)) rfl).trans ?_
  refine (ry_put0 (idx := 56) (ci := 4) (k := 7) (by decide +kernel : 32 < 283 ∧ SHF 32 = (4, 9)) (by decide +kernel)).trans ?_
  exact Iff.rfl
theorem r53_76 {d : Nat} {X : Nat × (Nat → Int)} {v : Nat → Int} {M : PH} {K : PV → PS → Prop} {l1 : Int} : pm_Run d 53 76 [vA 32, vI l1, PU] [] (GF X, M, PTF v) K ↔ pm_Run d 53 0 [vA 32, vI l1, PU] [] (GF X, pm_sa M 32 (pm_up (M 32) 3 ((M 32 3) + 1)), PTF v) K := by
  refine (px_go (by decide +kernel : pm_fe 53 76 = some (.aload_n 0, 1)) rfl).trans ?_
  refine (px_go (by decide +kernel : pm_fe 53 77 = some (.dup, 1)) rfl).trans ?_
  refine (ry_get0 (idx := 41) (ci := 4) (k := 3) (by decide +kernel : 32 < 283 ∧ SHF 32 = (4, 9)) (by decide +kernel)).trans ?_
  refine (px_go (by decide +kernel : pm_fe 53 81 = some (.iconst 1, 1)) rfl).trans ?_
  refine (px_go (by decide +kernel : pm_fe 53 82 = some (.iadd, 1)) rfl).trans ?_
  refine (ry_put0 (idx := 41) (ci := 4) (k := 3) (by decide +kernel : 32 < 283 ∧ SHF 32 = (4, 9)) (by decide +kernel)).trans ?_
  refine (px_goto (off := (-86)) (tgt := 0) (by decide +kernel)).trans ?_
  exact Iff.rfl
theorem r53_89 {d : Nat} {X : Nat × (Nat → Int)} {v : Nat → Int} {M : PH} {K : PV → PS → Prop} {l1 : Int} (h1 : inR (M 32 3)) (h2 : inR (M 32 2)) : pm_Run d 53 89 [vA 32, vI l1, PU] [] (GF X, M, PTF v) K ↔ if M 32 2 ≤ M 32 3 then pm_Run d 53 132 [vA 32, vI l1, PU] [] (GF X, M, PTF v) K else pm_Run d 53 100 [vA 32, vI l1, PU] [] (GF X, M, PTF v) K := by
  refine (px_go (by decide +kernel : pm_fe 53 89 = some (.aload_n 0, 1)) rfl).trans ?_
  refine (ry_get0 (idx := 41) (ci := 4) (k := 3) (by decide +kernel : 32 < 283 ∧ SHF 32 = (4, 9)) (by decide +kernel)).trans ?_
  refine (px_go (by decide +kernel : pm_fe 53 93 = some (.aload_n 0, 1)) rfl).trans ?_
  refine (ry_get0 (idx := 37) (ci := 4) (k := 2) (by decide +kernel : 32 < 283 ∧ SHF 32 = (4, 9)) (by decide +kernel)).trans ?_
  refine (ry_ic_ge (off := 35) (tgt := 132) h1 h2 (by decide +kernel)).trans ?_
  exact Iff.rfl
theorem r53_100 {d : Nat} {X : Nat × (Nat → Int)} {v : Nat → Int} {M : PH} {K : PV → PS → Prop} {l1 : Int} (hv5 : v 5 = ((1 : Nat) : Int)) (h1 : 0 ≤ (M 32 3)) (h2 : (M 32 3) < 1600) (h3 : inR (M 1 (M 32 3).toNat)) : pm_Run d 53 100 [vA 32, vI l1, PU] [] (GF X, M, PTF v) K ↔ if M 1 (M 32 3).toNat < 48 then pm_Run d 53 132 [vA 32, vI l1, PU] [] (GF X, M, PTF v) K else pm_Run d 53 114 [vA 32, vI l1, PU] [] (GF X, M, PTF v) K := by
  refine (px_go (by decide +kernel : pm_fe 53 100 = some (.aload_n 0, 1)) rfl).trans ?_
  refine (ry_get2 (idx := 15) (ci := 4) (k := 1) (by decide +kernel : 32 < 283 ∧ SHF 32 = (4, 9)) (ptd5 hv5) (by decide +kernel)).trans ?_
  refine (px_go (by decide +kernel : pm_fe 53 104 = some (.aload_n 0, 1)) rfl).trans ?_
  refine (ry_get0 (idx := 41) (ci := 4) (k := 3) (by decide +kernel : 32 < 283 ∧ SHF 32 = (4, 9)) (by decide +kernel)).trans ?_
  refine (ry_bald (by decide +kernel : 1 < 283 ∧ SHF 1 = (101, 1600)) h1 h2 (by decide +kernel)).trans ?_
  refine (px_go (by decide +kernel : pm_fe 53 109 = some (.bipush 48, 2)) rfl).trans ?_
  refine (ry_ic_lt (off := 21) (tgt := 132) h3 (by decide : (-2147483648 ≤ (48 : Int) ∧ (48 : Int) < 2147483648)) (by decide +kernel)).trans ?_
  exact Iff.rfl
theorem r53_114 {d : Nat} {X : Nat × (Nat → Int)} {v : Nat → Int} {M : PH} {K : PV → PS → Prop} {l1 : Int} (hv5 : v 5 = ((1 : Nat) : Int)) (h1 : 0 ≤ (M 32 3)) (h2 : (M 32 3) < 1600) (h3 : inR (M 1 (M 32 3).toNat)) : pm_Run d 53 114 [vA 32, vI l1, PU] [] (GF X, M, PTF v) K ↔ if 57 < M 1 (M 32 3).toNat then pm_Run d 53 132 [vA 32, vI l1, PU] [] (GF X, M, PTF v) K else pm_Run d 53 128 [vA 32, vI l1, PU] [] (GF X, M, PTF v) K := by
  refine (px_go (by decide +kernel : pm_fe 53 114 = some (.aload_n 0, 1)) rfl).trans ?_
  refine (ry_get2 (idx := 15) (ci := 4) (k := 1) (by decide +kernel : 32 < 283 ∧ SHF 32 = (4, 9)) (ptd5 hv5) (by decide +kernel)).trans ?_
  refine (px_go (by decide +kernel : pm_fe 53 118 = some (.aload_n 0, 1)) rfl).trans ?_
  refine (ry_get0 (idx := 41) (ci := 4) (k := 3) (by decide +kernel : 32 < 283 ∧ SHF 32 = (4, 9)) (by decide +kernel)).trans ?_
  refine (ry_bald (by decide +kernel : 1 < 283 ∧ SHF 1 = (101, 1600)) h1 h2 (by decide +kernel)).trans ?_
  refine (px_go (by decide +kernel : pm_fe 53 123 = some (.bipush 57, 2)) rfl).trans ?_
  refine (ry_ic_gt (off := 7) (tgt := 132) h3 (by decide : (-2147483648 ≤ (57 : Int) ∧ (57 : Int) < 2147483648)) (by decide +kernel)).trans ?_
  exact Iff.rfl
theorem r53_128 {d : Nat} {X : Nat × (Nat → Int)} {v : Nat → Int} {M : PH} {K : PV → PS → Prop} {l1 : Int} : pm_Run d 53 128 [vA 32, vI l1, PU] [] (GF X, M, PTF v) K ↔ pm_Run d 53 133 [vA 32, vI l1, PU] [vI 1] (GF X, M, PTF v) K := by
  refine (px_go (by decide +kernel : pm_fe 53 128 = some (.iconst 1, 1)) rfl).trans ?_
  refine (px_goto (off := 4) (tgt := 133) (by decide +kernel)).trans ?_
  exact Iff.rfl
theorem r53_132 {d : Nat} {X : Nat × (Nat → Int)} {v : Nat → Int} {M : PH} {K : PV → PS → Prop} {l1 : Int} : pm_Run d 53 132 [vA 32, vI l1, PU] [] (GF X, M, PTF v) K ↔ pm_Run d 53 133 [vA 32, vI l1, PU] [vI 0] (GF X, M, PTF v) K := by
  refine (px_go (by decide +kernel : pm_fe 53 132 = some (.iconst 0, 1)) rfl).trans ?_
  exact Iff.rfl
theorem r53_133 {d : Nat} {X : Nat × (Nat → Int)} {v : Nat → Int} {M : PH} {K : PV → PS → Prop} {l1 s0 : Int} (h1 : inR l1) : pm_Run d 53 133 [vA 32, vI l1, PU] [vI s0] (GF X, M, PTF v) K ↔ if l1 ≠ 0 then pm_Run d 53 143 [vA 32, vI l1, vI s0] [vA 32] (GF X, M, PTF v) K else pm_Run d 53 139 [vA 32, vI l1, vI s0] [vA 32] (GF X, M, PTF v) K := by
  refine (px_go (by decide +kernel : pm_fe 53 133 = some (.istore_n 2, 1)) rfl).trans ?_
  refine (px_go (by decide +kernel : pm_fe 53 134 = some (.aload_n 0, 1)) rfl).trans ?_
  refine (px_go (by decide +kernel : pm_fe 53 135 = some (.iload_n 1, 1)) rfl).trans ?_
  refine (ry_if_ne (off := 7) (tgt := 143) h1 (by decide +kernel)).trans ?_
  exact Iff.rfl
theorem r53_139 {d : Nat} {X : Nat × (Nat → Int)} {v : Nat → Int} {M : PH} {K : PV → PS → Prop} {l1 l2 : Int} (h1 : inR l2) : pm_Run d 53 139 [vA 32, vI l1, vI l2] [vA 32] (GF X, M, PTF v) K ↔ if l2 = 0 then pm_Run d 53 147 [vA 32, vI l1, vI l2] [vA 32] (GF X, M, PTF v) K else pm_Run d 53 143 [vA 32, vI l1, vI l2] [vA 32] (GF X, M, PTF v) K := by
  refine (px_go (by decide +kernel : pm_fe 53 139 = some (.iload_n 2, 1)) rfl).trans ?_
  refine (ry_if_eq (off := 7) (tgt := 147) h1 (by decide +kernel)).trans ?_
  exact Iff.rfl
theorem r53_143 {d : Nat} {X : Nat × (Nat → Int)} {v : Nat → Int} {M : PH} {K : PV → PS → Prop} {l1 l2 : Int} : pm_Run d 53 143 [vA 32, vI l1, vI l2] [vA 32] (GF X, M, PTF v) K ↔ pm_Run d 53 148 [vA 32, vI l1, vI l2] [vI 4, vA 32] (GF X, M, PTF v) K := by
  refine (px_go (by decide +kernel : pm_fe 53 143 = some (.iconst 4, 1)) rfl).trans ?_
  refine (px_goto (off := 4) (tgt := 148) (by decide +kernel)).trans ?_
  exact Iff.rfl
theorem r53_147 {d : Nat} {X : Nat × (Nat → Int)} {v : Nat → Int} {M : PH} {K : PV → PS → Prop} {l1 l2 : Int} : pm_Run d 53 147 [vA 32, vI l1, vI l2] [vA 32] (GF X, M, PTF v) K ↔ pm_Run d 53 148 [vA 32, vI l1, vI l2] [vI 2, vA 32] (GF X, M, PTF v) K := by
  refine (px_go (by decide +kernel : pm_fe 53 147 = some (.iconst 2, 1)) rfl).trans ?_
  exact Iff.rfl
theorem r53_148 {d : Nat} {X : Nat × (Nat → Int)} {v : Nat → Int} {M : PH} {K : PV → PS → Prop} {l1 l2 s0 : Int} : pm_Run d 53 148 [vA 32, vI l1, vI l2] [vI s0, vA 32] (GF X, M, PTF v) K ↔ pm_Run d 53 151 [vA 32, vI l1, vI l2] [] (GF X, pm_sa M 32 (pm_up (M 32) 4 s0), PTF v) K := by
  refine (ry_put0 (idx := 44) (ci := 4) (k := 4) (by decide +kernel : 32 < 283 ∧ SHF 32 = (4, 9)) (by decide +kernel)).trans ?_
  exact Iff.rfl
theorem r53_151 {d : Nat} {X : Nat × (Nat → Int)} {v : Nat → Int} {M : PH} {K : PV → PS → Prop} {l1 l2 : Int} (h1 : inR l2) : pm_Run d 53 151 [vA 32, vI l1, vI l2] [] (GF X, M, PTF v) K ↔ if l2 = 0 then pm_Run d 53 167 [vA 32, vI l1, vI l2] [vA 32] (GF X, M, PTF v) K else pm_Run d 53 156 [vA 32, vI l1, vI l2] [vA 32] (GF X, M, PTF v) K := by
  refine (px_go (by decide +kernel : pm_fe 53 151 = some (.aload_n 0, 1)) rfl).trans ?_
  refine (px_go (by decide +kernel : pm_fe 53 152 = some (.iload_n 2, 1)) rfl).trans ?_
  refine (ry_if_eq (off := 14) (tgt := 167) h1 (by decide +kernel)).trans ?_
  exact Iff.rfl
theorem r53_156 {d : Nat} {X : Nat × (Nat → Int)} {v : Nat → Int} {M : PH} {K : PV → PS → Prop} {l1 l2 : Int} (h1 : inR l1) : pm_Run d 53 156 [vA 32, vI l1, vI l2] [vA 32] (GF X, M, PTF v) K ↔ if l1 ≠ 0 then pm_Run d 53 167 [vA 32, vI l1, vI l2] [vA 32] (GF X, M, PTF v) K else pm_Run d 53 160 [vA 32, vI l1, vI l2] [vA 32] (GF X, M, PTF v) K := by
  refine (px_go (by decide +kernel : pm_fe 53 156 = some (.iload_n 1, 1)) rfl).trans ?_
  refine (ry_if_ne (off := 10) (tgt := 167) h1 (by decide +kernel)).trans ?_
  exact Iff.rfl
theorem r53_160 {d : Nat} {X : Nat × (Nat → Int)} {v : Nat → Int} {M : PH} {K : PV → PS → Prop} {l1 l2 : Int} : pm_Run d 53 160 [vA 32, vI l1, vI l2] [vA 32] (GF X, M, PTF v) K ↔ pm_Run d 53 171 [vA 32, vI l1, vI l2] [vI (M 32 3), vA 32] (GF X, M, PTF v) K := by
  refine (px_go (by decide +kernel : pm_fe 53 160 = some (.aload_n 0, 1)) rfl).trans ?_
  refine (ry_get0 (idx := 41) (ci := 4) (k := 3) (by decide +kernel : 32 < 283 ∧ SHF 32 = (4, 9)) (by decide +kernel)).trans ?_
  refine (px_goto (off := 7) (tgt := 171) (by decide +kernel)).trans ?_
  exact Iff.rfl
theorem r53_167 {d : Nat} {X : Nat × (Nat → Int)} {v : Nat → Int} {M : PH} {K : PV → PS → Prop} {l1 l2 : Int} : pm_Run d 53 167 [vA 32, vI l1, vI l2] [vA 32] (GF X, M, PTF v) K ↔ pm_Run d 53 171 [vA 32, vI l1, vI l2] [vI (M 32 5), vA 32] (GF X, M, PTF v) K := by
  refine (px_go (by decide +kernel : pm_fe 53 167 = some (.aload_n 0, 1)) rfl).trans ?_
  refine (ry_get0 (idx := 47) (ci := 4) (k := 5) (by decide +kernel : 32 < 283 ∧ SHF 32 = (4, 9)) (by decide +kernel)).trans ?_
  exact Iff.rfl
theorem r53_171 {d : Nat} {X : Nat × (Nat → Int)} {v : Nat → Int} {M : PH} {K : PV → PS → Prop} {l1 l2 s0 : Int} : pm_Run d 53 171 [vA 32, vI l1, vI l2] [vI s0, vA 32] (GF X, M, PTF v) K ↔ K PU (GF X, pm_sa M 32 (pm_up (M 32) 6 s0), PTF v) := by
  refine (ry_put0 (idx := 50) (ci := 4) (k := 6) (by decide +kernel : 32 < 283 ∧ SHF 32 = (4, 9)) (by decide +kernel)).trans ?_
  refine (px_rv (by decide +kernel)).trans ?_
  exact Iff.rfl
