-- X10_begin begin(LMoonTender$Chart;)V
-- X10_forget forget()V
theorem r127_0 {d : Nat} {X : Nat × (Nat → Int)} {v : Nat → Int} {M : PH} {K : PV → PS → Prop} : pm_Run d 127 0 [vA 91] [] (GF X, M, PTF v) K ↔ K PU (GF X, pm_sa M 91 (pm_up (M 91) 7 0), PTF v) := by
  refine (px_go (by decide +kernel : pm_fe 127 0 = some (.aload_n 0, 1)) rfl).trans ?_
  refine (px_go (by decide +kernel : pm_fe 127 1 = some (.iconst 0, 1)) rfl).trans ?_
  refine (ry_put0 (idx := 43) (ci := 10) (k := 7) (by decide +kernel : 91 < 283 ∧ SHF 91 = (10, 11)) (by decide +kernel)).trans ?_
  refine (px_rv (by decide +kernel)).trans ?_
  exact Iff.rfl
-- X10_take take([BII)Z
theorem r128_0 {d : Nat} {r nr : Nat} {X : Nat × (Nat → Int)} {v : Nat → Int} {M : PH} {K : PV → PS → Prop} {l2 l3 : Int} (h1 : inR l2) : pm_Run d 128 0 [vA 91, vA r, vI l2, vI l3, PU] [] (GF X, M, PTF v) K ↔ if l2 < 3 then pm_Run d 128 23 [vA 91, vA r, vI l2, vI l3, PU] [] (GF X, M, PTF v) K else pm_Run d 128 5 [vA 91, vA r, vI l2, vI l3, PU] [] (GF X, M, PTF v) K := by
  refine (px_go (by decide +kernel : pm_fe 128 0 = some (.iload_n 2, 1)) rfl).trans ?_
  refine (px_go (by decide +kernel : pm_fe 128 1 = some (.iconst 3, 1)) rfl).trans ?_
  refine (ry_ic_lt (off := 21) (tgt := 23) h1 (by decide : (-2147483648 ≤ (3 : Int) ∧ (3 : Int) < 2147483648)) (by decide +kernel)).trans ?_
  exact Iff.rfl
theorem r128_5 {d : Nat} {r nr : Nat} {X : Nat × (Nat → Int)} {v : Nat → Int} {M : PH} {K : PV → PS → Prop} {l2 l3 : Int} (h1 : inR l2) : pm_Run d 128 5 [vA 91, vA r, vI l2, vI l3, PU] [] (GF X, M, PTF v) K ↔ if 60 < l2 then pm_Run d 128 23 [vA 91, vA r, vI l2, vI l3, PU] [] (GF X, M, PTF v) K else pm_Run d 128 11 [vA 91, vA r, vI l2, vI l3, PU] [] (GF X, M, PTF v) K := by
  refine (px_go (by decide +kernel : pm_fe 128 5 = some (.iload_n 2, 1)) rfl).trans ?_
  refine (px_go (by decide +kernel : pm_fe 128 6 = some (.bipush 60, 2)) rfl).trans ?_
  refine (ry_ic_gt (off := 15) (tgt := 23) h1 (by decide : (-2147483648 ≤ (60 : Int) ∧ (60 : Int) < 2147483648)) (by decide +kernel)).trans ?_
  exact Iff.rfl
theorem r128_11 {d : Nat} {r nr : Nat} {X : Nat × (Nat → Int)} {v : Nat → Int} {M : PH} {K : PV → PS → Prop} {l2 l3 : Int} (hr : r < 283 ∧ SHF r = (101, nr)) (h1 : inR l2) (h2 : inR (nr : Int)) : pm_Run d 128 11 [vA 91, vA r, vI l2, vI l3, PU] [] (GF X, M, PTF v) K ↔ if (nr : Int) < l2 then pm_Run d 128 23 [vA 91, vA r, vI l2, vI l3, PU] [] (GF X, M, PTF v) K else pm_Run d 128 17 [vA 91, vA r, vI l2, vI l3, PU] [] (GF X, M, PTF v) K := by
  refine (px_go (by decide +kernel : pm_fe 128 11 = some (.iload_n 2, 1)) rfl).trans ?_
  refine (px_go (by decide +kernel : pm_fe 128 12 = some (.aload_n 1, 1)) rfl).trans ?_
  refine (ry_alen hr (by decide) (by decide +kernel)).trans ?_
  refine (ry_ic_gt (off := 9) (tgt := 23) h1 h2 (by decide +kernel)).trans ?_
  exact Iff.rfl
theorem r128_17 {d : Nat} {r nr : Nat} {X : Nat × (Nat → Int)} {v : Nat → Int} {M : PH} {K : PV → PS → Prop} {l2 l3 : Int} (h1 : inR l2) (h2 : inR (l2.tmod 3)) : pm_Run d 128 17 [vA 91, vA r, vI l2, vI l3, PU] [] (GF X, M, PTF v) K ↔ if l2.tmod 3 = 0 then pm_Run d 128 25 [vA 91, vA r, vI l2, vI l3, PU] [] (GF X, M, PTF v) K else pm_Run d 128 23 [vA 91, vA r, vI l2, vI l3, PU] [] (GF X, M, PTF v) K := by
  refine (px_go (by decide +kernel : pm_fe 128 17 = some (.iload_n 2, 1)) rfl).trans ?_
  refine (px_go (by decide +kernel : pm_fe 128 18 = some (.iconst 3, 1)) rfl).trans ?_
  refine (ry_irem h1 (by decide : (-2147483648 ≤ (3 : Int) ∧ (3 : Int) < 2147483648)) (by decide : (3 : Int) ≠ (0 : Int)) (by decide +kernel)).trans ?_
  refine (ry_if_eq (off := 5) (tgt := 25) h2 (by decide +kernel)).trans ?_
  exact Iff.rfl
theorem r128_23 {d : Nat} {r nr : Nat} {X : Nat × (Nat → Int)} {v : Nat → Int} {M : PH} {K : PV → PS → Prop} {l2 l3 : Int} : pm_Run d 128 23 [vA 91, vA r, vI l2, vI l3, PU] [] (GF X, M, PTF v) K ↔ K (vI 0) (GF X, M, PTF v) := by
  refine (px_go (by decide +kernel : pm_fe 128 23 = some (.iconst 0, 1)) rfl).trans ?_
  refine (px_rz (by decide +kernel)).trans ((and_iff_right (by decide : (0 : Int) = (0 : Int) ∨ (0 : Int) = (1 : Int))).trans ?_)
  exact Iff.rfl
theorem r128_25 {d : Nat} {r nr : Nat} {X : Nat × (Nat → Int)} {v : Nat → Int} {M : PH} {K : PV → PS → Prop} {l2 l3 : Int} : pm_Run d 128 25 [vA 91, vA r, vI l2, vI l3, PU] [] (GF X, M, PTF v) K ↔ pm_Run d 128 28 [vA 91, vA r, vI l2, vI l3, vI 0] [] (GF X, M, PTF v) K := by
  refine (px_go (by decide +kernel : pm_fe 128 25 = some (.iconst 0, 1)) rfl).trans ?_
  refine (px_go (by decide +kernel : pm_fe 128 26 = some (.istore 4, 2)) rfl).trans ?_
  exact Iff.rfl
theorem r128_28 {d : Nat} {r nr : Nat} {X : Nat × (Nat → Int)} {v : Nat → Int} {M : PH} {K : PV → PS → Prop} {l2 l3 l4 : Int} (h1 : inR l4) (h2 : inR l2) : pm_Run d 128 28 [vA 91, vA r, vI l2, vI l3, vI l4] [] (GF X, M, PTF v) K ↔ if l2 ≤ l4 then pm_Run d 128 54 [vA 91, vA r, vI l2, vI l3, vI l4] [] (GF X, M, PTF v) K else pm_Run d 128 34 [vA 91, vA r, vI l2, vI l3, vI l4] [] (GF X, M, PTF v) K := by
  refine (px_go (by decide +kernel : pm_fe 128 28 = some (.iload 4, 2)) rfl).trans ?_
  refine (px_go (by decide +kernel : pm_fe 128 30 = some (.iload_n 2, 1)) rfl).trans ?_
  refine (ry_ic_ge (off := 23) (tgt := 54) h1 h2 (by decide +kernel)).trans ?_
  exact Iff.rfl
theorem r128_34 {d : Nat} {r nr : Nat} {X : Nat × (Nat → Int)} {v : Nat → Int} {M : PH} {K : PV → PS → Prop} {l2 l3 l4 : Int} (hr : r < 283 ∧ SHF r = (101, nr)) (h1 : 0 ≤ l4) (h2 : l4 < nr) (h3 : inR (pm_and (M r l4.toNat) 255)) (h4 : inR l3) : pm_Run d 128 34 [vA 91, vA r, vI l2, vI l3, vI l4] [] (GF X, M, PTF v) K ↔ if pm_and (M r l4.toNat) 255 < l3 then pm_Run d 128 48 [vA 91, vA r, vI l2, vI l3, vI l4] [] (GF X, M, PTF v) K else pm_Run d 128 46 [vA 91, vA r, vI l2, vI l3, vI l4] [] (GF X, M, PTF v) K := by
  refine (px_go (by decide +kernel : pm_fe 128 34 = some (.aload_n 1, 1)) rfl).trans ?_
  refine (px_go (by decide +kernel : pm_fe 128 35 = some (.iload 4, 2)) rfl).trans ?_
  refine (ry_bald hr h1 h2 (by decide +kernel)).trans ?_
  refine (px_go (by decide +kernel : pm_fe 128 38 = some (.sipush 255, 3)) rfl).trans ?_
  refine (px_go (by decide +kernel : pm_fe 128 41 = some (.iand, 1)) rfl).trans ?_
  refine (px_go (by decide +kernel : pm_fe 128 42 = some (.iload_n 3, 1)) rfl).trans ?_
  refine (ry_ic_lt (off := 5) (tgt := 48) h3 h4 (by decide +kernel)).trans ?_
  exact Iff.rfl
theorem r128_46 {d : Nat} {r nr : Nat} {X : Nat × (Nat → Int)} {v : Nat → Int} {M : PH} {K : PV → PS → Prop} {l2 l3 l4 : Int} : pm_Run d 128 46 [vA 91, vA r, vI l2, vI l3, vI l4] [] (GF X, M, PTF v) K ↔ K (vI 0) (GF X, M, PTF v) := by
  refine (px_go (by decide +kernel : pm_fe 128 46 = some (.iconst 0, 1)) rfl).trans ?_
  refine (px_rz (by decide +kernel)).trans ((and_iff_right (by decide : (0 : Int) = (0 : Int) ∨ (0 : Int) = (1 : Int))).trans ?_)
  exact Iff.rfl
theorem r128_48 {d : Nat} {r nr : Nat} {X : Nat × (Nat → Int)} {v : Nat → Int} {M : PH} {K : PV → PS → Prop} {l2 l3 l4 : Int} : pm_Run d 128 48 [vA 91, vA r, vI l2, vI l3, vI l4] [] (GF X, M, PTF v) K ↔ pm_Run d 128 28 [vA 91, vA r, vI l2, vI l3, vI (l4 + 3)] [] (GF X, M, PTF v) K := by
  refine (px_go (by decide +kernel : pm_fe 128 48 = some (.iinc 4 3, 3)) rfl).trans ?_
  refine (px_goto (off := (-23)) (tgt := 28) (by decide +kernel)).trans ?_
  exact Iff.rfl
theorem r128_54 {d : Nat} {r nr : Nat} {X : Nat × (Nat → Int)} {v : Nat → Int} {M : PH} {K : PV → PS → Prop} {l2 l3 l4 : Int} (h1 : inR l2) : pm_Run d 128 54 [vA 91, vA r, vI l2, vI l3, vI l4] [] (GF X, M, PTF v) K ↔ pm_Run d 128 61 [vA 91, vA r, vI l2, vI l3, vI l4] [] (GF X, pm_sa M 91 (pm_up (M 91) 7 (l2.tdiv 3)), PTF v) K := by
  refine (px_go (by decide +kernel : pm_fe 128 54 = some (.aload_n 0, 1)) rfl).trans ?_
  refine (px_go (by decide +kernel : pm_fe 128 55 = some (.iload_n 2, 1)) rfl).trans ?_
  refine (px_go (by decide +kernel : pm_fe 128 56 = some (.iconst 3, 1)) rfl).trans ?_
  refine (ry_idiv h1 (by decide : (-2147483648 ≤ (3 : Int) ∧ (3 : Int) < 2147483648)) (by decide : (3 : Int) ≠ (0 : Int)) (by decide +kernel)).trans ?_
  refine (ry_put0 (idx := 43) (ci := 10) (k := 7) (by decide +kernel : 91 < 283 ∧ SHF 91 = (10, 11)) (by decide +kernel)).trans ?_
  exact Iff.rfl
theorem r128_61 {d : Nat} {r nr : Nat} {X : Nat × (Nat → Int)} {v : Nat → Int} {M : PH} {K : PV → PS → Prop} {l2 l3 l4 : Int} : pm_Run d 128 61 [vA 91, vA r, vI l2, vI l3, vI l4] [] (GF X, M, PTF v) K ↔ pm_Run d 128 64 [vA 91, vA r, vI l2, vI l3, vI 0] [] (GF X, M, PTF v) K := by
  refine (px_go (by decide +kernel : pm_fe 128 61 = some (.iconst 0, 1)) rfl).trans ?_
  refine (px_go (by decide +kernel : pm_fe 128 62 = some (.istore 4, 2)) rfl).trans ?_
  exact Iff.rfl
theorem r128_64 {d : Nat} {r nr : Nat} {X : Nat × (Nat → Int)} {v : Nat → Int} {M : PH} {K : PV → PS → Prop} {l2 l3 l4 : Int} (h1 : inR l4) (h2 : inR (M 91 7)) : pm_Run d 128 64 [vA 91, vA r, vI l2, vI l3, vI l4] [] (GF X, M, PTF v) K ↔ if M 91 7 ≤ l4 then pm_Run d 128 135 [vA 91, vA r, vI l2, vI l3, vI l4] [] (GF X, M, PTF v) K else pm_Run d 128 73 [vA 91, vA r, vI l2, vI l3, vI l4] [] (GF X, M, PTF v) K := by
  refine (px_go (by decide +kernel : pm_fe 128 64 = some (.iload 4, 2)) rfl).trans ?_
  refine (px_go (by decide +kernel : pm_fe 128 66 = some (.aload_n 0, 1)) rfl).trans ?_
  refine (ry_get0 (idx := 43) (ci := 10) (k := 7) (by decide +kernel : 91 < 283 ∧ SHF 91 = (10, 11)) (by decide +kernel)).trans ?_
  refine (ry_ic_ge (off := 65) (tgt := 135) h1 h2 (by decide +kernel)).trans ?_
  exact Iff.rfl
theorem r128_73 {d : Nat} {r nr : Nat} {X : Nat × (Nat → Int)} {v : Nat → Int} {M : PH} {K : PV → PS → Prop} {l2 l3 l4 : Int} (hr : r < 283 ∧ SHF r = (101, nr)) (h1 : 0 ≤ (3 * l4)) (h2 : (3 * l4) < nr) (h3 : 0 ≤ l4) (h4 : l4 < 20) : pm_Run d 128 73 [vA 91, vA r, vI l2, vI l3, vI l4] [] (GF X, M, PTF v) K ↔ pm_Run d 128 90 [vA 91, vA r, vI l2, vI l3, vI l4] [] (GF X, pm_sa M 101 (pm_up (M 101) l4.toNat (pm_and (M r (3 * l4).toNat) 255)), PTF v) K := by
  refine (px_go (by decide +kernel : pm_fe 128 73 = some (.aload_n 0, 1)) rfl).trans ?_
  refine (ry_get2 (idx := 25) (ci := 10) (k := 2) (by decide +kernel : 91 < 283 ∧ SHF 91 = (10, 11)) (ptf_l (a := 91) (k := 2) (n := 101) (by decide +kernel)) (by decide +kernel)).trans ?_
  refine (px_go (by decide +kernel : pm_fe 128 77 = some (.iload 4, 2)) rfl).trans ?_
  refine (px_go (by decide +kernel : pm_fe 128 79 = some (.aload_n 1, 1)) rfl).trans ?_
  refine (px_go (by decide +kernel : pm_fe 128 80 = some (.iconst 3, 1)) rfl).trans ?_
  refine (px_go (by decide +kernel : pm_fe 128 81 = some (.iload 4, 2)) rfl).trans ?_
  refine (px_go (by decide +kernel : pm_fe 128 83 = some (.imul, 1)) rfl).trans ?_
  refine (ry_bald hr h1 h2 (by decide +kernel)).trans ?_
  refine (px_go (by decide +kernel : pm_fe 128 85 = some (.sipush 255, 3)) rfl).trans ?_
  refine (px_go (by decide +kernel : pm_fe 128 88 = some (.iand, 1)) rfl).trans ?_
  refine (ry_iast (by decide +kernel : 101 < 283 ∧ SHF 101 = (100, 20)) h3 h4 (by decide +kernel)).trans ?_
  exact Iff.rfl
theorem r128_90 {d : Nat} {r nr : Nat} {X : Nat × (Nat → Int)} {v : Nat → Int} {M : PH} {K : PV → PS → Prop} {l2 l3 l4 : Int} (hr : r < 283 ∧ SHF r = (101, nr)) (h1 : 0 ≤ ((3 * l4) + 1)) (h2 : ((3 * l4) + 1) < nr) (h3 : 0 ≤ ((3 * l4) + 2)) (h4 : ((3 * l4) + 2) < nr) (h5 : 0 ≤ l4) (h6 : l4 < 20) : pm_Run d 128 90 [vA 91, vA r, vI l2, vI l3, vI l4] [] (GF X, M, PTF v) K ↔ pm_Run d 128 129 [vA 91, vA r, vI l2, vI l3, vI l4] [] (GF X, pm_sa M 102 (pm_up (M 102) l4.toNat ((pm_or (pm_shl (pm_and (M r ((3 * l4) + 1).toNat) 255) 8) (pm_and (M r ((3 * l4) + 2).toNat) 255)) - 1000)), PTF v) K := by
  refine (px_go (by decide +kernel : pm_fe 128 90 = some (.aload_n 0, 1)) rfl).trans ?_
  refine (ry_get2 (idx := 29) (ci := 10) (k := 3) (by decide +kernel : 91 < 283 ∧ SHF 91 = (10, 11)) (ptf_l (a := 91) (k := 3) (n := 102) (by decide +kernel)) (by decide +kernel)).trans ?_
  refine (px_go (by decide +kernel : pm_fe 128 94 = some (.iload 4, 2)) rfl).trans ?_
  refine (px_go (by decide +kernel : pm_fe 128 96 = some (.aload_n 1, 1)) rfl).trans ?_
  refine (px_go (by decide +kernel : pm_fe 128 97 = some (.iconst 3, 1)) rfl).trans ?_
  refine (px_go (by decide +kernel : pm_fe 128 98 = some (.iload 4, 2)) rfl).trans ?_
  refine (px_go (by decide +kernel : pm_fe 128 100 = some (.imul, 1)) rfl).trans ?_
  refine (px_go (by decide +kernel : pm_fe 128 101 = some (.iconst 1, 1)) rfl).trans ?_
  refine (px_go (by decide +kernel : pm_fe 128 102 = some (.iadd, 1)) rfl).trans ?_
  refine (ry_bald hr h1 h2 (by decide +kernel)).trans ?_
  refine (px_go (by decide +kernel : pm_fe 128 104 = some (.sipush 255, 3)) rfl).trans ?_
  refine (px_go (by decide +kernel : pm_fe 128 107 = some (.iand, 1)) rfl).trans ?_
  refine (px_go (by decide +kernel : pm_fe 128 108 = some (.bipush 8, 2)) rfl).trans ?_
  refine (px_go (by decide +kernel : pm_fe 128 110 = some (.ishl, 1)) rfl).trans ?_
  refine (px_go (by decide +kernel : pm_fe 128 111 = some (.aload_n 1, 1)) rfl).trans ?_
  refine (px_go (by decide +kernel : pm_fe 128 112 = some (.iconst 3, 1)) rfl).trans ?_
  refine (px_go (by decide +kernel : pm_fe 128 113 = some (.iload 4, 2)) rfl).trans ?_
  refine (px_go (by decide +kernel : pm_fe 128 115 = some (.imul, 1)) rfl).trans ?_
  refine (px_go (by decide +kernel : pm_fe 128 116 = some (.iconst 2, 1)) rfl).trans ?_
  refine (px_go (by decide +kernel : pm_fe 128 117 = some (.iadd, 1)) rfl).trans ?_
  refine (ry_bald hr h3 h4 (by decide +kernel)).trans ?_
  refine (px_go (by decide +kernel : pm_fe 128 119 = some (.sipush 255, 3)) rfl).trans ?_
  refine (px_go (by decide +kernel : pm_fe 128 122 = some (.iand, 1)) rfl).trans ?_
  refine (px_go (by decide +kernel : pm_fe 128 123 = some (.ior, 1)) rfl).trans ?_
  refine (px_go (by decide +kernel : pm_fe 128 124 = some (.sipush 1000, 3)) rfl).trans ?_
  refine (px_go (by decide +kernel : pm_fe 128 127 = some (.isub, 1)) rfl).trans ?_
  refine (ry_iast (by decide +kernel : 102 < 283 ∧ SHF 102 = (100, 20)) h5 h6 (by decide +kernel)).trans ?_
  exact Iff.rfl
theorem r128_129 {d : Nat} {r nr : Nat} {X : Nat × (Nat → Int)} {v : Nat → Int} {M : PH} {K : PV → PS → Prop} {l2 l3 l4 : Int} : pm_Run d 128 129 [vA 91, vA r, vI l2, vI l3, vI l4] [] (GF X, M, PTF v) K ↔ pm_Run d 128 64 [vA 91, vA r, vI l2, vI l3, vI (l4 + 1)] [] (GF X, M, PTF v) K := by
  refine (px_go (by decide +kernel : pm_fe 128 129 = some (.iinc 4 1, 3)) rfl).trans ?_
  refine (px_goto (off := (-68)) (tgt := 64) (by decide +kernel)).trans ?_
  exact Iff.rfl
theorem r128_135 {d : Nat} {r nr : Nat} {X : Nat × (Nat → Int)} {v : Nat → Int} {M : PH} {K : PV → PS → Prop} {l2 l3 l4 : Int} : pm_Run d 128 135 [vA 91, vA r, vI l2, vI l3, vI l4] [] (GF X, M, PTF v) K ↔ pm_Run d 128 140 [vA 91, vA r, vI l2, vI l3, vI l4] [] (GF X, pm_sa M 91 (pm_up (M 91) 6 0), PTF v) K := by
  refine (px_go (by decide +kernel : pm_fe 128 135 = some (.aload_n 0, 1)) rfl).trans ?_
  refine (px_go (by decide +kernel : pm_fe 128 136 = some (.iconst 0, 1)) rfl).trans ?_
  refine (ry_put3 (idx := 39) (ci := 10) (k := 6) (by decide +kernel : 91 < 283 ∧ SHF 91 = (10, 11)) (by decide : (0 : Int) = (0 : Int) ∨ (0 : Int) = (1 : Int)) (by decide +kernel)).trans ?_
  exact Iff.rfl
theorem r128_140 {d : Nat} {r nr : Nat} {X : Nat × (Nat → Int)} {v : Nat → Int} {M : PH} {K : PV → PS → Prop} {l2 l3 l4 : Int} : pm_Run d 128 140 [vA 91, vA r, vI l2, vI l3, vI l4] [] (GF X, M, PTF v) K ↔ K (vI 1) (GF X, M, PTF v) := by
  refine (px_go (by decide +kernel : pm_fe 128 140 = some (.iconst 1, 1)) rfl).trans ?_
  refine (px_rz (by decide +kernel)).trans ((and_iff_right (by decide : (1 : Int) = (0 : Int) ∨ (1 : Int) = (1 : Int))).trans ?_)
  exact Iff.rfl
-- X10_judge judge()V
theorem r129_0 {d : Nat} {X : Nat × (Nat → Int)} {v : Nat → Int} {M : PH} {K : PV → PS → Prop} (h1 : inR (M 91 6)) : pm_Run d 129 0 [vA 91, PU, PU] [] (GF X, M, PTF v) K ↔ if M 91 6 = 0 then pm_Run d 129 8 [vA 91, PU, PU] [] (GF X, M, PTF v) K else pm_Run d 129 7 [vA 91, PU, PU] [] (GF X, M, PTF v) K := by
  refine (px_go (by decide +kernel : pm_fe 129 0 = some (.aload_n 0, 1)) rfl).trans ?_
  refine (ry_get0 (idx := 39) (ci := 10) (k := 6) (by decide +kernel : 91 < 283 ∧ SHF 91 = (10, 11)) (by decide +kernel)).trans ?_
  refine (ry_if_eq (off := 4) (tgt := 8) h1 (by decide +kernel)).trans ?_
  exact Iff.rfl
theorem r129_7 {d : Nat} {X : Nat × (Nat → Int)} {v : Nat → Int} {M : PH} {K : PV → PS → Prop} : pm_Run d 129 7 [vA 91, PU, PU] [] (GF X, M, PTF v) K ↔ K PU (GF X, M, PTF v) := by
  refine (px_rv (by decide +kernel)).trans ?_
  exact Iff.rfl
theorem r129_8 {d : Nat} {X : Nat × (Nat → Int)} {v : Nat → Int} {M : PH} {K : PV → PS → Prop} : pm_Run d 129 8 [vA 91, PU, PU] [] (GF X, M, PTF v) K ↔ pm_Run d 129 13 [vA 91, PU, PU] [] (GF X, pm_sa M 91 (pm_up (M 91) 6 1), PTF v) K := by
  refine (px_go (by decide +kernel : pm_fe 129 8 = some (.aload_n 0, 1)) rfl).trans ?_
  refine (px_go (by decide +kernel : pm_fe 129 9 = some (.iconst 1, 1)) rfl).trans ?_
  refine (ry_put3 (idx := 39) (ci := 10) (k := 6) (by decide +kernel : 91 < 283 ∧ SHF 91 = (10, 11)) (by decide : (1 : Int) = (0 : Int) ∨ (1 : Int) = (1 : Int)) (by decide +kernel)).trans ?_
  exact Iff.rfl
theorem r129_13 {d : Nat} {X : Nat × (Nat → Int)} {v : Nat → Int} {M : PH} {K : PV → PS → Prop} : pm_Run d 129 13 [vA 91, PU, PU] [] (GF X, M, PTF v) K ↔ pm_Run d 129 18 [vA 91, PU, PU] [] (GF X, pm_sa M 91 (pm_up (M 91) 8 0), PTF v) K := by
  refine (px_go (by decide +kernel : pm_fe 129 13 = some (.aload_n 0, 1)) rfl).trans ?_
  refine (px_go (by decide +kernel : pm_fe 129 14 = some (.iconst 0, 1)) rfl).trans ?_
  refine (ry_put0 (idx := 47) (ci := 10) (k := 8) (by decide +kernel : 91 < 283 ∧ SHF 91 = (10, 11)) (by decide +kernel)).trans ?_
  exact Iff.rfl
theorem r129_18 {d : Nat} {X : Nat × (Nat → Int)} {v : Nat → Int} {M : PH} {K : PV → PS → Prop} : pm_Run d 129 18 [vA 91, PU, PU] [] (GF X, M, PTF v) K ↔ pm_Run d 129 23 [vA 91, PU, PU] [] (GF X, pm_sa M 91 (pm_up (M 91) 10 0), PTF v) K := by
  refine (px_go (by decide +kernel : pm_fe 129 18 = some (.aload_n 0, 1)) rfl).trans ?_
  refine (px_go (by decide +kernel : pm_fe 129 19 = some (.iconst 0, 1)) rfl).trans ?_
  refine (ry_put0 (idx := 50) (ci := 10) (k := 10) (by decide +kernel : 91 < 283 ∧ SHF 91 = (10, 11)) (by decide +kernel)).trans ?_
  exact Iff.rfl
theorem r129_23 {d : Nat} {c : Nat} {X : Nat × (Nat → Int)} {v : Nat → Int} {M : PH} {K : PV → PS → Prop} (hc : isCh c) (hv4 : v 4 = ((c : Nat) : Int)) : pm_Run d 129 23 [vA 91, PU, PU] [] (GF X, M, PTF v) K ↔ pm_Run d 129 40 [vA 91, vI ((pm_shl 1 (M c 2)) - 1), PU] [] (GF X, pm_sa M 91 (pm_up (M 91) 9 ((pm_shl 1 (M c 2)) - 1)), PTF v) K := by
  refine (px_go (by decide +kernel : pm_fe 129 23 = some (.iconst 1, 1)) rfl).trans ?_
  refine (px_go (by decide +kernel : pm_fe 129 24 = some (.aload_n 0, 1)) rfl).trans ?_
  refine (ry_get2 (idx := 32) (ci := 10) (k := 5) (by decide +kernel : 91 < 283 ∧ SHF 91 = (10, 11)) (ptd4 hv4) (by decide +kernel)).trans ?_
  refine (ry_get0 (idx := 53) (ci := 1) (k := 2) (chs0 hc) (by decide +kernel)).trans ?_
  refine (px_go (by decide +kernel : pm_fe 129 31 = some (.ishl, 1)) rfl).trans ?_
  refine (px_go (by decide +kernel : pm_fe 129 32 = some (.iconst 1, 1)) rfl).trans ?_
  refine (px_go (by decide +kernel : pm_fe 129 33 = some (.isub, 1)) rfl).trans ?_
  refine (px_go (by decide +kernel : pm_fe 129 34 = some (.istore_n 1, 1)) rfl).trans ?_
  refine (px_go (by decide +kernel : pm_fe 129 35 = some (.aload_n 0, 1)) rfl).trans ?_
  refine (px_go (by decide +kernel : pm_fe 129 36 = some (.iload_n 1, 1)) rfl).trans ?_
  refine (ry_put0 (idx := 58) (ci := 10) (k := 9) (by decide +kernel : 91 < 283 ∧ SHF 91 = (10, 11)) (by decide +kernel)).trans ?_
  exact Iff.rfl
theorem r129_40 {d : Nat} {X : Nat × (Nat → Int)} {v : Nat → Int} {M : PH} {K : PV → PS → Prop} {l1 : Int} : pm_Run d 129 40 [vA 91, vI l1, PU] [] (GF X, M, PTF v) K ↔ pm_Run d 129 42 [vA 91, vI l1, vI 0] [] (GF X, M, PTF v) K := by
  refine (px_go (by decide +kernel : pm_fe 129 40 = some (.iconst 0, 1)) rfl).trans ?_
  refine (px_go (by decide +kernel : pm_fe 129 41 = some (.istore_n 2, 1)) rfl).trans ?_
  exact Iff.rfl
theorem r129_42 {d : Nat} {X : Nat × (Nat → Int)} {v : Nat → Int} {M : PH} {K : PV → PS → Prop} {l1 l2 : Int} (h1 : inR l2) (h2 : inR l1) : pm_Run d 129 42 [vA 91, vI l1, vI l2] [] (GF X, M, PTF v) K ↔ if l1 < l2 then pm_Run d 129 91 [vA 91, vI l1, vI l2] [] (GF X, M, PTF v) K else pm_Run d 129 47 [vA 91, vI l1, vI l2] [] (GF X, M, PTF v) K := by
  refine (px_go (by decide +kernel : pm_fe 129 42 = some (.iload_n 2, 1)) rfl).trans ?_
  refine (px_go (by decide +kernel : pm_fe 129 43 = some (.iload_n 1, 1)) rfl).trans ?_
  refine (ry_ic_gt (off := 47) (tgt := 91) h1 h2 (by decide +kernel)).trans ?_
  exact Iff.rfl
theorem r129_47 {d : Nat} {X : Nat × (Nat → Int)} {v : Nat → Int} {M : PH} {K : PV → PS → Prop} {l1 l2 : Int} : pm_Run d 129 47 [vA 91, vI l1, vI l2] [] (GF X, M, PTF v) K ↔ pm_Call d 130 [vA 91, vI l2] (GF X, M, PTF v) (fun r9 S1 => pm_Run d 129 52 [vA 91, vI l1, vI l2] (pm_push r9 []) S1 K) := by
  refine (px_go (by decide +kernel : pm_fe 129 47 = some (.aload_n 0, 1)) rfl).trans ?_
  refine (px_go (by decide +kernel : pm_fe 129 48 = some (.iload_n 2, 1)) rfl).trans ?_
  refine (ry_v1 (idx := 61) (m' := 130) (ci := 10) (by decide +kernel : 91 < 283 ∧ SHF 91 = (10, 11)) (by simp [pm_wl_n, pm_wl_c, pm_w] : pm_wl [] ≤ 8) (by decide +kernel)).trans ?_
  exact Iff.rfl
theorem r129_52 {d : Nat} {X : Nat × (Nat → Int)} {v : Nat → Int} {M : PH} {K : PV → PS → Prop} {l1 l2 s0 : Int} (h1 : inR s0) : pm_Run d 129 52 [vA 91, vI l1, vI l2] [vI s0] (GF X, M, PTF v) K ↔ if s0 = 0 then pm_Run d 129 85 [vA 91, vI l1, vI l2] [] (GF X, M, PTF v) K else pm_Run d 129 55 [vA 91, vI l1, vI l2] [] (GF X, M, PTF v) K := by
  refine (ry_if_eq (off := 33) (tgt := 85) h1 (by decide +kernel)).trans ?_
  exact Iff.rfl
theorem r129_55 {d : Nat} {X : Nat × (Nat → Int)} {v : Nat → Int} {M : PH} {K : PV → PS → Prop} {l1 l2 : Int} : pm_Run d 129 55 [vA 91, vI l1, vI l2] [] (GF X, M, PTF v) K ↔ pm_Run d 129 65 [vA 91, vI l1, vI l2] [] (GF X, pm_sa M 91 (pm_up (M 91) 8 ((M 91 8) + 1)), PTF v) K := by
  refine (px_go (by decide +kernel : pm_fe 129 55 = some (.aload_n 0, 1)) rfl).trans ?_
  refine (px_go (by decide +kernel : pm_fe 129 56 = some (.dup, 1)) rfl).trans ?_
  refine (ry_get0 (idx := 47) (ci := 10) (k := 8) (by decide +kernel : 91 < 283 ∧ SHF 91 = (10, 11)) (by decide +kernel)).trans ?_
  refine (px_go (by decide +kernel : pm_fe 129 60 = some (.iconst 1, 1)) rfl).trans ?_
  refine (px_go (by decide +kernel : pm_fe 129 61 = some (.iadd, 1)) rfl).trans ?_
  refine (ry_put0 (idx := 47) (ci := 10) (k := 8) (by decide +kernel : 91 < 283 ∧ SHF 91 = (10, 11)) (by decide +kernel)).trans ?_
  exact Iff.rfl
theorem r129_65 {d : Nat} {X : Nat × (Nat → Int)} {v : Nat → Int} {M : PH} {K : PV → PS → Prop} {l1 l2 : Int} : pm_Run d 129 65 [vA 91, vI l1, vI l2] [] (GF X, M, PTF v) K ↔ pm_Run d 129 75 [vA 91, vI l1, vI l2] [] (GF X, pm_sa M 91 (pm_up (M 91) 9 (pm_and (M 91 9) l2)), PTF v) K := by
  refine (px_go (by decide +kernel : pm_fe 129 65 = some (.aload_n 0, 1)) rfl).trans ?_
  refine (px_go (by decide +kernel : pm_fe 129 66 = some (.dup, 1)) rfl).trans ?_
  refine (ry_get0 (idx := 58) (ci := 10) (k := 9) (by decide +kernel : 91 < 283 ∧ SHF 91 = (10, 11)) (by decide +kernel)).trans ?_
  refine (px_go (by decide +kernel : pm_fe 129 70 = some (.iload_n 2, 1)) rfl).trans ?_
  refine (px_go (by decide +kernel : pm_fe 129 71 = some (.iand, 1)) rfl).trans ?_
  refine (ry_put0 (idx := 58) (ci := 10) (k := 9) (by decide +kernel : 91 < 283 ∧ SHF 91 = (10, 11)) (by decide +kernel)).trans ?_
  exact Iff.rfl
theorem r129_75 {d : Nat} {X : Nat × (Nat → Int)} {v : Nat → Int} {M : PH} {K : PV → PS → Prop} {l1 l2 : Int} : pm_Run d 129 75 [vA 91, vI l1, vI l2] [] (GF X, M, PTF v) K ↔ pm_Run d 129 85 [vA 91, vI l1, vI l2] [] (GF X, pm_sa M 91 (pm_up (M 91) 10 (pm_or (M 91 10) l2)), PTF v) K := by
  refine (px_go (by decide +kernel : pm_fe 129 75 = some (.aload_n 0, 1)) rfl).trans ?_
  refine (px_go (by decide +kernel : pm_fe 129 76 = some (.dup, 1)) rfl).trans ?_
  refine (ry_get0 (idx := 50) (ci := 10) (k := 10) (by decide +kernel : 91 < 283 ∧ SHF 91 = (10, 11)) (by decide +kernel)).trans ?_
  refine (px_go (by decide +kernel : pm_fe 129 80 = some (.iload_n 2, 1)) rfl).trans ?_
  refine (px_go (by decide +kernel : pm_fe 129 81 = some (.ior, 1)) rfl).trans ?_
  refine (ry_put0 (idx := 50) (ci := 10) (k := 10) (by decide +kernel : 91 < 283 ∧ SHF 91 = (10, 11)) (by decide +kernel)).trans ?_
  exact Iff.rfl
theorem r129_85 {d : Nat} {X : Nat × (Nat → Int)} {v : Nat → Int} {M : PH} {K : PV → PS → Prop} {l1 l2 : Int} : pm_Run d 129 85 [vA 91, vI l1, vI l2] [] (GF X, M, PTF v) K ↔ pm_Run d 129 42 [vA 91, vI l1, vI (l2 + 1)] [] (GF X, M, PTF v) K := by
  refine (px_go (by decide +kernel : pm_fe 129 85 = some (.iinc 2 1, 3)) rfl).trans ?_
  refine (px_goto (off := (-46)) (tgt := 42) (by decide +kernel)).trans ?_
  exact Iff.rfl
theorem r129_91 {d : Nat} {X : Nat × (Nat → Int)} {v : Nat → Int} {M : PH} {K : PV → PS → Prop} {l1 l2 : Int} (h1 : inR (M 91 8)) : pm_Run d 129 91 [vA 91, vI l1, vI l2] [] (GF X, M, PTF v) K ↔ if M 91 8 ≠ 0 then pm_Run d 129 103 [vA 91, vI l1, vI l2] [] (GF X, M, PTF v) K else pm_Run d 129 98 [vA 91, vI l1, vI l2] [] (GF X, M, PTF v) K := by
  refine (px_go (by decide +kernel : pm_fe 129 91 = some (.aload_n 0, 1)) rfl).trans ?_
  refine (ry_get0 (idx := 47) (ci := 10) (k := 8) (by decide +kernel : 91 < 283 ∧ SHF 91 = (10, 11)) (by decide +kernel)).trans ?_
  refine (ry_if_ne (off := 8) (tgt := 103) h1 (by decide +kernel)).trans ?_
  exact Iff.rfl
theorem r129_98 {d : Nat} {X : Nat × (Nat → Int)} {v : Nat → Int} {M : PH} {K : PV → PS → Prop} {l1 l2 : Int} : pm_Run d 129 98 [vA 91, vI l1, vI l2] [] (GF X, M, PTF v) K ↔ pm_Run d 129 103 [vA 91, vI l1, vI l2] [] (GF X, pm_sa M 91 (pm_up (M 91) 9 0), PTF v) K := by
  refine (px_go (by decide +kernel : pm_fe 129 98 = some (.aload_n 0, 1)) rfl).trans ?_
  refine (px_go (by decide +kernel : pm_fe 129 99 = some (.iconst 0, 1)) rfl).trans ?_
  refine (ry_put0 (idx := 58) (ci := 10) (k := 9) (by decide +kernel : 91 < 283 ∧ SHF 91 = (10, 11)) (by decide +kernel)).trans ?_
  exact Iff.rfl
theorem r129_103 {d : Nat} {X : Nat × (Nat → Int)} {v : Nat → Int} {M : PH} {K : PV → PS → Prop} {l1 l2 : Int} : pm_Run d 129 103 [vA 91, vI l1, vI l2] [] (GF X, M, PTF v) K ↔ K PU (GF X, M, PTF v) := by
  refine (px_rv (by decide +kernel)).trans ?_
  exact Iff.rfl
-- X10_explains explains(I)Z
theorem r130_0 {d : Nat} {X : Nat × (Nat → Int)} {v : Nat → Int} {M : PH} {K : PV → PS → Prop} {l1 : Int} : pm_Run d 130 0 [vA 91, vI l1, PU, PU] [] (GF X, M, PTF v) K ↔ pm_Call d 56 [vA 95, vA 3] (GF X, M, PTF v) (fun r9 S1 => pm_Run d 130 11 [vA 91, vI l1, PU, PU] (pm_push r9 []) S1 K) := by
  refine (px_go (by decide +kernel : pm_fe 130 0 = some (.aload_n 0, 1)) rfl).trans ?_
  refine (ry_get2 (idx := 21) (ci := 10) (k := 1) (by decide +kernel : 91 < 283 ∧ SHF 91 = (10, 11)) (ptf_l (a := 91) (k := 1) (n := 95) (by decide +kernel)) (by decide +kernel)).trans ?_
  refine (px_go (by decide +kernel : pm_fe 130 4 = some (.aload_n 0, 1)) rfl).trans ?_
  refine (ry_get2 (idx := 36) (ci := 10) (k := 4) (by decide +kernel : 91 < 283 ∧ SHF 91 = (10, 11)) (ptf_l (a := 91) (k := 4) (n := 3) (by decide +kernel)) (by decide +kernel)).trans ?_
  refine (ry_v1 (idx := 65) (m' := 56) (ci := 5) (by decide +kernel : 95 < 283 ∧ SHF 95 = (5, 6)) (by simp [pm_wl_n, pm_wl_c, pm_w] : pm_wl [] ≤ 8) (by decide +kernel)).trans ?_
  exact Iff.rfl
theorem r130_11 {d : Nat} {X : Nat × (Nat → Int)} {v : Nat → Int} {M : PH} {K : PV → PS → Prop} {l1 : Int} : pm_Run d 130 11 [vA 91, vI l1, PU, PU] [] (GF X, M, PTF v) K ↔ pm_Run d 130 13 [vA 91, vI l1, vI 0, PU] [] (GF X, M, PTF v) K := by
  refine (px_go (by decide +kernel : pm_fe 130 11 = some (.iconst 0, 1)) rfl).trans ?_
  refine (px_go (by decide +kernel : pm_fe 130 12 = some (.istore_n 2, 1)) rfl).trans ?_
  exact Iff.rfl
theorem r130_13 {d : Nat} {c : Nat} {X : Nat × (Nat → Int)} {v : Nat → Int} {M : PH} {K : PV → PS → Prop} {l1 l2 : Int} {l3 : PV} (hc : isCh c) (hv4 : v 4 = ((c : Nat) : Int)) (h1 : inR l2) (h2 : inR (M c 2)) : pm_Run d 130 13 [vA 91, vI l1, vI l2, l3] [] (GF X, M, PTF v) K ↔ if M c 2 ≤ l2 then pm_Run d 130 71 [vA 91, vI l1, vI l2, l3] [] (GF X, M, PTF v) K else pm_Run d 130 24 [vA 91, vI l1, vI l2, l3] [] (GF X, M, PTF v) K := by
  refine (px_go (by decide +kernel : pm_fe 130 13 = some (.iload_n 2, 1)) rfl).trans ?_
  refine (px_go (by decide +kernel : pm_fe 130 14 = some (.aload_n 0, 1)) rfl).trans ?_
  refine (ry_get2 (idx := 32) (ci := 10) (k := 5) (by decide +kernel : 91 < 283 ∧ SHF 91 = (10, 11)) (ptd4 hv4) (by decide +kernel)).trans ?_
  refine (ry_get0 (idx := 53) (ci := 1) (k := 2) (chs0 hc) (by decide +kernel)).trans ?_
  refine (ry_ic_ge (off := 50) (tgt := 71) h1 h2 (by decide +kernel)).trans ?_
  exact Iff.rfl
theorem r130_24 {d : Nat} {X : Nat × (Nat → Int)} {v : Nat → Int} {M : PH} {K : PV → PS → Prop} {l1 l2 : Int} {l3 : PV} : pm_Run d 130 24 [vA 91, vI l1, vI l2, l3] [] (GF X, M, PTF v) K ↔ pm_Run d 130 26 [vA 91, vI l1, vI l2, vI 0] [] (GF X, M, PTF v) K := by
  refine (px_go (by decide +kernel : pm_fe 130 24 = some (.iconst 0, 1)) rfl).trans ?_
  refine (px_go (by decide +kernel : pm_fe 130 25 = some (.istore_n 3, 1)) rfl).trans ?_
  exact Iff.rfl
theorem r130_26 {d : Nat} {c : Nat} {X : Nat × (Nat → Int)} {v : Nat → Int} {M : PH} {K : PV → PS → Prop} {l1 l2 l3 : Int} (hc : isCh c) (hv4 : v 4 = ((c : Nat) : Int)) (h1 : inR l3) (h2 : inR (M c 1)) : pm_Run d 130 26 [vA 91, vI l1, vI l2, vI l3] [] (GF X, M, PTF v) K ↔ if M c 1 ≤ l3 then pm_Run d 130 65 [vA 91, vI l1, vI l2, vI l3] [] (GF X, M, PTF v) K else pm_Run d 130 37 [vA 91, vI l1, vI l2, vI l3] [] (GF X, M, PTF v) K := by
  refine (px_go (by decide +kernel : pm_fe 130 26 = some (.iload_n 3, 1)) rfl).trans ?_
  refine (px_go (by decide +kernel : pm_fe 130 27 = some (.aload_n 0, 1)) rfl).trans ?_
  refine (ry_get2 (idx := 32) (ci := 10) (k := 5) (by decide +kernel : 91 < 283 ∧ SHF 91 = (10, 11)) (ptd4 hv4) (by decide +kernel)).trans ?_
  refine (ry_get0 (idx := 69) (ci := 1) (k := 1) (chs0 hc) (by decide +kernel)).trans ?_
  refine (ry_ic_ge (off := 31) (tgt := 65) h1 h2 (by decide +kernel)).trans ?_
  exact Iff.rfl
theorem r130_37 {d : Nat} {X : Nat × (Nat → Int)} {v : Nat → Int} {M : PH} {K : PV → PS → Prop} {l1 l2 l3 : Int} (h1 : inR (pm_and (pm_shr l1 l2) 1)) : pm_Run d 130 37 [vA 91, vI l1, vI l2, vI l3] [] (GF X, M, PTF v) K ↔ if pm_and (pm_shr l1 l2) 1 ≠ 0 then pm_Run d 130 65 [vA 91, vI l1, vI l2, vI l3] [] (GF X, M, PTF v) K else pm_Run d 130 45 [vA 91, vI l1, vI l2, vI l3] [] (GF X, M, PTF v) K := by
  refine (px_go (by decide +kernel : pm_fe 130 37 = some (.iload_n 1, 1)) rfl).trans ?_
  refine (px_go (by decide +kernel : pm_fe 130 38 = some (.iload_n 2, 1)) rfl).trans ?_
  refine (px_go (by decide +kernel : pm_fe 130 39 = some (.ishr, 1)) rfl).trans ?_
  refine (px_go (by decide +kernel : pm_fe 130 40 = some (.iconst 1, 1)) rfl).trans ?_
  refine (px_go (by decide +kernel : pm_fe 130 41 = some (.iand, 1)) rfl).trans ?_
  refine (ry_if_ne (off := 23) (tgt := 65) h1 (by decide +kernel)).trans ?_
  exact Iff.rfl
theorem r130_45 {d : Nat} {X : Nat × (Nat → Int)} {v : Nat → Int} {M : PH} {K : PV → PS → Prop} {l1 l2 l3 : Int} : pm_Run d 130 45 [vA 91, vI l1, vI l2, vI l3] [] (GF X, M, PTF v) K ↔ pm_Call d 55 [vI l2, vI l3] (GF X, M, PTF v) (fun r9 S1 => pm_Run d 130 57 [vA 91, vI l1, vI l2, vI l3] (pm_push r9 [vA 99]) S1 K) := by
  refine (px_go (by decide +kernel : pm_fe 130 45 = some (.aload_n 0, 1)) rfl).trans ?_
  refine (ry_get2 (idx := 21) (ci := 10) (k := 1) (by decide +kernel : 91 < 283 ∧ SHF 91 = (10, 11)) (ptf_l (a := 91) (k := 1) (n := 95) (by decide +kernel)) (by decide +kernel)).trans ?_
  refine (ry_get2 (idx := 72) (ci := 5) (k := 4) (by decide +kernel : 95 < 283 ∧ SHF 95 = (5, 6)) (ptf_l (a := 95) (k := 4) (n := 99) (by decide +kernel)) (by decide +kernel)).trans ?_
  refine (px_go (by decide +kernel : pm_fe 130 52 = some (.iload_n 2, 1)) rfl).trans ?_
  refine (px_go (by decide +kernel : pm_fe 130 53 = some (.iload_n 3, 1)) rfl).trans ?_
  refine (px_s2 (idx := 75) (m' := 55) (nest := 0) (by decide +kernel)).trans ((and_iff_right (by simp [pm_wl_n, pm_wl_c, pm_w] : pm_wl [vA 99] ≤ 8)).trans ?_)
  exact Iff.rfl
theorem r130_57 {d : Nat} {X : Nat × (Nat → Int)} {v : Nat → Int} {M : PH} {K : PV → PS → Prop} {l1 l2 l3 s0 : Int} (h1 : 0 ≤ s0) (h2 : s0 < 24) : pm_Run d 130 57 [vA 91, vI l1, vI l2, vI l3] [vI s0, vA 99] (GF X, M, PTF v) K ↔ pm_Run d 130 59 [vA 91, vI l1, vI l2, vI l3] [] (GF X, pm_sa M 99 (pm_up (M 99) s0.toNat 0), PTF v) K := by
  refine (px_go (by decide +kernel : pm_fe 130 57 = some (.iconst 0, 1)) rfl).trans ?_
  refine (ry_iast (by decide +kernel : 99 < 283 ∧ SHF 99 = (100, 24)) h1 h2 (by decide +kernel)).trans ?_
  exact Iff.rfl
theorem r130_59 {d : Nat} {X : Nat × (Nat → Int)} {v : Nat → Int} {M : PH} {K : PV → PS → Prop} {l1 l2 l3 : Int} : pm_Run d 130 59 [vA 91, vI l1, vI l2, vI l3] [] (GF X, M, PTF v) K ↔ pm_Run d 130 26 [vA 91, vI l1, vI l2, vI (l3 + 1)] [] (GF X, M, PTF v) K := by
  refine (px_go (by decide +kernel : pm_fe 130 59 = some (.iinc 3 1, 3)) rfl).trans ?_
  refine (px_goto (off := (-36)) (tgt := 26) (by decide +kernel)).trans ?_
  exact Iff.rfl
theorem r130_65 {d : Nat} {X : Nat × (Nat → Int)} {v : Nat → Int} {M : PH} {K : PV → PS → Prop} {l1 l2 l3 : Int} : pm_Run d 130 65 [vA 91, vI l1, vI l2, vI l3] [] (GF X, M, PTF v) K ↔ pm_Run d 130 13 [vA 91, vI l1, vI (l2 + 1), vI l3] [] (GF X, M, PTF v) K := by
  refine (px_go (by decide +kernel : pm_fe 130 65 = some (.iinc 2 1, 3)) rfl).trans ?_
  refine (px_goto (off := (-55)) (tgt := 13) (by decide +kernel)).trans ?_
  exact Iff.rfl
theorem r130_71 {d : Nat} {c : Nat} {X : Nat × (Nat → Int)} {v : Nat → Int} {M : PH} {K : PV → PS → Prop} {l1 l2 : Int} {l3 : PV} (hc : isCh c) (hv4 : v 4 = ((c : Nat) : Int)) : pm_Run d 130 71 [vA 91, vI l1, vI l2, l3] [] (GF X, M, PTF v) K ↔ pm_Call d 113 [vA 92, vA c, vA 95] (GF X, M, PTF v) (fun r9 S1 => pm_Run d 130 86 [vA 91, vI l1, vI l2, l3] (pm_push r9 []) S1 K) := by
  refine (px_go (by decide +kernel : pm_fe 130 71 = some (.aload_n 0, 1)) rfl).trans ?_
  refine (ry_get2 (idx := 12) (ci := 10) (k := 0) (by decide +kernel : 91 < 283 ∧ SHF 91 = (10, 11)) (ptf_l (a := 91) (k := 0) (n := 92) (by decide +kernel)) (by decide +kernel)).trans ?_
  refine (px_go (by decide +kernel : pm_fe 130 75 = some (.aload_n 0, 1)) rfl).trans ?_
  refine (ry_get2 (idx := 32) (ci := 10) (k := 5) (by decide +kernel : 91 < 283 ∧ SHF 91 = (10, 11)) (ptd4 hv4) (by decide +kernel)).trans ?_
  refine (px_go (by decide +kernel : pm_fe 130 79 = some (.aload_n 0, 1)) rfl).trans ?_
  refine (ry_get2 (idx := 21) (ci := 10) (k := 1) (by decide +kernel : 91 < 283 ∧ SHF 91 = (10, 11)) (ptf_l (a := 91) (k := 1) (n := 95) (by decide +kernel)) (by decide +kernel)).trans ?_
  refine (ry_v2 (idx := 79) (m' := 113) (ci := 9) (by decide +kernel : 92 < 283 ∧ SHF 92 = (9, 2)) (by simp [pm_wl_n, pm_wl_c, pm_w] : pm_wl [] ≤ 8) (by decide +kernel)).trans ?_
  exact Iff.rfl
theorem r130_86 {d : Nat} {X : Nat × (Nat → Int)} {v : Nat → Int} {M : PH} {K : PV → PS → Prop} {l1 l2 : Int} {l3 : PV} : pm_Run d 130 86 [vA 91, vI l1, vI l2, l3] [] (GF X, M, PTF v) K ↔ pm_Run d 130 88 [vA 91, vI l1, vI 0, l3] [] (GF X, M, PTF v) K := by
  refine (px_go (by decide +kernel : pm_fe 130 86 = some (.iconst 0, 1)) rfl).trans ?_
  refine (px_go (by decide +kernel : pm_fe 130 87 = some (.istore_n 2, 1)) rfl).trans ?_
  exact Iff.rfl
theorem r130_88 {d : Nat} {X : Nat × (Nat → Int)} {v : Nat → Int} {M : PH} {K : PV → PS → Prop} {l1 l2 : Int} {l3 : PV} (h1 : inR l2) (h2 : inR (M 91 7)) : pm_Run d 130 88 [vA 91, vI l1, vI l2, l3] [] (GF X, M, PTF v) K ↔ if M 91 7 ≤ l2 then pm_Run d 130 127 [vA 91, vI l1, vI l2, l3] [] (GF X, M, PTF v) K else pm_Run d 130 96 [vA 91, vI l1, vI l2, l3] [] (GF X, M, PTF v) K := by
  refine (px_go (by decide +kernel : pm_fe 130 88 = some (.iload_n 2, 1)) rfl).trans ?_
  refine (px_go (by decide +kernel : pm_fe 130 89 = some (.aload_n 0, 1)) rfl).trans ?_
  refine (ry_get0 (idx := 43) (ci := 10) (k := 7) (by decide +kernel : 91 < 283 ∧ SHF 91 = (10, 11)) (by decide +kernel)).trans ?_
  refine (ry_ic_ge (off := 34) (tgt := 127) h1 h2 (by decide +kernel)).trans ?_
  exact Iff.rfl
theorem r130_96 {d : Nat} {X : Nat × (Nat → Int)} {v : Nat → Int} {M : PH} {K : PV → PS → Prop} {l1 l2 : Int} {l3 : PV} (h1 : 0 ≤ l2) (h2 : l2 < 20) (h3 : 0 ≤ (M 101 l2.toNat)) (h4 : (M 101 l2.toNat) < 24) (h5 : inR (M 94 (M 101 l2.toNat).toNat)) (h6 : inR (M 102 l2.toNat)) : pm_Run d 130 96 [vA 91, vI l1, vI l2, l3] [] (GF X, M, PTF v) K ↔ if M 94 (M 101 l2.toNat).toNat = M 102 l2.toNat then pm_Run d 130 121 [vA 91, vI l1, vI l2, l3] [] (GF X, M, PTF v) K else pm_Run d 130 119 [vA 91, vI l1, vI l2, l3] [] (GF X, M, PTF v) K := by
  refine (px_go (by decide +kernel : pm_fe 130 96 = some (.aload_n 0, 1)) rfl).trans ?_
  refine (ry_get2 (idx := 12) (ci := 10) (k := 0) (by decide +kernel : 91 < 283 ∧ SHF 91 = (10, 11)) (ptf_l (a := 91) (k := 0) (n := 92) (by decide +kernel)) (by decide +kernel)).trans ?_
  refine (ry_get2 (idx := 83) (ci := 9) (k := 1) (by decide +kernel : 92 < 283 ∧ SHF 92 = (9, 2)) (ptf_l (a := 92) (k := 1) (n := 94) (by decide +kernel)) (by decide +kernel)).trans ?_
  refine (px_go (by decide +kernel : pm_fe 130 103 = some (.aload_n 0, 1)) rfl).trans ?_
  refine (ry_get2 (idx := 25) (ci := 10) (k := 2) (by decide +kernel : 91 < 283 ∧ SHF 91 = (10, 11)) (ptf_l (a := 91) (k := 2) (n := 101) (by decide +kernel)) (by decide +kernel)).trans ?_
  refine (px_go (by decide +kernel : pm_fe 130 107 = some (.iload_n 2, 1)) rfl).trans ?_
  refine (ry_iald (by decide +kernel : 101 < 283 ∧ SHF 101 = (100, 20)) h1 h2 (by decide +kernel)).trans ?_
  refine (ry_iald (by decide +kernel : 94 < 283 ∧ SHF 94 = (100, 24)) h3 h4 (by decide +kernel)).trans ?_
  refine (px_go (by decide +kernel : pm_fe 130 110 = some (.aload_n 0, 1)) rfl).trans ?_
  refine (ry_get2 (idx := 29) (ci := 10) (k := 3) (by decide +kernel : 91 < 283 ∧ SHF 91 = (10, 11)) (ptf_l (a := 91) (k := 3) (n := 102) (by decide +kernel)) (by decide +kernel)).trans ?_
  refine (px_go (by decide +kernel : pm_fe 130 114 = some (.iload_n 2, 1)) rfl).trans ?_
  refine (ry_iald (by decide +kernel : 102 < 283 ∧ SHF 102 = (100, 20)) h1 h2 (by decide +kernel)).trans ?_
  refine (ry_ic_eq (off := 5) (tgt := 121) h5 h6 (by decide +kernel)).trans ?_
  exact Iff.rfl
theorem r130_119 {d : Nat} {X : Nat × (Nat → Int)} {v : Nat → Int} {M : PH} {K : PV → PS → Prop} {l1 l2 : Int} {l3 : PV} : pm_Run d 130 119 [vA 91, vI l1, vI l2, l3] [] (GF X, M, PTF v) K ↔ K (vI 0) (GF X, M, PTF v) := by
  refine (px_go (by decide +kernel : pm_fe 130 119 = some (.iconst 0, 1)) rfl).trans ?_
  refine (px_rz (by decide +kernel)).trans ((and_iff_right (by decide : (0 : Int) = (0 : Int) ∨ (0 : Int) = (1 : Int))).trans ?_)
  exact Iff.rfl
theorem r130_121 {d : Nat} {X : Nat × (Nat → Int)} {v : Nat → Int} {M : PH} {K : PV → PS → Prop} {l1 l2 : Int} {l3 : PV} : pm_Run d 130 121 [vA 91, vI l1, vI l2, l3] [] (GF X, M, PTF v) K ↔ pm_Run d 130 88 [vA 91, vI l1, vI (l2 + 1), l3] [] (GF X, M, PTF v) K := by
  refine (px_go (by decide +kernel : pm_fe 130 121 = some (.iinc 2 1, 3)) rfl).trans ?_
  refine (px_goto (off := (-36)) (tgt := 88) (by decide +kernel)).trans ?_
  exact Iff.rfl
theorem r130_127 {d : Nat} {X : Nat × (Nat → Int)} {v : Nat → Int} {M : PH} {K : PV → PS → Prop} {l1 l2 : Int} {l3 : PV} : pm_Run d 130 127 [vA 91, vI l1, vI l2, l3] [] (GF X, M, PTF v) K ↔ K (vI 1) (GF X, M, PTF v) := by
  refine (px_go (by decide +kernel : pm_fe 130 127 = some (.iconst 1, 1)) rfl).trans ?_
  refine (px_rz (by decide +kernel)).trans ((and_iff_right (by decide : (1 : Int) = (0 : Int) ∨ (1 : Int) = (1 : Int))).trans ?_)
  exact Iff.rfl
