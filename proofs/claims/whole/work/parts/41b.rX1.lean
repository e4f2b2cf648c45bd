-- X1_clear clear()V
theorem r13_0 {d : Nat} {c : Nat} {X : Nat × (Nat → Int)} {v : Nat → Int} {M : PH} {K : PV → PS → Prop} (hc : isCh c) : pm_Run d 13 0 [vA c] [] (GF X, M, PTF v) K ↔ pm_Run d 13 5 [vA c] [] (GF X, pm_sa M c (pm_up (M c) 0 0), PTF v) K := by
  refine (px_go (by decide +kernel : pm_fe 13 0 = some (.aload_n 0, 1)) rfl).trans ?_
  refine (px_go (by decide +kernel : pm_fe 13 1 = some (.iconst 0, 1)) rfl).trans ?_
  refine (ry_put0 (idx := 57) (ci := 1) (k := 0) (chs0 hc) (by decide +kernel)).trans ?_
  exact Iff.rfl
theorem r13_5 {d : Nat} {c : Nat} {X : Nat × (Nat → Int)} {v : Nat → Int} {M : PH} {K : PV → PS → Prop} (hc : isCh c) : pm_Run d 13 5 [vA c] [] (GF X, M, PTF v) K ↔ pm_Run d 13 10 [vA c] [] (GF X, pm_sa M c (pm_up (M c) 1 0), PTF v) K := by
  refine (px_go (by decide +kernel : pm_fe 13 5 = some (.aload_n 0, 1)) rfl).trans ?_
  refine (px_go (by decide +kernel : pm_fe 13 6 = some (.iconst 0, 1)) rfl).trans ?_
  refine (ry_put0 (idx := 60) (ci := 1) (k := 1) (chs0 hc) (by decide +kernel)).trans ?_
  exact Iff.rfl
theorem r13_10 {d : Nat} {c : Nat} {X : Nat × (Nat → Int)} {v : Nat → Int} {M : PH} {K : PV → PS → Prop} (hc : isCh c) : pm_Run d 13 10 [vA c] [] (GF X, M, PTF v) K ↔ pm_Run d 13 15 [vA c] [] (GF X, pm_sa M c (pm_up (M c) 2 0), PTF v) K := by
  refine (px_go (by decide +kernel : pm_fe 13 10 = some (.aload_n 0, 1)) rfl).trans ?_
  refine (px_go (by decide +kernel : pm_fe 13 11 = some (.iconst 0, 1)) rfl).trans ?_
  refine (ry_put0 (idx := 63) (ci := 1) (k := 2) (chs0 hc) (by decide +kernel)).trans ?_
  exact Iff.rfl
theorem r13_15 {d : Nat} {c : Nat} {X : Nat × (Nat → Int)} {v : Nat → Int} {M : PH} {K : PV → PS → Prop} (hc : isCh c) : pm_Run d 13 15 [vA c] [] (GF X, M, PTF v) K ↔ pm_Run d 13 20 [vA c] [] (GF X, pm_sa M c (pm_up (M c) 3 0), PTF v) K := by
  refine (px_go (by decide +kernel : pm_fe 13 15 = some (.aload_n 0, 1)) rfl).trans ?_
  refine (px_go (by decide +kernel : pm_fe 13 16 = some (.iconst 0, 1)) rfl).trans ?_
  refine (ry_put0 (idx := 66) (ci := 1) (k := 3) (chs0 hc) (by decide +kernel)).trans ?_
  exact Iff.rfl
theorem r13_20 {d : Nat} {c : Nat} {X : Nat × (Nat → Int)} {v : Nat → Int} {M : PH} {K : PV → PS → Prop} (hc : isCh c) : pm_Run d 13 20 [vA c] [] (GF X, M, PTF v) K ↔ pm_Run d 13 25 [vA c] [] (GF X, pm_sa M c (pm_up (M c) 4 0), PTF v) K := by
  refine (px_go (by decide +kernel : pm_fe 13 20 = some (.aload_n 0, 1)) rfl).trans ?_
  refine (px_go (by decide +kernel : pm_fe 13 21 = some (.iconst 0, 1)) rfl).trans ?_
  refine (ry_put0 (idx := 69) (ci := 1) (k := 4) (chs0 hc) (by decide +kernel)).trans ?_
  exact Iff.rfl
theorem r13_25 {d : Nat} {c : Nat} {X : Nat × (Nat → Int)} {v : Nat → Int} {M : PH} {K : PV → PS → Prop} (hc : isCh c) : pm_Run d 13 25 [vA c] [] (GF X, M, PTF v) K ↔ pm_Run d 13 31 [vA c] [] (GF X, pm_sa M c (pm_up (M c) 5 20), PTF v) K := by
  refine (px_go (by decide +kernel : pm_fe 13 25 = some (.aload_n 0, 1)) rfl).trans ?_
  refine (px_go (by decide +kernel : pm_fe 13 26 = some (.bipush 20, 2)) rfl).trans ?_
  refine (ry_put0 (idx := 9) (ci := 1) (k := 5) (chs0 hc) (by decide +kernel)).trans ?_
  exact Iff.rfl
theorem r13_31 {d : Nat} {c : Nat} {X : Nat × (Nat → Int)} {v : Nat → Int} {M : PH} {K : PV → PS → Prop} (hc : isCh c) : pm_Run d 13 31 [vA c] [] (GF X, M, PTF v) K ↔ pm_Run d 13 37 [vA c] [] (GF X, pm_sa M c (pm_up (M c) 6 50), PTF v) K := by
  refine (px_go (by decide +kernel : pm_fe 13 31 = some (.aload_n 0, 1)) rfl).trans ?_
  refine (px_go (by decide +kernel : pm_fe 13 32 = some (.bipush 50, 2)) rfl).trans ?_
  refine (ry_put0 (idx := 15) (ci := 1) (k := 6) (chs0 hc) (by decide +kernel)).trans ?_
  exact Iff.rfl
theorem r13_37 {d : Nat} {c : Nat} {X : Nat × (Nat → Int)} {v : Nat → Int} {M : PH} {K : PV → PS → Prop} (hc : isCh c) : pm_Run d 13 37 [vA c] [] (GF X, M, PTF v) K ↔ pm_Run d 13 42 [vA c] [] (GF X, pm_sa M c (pm_up (M c) 7 0), PTF v) K := by
  refine (px_go (by decide +kernel : pm_fe 13 37 = some (.aload_n 0, 1)) rfl).trans ?_
  refine (px_go (by decide +kernel : pm_fe 13 38 = some (.iconst 0, 1)) rfl).trans ?_
  refine (ry_put0 (idx := 72) (ci := 1) (k := 7) (chs0 hc) (by decide +kernel)).trans ?_
  exact Iff.rfl
theorem r13_42 {d : Nat} {c : Nat} {X : Nat × (Nat → Int)} {v : Nat → Int} {M : PH} {K : PV → PS → Prop} (hc : isCh c) : pm_Run d 13 42 [vA c] [] (GF X, M, PTF v) K ↔ pm_Call d 57 [vA (c + 9)] (GF X, M, PTF v) (fun r9 S1 => pm_Run d 13 49 [vA c] (pm_push r9 []) S1 K) := by
  refine (px_go (by decide +kernel : pm_fe 13 42 = some (.aload_n 0, 1)) rfl).trans ?_
  refine (ry_get2 (idx := 46) (ci := 1) (k := 16) (chs0 hc) (chp0_16 hc) (by decide +kernel)).trans ?_
  refine (ry_v0 (idx := 75) (m' := 57) (ci := 5) (chs9 hc) (by simp [pm_wl_n, pm_wl_c, pm_w] : pm_wl [] ≤ 8) (by decide +kernel)).trans ?_
  exact Iff.rfl
theorem r13_49 {d : Nat} {c : Nat} {X : Nat × (Nat → Int)} {v : Nat → Int} {M : PH} {K : PV → PS → Prop} (hc : isCh c) : pm_Run d 13 49 [vA c] [] (GF X, M, PTF v) K ↔ pm_Call d 40 [vA (c + 15)] (GF X, M, PTF v) (fun r9 S1 => pm_Run d 13 56 [vA c] (pm_push r9 []) S1 K) := by
  refine (px_go (by decide +kernel : pm_fe 13 49 = some (.aload_n 0, 1)) rfl).trans ?_
  refine (ry_get2 (idx := 53) (ci := 1) (k := 17) (chs0 hc) (chp0_17 hc) (by decide +kernel)).trans ?_
  refine (ry_v0 (idx := 78) (m' := 40) (ci := 3) (chs15 hc) (by simp [pm_wl_n, pm_wl_c, pm_w] : pm_wl [] ≤ 8) (by decide +kernel)).trans ?_
  exact Iff.rfl
theorem r13_56 {d : Nat} {c : Nat} {X : Nat × (Nat → Int)} {v : Nat → Int} {M : PH} {K : PV → PS → Prop} : pm_Run d 13 56 [vA c] [] (GF X, M, PTF v) K ↔ K PU (GF X, M, PTF v) := by
  refine (px_rv (by decide +kernel)).trans ?_
  exact Iff.rfl
-- X1_moonNamed moonNamed(I)I
theorem r14_0 {d : Nat} {c : Nat} {X : Nat × (Nat → Int)} {v : Nat → Int} {M : PH} {K : PV → PS → Prop} {l1 : Int} : pm_Run d 14 0 [vA c, vI l1, PU] [] (GF X, M, PTF v) K ↔ pm_Run d 14 2 [vA c, vI l1, vI 0] [] (GF X, M, PTF v) K := by
  refine (px_go (by decide +kernel : pm_fe 14 0 = some (.iconst 0, 1)) rfl).trans ?_
  refine (px_go (by decide +kernel : pm_fe 14 1 = some (.istore_n 2, 1)) rfl).trans ?_
  exact Iff.rfl
theorem r14_2 {d : Nat} {c : Nat} {X : Nat × (Nat → Int)} {v : Nat → Int} {M : PH} {K : PV → PS → Prop} {l1 l2 : Int} (hc : isCh c) (h1 : inR l2) (h2 : inR (M c 1)) : pm_Run d 14 2 [vA c, vI l1, vI l2] [] (GF X, M, PTF v) K ↔ if M c 1 ≤ l2 then pm_Run d 14 28 [vA c, vI l1, vI l2] [] (GF X, M, PTF v) K else pm_Run d 14 10 [vA c, vI l1, vI l2] [] (GF X, M, PTF v) K := by
  refine (px_go (by decide +kernel : pm_fe 14 2 = some (.iload_n 2, 1)) rfl).trans ?_
  refine (px_go (by decide +kernel : pm_fe 14 3 = some (.aload_n 0, 1)) rfl).trans ?_
  refine (ry_get0 (idx := 60) (ci := 1) (k := 1) (chs0 hc) (by decide +kernel)).trans ?_
  refine (ry_ic_ge (off := 21) (tgt := 28) h1 h2 (by decide +kernel)).trans ?_
  exact Iff.rfl
theorem r14_10 {d : Nat} {c : Nat} {X : Nat × (Nat → Int)} {v : Nat → Int} {M : PH} {K : PV → PS → Prop} {l1 l2 : Int} (hc : isCh c) (h1 : 0 ≤ l2) (h2 : l2 < 3) (h3 : inR (M (c + 1) l2.toNat)) (h4 : inR l1) : pm_Run d 14 10 [vA c, vI l1, vI l2] [] (GF X, M, PTF v) K ↔ if M (c + 1) l2.toNat ≠ l1 then pm_Run d 14 22 [vA c, vI l1, vI l2] [] (GF X, M, PTF v) K else pm_Run d 14 20 [vA c, vI l1, vI l2] [] (GF X, M, PTF v) K := by
  refine (px_go (by decide +kernel : pm_fe 14 10 = some (.aload_n 0, 1)) rfl).trans ?_
  refine (ry_get2 (idx := 18) (ci := 1) (k := 8) (chs0 hc) (chp0_8 hc) (by decide +kernel)).trans ?_
  refine (px_go (by decide +kernel : pm_fe 14 14 = some (.iload_n 2, 1)) rfl).trans ?_
  refine (ry_iald (chs1 hc) h1 h2 (by decide +kernel)).trans ?_
  refine (px_go (by decide +kernel : pm_fe 14 16 = some (.iload_n 1, 1)) rfl).trans ?_
  refine (ry_ic_ne (off := 5) (tgt := 22) h3 h4 (by decide +kernel)).trans ?_
  exact Iff.rfl
theorem r14_20 {d : Nat} {c : Nat} {X : Nat × (Nat → Int)} {v : Nat → Int} {M : PH} {K : PV → PS → Prop} {l1 l2 : Int} : pm_Run d 14 20 [vA c, vI l1, vI l2] [] (GF X, M, PTF v) K ↔ K (vI l2) (GF X, M, PTF v) := by
  refine (px_go (by decide +kernel : pm_fe 14 20 = some (.iload_n 2, 1)) rfl).trans ?_
  refine (px_ri (by decide +kernel)).trans ?_
  exact Iff.rfl
theorem r14_22 {d : Nat} {c : Nat} {X : Nat × (Nat → Int)} {v : Nat → Int} {M : PH} {K : PV → PS → Prop} {l1 l2 : Int} : pm_Run d 14 22 [vA c, vI l1, vI l2] [] (GF X, M, PTF v) K ↔ pm_Run d 14 2 [vA c, vI l1, vI (l2 + 1)] [] (GF X, M, PTF v) K := by
  refine (px_go (by decide +kernel : pm_fe 14 22 = some (.iinc 2 1, 3)) rfl).trans ?_
  refine (px_goto (off := (-23)) (tgt := 2) (by decide +kernel)).trans ?_
  exact Iff.rfl
theorem r14_28 {d : Nat} {c : Nat} {X : Nat × (Nat → Int)} {v : Nat → Int} {M : PH} {K : PV → PS → Prop} {l1 l2 : Int} : pm_Run d 14 28 [vA c, vI l1, vI l2] [] (GF X, M, PTF v) K ↔ K (vI (-1)) (GF X, M, PTF v) := by
  refine (px_go (by decide +kernel : pm_fe 14 28 = some (.iconst (-1), 1)) rfl).trans ?_
  refine (px_ri (by decide +kernel)).trans ?_
  exact Iff.rfl
-- X1_harborNamed harborNamed(I)I
theorem r15_0 {d : Nat} {c : Nat} {X : Nat × (Nat → Int)} {v : Nat → Int} {M : PH} {K : PV → PS → Prop} {l1 : Int} : pm_Run d 15 0 [vA c, vI l1, PU] [] (GF X, M, PTF v) K ↔ pm_Run d 15 2 [vA c, vI l1, vI 0] [] (GF X, M, PTF v) K := by
  refine (px_go (by decide +kernel : pm_fe 15 0 = some (.iconst 0, 1)) rfl).trans ?_
  refine (px_go (by decide +kernel : pm_fe 15 1 = some (.istore_n 2, 1)) rfl).trans ?_
  exact Iff.rfl
theorem r15_2 {d : Nat} {c : Nat} {X : Nat × (Nat → Int)} {v : Nat → Int} {M : PH} {K : PV → PS → Prop} {l1 l2 : Int} (hc : isCh c) (h1 : inR l2) (h2 : inR (M c 2)) : pm_Run d 15 2 [vA c, vI l1, vI l2] [] (GF X, M, PTF v) K ↔ if M c 2 ≤ l2 then pm_Run d 15 28 [vA c, vI l1, vI l2] [] (GF X, M, PTF v) K else pm_Run d 15 10 [vA c, vI l1, vI l2] [] (GF X, M, PTF v) K := by
  refine (px_go (by decide +kernel : pm_fe 15 2 = some (.iload_n 2, 1)) rfl).trans ?_
  refine (px_go (by decide +kernel : pm_fe 15 3 = some (.aload_n 0, 1)) rfl).trans ?_
  refine (ry_get0 (idx := 63) (ci := 1) (k := 2) (chs0 hc) (by decide +kernel)).trans ?_
  refine (ry_ic_ge (off := 21) (tgt := 28) h1 h2 (by decide +kernel)).trans ?_
  exact Iff.rfl
theorem r15_10 {d : Nat} {c : Nat} {X : Nat × (Nat → Int)} {v : Nat → Int} {M : PH} {K : PV → PS → Prop} {l1 l2 : Int} (hc : isCh c) (h1 : 0 ≤ l2) (h2 : l2 < 8) (h3 : inR (M (c + 3) l2.toNat)) (h4 : inR l1) : pm_Run d 15 10 [vA c, vI l1, vI l2] [] (GF X, M, PTF v) K ↔ if M (c + 3) l2.toNat ≠ l1 then pm_Run d 15 22 [vA c, vI l1, vI l2] [] (GF X, M, PTF v) K else pm_Run d 15 20 [vA c, vI l1, vI l2] [] (GF X, M, PTF v) K := by
  refine (px_go (by decide +kernel : pm_fe 15 10 = some (.aload_n 0, 1)) rfl).trans ?_
  refine (ry_get2 (idx := 25) (ci := 1) (k := 10) (chs0 hc) (chp0_10 hc) (by decide +kernel)).trans ?_
  refine (px_go (by decide +kernel : pm_fe 15 14 = some (.iload_n 2, 1)) rfl).trans ?_
  refine (ry_iald (chs3 hc) h1 h2 (by decide +kernel)).trans ?_
  refine (px_go (by decide +kernel : pm_fe 15 16 = some (.iload_n 1, 1)) rfl).trans ?_
  refine (ry_ic_ne (off := 5) (tgt := 22) h3 h4 (by decide +kernel)).trans ?_
  exact Iff.rfl
theorem r15_20 {d : Nat} {c : Nat} {X : Nat × (Nat → Int)} {v : Nat → Int} {M : PH} {K : PV → PS → Prop} {l1 l2 : Int} : pm_Run d 15 20 [vA c, vI l1, vI l2] [] (GF X, M, PTF v) K ↔ K (vI l2) (GF X, M, PTF v) := by
  refine (px_go (by decide +kernel : pm_fe 15 20 = some (.iload_n 2, 1)) rfl).trans ?_
  refine (px_ri (by decide +kernel)).trans ?_
  exact Iff.rfl
theorem r15_22 {d : Nat} {c : Nat} {X : Nat × (Nat → Int)} {v : Nat → Int} {M : PH} {K : PV → PS → Prop} {l1 l2 : Int} : pm_Run d 15 22 [vA c, vI l1, vI l2] [] (GF X, M, PTF v) K ↔ pm_Run d 15 2 [vA c, vI l1, vI (l2 + 1)] [] (GF X, M, PTF v) K := by
  refine (px_go (by decide +kernel : pm_fe 15 22 = some (.iinc 2 1, 3)) rfl).trans ?_
  refine (px_goto (off := (-23)) (tgt := 2) (by decide +kernel)).trans ?_
  exact Iff.rfl
theorem r15_28 {d : Nat} {c : Nat} {X : Nat × (Nat → Int)} {v : Nat → Int} {M : PH} {K : PV → PS → Prop} {l1 l2 : Int} : pm_Run d 15 28 [vA c, vI l1, vI l2] [] (GF X, M, PTF v) K ↔ K (vI (-1)) (GF X, M, PTF v) := by
  refine (px_go (by decide +kernel : pm_fe 15 28 = some (.iconst (-1), 1)) rfl).trans ?_
  refine (px_ri (by decide +kernel)).trans ?_
  exact Iff.rfl
-- X1_hasHarborAt hasHarborAt(I)Z
theorem r16_0 {d : Nat} {c : Nat} {X : Nat × (Nat → Int)} {v : Nat → Int} {M : PH} {K : PV → PS → Prop} {l1 : Int} : pm_Run d 16 0 [vA c, vI l1, PU] [] (GF X, M, PTF v) K ↔ pm_Run d 16 2 [vA c, vI l1, vI 0] [] (GF X, M, PTF v) K := by
  refine (px_go (by decide +kernel : pm_fe 16 0 = some (.iconst 0, 1)) rfl).trans ?_
  refine (px_go (by decide +kernel : pm_fe 16 1 = some (.istore_n 2, 1)) rfl).trans ?_
  exact Iff.rfl
theorem r16_2 {d : Nat} {c : Nat} {X : Nat × (Nat → Int)} {v : Nat → Int} {M : PH} {K : PV → PS → Prop} {l1 l2 : Int} (hc : isCh c) (h1 : inR l2) (h2 : inR (M c 2)) : pm_Run d 16 2 [vA c, vI l1, vI l2] [] (GF X, M, PTF v) K ↔ if M c 2 ≤ l2 then pm_Run d 16 28 [vA c, vI l1, vI l2] [] (GF X, M, PTF v) K else pm_Run d 16 10 [vA c, vI l1, vI l2] [] (GF X, M, PTF v) K := by
  refine (px_go (by decide +kernel : pm_fe 16 2 = some (.iload_n 2, 1)) rfl).trans ?_
  refine (px_go (by decide +kernel : pm_fe 16 3 = some (.aload_n 0, 1)) rfl).trans ?_
  refine (ry_get0 (idx := 63) (ci := 1) (k := 2) (chs0 hc) (by decide +kernel)).trans ?_
  refine (ry_ic_ge (off := 21) (tgt := 28) h1 h2 (by decide +kernel)).trans ?_
  exact Iff.rfl
theorem r16_10 {d : Nat} {c : Nat} {X : Nat × (Nat → Int)} {v : Nat → Int} {M : PH} {K : PV → PS → Prop} {l1 l2 : Int} (hc : isCh c) (h1 : 0 ≤ l2) (h2 : l2 < 8) (h3 : inR (M (c + 4) l2.toNat)) (h4 : inR l1) : pm_Run d 16 10 [vA c, vI l1, vI l2] [] (GF X, M, PTF v) K ↔ if M (c + 4) l2.toNat ≠ l1 then pm_Run d 16 22 [vA c, vI l1, vI l2] [] (GF X, M, PTF v) K else pm_Run d 16 20 [vA c, vI l1, vI l2] [] (GF X, M, PTF v) K := by
  refine (px_go (by decide +kernel : pm_fe 16 10 = some (.aload_n 0, 1)) rfl).trans ?_
  refine (ry_get2 (idx := 28) (ci := 1) (k := 11) (chs0 hc) (chp0_11 hc) (by decide +kernel)).trans ?_
  refine (px_go (by decide +kernel : pm_fe 16 14 = some (.iload_n 2, 1)) rfl).trans ?_
  refine (ry_iald (chs4 hc) h1 h2 (by decide +kernel)).trans ?_
  refine (px_go (by decide +kernel : pm_fe 16 16 = some (.iload_n 1, 1)) rfl).trans ?_
  refine (ry_ic_ne (off := 5) (tgt := 22) h3 h4 (by decide +kernel)).trans ?_
  exact Iff.rfl
theorem r16_20 {d : Nat} {c : Nat} {X : Nat × (Nat → Int)} {v : Nat → Int} {M : PH} {K : PV → PS → Prop} {l1 l2 : Int} : pm_Run d 16 20 [vA c, vI l1, vI l2] [] (GF X, M, PTF v) K ↔ K (vI 1) (GF X, M, PTF v) := by
  refine (px_go (by decide +kernel : pm_fe 16 20 = some (.iconst 1, 1)) rfl).trans ?_
  refine (px_rz (by decide +kernel)).trans ((and_iff_right (by decide : (1 : Int) = (0 : Int) ∨ (1 : Int) = (1 : Int))).trans ?_)
  exact Iff.rfl
theorem r16_22 {d : Nat} {c : Nat} {X : Nat × (Nat → Int)} {v : Nat → Int} {M : PH} {K : PV → PS → Prop} {l1 l2 : Int} : pm_Run d 16 22 [vA c, vI l1, vI l2] [] (GF X, M, PTF v) K ↔ pm_Run d 16 2 [vA c, vI l1, vI (l2 + 1)] [] (GF X, M, PTF v) K := by
  refine (px_go (by decide +kernel : pm_fe 16 22 = some (.iinc 2 1, 3)) rfl).trans ?_
  refine (px_goto (off := (-23)) (tgt := 2) (by decide +kernel)).trans ?_
  exact Iff.rfl
theorem r16_28 {d : Nat} {c : Nat} {X : Nat × (Nat → Int)} {v : Nat → Int} {M : PH} {K : PV → PS → Prop} {l1 l2 : Int} : pm_Run d 16 28 [vA c, vI l1, vI l2] [] (GF X, M, PTF v) K ↔ K (vI 0) (GF X, M, PTF v) := by
  refine (px_go (by decide +kernel : pm_fe 16 28 = some (.iconst 0, 1)) rfl).trans ?_
  refine (px_rz (by decide +kernel)).trans ((and_iff_right (by decide : (0 : Int) = (0 : Int) ∨ (0 : Int) = (1 : Int))).trans ?_)
  exact Iff.rfl
-- X1_owedBy owedBy(I)I
theorem r17_0 {d : Nat} {c : Nat} {X : Nat × (Nat → Int)} {v : Nat → Int} {M : PH} {K : PV → PS → Prop} {l1 : Int} : pm_Run d 17 0 [vA c, vI l1, PU, PU] [] (GF X, M, PTF v) K ↔ pm_Run d 17 4 [vA c, vI l1, vI 0, vI 0] [] (GF X, M, PTF v) K := by
  refine (px_go (by decide +kernel : pm_fe 17 0 = some (.iconst 0, 1)) rfl).trans ?_
  refine (px_go (by decide +kernel : pm_fe 17 1 = some (.istore_n 2, 1)) rfl).trans ?_
  refine (px_go (by decide +kernel : pm_fe 17 2 = some (.iconst 0, 1)) rfl).trans ?_
  refine (px_go (by decide +kernel : pm_fe 17 3 = some (.istore_n 3, 1)) rfl).trans ?_
  exact Iff.rfl
theorem r17_4 {d : Nat} {c : Nat} {X : Nat × (Nat → Int)} {v : Nat → Int} {M : PH} {K : PV → PS → Prop} {l1 l2 l3 : Int} (hc : isCh c) (h1 : inR l3) (h2 : inR (M c 3)) : pm_Run d 17 4 [vA c, vI l1, vI l2, vI l3] [] (GF X, M, PTF v) K ↔ if M c 3 ≤ l3 then pm_Run d 17 37 [vA c, vI l1, vI l2, vI l3] [] (GF X, M, PTF v) K else pm_Run d 17 12 [vA c, vI l1, vI l2, vI l3] [] (GF X, M, PTF v) K := by
  refine (px_go (by decide +kernel : pm_fe 17 4 = some (.iload_n 3, 1)) rfl).trans ?_
  refine (px_go (by decide +kernel : pm_fe 17 5 = some (.aload_n 0, 1)) rfl).trans ?_
  refine (ry_get0 (idx := 66) (ci := 1) (k := 3) (chs0 hc) (by decide +kernel)).trans ?_
  refine (ry_ic_ge (off := 28) (tgt := 37) h1 h2 (by decide +kernel)).trans ?_
  exact Iff.rfl
theorem r17_12 {d : Nat} {c : Nat} {X : Nat × (Nat → Int)} {v : Nat → Int} {M : PH} {K : PV → PS → Prop} {l1 l2 l3 : Int} (hc : isCh c) (h1 : 0 ≤ l3) (h2 : l3 < 16) (h3 : inR (M (c + 6) l3.toNat)) (h4 : inR l1) : pm_Run d 17 12 [vA c, vI l1, vI l2, vI l3] [] (GF X, M, PTF v) K ↔ if M (c + 6) l3.toNat ≠ l1 then pm_Run d 17 31 [vA c, vI l1, vI l2, vI l3] [] (GF X, M, PTF v) K else pm_Run d 17 22 [vA c, vI l1, vI l2, vI l3] [] (GF X, M, PTF v) K := by
  refine (px_go (by decide +kernel : pm_fe 17 12 = some (.aload_n 0, 1)) rfl).trans ?_
  refine (ry_get2 (idx := 34) (ci := 1) (k := 13) (chs0 hc) (chp0_13 hc) (by decide +kernel)).trans ?_
  refine (px_go (by decide +kernel : pm_fe 17 16 = some (.iload_n 3, 1)) rfl).trans ?_
  refine (ry_iald (chs6 hc) h1 h2 (by decide +kernel)).trans ?_
  refine (px_go (by decide +kernel : pm_fe 17 18 = some (.iload_n 1, 1)) rfl).trans ?_
  refine (ry_ic_ne (off := 12) (tgt := 31) h3 h4 (by decide +kernel)).trans ?_
  exact Iff.rfl
theorem r17_22 {d : Nat} {c : Nat} {X : Nat × (Nat → Int)} {v : Nat → Int} {M : PH} {K : PV → PS → Prop} {l1 l2 l3 : Int} (hc : isCh c) (h1 : 0 ≤ l3) (h2 : l3 < 16) : pm_Run d 17 22 [vA c, vI l1, vI l2, vI l3] [] (GF X, M, PTF v) K ↔ pm_Run d 17 31 [vA c, vI l1, vI (l2 + (M (c + 8) l3.toNat)), vI l3] [] (GF X, M, PTF v) K := by
  refine (px_go (by decide +kernel : pm_fe 17 22 = some (.iload_n 2, 1)) rfl).trans ?_
  refine (px_go (by decide +kernel : pm_fe 17 23 = some (.aload_n 0, 1)) rfl).trans ?_
  refine (ry_get2 (idx := 40) (ci := 1) (k := 15) (chs0 hc) (chp0_15 hc) (by decide +kernel)).trans ?_
  refine (px_go (by decide +kernel : pm_fe 17 27 = some (.iload_n 3, 1)) rfl).trans ?_
  refine (ry_iald (chs8 hc) h1 h2 (by decide +kernel)).trans ?_
  refine (px_go (by decide +kernel : pm_fe 17 29 = some (.iadd, 1)) rfl).trans ?_
  refine (px_go (by decide +kernel : pm_fe 17 30 = some (.istore_n 2, 1)) rfl).trans ?_
  exact Iff.rfl
theorem r17_31 {d : Nat} {c : Nat} {X : Nat × (Nat → Int)} {v : Nat → Int} {M : PH} {K : PV → PS → Prop} {l1 l2 l3 : Int} : pm_Run d 17 31 [vA c, vI l1, vI l2, vI l3] [] (GF X, M, PTF v) K ↔ pm_Run d 17 4 [vA c, vI l1, vI l2, vI (l3 + 1)] [] (GF X, M, PTF v) K := by
  refine (px_go (by decide +kernel : pm_fe 17 31 = some (.iinc 3 1, 3)) rfl).trans ?_
  refine (px_goto (off := (-30)) (tgt := 4) (by decide +kernel)).trans ?_
  exact Iff.rfl
theorem r17_37 {d : Nat} {c : Nat} {X : Nat × (Nat → Int)} {v : Nat → Int} {M : PH} {K : PV → PS → Prop} {l1 l2 l3 : Int} : pm_Run d 17 37 [vA c, vI l1, vI l2, vI l3] [] (GF X, M, PTF v) K ↔ K (vI l2) (GF X, M, PTF v) := by
  refine (px_go (by decide +kernel : pm_fe 17 37 = some (.iload_n 2, 1)) rfl).trans ?_
  refine (px_ri (by decide +kernel)).trans ?_
  exact Iff.rfl
-- X1_owedTo owedTo(II)I
theorem r18_0 {d : Nat} {c : Nat} {X : Nat × (Nat → Int)} {v : Nat → Int} {M : PH} {K : PV → PS → Prop} {l1 l2 : Int} : pm_Run d 18 0 [vA c, vI l1, vI l2, PU, PU] [] (GF X, M, PTF v) K ↔ pm_Run d 18 5 [vA c, vI l1, vI l2, vI 0, vI 0] [] (GF X, M, PTF v) K := by
  refine (px_go (by decide +kernel : pm_fe 18 0 = some (.iconst 0, 1)) rfl).trans ?_
  refine (px_go (by decide +kernel : pm_fe 18 1 = some (.istore_n 3, 1)) rfl).trans ?_
  refine (px_go (by decide +kernel : pm_fe 18 2 = some (.iconst 0, 1)) rfl).trans ?_
  refine (px_go (by decide +kernel : pm_fe 18 3 = some (.istore 4, 2)) rfl).trans ?_
  exact Iff.rfl
theorem r18_5 {d : Nat} {c : Nat} {X : Nat × (Nat → Int)} {v : Nat → Int} {M : PH} {K : PV → PS → Prop} {l1 l2 l3 l4 : Int} (hc : isCh c) (h1 : inR l4) (h2 : inR (M c 3)) : pm_Run d 18 5 [vA c, vI l1, vI l2, vI l3, vI l4] [] (GF X, M, PTF v) K ↔ if M c 3 ≤ l4 then pm_Run d 18 55 [vA c, vI l1, vI l2, vI l3, vI l4] [] (GF X, M, PTF v) K else pm_Run d 18 14 [vA c, vI l1, vI l2, vI l3, vI l4] [] (GF X, M, PTF v) K := by
  refine (px_go (by decide +kernel : pm_fe 18 5 = some (.iload 4, 2)) rfl).trans ?_
  refine (px_go (by decide +kernel : pm_fe 18 7 = some (.aload_n 0, 1)) rfl).trans ?_
  refine (ry_get0 (idx := 66) (ci := 1) (k := 3) (chs0 hc) (by decide +kernel)).trans ?_
  refine (ry_ic_ge (off := 44) (tgt := 55) h1 h2 (by decide +kernel)).trans ?_
  exact Iff.rfl
theorem r18_14 {d : Nat} {c : Nat} {X : Nat × (Nat → Int)} {v : Nat → Int} {M : PH} {K : PV → PS → Prop} {l1 l2 l3 l4 : Int} (hc : isCh c) (h1 : 0 ≤ l4) (h2 : l4 < 16) (h3 : inR (M (c + 7) l4.toNat)) (h4 : inR l1) : pm_Run d 18 14 [vA c, vI l1, vI l2, vI l3, vI l4] [] (GF X, M, PTF v) K ↔ if M (c + 7) l4.toNat ≠ l1 then pm_Run d 18 49 [vA c, vI l1, vI l2, vI l3, vI l4] [] (GF X, M, PTF v) K else pm_Run d 18 25 [vA c, vI l1, vI l2, vI l3, vI l4] [] (GF X, M, PTF v) K := by
  refine (px_go (by decide +kernel : pm_fe 18 14 = some (.aload_n 0, 1)) rfl).trans ?_
  refine (ry_get2 (idx := 37) (ci := 1) (k := 14) (chs0 hc) (chp0_14 hc) (by decide +kernel)).trans ?_
  refine (px_go (by decide +kernel : pm_fe 18 18 = some (.iload 4, 2)) rfl).trans ?_
  refine (ry_iald (chs7 hc) h1 h2 (by decide +kernel)).trans ?_
  refine (px_go (by decide +kernel : pm_fe 18 21 = some (.iload_n 1, 1)) rfl).trans ?_
  refine (ry_ic_ne (off := 27) (tgt := 49) h3 h4 (by decide +kernel)).trans ?_
  exact Iff.rfl
theorem r18_25 {d : Nat} {c : Nat} {X : Nat × (Nat → Int)} {v : Nat → Int} {M : PH} {K : PV → PS → Prop} {l1 l2 l3 l4 : Int} (hc : isCh c) (h1 : 0 ≤ l4) (h2 : l4 < 16) (h3 : inR (pm_and (pm_shr l2 (M (c + 6) l4.toNat)) 1)) : pm_Run d 18 25 [vA c, vI l1, vI l2, vI l3, vI l4] [] (GF X, M, PTF v) K ↔ if pm_and (pm_shr l2 (M (c + 6) l4.toNat)) 1 ≠ 0 then pm_Run d 18 49 [vA c, vI l1, vI l2, vI l3, vI l4] [] (GF X, M, PTF v) K else pm_Run d 18 39 [vA c, vI l1, vI l2, vI l3, vI l4] [] (GF X, M, PTF v) K := by
  refine (px_go (by decide +kernel : pm_fe 18 25 = some (.iload_n 2, 1)) rfl).trans ?_
  refine (px_go (by decide +kernel : pm_fe 18 26 = some (.aload_n 0, 1)) rfl).trans ?_
  refine (ry_get2 (idx := 34) (ci := 1) (k := 13) (chs0 hc) (chp0_13 hc) (by decide +kernel)).trans ?_
  refine (px_go (by decide +kernel : pm_fe 18 30 = some (.iload 4, 2)) rfl).trans ?_
  refine (ry_iald (chs6 hc) h1 h2 (by decide +kernel)).trans ?_
  refine (px_go (by decide +kernel : pm_fe 18 33 = some (.ishr, 1)) rfl).trans ?_
  refine (px_go (by decide +kernel : pm_fe 18 34 = some (.iconst 1, 1)) rfl).trans ?_
  refine (px_go (by decide +kernel : pm_fe 18 35 = some (.iand, 1)) rfl).trans ?_
  refine (ry_if_ne (off := 13) (tgt := 49) h3 (by decide +kernel)).trans ?_
  exact Iff.rfl
theorem r18_39 {d : Nat} {c : Nat} {X : Nat × (Nat → Int)} {v : Nat → Int} {M : PH} {K : PV → PS → Prop} {l1 l2 l3 l4 : Int} (hc : isCh c) (h1 : 0 ≤ l4) (h2 : l4 < 16) : pm_Run d 18 39 [vA c, vI l1, vI l2, vI l3, vI l4] [] (GF X, M, PTF v) K ↔ pm_Run d 18 49 [vA c, vI l1, vI l2, vI (l3 + (M (c + 8) l4.toNat)), vI l4] [] (GF X, M, PTF v) K := by
  refine (px_go (by decide +kernel : pm_fe 18 39 = some (.iload_n 3, 1)) rfl).trans ?_
  refine (px_go (by decide +kernel : pm_fe 18 40 = some (.aload_n 0, 1)) rfl).trans ?_
  refine (ry_get2 (idx := 40) (ci := 1) (k := 15) (chs0 hc) (chp0_15 hc) (by decide +kernel)).trans ?_
  refine (px_go (by decide +kernel : pm_fe 18 44 = some (.iload 4, 2)) rfl).trans ?_
  refine (ry_iald (chs8 hc) h1 h2 (by decide +kernel)).trans ?_
  refine (px_go (by decide +kernel : pm_fe 18 47 = some (.iadd, 1)) rfl).trans ?_
  refine (px_go (by decide +kernel : pm_fe 18 48 = some (.istore_n 3, 1)) rfl).trans ?_
  exact Iff.rfl
theorem r18_49 {d : Nat} {c : Nat} {X : Nat × (Nat → Int)} {v : Nat → Int} {M : PH} {K : PV → PS → Prop} {l1 l2 l3 l4 : Int} : pm_Run d 18 49 [vA c, vI l1, vI l2, vI l3, vI l4] [] (GF X, M, PTF v) K ↔ pm_Run d 18 5 [vA c, vI l1, vI l2, vI l3, vI (l4 + 1)] [] (GF X, M, PTF v) K := by
  refine (px_go (by decide +kernel : pm_fe 18 49 = some (.iinc 4 1, 3)) rfl).trans ?_
  refine (px_goto (off := (-47)) (tgt := 5) (by decide +kernel)).trans ?_
  exact Iff.rfl
theorem r18_55 {d : Nat} {c : Nat} {X : Nat × (Nat → Int)} {v : Nat → Int} {M : PH} {K : PV → PS → Prop} {l1 l2 l3 l4 : Int} : pm_Run d 18 55 [vA c, vI l1, vI l2, vI l3, vI l4] [] (GF X, M, PTF v) K ↔ K (vI l3) (GF X, M, PTF v) := by
  refine (px_go (by decide +kernel : pm_fe 18 55 = some (.iload_n 3, 1)) rfl).trans ?_
  refine (px_ri (by decide +kernel)).trans ?_
  exact Iff.rfl
-- X1_failing failing([I)I
theorem r19_0 {d : Nat} {c r nr : Nat} {X : Nat × (Nat → Int)} {v : Nat → Int} {M : PH} {K : PV → PS → Prop} : pm_Run d 19 0 [vA c, vA r, PU, PU, PU, PU] [] (GF X, M, PTF v) K ↔ pm_Run d 19 4 [vA c, vA r, vI 0, vI 0, PU, PU] [] (GF X, M, PTF v) K := by
  refine (px_go (by decide +kernel : pm_fe 19 0 = some (.iconst 0, 1)) rfl).trans ?_
  refine (px_go (by decide +kernel : pm_fe 19 1 = some (.istore_n 2, 1)) rfl).trans ?_
  refine (px_go (by decide +kernel : pm_fe 19 2 = some (.iconst 0, 1)) rfl).trans ?_
  refine (px_go (by decide +kernel : pm_fe 19 3 = some (.istore_n 3, 1)) rfl).trans ?_
  exact Iff.rfl
theorem r19_4 {d : Nat} {c r nr : Nat} {X : Nat × (Nat → Int)} {v : Nat → Int} {M : PH} {K : PV → PS → Prop} {l2 l3 : Int} {l4 l5 : PV} (h1 : inR l3) : pm_Run d 19 4 [vA c, vA r, vI l2, vI l3, l4, l5] [] (GF X, M, PTF v) K ↔ if 8 < l3 then pm_Run d 19 78 [vA c, vA r, vI l2, vI l3, l4, l5] [] (GF X, M, PTF v) K else pm_Run d 19 10 [vA c, vA r, vI l2, vI l3, l4, l5] [] (GF X, M, PTF v) K := by
  refine (px_go (by decide +kernel : pm_fe 19 4 = some (.iload_n 3, 1)) rfl).trans ?_
  refine (px_go (by decide +kernel : pm_fe 19 5 = some (.bipush 8, 2)) rfl).trans ?_
  refine (ry_ic_gt (off := 71) (tgt := 78) h1 (by decide : (-2147483648 ≤ (8 : Int) ∧ (8 : Int) < 2147483648)) (by decide +kernel)).trans ?_
  exact Iff.rfl
theorem r19_10 {d : Nat} {c r nr : Nat} {X : Nat × (Nat → Int)} {v : Nat → Int} {M : PH} {K : PV → PS → Prop} {l2 l3 : Int} {l4 l5 : PV} : pm_Run d 19 10 [vA c, vA r, vI l2, vI l3, l4, l5] [] (GF X, M, PTF v) K ↔ pm_Run d 19 16 [vA c, vA r, vI l2, vI l3, vI l2, vI 0] [] (GF X, M, PTF v) K := by
  refine (px_go (by decide +kernel : pm_fe 19 10 = some (.iload_n 2, 1)) rfl).trans ?_
  refine (px_go (by decide +kernel : pm_fe 19 11 = some (.istore 4, 2)) rfl).trans ?_
  refine (px_go (by decide +kernel : pm_fe 19 13 = some (.iconst 0, 1)) rfl).trans ?_
  refine (px_go (by decide +kernel : pm_fe 19 14 = some (.istore 5, 2)) rfl).trans ?_
  exact Iff.rfl
theorem r19_16 {d : Nat} {c r nr : Nat} {X : Nat × (Nat → Int)} {v : Nat → Int} {M : PH} {K : PV → PS → Prop} {l2 l3 l4 l5 : Int} (hc : isCh c) (h1 : inR l5) (h2 : inR (M c 2)) : pm_Run d 19 16 [vA c, vA r, vI l2, vI l3, vI l4, vI l5] [] (GF X, M, PTF v) K ↔ if M c 2 ≤ l5 then pm_Run d 19 61 [vA c, vA r, vI l2, vI l3, vI l4, vI l5] [] (GF X, M, PTF v) K else pm_Run d 19 25 [vA c, vA r, vI l2, vI l3, vI l4, vI l5] [] (GF X, M, PTF v) K := by
  refine (px_go (by decide +kernel : pm_fe 19 16 = some (.iload 5, 2)) rfl).trans ?_
  refine (px_go (by decide +kernel : pm_fe 19 18 = some (.aload_n 0, 1)) rfl).trans ?_
  refine (ry_get0 (idx := 63) (ci := 1) (k := 2) (chs0 hc) (by decide +kernel)).trans ?_
  refine (ry_ic_ge (off := 39) (tgt := 61) h1 h2 (by decide +kernel)).trans ?_
  exact Iff.rfl
theorem r19_25 {d : Nat} {c r nr : Nat} {X : Nat × (Nat → Int)} {v : Nat → Int} {M : PH} {K : PV → PS → Prop} {l2 l3 l4 l5 : Int} (hc : isCh c) (hr : r < 283 ∧ SHF r = (100, nr)) (h1 : 0 ≤ l5) (h2 : l5 < nr) : pm_Run d 19 25 [vA c, vA r, vI l2, vI l3, vI l4, vI l5] [] (GF X, M, PTF v) K ↔ pm_Call d 18 [vA c, vI l5, vI l2] (GF X, M, PTF v) (fun r9 S1 => pm_Run d 19 36 [vA c, vA r, vI l2, vI l3, vI l4, vI l5] (pm_push r9 [vI (M r l5.toNat)]) S1 K) := by
  refine (px_go (by decide +kernel : pm_fe 19 25 = some (.aload_n 1, 1)) rfl).trans ?_
  refine (px_go (by decide +kernel : pm_fe 19 26 = some (.iload 5, 2)) rfl).trans ?_
  refine (ry_iald hr h1 h2 (by decide +kernel)).trans ?_
  refine (px_go (by decide +kernel : pm_fe 19 29 = some (.aload_n 0, 1)) rfl).trans ?_
  refine (px_go (by decide +kernel : pm_fe 19 30 = some (.iload 5, 2)) rfl).trans ?_
  refine (px_go (by decide +kernel : pm_fe 19 32 = some (.iload_n 2, 1)) rfl).trans ?_
  refine (ry_v2 (idx := 79) (m' := 18) (ci := 1) (chs0 hc) (by simp [pm_wl_n, pm_wl_c, pm_w] : pm_wl [vI (M r l5.toNat)] ≤ 8) (by decide +kernel)).trans ?_
  exact Iff.rfl
theorem r19_36 {d : Nat} {c r nr : Nat} {X : Nat × (Nat → Int)} {v : Nat → Int} {M : PH} {K : PV → PS → Prop} {l2 l3 l4 l5 s0 s1 : Int} (hc : isCh c) : pm_Run d 19 36 [vA c, vA r, vI l2, vI l3, vI l4, vI l5] [vI s0, vI s1] (GF X, M, PTF v) K ↔ pm_Call d 17 [vA c, vI l5] (GF X, M, PTF v) (fun r9 S1 => pm_Run d 19 43 [vA c, vA r, vI l2, vI l3, vI l4, vI l5] (pm_push r9 [vI (s1 + s0)]) S1 K) := by
  refine (px_go (by decide +kernel : pm_fe 19 36 = some (.iadd, 1)) rfl).trans ?_
  refine (px_go (by decide +kernel : pm_fe 19 37 = some (.aload_n 0, 1)) rfl).trans ?_
  refine (px_go (by decide +kernel : pm_fe 19 38 = some (.iload 5, 2)) rfl).trans ?_
  refine (ry_v1 (idx := 83) (m' := 17) (ci := 1) (chs0 hc) (by simp [pm_wl_n, pm_wl_c, pm_w] : pm_wl [vI (s1 + s0)] ≤ 8) (by decide +kernel)).trans ?_
  exact Iff.rfl
theorem r19_43 {d : Nat} {c r nr : Nat} {X : Nat × (Nat → Int)} {v : Nat → Int} {M : PH} {K : PV → PS → Prop} {l2 l3 l4 l5 s0 s1 : Int} (h1 : inR s1) (h2 : inR s0) : pm_Run d 19 43 [vA c, vA r, vI l2, vI l3, vI l4, vI l5] [vI s0, vI s1] (GF X, M, PTF v) K ↔ if s0 ≤ s1 then pm_Run d 19 55 [vA c, vA r, vI l2, vI l3, vI l4, vI l5] [] (GF X, M, PTF v) K else pm_Run d 19 46 [vA c, vA r, vI l2, vI l3, vI l4, vI l5] [] (GF X, M, PTF v) K := by
  refine (ry_ic_ge (off := 12) (tgt := 55) h1 h2 (by decide +kernel)).trans ?_
  exact Iff.rfl
theorem r19_46 {d : Nat} {c r nr : Nat} {X : Nat × (Nat → Int)} {v : Nat → Int} {M : PH} {K : PV → PS → Prop} {l2 l3 l4 l5 : Int} : pm_Run d 19 46 [vA c, vA r, vI l2, vI l3, vI l4, vI l5] [] (GF X, M, PTF v) K ↔ pm_Run d 19 55 [vA c, vA r, vI l2, vI l3, vI (pm_or l4 (pm_shl 1 l5)), vI l5] [] (GF X, M, PTF v) K := by
  refine (px_go (by decide +kernel : pm_fe 19 46 = some (.iload 4, 2)) rfl).trans ?_
  refine (px_go (by decide +kernel : pm_fe 19 48 = some (.iconst 1, 1)) rfl).trans ?_
  refine (px_go (by decide +kernel : pm_fe 19 49 = some (.iload 5, 2)) rfl).trans ?_
  refine (px_go (by decide +kernel : pm_fe 19 51 = some (.ishl, 1)) rfl).trans ?_
  refine (px_go (by decide +kernel : pm_fe 19 52 = some (.ior, 1)) rfl).trans ?_
  refine (px_go (by decide +kernel : pm_fe 19 53 = some (.istore 4, 2)) rfl).trans ?_
  exact Iff.rfl
theorem r19_55 {d : Nat} {c r nr : Nat} {X : Nat × (Nat → Int)} {v : Nat → Int} {M : PH} {K : PV → PS → Prop} {l2 l3 l4 l5 : Int} : pm_Run d 19 55 [vA c, vA r, vI l2, vI l3, vI l4, vI l5] [] (GF X, M, PTF v) K ↔ pm_Run d 19 16 [vA c, vA r, vI l2, vI l3, vI l4, vI (l5 + 1)] [] (GF X, M, PTF v) K := by
  refine (px_go (by decide +kernel : pm_fe 19 55 = some (.iinc 5 1, 3)) rfl).trans ?_
  refine (px_goto (off := (-42)) (tgt := 16) (by decide +kernel)).trans ?_
  exact Iff.rfl
theorem r19_61 {d : Nat} {c r nr : Nat} {X : Nat × (Nat → Int)} {v : Nat → Int} {M : PH} {K : PV → PS → Prop} {l2 l3 l4 l5 : Int} (h1 : inR l4) (h2 : inR l2) : pm_Run d 19 61 [vA c, vA r, vI l2, vI l3, vI l4, vI l5] [] (GF X, M, PTF v) K ↔ if l4 ≠ l2 then pm_Run d 19 69 [vA c, vA r, vI l2, vI l3, vI l4, vI l5] [] (GF X, M, PTF v) K else pm_Run d 19 67 [vA c, vA r, vI l2, vI l3, vI l4, vI l5] [] (GF X, M, PTF v) K := by
  refine (px_go (by decide +kernel : pm_fe 19 61 = some (.iload 4, 2)) rfl).trans ?_
  refine (px_go (by decide +kernel : pm_fe 19 63 = some (.iload_n 2, 1)) rfl).trans ?_
  refine (ry_ic_ne (off := 5) (tgt := 69) h1 h2 (by decide +kernel)).trans ?_
  exact Iff.rfl
theorem r19_67 {d : Nat} {c r nr : Nat} {X : Nat × (Nat → Int)} {v : Nat → Int} {M : PH} {K : PV → PS → Prop} {l2 l3 l4 l5 : Int} : pm_Run d 19 67 [vA c, vA r, vI l2, vI l3, vI l4, vI l5] [] (GF X, M, PTF v) K ↔ K (vI l2) (GF X, M, PTF v) := by
  refine (px_go (by decide +kernel : pm_fe 19 67 = some (.iload_n 2, 1)) rfl).trans ?_
  refine (px_ri (by decide +kernel)).trans ?_
  exact Iff.rfl
theorem r19_69 {d : Nat} {c r nr : Nat} {X : Nat × (Nat → Int)} {v : Nat → Int} {M : PH} {K : PV → PS → Prop} {l2 l3 l4 l5 : Int} : pm_Run d 19 69 [vA c, vA r, vI l2, vI l3, vI l4, vI l5] [] (GF X, M, PTF v) K ↔ pm_Run d 19 4 [vA c, vA r, vI l4, vI (l3 + 1), vI l4, vI l5] [] (GF X, M, PTF v) K := by
  refine (px_go (by decide +kernel : pm_fe 19 69 = some (.iload 4, 2)) rfl).trans ?_
  refine (px_go (by decide +kernel : pm_fe 19 71 = some (.istore_n 2, 1)) rfl).trans ?_
  refine (px_go (by decide +kernel : pm_fe 19 72 = some (.iinc 3 1, 3)) rfl).trans ?_
  refine (px_goto (off := (-71)) (tgt := 4) (by decide +kernel)).trans ?_
  exact Iff.rfl
theorem r19_78 {d : Nat} {c r nr : Nat} {X : Nat × (Nat → Int)} {v : Nat → Int} {M : PH} {K : PV → PS → Prop} {l2 l3 : Int} {l4 l5 : PV} : pm_Run d 19 78 [vA c, vA r, vI l2, vI l3, l4, l5] [] (GF X, M, PTF v) K ↔ K (vI l2) (GF X, M, PTF v) := by
  refine (px_go (by decide +kernel : pm_fe 19 78 = some (.iload_n 2, 1)) rfl).trans ?_
  refine (px_ri (by decide +kernel)).trans ?_
  exact Iff.rfl
-- X1_placeAfter placeAfter(LMoonTender$Moment;II)I
theorem r20_0 {d : Nat} {b c : Nat} {X : Nat × (Nat → Int)} {v : Nat → Int} {M : PH} {K : PV → PS → Prop} {l2 l3 : Int} (hc : isCh c) (h1 : inR (M c 0)) : pm_Run d 20 0 [vA c, vA b, vI l2, vI l3] [] (GF X, M, PTF v) K ↔ if M c 0 ≤ 0 then pm_Run d 20 30 [vA c, vA b, vI l2, vI l3] [] (GF X, M, PTF v) K else pm_Run d 20 7 [vA c, vA b, vI l2, vI l3] [] (GF X, M, PTF v) K := by
  refine (px_go (by decide +kernel : pm_fe 20 0 = some (.aload_n 0, 1)) rfl).trans ?_
  refine (ry_get0 (idx := 57) (ci := 1) (k := 0) (chs0 hc) (by decide +kernel)).trans ?_
  refine (ry_if_le (off := 26) (tgt := 30) h1 (by decide +kernel)).trans ?_
  exact Iff.rfl
theorem r20_7 {d : Nat} {b c : Nat} {X : Nat × (Nat → Int)} {v : Nat → Int} {M : PH} {K : PV → PS → Prop} {l2 l3 : Int} (hb : isMo b) (hc : isCh c) (h1 : 0 ≤ l2) (h2 : l2 < 3) (h3 : inR ((M (b + 1) l2.toNat) + (l3 * (M (c + 2) l2.toNat)))) (h4 : inR (M c 0)) (h5 : (M c 0) ≠ 0) : pm_Run d 20 7 [vA c, vA b, vI l2, vI l3] [] (GF X, M, PTF v) K ↔ pm_Run d 20 31 [vA c, vA b, vI l2, vI l3] [vI (((M (b + 1) l2.toNat) + (l3 * (M (c + 2) l2.toNat))).tmod (M c 0))] (GF X, M, PTF v) K := by
  refine (px_go (by decide +kernel : pm_fe 20 7 = some (.aload_n 1, 1)) rfl).trans ?_
  refine (ry_get2 (idx := 87) (ci := 5) (k := 1) (mos0 hb) (mop1 hb) (by decide +kernel)).trans ?_
  refine (px_go (by decide +kernel : pm_fe 20 11 = some (.iload_n 2, 1)) rfl).trans ?_
  refine (ry_iald (mos1 hb) h1 h2 (by decide +kernel)).trans ?_
  refine (px_go (by decide +kernel : pm_fe 20 13 = some (.iload_n 3, 1)) rfl).trans ?_
  refine (px_go (by decide +kernel : pm_fe 20 14 = some (.aload_n 0, 1)) rfl).trans ?_
  refine (ry_get2 (idx := 22) (ci := 1) (k := 9) (chs0 hc) (chp0_9 hc) (by decide +kernel)).trans ?_
  refine (px_go (by decide +kernel : pm_fe 20 18 = some (.iload_n 2, 1)) rfl).trans ?_
  refine (ry_iald (chs2 hc) h1 h2 (by decide +kernel)).trans ?_
  refine (px_go (by decide +kernel : pm_fe 20 20 = some (.imul, 1)) rfl).trans ?_
  refine (px_go (by decide +kernel : pm_fe 20 21 = some (.iadd, 1)) rfl).trans ?_
  refine (px_go (by decide +kernel : pm_fe 20 22 = some (.aload_n 0, 1)) rfl).trans ?_
  refine (ry_get0 (idx := 57) (ci := 1) (k := 0) (chs0 hc) (by decide +kernel)).trans ?_
  refine (ry_irem h3 h4 h5 (by decide +kernel)).trans ?_
  refine (px_goto (off := 4) (tgt := 31) (by decide +kernel)).trans ?_
  exact Iff.rfl
theorem r20_30 {d : Nat} {b c : Nat} {X : Nat × (Nat → Int)} {v : Nat → Int} {M : PH} {K : PV → PS → Prop} {l2 l3 : Int} : pm_Run d 20 30 [vA c, vA b, vI l2, vI l3] [] (GF X, M, PTF v) K ↔ pm_Run d 20 31 [vA c, vA b, vI l2, vI l3] [vI 0] (GF X, M, PTF v) K := by
  refine (px_go (by decide +kernel : pm_fe 20 30 = some (.iconst 0, 1)) rfl).trans ?_
  exact Iff.rfl
theorem r20_31 {d : Nat} {b c : Nat} {X : Nat × (Nat → Int)} {v : Nat → Int} {M : PH} {K : PV → PS → Prop} {l2 l3 s0 : Int} : pm_Run d 20 31 [vA c, vA b, vI l2, vI l3] [vI s0] (GF X, M, PTF v) K ↔ K (vI s0) (GF X, M, PTF v) := by
  refine (px_ri (by decide +kernel)).trans ?_
  exact Iff.rfl
-- X1_meeting meeting(LMoonTender$Moment;)I
theorem r21_0 {d : Nat} {b c : Nat} {X : Nat × (Nat → Int)} {v : Nat → Int} {M : PH} {K : PV → PS → Prop} : pm_Run d 21 0 [vA c, vA b, PU, PU, PU] [] (GF X, M, PTF v) K ↔ pm_Run d 21 2 [vA c, vA b, vI 0, PU, PU] [] (GF X, M, PTF v) K := by
  refine (px_go (by decide +kernel : pm_fe 21 0 = some (.iconst 0, 1)) rfl).trans ?_
  refine (px_go (by decide +kernel : pm_fe 21 1 = some (.istore_n 2, 1)) rfl).trans ?_
  exact Iff.rfl
theorem r21_2 {d : Nat} {b c : Nat} {X : Nat × (Nat → Int)} {v : Nat → Int} {M : PH} {K : PV → PS → Prop} {l2 : Int} {l3 l4 : PV} (hc : isCh c) (h1 : inR l2) (h2 : inR (M c 0)) : pm_Run d 21 2 [vA c, vA b, vI l2, l3, l4] [] (GF X, M, PTF v) K ↔ if M c 0 ≤ l2 then pm_Run d 21 74 [vA c, vA b, vI l2, l3, l4] [] (GF X, M, PTF v) K else pm_Run d 21 10 [vA c, vA b, vI l2, l3, l4] [] (GF X, M, PTF v) K := by
  refine (px_go (by decide +kernel : pm_fe 21 2 = some (.iload_n 2, 1)) rfl).trans ?_
  refine (px_go (by decide +kernel : pm_fe 21 3 = some (.aload_n 0, 1)) rfl).trans ?_
  refine (ry_get0 (idx := 57) (ci := 1) (k := 0) (chs0 hc) (by decide +kernel)).trans ?_
  refine (ry_ic_ge (off := 67) (tgt := 74) h1 h2 (by decide +kernel)).trans ?_
  exact Iff.rfl
theorem r21_10 {d : Nat} {b c : Nat} {X : Nat × (Nat → Int)} {v : Nat → Int} {M : PH} {K : PV → PS → Prop} {l2 : Int} {l3 l4 : PV} (hc : isCh c) (h1 : inR (M c 1)) : pm_Run d 21 10 [vA c, vA b, vI l2, l3, l4] [] (GF X, M, PTF v) K ↔ if M c 1 ≤ 0 then pm_Run d 21 74 [vA c, vA b, vI l2, l3, l4] [] (GF X, M, PTF v) K else pm_Run d 21 17 [vA c, vA b, vI l2, l3, l4] [] (GF X, M, PTF v) K := by
  refine (px_go (by decide +kernel : pm_fe 21 10 = some (.aload_n 0, 1)) rfl).trans ?_
  refine (ry_get0 (idx := 60) (ci := 1) (k := 1) (chs0 hc) (by decide +kernel)).trans ?_
  refine (ry_if_le (off := 60) (tgt := 74) h1 (by decide +kernel)).trans ?_
  exact Iff.rfl
theorem r21_17 {d : Nat} {b c : Nat} {X : Nat × (Nat → Int)} {v : Nat → Int} {M : PH} {K : PV → PS → Prop} {l2 : Int} {l3 l4 : PV} : pm_Run d 21 17 [vA c, vA b, vI l2, l3, l4] [] (GF X, M, PTF v) K ↔ pm_Run d 21 22 [vA c, vA b, vI l2, vI 1, vI 1] [] (GF X, M, PTF v) K := by
  refine (px_go (by decide +kernel : pm_fe 21 17 = some (.iconst 1, 1)) rfl).trans ?_
  refine (px_go (by decide +kernel : pm_fe 21 18 = some (.istore_n 3, 1)) rfl).trans ?_
  refine (px_go (by decide +kernel : pm_fe 21 19 = some (.iconst 1, 1)) rfl).trans ?_
  refine (px_go (by decide +kernel : pm_fe 21 20 = some (.istore 4, 2)) rfl).trans ?_
  exact Iff.rfl
theorem r21_22 {d : Nat} {b c : Nat} {X : Nat × (Nat → Int)} {v : Nat → Int} {M : PH} {K : PV → PS → Prop} {l2 l3 l4 : Int} (hc : isCh c) (h1 : inR l4) (h2 : inR (M c 1)) : pm_Run d 21 22 [vA c, vA b, vI l2, vI l3, vI l4] [] (GF X, M, PTF v) K ↔ if M c 1 ≤ l4 then pm_Run d 21 58 [vA c, vA b, vI l2, vI l3, vI l4] [] (GF X, M, PTF v) K else pm_Run d 21 31 [vA c, vA b, vI l2, vI l3, vI l4] [] (GF X, M, PTF v) K := by
  refine (px_go (by decide +kernel : pm_fe 21 22 = some (.iload 4, 2)) rfl).trans ?_
  refine (px_go (by decide +kernel : pm_fe 21 24 = some (.aload_n 0, 1)) rfl).trans ?_
  refine (ry_get0 (idx := 60) (ci := 1) (k := 1) (chs0 hc) (by decide +kernel)).trans ?_
  refine (ry_ic_ge (off := 30) (tgt := 58) h1 h2 (by decide +kernel)).trans ?_
  exact Iff.rfl
theorem r21_31 {d : Nat} {b c : Nat} {X : Nat × (Nat → Int)} {v : Nat → Int} {M : PH} {K : PV → PS → Prop} {l2 l3 l4 : Int} (hc : isCh c) : pm_Run d 21 31 [vA c, vA b, vI l2, vI l3, vI l4] [] (GF X, M, PTF v) K ↔ pm_Call d 20 [vA c, vA b, vI l4, vI l2] (GF X, M, PTF v) (fun r9 S1 => pm_Run d 21 39 [vA c, vA b, vI l2, vI l3, vI l4] (pm_push r9 []) S1 K) := by
  refine (px_go (by decide +kernel : pm_fe 21 31 = some (.aload_n 0, 1)) rfl).trans ?_
  refine (px_go (by decide +kernel : pm_fe 21 32 = some (.aload_n 1, 1)) rfl).trans ?_
  refine (px_go (by decide +kernel : pm_fe 21 33 = some (.iload 4, 2)) rfl).trans ?_
  refine (px_go (by decide +kernel : pm_fe 21 35 = some (.iload_n 2, 1)) rfl).trans ?_
  refine (ry_v3 (idx := 90) (m' := 20) (ci := 1) (chs0 hc) (by simp [pm_wl_n, pm_wl_c, pm_w] : pm_wl [] ≤ 8) (by decide +kernel)).trans ?_
  exact Iff.rfl
theorem r21_39 {d : Nat} {b c : Nat} {X : Nat × (Nat → Int)} {v : Nat → Int} {M : PH} {K : PV → PS → Prop} {l2 l3 l4 s0 : Int} (hc : isCh c) : pm_Run d 21 39 [vA c, vA b, vI l2, vI l3, vI l4] [vI s0] (GF X, M, PTF v) K ↔ pm_Call d 20 [vA c, vA b, vI 0, vI l2] (GF X, M, PTF v) (fun r9 S1 => pm_Run d 21 46 [vA c, vA b, vI l2, vI l3, vI l4] (pm_push r9 [vI s0]) S1 K) := by
  refine (px_go (by decide +kernel : pm_fe 21 39 = some (.aload_n 0, 1)) rfl).trans ?_
  refine (px_go (by decide +kernel : pm_fe 21 40 = some (.aload_n 1, 1)) rfl).trans ?_
  refine (px_go (by decide +kernel : pm_fe 21 41 = some (.iconst 0, 1)) rfl).trans ?_
  refine (px_go (by decide +kernel : pm_fe 21 42 = some (.iload_n 2, 1)) rfl).trans ?_
  refine (ry_v3 (idx := 90) (m' := 20) (ci := 1) (chs0 hc) (by simp [pm_wl_n, pm_wl_c, pm_w] : pm_wl [vI s0] ≤ 8) (by decide +kernel)).trans ?_
  exact Iff.rfl
theorem r21_46 {d : Nat} {b c : Nat} {X : Nat × (Nat → Int)} {v : Nat → Int} {M : PH} {K : PV → PS → Prop} {l2 l3 l4 s0 s1 : Int} (h1 : inR s1) (h2 : inR s0) : pm_Run d 21 46 [vA c, vA b, vI l2, vI l3, vI l4] [vI s0, vI s1] (GF X, M, PTF v) K ↔ if s1 ≠ s0 then pm_Run d 21 52 [vA c, vA b, vI l2, vI l3, vI l4] [] (GF X, M, PTF v) K else pm_Run d 21 49 [vA c, vA b, vI l2, vI l3, vI l4] [] (GF X, M, PTF v) K := by
  refine (ry_ic_ne (off := 6) (tgt := 52) h1 h2 (by decide +kernel)).trans ?_
  exact Iff.rfl
theorem r21_49 {d : Nat} {b c : Nat} {X : Nat × (Nat → Int)} {v : Nat → Int} {M : PH} {K : PV → PS → Prop} {l2 l3 l4 : Int} : pm_Run d 21 49 [vA c, vA b, vI l2, vI l3, vI l4] [] (GF X, M, PTF v) K ↔ pm_Run d 21 52 [vA c, vA b, vI l2, vI (l3 + 1), vI l4] [] (GF X, M, PTF v) K := by
  refine (px_go (by decide +kernel : pm_fe 21 49 = some (.iinc 3 1, 3)) rfl).trans ?_
  exact Iff.rfl
theorem r21_52 {d : Nat} {b c : Nat} {X : Nat × (Nat → Int)} {v : Nat → Int} {M : PH} {K : PV → PS → Prop} {l2 l3 l4 : Int} : pm_Run d 21 52 [vA c, vA b, vI l2, vI l3, vI l4] [] (GF X, M, PTF v) K ↔ pm_Run d 21 22 [vA c, vA b, vI l2, vI l3, vI (l4 + 1)] [] (GF X, M, PTF v) K := by
  refine (px_go (by decide +kernel : pm_fe 21 52 = some (.iinc 4 1, 3)) rfl).trans ?_
  refine (px_goto (off := (-33)) (tgt := 22) (by decide +kernel)).trans ?_
  exact Iff.rfl
theorem r21_58 {d : Nat} {b c : Nat} {X : Nat × (Nat → Int)} {v : Nat → Int} {M : PH} {K : PV → PS → Prop} {l2 l3 l4 : Int} (hc : isCh c) (h1 : inR l3) (h2 : inR (M c 1)) : pm_Run d 21 58 [vA c, vA b, vI l2, vI l3, vI l4] [] (GF X, M, PTF v) K ↔ if l3 ≠ M c 1 then pm_Run d 21 68 [vA c, vA b, vI l2, vI l3, vI l4] [] (GF X, M, PTF v) K else pm_Run d 21 66 [vA c, vA b, vI l2, vI l3, vI l4] [] (GF X, M, PTF v) K := by
  refine (px_go (by decide +kernel : pm_fe 21 58 = some (.iload_n 3, 1)) rfl).trans ?_
  refine (px_go (by decide +kernel : pm_fe 21 59 = some (.aload_n 0, 1)) rfl).trans ?_
  refine (ry_get0 (idx := 60) (ci := 1) (k := 1) (chs0 hc) (by decide +kernel)).trans ?_
  refine (ry_ic_ne (off := 5) (tgt := 68) h1 h2 (by decide +kernel)).trans ?_
  exact Iff.rfl
theorem r21_66 {d : Nat} {b c : Nat} {X : Nat × (Nat → Int)} {v : Nat → Int} {M : PH} {K : PV → PS → Prop} {l2 l3 l4 : Int} : pm_Run d 21 66 [vA c, vA b, vI l2, vI l3, vI l4] [] (GF X, M, PTF v) K ↔ K (vI l2) (GF X, M, PTF v) := by
  refine (px_go (by decide +kernel : pm_fe 21 66 = some (.iload_n 2, 1)) rfl).trans ?_
  refine (px_ri (by decide +kernel)).trans ?_
  exact Iff.rfl
theorem r21_68 {d : Nat} {b c : Nat} {X : Nat × (Nat → Int)} {v : Nat → Int} {M : PH} {K : PV → PS → Prop} {l2 l3 l4 : Int} : pm_Run d 21 68 [vA c, vA b, vI l2, vI l3, vI l4] [] (GF X, M, PTF v) K ↔ pm_Run d 21 2 [vA c, vA b, vI (l2 + 1), vI l3, vI l4] [] (GF X, M, PTF v) K := by
  refine (px_go (by decide +kernel : pm_fe 21 68 = some (.iinc 2 1, 3)) rfl).trans ?_
  refine (px_goto (off := (-69)) (tgt := 2) (by decide +kernel)).trans ?_
  exact Iff.rfl
theorem r21_74 {d : Nat} {b c : Nat} {X : Nat × (Nat → Int)} {v : Nat → Int} {M : PH} {K : PV → PS → Prop} {l2 : Int} {l3 l4 : PV} : pm_Run d 21 74 [vA c, vA b, vI l2, l3, l4] [] (GF X, M, PTF v) K ↔ K (vI (-1)) (GF X, M, PTF v) := by
  refine (px_go (by decide +kernel : pm_fe 21 74 = some (.iconst (-1), 1)) rfl).trans ?_
  refine (px_ri (by decide +kernel)).trans ?_
  exact Iff.rfl
