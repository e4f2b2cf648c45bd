-- X3_clear clear()V
theorem r40_0 {d : Nat} {f : Nat} {X : Nat × (Nat → Int)} {v : Nat → Int} {M : PH} {K : PV → PS → Prop} (hf : isFo f) : pm_Run d 40 0 [vA f] [] (GF X, M, PTF v) K ↔ pm_Run d 40 5 [vA f] [] (GF X, pm_sa M f (pm_up (M f) 6 0), PTF v) K := by
  refine (px_go (by decide +kernel : pm_fe 40 0 = some (.aload_n 0, 1)) rfl).trans ?_
  refine (px_go (by decide +kernel : pm_fe 40 1 = some (.iconst 0, 1)) rfl).trans ?_
  refine (ry_put0 (idx := 30) (ci := 3) (k := 6) (fos0 hf) (by decide +kernel)).trans ?_
  exact Iff.rfl
theorem r40_5 {d : Nat} {f : Nat} {X : Nat × (Nat → Int)} {v : Nat → Int} {M : PH} {K : PV → PS → Prop} (hf : isFo f) : pm_Run d 40 5 [vA f] [] (GF X, M, PTF v) K ↔ pm_Call d 307 [vA (f + 2), vI 0] (GF X, M, PTF v) (fun r9 S1 => pm_Run d 40 13 [vA f] (pm_push r9 []) S1 K) := by
  refine (px_go (by decide +kernel : pm_fe 40 5 = some (.aload_n 0, 1)) rfl).trans ?_
  refine (ry_get2 (idx := 15) (ci := 3) (k := 1) (fos0 hf) (fop1 hf) (by decide +kernel)).trans ?_
  refine (px_go (by decide +kernel : pm_fe 40 9 = some (.iconst 0, 1)) rfl).trans ?_
  refine (px_s2 (idx := 34) (m' := 307) (nest := 0) (by decide +kernel)).trans ((and_iff_right (by simp [pm_wl_n, pm_wl_c, pm_w] : pm_wl [] ≤ 8)).trans ?_)
  exact Iff.rfl
theorem r40_13 {d : Nat} {f : Nat} {X : Nat × (Nat → Int)} {v : Nat → Int} {M : PH} {K : PV → PS → Prop} (hf : isFo f) : pm_Run d 40 13 [vA f] [] (GF X, M, PTF v) K ↔ pm_Call d 307 [vA (f + 3), vI 0] (GF X, M, PTF v) (fun r9 S1 => pm_Run d 40 21 [vA f] (pm_push r9 []) S1 K) := by
  refine (px_go (by decide +kernel : pm_fe 40 13 = some (.aload_n 0, 1)) rfl).trans ?_
  refine (ry_get2 (idx := 18) (ci := 3) (k := 2) (fos0 hf) (fop2 hf) (by decide +kernel)).trans ?_
  refine (px_go (by decide +kernel : pm_fe 40 17 = some (.iconst 0, 1)) rfl).trans ?_
  refine (px_s2 (idx := 34) (m' := 307) (nest := 0) (by decide +kernel)).trans ((and_iff_right (by simp [pm_wl_n, pm_wl_c, pm_w] : pm_wl [] ≤ 8)).trans ?_)
  exact Iff.rfl
theorem r40_21 {d : Nat} {f : Nat} {X : Nat × (Nat → Int)} {v : Nat → Int} {M : PH} {K : PV → PS → Prop} (hf : isFo f) : pm_Run d 40 21 [vA f] [] (GF X, M, PTF v) K ↔ pm_Call d 307 [vA (f + 4), vI 0] (GF X, M, PTF v) (fun r9 S1 => pm_Run d 40 29 [vA f] (pm_push r9 []) S1 K) := by
  refine (px_go (by decide +kernel : pm_fe 40 21 = some (.aload_n 0, 1)) rfl).trans ?_
  refine (ry_get2 (idx := 21) (ci := 3) (k := 3) (fos0 hf) (fop3 hf) (by decide +kernel)).trans ?_
  refine (px_go (by decide +kernel : pm_fe 40 25 = some (.iconst 0, 1)) rfl).trans ?_
  refine (px_s2 (idx := 34) (m' := 307) (nest := 0) (by decide +kernel)).trans ((and_iff_right (by simp [pm_wl_n, pm_wl_c, pm_w] : pm_wl [] ≤ 8)).trans ?_)
  exact Iff.rfl
theorem r40_29 {d : Nat} {f : Nat} {X : Nat × (Nat → Int)} {v : Nat → Int} {M : PH} {K : PV → PS → Prop} : pm_Run d 40 29 [vA f] [] (GF X, M, PTF v) K ↔ K PU (GF X, M, PTF v) := by
  refine (px_rv (by decide +kernel)).trans ?_
  exact Iff.rfl
-- X3_open open(I)V
theorem r41_0 {d : Nat} {f : Nat} {X : Nat × (Nat → Int)} {v : Nat → Int} {M : PH} {K : PV → PS → Prop} {l1 : Int} (hf : isFo f) (h1 : 0 ≤ l1) (h2 : l1 < 8) : pm_Run d 41 0 [vA f, vI l1] [] (GF X, M, PTF v) K ↔ pm_Run d 41 10 [vA f, vI l1] [] (GF X, pm_sa M (f + 2) (pm_up (M (f + 2)) l1.toNat (M f 6)), PTF v) K := by
  refine (px_go (by decide +kernel : pm_fe 41 0 = some (.aload_n 0, 1)) rfl).trans ?_
  refine (ry_get2 (idx := 15) (ci := 3) (k := 1) (fos0 hf) (fop1 hf) (by decide +kernel)).trans ?_
  refine (px_go (by decide +kernel : pm_fe 41 4 = some (.iload_n 1, 1)) rfl).trans ?_
  refine (px_go (by decide +kernel : pm_fe 41 5 = some (.aload_n 0, 1)) rfl).trans ?_
  refine (ry_get0 (idx := 30) (ci := 3) (k := 6) (fos0 hf) (by decide +kernel)).trans ?_
  refine (ry_iast (fos2 hf) h1 h2 (by decide +kernel)).trans ?_
  exact Iff.rfl
theorem r41_10 {d : Nat} {f : Nat} {X : Nat × (Nat → Int)} {v : Nat → Int} {M : PH} {K : PV → PS → Prop} {l1 : Int} (hf : isFo f) (h1 : 0 ≤ l1) (h2 : l1 < 8) : pm_Run d 41 10 [vA f, vI l1] [] (GF X, M, PTF v) K ↔ K PU (GF X, pm_sa M (f + 3) (pm_up (M (f + 3)) l1.toNat (M f 6)), PTF v) := by
  refine (px_go (by decide +kernel : pm_fe 41 10 = some (.aload_n 0, 1)) rfl).trans ?_
  refine (ry_get2 (idx := 18) (ci := 3) (k := 2) (fos0 hf) (fop2 hf) (by decide +kernel)).trans ?_
  refine (px_go (by decide +kernel : pm_fe 41 14 = some (.iload_n 1, 1)) rfl).trans ?_
  refine (px_go (by decide +kernel : pm_fe 41 15 = some (.aload_n 0, 1)) rfl).trans ?_
  refine (ry_get0 (idx := 30) (ci := 3) (k := 6) (fos0 hf) (by decide +kernel)).trans ?_
  refine (ry_iast (fos3 hf) h1 h2 (by decide +kernel)).trans ?_
  refine (px_rv (by decide +kernel)).trans ?_
  exact Iff.rfl
-- X3_close close(I)V
theorem r42_0 {d : Nat} {f : Nat} {X : Nat × (Nat → Int)} {v : Nat → Int} {M : PH} {K : PV → PS → Prop} {l1 : Int} (hf : isFo f) (h1 : 0 ≤ l1) (h2 : l1 < 8) : pm_Run d 42 0 [vA f, vI l1, PU] [] (GF X, M, PTF v) K ↔ pm_Run d 42 10 [vA f, vI l1, PU] [] (GF X, pm_sa M (f + 3) (pm_up (M (f + 3)) l1.toNat (M f 6)), PTF v) K := by
  refine (px_go (by decide +kernel : pm_fe 42 0 = some (.aload_n 0, 1)) rfl).trans ?_
  refine (ry_get2 (idx := 18) (ci := 3) (k := 2) (fos0 hf) (fop2 hf) (by decide +kernel)).trans ?_
  refine (px_go (by decide +kernel : pm_fe 42 4 = some (.iload_n 1, 1)) rfl).trans ?_
  refine (px_go (by decide +kernel : pm_fe 42 5 = some (.aload_n 0, 1)) rfl).trans ?_
  refine (ry_get0 (idx := 30) (ci := 3) (k := 6) (fos0 hf) (by decide +kernel)).trans ?_
  refine (ry_iast (fos3 hf) h1 h2 (by decide +kernel)).trans ?_
  exact Iff.rfl
theorem r42_10 {d : Nat} {f : Nat} {X : Nat × (Nat → Int)} {v : Nat → Int} {M : PH} {K : PV → PS → Prop} {l1 : Int} (hf : isFo f) (h1 : 0 ≤ l1) (h2 : l1 < 8) : pm_Run d 42 10 [vA f, vI l1, PU] [] (GF X, M, PTF v) K ↔ pm_Run d 42 17 [vA f, vI l1, vI (M (f + 2) l1.toNat)] [] (GF X, M, PTF v) K := by
  refine (px_go (by decide +kernel : pm_fe 42 10 = some (.aload_n 0, 1)) rfl).trans ?_
  refine (ry_get2 (idx := 15) (ci := 3) (k := 1) (fos0 hf) (fop1 hf) (by decide +kernel)).trans ?_
  refine (px_go (by decide +kernel : pm_fe 42 14 = some (.iload_n 1, 1)) rfl).trans ?_
  refine (ry_iald (fos2 hf) h1 h2 (by decide +kernel)).trans ?_
  refine (px_go (by decide +kernel : pm_fe 42 16 = some (.istore_n 2, 1)) rfl).trans ?_
  exact Iff.rfl
theorem r42_17 {d : Nat} {f : Nat} {X : Nat × (Nat → Int)} {v : Nat → Int} {M : PH} {K : PV → PS → Prop} {l1 l2 : Int} (hf : isFo f) (h1 : inR l2) (h2 : inR (M f 6)) : pm_Run d 42 17 [vA f, vI l1, vI l2] [] (GF X, M, PTF v) K ↔ if M f 6 ≤ l2 then pm_Run d 42 76 [vA f, vI l1, vI l2] [] (GF X, M, PTF v) K else pm_Run d 42 25 [vA f, vI l1, vI l2] [] (GF X, M, PTF v) K := by
  refine (px_go (by decide +kernel : pm_fe 42 17 = some (.iload_n 2, 1)) rfl).trans ?_
  refine (px_go (by decide +kernel : pm_fe 42 18 = some (.aload_n 0, 1)) rfl).trans ?_
  refine (ry_get0 (idx := 30) (ci := 3) (k := 6) (fos0 hf) (by decide +kernel)).trans ?_
  refine (ry_ic_ge (off := 54) (tgt := 76) h1 h2 (by decide +kernel)).trans ?_
  exact Iff.rfl
theorem r42_25 {d : Nat} {f : Nat} {X : Nat × (Nat → Int)} {v : Nat → Int} {M : PH} {K : PV → PS → Prop} {l1 l2 : Int} (hf : isFo f) (h1 : 0 ≤ l2) (h2 : l2 < 1600) (h3 : inR (M (f + 1) l2.toNat)) : pm_Run d 42 25 [vA f, vI l1, vI l2] [] (GF X, M, PTF v) K ↔ if M (f + 1) l2.toNat < 10000 then pm_Run d 42 70 [vA f, vI l1, vI l2] [] (GF X, M, PTF v) K else pm_Run d 42 37 [vA f, vI l1, vI l2] [] (GF X, M, PTF v) K := by
  refine (px_go (by decide +kernel : pm_fe 42 25 = some (.aload_n 0, 1)) rfl).trans ?_
  refine (ry_get2 (idx := 11) (ci := 3) (k := 0) (fos0 hf) (fop0 hf) (by decide +kernel)).trans ?_
  refine (px_go (by decide +kernel : pm_fe 42 29 = some (.iload_n 2, 1)) rfl).trans ?_
  refine (ry_iald (fos1 hf) h1 h2 (by decide +kernel)).trans ?_
  refine (px_go (by decide +kernel : pm_fe 42 31 = some (.sipush 10000, 3)) rfl).trans ?_
  refine (ry_ic_lt (off := 36) (tgt := 70) h3 (by decide : (-2147483648 ≤ (10000 : Int) ∧ (10000 : Int) < 2147483648)) (by decide +kernel)).trans ?_
  exact Iff.rfl
theorem r42_37 {d : Nat} {f : Nat} {X : Nat × (Nat → Int)} {v : Nat → Int} {M : PH} {K : PV → PS → Prop} {l1 l2 : Int} (hf : isFo f) (h1 : 0 ≤ l2) (h2 : l2 < 1600) (h3 : inR (M (f + 1) l2.toNat)) : pm_Run d 42 37 [vA f, vI l1, vI l2] [] (GF X, M, PTF v) K ↔ if 20000 ≤ M (f + 1) l2.toNat then pm_Run d 42 70 [vA f, vI l1, vI l2] [] (GF X, M, PTF v) K else pm_Run d 42 49 [vA f, vI l1, vI l2] [] (GF X, M, PTF v) K := by
  refine (px_go (by decide +kernel : pm_fe 42 37 = some (.aload_n 0, 1)) rfl).trans ?_
  refine (ry_get2 (idx := 11) (ci := 3) (k := 0) (fos0 hf) (fop0 hf) (by decide +kernel)).trans ?_
  refine (px_go (by decide +kernel : pm_fe 42 41 = some (.iload_n 2, 1)) rfl).trans ?_
  refine (ry_iald (fos1 hf) h1 h2 (by decide +kernel)).trans ?_
  refine (px_go (by decide +kernel : pm_fe 42 43 = some (.sipush 20000, 3)) rfl).trans ?_
  refine (ry_ic_ge (off := 24) (tgt := 70) h3 (by decide : (-2147483648 ≤ (20000 : Int) ∧ (20000 : Int) < 2147483648)) (by decide +kernel)).trans ?_
  exact Iff.rfl
theorem r42_49 {d : Nat} {f : Nat} {X : Nat × (Nat → Int)} {v : Nat → Int} {M : PH} {K : PV → PS → Prop} {l1 l2 : Int} (hf : isFo f) (h1 : 0 ≤ l1) (h2 : l1 < 8) (h3 : 0 ≤ l2) (h4 : l2 < 1600) : pm_Run d 42 49 [vA f, vI l1, vI l2] [] (GF X, M, PTF v) K ↔ pm_Run d 42 70 [vA f, vI l1, vI l2] [] (GF X, pm_sa M (f + 4) (pm_up (M (f + 4)) l1.toNat (pm_or (M (f + 4) l1.toNat) (pm_shl 1 ((M (f + 1) l2.toNat) - 10000)))), PTF v) K := by
  refine (px_go (by decide +kernel : pm_fe 42 49 = some (.aload_n 0, 1)) rfl).trans ?_
  refine (ry_get2 (idx := 21) (ci := 3) (k := 3) (fos0 hf) (fop3 hf) (by decide +kernel)).trans ?_
  refine (px_go (by decide +kernel : pm_fe 42 53 = some (.iload_n 1, 1)) rfl).trans ?_
  refine (px_go (by decide +kernel : pm_fe 42 54 = some (.dup2, 1)) rfl).trans ?_
  refine (ry_iald (fos4 hf) h1 h2 (by decide +kernel)).trans ?_
  refine (px_go (by decide +kernel : pm_fe 42 56 = some (.iconst 1, 1)) rfl).trans ?_
  refine (px_go (by decide +kernel : pm_fe 42 57 = some (.aload_n 0, 1)) rfl).trans ?_
  refine (ry_get2 (idx := 11) (ci := 3) (k := 0) (fos0 hf) (fop0 hf) (by decide +kernel)).trans ?_
  refine (px_go (by decide +kernel : pm_fe 42 61 = some (.iload_n 2, 1)) rfl).trans ?_
  refine (ry_iald (fos1 hf) h3 h4 (by decide +kernel)).trans ?_
  refine (px_go (by decide +kernel : pm_fe 42 63 = some (.sipush 10000, 3)) rfl).trans ?_
  refine (px_go (by decide +kernel : pm_fe 42 66 = some (.isub, 1)) rfl).trans ?_
  refine (px_go (by decide +kernel : pm_fe 42 67 = some (.ishl, 1)) rfl).trans ?_
  refine (px_go (by decide +kernel : pm_fe 42 68 = some (.ior, 1)) rfl).trans ?_
  refine (ry_iast (fos4 hf) h1 h2 (by decide +kernel)).trans ?_
  exact Iff.rfl
theorem r42_70 {d : Nat} {f : Nat} {X : Nat × (Nat → Int)} {v : Nat → Int} {M : PH} {K : PV → PS → Prop} {l1 l2 : Int} : pm_Run d 42 70 [vA f, vI l1, vI l2] [] (GF X, M, PTF v) K ↔ pm_Run d 42 17 [vA f, vI l1, vI (l2 + 1)] [] (GF X, M, PTF v) K := by
  refine (px_go (by decide +kernel : pm_fe 42 70 = some (.iinc 2 1, 3)) rfl).trans ?_
  refine (px_goto (off := (-56)) (tgt := 17) (by decide +kernel)).trans ?_
  exact Iff.rfl
theorem r42_76 {d : Nat} {f : Nat} {X : Nat × (Nat → Int)} {v : Nat → Int} {M : PH} {K : PV → PS → Prop} {l1 l2 : Int} : pm_Run d 42 76 [vA f, vI l1, vI l2] [] (GF X, M, PTF v) K ↔ K PU (GF X, M, PTF v) := by
  refine (px_rv (by decide +kernel)).trans ?_
  exact Iff.rfl
-- X3_add add(I)V
theorem r43_0 {d : Nat} {f : Nat} {X : Nat × (Nat → Int)} {v : Nat → Int} {M : PH} {K : PV → PS → Prop} {l1 : Int} (hf : isFo f) (h1 : inR (M f 6)) : pm_Run d 43 0 [vA f, vI l1] [] (GF X, M, PTF v) K ↔ if 1600 ≤ M f 6 then pm_Run d 43 32 [vA f, vI l1] [] (GF X, M, PTF v) K else pm_Run d 43 12 [vA f, vI l1] [] (GF X, M, PTF v) K := by
  refine (px_go (by decide +kernel : pm_fe 43 0 = some (.aload_n 0, 1)) rfl).trans ?_
  refine (ry_get0 (idx := 30) (ci := 3) (k := 6) (fos0 hf) (by decide +kernel)).trans ?_
  refine (px_go (by decide +kernel : pm_fe 43 4 = some (.aload_n 0, 1)) rfl).trans ?_
  refine (ry_get2 (idx := 11) (ci := 3) (k := 0) (fos0 hf) (fop0 hf) (by decide +kernel)).trans ?_
  refine (ry_alen (fos1 hf) (by decide) (by decide +kernel)).trans ?_
  refine (ry_ic_ge (off := 23) (tgt := 32) h1 (by decide : (-2147483648 ≤ (1600 : Int) ∧ (1600 : Int) < 2147483648)) (by decide +kernel)).trans ?_
  exact Iff.rfl
theorem r43_12 {d : Nat} {f : Nat} {X : Nat × (Nat → Int)} {v : Nat → Int} {M : PH} {K : PV → PS → Prop} {l1 : Int} (hf : isFo f) (h1 : 0 ≤ (M f 6)) (h2 : (M f 6) < 1600) : pm_Run d 43 12 [vA f, vI l1] [] (GF X, M, PTF v) K ↔ pm_Run d 43 22 [vA f, vI l1] [] (GF X, pm_sa M (f + 1) (pm_up (M (f + 1)) (M f 6).toNat l1), PTF v) K := by
  refine (px_go (by decide +kernel : pm_fe 43 12 = some (.aload_n 0, 1)) rfl).trans ?_
  refine (ry_get2 (idx := 11) (ci := 3) (k := 0) (fos0 hf) (fop0 hf) (by decide +kernel)).trans ?_
  refine (px_go (by decide +kernel : pm_fe 43 16 = some (.aload_n 0, 1)) rfl).trans ?_
  refine (ry_get0 (idx := 30) (ci := 3) (k := 6) (fos0 hf) (by decide +kernel)).trans ?_
  refine (px_go (by decide +kernel : pm_fe 43 20 = some (.iload_n 1, 1)) rfl).trans ?_
  refine (ry_iast (fos1 hf) h1 h2 (by decide +kernel)).trans ?_
  exact Iff.rfl
theorem r43_22 {d : Nat} {f : Nat} {X : Nat × (Nat → Int)} {v : Nat → Int} {M : PH} {K : PV → PS → Prop} {l1 : Int} (hf : isFo f) : pm_Run d 43 22 [vA f, vI l1] [] (GF X, M, PTF v) K ↔ pm_Run d 43 32 [vA f, vI l1] [] (GF X, pm_sa M f (pm_up (M f) 6 ((M f 6) + 1)), PTF v) K := by
  refine (px_go (by decide +kernel : pm_fe 43 22 = some (.aload_n 0, 1)) rfl).trans ?_
  refine (px_go (by decide +kernel : pm_fe 43 23 = some (.dup, 1)) rfl).trans ?_
  refine (ry_get0 (idx := 30) (ci := 3) (k := 6) (fos0 hf) (by decide +kernel)).trans ?_
  refine (px_go (by decide +kernel : pm_fe 43 27 = some (.iconst 1, 1)) rfl).trans ?_
  refine (px_go (by decide +kernel : pm_fe 43 28 = some (.iadd, 1)) rfl).trans ?_
  refine (ry_put0 (idx := 30) (ci := 3) (k := 6) (fos0 hf) (by decide +kernel)).trans ?_
  exact Iff.rfl
theorem r43_32 {d : Nat} {f : Nat} {X : Nat × (Nat → Int)} {v : Nat → Int} {M : PH} {K : PV → PS → Prop} {l1 : Int} : pm_Run d 43 32 [vA f, vI l1] [] (GF X, M, PTF v) K ↔ K PU (GF X, M, PTF v) := by
  refine (px_rv (by decide +kernel)).trans ?_
  exact Iff.rfl
-- X3_isThere isThere(I)Z
theorem r44_0 {d : Nat} {f : Nat} {X : Nat × (Nat → Int)} {v : Nat → Int} {M : PH} {K : PV → PS → Prop} {l1 : Int} (hf : isFo f) (h1 : 0 ≤ l1) (h2 : l1 < 8) (h3 : inR (M (f + 3) l1.toNat)) (h4 : inR (M (f + 2) l1.toNat)) : pm_Run d 44 0 [vA f, vI l1] [] (GF X, M, PTF v) K ↔ if M (f + 3) l1.toNat ≤ M (f + 2) l1.toNat then pm_Run d 44 19 [vA f, vI l1] [] (GF X, M, PTF v) K else pm_Run d 44 15 [vA f, vI l1] [] (GF X, M, PTF v) K := by
  refine (px_go (by decide +kernel : pm_fe 44 0 = some (.aload_n 0, 1)) rfl).trans ?_
  refine (ry_get2 (idx := 18) (ci := 3) (k := 2) (fos0 hf) (fop2 hf) (by decide +kernel)).trans ?_
  refine (px_go (by decide +kernel : pm_fe 44 4 = some (.iload_n 1, 1)) rfl).trans ?_
  refine (ry_iald (fos3 hf) h1 h2 (by decide +kernel)).trans ?_
  refine (px_go (by decide +kernel : pm_fe 44 6 = some (.aload_n 0, 1)) rfl).trans ?_
  refine (ry_get2 (idx := 15) (ci := 3) (k := 1) (fos0 hf) (fop1 hf) (by decide +kernel)).trans ?_
  refine (px_go (by decide +kernel : pm_fe 44 10 = some (.iload_n 1, 1)) rfl).trans ?_
  refine (ry_iald (fos2 hf) h1 h2 (by decide +kernel)).trans ?_
  refine (ry_ic_le (off := 7) (tgt := 19) h3 h4 (by decide +kernel)).trans ?_
  exact Iff.rfl
theorem r44_15 {d : Nat} {f : Nat} {X : Nat × (Nat → Int)} {v : Nat → Int} {M : PH} {K : PV → PS → Prop} {l1 : Int} : pm_Run d 44 15 [vA f, vI l1] [] (GF X, M, PTF v) K ↔ pm_Run d 44 20 [vA f, vI l1] [vI 1] (GF X, M, PTF v) K := by
  refine (px_go (by decide +kernel : pm_fe 44 15 = some (.iconst 1, 1)) rfl).trans ?_
  refine (px_goto (off := 4) (tgt := 20) (by decide +kernel)).trans ?_
  exact Iff.rfl
theorem r44_19 {d : Nat} {f : Nat} {X : Nat × (Nat → Int)} {v : Nat → Int} {M : PH} {K : PV → PS → Prop} {l1 : Int} : pm_Run d 44 19 [vA f, vI l1] [] (GF X, M, PTF v) K ↔ pm_Run d 44 20 [vA f, vI l1] [vI 0] (GF X, M, PTF v) K := by
  refine (px_go (by decide +kernel : pm_fe 44 19 = some (.iconst 0, 1)) rfl).trans ?_
  exact Iff.rfl
theorem r44_20 {d : Nat} {f : Nat} {X : Nat × (Nat → Int)} {v : Nat → Int} {M : PH} {K : PV → PS → Prop} {l1 s0 : Int} (h1 : s0 = 0 ∨ s0 = 1) : pm_Run d 44 20 [vA f, vI l1] [vI s0] (GF X, M, PTF v) K ↔ K (vI s0) (GF X, M, PTF v) := by
  refine (px_rz (by decide +kernel)).trans ((and_iff_right h1).trans ?_)
  exact Iff.rfl
-- X3_uses uses(II)Z
theorem r45_0 {d : Nat} {f : Nat} {X : Nat × (Nat → Int)} {v : Nat → Int} {M : PH} {K : PV → PS → Prop} {l1 l2 : Int} (hf : isFo f) (h1 : 0 ≤ l1) (h2 : l1 < 8) (h3 : inR (pm_and (pm_shr (M (f + 4) l1.toNat) l2) 1)) : pm_Run d 45 0 [vA f, vI l1, vI l2] [] (GF X, M, PTF v) K ↔ if pm_and (pm_shr (M (f + 4) l1.toNat) l2) 1 ≠ 1 then pm_Run d 45 18 [vA f, vI l1, vI l2] [] (GF X, M, PTF v) K else pm_Run d 45 14 [vA f, vI l1, vI l2] [] (GF X, M, PTF v) K := by
  refine (px_go (by decide +kernel : pm_fe 45 0 = some (.aload_n 0, 1)) rfl).trans ?_
  refine (ry_get2 (idx := 21) (ci := 3) (k := 3) (fos0 hf) (fop3 hf) (by decide +kernel)).trans ?_
  refine (px_go (by decide +kernel : pm_fe 45 4 = some (.iload_n 1, 1)) rfl).trans ?_
  refine (ry_iald (fos4 hf) h1 h2 (by decide +kernel)).trans ?_
  refine (px_go (by decide +kernel : pm_fe 45 6 = some (.iload_n 2, 1)) rfl).trans ?_
  refine (px_go (by decide +kernel : pm_fe 45 7 = some (.ishr, 1)) rfl).trans ?_
  refine (px_go (by decide +kernel : pm_fe 45 8 = some (.iconst 1, 1)) rfl).trans ?_
  refine (px_go (by decide +kernel : pm_fe 45 9 = some (.iand, 1)) rfl).trans ?_
  refine (px_go (by decide +kernel : pm_fe 45 10 = some (.iconst 1, 1)) rfl).trans ?_
  refine (ry_ic_ne (off := 7) (tgt := 18) h3 (by decide : (-2147483648 ≤ (1 : Int) ∧ (1 : Int) < 2147483648)) (by decide +kernel)).trans ?_
  exact Iff.rfl
theorem r45_14 {d : Nat} {f : Nat} {X : Nat × (Nat → Int)} {v : Nat → Int} {M : PH} {K : PV → PS → Prop} {l1 l2 : Int} : pm_Run d 45 14 [vA f, vI l1, vI l2] [] (GF X, M, PTF v) K ↔ pm_Run d 45 19 [vA f, vI l1, vI l2] [vI 1] (GF X, M, PTF v) K := by
  refine (px_go (by decide +kernel : pm_fe 45 14 = some (.iconst 1, 1)) rfl).trans ?_
  refine (px_goto (off := 4) (tgt := 19) (by decide +kernel)).trans ?_
  exact Iff.rfl
theorem r45_18 {d : Nat} {f : Nat} {X : Nat × (Nat → Int)} {v : Nat → Int} {M : PH} {K : PV → PS → Prop} {l1 l2 : Int} : pm_Run d 45 18 [vA f, vI l1, vI l2] [] (GF X, M, PTF v) K ↔ pm_Run d 45 19 [vA f, vI l1, vI l2] [vI 0] (GF X, M, PTF v) K := by
  refine (px_go (by decide +kernel : pm_fe 45 18 = some (.iconst 0, 1)) rfl).trans ?_
  exact Iff.rfl
theorem r45_19 {d : Nat} {f : Nat} {X : Nat × (Nat → Int)} {v : Nat → Int} {M : PH} {K : PV → PS → Prop} {l1 l2 s0 : Int} (h1 : s0 = 0 ∨ s0 = 1) : pm_Run d 45 19 [vA f, vI l1, vI l2] [vI s0] (GF X, M, PTF v) K ↔ K (vI s0) (GF X, M, PTF v) := by
  refine (px_rz (by decide +kernel)).trans ((and_iff_right h1).trans ?_)
  exact Iff.rfl
-- X3_reckon reckon(I)I
theorem r46_0 {d : Nat} {f : Nat} {X : Nat × (Nat → Int)} {v : Nat → Int} {M : PH} {K : PV → PS → Prop} {l1 : Int} (hf : isFo f) (h1 : 0 ≤ l1) (h2 : l1 < 8) : pm_Run d 46 0 [vA f, vI l1, PU, PU, PU] [] (GF X, M, PTF v) K ↔ pm_Run d 46 9 [vA f, vI l1, vI 0, vI (M (f + 2) l1.toNat), PU] [] (GF X, M, PTF v) K := by
  refine (px_go (by decide +kernel : pm_fe 46 0 = some (.iconst 0, 1)) rfl).trans ?_
  refine (px_go (by decide +kernel : pm_fe 46 1 = some (.istore_n 2, 1)) rfl).trans ?_
  refine (px_go (by decide +kernel : pm_fe 46 2 = some (.aload_n 0, 1)) rfl).trans ?_
  refine (ry_get2 (idx := 15) (ci := 3) (k := 1) (fos0 hf) (fop1 hf) (by decide +kernel)).trans ?_
  refine (px_go (by decide +kernel : pm_fe 46 6 = some (.iload_n 1, 1)) rfl).trans ?_
  refine (ry_iald (fos2 hf) h1 h2 (by decide +kernel)).trans ?_
  refine (px_go (by decide +kernel : pm_fe 46 8 = some (.istore_n 3, 1)) rfl).trans ?_
  exact Iff.rfl
theorem r46_9 {d : Nat} {f : Nat} {X : Nat × (Nat → Int)} {v : Nat → Int} {M : PH} {K : PV → PS → Prop} {l1 l2 l3 : Int} {l4 : PV} (hf : isFo f) (h1 : 0 ≤ l1) (h2 : l1 < 8) (h3 : inR l3) (h4 : inR (M (f + 3) l1.toNat)) : pm_Run d 46 9 [vA f, vI l1, vI l2, vI l3, l4] [] (GF X, M, PTF v) K ↔ if M (f + 3) l1.toNat ≤ l3 then pm_Run d 46 189 [vA f, vI l1, vI l2, vI l3, l4] [] (GF X, M, PTF v) K else pm_Run d 46 19 [vA f, vI l1, vI l2, vI l3, l4] [] (GF X, M, PTF v) K := by
  refine (px_go (by decide +kernel : pm_fe 46 9 = some (.iload_n 3, 1)) rfl).trans ?_
  refine (px_go (by decide +kernel : pm_fe 46 10 = some (.aload_n 0, 1)) rfl).trans ?_
  refine (ry_get2 (idx := 18) (ci := 3) (k := 2) (fos0 hf) (fop2 hf) (by decide +kernel)).trans ?_
  refine (px_go (by decide +kernel : pm_fe 46 14 = some (.iload_n 1, 1)) rfl).trans ?_
  refine (ry_iald (fos3 hf) h1 h2 (by decide +kernel)).trans ?_
  refine (ry_ic_ge (off := 173) (tgt := 189) h3 h4 (by decide +kernel)).trans ?_
  exact Iff.rfl
theorem r46_19 {d : Nat} {f : Nat} {X : Nat × (Nat → Int)} {v : Nat → Int} {M : PH} {K : PV → PS → Prop} {l1 l2 l3 : Int} {l4 : PV} (hf : isFo f) (h1 : 0 ≤ l3) (h2 : l3 < 1600) (h3 : inR (M (f + 1) l3.toNat)) : pm_Run d 46 19 [vA f, vI l1, vI l2, vI l3, l4] [] (GF X, M, PTF v) K ↔ if 20000 ≤ M (f + 1) l3.toNat then pm_Run d 46 80 [vA f, vI l1, vI l2, vI l3, vI (M (f + 1) l3.toNat)] [] (GF X, M, PTF v) K else pm_Run d 46 35 [vA f, vI l1, vI l2, vI l3, vI (M (f + 1) l3.toNat)] [] (GF X, M, PTF v) K := by
  refine (px_go (by decide +kernel : pm_fe 46 19 = some (.aload_n 0, 1)) rfl).trans ?_
  refine (ry_get2 (idx := 11) (ci := 3) (k := 0) (fos0 hf) (fop0 hf) (by decide +kernel)).trans ?_
  refine (px_go (by decide +kernel : pm_fe 46 23 = some (.iload_n 3, 1)) rfl).trans ?_
  refine (ry_iald (fos1 hf) h1 h2 (by decide +kernel)).trans ?_
  refine (px_go (by decide +kernel : pm_fe 46 25 = some (.istore 4, 2)) rfl).trans ?_
  refine (px_go (by decide +kernel : pm_fe 46 27 = some (.iload 4, 2)) rfl).trans ?_
  refine (px_go (by decide +kernel : pm_fe 46 29 = some (.sipush 20000, 3)) rfl).trans ?_
  refine (ry_ic_ge (off := 48) (tgt := 80) h3 (by decide : (-2147483648 ≤ (20000 : Int) ∧ (20000 : Int) < 2147483648)) (by decide +kernel)).trans ?_
  exact Iff.rfl
theorem r46_35 {d : Nat} {f : Nat} {X : Nat × (Nat → Int)} {v : Nat → Int} {M : PH} {K : PV → PS → Prop} {l1 l2 l3 l4 : Int} (hf : isFo f) (h1 : inR l2) : pm_Run d 46 35 [vA f, vI l1, vI l2, vI l3, vI l4] [] (GF X, M, PTF v) K ↔ if 64 ≤ l2 then pm_Run d 46 183 [vA f, vI l1, vI l2, vI l3, vI l4] [] (GF X, M, PTF v) K else pm_Run d 46 44 [vA f, vI l1, vI l2, vI l3, vI l4] [] (GF X, M, PTF v) K := by
  refine (px_go (by decide +kernel : pm_fe 46 35 = some (.iload_n 2, 1)) rfl).trans ?_
  refine (px_go (by decide +kernel : pm_fe 46 36 = some (.aload_n 0, 1)) rfl).trans ?_
  refine (ry_get2 (idx := 27) (ci := 3) (k := 5) (fos0 hf) (fop5 hf) (by decide +kernel)).trans ?_
  refine (ry_alen (fos6 hf) (by decide) (by decide +kernel)).trans ?_
  refine (ry_ic_ge (off := 142) (tgt := 183) h1 (by decide : (-2147483648 ≤ (64 : Int) ∧ (64 : Int) < 2147483648)) (by decide +kernel)).trans ?_
  exact Iff.rfl
theorem r46_44 {d : Nat} {f : Nat} {X : Nat × (Nat → Int)} {v : Nat → Int} {M : PH} {K : PV → PS → Prop} {l1 l2 l3 l4 : Int} (hf : isFo f) (h1 : inR l4) : pm_Run d 46 44 [vA f, vI l1, vI l2, vI l3, vI l4] [] (GF X, M, PTF v) K ↔ if 10000 ≤ l4 then pm_Run d 46 62 [vA f, vI l1, vI l2, vI l3, vI l4] [vI l2, vA (f + 6)] (GF X, M, PTF v) K else pm_Run d 46 57 [vA f, vI l1, vI l2, vI l3, vI l4] [vI l2, vA (f + 6)] (GF X, M, PTF v) K := by
  refine (px_go (by decide +kernel : pm_fe 46 44 = some (.aload_n 0, 1)) rfl).trans ?_
  refine (ry_get2 (idx := 27) (ci := 3) (k := 5) (fos0 hf) (fop5 hf) (by decide +kernel)).trans ?_
  refine (px_go (by decide +kernel : pm_fe 46 48 = some (.iload_n 2, 1)) rfl).trans ?_
  refine (px_go (by decide +kernel : pm_fe 46 49 = some (.iload 4, 2)) rfl).trans ?_
  refine (px_go (by decide +kernel : pm_fe 46 51 = some (.sipush 10000, 3)) rfl).trans ?_
  refine (ry_ic_ge (off := 8) (tgt := 62) h1 (by decide : (-2147483648 ≤ (10000 : Int) ∧ (10000 : Int) < 2147483648)) (by decide +kernel)).trans ?_
  exact Iff.rfl
theorem r46_57 {d : Nat} {f : Nat} {X : Nat × (Nat → Int)} {v : Nat → Int} {M : PH} {K : PV → PS → Prop} {l1 l2 l3 l4 s0 : Int} : pm_Run d 46 57 [vA f, vI l1, vI l2, vI l3, vI l4] [vI s0, vA (f + 6)] (GF X, M, PTF v) K ↔ pm_Run d 46 73 [vA f, vI l1, vI l2, vI l3, vI l4] [vI l4, vI s0, vA (f + 6)] (GF X, M, PTF v) K := by
  refine (px_go (by decide +kernel : pm_fe 46 57 = some (.iload 4, 2)) rfl).trans ?_
  refine (px_goto (off := 14) (tgt := 73) (by decide +kernel)).trans ?_
  exact Iff.rfl
theorem r46_62 {d : Nat} {f : Nat} {X : Nat × (Nat → Int)} {v : Nat → Int} {M : PH} {K : PV → PS → Prop} {l1 l2 l3 l4 s0 : Int} (hf : isFo f) (h1 : 0 ≤ (l4 - 10000)) (h2 : (l4 - 10000) < 29) : pm_Run d 46 62 [vA f, vI l1, vI l2, vI l3, vI l4] [vI s0, vA (f + 6)] (GF X, M, PTF v) K ↔ pm_Run d 46 73 [vA f, vI l1, vI l2, vI l3, vI l4] [vI (M (f + 5) (l4 - 10000).toNat), vI s0, vA (f + 6)] (GF X, M, PTF v) K := by
  refine (px_go (by decide +kernel : pm_fe 46 62 = some (.aload_n 0, 1)) rfl).trans ?_
  refine (ry_get2 (idx := 24) (ci := 3) (k := 4) (fos0 hf) (fop4 hf) (by decide +kernel)).trans ?_
  refine (px_go (by decide +kernel : pm_fe 46 66 = some (.iload 4, 2)) rfl).trans ?_
  refine (px_go (by decide +kernel : pm_fe 46 68 = some (.sipush 10000, 3)) rfl).trans ?_
  refine (px_go (by decide +kernel : pm_fe 46 71 = some (.isub, 1)) rfl).trans ?_
  refine (ry_iald (fos5 hf) h1 h2 (by decide +kernel)).trans ?_
  exact Iff.rfl
theorem r46_73 {d : Nat} {f : Nat} {X : Nat × (Nat → Int)} {v : Nat → Int} {M : PH} {K : PV → PS → Prop} {l1 l2 l3 l4 s0 s1 : Int} (hf : isFo f) (h1 : 0 ≤ s1) (h2 : s1 < 64) : pm_Run d 46 73 [vA f, vI l1, vI l2, vI l3, vI l4] [vI s0, vI s1, vA (f + 6)] (GF X, M, PTF v) K ↔ pm_Run d 46 74 [vA f, vI l1, vI l2, vI l3, vI l4] [] (GF X, pm_sa M (f + 6) (pm_up (M (f + 6)) s1.toNat s0), PTF v) K := by
  refine (ry_iast (fos6 hf) h1 h2 (by decide +kernel)).trans ?_
  exact Iff.rfl
theorem r46_74 {d : Nat} {f : Nat} {X : Nat × (Nat → Int)} {v : Nat → Int} {M : PH} {K : PV → PS → Prop} {l1 l2 l3 l4 : Int} : pm_Run d 46 74 [vA f, vI l1, vI l2, vI l3, vI l4] [] (GF X, M, PTF v) K ↔ pm_Run d 46 183 [vA f, vI l1, vI (l2 + 1), vI l3, vI l4] [] (GF X, M, PTF v) K := by
  refine (px_go (by decide +kernel : pm_fe 46 74 = some (.iinc 2 1, 3)) rfl).trans ?_
  refine (px_goto (off := 106) (tgt := 183) (by decide +kernel)).trans ?_
  exact Iff.rfl
theorem r46_80 {d : Nat} {f : Nat} {X : Nat × (Nat → Int)} {v : Nat → Int} {M : PH} {K : PV → PS → Prop} {l1 l2 l3 l4 : Int} (h1 : inR l4) : pm_Run d 46 80 [vA f, vI l1, vI l2, vI l3, vI l4] [] (GF X, M, PTF v) K ↔ if l4 ≠ 20026 then pm_Run d 46 110 [vA f, vI l1, vI l2, vI l3, vI l4] [] (GF X, M, PTF v) K else pm_Run d 46 88 [vA f, vI l1, vI l2, vI l3, vI l4] [] (GF X, M, PTF v) K := by
  refine (px_go (by decide +kernel : pm_fe 46 80 = some (.iload 4, 2)) rfl).trans ?_
  refine (px_go (by decide +kernel : pm_fe 46 82 = some (.sipush 20026, 3)) rfl).trans ?_
  refine (ry_ic_ne (off := 25) (tgt := 110) h1 (by decide : (-2147483648 ≤ (20026 : Int) ∧ (20026 : Int) < 2147483648)) (by decide +kernel)).trans ?_
  exact Iff.rfl
theorem r46_88 {d : Nat} {f : Nat} {X : Nat × (Nat → Int)} {v : Nat → Int} {M : PH} {K : PV → PS → Prop} {l1 l2 l3 l4 : Int} (hf : isFo f) (h1 : inR l2) : pm_Run d 46 88 [vA f, vI l1, vI l2, vI l3, vI l4] [] (GF X, M, PTF v) K ↔ if 64 ≤ l2 then pm_Run d 46 183 [vA f, vI l1, vI l2, vI l3, vI l4] [] (GF X, M, PTF v) K else pm_Run d 46 97 [vA f, vI l1, vI l2, vI l3, vI l4] [] (GF X, M, PTF v) K := by
  refine (px_go (by decide +kernel : pm_fe 46 88 = some (.iload_n 2, 1)) rfl).trans ?_
  refine (px_go (by decide +kernel : pm_fe 46 89 = some (.aload_n 0, 1)) rfl).trans ?_
  refine (ry_get2 (idx := 27) (ci := 3) (k := 5) (fos0 hf) (fop5 hf) (by decide +kernel)).trans ?_
  refine (ry_alen (fos6 hf) (by decide) (by decide +kernel)).trans ?_
  refine (ry_ic_ge (off := 89) (tgt := 183) h1 (by decide : (-2147483648 ≤ (64 : Int) ∧ (64 : Int) < 2147483648)) (by decide +kernel)).trans ?_
  exact Iff.rfl
theorem r46_97 {d : Nat} {f : Nat} {X : Nat × (Nat → Int)} {v : Nat → Int} {M : PH} {K : PV → PS → Prop} {l1 l2 l3 l4 : Int} (hf : isFo f) (h1 : 0 ≤ l2) (h2 : l2 < 64) : pm_Run d 46 97 [vA f, vI l1, vI l2, vI l3, vI l4] [] (GF X, M, PTF v) K ↔ pm_Run d 46 104 [vA f, vI l1, vI l2, vI l3, vI l4] [] (GF X, pm_sa M (f + 6) (pm_up (M (f + 6)) l2.toNat 1), PTF v) K := by
  refine (px_go (by decide +kernel : pm_fe 46 97 = some (.aload_n 0, 1)) rfl).trans ?_
  refine (ry_get2 (idx := 27) (ci := 3) (k := 5) (fos0 hf) (fop5 hf) (by decide +kernel)).trans ?_
  refine (px_go (by decide +kernel : pm_fe 46 101 = some (.iload_n 2, 1)) rfl).trans ?_
  refine (px_go (by decide +kernel : pm_fe 46 102 = some (.iconst 1, 1)) rfl).trans ?_
  refine (ry_iast (fos6 hf) h1 h2 (by decide +kernel)).trans ?_
  exact Iff.rfl
theorem r46_104 {d : Nat} {f : Nat} {X : Nat × (Nat → Int)} {v : Nat → Int} {M : PH} {K : PV → PS → Prop} {l1 l2 l3 l4 : Int} : pm_Run d 46 104 [vA f, vI l1, vI l2, vI l3, vI l4] [] (GF X, M, PTF v) K ↔ pm_Run d 46 183 [vA f, vI l1, vI (l2 + 1), vI l3, vI l4] [] (GF X, M, PTF v) K := by
  refine (px_go (by decide +kernel : pm_fe 46 104 = some (.iinc 2 1, 3)) rfl).trans ?_
  refine (px_goto (off := 76) (tgt := 183) (by decide +kernel)).trans ?_
  exact Iff.rfl
theorem r46_110 {d : Nat} {f : Nat} {X : Nat × (Nat → Int)} {v : Nat → Int} {M : PH} {K : PV → PS → Prop} {l1 l2 l3 l4 : Int} (h1 : inR l4) : pm_Run d 46 110 [vA f, vI l1, vI l2, vI l3, vI l4] [] (GF X, M, PTF v) K ↔ if l4 ≠ 20025 then pm_Run d 46 144 [vA f, vI l1, vI l2, vI l3, vI l4] [] (GF X, M, PTF v) K else pm_Run d 46 118 [vA f, vI l1, vI l2, vI l3, vI l4] [] (GF X, M, PTF v) K := by
  refine (px_go (by decide +kernel : pm_fe 46 110 = some (.iload 4, 2)) rfl).trans ?_
  refine (px_go (by decide +kernel : pm_fe 46 112 = some (.sipush 20025, 3)) rfl).trans ?_
  refine (ry_ic_ne (off := 29) (tgt := 144) h1 (by decide : (-2147483648 ≤ (20025 : Int) ∧ (20025 : Int) < 2147483648)) (by decide +kernel)).trans ?_
  exact Iff.rfl
theorem r46_118 {d : Nat} {f : Nat} {X : Nat × (Nat → Int)} {v : Nat → Int} {M : PH} {K : PV → PS → Prop} {l1 l2 l3 l4 : Int} (h1 : inR l2) : pm_Run d 46 118 [vA f, vI l1, vI l2, vI l3, vI l4] [] (GF X, M, PTF v) K ↔ if l2 < 1 then pm_Run d 46 183 [vA f, vI l1, vI l2, vI l3, vI l4] [] (GF X, M, PTF v) K else pm_Run d 46 123 [vA f, vI l1, vI l2, vI l3, vI l4] [] (GF X, M, PTF v) K := by
  refine (px_go (by decide +kernel : pm_fe 46 118 = some (.iload_n 2, 1)) rfl).trans ?_
  refine (px_go (by decide +kernel : pm_fe 46 119 = some (.iconst 1, 1)) rfl).trans ?_
  refine (ry_ic_lt (off := 63) (tgt := 183) h1 (by decide : (-2147483648 ≤ (1 : Int) ∧ (1 : Int) < 2147483648)) (by decide +kernel)).trans ?_
  exact Iff.rfl
theorem r46_123 {d : Nat} {f : Nat} {X : Nat × (Nat → Int)} {v : Nat → Int} {M : PH} {K : PV → PS → Prop} {l1 l2 l3 l4 : Int} (hf : isFo f) (h1 : 0 ≤ (l2 - 1)) (h2 : (l2 - 1) < 64) : pm_Run d 46 123 [vA f, vI l1, vI l2, vI l3, vI l4] [] (GF X, M, PTF v) K ↔ pm_Run d 46 183 [vA f, vI l1, vI l2, vI l3, vI l4] [] (GF X, pm_sa M (f + 6) (pm_up (M (f + 6)) (l2 - 1).toNat (1 - (M (f + 6) (l2 - 1).toNat))), PTF v) K := by
  refine (px_go (by decide +kernel : pm_fe 46 123 = some (.aload_n 0, 1)) rfl).trans ?_
  refine (ry_get2 (idx := 27) (ci := 3) (k := 5) (fos0 hf) (fop5 hf) (by decide +kernel)).trans ?_
  refine (px_go (by decide +kernel : pm_fe 46 127 = some (.iload_n 2, 1)) rfl).trans ?_
  refine (px_go (by decide +kernel : pm_fe 46 128 = some (.iconst 1, 1)) rfl).trans ?_
  refine (px_go (by decide +kernel : pm_fe 46 129 = some (.isub, 1)) rfl).trans ?_
  refine (px_go (by decide +kernel : pm_fe 46 130 = some (.iconst 1, 1)) rfl).trans ?_
  refine (px_go (by decide +kernel : pm_fe 46 131 = some (.aload_n 0, 1)) rfl).trans ?_
  refine (ry_get2 (idx := 27) (ci := 3) (k := 5) (fos0 hf) (fop5 hf) (by decide +kernel)).trans ?_
  refine (px_go (by decide +kernel : pm_fe 46 135 = some (.iload_n 2, 1)) rfl).trans ?_
  refine (px_go (by decide +kernel : pm_fe 46 136 = some (.iconst 1, 1)) rfl).trans ?_
  refine (px_go (by decide +kernel : pm_fe 46 137 = some (.isub, 1)) rfl).trans ?_
  refine (ry_iald (fos6 hf) h1 h2 (by decide +kernel)).trans ?_
  refine (px_go (by decide +kernel : pm_fe 46 139 = some (.isub, 1)) rfl).trans ?_
  refine (ry_iast (fos6 hf) h1 h2 (by decide +kernel)).trans ?_
  refine (px_goto (off := 42) (tgt := 183) (by decide +kernel)).trans ?_
  exact Iff.rfl
theorem r46_144 {d : Nat} {f : Nat} {X : Nat × (Nat → Int)} {v : Nat → Int} {M : PH} {K : PV → PS → Prop} {l1 l2 l3 l4 : Int} (h1 : inR l2) : pm_Run d 46 144 [vA f, vI l1, vI l2, vI l3, vI l4] [] (GF X, M, PTF v) K ↔ if l2 < 2 then pm_Run d 46 183 [vA f, vI l1, vI l2, vI l3, vI l4] [] (GF X, M, PTF v) K else pm_Run d 46 149 [vA f, vI l1, vI l2, vI l3, vI l4] [] (GF X, M, PTF v) K := by
  refine (px_go (by decide +kernel : pm_fe 46 144 = some (.iload_n 2, 1)) rfl).trans ?_
  refine (px_go (by decide +kernel : pm_fe 46 145 = some (.iconst 2, 1)) rfl).trans ?_
  refine (ry_ic_lt (off := 37) (tgt := 183) h1 (by decide : (-2147483648 ≤ (2 : Int) ∧ (2 : Int) < 2147483648)) (by decide +kernel)).trans ?_
  exact Iff.rfl
theorem r46_149 {d : Nat} {f : Nat} {X : Nat × (Nat → Int)} {v : Nat → Int} {M : PH} {K : PV → PS → Prop} {l1 l2 l3 l4 : Int} (hf : isFo f) (h1 : 0 ≤ ((l2 + (-1)) - 1)) (h2 : ((l2 + (-1)) - 1) < 64) (h3 : 0 ≤ (l2 + (-1))) (h4 : (l2 + (-1)) < 64) : pm_Run d 46 149 [vA f, vI l1, vI l2, vI l3, vI l4] [] (GF X, M, PTF v) K ↔ pm_Call d 47 [vI (l4 - 20000), vI (M (f + 6) ((l2 + (-1)) - 1).toNat), vI (M (f + 6) (l2 + (-1)).toNat)] (GF X, M, PTF v) (fun r9 S1 => pm_Run d 46 182 [vA f, vI l1, vI (l2 + (-1)), vI l3, vI l4] (pm_push r9 [vI ((l2 + (-1)) - 1), vA (f + 6)]) S1 K) := by
  refine (px_go (by decide +kernel : pm_fe 46 149 = some (.iinc 2 (-1), 3)) rfl).trans ?_
  refine (px_go (by decide +kernel : pm_fe 46 152 = some (.aload_n 0, 1)) rfl).trans ?_
  refine (ry_get2 (idx := 27) (ci := 3) (k := 5) (fos0 hf) (fop5 hf) (by decide +kernel)).trans ?_
  refine (px_go (by decide +kernel : pm_fe 46 156 = some (.iload_n 2, 1)) rfl).trans ?_
  refine (px_go (by decide +kernel : pm_fe 46 157 = some (.iconst 1, 1)) rfl).trans ?_
  refine (px_go (by decide +kernel : pm_fe 46 158 = some (.isub, 1)) rfl).trans ?_
  refine (px_go (by decide +kernel : pm_fe 46 159 = some (.iload 4, 2)) rfl).trans ?_
  refine (px_go (by decide +kernel : pm_fe 46 161 = some (.sipush 20000, 3)) rfl).trans ?_
  refine (px_go (by decide +kernel : pm_fe 46 164 = some (.isub, 1)) rfl).trans ?_
  refine (px_go (by decide +kernel : pm_fe 46 165 = some (.aload_n 0, 1)) rfl).trans ?_
  refine (ry_get2 (idx := 27) (ci := 3) (k := 5) (fos0 hf) (fop5 hf) (by decide +kernel)).trans ?_
  refine (px_go (by decide +kernel : pm_fe 46 169 = some (.iload_n 2, 1)) rfl).trans ?_
  refine (px_go (by decide +kernel : pm_fe 46 170 = some (.iconst 1, 1)) rfl).trans ?_
  refine (px_go (by decide +kernel : pm_fe 46 171 = some (.isub, 1)) rfl).trans ?_
  refine (ry_iald (fos6 hf) h1 h2 (by decide +kernel)).trans ?_
  refine (px_go (by decide +kernel : pm_fe 46 173 = some (.aload_n 0, 1)) rfl).trans ?_
  refine (ry_get2 (idx := 27) (ci := 3) (k := 5) (fos0 hf) (fop5 hf) (by decide +kernel)).trans ?_
  refine (px_go (by decide +kernel : pm_fe 46 177 = some (.iload_n 2, 1)) rfl).trans ?_
  refine (ry_iald (fos6 hf) h3 h4 (by decide +kernel)).trans ?_
  refine (px_s3 (idx := 40) (m' := 47) (nest := 0) (by decide +kernel)).trans ((and_iff_right (by simp [pm_wl_n, pm_wl_c, pm_w] : pm_wl [vI ((l2 + (-1)) - 1), vA (f + 6)] ≤ 8)).trans ?_)
  exact Iff.rfl
theorem r46_182 {d : Nat} {f : Nat} {X : Nat × (Nat → Int)} {v : Nat → Int} {M : PH} {K : PV → PS → Prop} {l1 l2 l3 l4 s0 s1 : Int} (hf : isFo f) (h1 : 0 ≤ s1) (h2 : s1 < 64) : pm_Run d 46 182 [vA f, vI l1, vI l2, vI l3, vI l4] [vI s0, vI s1, vA (f + 6)] (GF X, M, PTF v) K ↔ pm_Run d 46 183 [vA f, vI l1, vI l2, vI l3, vI l4] [] (GF X, pm_sa M (f + 6) (pm_up (M (f + 6)) s1.toNat s0), PTF v) K := by
  refine (ry_iast (fos6 hf) h1 h2 (by decide +kernel)).trans ?_
  exact Iff.rfl
theorem r46_183 {d : Nat} {f : Nat} {X : Nat × (Nat → Int)} {v : Nat → Int} {M : PH} {K : PV → PS → Prop} {l1 l2 l3 l4 : Int} : pm_Run d 46 183 [vA f, vI l1, vI l2, vI l3, vI l4] [] (GF X, M, PTF v) K ↔ pm_Run d 46 9 [vA f, vI l1, vI l2, vI (l3 + 1), vI l4] [] (GF X, M, PTF v) K := by
  refine (px_go (by decide +kernel : pm_fe 46 183 = some (.iinc 3 1, 3)) rfl).trans ?_
  refine (px_goto (off := (-177)) (tgt := 9) (by decide +kernel)).trans ?_
  exact Iff.rfl
theorem r46_189 {d : Nat} {f : Nat} {X : Nat × (Nat → Int)} {v : Nat → Int} {M : PH} {K : PV → PS → Prop} {l1 l2 l3 : Int} {l4 : PV} (h1 : inR l2) : pm_Run d 46 189 [vA f, vI l1, vI l2, vI l3, l4] [] (GF X, M, PTF v) K ↔ if l2 ≤ 0 then pm_Run d 46 204 [vA f, vI l1, vI l2, vI l3, l4] [] (GF X, M, PTF v) K else pm_Run d 46 193 [vA f, vI l1, vI l2, vI l3, l4] [] (GF X, M, PTF v) K := by
  refine (px_go (by decide +kernel : pm_fe 46 189 = some (.iload_n 2, 1)) rfl).trans ?_
  refine (ry_if_le (off := 14) (tgt := 204) h1 (by decide +kernel)).trans ?_
  exact Iff.rfl
theorem r46_193 {d : Nat} {f : Nat} {X : Nat × (Nat → Int)} {v : Nat → Int} {M : PH} {K : PV → PS → Prop} {l1 l2 l3 : Int} {l4 : PV} (hf : isFo f) (h1 : 0 ≤ (l2 - 1)) (h2 : (l2 - 1) < 64) : pm_Run d 46 193 [vA f, vI l1, vI l2, vI l3, l4] [] (GF X, M, PTF v) K ↔ pm_Run d 46 205 [vA f, vI l1, vI l2, vI l3, l4] [vI (M (f + 6) (l2 - 1).toNat)] (GF X, M, PTF v) K := by
  refine (px_go (by decide +kernel : pm_fe 46 193 = some (.aload_n 0, 1)) rfl).trans ?_
  refine (ry_get2 (idx := 27) (ci := 3) (k := 5) (fos0 hf) (fop5 hf) (by decide +kernel)).trans ?_
  refine (px_go (by decide +kernel : pm_fe 46 197 = some (.iload_n 2, 1)) rfl).trans ?_
  refine (px_go (by decide +kernel : pm_fe 46 198 = some (.iconst 1, 1)) rfl).trans ?_
  refine (px_go (by decide +kernel : pm_fe 46 199 = some (.isub, 1)) rfl).trans ?_
  refine (ry_iald (fos6 hf) h1 h2 (by decide +kernel)).trans ?_
  refine (px_goto (off := 4) (tgt := 205) (by decide +kernel)).trans ?_
  exact Iff.rfl
theorem r46_204 {d : Nat} {f : Nat} {X : Nat × (Nat → Int)} {v : Nat → Int} {M : PH} {K : PV → PS → Prop} {l1 l2 l3 : Int} {l4 : PV} : pm_Run d 46 204 [vA f, vI l1, vI l2, vI l3, l4] [] (GF X, M, PTF v) K ↔ pm_Run d 46 205 [vA f, vI l1, vI l2, vI l3, l4] [vI 0] (GF X, M, PTF v) K := by
  refine (px_go (by decide +kernel : pm_fe 46 204 = some (.iconst 0, 1)) rfl).trans ?_
  exact Iff.rfl
theorem r46_205 {d : Nat} {f : Nat} {X : Nat × (Nat → Int)} {v : Nat → Int} {M : PH} {K : PV → PS → Prop} {l1 l2 l3 s0 : Int} {l4 : PV} : pm_Run d 46 205 [vA f, vI l1, vI l2, vI l3, l4] [vI s0] (GF X, M, PTF v) K ↔ K (vI s0) (GF X, M, PTF v) := by
  refine (px_ri (by decide +kernel)).trans ?_
  exact Iff.rfl
-- X3_joined joined(III)I
theorem r47_0 {d : Nat} {X : Nat × (Nat → Int)} {v : Nat → Int} {M : PH} {K : PV → PS → Prop} {l0 l1 l2 : Int} (h1 : inR l0) : pm_Run d 47 0 [vI l0, vI l1, vI l2, PU, PU] [] (GF X, M, PTF v) K ↔ pm_Run d 47 (pm_tg 23 [279, 287, 327, 327, 295, 311, 327, 327, 327, 327, 327, 327, 327, 327, 219, 327, 327, 327, 327, 192, 176, 327, 184, 327, 201, 327, 327, 327, 327, 327, 327, 327, 327, 327, 327, 327, 327, 237, 265, 251] 327 l0) [vI l0, vI l1, vI l2, vL 0, PU] [] (GF X, M, PTF v) K := by
  refine (px_go (by decide +kernel : pm_fe 47 0 = some (.lconst 0, 1)) rfl).trans ?_
  refine (px_go (by decide +kernel : pm_fe 47 1 = some (.lstore_n 3, 1)) rfl).trans ?_
  refine (px_go (by decide +kernel : pm_fe 47 2 = some (.iload_n 0, 1)) rfl).trans ?_
  refine (ry_tsw (lo := 23) (dt := 327) (tl := [279, 287, 327, 327, 295, 311, 327, 327, 327, 327, 327, 327, 327, 327, 219, 327, 327, 327, 327, 192, 176, 327, 184, 327, 201, 327, 327, 327, 327, 327, 327, 327, 327, 327, 327, 327, 327, 237, 265, 251]) h1 (by decide +kernel : pm_fe 47 3 = some (.tableswitch 324 23 62 #[276, 284, 324, 324, 292, 308, 324, 324, 324, 324, 324, 324, 324, 324, 216, 324, 324, 324, 324, 189, 173, 324, 181, 324, 198, 324, 324, 324, 324, 324, 324, 324, 324, 324, 324, 324, 324, 234, 262, 248], 173) ∧ _)).trans ?_
  exact Iff.rfl
theorem r47_176 {d : Nat} {X : Nat × (Nat → Int)} {v : Nat → Int} {M : PH} {K : PV → PS → Prop} {l0 l1 l2 l3 : Int} (h1 : inR (l1 + l2)) : pm_Run d 47 176 [vI l0, vI l1, vI l2, vL l3, PU] [] (GF X, M, PTF v) K ↔ pm_Run d 47 327 [vI l0, vI l1, vI l2, vL (l1 + l2), PU] [] (GF X, M, PTF v) K := by
  refine (px_go (by decide +kernel : pm_fe 47 176 = some (.iload_n 1, 1)) rfl).trans ?_
  refine (px_go (by decide +kernel : pm_fe 47 177 = some (.iload_n 2, 1)) rfl).trans ?_
  refine (px_go (by decide +kernel : pm_fe 47 178 = some (.iadd, 1)) rfl).trans ?_
  refine (ry_i2l h1 (by decide +kernel)).trans ?_
  refine (px_go (by decide +kernel : pm_fe 47 180 = some (.lstore_n 3, 1)) rfl).trans ?_
  refine (px_goto (off := 146) (tgt := 327) (by decide +kernel)).trans ?_
  exact Iff.rfl
theorem r47_184 {d : Nat} {X : Nat × (Nat → Int)} {v : Nat → Int} {M : PH} {K : PV → PS → Prop} {l0 l1 l2 l3 : Int} (h1 : inR (l1 - l2)) : pm_Run d 47 184 [vI l0, vI l1, vI l2, vL l3, PU] [] (GF X, M, PTF v) K ↔ pm_Run d 47 327 [vI l0, vI l1, vI l2, vL (l1 - l2), PU] [] (GF X, M, PTF v) K := by
  refine (px_go (by decide +kernel : pm_fe 47 184 = some (.iload_n 1, 1)) rfl).trans ?_
  refine (px_go (by decide +kernel : pm_fe 47 185 = some (.iload_n 2, 1)) rfl).trans ?_
  refine (px_go (by decide +kernel : pm_fe 47 186 = some (.isub, 1)) rfl).trans ?_
  refine (ry_i2l h1 (by decide +kernel)).trans ?_
  refine (px_go (by decide +kernel : pm_fe 47 188 = some (.lstore_n 3, 1)) rfl).trans ?_
  refine (px_goto (off := 138) (tgt := 327) (by decide +kernel)).trans ?_
  exact Iff.rfl
theorem r47_192 {d : Nat} {X : Nat × (Nat → Int)} {v : Nat → Int} {M : PH} {K : PV → PS → Prop} {l0 l1 l2 l3 : Int} (h1 : inR l1) (h2 : inR l2) : pm_Run d 47 192 [vI l0, vI l1, vI l2, vL l3, PU] [] (GF X, M, PTF v) K ↔ pm_Run d 47 327 [vI l0, vI l1, vI l2, vL (l1 * l2), PU] [] (GF X, M, PTF v) K := by
  refine (px_go (by decide +kernel : pm_fe 47 192 = some (.iload_n 1, 1)) rfl).trans ?_
  refine (ry_i2l h1 (by decide +kernel)).trans ?_
  refine (px_go (by decide +kernel : pm_fe 47 194 = some (.iload_n 2, 1)) rfl).trans ?_
  refine (ry_i2l h2 (by decide +kernel)).trans ?_
  refine (px_go (by decide +kernel : pm_fe 47 196 = some (.lmul, 1)) rfl).trans ?_
  refine (px_go (by decide +kernel : pm_fe 47 197 = some (.lstore_n 3, 1)) rfl).trans ?_
  refine (px_goto (off := 129) (tgt := 327) (by decide +kernel)).trans ?_
  exact Iff.rfl
theorem r47_201 {d : Nat} {X : Nat × (Nat → Int)} {v : Nat → Int} {M : PH} {K : PV → PS → Prop} {l0 l1 l2 l3 : Int} (h1 : inR l2) : pm_Run d 47 201 [vI l0, vI l1, vI l2, vL l3, PU] [] (GF X, M, PTF v) K ↔ if l2 ≠ 0 then pm_Run d 47 209 [vI l0, vI l1, vI l2, vL l3, PU] [] (GF X, M, PTF v) K else pm_Run d 47 205 [vI l0, vI l1, vI l2, vL l3, PU] [] (GF X, M, PTF v) K := by
  refine (px_go (by decide +kernel : pm_fe 47 201 = some (.iload_n 2, 1)) rfl).trans ?_
  refine (ry_if_ne (off := 7) (tgt := 209) h1 (by decide +kernel)).trans ?_
  exact Iff.rfl
theorem r47_205 {d : Nat} {X : Nat × (Nat → Int)} {v : Nat → Int} {M : PH} {K : PV → PS → Prop} {l0 l1 l2 l3 : Int} : pm_Run d 47 205 [vI l0, vI l1, vI l2, vL l3, PU] [] (GF X, M, PTF v) K ↔ pm_Run d 47 215 [vI l0, vI l1, vI l2, vL l3, PU] [vL 0] (GF X, M, PTF v) K := by
  refine (px_go (by decide +kernel : pm_fe 47 205 = some (.lconst 0, 1)) rfl).trans ?_
  refine (px_goto (off := 9) (tgt := 215) (by decide +kernel)).trans ?_
  exact Iff.rfl
theorem r47_209 {d : Nat} {X : Nat × (Nat → Int)} {v : Nat → Int} {M : PH} {K : PV → PS → Prop} {l0 l1 l2 l3 : Int} (h1 : inR l1) (h2 : inR l2) (h3 : l2 ≠ 0) (h4 : inR (l1.fdiv l2)) : pm_Run d 47 209 [vI l0, vI l1, vI l2, vL l3, PU] [] (GF X, M, PTF v) K ↔ pm_Run d 47 215 [vI l0, vI l1, vI l2, vL l3, PU] [vL (l1.fdiv l2)] (GF X, M, PTF v) K := by
  refine (px_go (by decide +kernel : pm_fe 47 209 = some (.iload_n 1, 1)) rfl).trans ?_
  refine (px_go (by decide +kernel : pm_fe 47 210 = some (.iload_n 2, 1)) rfl).trans ?_
  refine (ry_fd (idx := 44) h1 h2 h3 (by simp [pm_wl_n, pm_wl_c, pm_w] : pm_wl [] ≤ 8) (by decide +kernel)).trans ?_
  refine (ry_i2l h4 (by decide +kernel)).trans ?_
  exact Iff.rfl
theorem r47_215 {d : Nat} {X : Nat × (Nat → Int)} {v : Nat → Int} {M : PH} {K : PV → PS → Prop} {l0 l1 l2 l3 s0 : Int} : pm_Run d 47 215 [vI l0, vI l1, vI l2, vL l3, PU] [vL s0] (GF X, M, PTF v) K ↔ pm_Run d 47 327 [vI l0, vI l1, vI l2, vL s0, PU] [] (GF X, M, PTF v) K := by
  refine (px_go (by decide +kernel : pm_fe 47 215 = some (.lstore_n 3, 1)) rfl).trans ?_
  refine (px_goto (off := 111) (tgt := 327) (by decide +kernel)).trans ?_
  exact Iff.rfl
theorem r47_219 {d : Nat} {X : Nat × (Nat → Int)} {v : Nat → Int} {M : PH} {K : PV → PS → Prop} {l0 l1 l2 l3 : Int} (h1 : inR l2) : pm_Run d 47 219 [vI l0, vI l1, vI l2, vL l3, PU] [] (GF X, M, PTF v) K ↔ if l2 ≠ 0 then pm_Run d 47 227 [vI l0, vI l1, vI l2, vL l3, PU] [] (GF X, M, PTF v) K else pm_Run d 47 223 [vI l0, vI l1, vI l2, vL l3, PU] [] (GF X, M, PTF v) K := by
  refine (px_go (by decide +kernel : pm_fe 47 219 = some (.iload_n 2, 1)) rfl).trans ?_
  refine (ry_if_ne (off := 7) (tgt := 227) h1 (by decide +kernel)).trans ?_
  exact Iff.rfl
theorem r47_223 {d : Nat} {X : Nat × (Nat → Int)} {v : Nat → Int} {M : PH} {K : PV → PS → Prop} {l0 l1 l2 l3 : Int} : pm_Run d 47 223 [vI l0, vI l1, vI l2, vL l3, PU] [] (GF X, M, PTF v) K ↔ pm_Run d 47 233 [vI l0, vI l1, vI l2, vL l3, PU] [vL 0] (GF X, M, PTF v) K := by
  refine (px_go (by decide +kernel : pm_fe 47 223 = some (.lconst 0, 1)) rfl).trans ?_
  refine (px_goto (off := 9) (tgt := 233) (by decide +kernel)).trans ?_
  exact Iff.rfl
theorem r47_227 {d : Nat} {X : Nat × (Nat → Int)} {v : Nat → Int} {M : PH} {K : PV → PS → Prop} {l0 l1 l2 l3 : Int} (h1 : inR l1) (h2 : inR l2) (h3 : l2 ≠ 0) (h4 : inR (l1.fmod l2)) : pm_Run d 47 227 [vI l0, vI l1, vI l2, vL l3, PU] [] (GF X, M, PTF v) K ↔ pm_Run d 47 233 [vI l0, vI l1, vI l2, vL l3, PU] [vL (l1.fmod l2)] (GF X, M, PTF v) K := by
  refine (px_go (by decide +kernel : pm_fe 47 227 = some (.iload_n 1, 1)) rfl).trans ?_
  refine (px_go (by decide +kernel : pm_fe 47 228 = some (.iload_n 2, 1)) rfl).trans ?_
  refine (ry_fm (idx := 50) h1 h2 h3 (by simp [pm_wl_n, pm_wl_c, pm_w] : pm_wl [] ≤ 8) (by decide +kernel)).trans ?_
  refine (ry_i2l h4 (by decide +kernel)).trans ?_
  exact Iff.rfl
theorem r47_233 {d : Nat} {X : Nat × (Nat → Int)} {v : Nat → Int} {M : PH} {K : PV → PS → Prop} {l0 l1 l2 l3 s0 : Int} : pm_Run d 47 233 [vI l0, vI l1, vI l2, vL l3, PU] [vL s0] (GF X, M, PTF v) K ↔ pm_Run d 47 327 [vI l0, vI l1, vI l2, vL s0, PU] [] (GF X, M, PTF v) K := by
  refine (px_go (by decide +kernel : pm_fe 47 233 = some (.lstore_n 3, 1)) rfl).trans ?_
  refine (px_goto (off := 93) (tgt := 327) (by decide +kernel)).trans ?_
  exact Iff.rfl
theorem r47_237 {d : Nat} {X : Nat × (Nat → Int)} {v : Nat → Int} {M : PH} {K : PV → PS → Prop} {l0 l1 l2 l3 : Int} (h1 : inR l1) (h2 : inR l2) : pm_Run d 47 237 [vI l0, vI l1, vI l2, vL l3, PU] [] (GF X, M, PTF v) K ↔ if l2 ≤ l1 then pm_Run d 47 246 [vI l0, vI l1, vI l2, vL l3, PU] [] (GF X, M, PTF v) K else pm_Run d 47 242 [vI l0, vI l1, vI l2, vL l3, PU] [] (GF X, M, PTF v) K := by
  refine (px_go (by decide +kernel : pm_fe 47 237 = some (.iload_n 1, 1)) rfl).trans ?_
  refine (px_go (by decide +kernel : pm_fe 47 238 = some (.iload_n 2, 1)) rfl).trans ?_
  refine (ry_ic_ge (off := 7) (tgt := 246) h1 h2 (by decide +kernel)).trans ?_
  exact Iff.rfl
theorem r47_242 {d : Nat} {X : Nat × (Nat → Int)} {v : Nat → Int} {M : PH} {K : PV → PS → Prop} {l0 l1 l2 l3 : Int} : pm_Run d 47 242 [vI l0, vI l1, vI l2, vL l3, PU] [] (GF X, M, PTF v) K ↔ pm_Run d 47 247 [vI l0, vI l1, vI l2, vL l3, PU] [vL 1] (GF X, M, PTF v) K := by
  refine (px_go (by decide +kernel : pm_fe 47 242 = some (.lconst 1, 1)) rfl).trans ?_
  refine (px_goto (off := 4) (tgt := 247) (by decide +kernel)).trans ?_
  exact Iff.rfl
theorem r47_246 {d : Nat} {X : Nat × (Nat → Int)} {v : Nat → Int} {M : PH} {K : PV → PS → Prop} {l0 l1 l2 l3 : Int} : pm_Run d 47 246 [vI l0, vI l1, vI l2, vL l3, PU] [] (GF X, M, PTF v) K ↔ pm_Run d 47 247 [vI l0, vI l1, vI l2, vL l3, PU] [vL 0] (GF X, M, PTF v) K := by
  refine (px_go (by decide +kernel : pm_fe 47 246 = some (.lconst 0, 1)) rfl).trans ?_
  exact Iff.rfl
theorem r47_247 {d : Nat} {X : Nat × (Nat → Int)} {v : Nat → Int} {M : PH} {K : PV → PS → Prop} {l0 l1 l2 l3 s0 : Int} : pm_Run d 47 247 [vI l0, vI l1, vI l2, vL l3, PU] [vL s0] (GF X, M, PTF v) K ↔ pm_Run d 47 327 [vI l0, vI l1, vI l2, vL s0, PU] [] (GF X, M, PTF v) K := by
  refine (px_go (by decide +kernel : pm_fe 47 247 = some (.lstore_n 3, 1)) rfl).trans ?_
  refine (px_goto (off := 79) (tgt := 327) (by decide +kernel)).trans ?_
  exact Iff.rfl
theorem r47_251 {d : Nat} {X : Nat × (Nat → Int)} {v : Nat → Int} {M : PH} {K : PV → PS → Prop} {l0 l1 l2 l3 : Int} (h1 : inR l1) (h2 : inR l2) : pm_Run d 47 251 [vI l0, vI l1, vI l2, vL l3, PU] [] (GF X, M, PTF v) K ↔ if l1 ≤ l2 then pm_Run d 47 260 [vI l0, vI l1, vI l2, vL l3, PU] [] (GF X, M, PTF v) K else pm_Run d 47 256 [vI l0, vI l1, vI l2, vL l3, PU] [] (GF X, M, PTF v) K := by
  refine (px_go (by decide +kernel : pm_fe 47 251 = some (.iload_n 1, 1)) rfl).trans ?_
  refine (px_go (by decide +kernel : pm_fe 47 252 = some (.iload_n 2, 1)) rfl).trans ?_
  refine (ry_ic_le (off := 7) (tgt := 260) h1 h2 (by decide +kernel)).trans ?_
  exact Iff.rfl
theorem r47_256 {d : Nat} {X : Nat × (Nat → Int)} {v : Nat → Int} {M : PH} {K : PV → PS → Prop} {l0 l1 l2 l3 : Int} : pm_Run d 47 256 [vI l0, vI l1, vI l2, vL l3, PU] [] (GF X, M, PTF v) K ↔ pm_Run d 47 261 [vI l0, vI l1, vI l2, vL l3, PU] [vL 1] (GF X, M, PTF v) K := by
  refine (px_go (by decide +kernel : pm_fe 47 256 = some (.lconst 1, 1)) rfl).trans ?_
  refine (px_goto (off := 4) (tgt := 261) (by decide +kernel)).trans ?_
  exact Iff.rfl
theorem r47_260 {d : Nat} {X : Nat × (Nat → Int)} {v : Nat → Int} {M : PH} {K : PV → PS → Prop} {l0 l1 l2 l3 : Int} : pm_Run d 47 260 [vI l0, vI l1, vI l2, vL l3, PU] [] (GF X, M, PTF v) K ↔ pm_Run d 47 261 [vI l0, vI l1, vI l2, vL l3, PU] [vL 0] (GF X, M, PTF v) K := by
  refine (px_go (by decide +kernel : pm_fe 47 260 = some (.lconst 0, 1)) rfl).trans ?_
  exact Iff.rfl
theorem r47_261 {d : Nat} {X : Nat × (Nat → Int)} {v : Nat → Int} {M : PH} {K : PV → PS → Prop} {l0 l1 l2 l3 s0 : Int} : pm_Run d 47 261 [vI l0, vI l1, vI l2, vL l3, PU] [vL s0] (GF X, M, PTF v) K ↔ pm_Run d 47 327 [vI l0, vI l1, vI l2, vL s0, PU] [] (GF X, M, PTF v) K := by
  refine (px_go (by decide +kernel : pm_fe 47 261 = some (.lstore_n 3, 1)) rfl).trans ?_
  refine (px_goto (off := 65) (tgt := 327) (by decide +kernel)).trans ?_
  exact Iff.rfl
theorem r47_265 {d : Nat} {X : Nat × (Nat → Int)} {v : Nat → Int} {M : PH} {K : PV → PS → Prop} {l0 l1 l2 l3 : Int} (h1 : inR l1) (h2 : inR l2) : pm_Run d 47 265 [vI l0, vI l1, vI l2, vL l3, PU] [] (GF X, M, PTF v) K ↔ if l1 ≠ l2 then pm_Run d 47 274 [vI l0, vI l1, vI l2, vL l3, PU] [] (GF X, M, PTF v) K else pm_Run d 47 270 [vI l0, vI l1, vI l2, vL l3, PU] [] (GF X, M, PTF v) K := by
  refine (px_go (by decide +kernel : pm_fe 47 265 = some (.iload_n 1, 1)) rfl).trans ?_
  refine (px_go (by decide +kernel : pm_fe 47 266 = some (.iload_n 2, 1)) rfl).trans ?_
  refine (ry_ic_ne (off := 7) (tgt := 274) h1 h2 (by decide +kernel)).trans ?_
  exact Iff.rfl
theorem r47_270 {d : Nat} {X : Nat × (Nat → Int)} {v : Nat → Int} {M : PH} {K : PV → PS → Prop} {l0 l1 l2 l3 : Int} : pm_Run d 47 270 [vI l0, vI l1, vI l2, vL l3, PU] [] (GF X, M, PTF v) K ↔ pm_Run d 47 275 [vI l0, vI l1, vI l2, vL l3, PU] [vL 1] (GF X, M, PTF v) K := by
  refine (px_go (by decide +kernel : pm_fe 47 270 = some (.lconst 1, 1)) rfl).trans ?_
  refine (px_goto (off := 4) (tgt := 275) (by decide +kernel)).trans ?_
  exact Iff.rfl
theorem r47_274 {d : Nat} {X : Nat × (Nat → Int)} {v : Nat → Int} {M : PH} {K : PV → PS → Prop} {l0 l1 l2 l3 : Int} : pm_Run d 47 274 [vI l0, vI l1, vI l2, vL l3, PU] [] (GF X, M, PTF v) K ↔ pm_Run d 47 275 [vI l0, vI l1, vI l2, vL l3, PU] [vL 0] (GF X, M, PTF v) K := by
  refine (px_go (by decide +kernel : pm_fe 47 274 = some (.lconst 0, 1)) rfl).trans ?_
  exact Iff.rfl
theorem r47_275 {d : Nat} {X : Nat × (Nat → Int)} {v : Nat → Int} {M : PH} {K : PV → PS → Prop} {l0 l1 l2 l3 s0 : Int} : pm_Run d 47 275 [vI l0, vI l1, vI l2, vL l3, PU] [vL s0] (GF X, M, PTF v) K ↔ pm_Run d 47 327 [vI l0, vI l1, vI l2, vL s0, PU] [] (GF X, M, PTF v) K := by
  refine (px_go (by decide +kernel : pm_fe 47 275 = some (.lstore_n 3, 1)) rfl).trans ?_
  refine (px_goto (off := 51) (tgt := 327) (by decide +kernel)).trans ?_
  exact Iff.rfl
theorem r47_279 {d : Nat} {X : Nat × (Nat → Int)} {v : Nat → Int} {M : PH} {K : PV → PS → Prop} {l0 l1 l2 l3 : Int} (h1 : inR (pm_or l1 l2)) : pm_Run d 47 279 [vI l0, vI l1, vI l2, vL l3, PU] [] (GF X, M, PTF v) K ↔ pm_Run d 47 327 [vI l0, vI l1, vI l2, vL (pm_or l1 l2), PU] [] (GF X, M, PTF v) K := by
  refine (px_go (by decide +kernel : pm_fe 47 279 = some (.iload_n 1, 1)) rfl).trans ?_
  refine (px_go (by decide +kernel : pm_fe 47 280 = some (.iload_n 2, 1)) rfl).trans ?_
  refine (px_go (by decide +kernel : pm_fe 47 281 = some (.ior, 1)) rfl).trans ?_
  refine (ry_i2l h1 (by decide +kernel)).trans ?_
  refine (px_go (by decide +kernel : pm_fe 47 283 = some (.lstore_n 3, 1)) rfl).trans ?_
  refine (px_goto (off := 43) (tgt := 327) (by decide +kernel)).trans ?_
  exact Iff.rfl
theorem r47_287 {d : Nat} {X : Nat × (Nat → Int)} {v : Nat → Int} {M : PH} {K : PV → PS → Prop} {l0 l1 l2 l3 : Int} (h1 : inR (pm_and l1 l2)) : pm_Run d 47 287 [vI l0, vI l1, vI l2, vL l3, PU] [] (GF X, M, PTF v) K ↔ pm_Run d 47 327 [vI l0, vI l1, vI l2, vL (pm_and l1 l2), PU] [] (GF X, M, PTF v) K := by
  refine (px_go (by decide +kernel : pm_fe 47 287 = some (.iload_n 1, 1)) rfl).trans ?_
  refine (px_go (by decide +kernel : pm_fe 47 288 = some (.iload_n 2, 1)) rfl).trans ?_
  refine (px_go (by decide +kernel : pm_fe 47 289 = some (.iand, 1)) rfl).trans ?_
  refine (ry_i2l h1 (by decide +kernel)).trans ?_
  refine (px_go (by decide +kernel : pm_fe 47 291 = some (.lstore_n 3, 1)) rfl).trans ?_
  refine (px_goto (off := 35) (tgt := 327) (by decide +kernel)).trans ?_
  exact Iff.rfl
theorem r47_295 {d : Nat} {X : Nat × (Nat → Int)} {v : Nat → Int} {M : PH} {K : PV → PS → Prop} {l0 l1 l2 l3 : Int} (h1 : inR l1) (h2 : inR l2) : pm_Run d 47 295 [vI l0, vI l1, vI l2, vL l3, PU] [] (GF X, M, PTF v) K ↔ if l2 ≤ l1 then pm_Run d 47 305 [vI l0, vI l1, vI l2, vL l3, PU] [] (GF X, M, PTF v) K else pm_Run d 47 300 [vI l0, vI l1, vI l2, vL l3, PU] [] (GF X, M, PTF v) K := by
  refine (px_go (by decide +kernel : pm_fe 47 295 = some (.iload_n 1, 1)) rfl).trans ?_
  refine (px_go (by decide +kernel : pm_fe 47 296 = some (.iload_n 2, 1)) rfl).trans ?_
  refine (ry_ic_ge (off := 8) (tgt := 305) h1 h2 (by decide +kernel)).trans ?_
  exact Iff.rfl
theorem r47_300 {d : Nat} {X : Nat × (Nat → Int)} {v : Nat → Int} {M : PH} {K : PV → PS → Prop} {l0 l1 l2 l3 : Int} (h1 : inR l1) : pm_Run d 47 300 [vI l0, vI l1, vI l2, vL l3, PU] [] (GF X, M, PTF v) K ↔ pm_Run d 47 307 [vI l0, vI l1, vI l2, vL l3, PU] [vL l1] (GF X, M, PTF v) K := by
  refine (px_go (by decide +kernel : pm_fe 47 300 = some (.iload_n 1, 1)) rfl).trans ?_
  refine (ry_i2l h1 (by decide +kernel)).trans ?_
  refine (px_goto (off := 5) (tgt := 307) (by decide +kernel)).trans ?_
  exact Iff.rfl
theorem r47_305 {d : Nat} {X : Nat × (Nat → Int)} {v : Nat → Int} {M : PH} {K : PV → PS → Prop} {l0 l1 l2 l3 : Int} (h1 : inR l2) : pm_Run d 47 305 [vI l0, vI l1, vI l2, vL l3, PU] [] (GF X, M, PTF v) K ↔ pm_Run d 47 307 [vI l0, vI l1, vI l2, vL l3, PU] [vL l2] (GF X, M, PTF v) K := by
  refine (px_go (by decide +kernel : pm_fe 47 305 = some (.iload_n 2, 1)) rfl).trans ?_
  refine (ry_i2l h1 (by decide +kernel)).trans ?_
  exact Iff.rfl
theorem r47_307 {d : Nat} {X : Nat × (Nat → Int)} {v : Nat → Int} {M : PH} {K : PV → PS → Prop} {l0 l1 l2 l3 s0 : Int} : pm_Run d 47 307 [vI l0, vI l1, vI l2, vL l3, PU] [vL s0] (GF X, M, PTF v) K ↔ pm_Run d 47 327 [vI l0, vI l1, vI l2, vL s0, PU] [] (GF X, M, PTF v) K := by
  refine (px_go (by decide +kernel : pm_fe 47 307 = some (.lstore_n 3, 1)) rfl).trans ?_
  refine (px_goto (off := 19) (tgt := 327) (by decide +kernel)).trans ?_
  exact Iff.rfl
theorem r47_311 {d : Nat} {X : Nat × (Nat → Int)} {v : Nat → Int} {M : PH} {K : PV → PS → Prop} {l0 l1 l2 l3 : Int} (h1 : inR l1) (h2 : inR l2) : pm_Run d 47 311 [vI l0, vI l1, vI l2, vL l3, PU] [] (GF X, M, PTF v) K ↔ if l1 ≤ l2 then pm_Run d 47 321 [vI l0, vI l1, vI l2, vL l3, PU] [] (GF X, M, PTF v) K else pm_Run d 47 316 [vI l0, vI l1, vI l2, vL l3, PU] [] (GF X, M, PTF v) K := by
  refine (px_go (by decide +kernel : pm_fe 47 311 = some (.iload_n 1, 1)) rfl).trans ?_
  refine (px_go (by decide +kernel : pm_fe 47 312 = some (.iload_n 2, 1)) rfl).trans ?_
  refine (ry_ic_le (off := 8) (tgt := 321) h1 h2 (by decide +kernel)).trans ?_
  exact Iff.rfl
theorem r47_316 {d : Nat} {X : Nat × (Nat → Int)} {v : Nat → Int} {M : PH} {K : PV → PS → Prop} {l0 l1 l2 l3 : Int} (h1 : inR l1) : pm_Run d 47 316 [vI l0, vI l1, vI l2, vL l3, PU] [] (GF X, M, PTF v) K ↔ pm_Run d 47 323 [vI l0, vI l1, vI l2, vL l3, PU] [vL l1] (GF X, M, PTF v) K := by
  refine (px_go (by decide +kernel : pm_fe 47 316 = some (.iload_n 1, 1)) rfl).trans ?_
  refine (ry_i2l h1 (by decide +kernel)).trans ?_
  refine (px_goto (off := 5) (tgt := 323) (by decide +kernel)).trans ?_
  exact Iff.rfl
theorem r47_321 {d : Nat} {X : Nat × (Nat → Int)} {v : Nat → Int} {M : PH} {K : PV → PS → Prop} {l0 l1 l2 l3 : Int} (h1 : inR l2) : pm_Run d 47 321 [vI l0, vI l1, vI l2, vL l3, PU] [] (GF X, M, PTF v) K ↔ pm_Run d 47 323 [vI l0, vI l1, vI l2, vL l3, PU] [vL l2] (GF X, M, PTF v) K := by
  refine (px_go (by decide +kernel : pm_fe 47 321 = some (.iload_n 2, 1)) rfl).trans ?_
  refine (ry_i2l h1 (by decide +kernel)).trans ?_
  exact Iff.rfl
theorem r47_323 {d : Nat} {X : Nat × (Nat → Int)} {v : Nat → Int} {M : PH} {K : PV → PS → Prop} {l0 l1 l2 l3 s0 : Int} : pm_Run d 47 323 [vI l0, vI l1, vI l2, vL l3, PU] [vL s0] (GF X, M, PTF v) K ↔ pm_Run d 47 327 [vI l0, vI l1, vI l2, vL s0, PU] [] (GF X, M, PTF v) K := by
  refine (px_go (by decide +kernel : pm_fe 47 323 = some (.lstore_n 3, 1)) rfl).trans ?_
  refine (px_goto (off := 3) (tgt := 327) (by decide +kernel)).trans ?_
  exact Iff.rfl
theorem r47_327 {d : Nat} {X : Nat × (Nat → Int)} {v : Nat → Int} {M : PH} {K : PV → PS → Prop} {l0 l1 l2 l3 : Int} (h1 : inL l3) (h2 : inR (pm_cm l3 1000000)) : pm_Run d 47 327 [vI l0, vI l1, vI l2, vL l3, PU] [] (GF X, M, PTF v) K ↔ if pm_cm l3 1000000 ≤ 0 then pm_Run d 47 338 [vI l0, vI l1, vI l2, vL l3, PU] [] (GF X, M, PTF v) K else pm_Run d 47 335 [vI l0, vI l1, vI l2, vL l3, PU] [] (GF X, M, PTF v) K := by
  refine (px_go (by decide +kernel : pm_fe 47 327 = some (.lload_n 3, 1)) rfl).trans ?_
  refine (px_ldcL (idx := 53) (x := 1000000) (by decide +kernel)).trans ?_
  refine (ry_lcmp h1 (by decide : (-9223372036854775808 ≤ (1000000 : Int) ∧ (1000000 : Int) < 9223372036854775808)) (by decide +kernel)).trans ?_
  refine (ry_if_le (off := 6) (tgt := 338) h2 (by decide +kernel)).trans ?_
  exact Iff.rfl
theorem r47_335 {d : Nat} {X : Nat × (Nat → Int)} {v : Nat → Int} {M : PH} {K : PV → PS → Prop} {l0 l1 l2 l3 : Int} : pm_Run d 47 335 [vI l0, vI l1, vI l2, vL l3, PU] [] (GF X, M, PTF v) K ↔ K (vI 1000000) (GF X, M, PTF v) := by
  refine (px_ldcI (idx := 55) (n := 2) (x := 1000000) (by decide +kernel)).trans ?_
  refine (px_ri (by decide +kernel)).trans ?_
  exact Iff.rfl
theorem r47_338 {d : Nat} {X : Nat × (Nat → Int)} {v : Nat → Int} {M : PH} {K : PV → PS → Prop} {l0 l1 l2 l3 : Int} (h1 : inL l3) (h2 : inR (pm_cm l3 (-1000000))) : pm_Run d 47 338 [vI l0, vI l1, vI l2, vL l3, PU] [] (GF X, M, PTF v) K ↔ if 0 ≤ pm_cm l3 (-1000000) then pm_Run d 47 351 [vI l0, vI l1, vI l2, vL l3, PU] [] (GF X, M, PTF v) K else pm_Run d 47 346 [vI l0, vI l1, vI l2, vL l3, PU] [] (GF X, M, PTF v) K := by
  refine (px_go (by decide +kernel : pm_fe 47 338 = some (.lload_n 3, 1)) rfl).trans ?_
  refine (px_ldcL (idx := 56) (x := (-1000000)) (by decide +kernel)).trans ?_
  refine (ry_lcmp h1 (by decide : (-9223372036854775808 ≤ ((-1000000) : Int) ∧ ((-1000000) : Int) < 9223372036854775808)) (by decide +kernel)).trans ?_
  refine (ry_if_ge (off := 8) (tgt := 351) h2 (by decide +kernel)).trans ?_
  exact Iff.rfl
theorem r47_346 {d : Nat} {X : Nat × (Nat → Int)} {v : Nat → Int} {M : PH} {K : PV → PS → Prop} {l0 l1 l2 l3 : Int} : pm_Run d 47 346 [vI l0, vI l1, vI l2, vL l3, PU] [] (GF X, M, PTF v) K ↔ pm_Run d 47 353 [vI l0, vI l1, vI l2, vL l3, PU] [vI (-1000000)] (GF X, M, PTF v) K := by
  refine (px_ldcI (idx := 58) (n := 2) (x := (-1000000)) (by decide +kernel)).trans ?_
  refine (px_goto (off := 5) (tgt := 353) (by decide +kernel)).trans ?_
  exact Iff.rfl
theorem r47_351 {d : Nat} {X : Nat × (Nat → Int)} {v : Nat → Int} {M : PH} {K : PV → PS → Prop} {l0 l1 l2 l3 : Int} : pm_Run d 47 351 [vI l0, vI l1, vI l2, vL l3, PU] [] (GF X, M, PTF v) K ↔ pm_Run d 47 353 [vI l0, vI l1, vI l2, vL l3, PU] [vI l3] (GF X, M, PTF v) K := by
  refine (px_go (by decide +kernel : pm_fe 47 351 = some (.lload_n 3, 1)) rfl).trans ?_
  refine (px_go (by decide +kernel : pm_fe 47 352 = some (.l2i, 1)) rfl).trans ?_
  exact Iff.rfl
theorem r47_353 {d : Nat} {X : Nat × (Nat → Int)} {v : Nat → Int} {M : PH} {K : PV → PS → Prop} {l0 l1 l2 l3 s0 : Int} : pm_Run d 47 353 [vI l0, vI l1, vI l2, vL l3, PU] [vI s0] (GF X, M, PTF v) K ↔ K (vI s0) (GF X, M, PTF v) := by
  refine (px_ri (by decide +kernel)).trans ?_
  exact Iff.rfl
