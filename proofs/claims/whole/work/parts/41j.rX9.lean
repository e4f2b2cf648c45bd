-- X9_rise rise(LMoonTender$Chart;LMoonTender$Moment;)V
theorem r113_0 {d : Nat} {b c t : Nat} {X : Nat × (Nat → Int)} {v : Nat → Int} {M : PH} {K : PV → PS → Prop} (hb : isMo b) : pm_Run d 113 0 [vA t, vA c, vA b, PU, PU, PU] [] (GF X, M, PTF v) K ↔ pm_Call d 62 [vA b] (GF X, M, PTF v) (fun r9 S1 => pm_Run d 113 4 [vA t, vA c, vA b, PU, PU, PU] (pm_push r9 []) S1 K) := by
  refine (px_go (by decide +kernel : pm_fe 113 0 = some (.aload_n 2, 1)) rfl).trans ?_
  refine (ry_v0 (idx := 18) (m' := 62) (ci := 5) (mos0 hb) (by simp [pm_wl_n, pm_wl_c, pm_w] : pm_wl [] ≤ 8) (by decide +kernel)).trans ?_
  exact Iff.rfl
theorem r113_4 {d : Nat} {b c t : Nat} {X : Nat × (Nat → Int)} {v : Nat → Int} {M : PH} {K : PV → PS → Prop} {s0 : Int} : pm_Run d 113 4 [vA t, vA c, vA b, PU, PU, PU] [vI s0] (GF X, M, PTF v) K ↔ pm_Run d 113 8 [vA t, vA c, vA b, vI s0, vI 0, PU] [] (GF X, M, PTF v) K := by
  refine (px_go (by decide +kernel : pm_fe 113 4 = some (.istore_n 3, 1)) rfl).trans ?_
  refine (px_go (by decide +kernel : pm_fe 113 5 = some (.iconst 0, 1)) rfl).trans ?_
  refine (px_go (by decide +kernel : pm_fe 113 6 = some (.istore 4, 2)) rfl).trans ?_
  exact Iff.rfl
theorem r113_8 {d : Nat} {b c t : Nat} {X : Nat × (Nat → Int)} {v : Nat → Int} {M : PH} {K : PV → PS → Prop} {l3 l4 : Int} {l5 : PV} (hc : isCh c) (h1 : inR l4) (h2 : inR (M c 1)) : pm_Run d 113 8 [vA t, vA c, vA b, vI l3, vI l4, l5] [] (GF X, M, PTF v) K ↔ if M c 1 ≤ l4 then pm_Run d 113 45 [vA t, vA c, vA b, vI l3, vI l4, l5] [] (GF X, M, PTF v) K else pm_Run d 113 17 [vA t, vA c, vA b, vI l3, vI l4, l5] [] (GF X, M, PTF v) K := by
  refine (px_go (by decide +kernel : pm_fe 113 8 = some (.iload 4, 2)) rfl).trans ?_
  refine (px_go (by decide +kernel : pm_fe 113 10 = some (.aload_n 1, 1)) rfl).trans ?_
  refine (ry_get0 (idx := 24) (ci := 1) (k := 1) (chs0 hc) (by decide +kernel)).trans ?_
  refine (ry_ic_ge (off := 31) (tgt := 45) h1 h2 (by decide +kernel)).trans ?_
  exact Iff.rfl
theorem r113_17 {d : Nat} {b c t : Nat} {X : Nat × (Nat → Int)} {v : Nat → Int} {M : PH} {K : PV → PS → Prop} {l3 l4 : Int} {l5 : PV} (hb : isMo b) : pm_Run d 113 17 [vA t, vA c, vA b, vI l3, vI l4, l5] [] (GF X, M, PTF v) K ↔ pm_Call d 58 [vA b, vI l4] (GF X, M, PTF v) (fun r9 S1 => pm_Run d 113 23 [vA t, vA c, vA b, vI l3, vI l4, l5] (pm_push r9 []) S1 K) := by
  refine (px_go (by decide +kernel : pm_fe 113 17 = some (.aload_n 2, 1)) rfl).trans ?_
  refine (px_go (by decide +kernel : pm_fe 113 18 = some (.iload 4, 2)) rfl).trans ?_
  refine (ry_v1 (idx := 30) (m' := 58) (ci := 5) (mos0 hb) (by simp [pm_wl_n, pm_wl_c, pm_w] : pm_wl [] ≤ 8) (by decide +kernel)).trans ?_
  exact Iff.rfl
theorem r113_23 {d : Nat} {b c t : Nat} {X : Nat × (Nat → Int)} {v : Nat → Int} {M : PH} {K : PV → PS → Prop} {l3 l4 s0 : Int} {l5 : PV} (ht : isTi t) : pm_Run d 113 23 [vA t, vA c, vA b, vI l3, vI l4, l5] [vI s0] (GF X, M, PTF v) K ↔ pm_Call d 114 [vA t, vA c, vA b, vI l4, vI s0, vI (l3 - s0)] (GF X, M, PTF v) (fun r9 S1 => pm_Run d 113 39 [vA t, vA c, vA b, vI l3, vI l4, vI s0] (pm_push r9 []) S1 K) := by
  refine (px_go (by decide +kernel : pm_fe 113 23 = some (.istore 5, 2)) rfl).trans ?_
  refine (px_go (by decide +kernel : pm_fe 113 25 = some (.aload_n 0, 1)) rfl).trans ?_
  refine (px_go (by decide +kernel : pm_fe 113 26 = some (.aload_n 1, 1)) rfl).trans ?_
  refine (px_go (by decide +kernel : pm_fe 113 27 = some (.aload_n 2, 1)) rfl).trans ?_
  refine (px_go (by decide +kernel : pm_fe 113 28 = some (.iload 4, 2)) rfl).trans ?_
  refine (px_go (by decide +kernel : pm_fe 113 30 = some (.iload 5, 2)) rfl).trans ?_
  refine (px_go (by decide +kernel : pm_fe 113 32 = some (.iload_n 3, 1)) rfl).trans ?_
  refine (px_go (by decide +kernel : pm_fe 113 33 = some (.iload 5, 2)) rfl).trans ?_
  refine (px_go (by decide +kernel : pm_fe 113 35 = some (.isub, 1)) rfl).trans ?_
  refine (ry_v5 (idx := 34) (m' := 114) (ci := 9) (tis0 ht) (by simp [pm_wl_n, pm_wl_c, pm_w] : pm_wl [] ≤ 8) (by decide +kernel)).trans ?_
  exact Iff.rfl
theorem r113_39 {d : Nat} {b c t : Nat} {X : Nat × (Nat → Int)} {v : Nat → Int} {M : PH} {K : PV → PS → Prop} {l3 l4 l5 : Int} : pm_Run d 113 39 [vA t, vA c, vA b, vI l3, vI l4, vI l5] [] (GF X, M, PTF v) K ↔ pm_Run d 113 8 [vA t, vA c, vA b, vI l3, vI (l4 + 1), vI l5] [] (GF X, M, PTF v) K := by
  refine (px_go (by decide +kernel : pm_fe 113 39 = some (.iinc 4 1, 3)) rfl).trans ?_
  refine (px_goto (off := (-34)) (tgt := 8) (by decide +kernel)).trans ?_
  exact Iff.rfl
theorem r113_45 {d : Nat} {b c t : Nat} {X : Nat × (Nat → Int)} {v : Nat → Int} {M : PH} {K : PV → PS → Prop} {l3 l4 : Int} {l5 : PV} (ht : isTi t) : pm_Run d 113 45 [vA t, vA c, vA b, vI l3, vI l4, l5] [] (GF X, M, PTF v) K ↔ pm_Call d 116 [vA t, vA c] (GF X, M, PTF v) (fun r9 S1 => pm_Run d 113 50 [vA t, vA c, vA b, vI l3, vI l4, l5] (pm_push r9 []) S1 K) := by
  refine (px_go (by decide +kernel : pm_fe 113 45 = some (.aload_n 0, 1)) rfl).trans ?_
  refine (px_go (by decide +kernel : pm_fe 113 46 = some (.aload_n 1, 1)) rfl).trans ?_
  refine (ry_v1 (idx := 38) (m' := 116) (ci := 9) (tis0 ht) (by simp [pm_wl_n, pm_wl_c, pm_w] : pm_wl [] ≤ 8) (by decide +kernel)).trans ?_
  exact Iff.rfl
theorem r113_50 {d : Nat} {b c t : Nat} {X : Nat × (Nat → Int)} {v : Nat → Int} {M : PH} {K : PV → PS → Prop} {l3 l4 : Int} {l5 : PV} : pm_Run d 113 50 [vA t, vA c, vA b, vI l3, vI l4, l5] [] (GF X, M, PTF v) K ↔ K PU (GF X, M, PTF v) := by
  refine (px_rv (by decide +kernel)).trans ?_
  exact Iff.rfl
-- X9_fillPulls fillPulls(LMoonTender$Chart;LMoonTender$Moment;III)V
theorem r114_0 {d : Nat} {b c t : Nat} {X : Nat × (Nat → Int)} {v : Nat → Int} {M : PH} {K : PV → PS → Prop} {l3 l4 l5 : Int} : pm_Run d 114 0 [vA t, vA c, vA b, vI l3, vI l4, vI l5, PU, PU, PU, PU, PU, PU, PU, PU, PU] [] (GF X, M, PTF v) K ↔ pm_Call d 118 [vA c, vA b, vI l3, vI l4, vI l5] (GF X, M, PTF v) (fun r9 S1 => pm_Run d 114 10 [vA t, vA c, vA b, vI l3, vI l4, vI l5, PU, PU, PU, PU, PU, PU, PU, PU, PU] (pm_push r9 []) S1 K) := by
  refine (px_go (by decide +kernel : pm_fe 114 0 = some (.aload_n 1, 1)) rfl).trans ?_
  refine (px_go (by decide +kernel : pm_fe 114 1 = some (.aload_n 2, 1)) rfl).trans ?_
  refine (px_go (by decide +kernel : pm_fe 114 2 = some (.iload_n 3, 1)) rfl).trans ?_
  refine (px_go (by decide +kernel : pm_fe 114 3 = some (.iload 4, 2)) rfl).trans ?_
  refine (px_go (by decide +kernel : pm_fe 114 5 = some (.iload 5, 2)) rfl).trans ?_
  refine (px_s5 (idx := 42) (m' := 118) (nest := 0) (by decide +kernel)).trans ((and_iff_right (by simp [pm_wl_n, pm_wl_c, pm_w] : pm_wl [] ≤ 8)).trans ?_)
  exact Iff.rfl
theorem r114_10 {d : Nat} {b c t : Nat} {X : Nat × (Nat → Int)} {v : Nat → Int} {M : PH} {K : PV → PS → Prop} {l3 l4 l5 : Int} (hc : isCh c) : pm_Run d 114 10 [vA t, vA c, vA b, vI l3, vI l4, vI l5, PU, PU, PU, PU, PU, PU, PU, PU, PU] [] (GF X, M, PTF v) K ↔ pm_Call d 45 [vA (c + 15), vI 0, vI 22] (GF X, M, PTF v) (fun r9 S1 => pm_Run d 114 24 [vA t, vA c, vA b, vI l3, vI l4, vI l5, vA (c + 15), PU, PU, PU, PU, PU, PU, PU, PU] (pm_push r9 []) S1 K) := by
  refine (px_go (by decide +kernel : pm_fe 114 10 = some (.aload_n 1, 1)) rfl).trans ?_
  refine (ry_get2 (idx := 45) (ci := 1) (k := 17) (chs0 hc) (chp0_17 hc) (by decide +kernel)).trans ?_
  refine (px_go (by decide +kernel : pm_fe 114 14 = some (.astore 6, 2)) rfl).trans ?_
  refine (px_go (by decide +kernel : pm_fe 114 16 = some (.aload 6, 2)) rfl).trans ?_
  refine (px_go (by decide +kernel : pm_fe 114 18 = some (.iconst 0, 1)) rfl).trans ?_
  refine (px_go (by decide +kernel : pm_fe 114 19 = some (.bipush 22, 2)) rfl).trans ?_
  refine (ry_v2 (idx := 51) (m' := 45) (ci := 3) (chs15 hc) (by simp [pm_wl_n, pm_wl_c, pm_w] : pm_wl [] ≤ 8) (by decide +kernel)).trans ?_
  exact Iff.rfl
theorem r114_24 {d : Nat} {b c t : Nat} {X : Nat × (Nat → Int)} {v : Nat → Int} {M : PH} {K : PV → PS → Prop} {l3 l4 l5 s0 : Int} (h1 : inR s0) : pm_Run d 114 24 [vA t, vA c, vA b, vI l3, vI l4, vI l5, vA (c + 15), PU, PU, PU, PU, PU, PU, PU, PU] [vI s0] (GF X, M, PTF v) K ↔ if s0 ≠ 0 then pm_Run d 114 42 [vA t, vA c, vA b, vI l3, vI l4, vI l5, vA (c + 15), vI s0, PU, PU, PU, PU, PU, PU, PU] [] (GF X, M, PTF v) K else pm_Run d 114 31 [vA t, vA c, vA b, vI l3, vI l4, vI l5, vA (c + 15), vI s0, PU, PU, PU, PU, PU, PU, PU] [] (GF X, M, PTF v) K := by
  refine (px_go (by decide +kernel : pm_fe 114 24 = some (.istore 7, 2)) rfl).trans ?_
  refine (px_go (by decide +kernel : pm_fe 114 26 = some (.iload 7, 2)) rfl).trans ?_
  refine (ry_if_ne (off := 14) (tgt := 42) h1 (by decide +kernel)).trans ?_
  exact Iff.rfl
theorem r114_31 {d : Nat} {b c t : Nat} {X : Nat × (Nat → Int)} {v : Nat → Int} {M : PH} {K : PV → PS → Prop} {l3 l4 l5 l7 : Int} (hc : isCh c) : pm_Run d 114 31 [vA t, vA c, vA b, vI l3, vI l4, vI l5, vA (c + 15), vI l7, PU, PU, PU, PU, PU, PU, PU] [] (GF X, M, PTF v) K ↔ pm_Call d 45 [vA (c + 15), vI 0, vI 18] (GF X, M, PTF v) (fun r9 S1 => pm_Run d 114 39 [vA t, vA c, vA b, vI l3, vI l4, vI l5, vA (c + 15), vI l7, PU, PU, PU, PU, PU, PU, PU] (pm_push r9 []) S1 K) := by
  refine (px_go (by decide +kernel : pm_fe 114 31 = some (.aload 6, 2)) rfl).trans ?_
  refine (px_go (by decide +kernel : pm_fe 114 33 = some (.iconst 0, 1)) rfl).trans ?_
  refine (px_go (by decide +kernel : pm_fe 114 34 = some (.bipush 18, 2)) rfl).trans ?_
  refine (ry_v2 (idx := 51) (m' := 45) (ci := 3) (chs15 hc) (by simp [pm_wl_n, pm_wl_c, pm_w] : pm_wl [] ≤ 8) (by decide +kernel)).trans ?_
  exact Iff.rfl
theorem r114_39 {d : Nat} {b c t : Nat} {X : Nat × (Nat → Int)} {v : Nat → Int} {M : PH} {K : PV → PS → Prop} {l3 l4 l5 l7 s0 : Int} (h1 : inR s0) : pm_Run d 114 39 [vA t, vA c, vA b, vI l3, vI l4, vI l5, vA (c + 15), vI l7, PU, PU, PU, PU, PU, PU, PU] [vI s0] (GF X, M, PTF v) K ↔ if s0 = 0 then pm_Run d 114 46 [vA t, vA c, vA b, vI l3, vI l4, vI l5, vA (c + 15), vI l7, PU, PU, PU, PU, PU, PU, PU] [] (GF X, M, PTF v) K else pm_Run d 114 42 [vA t, vA c, vA b, vI l3, vI l4, vI l5, vA (c + 15), vI l7, PU, PU, PU, PU, PU, PU, PU] [] (GF X, M, PTF v) K := by
  refine (ry_if_eq (off := 7) (tgt := 46) h1 (by decide +kernel)).trans ?_
  exact Iff.rfl
theorem r114_42 {d : Nat} {b c t : Nat} {X : Nat × (Nat → Int)} {v : Nat → Int} {M : PH} {K : PV → PS → Prop} {l3 l4 l5 l7 : Int} : pm_Run d 114 42 [vA t, vA c, vA b, vI l3, vI l4, vI l5, vA (c + 15), vI l7, PU, PU, PU, PU, PU, PU, PU] [] (GF X, M, PTF v) K ↔ pm_Run d 114 47 [vA t, vA c, vA b, vI l3, vI l4, vI l5, vA (c + 15), vI l7, PU, PU, PU, PU, PU, PU, PU] [vI 1] (GF X, M, PTF v) K := by
  refine (px_go (by decide +kernel : pm_fe 114 42 = some (.iconst 1, 1)) rfl).trans ?_
  refine (px_goto (off := 4) (tgt := 47) (by decide +kernel)).trans ?_
  exact Iff.rfl
theorem r114_46 {d : Nat} {b c t : Nat} {X : Nat × (Nat → Int)} {v : Nat → Int} {M : PH} {K : PV → PS → Prop} {l3 l4 l5 l7 : Int} : pm_Run d 114 46 [vA t, vA c, vA b, vI l3, vI l4, vI l5, vA (c + 15), vI l7, PU, PU, PU, PU, PU, PU, PU] [] (GF X, M, PTF v) K ↔ pm_Run d 114 47 [vA t, vA c, vA b, vI l3, vI l4, vI l5, vA (c + 15), vI l7, PU, PU, PU, PU, PU, PU, PU] [vI 0] (GF X, M, PTF v) K := by
  refine (px_go (by decide +kernel : pm_fe 114 46 = some (.iconst 0, 1)) rfl).trans ?_
  exact Iff.rfl
theorem r114_47 {d : Nat} {b c t : Nat} {X : Nat × (Nat → Int)} {v : Nat → Int} {M : PH} {K : PV → PS → Prop} {l3 l4 l5 l7 s0 : Int} (hb : isMo b) (h1 : 0 ≤ l3) (h2 : l3 < 3) (h3 : inR l7) : pm_Run d 114 47 [vA t, vA c, vA b, vI l3, vI l4, vI l5, vA (c + 15), vI l7, PU, PU, PU, PU, PU, PU, PU] [vI s0] (GF X, M, PTF v) K ↔ if l7 = 0 then pm_Run d 114 80 [vA t, vA c, vA b, vI l3, vI l4, vI l5, vA (c + 15), vI l7, vI s0, vI (l3 * 24), vI (M (b + 1) l3.toNat), vI 0, PU, PU, PU] [] (GF X, M, PTF v) K else pm_Run d 114 71 [vA t, vA c, vA b, vI l3, vI l4, vI l5, vA (c + 15), vI l7, vI s0, vI (l3 * 24), vI (M (b + 1) l3.toNat), vI 0, PU, PU, PU] [] (GF X, M, PTF v) K := by
  refine (px_go (by decide +kernel : pm_fe 114 47 = some (.istore 8, 2)) rfl).trans ?_
  refine (px_go (by decide +kernel : pm_fe 114 49 = some (.iload_n 3, 1)) rfl).trans ?_
  refine (px_go (by decide +kernel : pm_fe 114 50 = some (.bipush 24, 2)) rfl).trans ?_
  refine (px_go (by decide +kernel : pm_fe 114 52 = some (.imul, 1)) rfl).trans ?_
  refine (px_go (by decide +kernel : pm_fe 114 53 = some (.istore 9, 2)) rfl).trans ?_
  refine (px_go (by decide +kernel : pm_fe 114 55 = some (.aload_n 2, 1)) rfl).trans ?_
  refine (ry_get2 (idx := 55) (ci := 5) (k := 1) (mos0 hb) (mop1 hb) (by decide +kernel)).trans ?_
  refine (px_go (by decide +kernel : pm_fe 114 59 = some (.iload_n 3, 1)) rfl).trans ?_
  refine (ry_iald (mos1 hb) h1 h2 (by decide +kernel)).trans ?_
  refine (px_go (by decide +kernel : pm_fe 114 61 = some (.istore 10, 2)) rfl).trans ?_
  refine (px_go (by decide +kernel : pm_fe 114 63 = some (.iconst 0, 1)) rfl).trans ?_
  refine (px_go (by decide +kernel : pm_fe 114 64 = some (.istore 11, 2)) rfl).trans ?_
  refine (px_go (by decide +kernel : pm_fe 114 66 = some (.iload 7, 2)) rfl).trans ?_
  refine (ry_if_eq (off := 12) (tgt := 80) h3 (by decide +kernel)).trans ?_
  exact Iff.rfl
theorem r114_71 {d : Nat} {b c t : Nat} {X : Nat × (Nat → Int)} {v : Nat → Int} {M : PH} {K : PV → PS → Prop} {l10 l11 l3 l4 l5 l7 l8 l9 : Int} (hc : isCh c) : pm_Run d 114 71 [vA t, vA c, vA b, vI l3, vI l4, vI l5, vA (c + 15), vI l7, vI l8, vI l9, vI l10, vI l11, PU, PU, PU] [] (GF X, M, PTF v) K ↔ pm_Run d 114 86 [vA t, vA c, vA b, vI l3, vI l4, vI l5, vA (c + 15), vI l7, vI l8, vI l9, vI l10, vI l11, PU, PU, PU] [vI ((M c 0) - 1)] (GF X, M, PTF v) K := by
  refine (px_go (by decide +kernel : pm_fe 114 71 = some (.aload_n 1, 1)) rfl).trans ?_
  refine (ry_get0 (idx := 58) (ci := 1) (k := 0) (chs0 hc) (by decide +kernel)).trans ?_
  refine (px_go (by decide +kernel : pm_fe 114 75 = some (.iconst 1, 1)) rfl).trans ?_
  refine (px_go (by decide +kernel : pm_fe 114 76 = some (.isub, 1)) rfl).trans ?_
  refine (px_goto (off := 9) (tgt := 86) (by decide +kernel)).trans ?_
  exact Iff.rfl
theorem r114_80 {d : Nat} {b c t : Nat} {X : Nat × (Nat → Int)} {v : Nat → Int} {M : PH} {K : PV → PS → Prop} {l10 l11 l3 l4 l5 l7 l8 l9 : Int} (hc : isCh c) (h1 : inR (M c 0)) : pm_Run d 114 80 [vA t, vA c, vA b, vI l3, vI l4, vI l5, vA (c + 15), vI l7, vI l8, vI l9, vI l10, vI l11, PU, PU, PU] [] (GF X, M, PTF v) K ↔ pm_Run d 114 86 [vA t, vA c, vA b, vI l3, vI l4, vI l5, vA (c + 15), vI l7, vI l8, vI l9, vI l10, vI l11, PU, PU, PU] [vI ((M c 0).tdiv 2)] (GF X, M, PTF v) K := by
  refine (px_go (by decide +kernel : pm_fe 114 80 = some (.aload_n 1, 1)) rfl).trans ?_
  refine (ry_get0 (idx := 58) (ci := 1) (k := 0) (chs0 hc) (by decide +kernel)).trans ?_
  refine (px_go (by decide +kernel : pm_fe 114 84 = some (.iconst 2, 1)) rfl).trans ?_
  refine (ry_idiv h1 (by decide : (-2147483648 ≤ (2 : Int) ∧ (2 : Int) < 2147483648)) (by decide : (2 : Int) ≠ (0 : Int)) (by decide +kernel)).trans ?_
  exact Iff.rfl
theorem r114_86 {d : Nat} {b c t : Nat} {X : Nat × (Nat → Int)} {v : Nat → Int} {M : PH} {K : PV → PS → Prop} {l10 l11 l3 l4 l5 l7 l8 l9 s0 : Int} : pm_Run d 114 86 [vA t, vA c, vA b, vI l3, vI l4, vI l5, vA (c + 15), vI l7, vI l8, vI l9, vI l10, vI l11, PU, PU, PU] [vI s0] (GF X, M, PTF v) K ↔ pm_Run d 114 91 [vA t, vA c, vA b, vI l3, vI l4, vI l5, vA (c + 15), vI l7, vI l8, vI l9, vI l10, vI l11, vI s0, vI 0, PU] [] (GF X, M, PTF v) K := by
  refine (px_go (by decide +kernel : pm_fe 114 86 = some (.istore 12, 2)) rfl).trans ?_
  refine (px_go (by decide +kernel : pm_fe 114 88 = some (.iconst 0, 1)) rfl).trans ?_
  refine (px_go (by decide +kernel : pm_fe 114 89 = some (.istore 13, 2)) rfl).trans ?_
  exact Iff.rfl
theorem r114_91 {d : Nat} {b c t : Nat} {X : Nat × (Nat → Int)} {v : Nat → Int} {M : PH} {K : PV → PS → Prop} {l10 l11 l12 l13 l3 l4 l5 l7 l8 l9 : Int} {l14 : PV} (h1 : inR l13) (h2 : inR l12) : pm_Run d 114 91 [vA t, vA c, vA b, vI l3, vI l4, vI l5, vA (c + 15), vI l7, vI l8, vI l9, vI l10, vI l11, vI l12, vI l13, l14] [] (GF X, M, PTF v) K ↔ if l12 < l13 then pm_Run d 114 220 [vA t, vA c, vA b, vI l3, vI l4, vI l5, vA (c + 15), vI l7, vI l8, vI l9, vI l10, vI l11, vI l12, vI l13, l14] [] (GF X, M, PTF v) K else pm_Run d 114 98 [vA t, vA c, vA b, vI l3, vI l4, vI l5, vA (c + 15), vI l7, vI l8, vI l9, vI l10, vI l11, vI l12, vI l13, l14] [] (GF X, M, PTF v) K := by
  refine (px_go (by decide +kernel : pm_fe 114 91 = some (.iload 13, 2)) rfl).trans ?_
  refine (px_go (by decide +kernel : pm_fe 114 93 = some (.iload 12, 2)) rfl).trans ?_
  refine (ry_ic_gt (off := 125) (tgt := 220) h1 h2 (by decide +kernel)).trans ?_
  exact Iff.rfl
theorem r114_98 {d : Nat} {b c t : Nat} {X : Nat × (Nat → Int)} {v : Nat → Int} {M : PH} {K : PV → PS → Prop} {l10 l11 l12 l13 l3 l4 l5 l7 l8 l9 : Int} {l14 : PV} (hc : isCh c) (h1 : inR (M c 0)) : pm_Run d 114 98 [vA t, vA c, vA b, vI l3, vI l4, vI l5, vA (c + 15), vI l7, vI l8, vI l9, vI l10, vI l11, vI l12, vI l13, l14] [] (GF X, M, PTF v) K ↔ if M c 0 ≤ 0 then pm_Run d 114 220 [vA t, vA c, vA b, vI l3, vI l4, vI l5, vA (c + 15), vI l7, vI l8, vI l9, vI l10, vI l11, vI l12, vI l13, l14] [] (GF X, M, PTF v) K else pm_Run d 114 105 [vA t, vA c, vA b, vI l3, vI l4, vI l5, vA (c + 15), vI l7, vI l8, vI l9, vI l10, vI l11, vI l12, vI l13, l14] [] (GF X, M, PTF v) K := by
  refine (px_go (by decide +kernel : pm_fe 114 98 = some (.aload_n 1, 1)) rfl).trans ?_
  refine (ry_get0 (idx := 58) (ci := 1) (k := 0) (chs0 hc) (by decide +kernel)).trans ?_
  refine (ry_if_le (off := 118) (tgt := 220) h1 (by decide +kernel)).trans ?_
  exact Iff.rfl
theorem r114_105 {d : Nat} {b c t : Nat} {X : Nat × (Nat → Int)} {v : Nat → Int} {M : PH} {K : PV → PS → Prop} {l10 l11 l12 l13 l3 l4 l5 l7 l8 l9 : Int} {l14 : PV} (hc : isCh c) (h1 : inR (l10 + l13)) (h2 : inR (M c 0)) (h3 : (M c 0) ≠ 0) (h4 : inR l8) : pm_Run d 114 105 [vA t, vA c, vA b, vI l3, vI l4, vI l5, vA (c + 15), vI l7, vI l8, vI l9, vI l10, vI l11, vI l12, vI l13, l14] [] (GF X, M, PTF v) K ↔ if l8 ≠ 0 then pm_Run d 114 127 [vA t, vA c, vA b, vI l3, vI l4, vI l5, vA (c + 15), vI l7, vI l8, vI l9, vI l10, vI l11, vI l12, vI l13, vI ((l10 + l13).tmod (M c 0))] [] (GF X, M, PTF v) K else pm_Run d 114 122 [vA t, vA c, vA b, vI l3, vI l4, vI l5, vA (c + 15), vI l7, vI l8, vI l9, vI l10, vI l11, vI l12, vI l13, vI ((l10 + l13).tmod (M c 0))] [] (GF X, M, PTF v) K := by
  refine (px_go (by decide +kernel : pm_fe 114 105 = some (.iload 10, 2)) rfl).trans ?_
  refine (px_go (by decide +kernel : pm_fe 114 107 = some (.iload 13, 2)) rfl).trans ?_
  refine (px_go (by decide +kernel : pm_fe 114 109 = some (.iadd, 1)) rfl).trans ?_
  refine (px_go (by decide +kernel : pm_fe 114 110 = some (.aload_n 1, 1)) rfl).trans ?_
  refine (ry_get0 (idx := 58) (ci := 1) (k := 0) (chs0 hc) (by decide +kernel)).trans ?_
  refine (ry_irem h1 h2 h3 (by decide +kernel)).trans ?_
  refine (px_go (by decide +kernel : pm_fe 114 115 = some (.istore 14, 2)) rfl).trans ?_
  refine (px_go (by decide +kernel : pm_fe 114 117 = some (.iload 8, 2)) rfl).trans ?_
  refine (ry_if_ne (off := 8) (tgt := 127) h4 (by decide +kernel)).trans ?_
  exact Iff.rfl
theorem r114_122 {d : Nat} {b c t : Nat} {X : Nat × (Nat → Int)} {v : Nat → Int} {M : PH} {K : PV → PS → Prop} {l10 l11 l12 l13 l14 l3 l4 l5 l7 l8 l9 : Int} (h1 : inR l13) : pm_Run d 114 122 [vA t, vA c, vA b, vI l3, vI l4, vI l5, vA (c + 15), vI l7, vI l8, vI l9, vI l10, vI l11, vI l12, vI l13, vI l14] [] (GF X, M, PTF v) K ↔ if l13 ≠ 0 then pm_Run d 114 172 [vA t, vA c, vA b, vI l3, vI l4, vI l5, vA (c + 15), vI l7, vI l8, vI l9, vI l10, vI l11, vI l12, vI l13, vI l14] [] (GF X, M, PTF v) K else pm_Run d 114 127 [vA t, vA c, vA b, vI l3, vI l4, vI l5, vA (c + 15), vI l7, vI l8, vI l9, vI l10, vI l11, vI l12, vI l13, vI l14] [] (GF X, M, PTF v) K := by
  refine (px_go (by decide +kernel : pm_fe 114 122 = some (.iload 13, 2)) rfl).trans ?_
  refine (ry_if_ne (off := 48) (tgt := 172) h1 (by decide +kernel)).trans ?_
  exact Iff.rfl
theorem r114_127 {d : Nat} {b c t : Nat} {X : Nat × (Nat → Int)} {v : Nat → Int} {M : PH} {K : PV → PS → Prop} {l10 l11 l12 l13 l14 l3 l4 l5 l7 l8 l9 : Int} (hc : isCh c) (h1 : inR l13) (h2 : inR ((M c 0) - l13)) : pm_Run d 114 127 [vA t, vA c, vA b, vI l3, vI l4, vI l5, vA (c + 15), vI l7, vI l8, vI l9, vI l10, vI l11, vI l12, vI l13, vI l14] [] (GF X, M, PTF v) K ↔ pm_Run d 114 147 [vA t, vA c, vA b, vI l3, vI l4, vI l5, vA (c + 15), vI l7, vI l8, vI l9, vI l10, vI l11, vI l12, vI l13, vI l14] [] (GF X, pm_sa M (c + 20) (pm_up (M (c + 20)) 18 (min l13 ((M c 0) - l13))), PTF v) K := by
  refine (px_go (by decide +kernel : pm_fe 114 127 = some (.aload 6, 2)) rfl).trans ?_
  refine (ry_get2 (idx := 61) (ci := 3) (k := 4) (chs15 hc) (chp15_4 hc) (by decide +kernel)).trans ?_
  refine (px_go (by decide +kernel : pm_fe 114 132 = some (.bipush 18, 2)) rfl).trans ?_
  refine (px_go (by decide +kernel : pm_fe 114 134 = some (.iload 13, 2)) rfl).trans ?_
  refine (px_go (by decide +kernel : pm_fe 114 136 = some (.aload_n 1, 1)) rfl).trans ?_
  refine (ry_get0 (idx := 58) (ci := 1) (k := 0) (chs0 hc) (by decide +kernel)).trans ?_
  refine (px_go (by decide +kernel : pm_fe 114 140 = some (.iload 13, 2)) rfl).trans ?_
  refine (px_go (by decide +kernel : pm_fe 114 142 = some (.isub, 1)) rfl).trans ?_
  refine (ry_mn (idx := 64) h1 h2 (by simp [pm_wl_n, pm_wl_c, pm_w] : pm_wl [vI 18, vA (c + 20)] ≤ 8) (by decide +kernel)).trans ?_
  refine (ry_iast (chs20 hc) (by decide : (0 : Int) ≤ (18 : Int)) (by decide : (18 : Int) < (29 : Int)) (by decide +kernel)).trans ?_
  exact Iff.rfl
theorem r114_147 {d : Nat} {b c t : Nat} {X : Nat × (Nat → Int)} {v : Nat → Int} {M : PH} {K : PV → PS → Prop} {l10 l11 l12 l13 l14 l3 l4 l5 l7 l8 l9 : Int} (hc : isCh c) : pm_Run d 114 147 [vA t, vA c, vA b, vI l3, vI l4, vI l5, vA (c + 15), vI l7, vI l8, vI l9, vI l10, vI l11, vI l12, vI l13, vI l14] [] (GF X, M, PTF v) K ↔ pm_Run d 114 157 [vA t, vA c, vA b, vI l3, vI l4, vI l5, vA (c + 15), vI l7, vI l8, vI l9, vI l10, vI l11, vI l12, vI l13, vI l14] [] (GF X, pm_sa M (c + 20) (pm_up (M (c + 20)) 22 l14), PTF v) K := by
  refine (px_go (by decide +kernel : pm_fe 114 147 = some (.aload 6, 2)) rfl).trans ?_
  refine (ry_get2 (idx := 61) (ci := 3) (k := 4) (chs15 hc) (chp15_4 hc) (by decide +kernel)).trans ?_
  refine (px_go (by decide +kernel : pm_fe 114 152 = some (.bipush 22, 2)) rfl).trans ?_
  refine (px_go (by decide +kernel : pm_fe 114 154 = some (.iload 14, 2)) rfl).trans ?_
  refine (ry_iast (chs20 hc) (by decide : (0 : Int) ≤ (22 : Int)) (by decide : (22 : Int) < (29 : Int)) (by decide +kernel)).trans ?_
  exact Iff.rfl
theorem r114_157 {d : Nat} {b c t : Nat} {X : Nat × (Nat → Int)} {v : Nat → Int} {M : PH} {K : PV → PS → Prop} {l10 l11 l12 l13 l14 l3 l4 l5 l7 l8 l9 : Int} (hc : isCh c) : pm_Run d 114 157 [vA t, vA c, vA b, vI l3, vI l4, vI l5, vA (c + 15), vI l7, vI l8, vI l9, vI l10, vI l11, vI l12, vI l13, vI l14] [] (GF X, M, PTF v) K ↔ pm_Call d 46 [vA (c + 15), vI 0] (GF X, M, PTF v) (fun r9 S1 => pm_Run d 114 165 [vA t, vA c, vA b, vI l3, vI l4, vI l5, vA (c + 15), vI l7, vI l8, vI l9, vI l10, vI l11, vI l12, vI l13, vI l14] (pm_push r9 [vI (-99)]) S1 K) := by
  refine (px_go (by decide +kernel : pm_fe 114 157 = some (.bipush (-99), 2)) rfl).trans ?_
  refine (px_go (by decide +kernel : pm_fe 114 159 = some (.aload 6, 2)) rfl).trans ?_
  refine (px_go (by decide +kernel : pm_fe 114 161 = some (.iconst 0, 1)) rfl).trans ?_
  refine (ry_v1 (idx := 70) (m' := 46) (ci := 3) (chs15 hc) (by simp [pm_wl_n, pm_wl_c, pm_w] : pm_wl [vI (-99)] ≤ 8) (by decide +kernel)).trans ?_
  exact Iff.rfl
theorem r114_165 {d : Nat} {b c t : Nat} {X : Nat × (Nat → Int)} {v : Nat → Int} {M : PH} {K : PV → PS → Prop} {l10 l11 l12 l13 l14 l3 l4 l5 l7 l8 l9 s0 s1 : Int} : pm_Run d 114 165 [vA t, vA c, vA b, vI l3, vI l4, vI l5, vA (c + 15), vI l7, vI l8, vI l9, vI l10, vI l11, vI l12, vI l13, vI l14] [vI s0, vI s1] (GF X, M, PTF v) K ↔ pm_Call d 177 [vI s1, vI s0, vI 99] (GF X, M, PTF v) (fun r9 S1 => pm_Run d 114 170 [vA t, vA c, vA b, vI l3, vI l4, vI l5, vA (c + 15), vI l7, vI l8, vI l9, vI l10, vI l11, vI l12, vI l13, vI l14] (pm_push r9 []) S1 K) := by
  refine (px_go (by decide +kernel : pm_fe 114 165 = some (.bipush 99, 2)) rfl).trans ?_
  refine (px_s3 (idx := 73) (m' := 177) (nest := 1) (by decide +kernel)).trans ((and_iff_right (by simp [pm_wl_n, pm_wl_c, pm_w] : pm_wl [] ≤ 8)).trans ?_)
  exact Iff.rfl
theorem r114_170 {d : Nat} {b c t : Nat} {X : Nat × (Nat → Int)} {v : Nat → Int} {M : PH} {K : PV → PS → Prop} {l10 l11 l12 l13 l14 l3 l4 l5 l7 l8 l9 s0 : Int} : pm_Run d 114 170 [vA t, vA c, vA b, vI l3, vI l4, vI l5, vA (c + 15), vI l7, vI l8, vI l9, vI l10, vI l11, vI l12, vI l13, vI l14] [vI s0] (GF X, M, PTF v) K ↔ pm_Run d 114 172 [vA t, vA c, vA b, vI l3, vI l4, vI l5, vA (c + 15), vI l7, vI l8, vI l9, vI l10, vI s0, vI l12, vI l13, vI l14] [] (GF X, M, PTF v) K := by
  refine (px_go (by decide +kernel : pm_fe 114 170 = some (.istore 11, 2)) rfl).trans ?_
  exact Iff.rfl
theorem r114_172 {d : Nat} {b c t : Nat} {X : Nat × (Nat → Int)} {v : Nat → Int} {M : PH} {K : PV → PS → Prop} {l10 l11 l12 l13 l14 l3 l4 l5 l7 l8 l9 : Int} (ht : isTi t) (h1 : 0 ≤ (l9 + l14)) (h2 : (l9 + l14) < 72) : pm_Run d 114 172 [vA t, vA c, vA b, vI l3, vI l4, vI l5, vA (c + 15), vI l7, vI l8, vI l9, vI l10, vI l11, vI l12, vI l13, vI l14] [] (GF X, M, PTF v) K ↔ pm_Run d 114 184 [vA t, vA c, vA b, vI l3, vI l4, vI l5, vA (c + 15), vI l7, vI l8, vI l9, vI l10, vI l11, vI l12, vI l13, vI l14] [] (GF X, pm_sa M (t + 1) (pm_up (M (t + 1)) (l9 + l14).toNat l11), PTF v) K := by
  refine (px_go (by decide +kernel : pm_fe 114 172 = some (.aload_n 0, 1)) rfl).trans ?_
  refine (ry_get2 (idx := 9) (ci := 9) (k := 0) (tis0 ht) (tip0 ht) (by decide +kernel)).trans ?_
  refine (px_go (by decide +kernel : pm_fe 114 176 = some (.iload 9, 2)) rfl).trans ?_
  refine (px_go (by decide +kernel : pm_fe 114 178 = some (.iload 14, 2)) rfl).trans ?_
  refine (px_go (by decide +kernel : pm_fe 114 180 = some (.iadd, 1)) rfl).trans ?_
  refine (px_go (by decide +kernel : pm_fe 114 181 = some (.iload 11, 2)) rfl).trans ?_
  refine (ry_iast (tis1 ht) h1 h2 (by decide +kernel)).trans ?_
  exact Iff.rfl
theorem r114_184 {d : Nat} {b c t : Nat} {X : Nat × (Nat → Int)} {v : Nat → Int} {M : PH} {K : PV → PS → Prop} {l10 l11 l12 l13 l14 l3 l4 l5 l7 l8 l9 : Int} (h1 : inR l7) : pm_Run d 114 184 [vA t, vA c, vA b, vI l3, vI l4, vI l5, vA (c + 15), vI l7, vI l8, vI l9, vI l10, vI l11, vI l12, vI l13, vI l14] [] (GF X, M, PTF v) K ↔ if l7 ≠ 0 then pm_Run d 114 214 [vA t, vA c, vA b, vI l3, vI l4, vI l5, vA (c + 15), vI l7, vI l8, vI l9, vI l10, vI l11, vI l12, vI l13, vI l14] [] (GF X, M, PTF v) K else pm_Run d 114 189 [vA t, vA c, vA b, vI l3, vI l4, vI l5, vA (c + 15), vI l7, vI l8, vI l9, vI l10, vI l11, vI l12, vI l13, vI l14] [] (GF X, M, PTF v) K := by
  refine (px_go (by decide +kernel : pm_fe 114 184 = some (.iload 7, 2)) rfl).trans ?_
  refine (ry_if_ne (off := 28) (tgt := 214) h1 (by decide +kernel)).trans ?_
  exact Iff.rfl
theorem r114_189 {d : Nat} {b c t : Nat} {X : Nat × (Nat → Int)} {v : Nat → Int} {M : PH} {K : PV → PS → Prop} {l10 l11 l12 l13 l14 l3 l4 l5 l7 l8 l9 : Int} (hc : isCh c) (ht : isTi t) (h1 : inR ((l10 + (M c 0)) - l13)) (h2 : inR (M c 0)) (h3 : (M c 0) ≠ 0) (h4 : 0 ≤ (l9 + (((l10 + (M c 0)) - l13).tmod (M c 0)))) (h5 : (l9 + (((l10 + (M c 0)) - l13).tmod (M c 0))) < 72) : pm_Run d 114 189 [vA t, vA c, vA b, vI l3, vI l4, vI l5, vA (c + 15), vI l7, vI l8, vI l9, vI l10, vI l11, vI l12, vI l13, vI l14] [] (GF X, M, PTF v) K ↔ pm_Run d 114 214 [vA t, vA c, vA b, vI l3, vI l4, vI l5, vA (c + 15), vI l7, vI l8, vI l9, vI l10, vI l11, vI l12, vI l13, vI l14] [] (GF X, pm_sa M (t + 1) (pm_up (M (t + 1)) (l9 + (((l10 + (M c 0)) - l13).tmod (M c 0))).toNat l11), PTF v) K := by
  refine (px_go (by decide +kernel : pm_fe 114 189 = some (.aload_n 0, 1)) rfl).trans ?_
  refine (ry_get2 (idx := 9) (ci := 9) (k := 0) (tis0 ht) (tip0 ht) (by decide +kernel)).trans ?_
  refine (px_go (by decide +kernel : pm_fe 114 193 = some (.iload 9, 2)) rfl).trans ?_
  refine (px_go (by decide +kernel : pm_fe 114 195 = some (.iload 10, 2)) rfl).trans ?_
  refine (px_go (by decide +kernel : pm_fe 114 197 = some (.aload_n 1, 1)) rfl).trans ?_
  refine (ry_get0 (idx := 58) (ci := 1) (k := 0) (chs0 hc) (by decide +kernel)).trans ?_
  refine (px_go (by decide +kernel : pm_fe 114 201 = some (.iadd, 1)) rfl).trans ?_
  refine (px_go (by decide +kernel : pm_fe 114 202 = some (.iload 13, 2)) rfl).trans ?_
  refine (px_go (by decide +kernel : pm_fe 114 204 = some (.isub, 1)) rfl).trans ?_
  refine (px_go (by decide +kernel : pm_fe 114 205 = some (.aload_n 1, 1)) rfl).trans ?_
  refine (ry_get0 (idx := 58) (ci := 1) (k := 0) (chs0 hc) (by decide +kernel)).trans ?_
  refine (ry_irem h1 h2 h3 (by decide +kernel)).trans ?_
  refine (px_go (by decide +kernel : pm_fe 114 210 = some (.iadd, 1)) rfl).trans ?_
  refine (px_go (by decide +kernel : pm_fe 114 211 = some (.iload 11, 2)) rfl).trans ?_
  refine (ry_iast (tis1 ht) h4 h5 (by decide +kernel)).trans ?_
  exact Iff.rfl
theorem r114_214 {d : Nat} {b c t : Nat} {X : Nat × (Nat → Int)} {v : Nat → Int} {M : PH} {K : PV → PS → Prop} {l10 l11 l12 l13 l14 l3 l4 l5 l7 l8 l9 : Int} : pm_Run d 114 214 [vA t, vA c, vA b, vI l3, vI l4, vI l5, vA (c + 15), vI l7, vI l8, vI l9, vI l10, vI l11, vI l12, vI l13, vI l14] [] (GF X, M, PTF v) K ↔ pm_Run d 114 91 [vA t, vA c, vA b, vI l3, vI l4, vI l5, vA (c + 15), vI l7, vI l8, vI l9, vI l10, vI l11, vI l12, vI (l13 + 1), vI l14] [] (GF X, M, PTF v) K := by
  refine (px_go (by decide +kernel : pm_fe 114 214 = some (.iinc 13 1, 3)) rfl).trans ?_
  refine (px_goto (off := (-126)) (tgt := 91) (by decide +kernel)).trans ?_
  exact Iff.rfl
theorem r114_220 {d : Nat} {b c t : Nat} {X : Nat × (Nat → Int)} {v : Nat → Int} {M : PH} {K : PV → PS → Prop} {l10 l11 l12 l13 l3 l4 l5 l7 l8 l9 : Int} {l14 : PV} : pm_Run d 114 220 [vA t, vA c, vA b, vI l3, vI l4, vI l5, vA (c + 15), vI l7, vI l8, vI l9, vI l10, vI l11, vI l12, vI l13, l14] [] (GF X, M, PTF v) K ↔ K PU (GF X, M, PTF v) := by
  refine (px_rv (by decide +kernel)).trans ?_
  exact Iff.rfl
-- X9_totalOf totalOf(LMoonTender$Chart;I)I
theorem r115_0 {d : Nat} {c t : Nat} {X : Nat × (Nat → Int)} {v : Nat → Int} {M : PH} {K : PV → PS → Prop} {l2 : Int} : pm_Run d 115 0 [vA t, vA c, vI l2, PU, PU] [] (GF X, M, PTF v) K ↔ pm_Run d 115 5 [vA t, vA c, vI l2, vI 0, vI 0] [] (GF X, M, PTF v) K := by
  refine (px_go (by decide +kernel : pm_fe 115 0 = some (.iconst 0, 1)) rfl).trans ?_
  refine (px_go (by decide +kernel : pm_fe 115 1 = some (.istore_n 3, 1)) rfl).trans ?_
  refine (px_go (by decide +kernel : pm_fe 115 2 = some (.iconst 0, 1)) rfl).trans ?_
  refine (px_go (by decide +kernel : pm_fe 115 3 = some (.istore 4, 2)) rfl).trans ?_
  exact Iff.rfl
theorem r115_5 {d : Nat} {c t : Nat} {X : Nat × (Nat → Int)} {v : Nat → Int} {M : PH} {K : PV → PS → Prop} {l2 l3 l4 : Int} (hc : isCh c) (h1 : inR l4) (h2 : inR (M c 0)) : pm_Run d 115 5 [vA t, vA c, vI l2, vI l3, vI l4] [] (GF X, M, PTF v) K ↔ if M c 0 ≤ l4 then pm_Run d 115 35 [vA t, vA c, vI l2, vI l3, vI l4] [] (GF X, M, PTF v) K else pm_Run d 115 14 [vA t, vA c, vI l2, vI l3, vI l4] [] (GF X, M, PTF v) K := by
  refine (px_go (by decide +kernel : pm_fe 115 5 = some (.iload 4, 2)) rfl).trans ?_
  refine (px_go (by decide +kernel : pm_fe 115 7 = some (.aload_n 1, 1)) rfl).trans ?_
  refine (ry_get0 (idx := 58) (ci := 1) (k := 0) (chs0 hc) (by decide +kernel)).trans ?_
  refine (ry_ic_ge (off := 24) (tgt := 35) h1 h2 (by decide +kernel)).trans ?_
  exact Iff.rfl
theorem r115_14 {d : Nat} {c t : Nat} {X : Nat × (Nat → Int)} {v : Nat → Int} {M : PH} {K : PV → PS → Prop} {l2 l3 l4 : Int} (ht : isTi t) (h1 : 0 ≤ ((l2 * 24) + l4)) (h2 : ((l2 * 24) + l4) < 72) : pm_Run d 115 14 [vA t, vA c, vI l2, vI l3, vI l4] [] (GF X, M, PTF v) K ↔ pm_Run d 115 5 [vA t, vA c, vI l2, vI (l3 + (M (t + 1) ((l2 * 24) + l4).toNat)), vI (l4 + 1)] [] (GF X, M, PTF v) K := by
  refine (px_go (by decide +kernel : pm_fe 115 14 = some (.iload_n 3, 1)) rfl).trans ?_
  refine (px_go (by decide +kernel : pm_fe 115 15 = some (.aload_n 0, 1)) rfl).trans ?_
  refine (ry_get2 (idx := 9) (ci := 9) (k := 0) (tis0 ht) (tip0 ht) (by decide +kernel)).trans ?_
  refine (px_go (by decide +kernel : pm_fe 115 19 = some (.iload_n 2, 1)) rfl).trans ?_
  refine (px_go (by decide +kernel : pm_fe 115 20 = some (.bipush 24, 2)) rfl).trans ?_
  refine (px_go (by decide +kernel : pm_fe 115 22 = some (.imul, 1)) rfl).trans ?_
  refine (px_go (by decide +kernel : pm_fe 115 23 = some (.iload 4, 2)) rfl).trans ?_
  refine (px_go (by decide +kernel : pm_fe 115 25 = some (.iadd, 1)) rfl).trans ?_
  refine (ry_iald (tis1 ht) h1 h2 (by decide +kernel)).trans ?_
  refine (px_go (by decide +kernel : pm_fe 115 27 = some (.iadd, 1)) rfl).trans ?_
  refine (px_go (by decide +kernel : pm_fe 115 28 = some (.istore_n 3, 1)) rfl).trans ?_
  refine (px_go (by decide +kernel : pm_fe 115 29 = some (.iinc 4 1, 3)) rfl).trans ?_
  refine (px_goto (off := (-27)) (tgt := 5) (by decide +kernel)).trans ?_
  exact Iff.rfl
theorem r115_35 {d : Nat} {c t : Nat} {X : Nat × (Nat → Int)} {v : Nat → Int} {M : PH} {K : PV → PS → Prop} {l2 l3 l4 : Int} : pm_Run d 115 35 [vA t, vA c, vI l2, vI l3, vI l4] [] (GF X, M, PTF v) K ↔ K (vI l3) (GF X, M, PTF v) := by
  refine (px_go (by decide +kernel : pm_fe 115 35 = some (.iload_n 3, 1)) rfl).trans ?_
  refine (px_ri (by decide +kernel)).trans ?_
  exact Iff.rfl
-- X9_settle settle(LMoonTender$Chart;)V
theorem r116_0 {d : Nat} {c t : Nat} {X : Nat × (Nat → Int)} {v : Nat → Int} {M : PH} {K : PV → PS → Prop} : pm_Run d 116 0 [vA t, vA c, PU, PU, PU, PU] [] (GF X, M, PTF v) K ↔ pm_Run d 116 4 [vA t, vA c, vI 0, vI 0, PU, PU] [] (GF X, M, PTF v) K := by
  refine (px_go (by decide +kernel : pm_fe 116 0 = some (.iconst 0, 1)) rfl).trans ?_
  refine (px_go (by decide +kernel : pm_fe 116 1 = some (.istore_n 2, 1)) rfl).trans ?_
  refine (px_go (by decide +kernel : pm_fe 116 2 = some (.iconst 0, 1)) rfl).trans ?_
  refine (px_go (by decide +kernel : pm_fe 116 3 = some (.istore_n 3, 1)) rfl).trans ?_
  exact Iff.rfl
theorem r116_4 {d : Nat} {c t : Nat} {X : Nat × (Nat → Int)} {v : Nat → Int} {M : PH} {K : PV → PS → Prop} {l2 l3 : Int} (hc : isCh c) (h1 : inR l3) (h2 : inR (M c 1)) : pm_Run d 116 4 [vA t, vA c, vI l2, vI l3, PU, PU] [] (GF X, M, PTF v) K ↔ if M c 1 ≤ l3 then pm_Run d 116 27 [vA t, vA c, vI l2, vI l3, PU, PU] [] (GF X, M, PTF v) K else pm_Run d 116 12 [vA t, vA c, vI l2, vI l3, PU, PU] [] (GF X, M, PTF v) K := by
  refine (px_go (by decide +kernel : pm_fe 116 4 = some (.iload_n 3, 1)) rfl).trans ?_
  refine (px_go (by decide +kernel : pm_fe 116 5 = some (.aload_n 1, 1)) rfl).trans ?_
  refine (ry_get0 (idx := 24) (ci := 1) (k := 1) (chs0 hc) (by decide +kernel)).trans ?_
  refine (ry_ic_ge (off := 18) (tgt := 27) h1 h2 (by decide +kernel)).trans ?_
  exact Iff.rfl
theorem r116_12 {d : Nat} {c t : Nat} {X : Nat × (Nat → Int)} {v : Nat → Int} {M : PH} {K : PV → PS → Prop} {l2 l3 : Int} (ht : isTi t) : pm_Run d 116 12 [vA t, vA c, vI l2, vI l3, PU, PU] [] (GF X, M, PTF v) K ↔ pm_Call d 115 [vA t, vA c, vI l3] (GF X, M, PTF v) (fun r9 S1 => pm_Run d 116 19 [vA t, vA c, vI l2, vI l3, PU, PU] (pm_push r9 [vI l2]) S1 K) := by
  refine (px_go (by decide +kernel : pm_fe 116 12 = some (.iload_n 2, 1)) rfl).trans ?_
  refine (px_go (by decide +kernel : pm_fe 116 13 = some (.aload_n 0, 1)) rfl).trans ?_
  refine (px_go (by decide +kernel : pm_fe 116 14 = some (.aload_n 1, 1)) rfl).trans ?_
  refine (px_go (by decide +kernel : pm_fe 116 15 = some (.iload_n 3, 1)) rfl).trans ?_
  refine (ry_v2 (idx := 77) (m' := 115) (ci := 9) (tis0 ht) (by simp [pm_wl_n, pm_wl_c, pm_w] : pm_wl [vI l2] ≤ 8) (by decide +kernel)).trans ?_
  exact Iff.rfl
theorem r116_19 {d : Nat} {c t : Nat} {X : Nat × (Nat → Int)} {v : Nat → Int} {M : PH} {K : PV → PS → Prop} {l2 l3 s0 s1 : Int} : pm_Run d 116 19 [vA t, vA c, vI l2, vI l3, PU, PU] [vI s0, vI s1] (GF X, M, PTF v) K ↔ pm_Run d 116 4 [vA t, vA c, vI (s1 + s0), vI (l3 + 1), PU, PU] [] (GF X, M, PTF v) K := by
  refine (px_go (by decide +kernel : pm_fe 116 19 = some (.iadd, 1)) rfl).trans ?_
  refine (px_go (by decide +kernel : pm_fe 116 20 = some (.istore_n 2, 1)) rfl).trans ?_
  refine (px_go (by decide +kernel : pm_fe 116 21 = some (.iinc 3 1, 3)) rfl).trans ?_
  refine (px_goto (off := (-20)) (tgt := 4) (by decide +kernel)).trans ?_
  exact Iff.rfl
theorem r116_27 {d : Nat} {c t : Nat} {X : Nat × (Nat → Int)} {v : Nat → Int} {M : PH} {K : PV → PS → Prop} {l2 l3 : Int} : pm_Run d 116 27 [vA t, vA c, vI l2, vI l3, PU, PU] [] (GF X, M, PTF v) K ↔ pm_Run d 116 29 [vA t, vA c, vI l2, vI 0, PU, PU] [] (GF X, M, PTF v) K := by
  refine (px_go (by decide +kernel : pm_fe 116 27 = some (.iconst 0, 1)) rfl).trans ?_
  refine (px_go (by decide +kernel : pm_fe 116 28 = some (.istore_n 3, 1)) rfl).trans ?_
  exact Iff.rfl
theorem r116_29 {d : Nat} {c t : Nat} {X : Nat × (Nat → Int)} {v : Nat → Int} {M : PH} {K : PV → PS → Prop} {l2 l3 : Int} {l4 l5 : PV} (hc : isCh c) (h1 : inR l3) (h2 : inR (M c 0)) : pm_Run d 116 29 [vA t, vA c, vI l2, vI l3, l4, l5] [] (GF X, M, PTF v) K ↔ if M c 0 ≤ l3 then pm_Run d 116 95 [vA t, vA c, vI l2, vI l3, l4, l5] [] (GF X, M, PTF v) K else pm_Run d 116 37 [vA t, vA c, vI l2, vI l3, l4, l5] [] (GF X, M, PTF v) K := by
  refine (px_go (by decide +kernel : pm_fe 116 29 = some (.iload_n 3, 1)) rfl).trans ?_
  refine (px_go (by decide +kernel : pm_fe 116 30 = some (.aload_n 1, 1)) rfl).trans ?_
  refine (ry_get0 (idx := 58) (ci := 1) (k := 0) (chs0 hc) (by decide +kernel)).trans ?_
  refine (ry_ic_ge (off := 61) (tgt := 95) h1 h2 (by decide +kernel)).trans ?_
  exact Iff.rfl
theorem r116_37 {d : Nat} {c t : Nat} {X : Nat × (Nat → Int)} {v : Nat → Int} {M : PH} {K : PV → PS → Prop} {l2 l3 : Int} {l4 l5 : PV} : pm_Run d 116 37 [vA t, vA c, vI l2, vI l3, l4, l5] [] (GF X, M, PTF v) K ↔ pm_Run d 116 43 [vA t, vA c, vI l2, vI l3, vI 0, vI 0] [] (GF X, M, PTF v) K := by
  refine (px_go (by decide +kernel : pm_fe 116 37 = some (.iconst 0, 1)) rfl).trans ?_
  refine (px_go (by decide +kernel : pm_fe 116 38 = some (.istore 4, 2)) rfl).trans ?_
  refine (px_go (by decide +kernel : pm_fe 116 40 = some (.iconst 0, 1)) rfl).trans ?_
  refine (px_go (by decide +kernel : pm_fe 116 41 = some (.istore 5, 2)) rfl).trans ?_
  exact Iff.rfl
theorem r116_43 {d : Nat} {c t : Nat} {X : Nat × (Nat → Int)} {v : Nat → Int} {M : PH} {K : PV → PS → Prop} {l2 l3 l4 l5 : Int} (hc : isCh c) (h1 : inR l5) (h2 : inR (M c 1)) : pm_Run d 116 43 [vA t, vA c, vI l2, vI l3, vI l4, vI l5] [] (GF X, M, PTF v) K ↔ if M c 1 ≤ l5 then pm_Run d 116 75 [vA t, vA c, vI l2, vI l3, vI l4, vI l5] [] (GF X, M, PTF v) K else pm_Run d 116 52 [vA t, vA c, vI l2, vI l3, vI l4, vI l5] [] (GF X, M, PTF v) K := by
  refine (px_go (by decide +kernel : pm_fe 116 43 = some (.iload 5, 2)) rfl).trans ?_
  refine (px_go (by decide +kernel : pm_fe 116 45 = some (.aload_n 1, 1)) rfl).trans ?_
  refine (ry_get0 (idx := 24) (ci := 1) (k := 1) (chs0 hc) (by decide +kernel)).trans ?_
  refine (ry_ic_ge (off := 26) (tgt := 75) h1 h2 (by decide +kernel)).trans ?_
  exact Iff.rfl
theorem r116_52 {d : Nat} {c t : Nat} {X : Nat × (Nat → Int)} {v : Nat → Int} {M : PH} {K : PV → PS → Prop} {l2 l3 l4 l5 : Int} (ht : isTi t) (h1 : 0 ≤ ((l5 * 24) + l3)) (h2 : ((l5 * 24) + l3) < 72) : pm_Run d 116 52 [vA t, vA c, vI l2, vI l3, vI l4, vI l5] [] (GF X, M, PTF v) K ↔ pm_Run d 116 43 [vA t, vA c, vI l2, vI l3, vI (l4 + (M (t + 1) ((l5 * 24) + l3).toNat)), vI (l5 + 1)] [] (GF X, M, PTF v) K := by
  refine (px_go (by decide +kernel : pm_fe 116 52 = some (.iload 4, 2)) rfl).trans ?_
  refine (px_go (by decide +kernel : pm_fe 116 54 = some (.aload_n 0, 1)) rfl).trans ?_
  refine (ry_get2 (idx := 9) (ci := 9) (k := 0) (tis0 ht) (tip0 ht) (by decide +kernel)).trans ?_
  refine (px_go (by decide +kernel : pm_fe 116 58 = some (.iload 5, 2)) rfl).trans ?_
  refine (px_go (by decide +kernel : pm_fe 116 60 = some (.bipush 24, 2)) rfl).trans ?_
  refine (px_go (by decide +kernel : pm_fe 116 62 = some (.imul, 1)) rfl).trans ?_
  refine (px_go (by decide +kernel : pm_fe 116 63 = some (.iload_n 3, 1)) rfl).trans ?_
  refine (px_go (by decide +kernel : pm_fe 116 64 = some (.iadd, 1)) rfl).trans ?_
  refine (ry_iald (tis1 ht) h1 h2 (by decide +kernel)).trans ?_
  refine (px_go (by decide +kernel : pm_fe 116 66 = some (.iadd, 1)) rfl).trans ?_
  refine (px_go (by decide +kernel : pm_fe 116 67 = some (.istore 4, 2)) rfl).trans ?_
  refine (px_go (by decide +kernel : pm_fe 116 69 = some (.iinc 5 1, 3)) rfl).trans ?_
  refine (px_goto (off := (-29)) (tgt := 43) (by decide +kernel)).trans ?_
  exact Iff.rfl
theorem r116_75 {d : Nat} {c t : Nat} {X : Nat × (Nat → Int)} {v : Nat → Int} {M : PH} {K : PV → PS → Prop} {l2 l3 l4 l5 : Int} (ht : isTi t) : pm_Run d 116 75 [vA t, vA c, vI l2, vI l3, vI l4, vI l5] [] (GF X, M, PTF v) K ↔ pm_Call d 117 [vA c, vI l3, vI l4, vI l2] (GF X, M, PTF v) (fun r9 S1 => pm_Run d 116 88 [vA t, vA c, vI l2, vI l3, vI l4, vI l5] (pm_push r9 [vI l3, vA (t + 2)]) S1 K) := by
  refine (px_go (by decide +kernel : pm_fe 116 75 = some (.aload_n 0, 1)) rfl).trans ?_
  refine (ry_get2 (idx := 15) (ci := 9) (k := 1) (tis0 ht) (tip1 ht) (by decide +kernel)).trans ?_
  refine (px_go (by decide +kernel : pm_fe 116 79 = some (.iload_n 3, 1)) rfl).trans ?_
  refine (px_go (by decide +kernel : pm_fe 116 80 = some (.aload_n 1, 1)) rfl).trans ?_
  refine (px_go (by decide +kernel : pm_fe 116 81 = some (.iload_n 3, 1)) rfl).trans ?_
  refine (px_go (by decide +kernel : pm_fe 116 82 = some (.iload 4, 2)) rfl).trans ?_
  refine (px_go (by decide +kernel : pm_fe 116 84 = some (.iload_n 2, 1)) rfl).trans ?_
  refine (px_s4 (idx := 81) (m' := 117) (nest := 0) (by decide +kernel)).trans ((and_iff_right (by simp [pm_wl_n, pm_wl_c, pm_w] : pm_wl [vI l3, vA (t + 2)] ≤ 8)).trans ?_)
  exact Iff.rfl
theorem r116_88 {d : Nat} {c t : Nat} {X : Nat × (Nat → Int)} {v : Nat → Int} {M : PH} {K : PV → PS → Prop} {l2 l3 l4 l5 s0 s1 : Int} (ht : isTi t) (h1 : 0 ≤ s1) (h2 : s1 < 24) : pm_Run d 116 88 [vA t, vA c, vI l2, vI l3, vI l4, vI l5] [vI s0, vI s1, vA (t + 2)] (GF X, M, PTF v) K ↔ pm_Run d 116 89 [vA t, vA c, vI l2, vI l3, vI l4, vI l5] [] (GF X, pm_sa M (t + 2) (pm_up (M (t + 2)) s1.toNat s0), PTF v) K := by
  refine (ry_iast (tis2 ht) h1 h2 (by decide +kernel)).trans ?_
  exact Iff.rfl
theorem r116_89 {d : Nat} {c t : Nat} {X : Nat × (Nat → Int)} {v : Nat → Int} {M : PH} {K : PV → PS → Prop} {l2 l3 l4 l5 : Int} : pm_Run d 116 89 [vA t, vA c, vI l2, vI l3, vI l4, vI l5] [] (GF X, M, PTF v) K ↔ pm_Run d 116 29 [vA t, vA c, vI l2, vI (l3 + 1), vI l4, vI l5] [] (GF X, M, PTF v) K := by
  refine (px_go (by decide +kernel : pm_fe 116 89 = some (.iinc 3 1, 3)) rfl).trans ?_
  refine (px_goto (off := (-63)) (tgt := 29) (by decide +kernel)).trans ?_
  exact Iff.rfl
theorem r116_95 {d : Nat} {c t : Nat} {X : Nat × (Nat → Int)} {v : Nat → Int} {M : PH} {K : PV → PS → Prop} {l2 l3 : Int} {l4 l5 : PV} : pm_Run d 116 95 [vA t, vA c, vI l2, vI l3, l4, l5] [] (GF X, M, PTF v) K ↔ K PU (GF X, M, PTF v) := by
  refine (px_rv (by decide +kernel)).trans ?_
  exact Iff.rfl
-- X9_heightFrom heightFrom(LMoonTender$Chart;III)I
theorem r117_0 {d : Nat} {c : Nat} {X : Nat × (Nat → Int)} {v : Nat → Int} {M : PH} {K : PV → PS → Prop} {l1 l2 l3 : Int} (hc : isCh c) (h1 : inR (M c 0)) : pm_Run d 117 0 [vA c, vI l1, vI l2, vI l3, PU, PU] [] (GF X, M, PTF v) K ↔ if 0 < M c 0 then pm_Run d 117 12 [vA c, vI l1, vI l2, vI l3, PU, PU] [] (GF X, M, PTF v) K else pm_Run d 117 7 [vA c, vI l1, vI l2, vI l3, PU, PU] [] (GF X, M, PTF v) K := by
  refine (px_go (by decide +kernel : pm_fe 117 0 = some (.aload_n 0, 1)) rfl).trans ?_
  refine (ry_get0 (idx := 58) (ci := 1) (k := 0) (chs0 hc) (by decide +kernel)).trans ?_
  refine (ry_if_gt (off := 8) (tgt := 12) h1 (by decide +kernel)).trans ?_
  exact Iff.rfl
theorem r117_7 {d : Nat} {c : Nat} {X : Nat × (Nat → Int)} {v : Nat → Int} {M : PH} {K : PV → PS → Prop} {l1 l2 l3 : Int} (hc : isCh c) : pm_Run d 117 7 [vA c, vI l1, vI l2, vI l3, PU, PU] [] (GF X, M, PTF v) K ↔ K (vI (M c 5)) (GF X, M, PTF v) := by
  refine (px_go (by decide +kernel : pm_fe 117 7 = some (.aload_n 0, 1)) rfl).trans ?_
  refine (ry_get0 (idx := 85) (ci := 1) (k := 5) (chs0 hc) (by decide +kernel)).trans ?_
  refine (px_ri (by decide +kernel)).trans ?_
  exact Iff.rfl
theorem r117_12 {d : Nat} {c : Nat} {X : Nat × (Nat → Int)} {v : Nat → Int} {M : PH} {K : PV → PS → Prop} {l1 l2 l3 : Int} (hc : isCh c) (h1 : inR l3) (h2 : inR (M c 0)) (h3 : (M c 0) ≠ 0) (h4 : inR l1) (h5 : inR (l3 - ((l3.fdiv (M c 0)) * (M c 0)))) : pm_Run d 117 12 [vA c, vI l1, vI l2, vI l3, PU, PU] [] (GF X, M, PTF v) K ↔ if l3 - ((l3.fdiv (M c 0)) * (M c 0)) ≤ l1 then pm_Run d 117 52 [vA c, vI l1, vI l2, vI l3, vI (l3.fdiv (M c 0)), vI (l3 - ((l3.fdiv (M c 0)) * (M c 0)))] [vI (((M c 5) + l2) - (l3.fdiv (M c 0)))] (GF X, M, PTF v) K else pm_Run d 117 48 [vA c, vI l1, vI l2, vI l3, vI (l3.fdiv (M c 0)), vI (l3 - ((l3.fdiv (M c 0)) * (M c 0)))] [vI (((M c 5) + l2) - (l3.fdiv (M c 0)))] (GF X, M, PTF v) K := by
  refine (px_go (by decide +kernel : pm_fe 117 12 = some (.iload_n 3, 1)) rfl).trans ?_
  refine (px_go (by decide +kernel : pm_fe 117 13 = some (.aload_n 0, 1)) rfl).trans ?_
  refine (ry_get0 (idx := 58) (ci := 1) (k := 0) (chs0 hc) (by decide +kernel)).trans ?_
  refine (ry_fd (idx := 88) h1 h2 h3 (by simp [pm_wl_n, pm_wl_c, pm_w] : pm_wl [] ≤ 8) (by decide +kernel)).trans ?_
  refine (px_go (by decide +kernel : pm_fe 117 20 = some (.istore 4, 2)) rfl).trans ?_
  refine (px_go (by decide +kernel : pm_fe 117 22 = some (.iload_n 3, 1)) rfl).trans ?_
  refine (px_go (by decide +kernel : pm_fe 117 23 = some (.iload 4, 2)) rfl).trans ?_
  refine (px_go (by decide +kernel : pm_fe 117 25 = some (.aload_n 0, 1)) rfl).trans ?_
  refine (ry_get0 (idx := 58) (ci := 1) (k := 0) (chs0 hc) (by decide +kernel)).trans ?_
  refine (px_go (by decide +kernel : pm_fe 117 29 = some (.imul, 1)) rfl).trans ?_
  refine (px_go (by decide +kernel : pm_fe 117 30 = some (.isub, 1)) rfl).trans ?_
  refine (px_go (by decide +kernel : pm_fe 117 31 = some (.istore 5, 2)) rfl).trans ?_
  refine (px_go (by decide +kernel : pm_fe 117 33 = some (.aload_n 0, 1)) rfl).trans ?_
  refine (ry_get0 (idx := 85) (ci := 1) (k := 5) (chs0 hc) (by decide +kernel)).trans ?_
  refine (px_go (by decide +kernel : pm_fe 117 37 = some (.iload_n 2, 1)) rfl).trans ?_
  refine (px_go (by decide +kernel : pm_fe 117 38 = some (.iadd, 1)) rfl).trans ?_
  refine (px_go (by decide +kernel : pm_fe 117 39 = some (.iload 4, 2)) rfl).trans ?_
  refine (px_go (by decide +kernel : pm_fe 117 41 = some (.isub, 1)) rfl).trans ?_
  refine (px_go (by decide +kernel : pm_fe 117 42 = some (.iload_n 1, 1)) rfl).trans ?_
  refine (px_go (by decide +kernel : pm_fe 117 43 = some (.iload 5, 2)) rfl).trans ?_
  refine (ry_ic_ge (off := 7) (tgt := 52) h4 h5 (by decide +kernel)).trans ?_
  exact Iff.rfl
theorem r117_48 {d : Nat} {c : Nat} {X : Nat × (Nat → Int)} {v : Nat → Int} {M : PH} {K : PV → PS → Prop} {l1 l2 l3 l4 l5 s0 : Int} : pm_Run d 117 48 [vA c, vI l1, vI l2, vI l3, vI l4, vI l5] [vI s0] (GF X, M, PTF v) K ↔ pm_Run d 117 53 [vA c, vI l1, vI l2, vI l3, vI l4, vI l5] [vI 1, vI s0] (GF X, M, PTF v) K := by
  refine (px_go (by decide +kernel : pm_fe 117 48 = some (.iconst 1, 1)) rfl).trans ?_
  refine (px_goto (off := 4) (tgt := 53) (by decide +kernel)).trans ?_
  exact Iff.rfl
theorem r117_52 {d : Nat} {c : Nat} {X : Nat × (Nat → Int)} {v : Nat → Int} {M : PH} {K : PV → PS → Prop} {l1 l2 l3 l4 l5 s0 : Int} : pm_Run d 117 52 [vA c, vI l1, vI l2, vI l3, vI l4, vI l5] [vI s0] (GF X, M, PTF v) K ↔ pm_Run d 117 53 [vA c, vI l1, vI l2, vI l3, vI l4, vI l5] [vI 0, vI s0] (GF X, M, PTF v) K := by
  refine (px_go (by decide +kernel : pm_fe 117 52 = some (.iconst 0, 1)) rfl).trans ?_
  exact Iff.rfl
theorem r117_53 {d : Nat} {c : Nat} {X : Nat × (Nat → Int)} {v : Nat → Int} {M : PH} {K : PV → PS → Prop} {l1 l2 l3 l4 l5 s0 s1 : Int} : pm_Run d 117 53 [vA c, vI l1, vI l2, vI l3, vI l4, vI l5] [vI s0, vI s1] (GF X, M, PTF v) K ↔ K (vI (s1 - s0)) (GF X, M, PTF v) := by
  refine (px_go (by decide +kernel : pm_fe 117 53 = some (.isub, 1)) rfl).trans ?_
  refine (px_ri (by decide +kernel)).trans ?_
  exact Iff.rfl
-- X9_tellMoon tellMoon(LMoonTender$Chart;LMoonTender$Moment;III)V
theorem r118_0 {d : Nat} {b c : Nat} {X : Nat × (Nat → Int)} {v : Nat → Int} {M : PH} {K : PV → PS → Prop} {l2 l3 l4 : Int} (hb : isMo b) (hc : isCh c) : pm_Run d 118 0 [vA c, vA b, vI l2, vI l3, vI l4, PU, PU] [] (GF X, M, PTF v) K ↔ pm_Call d 59 [vA b, vI l2] (GF X, M, PTF v) (fun r9 S1 => pm_Run d 118 14 [vA c, vA b, vI l2, vI l3, vI l4, vA (c + 20), PU] (pm_push r9 []) S1 K) := by
  refine (px_go (by decide +kernel : pm_fe 118 0 = some (.aload_n 0, 1)) rfl).trans ?_
  refine (ry_get2 (idx := 45) (ci := 1) (k := 17) (chs0 hc) (chp0_17 hc) (by decide +kernel)).trans ?_
  refine (ry_get2 (idx := 61) (ci := 3) (k := 4) (chs15 hc) (chp15_4 hc) (by decide +kernel)).trans ?_
  refine (px_go (by decide +kernel : pm_fe 118 7 = some (.astore 5, 2)) rfl).trans ?_
  refine (px_go (by decide +kernel : pm_fe 118 9 = some (.aload_n 1, 1)) rfl).trans ?_
  refine (px_go (by decide +kernel : pm_fe 118 10 = some (.iload_n 2, 1)) rfl).trans ?_
  refine (ry_v1 (idx := 91) (m' := 59) (ci := 5) (mos0 hb) (by simp [pm_wl_n, pm_wl_c, pm_w] : pm_wl [] ≤ 8) (by decide +kernel)).trans ?_
  exact Iff.rfl
theorem r118_14 {d : Nat} {b c : Nat} {X : Nat × (Nat → Int)} {v : Nat → Int} {M : PH} {K : PV → PS → Prop} {l2 l3 l4 s0 : Int} (hc : isCh c) : pm_Run d 118 14 [vA c, vA b, vI l2, vI l3, vI l4, vA (c + 20), PU] [vI s0] (GF X, M, PTF v) K ↔ pm_Run d 118 22 [vA c, vA b, vI l2, vI l3, vI l4, vA (c + 20), vI s0] [] (GF X, pm_sa M (c + 20) (pm_up (M (c + 20)) 15 0), PTF v) K := by
  refine (px_go (by decide +kernel : pm_fe 118 14 = some (.istore 6, 2)) rfl).trans ?_
  refine (px_go (by decide +kernel : pm_fe 118 16 = some (.aload 5, 2)) rfl).trans ?_
  refine (px_go (by decide +kernel : pm_fe 118 18 = some (.bipush 15, 2)) rfl).trans ?_
  refine (px_go (by decide +kernel : pm_fe 118 20 = some (.iconst 0, 1)) rfl).trans ?_
  refine (ry_iast (chs20 hc) (by decide : (0 : Int) ≤ (15 : Int)) (by decide : (15 : Int) < (29 : Int)) (by decide +kernel)).trans ?_
  exact Iff.rfl
theorem r118_22 {d : Nat} {b c : Nat} {X : Nat × (Nat → Int)} {v : Nat → Int} {M : PH} {K : PV → PS → Prop} {l2 l3 l4 l6 : Int} (hc : isCh c) : pm_Run d 118 22 [vA c, vA b, vI l2, vI l3, vI l4, vA (c + 20), vI l6] [] (GF X, M, PTF v) K ↔ pm_Run d 118 28 [vA c, vA b, vI l2, vI l3, vI l4, vA (c + 20), vI l6] [] (GF X, pm_sa M (c + 20) (pm_up (M (c + 20)) 7 0), PTF v) K := by
  refine (px_go (by decide +kernel : pm_fe 118 22 = some (.aload 5, 2)) rfl).trans ?_
  refine (px_go (by decide +kernel : pm_fe 118 24 = some (.bipush 7, 2)) rfl).trans ?_
  refine (px_go (by decide +kernel : pm_fe 118 26 = some (.iconst 0, 1)) rfl).trans ?_
  refine (ry_iast (chs20 hc) (by decide : (0 : Int) ≤ (7 : Int)) (by decide : (7 : Int) < (29 : Int)) (by decide +kernel)).trans ?_
  exact Iff.rfl
theorem r118_28 {d : Nat} {b c : Nat} {X : Nat × (Nat → Int)} {v : Nat → Int} {M : PH} {K : PV → PS → Prop} {l2 l3 l4 l6 : Int} (hc : isCh c) : pm_Run d 118 28 [vA c, vA b, vI l2, vI l3, vI l4, vA (c + 20), vI l6] [] (GF X, M, PTF v) K ↔ pm_Run d 118 34 [vA c, vA b, vI l2, vI l3, vI l4, vA (c + 20), vI l6] [] (GF X, pm_sa M (c + 20) (pm_up (M (c + 20)) 6 0), PTF v) K := by
  refine (px_go (by decide +kernel : pm_fe 118 28 = some (.aload 5, 2)) rfl).trans ?_
  refine (px_go (by decide +kernel : pm_fe 118 30 = some (.bipush 6, 2)) rfl).trans ?_
  refine (px_go (by decide +kernel : pm_fe 118 32 = some (.iconst 0, 1)) rfl).trans ?_
  refine (ry_iast (chs20 hc) (by decide : (0 : Int) ≤ (6 : Int)) (by decide : (6 : Int) < (29 : Int)) (by decide +kernel)).trans ?_
  exact Iff.rfl
theorem r118_34 {d : Nat} {b c : Nat} {X : Nat × (Nat → Int)} {v : Nat → Int} {M : PH} {K : PV → PS → Prop} {l2 l3 l4 l6 : Int} (hc : isCh c) : pm_Run d 118 34 [vA c, vA b, vI l2, vI l3, vI l4, vA (c + 20), vI l6] [] (GF X, M, PTF v) K ↔ pm_Run d 118 40 [vA c, vA b, vI l2, vI l3, vI l4, vA (c + 20), vI l6] [] (GF X, pm_sa M (c + 20) (pm_up (M (c + 20)) 16 l3), PTF v) K := by
  refine (px_go (by decide +kernel : pm_fe 118 34 = some (.aload 5, 2)) rfl).trans ?_
  refine (px_go (by decide +kernel : pm_fe 118 36 = some (.bipush 16, 2)) rfl).trans ?_
  refine (px_go (by decide +kernel : pm_fe 118 38 = some (.iload_n 3, 1)) rfl).trans ?_
  refine (ry_iast (chs20 hc) (by decide : (0 : Int) ≤ (16 : Int)) (by decide : (16 : Int) < (29 : Int)) (by decide +kernel)).trans ?_
  exact Iff.rfl
theorem r118_40 {d : Nat} {b c : Nat} {X : Nat × (Nat → Int)} {v : Nat → Int} {M : PH} {K : PV → PS → Prop} {l2 l3 l4 l6 : Int} (hc : isCh c) : pm_Run d 118 40 [vA c, vA b, vI l2, vI l3, vI l4, vA (c + 20), vI l6] [] (GF X, M, PTF v) K ↔ pm_Run d 118 47 [vA c, vA b, vI l2, vI l3, vI l4, vA (c + 20), vI l6] [] (GF X, pm_sa M (c + 20) (pm_up (M (c + 20)) 17 l6), PTF v) K := by
  refine (px_go (by decide +kernel : pm_fe 118 40 = some (.aload 5, 2)) rfl).trans ?_
  refine (px_go (by decide +kernel : pm_fe 118 42 = some (.bipush 17, 2)) rfl).trans ?_
  refine (px_go (by decide +kernel : pm_fe 118 44 = some (.iload 6, 2)) rfl).trans ?_
  refine (ry_iast (chs20 hc) (by decide : (0 : Int) ≤ (17 : Int)) (by decide : (17 : Int) < (29 : Int)) (by decide +kernel)).trans ?_
  exact Iff.rfl
theorem r118_47 {d : Nat} {b c : Nat} {X : Nat × (Nat → Int)} {v : Nat → Int} {M : PH} {K : PV → PS → Prop} {l2 l3 l4 l6 : Int} (hb : isMo b) (hc : isCh c) (h1 : 0 ≤ l2) (h2 : l2 < 3) : pm_Run d 118 47 [vA c, vA b, vI l2, vI l3, vI l4, vA (c + 20), vI l6] [] (GF X, M, PTF v) K ↔ pm_Run d 118 57 [vA c, vA b, vI l2, vI l3, vI l4, vA (c + 20), vI l6] [] (GF X, pm_sa M (c + 20) (pm_up (M (c + 20)) 4 (M (b + 2) l2.toNat)), PTF v) K := by
  refine (px_go (by decide +kernel : pm_fe 118 47 = some (.aload 5, 2)) rfl).trans ?_
  refine (px_go (by decide +kernel : pm_fe 118 49 = some (.iconst 4, 1)) rfl).trans ?_
  refine (px_go (by decide +kernel : pm_fe 118 50 = some (.aload_n 1, 1)) rfl).trans ?_
  refine (ry_get2 (idx := 94) (ci := 5) (k := 2) (mos0 hb) (mop2 hb) (by decide +kernel)).trans ?_
  refine (px_go (by decide +kernel : pm_fe 118 54 = some (.iload_n 2, 1)) rfl).trans ?_
  refine (ry_iald (mos2 hb) h1 h2 (by decide +kernel)).trans ?_
  refine (ry_iast (chs20 hc) (by decide : (0 : Int) ≤ (4 : Int)) (by decide : (4 : Int) < (29 : Int)) (by decide +kernel)).trans ?_
  exact Iff.rfl
theorem r118_57 {d : Nat} {b c : Nat} {X : Nat × (Nat → Int)} {v : Nat → Int} {M : PH} {K : PV → PS → Prop} {l2 l3 l4 l6 : Int} (hc : isCh c) (h1 : inR l6) (h2 : inR (M c 6)) : pm_Run d 118 57 [vA c, vA b, vI l2, vI l3, vI l4, vA (c + 20), vI l6] [] (GF X, M, PTF v) K ↔ if l6 < M c 6 then pm_Run d 118 74 [vA c, vA b, vI l2, vI l3, vI l4, vA (c + 20), vI l6] [vI 19, vA (c + 20)] (GF X, M, PTF v) K else pm_Run d 118 70 [vA c, vA b, vI l2, vI l3, vI l4, vA (c + 20), vI l6] [vI 19, vA (c + 20)] (GF X, M, PTF v) K := by
  refine (px_go (by decide +kernel : pm_fe 118 57 = some (.aload 5, 2)) rfl).trans ?_
  refine (px_go (by decide +kernel : pm_fe 118 59 = some (.bipush 19, 2)) rfl).trans ?_
  refine (px_go (by decide +kernel : pm_fe 118 61 = some (.iload 6, 2)) rfl).trans ?_
  refine (px_go (by decide +kernel : pm_fe 118 63 = some (.aload_n 0, 1)) rfl).trans ?_
  refine (ry_get0 (idx := 97) (ci := 1) (k := 6) (chs0 hc) (by decide +kernel)).trans ?_
  refine (ry_ic_lt (off := 7) (tgt := 74) h1 h2 (by decide +kernel)).trans ?_
  exact Iff.rfl
theorem r118_70 {d : Nat} {b c : Nat} {X : Nat × (Nat → Int)} {v : Nat → Int} {M : PH} {K : PV → PS → Prop} {l2 l3 l4 l6 s0 : Int} : pm_Run d 118 70 [vA c, vA b, vI l2, vI l3, vI l4, vA (c + 20), vI l6] [vI s0, vA (c + 20)] (GF X, M, PTF v) K ↔ pm_Run d 118 75 [vA c, vA b, vI l2, vI l3, vI l4, vA (c + 20), vI l6] [vI 1, vI s0, vA (c + 20)] (GF X, M, PTF v) K := by
  refine (px_go (by decide +kernel : pm_fe 118 70 = some (.iconst 1, 1)) rfl).trans ?_
  refine (px_goto (off := 4) (tgt := 75) (by decide +kernel)).trans ?_
  exact Iff.rfl
theorem r118_74 {d : Nat} {b c : Nat} {X : Nat × (Nat → Int)} {v : Nat → Int} {M : PH} {K : PV → PS → Prop} {l2 l3 l4 l6 s0 : Int} : pm_Run d 118 74 [vA c, vA b, vI l2, vI l3, vI l4, vA (c + 20), vI l6] [vI s0, vA (c + 20)] (GF X, M, PTF v) K ↔ pm_Run d 118 75 [vA c, vA b, vI l2, vI l3, vI l4, vA (c + 20), vI l6] [vI 0, vI s0, vA (c + 20)] (GF X, M, PTF v) K := by
  refine (px_go (by decide +kernel : pm_fe 118 74 = some (.iconst 0, 1)) rfl).trans ?_
  exact Iff.rfl
theorem r118_75 {d : Nat} {b c : Nat} {X : Nat × (Nat → Int)} {v : Nat → Int} {M : PH} {K : PV → PS → Prop} {l2 l3 l4 l6 s0 s1 : Int} (hc : isCh c) (h1 : 0 ≤ s1) (h2 : s1 < 29) : pm_Run d 118 75 [vA c, vA b, vI l2, vI l3, vI l4, vA (c + 20), vI l6] [vI s0, vI s1, vA (c + 20)] (GF X, M, PTF v) K ↔ pm_Run d 118 76 [vA c, vA b, vI l2, vI l3, vI l4, vA (c + 20), vI l6] [] (GF X, pm_sa M (c + 20) (pm_up (M (c + 20)) s1.toNat s0), PTF v) K := by
  refine (ry_iast (chs20 hc) h1 h2 (by decide +kernel)).trans ?_
  exact Iff.rfl
theorem r118_76 {d : Nat} {b c : Nat} {X : Nat × (Nat → Int)} {v : Nat → Int} {M : PH} {K : PV → PS → Prop} {l2 l3 l4 l6 : Int} (hc : isCh c) : pm_Run d 118 76 [vA c, vA b, vI l2, vI l3, vI l4, vA (c + 20), vI l6] [] (GF X, M, PTF v) K ↔ pm_Run d 118 83 [vA c, vA b, vI l2, vI l3, vI l4, vA (c + 20), vI l6] [] (GF X, pm_sa M (c + 20) (pm_up (M (c + 20)) 20 l4), PTF v) K := by
  refine (px_go (by decide +kernel : pm_fe 118 76 = some (.aload 5, 2)) rfl).trans ?_
  refine (px_go (by decide +kernel : pm_fe 118 78 = some (.bipush 20, 2)) rfl).trans ?_
  refine (px_go (by decide +kernel : pm_fe 118 80 = some (.iload 4, 2)) rfl).trans ?_
  refine (ry_iast (chs20 hc) (by decide : (0 : Int) ≤ (20 : Int)) (by decide : (20 : Int) < (29 : Int)) (by decide +kernel)).trans ?_
  exact Iff.rfl
theorem r118_83 {d : Nat} {b c : Nat} {X : Nat × (Nat → Int)} {v : Nat → Int} {M : PH} {K : PV → PS → Prop} {l2 l3 l4 l6 : Int} (hb : isMo b) (hc : isCh c) : pm_Run d 118 83 [vA c, vA b, vI l2, vI l3, vI l4, vA (c + 20), vI l6] [] (GF X, M, PTF v) K ↔ K PU (GF X, pm_sa M (c + 20) (pm_up (M (c + 20)) 21 (M b 0)), PTF v) := by
  refine (px_go (by decide +kernel : pm_fe 118 83 = some (.aload 5, 2)) rfl).trans ?_
  refine (px_go (by decide +kernel : pm_fe 118 85 = some (.bipush 21, 2)) rfl).trans ?_
  refine (px_go (by decide +kernel : pm_fe 118 87 = some (.aload_n 1, 1)) rfl).trans ?_
  refine (ry_get0 (idx := 100) (ci := 5) (k := 0) (mos0 hb) (by decide +kernel)).trans ?_
  refine (ry_iast (chs20 hc) (by decide : (0 : Int) ≤ (21 : Int)) (by decide : (21 : Int) < (29 : Int)) (by decide +kernel)).trans ?_
  refine (px_rv (by decide +kernel)).trans ?_
  exact Iff.rfl
-- X9_tellHarbor tellHarbor(LMoonTender$Chart;LMoonTender$Moment;II)V
theorem r119_0 {d : Nat} {b c : Nat} {X : Nat × (Nat → Int)} {v : Nat → Int} {M : PH} {K : PV → PS → Prop} {l2 l3 : Int} (hc : isCh c) : pm_Run d 119 0 [vA c, vA b, vI l2, vI l3, PU] [] (GF X, M, PTF v) K ↔ pm_Run d 119 15 [vA c, vA b, vI l2, vI l3, vA (c + 20)] [] (GF X, pm_sa M (c + 20) (pm_up (M (c + 20)) 15 l3), PTF v) K := by
  refine (px_go (by decide +kernel : pm_fe 119 0 = some (.aload_n 0, 1)) rfl).trans ?_
  refine (ry_get2 (idx := 45) (ci := 1) (k := 17) (chs0 hc) (chp0_17 hc) (by decide +kernel)).trans ?_
  refine (ry_get2 (idx := 61) (ci := 3) (k := 4) (chs15 hc) (chp15_4 hc) (by decide +kernel)).trans ?_
  refine (px_go (by decide +kernel : pm_fe 119 7 = some (.astore 4, 2)) rfl).trans ?_
  refine (px_go (by decide +kernel : pm_fe 119 9 = some (.aload 4, 2)) rfl).trans ?_
  refine (px_go (by decide +kernel : pm_fe 119 11 = some (.bipush 15, 2)) rfl).trans ?_
  refine (px_go (by decide +kernel : pm_fe 119 13 = some (.iload_n 3, 1)) rfl).trans ?_
  refine (ry_iast (chs20 hc) (by decide : (0 : Int) ≤ (15 : Int)) (by decide : (15 : Int) < (29 : Int)) (by decide +kernel)).trans ?_
  exact Iff.rfl
theorem r119_15 {d : Nat} {b c : Nat} {X : Nat × (Nat → Int)} {v : Nat → Int} {M : PH} {K : PV → PS → Prop} {l2 l3 : Int} (hc : isCh c) (h1 : 0 ≤ l2) (h2 : l2 < 8) : pm_Run d 119 15 [vA c, vA b, vI l2, vI l3, vA (c + 20)] [] (GF X, M, PTF v) K ↔ pm_Run d 119 26 [vA c, vA b, vI l2, vI l3, vA (c + 20)] [] (GF X, pm_sa M (c + 20) (pm_up (M (c + 20)) 7 (M (c + 5) l2.toNat)), PTF v) K := by
  refine (px_go (by decide +kernel : pm_fe 119 15 = some (.aload 4, 2)) rfl).trans ?_
  refine (px_go (by decide +kernel : pm_fe 119 17 = some (.bipush 7, 2)) rfl).trans ?_
  refine (px_go (by decide +kernel : pm_fe 119 19 = some (.aload_n 0, 1)) rfl).trans ?_
  refine (ry_get2 (idx := 103) (ci := 1) (k := 12) (chs0 hc) (chp0_12 hc) (by decide +kernel)).trans ?_
  refine (px_go (by decide +kernel : pm_fe 119 23 = some (.iload_n 2, 1)) rfl).trans ?_
  refine (ry_iald (chs5 hc) h1 h2 (by decide +kernel)).trans ?_
  refine (ry_iast (chs20 hc) (by decide : (0 : Int) ≤ (7 : Int)) (by decide : (7 : Int) < (29 : Int)) (by decide +kernel)).trans ?_
  exact Iff.rfl
theorem r119_26 {d : Nat} {b c : Nat} {X : Nat × (Nat → Int)} {v : Nat → Int} {M : PH} {K : PV → PS → Prop} {l2 l3 : Int} (hb : isMo b) (hc : isCh c) (h1 : 0 ≤ l2) (h2 : l2 < 8) : pm_Run d 119 26 [vA c, vA b, vI l2, vI l3, vA (c + 20)] [] (GF X, M, PTF v) K ↔ pm_Run d 119 37 [vA c, vA b, vI l2, vI l3, vA (c + 20)] [] (GF X, pm_sa M (c + 20) (pm_up (M (c + 20)) 6 (M (b + 3) l2.toNat)), PTF v) K := by
  refine (px_go (by decide +kernel : pm_fe 119 26 = some (.aload 4, 2)) rfl).trans ?_
  refine (px_go (by decide +kernel : pm_fe 119 28 = some (.bipush 6, 2)) rfl).trans ?_
  refine (px_go (by decide +kernel : pm_fe 119 30 = some (.aload_n 1, 1)) rfl).trans ?_
  refine (ry_get2 (idx := 106) (ci := 5) (k := 3) (mos0 hb) (mop3 hb) (by decide +kernel)).trans ?_
  refine (px_go (by decide +kernel : pm_fe 119 34 = some (.iload_n 2, 1)) rfl).trans ?_
  refine (ry_iald (mos3 hb) h1 h2 (by decide +kernel)).trans ?_
  refine (ry_iast (chs20 hc) (by decide : (0 : Int) ≤ (6 : Int)) (by decide : (6 : Int) < (29 : Int)) (by decide +kernel)).trans ?_
  exact Iff.rfl
theorem r119_37 {d : Nat} {b c : Nat} {X : Nat × (Nat → Int)} {v : Nat → Int} {M : PH} {K : PV → PS → Prop} {l2 l3 : Int} (hb : isMo b) : pm_Run d 119 37 [vA c, vA b, vI l2, vI l3, vA (c + 20)] [] (GF X, M, PTF v) K ↔ pm_Call d 60 [vA b, vI l2] (GF X, M, PTF v) (fun r9 S1 => pm_Run d 119 46 [vA c, vA b, vI l2, vI l3, vA (c + 20)] (pm_push r9 [vI 16, vA (c + 20)]) S1 K) := by
  refine (px_go (by decide +kernel : pm_fe 119 37 = some (.aload 4, 2)) rfl).trans ?_
  refine (px_go (by decide +kernel : pm_fe 119 39 = some (.bipush 16, 2)) rfl).trans ?_
  refine (px_go (by decide +kernel : pm_fe 119 41 = some (.aload_n 1, 1)) rfl).trans ?_
  refine (px_go (by decide +kernel : pm_fe 119 42 = some (.iload_n 2, 1)) rfl).trans ?_
  refine (ry_v1 (idx := 109) (m' := 60) (ci := 5) (mos0 hb) (by simp [pm_wl_n, pm_wl_c, pm_w] : pm_wl [vI 16, vA (c + 20)] ≤ 8) (by decide +kernel)).trans ?_
  exact Iff.rfl
theorem r119_46 {d : Nat} {b c : Nat} {X : Nat × (Nat → Int)} {v : Nat → Int} {M : PH} {K : PV → PS → Prop} {l2 l3 s0 s1 : Int} (hc : isCh c) (h1 : 0 ≤ s1) (h2 : s1 < 29) : pm_Run d 119 46 [vA c, vA b, vI l2, vI l3, vA (c + 20)] [vI s0, vI s1, vA (c + 20)] (GF X, M, PTF v) K ↔ pm_Run d 119 47 [vA c, vA b, vI l2, vI l3, vA (c + 20)] [] (GF X, pm_sa M (c + 20) (pm_up (M (c + 20)) s1.toNat s0), PTF v) K := by
  refine (ry_iast (chs20 hc) h1 h2 (by decide +kernel)).trans ?_
  exact Iff.rfl
theorem r119_47 {d : Nat} {b c : Nat} {X : Nat × (Nat → Int)} {v : Nat → Int} {M : PH} {K : PV → PS → Prop} {l2 l3 : Int} (hb : isMo b) : pm_Run d 119 47 [vA c, vA b, vI l2, vI l3, vA (c + 20)] [] (GF X, M, PTF v) K ↔ pm_Call d 61 [vA b, vI l2] (GF X, M, PTF v) (fun r9 S1 => pm_Run d 119 56 [vA c, vA b, vI l2, vI l3, vA (c + 20)] (pm_push r9 [vI 17, vA (c + 20)]) S1 K) := by
  refine (px_go (by decide +kernel : pm_fe 119 47 = some (.aload 4, 2)) rfl).trans ?_
  refine (px_go (by decide +kernel : pm_fe 119 49 = some (.bipush 17, 2)) rfl).trans ?_
  refine (px_go (by decide +kernel : pm_fe 119 51 = some (.aload_n 1, 1)) rfl).trans ?_
  refine (px_go (by decide +kernel : pm_fe 119 52 = some (.iload_n 2, 1)) rfl).trans ?_
  refine (ry_v1 (idx := 112) (m' := 61) (ci := 5) (mos0 hb) (by simp [pm_wl_n, pm_wl_c, pm_w] : pm_wl [vI 17, vA (c + 20)] ≤ 8) (by decide +kernel)).trans ?_
  exact Iff.rfl
theorem r119_56 {d : Nat} {b c : Nat} {X : Nat × (Nat → Int)} {v : Nat → Int} {M : PH} {K : PV → PS → Prop} {l2 l3 s0 s1 : Int} (hc : isCh c) (h1 : 0 ≤ s1) (h2 : s1 < 29) : pm_Run d 119 56 [vA c, vA b, vI l2, vI l3, vA (c + 20)] [vI s0, vI s1, vA (c + 20)] (GF X, M, PTF v) K ↔ pm_Run d 119 57 [vA c, vA b, vI l2, vI l3, vA (c + 20)] [] (GF X, pm_sa M (c + 20) (pm_up (M (c + 20)) s1.toNat s0), PTF v) K := by
  refine (ry_iast (chs20 hc) h1 h2 (by decide +kernel)).trans ?_
  exact Iff.rfl
theorem r119_57 {d : Nat} {b c : Nat} {X : Nat × (Nat → Int)} {v : Nat → Int} {M : PH} {K : PV → PS → Prop} {l2 l3 : Int} (hc : isCh c) : pm_Run d 119 57 [vA c, vA b, vI l2, vI l3, vA (c + 20)] [] (GF X, M, PTF v) K ↔ pm_Run d 119 63 [vA c, vA b, vI l2, vI l3, vA (c + 20)] [] (GF X, pm_sa M (c + 20) (pm_up (M (c + 20)) 18 0), PTF v) K := by
  refine (px_go (by decide +kernel : pm_fe 119 57 = some (.aload 4, 2)) rfl).trans ?_
  refine (px_go (by decide +kernel : pm_fe 119 59 = some (.bipush 18, 2)) rfl).trans ?_
  refine (px_go (by decide +kernel : pm_fe 119 61 = some (.iconst 0, 1)) rfl).trans ?_
  refine (ry_iast (chs20 hc) (by decide : (0 : Int) ≤ (18 : Int)) (by decide : (18 : Int) < (29 : Int)) (by decide +kernel)).trans ?_
  exact Iff.rfl
theorem r119_63 {d : Nat} {b c : Nat} {X : Nat × (Nat → Int)} {v : Nat → Int} {M : PH} {K : PV → PS → Prop} {l2 l3 : Int} (hc : isCh c) : pm_Run d 119 63 [vA c, vA b, vI l2, vI l3, vA (c + 20)] [] (GF X, M, PTF v) K ↔ pm_Run d 119 68 [vA c, vA b, vI l2, vI l3, vA (c + 20)] [] (GF X, pm_sa M (c + 20) (pm_up (M (c + 20)) 4 0), PTF v) K := by
  refine (px_go (by decide +kernel : pm_fe 119 63 = some (.aload 4, 2)) rfl).trans ?_
  refine (px_go (by decide +kernel : pm_fe 119 65 = some (.iconst 4, 1)) rfl).trans ?_
  refine (px_go (by decide +kernel : pm_fe 119 66 = some (.iconst 0, 1)) rfl).trans ?_
  refine (ry_iast (chs20 hc) (by decide : (0 : Int) ≤ (4 : Int)) (by decide : (4 : Int) < (29 : Int)) (by decide +kernel)).trans ?_
  exact Iff.rfl
theorem r119_68 {d : Nat} {b c : Nat} {X : Nat × (Nat → Int)} {v : Nat → Int} {M : PH} {K : PV → PS → Prop} {l2 l3 : Int} (hc : isCh c) : pm_Run d 119 68 [vA c, vA b, vI l2, vI l3, vA (c + 20)] [] (GF X, M, PTF v) K ↔ pm_Run d 119 74 [vA c, vA b, vI l2, vI l3, vA (c + 20)] [] (GF X, pm_sa M (c + 20) (pm_up (M (c + 20)) 19 0), PTF v) K := by
  refine (px_go (by decide +kernel : pm_fe 119 68 = some (.aload 4, 2)) rfl).trans ?_
  refine (px_go (by decide +kernel : pm_fe 119 70 = some (.bipush 19, 2)) rfl).trans ?_
  refine (px_go (by decide +kernel : pm_fe 119 72 = some (.iconst 0, 1)) rfl).trans ?_
  refine (ry_iast (chs20 hc) (by decide : (0 : Int) ≤ (19 : Int)) (by decide : (19 : Int) < (29 : Int)) (by decide +kernel)).trans ?_
  exact Iff.rfl
theorem r119_74 {d : Nat} {b c : Nat} {X : Nat × (Nat → Int)} {v : Nat → Int} {M : PH} {K : PV → PS → Prop} {l2 l3 : Int} (hc : isCh c) : pm_Run d 119 74 [vA c, vA b, vI l2, vI l3, vA (c + 20)] [] (GF X, M, PTF v) K ↔ pm_Run d 119 80 [vA c, vA b, vI l2, vI l3, vA (c + 20)] [] (GF X, pm_sa M (c + 20) (pm_up (M (c + 20)) 20 0), PTF v) K := by
  refine (px_go (by decide +kernel : pm_fe 119 74 = some (.aload 4, 2)) rfl).trans ?_
  refine (px_go (by decide +kernel : pm_fe 119 76 = some (.bipush 20, 2)) rfl).trans ?_
  refine (px_go (by decide +kernel : pm_fe 119 78 = some (.iconst 0, 1)) rfl).trans ?_
  refine (ry_iast (chs20 hc) (by decide : (0 : Int) ≤ (20 : Int)) (by decide : (20 : Int) < (29 : Int)) (by decide +kernel)).trans ?_
  exact Iff.rfl
theorem r119_80 {d : Nat} {b c : Nat} {X : Nat × (Nat → Int)} {v : Nat → Int} {M : PH} {K : PV → PS → Prop} {l2 l3 : Int} (hb : isMo b) (hc : isCh c) : pm_Run d 119 80 [vA c, vA b, vI l2, vI l3, vA (c + 20)] [] (GF X, M, PTF v) K ↔ pm_Run d 119 89 [vA c, vA b, vI l2, vI l3, vA (c + 20)] [] (GF X, pm_sa M (c + 20) (pm_up (M (c + 20)) 21 (M b 0)), PTF v) K := by
  refine (px_go (by decide +kernel : pm_fe 119 80 = some (.aload 4, 2)) rfl).trans ?_
  refine (px_go (by decide +kernel : pm_fe 119 82 = some (.bipush 21, 2)) rfl).trans ?_
  refine (px_go (by decide +kernel : pm_fe 119 84 = some (.aload_n 1, 1)) rfl).trans ?_
  refine (ry_get0 (idx := 100) (ci := 5) (k := 0) (mos0 hb) (by decide +kernel)).trans ?_
  refine (ry_iast (chs20 hc) (by decide : (0 : Int) ≤ (21 : Int)) (by decide : (21 : Int) < (29 : Int)) (by decide +kernel)).trans ?_
  exact Iff.rfl
theorem r119_89 {d : Nat} {b c : Nat} {X : Nat × (Nat → Int)} {v : Nat → Int} {M : PH} {K : PV → PS → Prop} {l2 l3 : Int} (hc : isCh c) (h1 : 0 ≤ l2) (h2 : l2 < 8) : pm_Run d 119 89 [vA c, vA b, vI l2, vI l3, vA (c + 20)] [] (GF X, M, PTF v) K ↔ K PU (GF X, pm_sa M (c + 20) (pm_up (M (c + 20)) 22 (M (c + 4) l2.toNat)), PTF v) := by
  refine (px_go (by decide +kernel : pm_fe 119 89 = some (.aload 4, 2)) rfl).trans ?_
  refine (px_go (by decide +kernel : pm_fe 119 91 = some (.bipush 22, 2)) rfl).trans ?_
  refine (px_go (by decide +kernel : pm_fe 119 93 = some (.aload_n 0, 1)) rfl).trans ?_
  refine (ry_get2 (idx := 115) (ci := 1) (k := 11) (chs0 hc) (chp0_11 hc) (by decide +kernel)).trans ?_
  refine (px_go (by decide +kernel : pm_fe 119 97 = some (.iload_n 2, 1)) rfl).trans ?_
  refine (ry_iald (chs4 hc) h1 h2 (by decide +kernel)).trans ?_
  refine (ry_iast (chs20 hc) (by decide : (0 : Int) ≤ (22 : Int)) (by decide : (22 : Int) < (29 : Int)) (by decide +kernel)).trans ?_
  refine (px_rv (by decide +kernel)).trans ?_
  exact Iff.rfl
-- X9_brokenBy brokenBy(LMoonTender$Chart;LMoonTender$Moment;I)I
theorem r120_0 {d : Nat} {b c t : Nat} {X : Nat × (Nat → Int)} {v : Nat → Int} {M : PH} {K : PV → PS → Prop} {l3 : Int} (hc : isCh c) (h1 : inR (M c 4)) : pm_Run d 120 0 [vA t, vA c, vA b, vI l3, PU] [] (GF X, M, PTF v) K ↔ if M c 4 ≠ 0 then pm_Run d 120 9 [vA t, vA c, vA b, vI l3, PU] [] (GF X, M, PTF v) K else pm_Run d 120 7 [vA t, vA c, vA b, vI l3, PU] [] (GF X, M, PTF v) K := by
  refine (px_go (by decide +kernel : pm_fe 120 0 = some (.aload_n 1, 1)) rfl).trans ?_
  refine (ry_get0 (idx := 118) (ci := 1) (k := 4) (chs0 hc) (by decide +kernel)).trans ?_
  refine (ry_if_ne (off := 5) (tgt := 9) h1 (by decide +kernel)).trans ?_
  exact Iff.rfl
theorem r120_7 {d : Nat} {b c t : Nat} {X : Nat × (Nat → Int)} {v : Nat → Int} {M : PH} {K : PV → PS → Prop} {l3 : Int} : pm_Run d 120 7 [vA t, vA c, vA b, vI l3, PU] [] (GF X, M, PTF v) K ↔ K (vI (-1)) (GF X, M, PTF v) := by
  refine (px_go (by decide +kernel : pm_fe 120 7 = some (.iconst (-1), 1)) rfl).trans ?_
  refine (px_ri (by decide +kernel)).trans ?_
  exact Iff.rfl
theorem r120_9 {d : Nat} {b c t : Nat} {X : Nat × (Nat → Int)} {v : Nat → Int} {M : PH} {K : PV → PS → Prop} {l3 : Int} (hc : isCh c) (ht : isTi t) (h1 : 0 ≤ l3) (h2 : l3 < 8) (h3 : 0 ≤ (M (c + 4) l3.toNat)) (h4 : (M (c + 4) l3.toNat) < 24) : pm_Run d 120 9 [vA t, vA c, vA b, vI l3, PU] [] (GF X, M, PTF v) K ↔ pm_Call d 119 [vA c, vA b, vI l3, vI (M (t + 2) (M (c + 4) l3.toNat).toNat)] (GF X, M, PTF v) (fun r9 S1 => pm_Run d 120 26 [vA t, vA c, vA b, vI l3, PU] (pm_push r9 []) S1 K) := by
  refine (px_go (by decide +kernel : pm_fe 120 9 = some (.aload_n 1, 1)) rfl).trans ?_
  refine (px_go (by decide +kernel : pm_fe 120 10 = some (.aload_n 2, 1)) rfl).trans ?_
  refine (px_go (by decide +kernel : pm_fe 120 11 = some (.iload_n 3, 1)) rfl).trans ?_
  refine (px_go (by decide +kernel : pm_fe 120 12 = some (.aload_n 0, 1)) rfl).trans ?_
  refine (ry_get2 (idx := 15) (ci := 9) (k := 1) (tis0 ht) (tip1 ht) (by decide +kernel)).trans ?_
  refine (px_go (by decide +kernel : pm_fe 120 16 = some (.aload_n 1, 1)) rfl).trans ?_
  refine (ry_get2 (idx := 115) (ci := 1) (k := 11) (chs0 hc) (chp0_11 hc) (by decide +kernel)).trans ?_
  refine (px_go (by decide +kernel : pm_fe 120 20 = some (.iload_n 3, 1)) rfl).trans ?_
  refine (ry_iald (chs4 hc) h1 h2 (by decide +kernel)).trans ?_
  refine (ry_iald (tis2 ht) h3 h4 (by decide +kernel)).trans ?_
  refine (px_s4 (idx := 121) (m' := 119) (nest := 0) (by decide +kernel)).trans ((and_iff_right (by simp [pm_wl_n, pm_wl_c, pm_w] : pm_wl [] ≤ 8)).trans ?_)
  exact Iff.rfl
theorem r120_26 {d : Nat} {b c t : Nat} {X : Nat × (Nat → Int)} {v : Nat → Int} {M : PH} {K : PV → PS → Prop} {l3 : Int} : pm_Run d 120 26 [vA t, vA c, vA b, vI l3, PU] [] (GF X, M, PTF v) K ↔ pm_Run d 120 29 [vA t, vA c, vA b, vI l3, vI 0] [] (GF X, M, PTF v) K := by
  refine (px_go (by decide +kernel : pm_fe 120 26 = some (.iconst 0, 1)) rfl).trans ?_
  refine (px_go (by decide +kernel : pm_fe 120 27 = some (.istore 4, 2)) rfl).trans ?_
  exact Iff.rfl
theorem r120_29 {d : Nat} {b c t : Nat} {X : Nat × (Nat → Int)} {v : Nat → Int} {M : PH} {K : PV → PS → Prop} {l3 l4 : Int} (hc : isCh c) (h1 : inR l4) (h2 : inR (M c 4)) : pm_Run d 120 29 [vA t, vA c, vA b, vI l3, vI l4] [] (GF X, M, PTF v) K ↔ if M c 4 ≤ l4 then pm_Run d 120 61 [vA t, vA c, vA b, vI l3, vI l4] [] (GF X, M, PTF v) K else pm_Run d 120 38 [vA t, vA c, vA b, vI l3, vI l4] [] (GF X, M, PTF v) K := by
  refine (px_go (by decide +kernel : pm_fe 120 29 = some (.iload 4, 2)) rfl).trans ?_
  refine (px_go (by decide +kernel : pm_fe 120 31 = some (.aload_n 1, 1)) rfl).trans ?_
  refine (ry_get0 (idx := 118) (ci := 1) (k := 4) (chs0 hc) (by decide +kernel)).trans ?_
  refine (ry_ic_ge (off := 26) (tgt := 61) h1 h2 (by decide +kernel)).trans ?_
  exact Iff.rfl
theorem r120_38 {d : Nat} {b c t : Nat} {X : Nat × (Nat → Int)} {v : Nat → Int} {M : PH} {K : PV → PS → Prop} {l3 l4 : Int} (hc : isCh c) : pm_Run d 120 38 [vA t, vA c, vA b, vI l3, vI l4] [] (GF X, M, PTF v) K ↔ pm_Call d 46 [vA (c + 15), vI (2 + l4)] (GF X, M, PTF v) (fun r9 S1 => pm_Run d 120 49 [vA t, vA c, vA b, vI l3, vI l4] (pm_push r9 []) S1 K) := by
  refine (px_go (by decide +kernel : pm_fe 120 38 = some (.aload_n 1, 1)) rfl).trans ?_
  refine (ry_get2 (idx := 45) (ci := 1) (k := 17) (chs0 hc) (chp0_17 hc) (by decide +kernel)).trans ?_
  refine (px_go (by decide +kernel : pm_fe 120 42 = some (.iconst 2, 1)) rfl).trans ?_
  refine (px_go (by decide +kernel : pm_fe 120 43 = some (.iload 4, 2)) rfl).trans ?_
  refine (px_go (by decide +kernel : pm_fe 120 45 = some (.iadd, 1)) rfl).trans ?_
  refine (ry_v1 (idx := 70) (m' := 46) (ci := 3) (chs15 hc) (by simp [pm_wl_n, pm_wl_c, pm_w] : pm_wl [] ≤ 8) (by decide +kernel)).trans ?_
  exact Iff.rfl
theorem r120_49 {d : Nat} {b c t : Nat} {X : Nat × (Nat → Int)} {v : Nat → Int} {M : PH} {K : PV → PS → Prop} {l3 l4 s0 : Int} (h1 : inR s0) : pm_Run d 120 49 [vA t, vA c, vA b, vI l3, vI l4] [vI s0] (GF X, M, PTF v) K ↔ if s0 ≠ 0 then pm_Run d 120 55 [vA t, vA c, vA b, vI l3, vI l4] [] (GF X, M, PTF v) K else pm_Run d 120 52 [vA t, vA c, vA b, vI l3, vI l4] [] (GF X, M, PTF v) K := by
  refine (ry_if_ne (off := 6) (tgt := 55) h1 (by decide +kernel)).trans ?_
  exact Iff.rfl
theorem r120_52 {d : Nat} {b c t : Nat} {X : Nat × (Nat → Int)} {v : Nat → Int} {M : PH} {K : PV → PS → Prop} {l3 l4 : Int} : pm_Run d 120 52 [vA t, vA c, vA b, vI l3, vI l4] [] (GF X, M, PTF v) K ↔ K (vI l4) (GF X, M, PTF v) := by
  refine (px_go (by decide +kernel : pm_fe 120 52 = some (.iload 4, 2)) rfl).trans ?_
  refine (px_ri (by decide +kernel)).trans ?_
  exact Iff.rfl
theorem r120_55 {d : Nat} {b c t : Nat} {X : Nat × (Nat → Int)} {v : Nat → Int} {M : PH} {K : PV → PS → Prop} {l3 l4 : Int} : pm_Run d 120 55 [vA t, vA c, vA b, vI l3, vI l4] [] (GF X, M, PTF v) K ↔ pm_Run d 120 29 [vA t, vA c, vA b, vI l3, vI (l4 + 1)] [] (GF X, M, PTF v) K := by
  refine (px_go (by decide +kernel : pm_fe 120 55 = some (.iinc 4 1, 3)) rfl).trans ?_
  refine (px_goto (off := (-29)) (tgt := 29) (by decide +kernel)).trans ?_
  exact Iff.rfl
theorem r120_61 {d : Nat} {b c t : Nat} {X : Nat × (Nat → Int)} {v : Nat → Int} {M : PH} {K : PV → PS → Prop} {l3 l4 : Int} : pm_Run d 120 61 [vA t, vA c, vA b, vI l3, vI l4] [] (GF X, M, PTF v) K ↔ K (vI (-1)) (GF X, M, PTF v) := by
  refine (px_go (by decide +kernel : pm_fe 120 61 = some (.iconst (-1), 1)) rfl).trans ?_
  refine (px_ri (by decide +kernel)).trans ?_
  exact Iff.rfl
-- X9_passHour passHour(LMoonTender$Chart;LMoonTender$Moment;)V
theorem r121_0 {d : Nat} {b c t : Nat} {X : Nat × (Nat → Int)} {v : Nat → Int} {M : PH} {K : PV → PS → Prop} (hc : isCh c) : pm_Run d 121 0 [vA t, vA c, vA b] [] (GF X, M, PTF v) K ↔ pm_Call d 45 [vA (c + 15), vI 1, vI 15] (GF X, M, PTF v) (fun r9 S1 => pm_Run d 121 10 [vA t, vA c, vA b] (pm_push r9 []) S1 K) := by
  refine (px_go (by decide +kernel : pm_fe 121 0 = some (.aload_n 1, 1)) rfl).trans ?_
  refine (ry_get2 (idx := 45) (ci := 1) (k := 17) (chs0 hc) (chp0_17 hc) (by decide +kernel)).trans ?_
  refine (px_go (by decide +kernel : pm_fe 121 4 = some (.iconst 1, 1)) rfl).trans ?_
  refine (px_go (by decide +kernel : pm_fe 121 5 = some (.bipush 15, 2)) rfl).trans ?_
  refine (ry_v2 (idx := 51) (m' := 45) (ci := 3) (chs15 hc) (by simp [pm_wl_n, pm_wl_c, pm_w] : pm_wl [] ≤ 8) (by decide +kernel)).trans ?_
  exact Iff.rfl
theorem r121_10 {d : Nat} {b c t : Nat} {X : Nat × (Nat → Int)} {v : Nat → Int} {M : PH} {K : PV → PS → Prop} {s0 : Int} (h1 : inR s0) : pm_Run d 121 10 [vA t, vA c, vA b] [vI s0] (GF X, M, PTF v) K ↔ if s0 = 0 then pm_Run d 121 19 [vA t, vA c, vA b] [] (GF X, M, PTF v) K else pm_Run d 121 13 [vA t, vA c, vA b] [] (GF X, M, PTF v) K := by
  refine (ry_if_eq (off := 9) (tgt := 19) h1 (by decide +kernel)).trans ?_
  exact Iff.rfl
theorem r121_13 {d : Nat} {b c t : Nat} {X : Nat × (Nat → Int)} {v : Nat → Int} {M : PH} {K : PV → PS → Prop} (ht : isTi t) : pm_Run d 121 13 [vA t, vA c, vA b] [] (GF X, M, PTF v) K ↔ pm_Call d 113 [vA t, vA c, vA b] (GF X, M, PTF v) (fun r9 S1 => pm_Run d 121 19 [vA t, vA c, vA b] (pm_push r9 []) S1 K) := by
  refine (px_go (by decide +kernel : pm_fe 121 13 = some (.aload_n 0, 1)) rfl).trans ?_
  refine (px_go (by decide +kernel : pm_fe 121 14 = some (.aload_n 1, 1)) rfl).trans ?_
  refine (px_go (by decide +kernel : pm_fe 121 15 = some (.aload_n 2, 1)) rfl).trans ?_
  refine (ry_v2 (idx := 125) (m' := 113) (ci := 9) (tis0 ht) (by simp [pm_wl_n, pm_wl_c, pm_w] : pm_wl [] ≤ 8) (by decide +kernel)).trans ?_
  exact Iff.rfl
theorem r121_19 {d : Nat} {b c t : Nat} {X : Nat × (Nat → Int)} {v : Nat → Int} {M : PH} {K : PV → PS → Prop} (ht : isTi t) : pm_Run d 121 19 [vA t, vA c, vA b] [] (GF X, M, PTF v) K ↔ pm_Call d 122 [vA t, vA c, vA b] (GF X, M, PTF v) (fun r9 S1 => pm_Run d 121 25 [vA t, vA c, vA b] (pm_push r9 []) S1 K) := by
  refine (px_go (by decide +kernel : pm_fe 121 19 = some (.aload_n 0, 1)) rfl).trans ?_
  refine (px_go (by decide +kernel : pm_fe 121 20 = some (.aload_n 1, 1)) rfl).trans ?_
  refine (px_go (by decide +kernel : pm_fe 121 21 = some (.aload_n 2, 1)) rfl).trans ?_
  refine (ry_v2 (idx := 129) (m' := 122) (ci := 9) (tis0 ht) (by simp [pm_wl_n, pm_wl_c, pm_w] : pm_wl [] ≤ 8) (by decide +kernel)).trans ?_
  exact Iff.rfl
theorem r121_25 {d : Nat} {b c t : Nat} {X : Nat × (Nat → Int)} {v : Nat → Int} {M : PH} {K : PV → PS → Prop} : pm_Run d 121 25 [vA t, vA c, vA b] [] (GF X, M, PTF v) K ↔ K PU (GF X, M, PTF v) := by
  refine (px_rv (by decide +kernel)).trans ?_
  exact Iff.rfl
-- X9_passRisenHour passRisenHour(LMoonTender$Chart;LMoonTender$Moment;)V
theorem r122_0 {d : Nat} {b c t : Nat} {X : Nat × (Nat → Int)} {v : Nat → Int} {M : PH} {K : PV → PS → Prop} (hc : isCh c) : pm_Run d 122 0 [vA t, vA c, vA b, PU, PU] [] (GF X, M, PTF v) K ↔ pm_Call d 44 [vA (c + 15), vI 1] (GF X, M, PTF v) (fun r9 S1 => pm_Run d 122 8 [vA t, vA c, vA b, PU, PU] (pm_push r9 []) S1 K) := by
  refine (px_go (by decide +kernel : pm_fe 122 0 = some (.aload_n 1, 1)) rfl).trans ?_
  refine (ry_get2 (idx := 45) (ci := 1) (k := 17) (chs0 hc) (chp0_17 hc) (by decide +kernel)).trans ?_
  refine (px_go (by decide +kernel : pm_fe 122 4 = some (.iconst 1, 1)) rfl).trans ?_
  refine (ry_v1 (idx := 132) (m' := 44) (ci := 3) (chs15 hc) (by simp [pm_wl_n, pm_wl_c, pm_w] : pm_wl [] ≤ 8) (by decide +kernel)).trans ?_
  exact Iff.rfl
theorem r122_8 {d : Nat} {b c t : Nat} {X : Nat × (Nat → Int)} {v : Nat → Int} {M : PH} {K : PV → PS → Prop} {s0 : Int} (h1 : inR s0) : pm_Run d 122 8 [vA t, vA c, vA b, PU, PU] [vI s0] (GF X, M, PTF v) K ↔ if s0 = 0 then pm_Run d 122 34 [vA t, vA c, vA b, PU, PU] [] (GF X, M, PTF v) K else pm_Run d 122 11 [vA t, vA c, vA b, PU, PU] [] (GF X, M, PTF v) K := by
  refine (ry_if_eq (off := 26) (tgt := 34) h1 (by decide +kernel)).trans ?_
  exact Iff.rfl
theorem r122_11 {d : Nat} {b c t : Nat} {X : Nat × (Nat → Int)} {v : Nat → Int} {M : PH} {K : PV → PS → Prop} : pm_Run d 122 11 [vA t, vA c, vA b, PU, PU] [] (GF X, M, PTF v) K ↔ pm_Run d 122 13 [vA t, vA c, vA b, vI 0, PU] [] (GF X, M, PTF v) K := by
  refine (px_go (by decide +kernel : pm_fe 122 11 = some (.iconst 0, 1)) rfl).trans ?_
  refine (px_go (by decide +kernel : pm_fe 122 12 = some (.istore_n 3, 1)) rfl).trans ?_
  exact Iff.rfl
theorem r122_13 {d : Nat} {b c t : Nat} {X : Nat × (Nat → Int)} {v : Nat → Int} {M : PH} {K : PV → PS → Prop} {l3 : Int} (hc : isCh c) (h1 : inR l3) (h2 : inR (M c 2)) : pm_Run d 122 13 [vA t, vA c, vA b, vI l3, PU] [] (GF X, M, PTF v) K ↔ if M c 2 ≤ l3 then pm_Run d 122 34 [vA t, vA c, vA b, vI l3, PU] [] (GF X, M, PTF v) K else pm_Run d 122 21 [vA t, vA c, vA b, vI l3, PU] [] (GF X, M, PTF v) K := by
  refine (px_go (by decide +kernel : pm_fe 122 13 = some (.iload_n 3, 1)) rfl).trans ?_
  refine (px_go (by decide +kernel : pm_fe 122 14 = some (.aload_n 1, 1)) rfl).trans ?_
  refine (ry_get0 (idx := 136) (ci := 1) (k := 2) (chs0 hc) (by decide +kernel)).trans ?_
  refine (ry_ic_ge (off := 16) (tgt := 34) h1 h2 (by decide +kernel)).trans ?_
  exact Iff.rfl
theorem r122_21 {d : Nat} {b c t : Nat} {X : Nat × (Nat → Int)} {v : Nat → Int} {M : PH} {K : PV → PS → Prop} {l3 : Int} (ht : isTi t) : pm_Run d 122 21 [vA t, vA c, vA b, vI l3, PU] [] (GF X, M, PTF v) K ↔ pm_Call d 123 [vA t, vA c, vA b, vI l3] (GF X, M, PTF v) (fun r9 S1 => pm_Run d 122 28 [vA t, vA c, vA b, vI l3, PU] (pm_push r9 []) S1 K) := by
  refine (px_go (by decide +kernel : pm_fe 122 21 = some (.aload_n 0, 1)) rfl).trans ?_
  refine (px_go (by decide +kernel : pm_fe 122 22 = some (.aload_n 1, 1)) rfl).trans ?_
  refine (px_go (by decide +kernel : pm_fe 122 23 = some (.aload_n 2, 1)) rfl).trans ?_
  refine (px_go (by decide +kernel : pm_fe 122 24 = some (.iload_n 3, 1)) rfl).trans ?_
  refine (ry_v3 (idx := 139) (m' := 123) (ci := 9) (tis0 ht) (by simp [pm_wl_n, pm_wl_c, pm_w] : pm_wl [] ≤ 8) (by decide +kernel)).trans ?_
  exact Iff.rfl
theorem r122_28 {d : Nat} {b c t : Nat} {X : Nat × (Nat → Int)} {v : Nat → Int} {M : PH} {K : PV → PS → Prop} {l3 : Int} : pm_Run d 122 28 [vA t, vA c, vA b, vI l3, PU] [] (GF X, M, PTF v) K ↔ pm_Run d 122 13 [vA t, vA c, vA b, vI (l3 + 1), PU] [] (GF X, M, PTF v) K := by
  refine (px_go (by decide +kernel : pm_fe 122 28 = some (.iinc 3 1, 3)) rfl).trans ?_
  refine (px_goto (off := (-18)) (tgt := 13) (by decide +kernel)).trans ?_
  exact Iff.rfl
theorem r122_34 {d : Nat} {b c t : Nat} {X : Nat × (Nat → Int)} {v : Nat → Int} {M : PH} {K : PV → PS → Prop} {l3 : PV} : pm_Run d 122 34 [vA t, vA c, vA b, l3, PU] [] (GF X, M, PTF v) K ↔ pm_Run d 122 36 [vA t, vA c, vA b, vI 0, PU] [] (GF X, M, PTF v) K := by
  refine (px_go (by decide +kernel : pm_fe 122 34 = some (.iconst 0, 1)) rfl).trans ?_
  refine (px_go (by decide +kernel : pm_fe 122 35 = some (.istore_n 3, 1)) rfl).trans ?_
  exact Iff.rfl
theorem r122_36 {d : Nat} {b c t : Nat} {X : Nat × (Nat → Int)} {v : Nat → Int} {M : PH} {K : PV → PS → Prop} {l3 : Int} {l4 : PV} (hc : isCh c) (h1 : inR l3) (h2 : inR (M c 2)) : pm_Run d 122 36 [vA t, vA c, vA b, vI l3, l4] [] (GF X, M, PTF v) K ↔ if M c 2 ≤ l3 then pm_Run d 122 79 [vA t, vA c, vA b, vI l3, l4] [] (GF X, M, PTF v) K else pm_Run d 122 44 [vA t, vA c, vA b, vI l3, l4] [] (GF X, M, PTF v) K := by
  refine (px_go (by decide +kernel : pm_fe 122 36 = some (.iload_n 3, 1)) rfl).trans ?_
  refine (px_go (by decide +kernel : pm_fe 122 37 = some (.aload_n 1, 1)) rfl).trans ?_
  refine (ry_get0 (idx := 136) (ci := 1) (k := 2) (chs0 hc) (by decide +kernel)).trans ?_
  refine (ry_ic_ge (off := 38) (tgt := 79) h1 h2 (by decide +kernel)).trans ?_
  exact Iff.rfl
theorem r122_44 {d : Nat} {b c t : Nat} {X : Nat × (Nat → Int)} {v : Nat → Int} {M : PH} {K : PV → PS → Prop} {l3 : Int} {l4 : PV} : pm_Run d 122 44 [vA t, vA c, vA b, vI l3, l4] [] (GF X, M, PTF v) K ↔ pm_Run d 122 47 [vA t, vA c, vA b, vI l3, vI 0] [] (GF X, M, PTF v) K := by
  refine (px_go (by decide +kernel : pm_fe 122 44 = some (.iconst 0, 1)) rfl).trans ?_
  refine (px_go (by decide +kernel : pm_fe 122 45 = some (.istore 4, 2)) rfl).trans ?_
  exact Iff.rfl
theorem r122_47 {d : Nat} {b c t : Nat} {X : Nat × (Nat → Int)} {v : Nat → Int} {M : PH} {K : PV → PS → Prop} {l3 l4 : Int} (hc : isCh c) (h1 : inR l4) (h2 : inR (M c 1)) : pm_Run d 122 47 [vA t, vA c, vA b, vI l3, vI l4] [] (GF X, M, PTF v) K ↔ if M c 1 ≤ l4 then pm_Run d 122 73 [vA t, vA c, vA b, vI l3, vI l4] [] (GF X, M, PTF v) K else pm_Run d 122 56 [vA t, vA c, vA b, vI l3, vI l4] [] (GF X, M, PTF v) K := by
  refine (px_go (by decide +kernel : pm_fe 122 47 = some (.iload 4, 2)) rfl).trans ?_
  refine (px_go (by decide +kernel : pm_fe 122 49 = some (.aload_n 1, 1)) rfl).trans ?_
  refine (ry_get0 (idx := 24) (ci := 1) (k := 1) (chs0 hc) (by decide +kernel)).trans ?_
  refine (ry_ic_ge (off := 20) (tgt := 73) h1 h2 (by decide +kernel)).trans ?_
  exact Iff.rfl
theorem r122_56 {d : Nat} {b c t : Nat} {X : Nat × (Nat → Int)} {v : Nat → Int} {M : PH} {K : PV → PS → Prop} {l3 l4 : Int} : pm_Run d 122 56 [vA t, vA c, vA b, vI l3, vI l4] [] (GF X, M, PTF v) K ↔ pm_Call d 55 [vI l3, vI l4] (GF X, M, PTF v) (fun r9 S1 => pm_Run d 122 64 [vA t, vA c, vA b, vI l3, vI l4] (pm_push r9 [vI l3, vA b]) S1 K) := by
  refine (px_go (by decide +kernel : pm_fe 122 56 = some (.aload_n 2, 1)) rfl).trans ?_
  refine (px_go (by decide +kernel : pm_fe 122 57 = some (.iload_n 3, 1)) rfl).trans ?_
  refine (px_go (by decide +kernel : pm_fe 122 58 = some (.iload_n 3, 1)) rfl).trans ?_
  refine (px_go (by decide +kernel : pm_fe 122 59 = some (.iload 4, 2)) rfl).trans ?_
  refine (px_s2 (idx := 143) (m' := 55) (nest := 0) (by decide +kernel)).trans ((and_iff_right (by simp [pm_wl_n, pm_wl_c, pm_w] : pm_wl [vI l3, vA b] ≤ 8)).trans ?_)
  exact Iff.rfl
theorem r122_64 {d : Nat} {b c t : Nat} {X : Nat × (Nat → Int)} {v : Nat → Int} {M : PH} {K : PV → PS → Prop} {l3 l4 s0 s1 : Int} : pm_Run d 122 64 [vA t, vA c, vA b, vI l3, vI l4] [vI s0, vI s1, vA b] (GF X, M, PTF v) K ↔ pm_Call d 124 [vA b, vI s1, vI s0] (GF X, M, PTF v) (fun r9 S1 => pm_Run d 122 67 [vA t, vA c, vA b, vI l3, vI l4] (pm_push r9 []) S1 K) := by
  refine (px_s3 (idx := 146) (m' := 124) (nest := 0) (by decide +kernel)).trans ((and_iff_right (by simp [pm_wl_n, pm_wl_c, pm_w] : pm_wl [] ≤ 8)).trans ?_)
  exact Iff.rfl
theorem r122_67 {d : Nat} {b c t : Nat} {X : Nat × (Nat → Int)} {v : Nat → Int} {M : PH} {K : PV → PS → Prop} {l3 l4 : Int} : pm_Run d 122 67 [vA t, vA c, vA b, vI l3, vI l4] [] (GF X, M, PTF v) K ↔ pm_Run d 122 47 [vA t, vA c, vA b, vI l3, vI (l4 + 1)] [] (GF X, M, PTF v) K := by
  refine (px_go (by decide +kernel : pm_fe 122 67 = some (.iinc 4 1, 3)) rfl).trans ?_
  refine (px_goto (off := (-23)) (tgt := 47) (by decide +kernel)).trans ?_
  exact Iff.rfl
theorem r122_73 {d : Nat} {b c t : Nat} {X : Nat × (Nat → Int)} {v : Nat → Int} {M : PH} {K : PV → PS → Prop} {l3 l4 : Int} : pm_Run d 122 73 [vA t, vA c, vA b, vI l3, vI l4] [] (GF X, M, PTF v) K ↔ pm_Run d 122 36 [vA t, vA c, vA b, vI (l3 + 1), vI l4] [] (GF X, M, PTF v) K := by
  refine (px_go (by decide +kernel : pm_fe 122 73 = some (.iinc 3 1, 3)) rfl).trans ?_
  refine (px_goto (off := (-40)) (tgt := 36) (by decide +kernel)).trans ?_
  exact Iff.rfl
theorem r122_79 {d : Nat} {b c t : Nat} {X : Nat × (Nat → Int)} {v : Nat → Int} {M : PH} {K : PV → PS → Prop} {l3 : Int} {l4 : PV} : pm_Run d 122 79 [vA t, vA c, vA b, vI l3, l4] [] (GF X, M, PTF v) K ↔ pm_Run d 122 81 [vA t, vA c, vA b, vI 0, l4] [] (GF X, M, PTF v) K := by
  refine (px_go (by decide +kernel : pm_fe 122 79 = some (.iconst 0, 1)) rfl).trans ?_
  refine (px_go (by decide +kernel : pm_fe 122 80 = some (.istore_n 3, 1)) rfl).trans ?_
  exact Iff.rfl
theorem r122_81 {d : Nat} {b c t : Nat} {X : Nat × (Nat → Int)} {v : Nat → Int} {M : PH} {K : PV → PS → Prop} {l3 : Int} {l4 : PV} (hc : isCh c) (h1 : inR l3) (h2 : inR (M c 1)) : pm_Run d 122 81 [vA t, vA c, vA b, vI l3, l4] [] (GF X, M, PTF v) K ↔ if M c 1 ≤ l3 then pm_Run d 122 108 [vA t, vA c, vA b, vI l3, l4] [] (GF X, M, PTF v) K else pm_Run d 122 89 [vA t, vA c, vA b, vI l3, l4] [] (GF X, M, PTF v) K := by
  refine (px_go (by decide +kernel : pm_fe 122 81 = some (.iload_n 3, 1)) rfl).trans ?_
  refine (px_go (by decide +kernel : pm_fe 122 82 = some (.aload_n 1, 1)) rfl).trans ?_
  refine (ry_get0 (idx := 24) (ci := 1) (k := 1) (chs0 hc) (by decide +kernel)).trans ?_
  refine (ry_ic_ge (off := 22) (tgt := 108) h1 h2 (by decide +kernel)).trans ?_
  exact Iff.rfl
theorem r122_89 {d : Nat} {b c t : Nat} {X : Nat × (Nat → Int)} {v : Nat → Int} {M : PH} {K : PV → PS → Prop} {l3 : Int} {l4 : PV} (hb : isMo b) (hc : isCh c) : pm_Run d 122 89 [vA t, vA c, vA b, vI l3, l4] [] (GF X, M, PTF v) K ↔ pm_Call d 20 [vA c, vA b, vI l3, vI 1] (GF X, M, PTF v) (fun r9 S1 => pm_Run d 122 101 [vA t, vA c, vA b, vI l3, l4] (pm_push r9 [vI l3, vA (b + 1)]) S1 K) := by
  refine (px_go (by decide +kernel : pm_fe 122 89 = some (.aload_n 2, 1)) rfl).trans ?_
  refine (ry_get2 (idx := 55) (ci := 5) (k := 1) (mos0 hb) (mop1 hb) (by decide +kernel)).trans ?_
  refine (px_go (by decide +kernel : pm_fe 122 93 = some (.iload_n 3, 1)) rfl).trans ?_
  refine (px_go (by decide +kernel : pm_fe 122 94 = some (.aload_n 1, 1)) rfl).trans ?_
  refine (px_go (by decide +kernel : pm_fe 122 95 = some (.aload_n 2, 1)) rfl).trans ?_
  refine (px_go (by decide +kernel : pm_fe 122 96 = some (.iload_n 3, 1)) rfl).trans ?_
  refine (px_go (by decide +kernel : pm_fe 122 97 = some (.iconst 1, 1)) rfl).trans ?_
  refine (ry_v3 (idx := 150) (m' := 20) (ci := 1) (chs0 hc) (by simp [pm_wl_n, pm_wl_c, pm_w] : pm_wl [vI l3, vA (b + 1)] ≤ 8) (by decide +kernel)).trans ?_
  exact Iff.rfl
theorem r122_101 {d : Nat} {b c t : Nat} {X : Nat × (Nat → Int)} {v : Nat → Int} {M : PH} {K : PV → PS → Prop} {l3 s0 s1 : Int} {l4 : PV} (hb : isMo b) (h1 : 0 ≤ s1) (h2 : s1 < 3) : pm_Run d 122 101 [vA t, vA c, vA b, vI l3, l4] [vI s0, vI s1, vA (b + 1)] (GF X, M, PTF v) K ↔ pm_Run d 122 102 [vA t, vA c, vA b, vI l3, l4] [] (GF X, pm_sa M (b + 1) (pm_up (M (b + 1)) s1.toNat s0), PTF v) K := by
  refine (ry_iast (mos1 hb) h1 h2 (by decide +kernel)).trans ?_
  exact Iff.rfl
theorem r122_102 {d : Nat} {b c t : Nat} {X : Nat × (Nat → Int)} {v : Nat → Int} {M : PH} {K : PV → PS → Prop} {l3 : Int} {l4 : PV} : pm_Run d 122 102 [vA t, vA c, vA b, vI l3, l4] [] (GF X, M, PTF v) K ↔ pm_Run d 122 81 [vA t, vA c, vA b, vI (l3 + 1), l4] [] (GF X, M, PTF v) K := by
  refine (px_go (by decide +kernel : pm_fe 122 102 = some (.iinc 3 1, 3)) rfl).trans ?_
  refine (px_goto (off := (-24)) (tgt := 81) (by decide +kernel)).trans ?_
  exact Iff.rfl
theorem r122_108 {d : Nat} {b c t : Nat} {X : Nat × (Nat → Int)} {v : Nat → Int} {M : PH} {K : PV → PS → Prop} {l3 : Int} {l4 : PV} (hb : isMo b) (h1 : inR ((M b 0) + 1)) : pm_Run d 122 108 [vA t, vA c, vA b, vI l3, l4] [] (GF X, M, PTF v) K ↔ K PU (GF X, pm_sa M b (pm_up (M b) 0 (min 9999 ((M b 0) + 1))), PTF v) := by
  refine (px_go (by decide +kernel : pm_fe 122 108 = some (.aload_n 2, 1)) rfl).trans ?_
  refine (px_go (by decide +kernel : pm_fe 122 109 = some (.sipush 9999, 3)) rfl).trans ?_
  refine (px_go (by decide +kernel : pm_fe 122 112 = some (.aload_n 2, 1)) rfl).trans ?_
  refine (ry_get0 (idx := 100) (ci := 5) (k := 0) (mos0 hb) (by decide +kernel)).trans ?_
  refine (px_go (by decide +kernel : pm_fe 122 116 = some (.iconst 1, 1)) rfl).trans ?_
  refine (px_go (by decide +kernel : pm_fe 122 117 = some (.iadd, 1)) rfl).trans ?_
  refine (ry_mn (idx := 64) (by decide : (-2147483648 ≤ (9999 : Int) ∧ (9999 : Int) < 2147483648)) h1 (by simp [pm_wl_n, pm_wl_c, pm_w] : pm_wl [vA b] ≤ 8) (by decide +kernel)).trans ?_
  refine (ry_put0 (idx := 100) (ci := 5) (k := 0) (mos0 hb) (by decide +kernel)).trans ?_
  refine (px_rv (by decide +kernel)).trans ?_
  exact Iff.rfl
-- X9_earn earn(LMoonTender$Chart;LMoonTender$Moment;I)V
theorem r123_0 {d : Nat} {b c t : Nat} {X : Nat × (Nat → Int)} {v : Nat → Int} {M : PH} {K : PV → PS → Prop} {l3 : Int} (hc : isCh c) (ht : isTi t) (h1 : 0 ≤ l3) (h2 : l3 < 8) (h3 : 0 ≤ (M (c + 4) l3.toNat)) (h4 : (M (c + 4) l3.toNat) < 24) : pm_Run d 123 0 [vA t, vA c, vA b, vI l3, PU] [] (GF X, M, PTF v) K ↔ pm_Call d 119 [vA c, vA b, vI l3, vI (M (t + 2) (M (c + 4) l3.toNat).toNat)] (GF X, M, PTF v) (fun r9 S1 => pm_Run d 123 17 [vA t, vA c, vA b, vI l3, PU] (pm_push r9 []) S1 K) := by
  refine (px_go (by decide +kernel : pm_fe 123 0 = some (.aload_n 1, 1)) rfl).trans ?_
  refine (px_go (by decide +kernel : pm_fe 123 1 = some (.aload_n 2, 1)) rfl).trans ?_
  refine (px_go (by decide +kernel : pm_fe 123 2 = some (.iload_n 3, 1)) rfl).trans ?_
  refine (px_go (by decide +kernel : pm_fe 123 3 = some (.aload_n 0, 1)) rfl).trans ?_
  refine (ry_get2 (idx := 15) (ci := 9) (k := 1) (tis0 ht) (tip1 ht) (by decide +kernel)).trans ?_
  refine (px_go (by decide +kernel : pm_fe 123 7 = some (.aload_n 1, 1)) rfl).trans ?_
  refine (ry_get2 (idx := 115) (ci := 1) (k := 11) (chs0 hc) (chp0_11 hc) (by decide +kernel)).trans ?_
  refine (px_go (by decide +kernel : pm_fe 123 11 = some (.iload_n 3, 1)) rfl).trans ?_
  refine (ry_iald (chs4 hc) h1 h2 (by decide +kernel)).trans ?_
  refine (ry_iald (tis2 ht) h3 h4 (by decide +kernel)).trans ?_
  refine (px_s4 (idx := 121) (m' := 119) (nest := 0) (by decide +kernel)).trans ((and_iff_right (by simp [pm_wl_n, pm_wl_c, pm_w] : pm_wl [] ≤ 8)).trans ?_)
  exact Iff.rfl
theorem r123_17 {d : Nat} {b c t : Nat} {X : Nat × (Nat → Int)} {v : Nat → Int} {M : PH} {K : PV → PS → Prop} {l3 : Int} (hc : isCh c) : pm_Run d 123 17 [vA t, vA c, vA b, vI l3, PU] [] (GF X, M, PTF v) K ↔ pm_Call d 46 [vA (c + 15), vI 1] (GF X, M, PTF v) (fun r9 S1 => pm_Run d 123 26 [vA t, vA c, vA b, vI l3, PU] (pm_push r9 [vI 0]) S1 K) := by
  refine (px_go (by decide +kernel : pm_fe 123 17 = some (.iconst 0, 1)) rfl).trans ?_
  refine (px_go (by decide +kernel : pm_fe 123 18 = some (.aload_n 1, 1)) rfl).trans ?_
  refine (ry_get2 (idx := 45) (ci := 1) (k := 17) (chs0 hc) (chp0_17 hc) (by decide +kernel)).trans ?_
  refine (px_go (by decide +kernel : pm_fe 123 22 = some (.iconst 1, 1)) rfl).trans ?_
  refine (ry_v1 (idx := 70) (m' := 46) (ci := 3) (chs15 hc) (by simp [pm_wl_n, pm_wl_c, pm_w] : pm_wl [vI 0] ≤ 8) (by decide +kernel)).trans ?_
  exact Iff.rfl
theorem r123_26 {d : Nat} {b c t : Nat} {X : Nat × (Nat → Int)} {v : Nat → Int} {M : PH} {K : PV → PS → Prop} {l3 s0 s1 : Int} : pm_Run d 123 26 [vA t, vA c, vA b, vI l3, PU] [vI s0, vI s1] (GF X, M, PTF v) K ↔ pm_Call d 177 [vI s1, vI s0, vI 99] (GF X, M, PTF v) (fun r9 S1 => pm_Run d 123 31 [vA t, vA c, vA b, vI l3, PU] (pm_push r9 []) S1 K) := by
  refine (px_go (by decide +kernel : pm_fe 123 26 = some (.bipush 99, 2)) rfl).trans ?_
  refine (px_s3 (idx := 73) (m' := 177) (nest := 1) (by decide +kernel)).trans ((and_iff_right (by simp [pm_wl_n, pm_wl_c, pm_w] : pm_wl [] ≤ 8)).trans ?_)
  exact Iff.rfl
theorem r123_31 {d : Nat} {b c t : Nat} {X : Nat × (Nat → Int)} {v : Nat → Int} {M : PH} {K : PV → PS → Prop} {l3 s0 : Int} (hb : isMo b) (h1 : 0 ≤ l3) (h2 : l3 < 8) (h3 : inR ((M (b + 3) l3.toNat) + s0)) : pm_Run d 123 31 [vA t, vA c, vA b, vI l3, PU] [vI s0] (GF X, M, PTF v) K ↔ K PU (GF X, pm_sa M (b + 3) (pm_up (M (b + 3)) l3.toNat (min 9999 ((M (b + 3) l3.toNat) + s0))), PTF v) := by
  refine (px_go (by decide +kernel : pm_fe 123 31 = some (.istore 4, 2)) rfl).trans ?_
  refine (px_go (by decide +kernel : pm_fe 123 33 = some (.aload_n 2, 1)) rfl).trans ?_
  refine (ry_get2 (idx := 106) (ci := 5) (k := 3) (mos0 hb) (mop3 hb) (by decide +kernel)).trans ?_
  refine (px_go (by decide +kernel : pm_fe 123 37 = some (.iload_n 3, 1)) rfl).trans ?_
  refine (px_go (by decide +kernel : pm_fe 123 38 = some (.sipush 9999, 3)) rfl).trans ?_
  refine (px_go (by decide +kernel : pm_fe 123 41 = some (.aload_n 2, 1)) rfl).trans ?_
  refine (ry_get2 (idx := 106) (ci := 5) (k := 3) (mos0 hb) (mop3 hb) (by decide +kernel)).trans ?_
  refine (px_go (by decide +kernel : pm_fe 123 45 = some (.iload_n 3, 1)) rfl).trans ?_
  refine (ry_iald (mos3 hb) h1 h2 (by decide +kernel)).trans ?_
  refine (px_go (by decide +kernel : pm_fe 123 47 = some (.iload 4, 2)) rfl).trans ?_
  refine (px_go (by decide +kernel : pm_fe 123 49 = some (.iadd, 1)) rfl).trans ?_
  refine (ry_mn (idx := 64) (by decide : (-2147483648 ≤ (9999 : Int) ∧ (9999 : Int) < 2147483648)) h3 (by simp [pm_wl_n, pm_wl_c, pm_w] : pm_wl [vI l3, vA (b + 3)] ≤ 8) (by decide +kernel)).trans ?_
  refine (ry_iast (mos3 hb) h1 h2 (by decide +kernel)).trans ?_
  refine (px_rv (by decide +kernel)).trans ?_
  exact Iff.rfl
-- X9_pay pay(LMoonTender$Moment;II)V
theorem r124_0 {d : Nat} {b : Nat} {X : Nat × (Nat → Int)} {v : Nat → Int} {M : PH} {K : PV → PS → Prop} {l1 l2 : Int} (hb : isMo b) (h1 : 0 ≤ l1) (h2 : l1 < 8) (h3 : 0 ≤ l2) (h4 : l2 < 24) (h5 : inR (M (b + 3) l1.toNat)) (h6 : inR (M (b + 4) l2.toNat)) : pm_Run d 124 0 [vA b, vI l1, vI l2] [] (GF X, M, PTF v) K ↔ if M (b + 3) l1.toNat < M (b + 4) l2.toNat then pm_Run d 124 33 [vA b, vI l1, vI l2] [] (GF X, M, PTF v) K else pm_Run d 124 15 [vA b, vI l1, vI l2] [] (GF X, M, PTF v) K := by
  refine (px_go (by decide +kernel : pm_fe 124 0 = some (.aload_n 0, 1)) rfl).trans ?_
  refine (ry_get2 (idx := 106) (ci := 5) (k := 3) (mos0 hb) (mop3 hb) (by decide +kernel)).trans ?_
  refine (px_go (by decide +kernel : pm_fe 124 4 = some (.iload_n 1, 1)) rfl).trans ?_
  refine (ry_iald (mos3 hb) h1 h2 (by decide +kernel)).trans ?_
  refine (px_go (by decide +kernel : pm_fe 124 6 = some (.aload_n 0, 1)) rfl).trans ?_
  refine (ry_get2 (idx := 154) (ci := 5) (k := 4) (mos0 hb) (mop4 hb) (by decide +kernel)).trans ?_
  refine (px_go (by decide +kernel : pm_fe 124 10 = some (.iload_n 2, 1)) rfl).trans ?_
  refine (ry_iald (mos4 hb) h3 h4 (by decide +kernel)).trans ?_
  refine (ry_ic_lt (off := 21) (tgt := 33) h5 h6 (by decide +kernel)).trans ?_
  exact Iff.rfl
theorem r124_15 {d : Nat} {b : Nat} {X : Nat × (Nat → Int)} {v : Nat → Int} {M : PH} {K : PV → PS → Prop} {l1 l2 : Int} (hb : isMo b) (h1 : 0 ≤ l1) (h2 : l1 < 8) (h3 : 0 ≤ l2) (h4 : l2 < 24) : pm_Run d 124 15 [vA b, vI l1, vI l2] [] (GF X, M, PTF v) K ↔ pm_Run d 124 58 [vA b, vI l1, vI l2] [] (GF X, pm_sa M (b + 3) (pm_up (M (b + 3)) l1.toNat ((M (b + 3) l1.toNat) - (M (b + 4) l2.toNat))), PTF v) K := by
  refine (px_go (by decide +kernel : pm_fe 124 15 = some (.aload_n 0, 1)) rfl).trans ?_
  refine (ry_get2 (idx := 106) (ci := 5) (k := 3) (mos0 hb) (mop3 hb) (by decide +kernel)).trans ?_
  refine (px_go (by decide +kernel : pm_fe 124 19 = some (.iload_n 1, 1)) rfl).trans ?_
  refine (px_go (by decide +kernel : pm_fe 124 20 = some (.dup2, 1)) rfl).trans ?_
  refine (ry_iald (mos3 hb) h1 h2 (by decide +kernel)).trans ?_
  refine (px_go (by decide +kernel : pm_fe 124 22 = some (.aload_n 0, 1)) rfl).trans ?_
  refine (ry_get2 (idx := 154) (ci := 5) (k := 4) (mos0 hb) (mop4 hb) (by decide +kernel)).trans ?_
  refine (px_go (by decide +kernel : pm_fe 124 26 = some (.iload_n 2, 1)) rfl).trans ?_
  refine (ry_iald (mos4 hb) h3 h4 (by decide +kernel)).trans ?_
  refine (px_go (by decide +kernel : pm_fe 124 28 = some (.isub, 1)) rfl).trans ?_
  refine (ry_iast (mos3 hb) h1 h2 (by decide +kernel)).trans ?_
  refine (px_goto (off := 28) (tgt := 58) (by decide +kernel)).trans ?_
  exact Iff.rfl
theorem r124_33 {d : Nat} {b : Nat} {X : Nat × (Nat → Int)} {v : Nat → Int} {M : PH} {K : PV → PS → Prop} {l1 l2 : Int} (hb : isMo b) (h1 : 0 ≤ l2) (h2 : l2 < 24) (h3 : inR ((M (b + 5) l2.toNat) + (M (b + 4) l2.toNat))) : pm_Run d 124 33 [vA b, vI l1, vI l2] [] (GF X, M, PTF v) K ↔ pm_Run d 124 58 [vA b, vI l1, vI l2] [] (GF X, pm_sa M (b + 5) (pm_up (M (b + 5)) l2.toNat (min 9999 ((M (b + 5) l2.toNat) + (M (b + 4) l2.toNat)))), PTF v) K := by
  refine (px_go (by decide +kernel : pm_fe 124 33 = some (.aload_n 0, 1)) rfl).trans ?_
  refine (ry_get2 (idx := 157) (ci := 5) (k := 5) (mos0 hb) (mop5 hb) (by decide +kernel)).trans ?_
  refine (px_go (by decide +kernel : pm_fe 124 37 = some (.iload_n 2, 1)) rfl).trans ?_
  refine (px_go (by decide +kernel : pm_fe 124 38 = some (.sipush 9999, 3)) rfl).trans ?_
  refine (px_go (by decide +kernel : pm_fe 124 41 = some (.aload_n 0, 1)) rfl).trans ?_
  refine (ry_get2 (idx := 157) (ci := 5) (k := 5) (mos0 hb) (mop5 hb) (by decide +kernel)).trans ?_
  refine (px_go (by decide +kernel : pm_fe 124 45 = some (.iload_n 2, 1)) rfl).trans ?_
  refine (ry_iald (mos5 hb) h1 h2 (by decide +kernel)).trans ?_
  refine (px_go (by decide +kernel : pm_fe 124 47 = some (.aload_n 0, 1)) rfl).trans ?_
  refine (ry_get2 (idx := 154) (ci := 5) (k := 4) (mos0 hb) (mop4 hb) (by decide +kernel)).trans ?_
  refine (px_go (by decide +kernel : pm_fe 124 51 = some (.iload_n 2, 1)) rfl).trans ?_
  refine (ry_iald (mos4 hb) h1 h2 (by decide +kernel)).trans ?_
  refine (px_go (by decide +kernel : pm_fe 124 53 = some (.iadd, 1)) rfl).trans ?_
  refine (ry_mn (idx := 64) (by decide : (-2147483648 ≤ (9999 : Int) ∧ (9999 : Int) < 2147483648)) h3 (by simp [pm_wl_n, pm_wl_c, pm_w] : pm_wl [vI l2, vA (b + 5)] ≤ 8) (by decide +kernel)).trans ?_
  refine (ry_iast (mos5 hb) h1 h2 (by decide +kernel)).trans ?_
  exact Iff.rfl
theorem r124_58 {d : Nat} {b : Nat} {X : Nat × (Nat → Int)} {v : Nat → Int} {M : PH} {K : PV → PS → Prop} {l1 l2 : Int} (hb : isMo b) (h1 : 0 ≤ l2) (h2 : l2 < 24) (h3 : inR (M (b + 5) l2.toNat)) : pm_Run d 124 58 [vA b, vI l1, vI l2] [] (GF X, M, PTF v) K ↔ if M (b + 5) l2.toNat ≤ 0 then pm_Run d 124 104 [vA b, vI l1, vI l2] [] (GF X, M, PTF v) K else pm_Run d 124 67 [vA b, vI l1, vI l2] [] (GF X, M, PTF v) K := by
  refine (px_go (by decide +kernel : pm_fe 124 58 = some (.aload_n 0, 1)) rfl).trans ?_
  refine (ry_get2 (idx := 157) (ci := 5) (k := 5) (mos0 hb) (mop5 hb) (by decide +kernel)).trans ?_
  refine (px_go (by decide +kernel : pm_fe 124 62 = some (.iload_n 2, 1)) rfl).trans ?_
  refine (ry_iald (mos5 hb) h1 h2 (by decide +kernel)).trans ?_
  refine (ry_if_le (off := 40) (tgt := 104) h3 (by decide +kernel)).trans ?_
  exact Iff.rfl
theorem r124_67 {d : Nat} {b : Nat} {X : Nat × (Nat → Int)} {v : Nat → Int} {M : PH} {K : PV → PS → Prop} {l1 l2 : Int} (hb : isMo b) (h1 : 0 ≤ l1) (h2 : l1 < 8) (h3 : 0 ≤ l2) (h4 : l2 < 24) (h5 : inR (M (b + 3) l1.toNat)) (h6 : inR (M (b + 5) l2.toNat)) : pm_Run d 124 67 [vA b, vI l1, vI l2] [] (GF X, M, PTF v) K ↔ if M (b + 3) l1.toNat < M (b + 5) l2.toNat then pm_Run d 124 104 [vA b, vI l1, vI l2] [] (GF X, M, PTF v) K else pm_Run d 124 82 [vA b, vI l1, vI l2] [] (GF X, M, PTF v) K := by
  refine (px_go (by decide +kernel : pm_fe 124 67 = some (.aload_n 0, 1)) rfl).trans ?_
  refine (ry_get2 (idx := 106) (ci := 5) (k := 3) (mos0 hb) (mop3 hb) (by decide +kernel)).trans ?_
  refine (px_go (by decide +kernel : pm_fe 124 71 = some (.iload_n 1, 1)) rfl).trans ?_
  refine (ry_iald (mos3 hb) h1 h2 (by decide +kernel)).trans ?_
  refine (px_go (by decide +kernel : pm_fe 124 73 = some (.aload_n 0, 1)) rfl).trans ?_
  refine (ry_get2 (idx := 157) (ci := 5) (k := 5) (mos0 hb) (mop5 hb) (by decide +kernel)).trans ?_
  refine (px_go (by decide +kernel : pm_fe 124 77 = some (.iload_n 2, 1)) rfl).trans ?_
  refine (ry_iald (mos5 hb) h3 h4 (by decide +kernel)).trans ?_
  refine (ry_ic_lt (off := 25) (tgt := 104) h5 h6 (by decide +kernel)).trans ?_
  exact Iff.rfl
theorem r124_82 {d : Nat} {b : Nat} {X : Nat × (Nat → Int)} {v : Nat → Int} {M : PH} {K : PV → PS → Prop} {l1 l2 : Int} (hb : isMo b) (h1 : 0 ≤ l1) (h2 : l1 < 8) (h3 : 0 ≤ l2) (h4 : l2 < 24) : pm_Run d 124 82 [vA b, vI l1, vI l2] [] (GF X, M, PTF v) K ↔ pm_Run d 124 97 [vA b, vI l1, vI l2] [] (GF X, pm_sa M (b + 3) (pm_up (M (b + 3)) l1.toNat ((M (b + 3) l1.toNat) - (M (b + 5) l2.toNat))), PTF v) K := by
  refine (px_go (by decide +kernel : pm_fe 124 82 = some (.aload_n 0, 1)) rfl).trans ?_
  refine (ry_get2 (idx := 106) (ci := 5) (k := 3) (mos0 hb) (mop3 hb) (by decide +kernel)).trans ?_
  refine (px_go (by decide +kernel : pm_fe 124 86 = some (.iload_n 1, 1)) rfl).trans ?_
  refine (px_go (by decide +kernel : pm_fe 124 87 = some (.dup2, 1)) rfl).trans ?_
  refine (ry_iald (mos3 hb) h1 h2 (by decide +kernel)).trans ?_
  refine (px_go (by decide +kernel : pm_fe 124 89 = some (.aload_n 0, 1)) rfl).trans ?_
  refine (ry_get2 (idx := 157) (ci := 5) (k := 5) (mos0 hb) (mop5 hb) (by decide +kernel)).trans ?_
  refine (px_go (by decide +kernel : pm_fe 124 93 = some (.iload_n 2, 1)) rfl).trans ?_
  refine (ry_iald (mos5 hb) h3 h4 (by decide +kernel)).trans ?_
  refine (px_go (by decide +kernel : pm_fe 124 95 = some (.isub, 1)) rfl).trans ?_
  refine (ry_iast (mos3 hb) h1 h2 (by decide +kernel)).trans ?_
  exact Iff.rfl
theorem r124_97 {d : Nat} {b : Nat} {X : Nat × (Nat → Int)} {v : Nat → Int} {M : PH} {K : PV → PS → Prop} {l1 l2 : Int} (hb : isMo b) (h1 : 0 ≤ l2) (h2 : l2 < 24) : pm_Run d 124 97 [vA b, vI l1, vI l2] [] (GF X, M, PTF v) K ↔ pm_Run d 124 104 [vA b, vI l1, vI l2] [] (GF X, pm_sa M (b + 5) (pm_up (M (b + 5)) l2.toNat 0), PTF v) K := by
  refine (px_go (by decide +kernel : pm_fe 124 97 = some (.aload_n 0, 1)) rfl).trans ?_
  refine (ry_get2 (idx := 157) (ci := 5) (k := 5) (mos0 hb) (mop5 hb) (by decide +kernel)).trans ?_
  refine (px_go (by decide +kernel : pm_fe 124 101 = some (.iload_n 2, 1)) rfl).trans ?_
  refine (px_go (by decide +kernel : pm_fe 124 102 = some (.iconst 0, 1)) rfl).trans ?_
  refine (ry_iast (mos5 hb) h1 h2 (by decide +kernel)).trans ?_
  exact Iff.rfl
theorem r124_104 {d : Nat} {b : Nat} {X : Nat × (Nat → Int)} {v : Nat → Int} {M : PH} {K : PV → PS → Prop} {l1 l2 : Int} : pm_Run d 124 104 [vA b, vI l1, vI l2] [] (GF X, M, PTF v) K ↔ K PU (GF X, M, PTF v) := by
  refine (px_rv (by decide +kernel)).trans ?_
  exact Iff.rfl
