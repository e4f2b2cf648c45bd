-- X8_paint paint(LMoonTender$Chart;LMoonTender$Moment;)V
theorem r104_0 {d : Nat} {b c : Nat} {X : Nat × (Nat → Int)} {v : Nat → Int} {M : PH} {K : PV → PS → Prop} : pm_Run d 104 0 [vA 225, vA c, vA b, PU, PU] [] (GF X, M, PTF v) K ↔ pm_Run d 104 5 [vA 225, vA c, vA b, PU, PU] [] (GF X, pm_sa M 225 (pm_up (M 225) 2 0), PTF v) K := by
  refine (px_go (by decide +kernel : pm_fe 104 0 = some (.aload_n 0, 1)) rfl).trans ?_
  refine (px_go (by decide +kernel : pm_fe 104 1 = some (.iconst 0, 1)) rfl).trans ?_
  refine (ry_put0 (idx := 25) (ci := 8) (k := 2) (by decide +kernel : 225 < 283 ∧ SHF 225 = (8, 6)) (by decide +kernel)).trans ?_
  exact Iff.rfl
theorem r104_5 {d : Nat} {b c : Nat} {X : Nat × (Nat → Int)} {v : Nat → Int} {M : PH} {K : PV → PS → Prop} (hb : isMo b) : pm_Run d 104 5 [vA 225, vA c, vA b, PU, PU] [] (GF X, M, PTF v) K ↔ pm_Call d 108 [vA 225, vI (M b 0)] (GF X, M, PTF v) (fun r9 S1 => pm_Run d 104 13 [vA 225, vA c, vA b, PU, PU] (pm_push r9 []) S1 K) := by
  refine (px_go (by decide +kernel : pm_fe 104 5 = some (.aload_n 0, 1)) rfl).trans ?_
  refine (px_go (by decide +kernel : pm_fe 104 6 = some (.aload_n 2, 1)) rfl).trans ?_
  refine (ry_get0 (idx := 29) (ci := 5) (k := 0) (mos0 hb) (by decide +kernel)).trans ?_
  refine (ry_v1 (idx := 32) (m' := 108) (ci := 8) (by decide +kernel : 225 < 283 ∧ SHF 225 = (8, 6)) (by simp [pm_wl_n, pm_wl_c, pm_w] : pm_wl [] ≤ 8) (by decide +kernel)).trans ?_
  exact Iff.rfl
theorem r104_13 {d : Nat} {b c : Nat} {X : Nat × (Nat → Int)} {v : Nat → Int} {M : PH} {K : PV → PS → Prop} : pm_Run d 104 13 [vA 225, vA c, vA b, PU, PU] [] (GF X, M, PTF v) K ↔ pm_Run d 104 15 [vA 225, vA c, vA b, vI 0, PU] [] (GF X, M, PTF v) K := by
  refine (px_go (by decide +kernel : pm_fe 104 13 = some (.iconst 0, 1)) rfl).trans ?_
  refine (px_go (by decide +kernel : pm_fe 104 14 = some (.istore_n 3, 1)) rfl).trans ?_
  exact Iff.rfl
theorem r104_15 {d : Nat} {b c : Nat} {X : Nat × (Nat → Int)} {v : Nat → Int} {M : PH} {K : PV → PS → Prop} {l3 : Int} (hc : isCh c) (h1 : inR l3) (h2 : inR (M c 1)) : pm_Run d 104 15 [vA 225, vA c, vA b, vI l3, PU] [] (GF X, M, PTF v) K ↔ if M c 1 ≤ l3 then pm_Run d 104 49 [vA 225, vA c, vA b, vI l3, PU] [] (GF X, M, PTF v) K else pm_Run d 104 23 [vA 225, vA c, vA b, vI l3, PU] [] (GF X, M, PTF v) K := by
  refine (px_go (by decide +kernel : pm_fe 104 15 = some (.iload_n 3, 1)) rfl).trans ?_
  refine (px_go (by decide +kernel : pm_fe 104 16 = some (.aload_n 1, 1)) rfl).trans ?_
  refine (ry_get0 (idx := 36) (ci := 1) (k := 1) (chs0 hc) (by decide +kernel)).trans ?_
  refine (ry_ic_ge (off := 29) (tgt := 49) h1 h2 (by decide +kernel)).trans ?_
  exact Iff.rfl
theorem r104_23 {d : Nat} {b c : Nat} {X : Nat × (Nat → Int)} {v : Nat → Int} {M : PH} {K : PV → PS → Prop} {l3 : Int} (hb : isMo b) (h1 : 0 ≤ l3) (h2 : l3 < 3) : pm_Run d 104 23 [vA 225, vA c, vA b, vI l3, PU] [] (GF X, M, PTF v) K ↔ pm_Call d 107 [vA 225, vI (M (b + 1) l3.toNat)] (GF X, M, PTF v) (fun r9 S1 => pm_Run d 104 33 [vA 225, vA c, vA b, vI l3, PU] (pm_push r9 []) S1 K) := by
  refine (px_go (by decide +kernel : pm_fe 104 23 = some (.aload_n 0, 1)) rfl).trans ?_
  refine (px_go (by decide +kernel : pm_fe 104 24 = some (.aload_n 2, 1)) rfl).trans ?_
  refine (ry_get2 (idx := 41) (ci := 5) (k := 1) (mos0 hb) (mop1 hb) (by decide +kernel)).trans ?_
  refine (px_go (by decide +kernel : pm_fe 104 28 = some (.iload_n 3, 1)) rfl).trans ?_
  refine (ry_iald (mos1 hb) h1 h2 (by decide +kernel)).trans ?_
  refine (ry_v1 (idx := 45) (m' := 107) (ci := 8) (by decide +kernel : 225 < 283 ∧ SHF 225 = (8, 6)) (by simp [pm_wl_n, pm_wl_c, pm_w] : pm_wl [] ≤ 8) (by decide +kernel)).trans ?_
  exact Iff.rfl
theorem r104_33 {d : Nat} {b c : Nat} {X : Nat × (Nat → Int)} {v : Nat → Int} {M : PH} {K : PV → PS → Prop} {l3 : Int} (hb : isMo b) (h1 : 0 ≤ l3) (h2 : l3 < 3) : pm_Run d 104 33 [vA 225, vA c, vA b, vI l3, PU] [] (GF X, M, PTF v) K ↔ pm_Call d 107 [vA 225, vI (M (b + 2) l3.toNat)] (GF X, M, PTF v) (fun r9 S1 => pm_Run d 104 43 [vA 225, vA c, vA b, vI l3, PU] (pm_push r9 []) S1 K) := by
  refine (px_go (by decide +kernel : pm_fe 104 33 = some (.aload_n 0, 1)) rfl).trans ?_
  refine (px_go (by decide +kernel : pm_fe 104 34 = some (.aload_n 2, 1)) rfl).trans ?_
  refine (ry_get2 (idx := 48) (ci := 5) (k := 2) (mos0 hb) (mop2 hb) (by decide +kernel)).trans ?_
  refine (px_go (by decide +kernel : pm_fe 104 38 = some (.iload_n 3, 1)) rfl).trans ?_
  refine (ry_iald (mos2 hb) h1 h2 (by decide +kernel)).trans ?_
  refine (ry_v1 (idx := 45) (m' := 107) (ci := 8) (by decide +kernel : 225 < 283 ∧ SHF 225 = (8, 6)) (by simp [pm_wl_n, pm_wl_c, pm_w] : pm_wl [] ≤ 8) (by decide +kernel)).trans ?_
  exact Iff.rfl
theorem r104_43 {d : Nat} {b c : Nat} {X : Nat × (Nat → Int)} {v : Nat → Int} {M : PH} {K : PV → PS → Prop} {l3 : Int} : pm_Run d 104 43 [vA 225, vA c, vA b, vI l3, PU] [] (GF X, M, PTF v) K ↔ pm_Run d 104 15 [vA 225, vA c, vA b, vI (l3 + 1), PU] [] (GF X, M, PTF v) K := by
  refine (px_go (by decide +kernel : pm_fe 104 43 = some (.iinc 3 1, 3)) rfl).trans ?_
  refine (px_goto (off := (-31)) (tgt := 15) (by decide +kernel)).trans ?_
  exact Iff.rfl
theorem r104_49 {d : Nat} {b c : Nat} {X : Nat × (Nat → Int)} {v : Nat → Int} {M : PH} {K : PV → PS → Prop} {l3 : Int} : pm_Run d 104 49 [vA 225, vA c, vA b, vI l3, PU] [] (GF X, M, PTF v) K ↔ pm_Run d 104 51 [vA 225, vA c, vA b, vI 0, PU] [] (GF X, M, PTF v) K := by
  refine (px_go (by decide +kernel : pm_fe 104 49 = some (.iconst 0, 1)) rfl).trans ?_
  refine (px_go (by decide +kernel : pm_fe 104 50 = some (.istore_n 3, 1)) rfl).trans ?_
  exact Iff.rfl
theorem r104_51 {d : Nat} {b c : Nat} {X : Nat × (Nat → Int)} {v : Nat → Int} {M : PH} {K : PV → PS → Prop} {l3 : Int} {l4 : PV} (hc : isCh c) (h1 : inR l3) (h2 : inR (M c 2)) : pm_Run d 104 51 [vA 225, vA c, vA b, vI l3, l4] [] (GF X, M, PTF v) K ↔ if M c 2 ≤ l3 then pm_Run d 104 123 [vA 225, vA c, vA b, vI l3, l4] [] (GF X, M, PTF v) K else pm_Run d 104 59 [vA 225, vA c, vA b, vI l3, l4] [] (GF X, M, PTF v) K := by
  refine (px_go (by decide +kernel : pm_fe 104 51 = some (.iload_n 3, 1)) rfl).trans ?_
  refine (px_go (by decide +kernel : pm_fe 104 52 = some (.aload_n 1, 1)) rfl).trans ?_
  refine (ry_get0 (idx := 51) (ci := 1) (k := 2) (chs0 hc) (by decide +kernel)).trans ?_
  refine (ry_ic_ge (off := 67) (tgt := 123) h1 h2 (by decide +kernel)).trans ?_
  exact Iff.rfl
theorem r104_59 {d : Nat} {b c : Nat} {X : Nat × (Nat → Int)} {v : Nat → Int} {M : PH} {K : PV → PS → Prop} {l3 : Int} {l4 : PV} (hb : isMo b) (h1 : 0 ≤ l3) (h2 : l3 < 8) : pm_Run d 104 59 [vA 225, vA c, vA b, vI l3, l4] [] (GF X, M, PTF v) K ↔ pm_Call d 108 [vA 225, vI (M (b + 3) l3.toNat)] (GF X, M, PTF v) (fun r9 S1 => pm_Run d 104 69 [vA 225, vA c, vA b, vI l3, l4] (pm_push r9 []) S1 K) := by
  refine (px_go (by decide +kernel : pm_fe 104 59 = some (.aload_n 0, 1)) rfl).trans ?_
  refine (px_go (by decide +kernel : pm_fe 104 60 = some (.aload_n 2, 1)) rfl).trans ?_
  refine (ry_get2 (idx := 54) (ci := 5) (k := 3) (mos0 hb) (mop3 hb) (by decide +kernel)).trans ?_
  refine (px_go (by decide +kernel : pm_fe 104 64 = some (.iload_n 3, 1)) rfl).trans ?_
  refine (ry_iald (mos3 hb) h1 h2 (by decide +kernel)).trans ?_
  refine (ry_v1 (idx := 32) (m' := 108) (ci := 8) (by decide +kernel : 225 < 283 ∧ SHF 225 = (8, 6)) (by simp [pm_wl_n, pm_wl_c, pm_w] : pm_wl [] ≤ 8) (by decide +kernel)).trans ?_
  exact Iff.rfl
theorem r104_69 {d : Nat} {b c : Nat} {X : Nat × (Nat → Int)} {v : Nat → Int} {M : PH} {K : PV → PS → Prop} {l3 : Int} {l4 : PV} : pm_Run d 104 69 [vA 225, vA c, vA b, vI l3, l4] [] (GF X, M, PTF v) K ↔ pm_Run d 104 72 [vA 225, vA c, vA b, vI l3, vI 0] [] (GF X, M, PTF v) K := by
  refine (px_go (by decide +kernel : pm_fe 104 69 = some (.iconst 0, 1)) rfl).trans ?_
  refine (px_go (by decide +kernel : pm_fe 104 70 = some (.istore 4, 2)) rfl).trans ?_
  exact Iff.rfl
theorem r104_72 {d : Nat} {b c : Nat} {X : Nat × (Nat → Int)} {v : Nat → Int} {M : PH} {K : PV → PS → Prop} {l3 l4 : Int} (hc : isCh c) (h1 : inR l4) (h2 : inR (M c 1)) : pm_Run d 104 72 [vA 225, vA c, vA b, vI l3, vI l4] [] (GF X, M, PTF v) K ↔ if M c 1 ≤ l4 then pm_Run d 104 117 [vA 225, vA c, vA b, vI l3, vI l4] [] (GF X, M, PTF v) K else pm_Run d 104 81 [vA 225, vA c, vA b, vI l3, vI l4] [] (GF X, M, PTF v) K := by
  refine (px_go (by decide +kernel : pm_fe 104 72 = some (.iload 4, 2)) rfl).trans ?_
  refine (px_go (by decide +kernel : pm_fe 104 74 = some (.aload_n 1, 1)) rfl).trans ?_
  refine (ry_get0 (idx := 36) (ci := 1) (k := 1) (chs0 hc) (by decide +kernel)).trans ?_
  refine (ry_ic_ge (off := 39) (tgt := 117) h1 h2 (by decide +kernel)).trans ?_
  exact Iff.rfl
theorem r104_81 {d : Nat} {b c : Nat} {X : Nat × (Nat → Int)} {v : Nat → Int} {M : PH} {K : PV → PS → Prop} {l3 l4 : Int} (hb : isMo b) : pm_Run d 104 81 [vA 225, vA c, vA b, vI l3, vI l4] [] (GF X, M, PTF v) K ↔ pm_Call d 55 [vI l3, vI l4] (GF X, M, PTF v) (fun r9 S1 => pm_Run d 104 92 [vA 225, vA c, vA b, vI l3, vI l4] (pm_push r9 [vA (b + 4), vA 225]) S1 K) := by
  refine (px_go (by decide +kernel : pm_fe 104 81 = some (.aload_n 0, 1)) rfl).trans ?_
  refine (px_go (by decide +kernel : pm_fe 104 82 = some (.aload_n 2, 1)) rfl).trans ?_
  refine (ry_get2 (idx := 57) (ci := 5) (k := 4) (mos0 hb) (mop4 hb) (by decide +kernel)).trans ?_
  refine (px_go (by decide +kernel : pm_fe 104 86 = some (.iload_n 3, 1)) rfl).trans ?_
  refine (px_go (by decide +kernel : pm_fe 104 87 = some (.iload 4, 2)) rfl).trans ?_
  refine (px_s2 (idx := 60) (m' := 55) (nest := 0) (by decide +kernel)).trans ((and_iff_right (by simp [pm_wl_n, pm_wl_c, pm_w] : pm_wl [vA (b + 4), vA 225] ≤ 8)).trans ?_)
  exact Iff.rfl
theorem r104_92 {d : Nat} {b c : Nat} {X : Nat × (Nat → Int)} {v : Nat → Int} {M : PH} {K : PV → PS → Prop} {l3 l4 s0 : Int} (hb : isMo b) (h1 : 0 ≤ s0) (h2 : s0 < 24) : pm_Run d 104 92 [vA 225, vA c, vA b, vI l3, vI l4] [vI s0, vA (b + 4), vA 225] (GF X, M, PTF v) K ↔ pm_Call d 107 [vA 225, vI (M (b + 4) s0.toNat)] (GF X, M, PTF v) (fun r9 S1 => pm_Run d 104 96 [vA 225, vA c, vA b, vI l3, vI l4] (pm_push r9 []) S1 K) := by
  refine (ry_iald (mos4 hb) h1 h2 (by decide +kernel)).trans ?_
  refine (ry_v1 (idx := 45) (m' := 107) (ci := 8) (by decide +kernel : 225 < 283 ∧ SHF 225 = (8, 6)) (by simp [pm_wl_n, pm_wl_c, pm_w] : pm_wl [] ≤ 8) (by decide +kernel)).trans ?_
  exact Iff.rfl
theorem r104_96 {d : Nat} {b c : Nat} {X : Nat × (Nat → Int)} {v : Nat → Int} {M : PH} {K : PV → PS → Prop} {l3 l4 : Int} (hb : isMo b) : pm_Run d 104 96 [vA 225, vA c, vA b, vI l3, vI l4] [] (GF X, M, PTF v) K ↔ pm_Call d 55 [vI l3, vI l4] (GF X, M, PTF v) (fun r9 S1 => pm_Run d 104 107 [vA 225, vA c, vA b, vI l3, vI l4] (pm_push r9 [vA (b + 5), vA 225]) S1 K) := by
  refine (px_go (by decide +kernel : pm_fe 104 96 = some (.aload_n 0, 1)) rfl).trans ?_
  refine (px_go (by decide +kernel : pm_fe 104 97 = some (.aload_n 2, 1)) rfl).trans ?_
  refine (ry_get2 (idx := 64) (ci := 5) (k := 5) (mos0 hb) (mop5 hb) (by decide +kernel)).trans ?_
  refine (px_go (by decide +kernel : pm_fe 104 101 = some (.iload_n 3, 1)) rfl).trans ?_
  refine (px_go (by decide +kernel : pm_fe 104 102 = some (.iload 4, 2)) rfl).trans ?_
  refine (px_s2 (idx := 60) (m' := 55) (nest := 0) (by decide +kernel)).trans ((and_iff_right (by simp [pm_wl_n, pm_wl_c, pm_w] : pm_wl [vA (b + 5), vA 225] ≤ 8)).trans ?_)
  exact Iff.rfl
theorem r104_107 {d : Nat} {b c : Nat} {X : Nat × (Nat → Int)} {v : Nat → Int} {M : PH} {K : PV → PS → Prop} {l3 l4 s0 : Int} (hb : isMo b) (h1 : 0 ≤ s0) (h2 : s0 < 24) : pm_Run d 104 107 [vA 225, vA c, vA b, vI l3, vI l4] [vI s0, vA (b + 5), vA 225] (GF X, M, PTF v) K ↔ pm_Call d 108 [vA 225, vI (M (b + 5) s0.toNat)] (GF X, M, PTF v) (fun r9 S1 => pm_Run d 104 111 [vA 225, vA c, vA b, vI l3, vI l4] (pm_push r9 []) S1 K) := by
  refine (ry_iald (mos5 hb) h1 h2 (by decide +kernel)).trans ?_
  refine (ry_v1 (idx := 32) (m' := 108) (ci := 8) (by decide +kernel : 225 < 283 ∧ SHF 225 = (8, 6)) (by simp [pm_wl_n, pm_wl_c, pm_w] : pm_wl [] ≤ 8) (by decide +kernel)).trans ?_
  exact Iff.rfl
theorem r104_111 {d : Nat} {b c : Nat} {X : Nat × (Nat → Int)} {v : Nat → Int} {M : PH} {K : PV → PS → Prop} {l3 l4 : Int} : pm_Run d 104 111 [vA 225, vA c, vA b, vI l3, vI l4] [] (GF X, M, PTF v) K ↔ pm_Run d 104 72 [vA 225, vA c, vA b, vI l3, vI (l4 + 1)] [] (GF X, M, PTF v) K := by
  refine (px_go (by decide +kernel : pm_fe 104 111 = some (.iinc 4 1, 3)) rfl).trans ?_
  refine (px_goto (off := (-42)) (tgt := 72) (by decide +kernel)).trans ?_
  exact Iff.rfl
theorem r104_117 {d : Nat} {b c : Nat} {X : Nat × (Nat → Int)} {v : Nat → Int} {M : PH} {K : PV → PS → Prop} {l3 l4 : Int} : pm_Run d 104 117 [vA 225, vA c, vA b, vI l3, vI l4] [] (GF X, M, PTF v) K ↔ pm_Run d 104 51 [vA 225, vA c, vA b, vI (l3 + 1), vI l4] [] (GF X, M, PTF v) K := by
  refine (px_go (by decide +kernel : pm_fe 104 117 = some (.iinc 3 1, 3)) rfl).trans ?_
  refine (px_goto (off := (-69)) (tgt := 51) (by decide +kernel)).trans ?_
  exact Iff.rfl
theorem r104_123 {d : Nat} {b c : Nat} {X : Nat × (Nat → Int)} {v : Nat → Int} {M : PH} {K : PV → PS → Prop} {l3 : Int} {l4 : PV} : pm_Run d 104 123 [vA 225, vA c, vA b, vI l3, l4] [] (GF X, M, PTF v) K ↔ pm_Call d 106 [vA 226, vI (M 225 2)] (GF X, M, PTF v) (fun r9 S1 => pm_Run d 104 135 [vA 225, vA c, vA b, vI l3, l4] (pm_push r9 [vA 225]) S1 K) := by
  refine (px_go (by decide +kernel : pm_fe 104 123 = some (.aload_n 0, 1)) rfl).trans ?_
  refine (px_go (by decide +kernel : pm_fe 104 124 = some (.aload_n 0, 1)) rfl).trans ?_
  refine (ry_get2 (idx := 11) (ci := 8) (k := 0) (by decide +kernel : 225 < 283 ∧ SHF 225 = (8, 6)) (ptf_l (a := 225) (k := 0) (n := 226) (by decide +kernel)) (by decide +kernel)).trans ?_
  refine (px_go (by decide +kernel : pm_fe 104 128 = some (.aload_n 0, 1)) rfl).trans ?_
  refine (ry_get0 (idx := 25) (ci := 8) (k := 2) (by decide +kernel : 225 < 283 ∧ SHF 225 = (8, 6)) (by decide +kernel)).trans ?_
  refine (px_s2 (idx := 67) (m' := 106) (nest := 0) (by decide +kernel)).trans ((and_iff_right (by simp [pm_wl_n, pm_wl_c, pm_w] : pm_wl [vA 225] ≤ 8)).trans ?_)
  exact Iff.rfl
theorem r104_135 {d : Nat} {b c : Nat} {X : Nat × (Nat → Int)} {v : Nat → Int} {M : PH} {K : PV → PS → Prop} {l3 s0 : Int} {l4 : PV} : pm_Run d 104 135 [vA 225, vA c, vA b, vI l3, l4] [vI s0, vA 225] (GF X, M, PTF v) K ↔ pm_Call d 107 [vA 225, vI s0] (GF X, M, PTF v) (fun r9 S1 => pm_Run d 104 138 [vA 225, vA c, vA b, vI l3, l4] (pm_push r9 []) S1 K) := by
  refine (ry_v1 (idx := 45) (m' := 107) (ci := 8) (by decide +kernel : 225 < 283 ∧ SHF 225 = (8, 6)) (by simp [pm_wl_n, pm_wl_c, pm_w] : pm_wl [] ≤ 8) (by decide +kernel)).trans ?_
  exact Iff.rfl
theorem r104_138 {d : Nat} {b c : Nat} {X : Nat × (Nat → Int)} {v : Nat → Int} {M : PH} {K : PV → PS → Prop} {l3 : Int} {l4 : PV} : pm_Run d 104 138 [vA 225, vA c, vA b, vI l3, l4] [] (GF X, M, PTF v) K ↔ K PU (GF X, M, PTF v) := by
  refine (px_rv (by decide +kernel)).trans ?_
  exact Iff.rfl
-- X8_shows shows(LMoonTender$Chart;[BI)Z
theorem r105_0 {d : Nat} {c r nr : Nat} {X : Nat × (Nat → Int)} {v : Nat → Int} {M : PH} {K : PV → PS → Prop} {l3 : Int} (hc : isCh c) (h1 : inR l3) (h2 : inR ((3 + (2 * (M c 1))) + ((M c 2) * (2 + (3 * (M c 1)))))) : pm_Run d 105 0 [vA 225, vA c, vA r, vI l3, PU, PU, PU] [] (GF X, M, PTF v) K ↔ if l3 ≠ (3 + (2 * (M c 1))) + ((M c 2) * (2 + (3 * (M c 1)))) then pm_Run d 105 55 [vA 225, vA c, vA r, vI l3, vI ((3 + (2 * (M c 1))) + ((M c 2) * (2 + (3 * (M c 1))))), PU, PU] [] (GF X, M, PTF v) K else pm_Run d 105 30 [vA 225, vA c, vA r, vI l3, vI ((3 + (2 * (M c 1))) + ((M c 2) * (2 + (3 * (M c 1))))), PU, PU] [] (GF X, M, PTF v) K := by
  refine (px_go (by decide +kernel : pm_fe 105 0 = some (.iconst 3, 1)) rfl).trans ?_
  refine (px_go (by decide +kernel : pm_fe 105 1 = some (.iconst 2, 1)) rfl).trans ?_
  refine (px_go (by decide +kernel : pm_fe 105 2 = some (.aload_n 1, 1)) rfl).trans ?_
  refine (ry_get0 (idx := 36) (ci := 1) (k := 1) (chs0 hc) (by decide +kernel)).trans ?_
  refine (px_go (by decide +kernel : pm_fe 105 6 = some (.imul, 1)) rfl).trans ?_
  refine (px_go (by decide +kernel : pm_fe 105 7 = some (.iadd, 1)) rfl).trans ?_
  refine (px_go (by decide +kernel : pm_fe 105 8 = some (.aload_n 1, 1)) rfl).trans ?_
  refine (ry_get0 (idx := 51) (ci := 1) (k := 2) (chs0 hc) (by decide +kernel)).trans ?_
  refine (px_go (by decide +kernel : pm_fe 105 12 = some (.iconst 2, 1)) rfl).trans ?_
  refine (px_go (by decide +kernel : pm_fe 105 13 = some (.iconst 3, 1)) rfl).trans ?_
  refine (px_go (by decide +kernel : pm_fe 105 14 = some (.aload_n 1, 1)) rfl).trans ?_
  refine (ry_get0 (idx := 36) (ci := 1) (k := 1) (chs0 hc) (by decide +kernel)).trans ?_
  refine (px_go (by decide +kernel : pm_fe 105 18 = some (.imul, 1)) rfl).trans ?_
  refine (px_go (by decide +kernel : pm_fe 105 19 = some (.iadd, 1)) rfl).trans ?_
  refine (px_go (by decide +kernel : pm_fe 105 20 = some (.imul, 1)) rfl).trans ?_
  refine (px_go (by decide +kernel : pm_fe 105 21 = some (.iadd, 1)) rfl).trans ?_
  refine (px_go (by decide +kernel : pm_fe 105 22 = some (.istore 4, 2)) rfl).trans ?_
  refine (px_go (by decide +kernel : pm_fe 105 24 = some (.iload_n 3, 1)) rfl).trans ?_
  refine (px_go (by decide +kernel : pm_fe 105 25 = some (.iload 4, 2)) rfl).trans ?_
  refine (ry_ic_ne (off := 28) (tgt := 55) h1 h2 (by decide +kernel)).trans ?_
  exact Iff.rfl
theorem r105_30 {d : Nat} {c r nr : Nat} {X : Nat × (Nat → Int)} {v : Nat → Int} {M : PH} {K : PV → PS → Prop} {l3 l4 : Int} (hr : r < 283 ∧ SHF r = (101, nr)) (h1 : inR l3) (h2 : inR (nr : Int)) : pm_Run d 105 30 [vA 225, vA c, vA r, vI l3, vI l4, PU, PU] [] (GF X, M, PTF v) K ↔ if (nr : Int) < l3 then pm_Run d 105 55 [vA 225, vA c, vA r, vI l3, vI l4, PU, PU] [] (GF X, M, PTF v) K else pm_Run d 105 36 [vA 225, vA c, vA r, vI l3, vI l4, PU, PU] [] (GF X, M, PTF v) K := by
  refine (px_go (by decide +kernel : pm_fe 105 30 = some (.iload_n 3, 1)) rfl).trans ?_
  refine (px_go (by decide +kernel : pm_fe 105 31 = some (.aload_n 2, 1)) rfl).trans ?_
  refine (ry_alen hr (by decide) (by decide +kernel)).trans ?_
  refine (ry_ic_gt (off := 22) (tgt := 55) h1 h2 (by decide +kernel)).trans ?_
  exact Iff.rfl
theorem r105_36 {d : Nat} {c r nr : Nat} {X : Nat × (Nat → Int)} {v : Nat → Int} {M : PH} {K : PV → PS → Prop} {l3 l4 : Int} (hr : r < 283 ∧ SHF r = (101, nr)) (h1 : 0 ≤ (l3 - 1)) (h2 : (l3 - 1) < nr) : pm_Run d 105 36 [vA 225, vA c, vA r, vI l3, vI l4, PU, PU] [] (GF X, M, PTF v) K ↔ pm_Call d 106 [vA r, vI (l3 - 1)] (GF X, M, PTF v) (fun r9 S1 => pm_Run d 105 52 [vA 225, vA c, vA r, vI l3, vI l4, PU, PU] (pm_push r9 [vI (pm_and (M r (l3 - 1).toNat) 255)]) S1 K) := by
  refine (px_go (by decide +kernel : pm_fe 105 36 = some (.aload_n 2, 1)) rfl).trans ?_
  refine (px_go (by decide +kernel : pm_fe 105 37 = some (.iload_n 3, 1)) rfl).trans ?_
  refine (px_go (by decide +kernel : pm_fe 105 38 = some (.iconst 1, 1)) rfl).trans ?_
  refine (px_go (by decide +kernel : pm_fe 105 39 = some (.isub, 1)) rfl).trans ?_
  refine (ry_bald hr h1 h2 (by decide +kernel)).trans ?_
  refine (px_go (by decide +kernel : pm_fe 105 41 = some (.sipush 255, 3)) rfl).trans ?_
  refine (px_go (by decide +kernel : pm_fe 105 44 = some (.iand, 1)) rfl).trans ?_
  refine (px_go (by decide +kernel : pm_fe 105 45 = some (.aload_n 2, 1)) rfl).trans ?_
  refine (px_go (by decide +kernel : pm_fe 105 46 = some (.iload_n 3, 1)) rfl).trans ?_
  refine (px_go (by decide +kernel : pm_fe 105 47 = some (.iconst 1, 1)) rfl).trans ?_
  refine (px_go (by decide +kernel : pm_fe 105 48 = some (.isub, 1)) rfl).trans ?_
  refine (px_s2 (idx := 67) (m' := 106) (nest := 0) (by decide +kernel)).trans ((and_iff_right (by simp [pm_wl_n, pm_wl_c, pm_w] : pm_wl [vI (pm_and (M r (l3 - 1).toNat) 255)] ≤ 8)).trans ?_)
  exact Iff.rfl
theorem r105_52 {d : Nat} {c r nr : Nat} {X : Nat × (Nat → Int)} {v : Nat → Int} {M : PH} {K : PV → PS → Prop} {l3 l4 s0 s1 : Int} (h1 : inR s1) (h2 : inR s0) : pm_Run d 105 52 [vA 225, vA c, vA r, vI l3, vI l4, PU, PU] [vI s0, vI s1] (GF X, M, PTF v) K ↔ if s1 = s0 then pm_Run d 105 57 [vA 225, vA c, vA r, vI l3, vI l4, PU, PU] [] (GF X, M, PTF v) K else pm_Run d 105 55 [vA 225, vA c, vA r, vI l3, vI l4, PU, PU] [] (GF X, M, PTF v) K := by
  refine (ry_ic_eq (off := 5) (tgt := 57) h1 h2 (by decide +kernel)).trans ?_
  exact Iff.rfl
theorem r105_55 {d : Nat} {c r nr : Nat} {X : Nat × (Nat → Int)} {v : Nat → Int} {M : PH} {K : PV → PS → Prop} {l3 l4 : Int} : pm_Run d 105 55 [vA 225, vA c, vA r, vI l3, vI l4, PU, PU] [] (GF X, M, PTF v) K ↔ K (vI 0) (GF X, M, PTF v) := by
  refine (px_go (by decide +kernel : pm_fe 105 55 = some (.iconst 0, 1)) rfl).trans ?_
  refine (px_rz (by decide +kernel)).trans ((and_iff_right (by decide : (0 : Int) = (0 : Int) ∨ (0 : Int) = (1 : Int))).trans ?_)
  exact Iff.rfl
theorem r105_79 {d : Nat} {c r nr : Nat} {X : Nat × (Nat → Int)} {v : Nat → Int} {M : PH} {K : PV → PS → Prop} {l3 l4 : Int} : pm_Run d 105 79 [vA 225, vA c, vA r, vI l3, vI l4, PU, PU] [] (GF X, M, PTF v) K ↔ pm_Call d 111 [vA 225, vI 9999] (GF X, M, PTF v) (fun r9 S1 => pm_Run d 105 90 [vA 225, vA c, vA r, vI l3, vI l4, PU, PU] (pm_push r9 [vA 227]) S1 K) := by
  refine (px_go (by decide +kernel : pm_fe 105 79 = some (.aload_n 0, 1)) rfl).trans ?_
  refine (ry_get2 (idx := 18) (ci := 8) (k := 1) (by decide +kernel : 225 < 283 ∧ SHF 225 = (8, 6)) (ptf_l (a := 225) (k := 1) (n := 227) (by decide +kernel)) (by decide +kernel)).trans ?_
  refine (px_go (by decide +kernel : pm_fe 105 83 = some (.aload_n 0, 1)) rfl).trans ?_
  refine (px_go (by decide +kernel : pm_fe 105 84 = some (.sipush 9999, 3)) rfl).trans ?_
  refine (ry_v1 (idx := 81) (m' := 111) (ci := 8) (by decide +kernel : 225 < 283 ∧ SHF 225 = (8, 6)) (by simp [pm_wl_n, pm_wl_c, pm_w] : pm_wl [vA 227] ≤ 8) (by decide +kernel)).trans ?_
  exact Iff.rfl
theorem r105_90 {d : Nat} {c r nr : Nat} {X : Nat × (Nat → Int)} {v : Nat → Int} {M : PH} {K : PV → PS → Prop} {l3 l4 s0 : Int} : pm_Run d 105 90 [vA 225, vA c, vA r, vI l3, vI l4, PU, PU] [vI s0, vA 227] (GF X, M, PTF v) K ↔ pm_Run d 105 93 [vA 225, vA c, vA r, vI l3, vI l4, PU, PU] [] (GF X, pm_sa M 227 (pm_up (M 227) 0 s0), PTF v) K := by
  refine (ry_put0 (idx := 29) (ci := 5) (k := 0) (by decide +kernel : 227 < 283 ∧ SHF 227 = (5, 6)) (by decide +kernel)).trans ?_
  exact Iff.rfl
theorem r105_93 {d : Nat} {c r nr : Nat} {X : Nat × (Nat → Int)} {v : Nat → Int} {M : PH} {K : PV → PS → Prop} {l3 l4 : Int} : pm_Run d 105 93 [vA 225, vA c, vA r, vI l3, vI l4, PU, PU] [] (GF X, M, PTF v) K ↔ pm_Run d 105 96 [vA 225, vA c, vA r, vI l3, vI l4, vI 0, PU] [] (GF X, M, PTF v) K := by
  refine (px_go (by decide +kernel : pm_fe 105 93 = some (.iconst 0, 1)) rfl).trans ?_
  refine (px_go (by decide +kernel : pm_fe 105 94 = some (.istore 5, 2)) rfl).trans ?_
  exact Iff.rfl
theorem r105_96 {d : Nat} {c r nr : Nat} {X : Nat × (Nat → Int)} {v : Nat → Int} {M : PH} {K : PV → PS → Prop} {l3 l4 l5 : Int} (hc : isCh c) (h1 : inR l5) (h2 : inR (M c 1)) : pm_Run d 105 96 [vA 225, vA c, vA r, vI l3, vI l4, vI l5, PU] [] (GF X, M, PTF v) K ↔ if M c 1 ≤ l5 then pm_Run d 105 147 [vA 225, vA c, vA r, vI l3, vI l4, vI l5, PU] [] (GF X, M, PTF v) K else pm_Run d 105 105 [vA 225, vA c, vA r, vI l3, vI l4, vI l5, PU] [] (GF X, M, PTF v) K := by
  refine (px_go (by decide +kernel : pm_fe 105 96 = some (.iload 5, 2)) rfl).trans ?_
  refine (px_go (by decide +kernel : pm_fe 105 98 = some (.aload_n 1, 1)) rfl).trans ?_
  refine (ry_get0 (idx := 36) (ci := 1) (k := 1) (chs0 hc) (by decide +kernel)).trans ?_
  refine (ry_ic_ge (off := 45) (tgt := 147) h1 h2 (by decide +kernel)).trans ?_
  exact Iff.rfl
theorem r105_105 {d : Nat} {c r nr : Nat} {X : Nat × (Nat → Int)} {v : Nat → Int} {M : PH} {K : PV → PS → Prop} {l3 l4 l5 : Int} (hc : isCh c) : pm_Run d 105 105 [vA 225, vA c, vA r, vI l3, vI l4, vI l5, PU] [] (GF X, M, PTF v) K ↔ pm_Call d 110 [vA 225, vI ((M c 0) - 1)] (GF X, M, PTF v) (fun r9 S1 => pm_Run d 105 124 [vA 225, vA c, vA r, vI l3, vI l4, vI l5, PU] (pm_push r9 [vI l5, vA 228]) S1 K) := by
  refine (px_go (by decide +kernel : pm_fe 105 105 = some (.aload_n 0, 1)) rfl).trans ?_
  refine (ry_get2 (idx := 18) (ci := 8) (k := 1) (by decide +kernel : 225 < 283 ∧ SHF 225 = (8, 6)) (ptf_l (a := 225) (k := 1) (n := 227) (by decide +kernel)) (by decide +kernel)).trans ?_
  refine (ry_get2 (idx := 41) (ci := 5) (k := 1) (by decide +kernel : 227 < 283 ∧ SHF 227 = (5, 6)) (ptf_l (a := 227) (k := 1) (n := 228) (by decide +kernel)) (by decide +kernel)).trans ?_
  refine (px_go (by decide +kernel : pm_fe 105 112 = some (.iload 5, 2)) rfl).trans ?_
  refine (px_go (by decide +kernel : pm_fe 105 114 = some (.aload_n 0, 1)) rfl).trans ?_
  refine (px_go (by decide +kernel : pm_fe 105 115 = some (.aload_n 1, 1)) rfl).trans ?_
  refine (ry_get0 (idx := 85) (ci := 1) (k := 0) (chs0 hc) (by decide +kernel)).trans ?_
  refine (px_go (by decide +kernel : pm_fe 105 119 = some (.iconst 1, 1)) rfl).trans ?_
  refine (px_go (by decide +kernel : pm_fe 105 120 = some (.isub, 1)) rfl).trans ?_
  refine (ry_v1 (idx := 88) (m' := 110) (ci := 8) (by decide +kernel : 225 < 283 ∧ SHF 225 = (8, 6)) (by simp [pm_wl_n, pm_wl_c, pm_w] : pm_wl [vI l5, vA 228] ≤ 8) (by decide +kernel)).trans ?_
  exact Iff.rfl
theorem r105_124 {d : Nat} {c r nr : Nat} {X : Nat × (Nat → Int)} {v : Nat → Int} {M : PH} {K : PV → PS → Prop} {l3 l4 l5 s0 s1 : Int} (h1 : 0 ≤ s1) (h2 : s1 < 3) : pm_Run d 105 124 [vA 225, vA c, vA r, vI l3, vI l4, vI l5, PU] [vI s0, vI s1, vA 228] (GF X, M, PTF v) K ↔ pm_Run d 105 125 [vA 225, vA c, vA r, vI l3, vI l4, vI l5, PU] [] (GF X, pm_sa M 228 (pm_up (M 228) s1.toNat s0), PTF v) K := by
  refine (ry_iast (by decide +kernel : 228 < 283 ∧ SHF 228 = (100, 3)) h1 h2 (by decide +kernel)).trans ?_
  exact Iff.rfl
theorem r105_125 {d : Nat} {c r nr : Nat} {X : Nat × (Nat → Int)} {v : Nat → Int} {M : PH} {K : PV → PS → Prop} {l3 l4 l5 : Int} : pm_Run d 105 125 [vA 225, vA c, vA r, vI l3, vI l4, vI l5, PU] [] (GF X, M, PTF v) K ↔ pm_Call d 110 [vA 225, vI 9] (GF X, M, PTF v) (fun r9 S1 => pm_Run d 105 140 [vA 225, vA c, vA r, vI l3, vI l4, vI l5, PU] (pm_push r9 [vI l5, vA 229]) S1 K) := by
  refine (px_go (by decide +kernel : pm_fe 105 125 = some (.aload_n 0, 1)) rfl).trans ?_
  refine (ry_get2 (idx := 18) (ci := 8) (k := 1) (by decide +kernel : 225 < 283 ∧ SHF 225 = (8, 6)) (ptf_l (a := 225) (k := 1) (n := 227) (by decide +kernel)) (by decide +kernel)).trans ?_
  refine (ry_get2 (idx := 48) (ci := 5) (k := 2) (by decide +kernel : 227 < 283 ∧ SHF 227 = (5, 6)) (ptf_l (a := 227) (k := 2) (n := 229) (by decide +kernel)) (by decide +kernel)).trans ?_
  refine (px_go (by decide +kernel : pm_fe 105 132 = some (.iload 5, 2)) rfl).trans ?_
  refine (px_go (by decide +kernel : pm_fe 105 134 = some (.aload_n 0, 1)) rfl).trans ?_
  refine (px_go (by decide +kernel : pm_fe 105 135 = some (.bipush 9, 2)) rfl).trans ?_
  refine (ry_v1 (idx := 88) (m' := 110) (ci := 8) (by decide +kernel : 225 < 283 ∧ SHF 225 = (8, 6)) (by simp [pm_wl_n, pm_wl_c, pm_w] : pm_wl [vI l5, vA 229] ≤ 8) (by decide +kernel)).trans ?_
  exact Iff.rfl
theorem r105_140 {d : Nat} {c r nr : Nat} {X : Nat × (Nat → Int)} {v : Nat → Int} {M : PH} {K : PV → PS → Prop} {l3 l4 l5 s0 s1 : Int} (h1 : 0 ≤ s1) (h2 : s1 < 3) : pm_Run d 105 140 [vA 225, vA c, vA r, vI l3, vI l4, vI l5, PU] [vI s0, vI s1, vA 229] (GF X, M, PTF v) K ↔ pm_Run d 105 141 [vA 225, vA c, vA r, vI l3, vI l4, vI l5, PU] [] (GF X, pm_sa M 229 (pm_up (M 229) s1.toNat s0), PTF v) K := by
  refine (ry_iast (by decide +kernel : 229 < 283 ∧ SHF 229 = (100, 3)) h1 h2 (by decide +kernel)).trans ?_
  exact Iff.rfl
theorem r105_141 {d : Nat} {c r nr : Nat} {X : Nat × (Nat → Int)} {v : Nat → Int} {M : PH} {K : PV → PS → Prop} {l3 l4 l5 : Int} : pm_Run d 105 141 [vA 225, vA c, vA r, vI l3, vI l4, vI l5, PU] [] (GF X, M, PTF v) K ↔ pm_Run d 105 96 [vA 225, vA c, vA r, vI l3, vI l4, vI (l5 + 1), PU] [] (GF X, M, PTF v) K := by
  refine (px_go (by decide +kernel : pm_fe 105 141 = some (.iinc 5 1, 3)) rfl).trans ?_
  refine (px_goto (off := (-48)) (tgt := 96) (by decide +kernel)).trans ?_
  exact Iff.rfl
theorem r105_147 {d : Nat} {c r nr : Nat} {X : Nat × (Nat → Int)} {v : Nat → Int} {M : PH} {K : PV → PS → Prop} {l3 l4 l5 : Int} : pm_Run d 105 147 [vA 225, vA c, vA r, vI l3, vI l4, vI l5, PU] [] (GF X, M, PTF v) K ↔ pm_Run d 105 150 [vA 225, vA c, vA r, vI l3, vI l4, vI 0, PU] [] (GF X, M, PTF v) K := by
  refine (px_go (by decide +kernel : pm_fe 105 147 = some (.iconst 0, 1)) rfl).trans ?_
  refine (px_go (by decide +kernel : pm_fe 105 148 = some (.istore 5, 2)) rfl).trans ?_
  exact Iff.rfl
theorem r105_150 {d : Nat} {c r nr : Nat} {X : Nat × (Nat → Int)} {v : Nat → Int} {M : PH} {K : PV → PS → Prop} {l3 l4 l5 : Int} {l6 : PV} (hc : isCh c) (h1 : inR l5) (h2 : inR (M c 2)) : pm_Run d 105 150 [vA 225, vA c, vA r, vI l3, vI l4, vI l5, l6] [] (GF X, M, PTF v) K ↔ if M c 2 ≤ l5 then pm_Run d 105 243 [vA 225, vA c, vA r, vI l3, vI l4, vI l5, l6] [] (GF X, M, PTF v) K else pm_Run d 105 159 [vA 225, vA c, vA r, vI l3, vI l4, vI l5, l6] [] (GF X, M, PTF v) K := by
  refine (px_go (by decide +kernel : pm_fe 105 150 = some (.iload 5, 2)) rfl).trans ?_
  refine (px_go (by decide +kernel : pm_fe 105 152 = some (.aload_n 1, 1)) rfl).trans ?_
  refine (ry_get0 (idx := 51) (ci := 1) (k := 2) (chs0 hc) (by decide +kernel)).trans ?_
  refine (ry_ic_ge (off := 87) (tgt := 243) h1 h2 (by decide +kernel)).trans ?_
  exact Iff.rfl
theorem r105_159 {d : Nat} {c r nr : Nat} {X : Nat × (Nat → Int)} {v : Nat → Int} {M : PH} {K : PV → PS → Prop} {l3 l4 l5 : Int} {l6 : PV} : pm_Run d 105 159 [vA 225, vA c, vA r, vI l3, vI l4, vI l5, l6] [] (GF X, M, PTF v) K ↔ pm_Call d 111 [vA 225, vI 9999] (GF X, M, PTF v) (fun r9 S1 => pm_Run d 105 175 [vA 225, vA c, vA r, vI l3, vI l4, vI l5, l6] (pm_push r9 [vI l5, vA 230]) S1 K) := by
  refine (px_go (by decide +kernel : pm_fe 105 159 = some (.aload_n 0, 1)) rfl).trans ?_
  refine (ry_get2 (idx := 18) (ci := 8) (k := 1) (by decide +kernel : 225 < 283 ∧ SHF 225 = (8, 6)) (ptf_l (a := 225) (k := 1) (n := 227) (by decide +kernel)) (by decide +kernel)).trans ?_
  refine (ry_get2 (idx := 54) (ci := 5) (k := 3) (by decide +kernel : 227 < 283 ∧ SHF 227 = (5, 6)) (ptf_l (a := 227) (k := 3) (n := 230) (by decide +kernel)) (by decide +kernel)).trans ?_
  refine (px_go (by decide +kernel : pm_fe 105 166 = some (.iload 5, 2)) rfl).trans ?_
  refine (px_go (by decide +kernel : pm_fe 105 168 = some (.aload_n 0, 1)) rfl).trans ?_
  refine (px_go (by decide +kernel : pm_fe 105 169 = some (.sipush 9999, 3)) rfl).trans ?_
  refine (ry_v1 (idx := 81) (m' := 111) (ci := 8) (by decide +kernel : 225 < 283 ∧ SHF 225 = (8, 6)) (by simp [pm_wl_n, pm_wl_c, pm_w] : pm_wl [vI l5, vA 230] ≤ 8) (by decide +kernel)).trans ?_
  exact Iff.rfl
theorem r105_175 {d : Nat} {c r nr : Nat} {X : Nat × (Nat → Int)} {v : Nat → Int} {M : PH} {K : PV → PS → Prop} {l3 l4 l5 s0 s1 : Int} {l6 : PV} (h1 : 0 ≤ s1) (h2 : s1 < 8) : pm_Run d 105 175 [vA 225, vA c, vA r, vI l3, vI l4, vI l5, l6] [vI s0, vI s1, vA 230] (GF X, M, PTF v) K ↔ pm_Run d 105 176 [vA 225, vA c, vA r, vI l3, vI l4, vI l5, l6] [] (GF X, pm_sa M 230 (pm_up (M 230) s1.toNat s0), PTF v) K := by
  refine (ry_iast (by decide +kernel : 230 < 283 ∧ SHF 230 = (100, 8)) h1 h2 (by decide +kernel)).trans ?_
  exact Iff.rfl
theorem r105_176 {d : Nat} {c r nr : Nat} {X : Nat × (Nat → Int)} {v : Nat → Int} {M : PH} {K : PV → PS → Prop} {l3 l4 l5 : Int} {l6 : PV} : pm_Run d 105 176 [vA 225, vA c, vA r, vI l3, vI l4, vI l5, l6] [] (GF X, M, PTF v) K ↔ pm_Run d 105 179 [vA 225, vA c, vA r, vI l3, vI l4, vI l5, vI 0] [] (GF X, M, PTF v) K := by
  refine (px_go (by decide +kernel : pm_fe 105 176 = some (.iconst 0, 1)) rfl).trans ?_
  refine (px_go (by decide +kernel : pm_fe 105 177 = some (.istore 6, 2)) rfl).trans ?_
  exact Iff.rfl
theorem r105_179 {d : Nat} {c r nr : Nat} {X : Nat × (Nat → Int)} {v : Nat → Int} {M : PH} {K : PV → PS → Prop} {l3 l4 l5 l6 : Int} (hc : isCh c) (h1 : inR l6) (h2 : inR (M c 1)) : pm_Run d 105 179 [vA 225, vA c, vA r, vI l3, vI l4, vI l5, vI l6] [] (GF X, M, PTF v) K ↔ if M c 1 ≤ l6 then pm_Run d 105 237 [vA 225, vA c, vA r, vI l3, vI l4, vI l5, vI l6] [] (GF X, M, PTF v) K else pm_Run d 105 188 [vA 225, vA c, vA r, vI l3, vI l4, vI l5, vI l6] [] (GF X, M, PTF v) K := by
  refine (px_go (by decide +kernel : pm_fe 105 179 = some (.iload 6, 2)) rfl).trans ?_
  refine (px_go (by decide +kernel : pm_fe 105 181 = some (.aload_n 1, 1)) rfl).trans ?_
  refine (ry_get0 (idx := 36) (ci := 1) (k := 1) (chs0 hc) (by decide +kernel)).trans ?_
  refine (ry_ic_ge (off := 52) (tgt := 237) h1 h2 (by decide +kernel)).trans ?_
  exact Iff.rfl
theorem r105_188 {d : Nat} {c r nr : Nat} {X : Nat × (Nat → Int)} {v : Nat → Int} {M : PH} {K : PV → PS → Prop} {l3 l4 l5 l6 : Int} : pm_Run d 105 188 [vA 225, vA c, vA r, vI l3, vI l4, vI l5, vI l6] [] (GF X, M, PTF v) K ↔ pm_Call d 55 [vI l5, vI l6] (GF X, M, PTF v) (fun r9 S1 => pm_Run d 105 202 [vA 225, vA c, vA r, vI l3, vI l4, vI l5, vI l6] (pm_push r9 [vA 231]) S1 K) := by
  refine (px_go (by decide +kernel : pm_fe 105 188 = some (.aload_n 0, 1)) rfl).trans ?_
  refine (ry_get2 (idx := 18) (ci := 8) (k := 1) (by decide +kernel : 225 < 283 ∧ SHF 225 = (8, 6)) (ptf_l (a := 225) (k := 1) (n := 227) (by decide +kernel)) (by decide +kernel)).trans ?_
  refine (ry_get2 (idx := 57) (ci := 5) (k := 4) (by decide +kernel : 227 < 283 ∧ SHF 227 = (5, 6)) (ptf_l (a := 227) (k := 4) (n := 231) (by decide +kernel)) (by decide +kernel)).trans ?_
  refine (px_go (by decide +kernel : pm_fe 105 195 = some (.iload 5, 2)) rfl).trans ?_
  refine (px_go (by decide +kernel : pm_fe 105 197 = some (.iload 6, 2)) rfl).trans ?_
  refine (px_s2 (idx := 60) (m' := 55) (nest := 0) (by decide +kernel)).trans ((and_iff_right (by simp [pm_wl_n, pm_wl_c, pm_w] : pm_wl [vA 231] ≤ 8)).trans ?_)
  exact Iff.rfl
theorem r105_202 {d : Nat} {c r nr : Nat} {X : Nat × (Nat → Int)} {v : Nat → Int} {M : PH} {K : PV → PS → Prop} {l3 l4 l5 l6 s0 : Int} : pm_Run d 105 202 [vA 225, vA c, vA r, vI l3, vI l4, vI l5, vI l6] [vI s0, vA 231] (GF X, M, PTF v) K ↔ pm_Call d 110 [vA 225, vI 20] (GF X, M, PTF v) (fun r9 S1 => pm_Run d 105 208 [vA 225, vA c, vA r, vI l3, vI l4, vI l5, vI l6] (pm_push r9 [vI s0, vA 231]) S1 K) := by
  refine (px_go (by decide +kernel : pm_fe 105 202 = some (.aload_n 0, 1)) rfl).trans ?_
  refine (px_go (by decide +kernel : pm_fe 105 203 = some (.bipush 20, 2)) rfl).trans ?_
  refine (ry_v1 (idx := 88) (m' := 110) (ci := 8) (by decide +kernel : 225 < 283 ∧ SHF 225 = (8, 6)) (by simp [pm_wl_n, pm_wl_c, pm_w] : pm_wl [vI s0, vA 231] ≤ 8) (by decide +kernel)).trans ?_
  exact Iff.rfl
theorem r105_208 {d : Nat} {c r nr : Nat} {X : Nat × (Nat → Int)} {v : Nat → Int} {M : PH} {K : PV → PS → Prop} {l3 l4 l5 l6 s0 s1 : Int} (h1 : 0 ≤ s1) (h2 : s1 < 24) : pm_Run d 105 208 [vA 225, vA c, vA r, vI l3, vI l4, vI l5, vI l6] [vI s0, vI s1, vA 231] (GF X, M, PTF v) K ↔ pm_Run d 105 209 [vA 225, vA c, vA r, vI l3, vI l4, vI l5, vI l6] [] (GF X, pm_sa M 231 (pm_up (M 231) s1.toNat s0), PTF v) K := by
  refine (ry_iast (by decide +kernel : 231 < 283 ∧ SHF 231 = (100, 24)) h1 h2 (by decide +kernel)).trans ?_
  exact Iff.rfl
theorem r105_209 {d : Nat} {c r nr : Nat} {X : Nat × (Nat → Int)} {v : Nat → Int} {M : PH} {K : PV → PS → Prop} {l3 l4 l5 l6 : Int} : pm_Run d 105 209 [vA 225, vA c, vA r, vI l3, vI l4, vI l5, vI l6] [] (GF X, M, PTF v) K ↔ pm_Call d 55 [vI l5, vI l6] (GF X, M, PTF v) (fun r9 S1 => pm_Run d 105 223 [vA 225, vA c, vA r, vI l3, vI l4, vI l5, vI l6] (pm_push r9 [vA 232]) S1 K) := by
  refine (px_go (by decide +kernel : pm_fe 105 209 = some (.aload_n 0, 1)) rfl).trans ?_
  refine (ry_get2 (idx := 18) (ci := 8) (k := 1) (by decide +kernel : 225 < 283 ∧ SHF 225 = (8, 6)) (ptf_l (a := 225) (k := 1) (n := 227) (by decide +kernel)) (by decide +kernel)).trans ?_
  refine (ry_get2 (idx := 64) (ci := 5) (k := 5) (by decide +kernel : 227 < 283 ∧ SHF 227 = (5, 6)) (ptf_l (a := 227) (k := 5) (n := 232) (by decide +kernel)) (by decide +kernel)).trans ?_
  refine (px_go (by decide +kernel : pm_fe 105 216 = some (.iload 5, 2)) rfl).trans ?_
  refine (px_go (by decide +kernel : pm_fe 105 218 = some (.iload 6, 2)) rfl).trans ?_
  refine (px_s2 (idx := 60) (m' := 55) (nest := 0) (by decide +kernel)).trans ((and_iff_right (by simp [pm_wl_n, pm_wl_c, pm_w] : pm_wl [vA 232] ≤ 8)).trans ?_)
  exact Iff.rfl
theorem r105_223 {d : Nat} {c r nr : Nat} {X : Nat × (Nat → Int)} {v : Nat → Int} {M : PH} {K : PV → PS → Prop} {l3 l4 l5 l6 s0 : Int} : pm_Run d 105 223 [vA 225, vA c, vA r, vI l3, vI l4, vI l5, vI l6] [vI s0, vA 232] (GF X, M, PTF v) K ↔ pm_Call d 111 [vA 225, vI 9999] (GF X, M, PTF v) (fun r9 S1 => pm_Run d 105 230 [vA 225, vA c, vA r, vI l3, vI l4, vI l5, vI l6] (pm_push r9 [vI s0, vA 232]) S1 K) := by
  refine (px_go (by decide +kernel : pm_fe 105 223 = some (.aload_n 0, 1)) rfl).trans ?_
  refine (px_go (by decide +kernel : pm_fe 105 224 = some (.sipush 9999, 3)) rfl).trans ?_
  refine (ry_v1 (idx := 81) (m' := 111) (ci := 8) (by decide +kernel : 225 < 283 ∧ SHF 225 = (8, 6)) (by simp [pm_wl_n, pm_wl_c, pm_w] : pm_wl [vI s0, vA 232] ≤ 8) (by decide +kernel)).trans ?_
  exact Iff.rfl
theorem r105_230 {d : Nat} {c r nr : Nat} {X : Nat × (Nat → Int)} {v : Nat → Int} {M : PH} {K : PV → PS → Prop} {l3 l4 l5 l6 s0 s1 : Int} (h1 : 0 ≤ s1) (h2 : s1 < 24) : pm_Run d 105 230 [vA 225, vA c, vA r, vI l3, vI l4, vI l5, vI l6] [vI s0, vI s1, vA 232] (GF X, M, PTF v) K ↔ pm_Run d 105 231 [vA 225, vA c, vA r, vI l3, vI l4, vI l5, vI l6] [] (GF X, pm_sa M 232 (pm_up (M 232) s1.toNat s0), PTF v) K := by
  refine (ry_iast (by decide +kernel : 232 < 283 ∧ SHF 232 = (100, 24)) h1 h2 (by decide +kernel)).trans ?_
  exact Iff.rfl
theorem r105_231 {d : Nat} {c r nr : Nat} {X : Nat × (Nat → Int)} {v : Nat → Int} {M : PH} {K : PV → PS → Prop} {l3 l4 l5 l6 : Int} : pm_Run d 105 231 [vA 225, vA c, vA r, vI l3, vI l4, vI l5, vI l6] [] (GF X, M, PTF v) K ↔ pm_Run d 105 179 [vA 225, vA c, vA r, vI l3, vI l4, vI l5, vI (l6 + 1)] [] (GF X, M, PTF v) K := by
  refine (px_go (by decide +kernel : pm_fe 105 231 = some (.iinc 6 1, 3)) rfl).trans ?_
  refine (px_goto (off := (-55)) (tgt := 179) (by decide +kernel)).trans ?_
  exact Iff.rfl
theorem r105_237 {d : Nat} {c r nr : Nat} {X : Nat × (Nat → Int)} {v : Nat → Int} {M : PH} {K : PV → PS → Prop} {l3 l4 l5 l6 : Int} : pm_Run d 105 237 [vA 225, vA c, vA r, vI l3, vI l4, vI l5, vI l6] [] (GF X, M, PTF v) K ↔ pm_Run d 105 150 [vA 225, vA c, vA r, vI l3, vI l4, vI (l5 + 1), vI l6] [] (GF X, M, PTF v) K := by
  refine (px_go (by decide +kernel : pm_fe 105 237 = some (.iinc 5 1, 3)) rfl).trans ?_
  refine (px_goto (off := (-90)) (tgt := 150) (by decide +kernel)).trans ?_
  exact Iff.rfl
theorem r105_243 {d : Nat} {c r nr : Nat} {X : Nat × (Nat → Int)} {v : Nat → Int} {M : PH} {K : PV → PS → Prop} {l3 l4 l5 : Int} {l6 : PV} (h1 : (M 225 5) = 0 ∨ (M 225 5) = 1) : pm_Run d 105 243 [vA 225, vA c, vA r, vI l3, vI l4, vI l5, l6] [] (GF X, M, PTF v) K ↔ K (vI (M 225 5)) (GF X, M, PTF v) := by
  refine (px_go (by decide +kernel : pm_fe 105 243 = some (.aload_n 0, 1)) rfl).trans ?_
  refine (ry_get0 (idx := 74) (ci := 8) (k := 5) (by decide +kernel : 225 < 283 ∧ SHF 225 = (8, 6)) (by decide +kernel)).trans ?_
  refine (px_rz (by decide +kernel)).trans ((and_iff_right h1).trans ?_)
  exact Iff.rfl
-- X8_checkOf checkOf([BI)I
theorem r106_0 {d : Nat} {r nr : Nat} {X : Nat × (Nat → Int)} {v : Nat → Int} {M : PH} {K : PV → PS → Prop} {l1 : Int} : pm_Run d 106 0 [vA r, vI l1, PU, PU] [] (GF X, M, PTF v) K ↔ pm_Run d 106 5 [vA r, vI l1, vI 89, vI 0] [] (GF X, M, PTF v) K := by
  refine (px_go (by decide +kernel : pm_fe 106 0 = some (.bipush 89, 2)) rfl).trans ?_
  refine (px_go (by decide +kernel : pm_fe 106 2 = some (.istore_n 2, 1)) rfl).trans ?_
  refine (px_go (by decide +kernel : pm_fe 106 3 = some (.iconst 0, 1)) rfl).trans ?_
  refine (px_go (by decide +kernel : pm_fe 106 4 = some (.istore_n 3, 1)) rfl).trans ?_
  exact Iff.rfl
theorem r106_5 {d : Nat} {r nr : Nat} {X : Nat × (Nat → Int)} {v : Nat → Int} {M : PH} {K : PV → PS → Prop} {l1 l2 l3 : Int} (h1 : inR l3) (h2 : inR l1) : pm_Run d 106 5 [vA r, vI l1, vI l2, vI l3] [] (GF X, M, PTF v) K ↔ if l1 ≤ l3 then pm_Run d 106 38 [vA r, vI l1, vI l2, vI l3] [] (GF X, M, PTF v) K else pm_Run d 106 10 [vA r, vI l1, vI l2, vI l3] [] (GF X, M, PTF v) K := by
  refine (px_go (by decide +kernel : pm_fe 106 5 = some (.iload_n 3, 1)) rfl).trans ?_
  refine (px_go (by decide +kernel : pm_fe 106 6 = some (.iload_n 1, 1)) rfl).trans ?_
  refine (ry_ic_ge (off := 31) (tgt := 38) h1 h2 (by decide +kernel)).trans ?_
  exact Iff.rfl
theorem r106_10 {d : Nat} {r nr : Nat} {X : Nat × (Nat → Int)} {v : Nat → Int} {M : PH} {K : PV → PS → Prop} {l1 l2 l3 : Int} (hr : r < 283 ∧ SHF r = (101, nr)) (h1 : inR l3) (h2 : inR (nr : Int)) : pm_Run d 106 10 [vA r, vI l1, vI l2, vI l3] [] (GF X, M, PTF v) K ↔ if (nr : Int) ≤ l3 then pm_Run d 106 38 [vA r, vI l1, vI l2, vI l3] [] (GF X, M, PTF v) K else pm_Run d 106 16 [vA r, vI l1, vI l2, vI l3] [] (GF X, M, PTF v) K := by
  refine (px_go (by decide +kernel : pm_fe 106 10 = some (.iload_n 3, 1)) rfl).trans ?_
  refine (px_go (by decide +kernel : pm_fe 106 11 = some (.aload_n 0, 1)) rfl).trans ?_
  refine (ry_alen hr (by decide) (by decide +kernel)).trans ?_
  refine (ry_ic_ge (off := 25) (tgt := 38) h1 h2 (by decide +kernel)).trans ?_
  exact Iff.rfl
theorem r106_16 {d : Nat} {r nr : Nat} {X : Nat × (Nat → Int)} {v : Nat → Int} {M : PH} {K : PV → PS → Prop} {l1 l2 l3 : Int} (hr : r < 283 ∧ SHF r = (101, nr)) (h1 : 0 ≤ l3) (h2 : l3 < nr) (h3 : inR ((5 * l2) + (pm_and (M r l3.toNat) 255))) : pm_Run d 106 16 [vA r, vI l1, vI l2, vI l3] [] (GF X, M, PTF v) K ↔ pm_Run d 106 5 [vA r, vI l1, vI (((5 * l2) + (pm_and (M r l3.toNat) 255)).tmod 251), vI (l3 + 1)] [] (GF X, M, PTF v) K := by
  refine (px_go (by decide +kernel : pm_fe 106 16 = some (.iconst 5, 1)) rfl).trans ?_
  refine (px_go (by decide +kernel : pm_fe 106 17 = some (.iload_n 2, 1)) rfl).trans ?_
  refine (px_go (by decide +kernel : pm_fe 106 18 = some (.imul, 1)) rfl).trans ?_
  refine (px_go (by decide +kernel : pm_fe 106 19 = some (.aload_n 0, 1)) rfl).trans ?_
  refine (px_go (by decide +kernel : pm_fe 106 20 = some (.iload_n 3, 1)) rfl).trans ?_
  refine (ry_bald hr h1 h2 (by decide +kernel)).trans ?_
  refine (px_go (by decide +kernel : pm_fe 106 22 = some (.sipush 255, 3)) rfl).trans ?_
  refine (px_go (by decide +kernel : pm_fe 106 25 = some (.iand, 1)) rfl).trans ?_
  refine (px_go (by decide +kernel : pm_fe 106 26 = some (.iadd, 1)) rfl).trans ?_
  refine (px_go (by decide +kernel : pm_fe 106 27 = some (.sipush 251, 3)) rfl).trans ?_
  refine (ry_irem h3 (by decide : (-2147483648 ≤ (251 : Int) ∧ (251 : Int) < 2147483648)) (by decide : (251 : Int) ≠ (0 : Int)) (by decide +kernel)).trans ?_
  refine (px_go (by decide +kernel : pm_fe 106 31 = some (.istore_n 2, 1)) rfl).trans ?_
  refine (px_go (by decide +kernel : pm_fe 106 32 = some (.iinc 3 1, 3)) rfl).trans ?_
  refine (px_goto (off := (-30)) (tgt := 5) (by decide +kernel)).trans ?_
  exact Iff.rfl
theorem r106_38 {d : Nat} {r nr : Nat} {X : Nat × (Nat → Int)} {v : Nat → Int} {M : PH} {K : PV → PS → Prop} {l1 l2 l3 : Int} : pm_Run d 106 38 [vA r, vI l1, vI l2, vI l3] [] (GF X, M, PTF v) K ↔ K (vI l2) (GF X, M, PTF v) := by
  refine (px_go (by decide +kernel : pm_fe 106 38 = some (.iload_n 2, 1)) rfl).trans ?_
  refine (px_ri (by decide +kernel)).trans ?_
  exact Iff.rfl
-- X8_put put(I)V
theorem r107_0 {d : Nat} {X : Nat × (Nat → Int)} {v : Nat → Int} {M : PH} {K : PV → PS → Prop} {l1 : Int} (h1 : inR (M 225 2)) : pm_Run d 107 0 [vA 225, vI l1] [] (GF X, M, PTF v) K ↔ if 97 ≤ M 225 2 then pm_Run d 107 33 [vA 225, vI l1] [] (GF X, M, PTF v) K else pm_Run d 107 12 [vA 225, vI l1] [] (GF X, M, PTF v) K := by
  refine (px_go (by decide +kernel : pm_fe 107 0 = some (.aload_n 0, 1)) rfl).trans ?_
  refine (ry_get0 (idx := 25) (ci := 8) (k := 2) (by decide +kernel : 225 < 283 ∧ SHF 225 = (8, 6)) (by decide +kernel)).trans ?_
  refine (px_go (by decide +kernel : pm_fe 107 4 = some (.aload_n 0, 1)) rfl).trans ?_
  refine (ry_get2 (idx := 11) (ci := 8) (k := 0) (by decide +kernel : 225 < 283 ∧ SHF 225 = (8, 6)) (ptf_l (a := 225) (k := 0) (n := 226) (by decide +kernel)) (by decide +kernel)).trans ?_
  refine (ry_alen (by decide +kernel : 226 < 283 ∧ SHF 226 = (101, 97)) (by decide) (by decide +kernel)).trans ?_
  refine (ry_ic_ge (off := 24) (tgt := 33) h1 (by decide : (-2147483648 ≤ (97 : Int) ∧ (97 : Int) < 2147483648)) (by decide +kernel)).trans ?_
  exact Iff.rfl
theorem r107_12 {d : Nat} {X : Nat × (Nat → Int)} {v : Nat → Int} {M : PH} {K : PV → PS → Prop} {l1 : Int} (h1 : 0 ≤ (M 225 2)) (h2 : (M 225 2) < 97) : pm_Run d 107 12 [vA 225, vI l1] [] (GF X, M, PTF v) K ↔ pm_Run d 107 23 [vA 225, vI l1] [] (GF X, pm_sa M 226 (pm_up (M 226) (M 225 2).toNat (pm_b8 (pm_b8 l1))), PTF v) K := by
  refine (px_go (by decide +kernel : pm_fe 107 12 = some (.aload_n 0, 1)) rfl).trans ?_
  refine (ry_get2 (idx := 11) (ci := 8) (k := 0) (by decide +kernel : 225 < 283 ∧ SHF 225 = (8, 6)) (ptf_l (a := 225) (k := 0) (n := 226) (by decide +kernel)) (by decide +kernel)).trans ?_
  refine (px_go (by decide +kernel : pm_fe 107 16 = some (.aload_n 0, 1)) rfl).trans ?_
  refine (ry_get0 (idx := 25) (ci := 8) (k := 2) (by decide +kernel : 225 < 283 ∧ SHF 225 = (8, 6)) (by decide +kernel)).trans ?_
  refine (px_go (by decide +kernel : pm_fe 107 20 = some (.iload_n 1, 1)) rfl).trans ?_
  refine (px_go (by decide +kernel : pm_fe 107 21 = some (.i2b, 1)) rfl).trans ?_
  refine (ry_bast (by decide +kernel : 226 < 283 ∧ SHF 226 = (101, 97)) h1 h2 (by decide +kernel)).trans ?_
  exact Iff.rfl
theorem r107_23 {d : Nat} {X : Nat × (Nat → Int)} {v : Nat → Int} {M : PH} {K : PV → PS → Prop} {l1 : Int} : pm_Run d 107 23 [vA 225, vI l1] [] (GF X, M, PTF v) K ↔ pm_Run d 107 33 [vA 225, vI l1] [] (GF X, pm_sa M 225 (pm_up (M 225) 2 ((M 225 2) + 1)), PTF v) K := by
  refine (px_go (by decide +kernel : pm_fe 107 23 = some (.aload_n 0, 1)) rfl).trans ?_
  refine (px_go (by decide +kernel : pm_fe 107 24 = some (.dup, 1)) rfl).trans ?_
  refine (ry_get0 (idx := 25) (ci := 8) (k := 2) (by decide +kernel : 225 < 283 ∧ SHF 225 = (8, 6)) (by decide +kernel)).trans ?_
  refine (px_go (by decide +kernel : pm_fe 107 28 = some (.iconst 1, 1)) rfl).trans ?_
  refine (px_go (by decide +kernel : pm_fe 107 29 = some (.iadd, 1)) rfl).trans ?_
  refine (ry_put0 (idx := 25) (ci := 8) (k := 2) (by decide +kernel : 225 < 283 ∧ SHF 225 = (8, 6)) (by decide +kernel)).trans ?_
  exact Iff.rfl
theorem r107_33 {d : Nat} {X : Nat × (Nat → Int)} {v : Nat → Int} {M : PH} {K : PV → PS → Prop} {l1 : Int} : pm_Run d 107 33 [vA 225, vI l1] [] (GF X, M, PTF v) K ↔ K PU (GF X, M, PTF v) := by
  refine (px_rv (by decide +kernel)).trans ?_
  exact Iff.rfl
-- X8_putTwo putTwo(I)V
theorem r108_0 {d : Nat} {X : Nat × (Nat → Int)} {v : Nat → Int} {M : PH} {K : PV → PS → Prop} {l1 : Int} : pm_Run d 108 0 [vA 225, vI l1] [] (GF X, M, PTF v) K ↔ pm_Call d 107 [vA 225, vI (pm_shr l1 8)] (GF X, M, PTF v) (fun r9 S1 => pm_Run d 108 8 [vA 225, vI l1] (pm_push r9 []) S1 K) := by
  refine (px_go (by decide +kernel : pm_fe 108 0 = some (.aload_n 0, 1)) rfl).trans ?_
  refine (px_go (by decide +kernel : pm_fe 108 1 = some (.iload_n 1, 1)) rfl).trans ?_
  refine (px_go (by decide +kernel : pm_fe 108 2 = some (.bipush 8, 2)) rfl).trans ?_
  refine (px_go (by decide +kernel : pm_fe 108 4 = some (.ishr, 1)) rfl).trans ?_
  refine (ry_v1 (idx := 45) (m' := 107) (ci := 8) (by decide +kernel : 225 < 283 ∧ SHF 225 = (8, 6)) (by simp [pm_wl_n, pm_wl_c, pm_w] : pm_wl [] ≤ 8) (by decide +kernel)).trans ?_
  exact Iff.rfl
theorem r108_8 {d : Nat} {X : Nat × (Nat → Int)} {v : Nat → Int} {M : PH} {K : PV → PS → Prop} {l1 : Int} : pm_Run d 108 8 [vA 225, vI l1] [] (GF X, M, PTF v) K ↔ pm_Call d 107 [vA 225, vI l1] (GF X, M, PTF v) (fun r9 S1 => pm_Run d 108 13 [vA 225, vI l1] (pm_push r9 []) S1 K) := by
  refine (px_go (by decide +kernel : pm_fe 108 8 = some (.aload_n 0, 1)) rfl).trans ?_
  refine (px_go (by decide +kernel : pm_fe 108 9 = some (.iload_n 1, 1)) rfl).trans ?_
  refine (ry_v1 (idx := 45) (m' := 107) (ci := 8) (by decide +kernel : 225 < 283 ∧ SHF 225 = (8, 6)) (by simp [pm_wl_n, pm_wl_c, pm_w] : pm_wl [] ≤ 8) (by decide +kernel)).trans ?_
  exact Iff.rfl
theorem r108_13 {d : Nat} {X : Nat × (Nat → Int)} {v : Nat → Int} {M : PH} {K : PV → PS → Prop} {l1 : Int} : pm_Run d 108 13 [vA 225, vI l1] [] (GF X, M, PTF v) K ↔ K PU (GF X, M, PTF v) := by
  refine (px_rv (by decide +kernel)).trans ?_
  exact Iff.rfl
-- X8_octetAt octetAt(I)I
theorem r109_0 {d : Nat} {X : Nat × (Nat → Int)} {v : Nat → Int} {M : PH} {K : PV → PS → Prop} {l1 : Int} (h1 : inR l1) : pm_Run d 109 0 [vA 225, vI l1] [] (GF X, M, PTF v) K ↔ if l1 < 0 then pm_Run d 109 26 [vA 225, vI l1] [] (GF X, M, PTF v) K else pm_Run d 109 4 [vA 225, vI l1] [] (GF X, M, PTF v) K := by
  refine (px_go (by decide +kernel : pm_fe 109 0 = some (.iload_n 1, 1)) rfl).trans ?_
  refine (ry_if_lt (off := 25) (tgt := 26) h1 (by decide +kernel)).trans ?_
  exact Iff.rfl
theorem r109_4 {d : Nat} {X : Nat × (Nat → Int)} {v : Nat → Int} {M : PH} {K : PV → PS → Prop} {l1 : Int} (hv6 : v 6 = ((1 : Nat) : Int)) (h1 : inR l1) : pm_Run d 109 4 [vA 225, vI l1] [] (GF X, M, PTF v) K ↔ if 1600 ≤ l1 then pm_Run d 109 26 [vA 225, vI l1] [] (GF X, M, PTF v) K else pm_Run d 109 13 [vA 225, vI l1] [] (GF X, M, PTF v) K := by
  refine (px_go (by decide +kernel : pm_fe 109 4 = some (.iload_n 1, 1)) rfl).trans ?_
  refine (px_go (by decide +kernel : pm_fe 109 5 = some (.aload_n 0, 1)) rfl).trans ?_
  refine (ry_get2 (idx := 22) (ci := 8) (k := 3) (by decide +kernel : 225 < 283 ∧ SHF 225 = (8, 6)) (ptd6 hv6) (by decide +kernel)).trans ?_
  refine (ry_alen (by decide +kernel : 1 < 283 ∧ SHF 1 = (101, 1600)) (by decide) (by decide +kernel)).trans ?_
  refine (ry_ic_ge (off := 16) (tgt := 26) h1 (by decide : (-2147483648 ≤ (1600 : Int) ∧ (1600 : Int) < 2147483648)) (by decide +kernel)).trans ?_
  exact Iff.rfl
theorem r109_13 {d : Nat} {X : Nat × (Nat → Int)} {v : Nat → Int} {M : PH} {K : PV → PS → Prop} {l1 : Int} (hv6 : v 6 = ((1 : Nat) : Int)) (h1 : 0 ≤ l1) (h2 : l1 < 1600) : pm_Run d 109 13 [vA 225, vI l1] [] (GF X, M, PTF v) K ↔ pm_Run d 109 27 [vA 225, vI l1] [vI (pm_and (M 1 l1.toNat) 255)] (GF X, M, PTF v) K := by
  refine (px_go (by decide +kernel : pm_fe 109 13 = some (.aload_n 0, 1)) rfl).trans ?_
  refine (ry_get2 (idx := 22) (ci := 8) (k := 3) (by decide +kernel : 225 < 283 ∧ SHF 225 = (8, 6)) (ptd6 hv6) (by decide +kernel)).trans ?_
  refine (px_go (by decide +kernel : pm_fe 109 17 = some (.iload_n 1, 1)) rfl).trans ?_
  refine (ry_bald (by decide +kernel : 1 < 283 ∧ SHF 1 = (101, 1600)) h1 h2 (by decide +kernel)).trans ?_
  refine (px_go (by decide +kernel : pm_fe 109 19 = some (.sipush 255, 3)) rfl).trans ?_
  refine (px_go (by decide +kernel : pm_fe 109 22 = some (.iand, 1)) rfl).trans ?_
  refine (px_goto (off := 4) (tgt := 27) (by decide +kernel)).trans ?_
  exact Iff.rfl
theorem r109_26 {d : Nat} {X : Nat × (Nat → Int)} {v : Nat → Int} {M : PH} {K : PV → PS → Prop} {l1 : Int} : pm_Run d 109 26 [vA 225, vI l1] [] (GF X, M, PTF v) K ↔ pm_Run d 109 27 [vA 225, vI l1] [vI 0] (GF X, M, PTF v) K := by
  refine (px_go (by decide +kernel : pm_fe 109 26 = some (.iconst 0, 1)) rfl).trans ?_
  exact Iff.rfl
theorem r109_27 {d : Nat} {X : Nat × (Nat → Int)} {v : Nat → Int} {M : PH} {K : PV → PS → Prop} {l1 s0 : Int} : pm_Run d 109 27 [vA 225, vI l1] [vI s0] (GF X, M, PTF v) K ↔ K (vI s0) (GF X, M, PTF v) := by
  refine (px_ri (by decide +kernel)).trans ?_
  exact Iff.rfl
-- X8_get get(I)I
theorem r110_0 {d : Nat} {X : Nat × (Nat → Int)} {v : Nat → Int} {M : PH} {K : PV → PS → Prop} {l1 : Int} : pm_Run d 110 0 [vA 225, vI l1, PU] [] (GF X, M, PTF v) K ↔ pm_Call d 109 [vA 225, vI (M 225 4)] (GF X, M, PTF v) (fun r9 S1 => pm_Run d 110 8 [vA 225, vI l1, PU] (pm_push r9 []) S1 K) := by
  refine (px_go (by decide +kernel : pm_fe 110 0 = some (.aload_n 0, 1)) rfl).trans ?_
  refine (px_go (by decide +kernel : pm_fe 110 1 = some (.aload_n 0, 1)) rfl).trans ?_
  refine (ry_get0 (idx := 71) (ci := 8) (k := 4) (by decide +kernel : 225 < 283 ∧ SHF 225 = (8, 6)) (by decide +kernel)).trans ?_
  refine (ry_v1 (idx := 91) (m' := 109) (ci := 8) (by decide +kernel : 225 < 283 ∧ SHF 225 = (8, 6)) (by simp [pm_wl_n, pm_wl_c, pm_w] : pm_wl [] ≤ 8) (by decide +kernel)).trans ?_
  exact Iff.rfl
theorem r110_8 {d : Nat} {X : Nat × (Nat → Int)} {v : Nat → Int} {M : PH} {K : PV → PS → Prop} {l1 s0 : Int} : pm_Run d 110 8 [vA 225, vI l1, PU] [vI s0] (GF X, M, PTF v) K ↔ pm_Run d 110 19 [vA 225, vI l1, vI s0] [] (GF X, pm_sa M 225 (pm_up (M 225) 4 ((M 225 4) + 1)), PTF v) K := by
  refine (px_go (by decide +kernel : pm_fe 110 8 = some (.istore_n 2, 1)) rfl).trans ?_
  refine (px_go (by decide +kernel : pm_fe 110 9 = some (.aload_n 0, 1)) rfl).trans ?_
  refine (px_go (by decide +kernel : pm_fe 110 10 = some (.dup, 1)) rfl).trans ?_
  refine (ry_get0 (idx := 71) (ci := 8) (k := 4) (by decide +kernel : 225 < 283 ∧ SHF 225 = (8, 6)) (by decide +kernel)).trans ?_
  refine (px_go (by decide +kernel : pm_fe 110 14 = some (.iconst 1, 1)) rfl).trans ?_
  refine (px_go (by decide +kernel : pm_fe 110 15 = some (.iadd, 1)) rfl).trans ?_
  refine (ry_put0 (idx := 71) (ci := 8) (k := 4) (by decide +kernel : 225 < 283 ∧ SHF 225 = (8, 6)) (by decide +kernel)).trans ?_
  exact Iff.rfl
theorem r110_19 {d : Nat} {X : Nat × (Nat → Int)} {v : Nat → Int} {M : PH} {K : PV → PS → Prop} {l1 l2 : Int} (h1 : inR l2) (h2 : inR l1) : pm_Run d 110 19 [vA 225, vI l1, vI l2] [] (GF X, M, PTF v) K ↔ if l1 < l2 then pm_Run d 110 33 [vA 225, vI l1, vI l2] [vI (M 225 5), vA 225] (GF X, M, PTF v) K else pm_Run d 110 29 [vA 225, vI l1, vI l2] [vI (M 225 5), vA 225] (GF X, M, PTF v) K := by
  refine (px_go (by decide +kernel : pm_fe 110 19 = some (.aload_n 0, 1)) rfl).trans ?_
  refine (px_go (by decide +kernel : pm_fe 110 20 = some (.dup, 1)) rfl).trans ?_
  refine (ry_get0 (idx := 74) (ci := 8) (k := 5) (by decide +kernel : 225 < 283 ∧ SHF 225 = (8, 6)) (by decide +kernel)).trans ?_
  refine (px_go (by decide +kernel : pm_fe 110 24 = some (.iload_n 2, 1)) rfl).trans ?_
  refine (px_go (by decide +kernel : pm_fe 110 25 = some (.iload_n 1, 1)) rfl).trans ?_
  refine (ry_ic_gt (off := 7) (tgt := 33) h1 h2 (by decide +kernel)).trans ?_
  exact Iff.rfl
theorem r110_29 {d : Nat} {X : Nat × (Nat → Int)} {v : Nat → Int} {M : PH} {K : PV → PS → Prop} {l1 l2 s0 : Int} : pm_Run d 110 29 [vA 225, vI l1, vI l2] [vI s0, vA 225] (GF X, M, PTF v) K ↔ pm_Run d 110 34 [vA 225, vI l1, vI l2] [vI 1, vI s0, vA 225] (GF X, M, PTF v) K := by
  refine (px_go (by decide +kernel : pm_fe 110 29 = some (.iconst 1, 1)) rfl).trans ?_
  refine (px_goto (off := 4) (tgt := 34) (by decide +kernel)).trans ?_
  exact Iff.rfl
theorem r110_33 {d : Nat} {X : Nat × (Nat → Int)} {v : Nat → Int} {M : PH} {K : PV → PS → Prop} {l1 l2 s0 : Int} : pm_Run d 110 33 [vA 225, vI l1, vI l2] [vI s0, vA 225] (GF X, M, PTF v) K ↔ pm_Run d 110 34 [vA 225, vI l1, vI l2] [vI 0, vI s0, vA 225] (GF X, M, PTF v) K := by
  refine (px_go (by decide +kernel : pm_fe 110 33 = some (.iconst 0, 1)) rfl).trans ?_
  exact Iff.rfl
theorem r110_34 {d : Nat} {X : Nat × (Nat → Int)} {v : Nat → Int} {M : PH} {K : PV → PS → Prop} {l1 l2 s0 s1 : Int} (h1 : (pm_and s1 s0) = 0 ∨ (pm_and s1 s0) = 1) : pm_Run d 110 34 [vA 225, vI l1, vI l2] [vI s0, vI s1, vA 225] (GF X, M, PTF v) K ↔ pm_Run d 110 38 [vA 225, vI l1, vI l2] [] (GF X, pm_sa M 225 (pm_up (M 225) 5 (pm_and s1 s0)), PTF v) K := by
  refine (px_go (by decide +kernel : pm_fe 110 34 = some (.iand, 1)) rfl).trans ?_
  refine (ry_put3 (idx := 74) (ci := 8) (k := 5) (by decide +kernel : 225 < 283 ∧ SHF 225 = (8, 6)) h1 (by decide +kernel)).trans ?_
  exact Iff.rfl
theorem r110_38 {d : Nat} {X : Nat × (Nat → Int)} {v : Nat → Int} {M : PH} {K : PV → PS → Prop} {l1 l2 : Int} : pm_Run d 110 38 [vA 225, vI l1, vI l2] [] (GF X, M, PTF v) K ↔ K (vI l2) (GF X, M, PTF v) := by
  refine (px_go (by decide +kernel : pm_fe 110 38 = some (.iload_n 2, 1)) rfl).trans ?_
  refine (px_ri (by decide +kernel)).trans ?_
  exact Iff.rfl
-- X8_getTwo getTwo(I)I
theorem r111_0 {d : Nat} {X : Nat × (Nat → Int)} {v : Nat → Int} {M : PH} {K : PV → PS → Prop} {l1 : Int} : pm_Run d 111 0 [vA 225, vI l1, PU] [] (GF X, M, PTF v) K ↔ pm_Call d 109 [vA 225, vI (M 225 4)] (GF X, M, PTF v) (fun r9 S1 => pm_Run d 111 8 [vA 225, vI l1, PU] (pm_push r9 []) S1 K) := by
  refine (px_go (by decide +kernel : pm_fe 111 0 = some (.aload_n 0, 1)) rfl).trans ?_
  refine (px_go (by decide +kernel : pm_fe 111 1 = some (.aload_n 0, 1)) rfl).trans ?_
  refine (ry_get0 (idx := 71) (ci := 8) (k := 4) (by decide +kernel : 225 < 283 ∧ SHF 225 = (8, 6)) (by decide +kernel)).trans ?_
  refine (ry_v1 (idx := 91) (m' := 109) (ci := 8) (by decide +kernel : 225 < 283 ∧ SHF 225 = (8, 6)) (by simp [pm_wl_n, pm_wl_c, pm_w] : pm_wl [] ≤ 8) (by decide +kernel)).trans ?_
  exact Iff.rfl
theorem r111_8 {d : Nat} {X : Nat × (Nat → Int)} {v : Nat → Int} {M : PH} {K : PV → PS → Prop} {l1 s0 : Int} : pm_Run d 111 8 [vA 225, vI l1, PU] [vI s0] (GF X, M, PTF v) K ↔ pm_Call d 109 [vA 225, vI ((M 225 4) + 1)] (GF X, M, PTF v) (fun r9 S1 => pm_Run d 111 21 [vA 225, vI l1, PU] (pm_push r9 [vI (pm_shl s0 8)]) S1 K) := by
  refine (px_go (by decide +kernel : pm_fe 111 8 = some (.bipush 8, 2)) rfl).trans ?_
  refine (px_go (by decide +kernel : pm_fe 111 10 = some (.ishl, 1)) rfl).trans ?_
  refine (px_go (by decide +kernel : pm_fe 111 11 = some (.aload_n 0, 1)) rfl).trans ?_
  refine (px_go (by decide +kernel : pm_fe 111 12 = some (.aload_n 0, 1)) rfl).trans ?_
  refine (ry_get0 (idx := 71) (ci := 8) (k := 4) (by decide +kernel : 225 < 283 ∧ SHF 225 = (8, 6)) (by decide +kernel)).trans ?_
  refine (px_go (by decide +kernel : pm_fe 111 16 = some (.iconst 1, 1)) rfl).trans ?_
  refine (px_go (by decide +kernel : pm_fe 111 17 = some (.iadd, 1)) rfl).trans ?_
  refine (ry_v1 (idx := 91) (m' := 109) (ci := 8) (by decide +kernel : 225 < 283 ∧ SHF 225 = (8, 6)) (by simp [pm_wl_n, pm_wl_c, pm_w] : pm_wl [vI (pm_shl s0 8)] ≤ 8) (by decide +kernel)).trans ?_
  exact Iff.rfl
theorem r111_21 {d : Nat} {X : Nat × (Nat → Int)} {v : Nat → Int} {M : PH} {K : PV → PS → Prop} {l1 s0 s1 : Int} : pm_Run d 111 21 [vA 225, vI l1, PU] [vI s0, vI s1] (GF X, M, PTF v) K ↔ pm_Run d 111 33 [vA 225, vI l1, vI (pm_or s1 s0)] [] (GF X, pm_sa M 225 (pm_up (M 225) 4 ((M 225 4) + 2)), PTF v) K := by
  refine (px_go (by decide +kernel : pm_fe 111 21 = some (.ior, 1)) rfl).trans ?_
  refine (px_go (by decide +kernel : pm_fe 111 22 = some (.istore_n 2, 1)) rfl).trans ?_
  refine (px_go (by decide +kernel : pm_fe 111 23 = some (.aload_n 0, 1)) rfl).trans ?_
  refine (px_go (by decide +kernel : pm_fe 111 24 = some (.dup, 1)) rfl).trans ?_
  refine (ry_get0 (idx := 71) (ci := 8) (k := 4) (by decide +kernel : 225 < 283 ∧ SHF 225 = (8, 6)) (by decide +kernel)).trans ?_
  refine (px_go (by decide +kernel : pm_fe 111 28 = some (.iconst 2, 1)) rfl).trans ?_
  refine (px_go (by decide +kernel : pm_fe 111 29 = some (.iadd, 1)) rfl).trans ?_
  refine (ry_put0 (idx := 71) (ci := 8) (k := 4) (by decide +kernel : 225 < 283 ∧ SHF 225 = (8, 6)) (by decide +kernel)).trans ?_
  exact Iff.rfl
theorem r111_33 {d : Nat} {X : Nat × (Nat → Int)} {v : Nat → Int} {M : PH} {K : PV → PS → Prop} {l1 l2 : Int} (h1 : inR l2) (h2 : inR l1) : pm_Run d 111 33 [vA 225, vI l1, vI l2] [] (GF X, M, PTF v) K ↔ if l1 < l2 then pm_Run d 111 47 [vA 225, vI l1, vI l2] [vI (M 225 5), vA 225] (GF X, M, PTF v) K else pm_Run d 111 43 [vA 225, vI l1, vI l2] [vI (M 225 5), vA 225] (GF X, M, PTF v) K := by
  refine (px_go (by decide +kernel : pm_fe 111 33 = some (.aload_n 0, 1)) rfl).trans ?_
  refine (px_go (by decide +kernel : pm_fe 111 34 = some (.dup, 1)) rfl).trans ?_
  refine (ry_get0 (idx := 74) (ci := 8) (k := 5) (by decide +kernel : 225 < 283 ∧ SHF 225 = (8, 6)) (by decide +kernel)).trans ?_
  refine (px_go (by decide +kernel : pm_fe 111 38 = some (.iload_n 2, 1)) rfl).trans ?_
  refine (px_go (by decide +kernel : pm_fe 111 39 = some (.iload_n 1, 1)) rfl).trans ?_
  refine (ry_ic_gt (off := 7) (tgt := 47) h1 h2 (by decide +kernel)).trans ?_
  exact Iff.rfl
theorem r111_43 {d : Nat} {X : Nat × (Nat → Int)} {v : Nat → Int} {M : PH} {K : PV → PS → Prop} {l1 l2 s0 : Int} : pm_Run d 111 43 [vA 225, vI l1, vI l2] [vI s0, vA 225] (GF X, M, PTF v) K ↔ pm_Run d 111 48 [vA 225, vI l1, vI l2] [vI 1, vI s0, vA 225] (GF X, M, PTF v) K := by
  refine (px_go (by decide +kernel : pm_fe 111 43 = some (.iconst 1, 1)) rfl).trans ?_
  refine (px_goto (off := 4) (tgt := 48) (by decide +kernel)).trans ?_
  exact Iff.rfl
theorem r111_47 {d : Nat} {X : Nat × (Nat → Int)} {v : Nat → Int} {M : PH} {K : PV → PS → Prop} {l1 l2 s0 : Int} : pm_Run d 111 47 [vA 225, vI l1, vI l2] [vI s0, vA 225] (GF X, M, PTF v) K ↔ pm_Run d 111 48 [vA 225, vI l1, vI l2] [vI 0, vI s0, vA 225] (GF X, M, PTF v) K := by
  refine (px_go (by decide +kernel : pm_fe 111 47 = some (.iconst 0, 1)) rfl).trans ?_
  exact Iff.rfl
theorem r111_48 {d : Nat} {X : Nat × (Nat → Int)} {v : Nat → Int} {M : PH} {K : PV → PS → Prop} {l1 l2 s0 s1 : Int} (h1 : (pm_and s1 s0) = 0 ∨ (pm_and s1 s0) = 1) : pm_Run d 111 48 [vA 225, vI l1, vI l2] [vI s0, vI s1, vA 225] (GF X, M, PTF v) K ↔ pm_Run d 111 52 [vA 225, vI l1, vI l2] [] (GF X, pm_sa M 225 (pm_up (M 225) 5 (pm_and s1 s0)), PTF v) K := by
  refine (px_go (by decide +kernel : pm_fe 111 48 = some (.iand, 1)) rfl).trans ?_
  refine (ry_put3 (idx := 74) (ci := 8) (k := 5) (by decide +kernel : 225 < 283 ∧ SHF 225 = (8, 6)) h1 (by decide +kernel)).trans ?_
  exact Iff.rfl
theorem r111_52 {d : Nat} {X : Nat × (Nat → Int)} {v : Nat → Int} {M : PH} {K : PV → PS → Prop} {l1 l2 : Int} : pm_Run d 111 52 [vA 225, vI l1, vI l2] [] (GF X, M, PTF v) K ↔ K (vI l2) (GF X, M, PTF v) := by
  refine (px_go (by decide +kernel : pm_fe 111 52 = some (.iload_n 2, 1)) rfl).trans ?_
  refine (px_ri (by decide +kernel)).trans ?_
  exact Iff.rfl
