-- X11_feed feed(IIIII)I
theorem r132_0 {d : Nat} {X : Nat × (Nat → Int)} {v : Nat → Int} {M : PH} {K : PV → PS → Prop} {l1 l2 l3 l4 l5 : Int} (h1 : inR ((M 0 11) + 20)) : pm_Run d 132 0 [vA 0, vI l1, vI l2, vI l3, vI l4, vI l5] [] (GF X, M, PTF v) K ↔ if (M 0 11) + 20 ≤ 1600 then pm_Run d 132 19 [vA 0, vI l1, vI l2, vI l3, vI l4, vI l5] [] (GF X, M, PTF v) K else pm_Run d 132 13 [vA 0, vI l1, vI l2, vI l3, vI l4, vI l5] [] (GF X, M, PTF v) K := by
  refine (px_go (by decide +kernel : pm_fe 132 0 = some (.aload_n 0, 1)) rfl).trans ?_
  refine (ry_get0 (idx := 86) (ci := 11) (k := 11) (by decide +kernel : 0 < 283 ∧ SHF 0 = (11, 13)) (by decide +kernel)).trans ?_
  refine (px_go (by decide +kernel : pm_fe 132 4 = some (.bipush 20, 2)) rfl).trans ?_
  refine (px_go (by decide +kernel : pm_fe 132 6 = some (.iadd, 1)) rfl).trans ?_
  refine (px_go (by decide +kernel : pm_fe 132 7 = some (.sipush 1600, 3)) rfl).trans ?_
  refine (ry_ic_le (off := 9) (tgt := 19) h1 (by decide : (-2147483648 ≤ (1600 : Int) ∧ (1600 : Int) < 2147483648)) (by decide +kernel)).trans ?_
  exact Iff.rfl
theorem r132_13 {d : Nat} {X : Nat × (Nat → Int)} {v : Nat → Int} {M : PH} {K : PV → PS → Prop} {l1 l2 l3 l4 l5 : Int} : pm_Run d 132 13 [vA 0, vI l1, vI l2, vI l3, vI l4, vI l5] [] (GF X, M, PTF v) K ↔ pm_Call d 164 [vA 0, vI 0] (GF X, M, PTF v) (fun r9 S1 => pm_Run d 132 18 [vA 0, vI l1, vI l2, vI l3, vI l4, vI l5] (pm_push r9 []) S1 K) := by
  refine (px_go (by decide +kernel : pm_fe 132 13 = some (.aload_n 0, 1)) rfl).trans ?_
  refine (px_go (by decide +kernel : pm_fe 132 14 = some (.iconst 0, 1)) rfl).trans ?_
  refine (ry_v1 (idx := 89) (m' := 164) (ci := 11) (by decide +kernel : 0 < 283 ∧ SHF 0 = (11, 13)) (by simp [pm_wl_n, pm_wl_c, pm_w] : pm_wl [] ≤ 8) (by decide +kernel)).trans ?_
  exact Iff.rfl
theorem r132_18 {d : Nat} {X : Nat × (Nat → Int)} {v : Nat → Int} {M : PH} {K : PV → PS → Prop} {l1 l2 l3 l4 l5 s0 : Int} : pm_Run d 132 18 [vA 0, vI l1, vI l2, vI l3, vI l4, vI l5] [vI s0] (GF X, M, PTF v) K ↔ K (vI s0) (GF X, M, PTF v) := by
  refine (px_ri (by decide +kernel)).trans ?_
  exact Iff.rfl
theorem r132_19 {d : Nat} {X : Nat × (Nat → Int)} {v : Nat → Int} {M : PH} {K : PV → PS → Prop} {l1 l2 l3 l4 l5 : Int} : pm_Run d 132 19 [vA 0, vI l1, vI l2, vI l3, vI l4, vI l5] [] (GF X, M, PTF v) K ↔ pm_Call d 165 [vA 0, vI l1] (GF X, M, PTF v) (fun r9 S1 => pm_Run d 132 24 [vA 0, vI l1, vI l2, vI l3, vI l4, vI l5] (pm_push r9 []) S1 K) := by
  refine (px_go (by decide +kernel : pm_fe 132 19 = some (.aload_n 0, 1)) rfl).trans ?_
  refine (px_go (by decide +kernel : pm_fe 132 20 = some (.iload_n 1, 1)) rfl).trans ?_
  refine (ry_v1 (idx := 93) (m' := 165) (ci := 11) (by decide +kernel : 0 < 283 ∧ SHF 0 = (11, 13)) (by simp [pm_wl_n, pm_wl_c, pm_w] : pm_wl [] ≤ 8) (by decide +kernel)).trans ?_
  exact Iff.rfl
theorem r132_24 {d : Nat} {X : Nat × (Nat → Int)} {v : Nat → Int} {M : PH} {K : PV → PS → Prop} {l1 l2 l3 l4 l5 : Int} : pm_Run d 132 24 [vA 0, vI l1, vI l2, vI l3, vI l4, vI l5] [] (GF X, M, PTF v) K ↔ pm_Call d 165 [vA 0, vI l2] (GF X, M, PTF v) (fun r9 S1 => pm_Run d 132 29 [vA 0, vI l1, vI l2, vI l3, vI l4, vI l5] (pm_push r9 []) S1 K) := by
  refine (px_go (by decide +kernel : pm_fe 132 24 = some (.aload_n 0, 1)) rfl).trans ?_
  refine (px_go (by decide +kernel : pm_fe 132 25 = some (.iload_n 2, 1)) rfl).trans ?_
  refine (ry_v1 (idx := 93) (m' := 165) (ci := 11) (by decide +kernel : 0 < 283 ∧ SHF 0 = (11, 13)) (by simp [pm_wl_n, pm_wl_c, pm_w] : pm_wl [] ≤ 8) (by decide +kernel)).trans ?_
  exact Iff.rfl
theorem r132_29 {d : Nat} {X : Nat × (Nat → Int)} {v : Nat → Int} {M : PH} {K : PV → PS → Prop} {l1 l2 l3 l4 l5 : Int} : pm_Run d 132 29 [vA 0, vI l1, vI l2, vI l3, vI l4, vI l5] [] (GF X, M, PTF v) K ↔ pm_Call d 165 [vA 0, vI l3] (GF X, M, PTF v) (fun r9 S1 => pm_Run d 132 34 [vA 0, vI l1, vI l2, vI l3, vI l4, vI l5] (pm_push r9 []) S1 K) := by
  refine (px_go (by decide +kernel : pm_fe 132 29 = some (.aload_n 0, 1)) rfl).trans ?_
  refine (px_go (by decide +kernel : pm_fe 132 30 = some (.iload_n 3, 1)) rfl).trans ?_
  refine (ry_v1 (idx := 93) (m' := 165) (ci := 11) (by decide +kernel : 0 < 283 ∧ SHF 0 = (11, 13)) (by simp [pm_wl_n, pm_wl_c, pm_w] : pm_wl [] ≤ 8) (by decide +kernel)).trans ?_
  exact Iff.rfl
theorem r132_34 {d : Nat} {X : Nat × (Nat → Int)} {v : Nat → Int} {M : PH} {K : PV → PS → Prop} {l1 l2 l3 l4 l5 : Int} : pm_Run d 132 34 [vA 0, vI l1, vI l2, vI l3, vI l4, vI l5] [] (GF X, M, PTF v) K ↔ pm_Call d 165 [vA 0, vI l4] (GF X, M, PTF v) (fun r9 S1 => pm_Run d 132 40 [vA 0, vI l1, vI l2, vI l3, vI l4, vI l5] (pm_push r9 []) S1 K) := by
  refine (px_go (by decide +kernel : pm_fe 132 34 = some (.aload_n 0, 1)) rfl).trans ?_
  refine (px_go (by decide +kernel : pm_fe 132 35 = some (.iload 4, 2)) rfl).trans ?_
  refine (ry_v1 (idx := 93) (m' := 165) (ci := 11) (by decide +kernel : 0 < 283 ∧ SHF 0 = (11, 13)) (by simp [pm_wl_n, pm_wl_c, pm_w] : pm_wl [] ≤ 8) (by decide +kernel)).trans ?_
  exact Iff.rfl
theorem r132_40 {d : Nat} {X : Nat × (Nat → Int)} {v : Nat → Int} {M : PH} {K : PV → PS → Prop} {l1 l2 l3 l4 l5 : Int} : pm_Run d 132 40 [vA 0, vI l1, vI l2, vI l3, vI l4, vI l5] [] (GF X, M, PTF v) K ↔ pm_Call d 165 [vA 0, vI l5] (GF X, M, PTF v) (fun r9 S1 => pm_Run d 132 46 [vA 0, vI l1, vI l2, vI l3, vI l4, vI l5] (pm_push r9 []) S1 K) := by
  refine (px_go (by decide +kernel : pm_fe 132 40 = some (.aload_n 0, 1)) rfl).trans ?_
  refine (px_go (by decide +kernel : pm_fe 132 41 = some (.iload 5, 2)) rfl).trans ?_
  refine (ry_v1 (idx := 93) (m' := 165) (ci := 11) (by decide +kernel : 0 < 283 ∧ SHF 0 = (11, 13)) (by simp [pm_wl_n, pm_wl_c, pm_w] : pm_wl [] ≤ 8) (by decide +kernel)).trans ?_
  exact Iff.rfl
theorem r132_46 {d : Nat} {X : Nat × (Nat → Int)} {v : Nat → Int} {M : PH} {K : PV → PS → Prop} {l1 l2 l3 l4 l5 : Int} : pm_Run d 132 46 [vA 0, vI l1, vI l2, vI l3, vI l4, vI l5] [] (GF X, M, PTF v) K ↔ K (vI (M 0 11)) (GF X, M, PTF v) := by
  refine (px_go (by decide +kernel : pm_fe 132 46 = some (.aload_n 0, 1)) rfl).trans ?_
  refine (ry_get0 (idx := 86) (ci := 11) (k := 11) (by decide +kernel : 0 < 283 ∧ SHF 0 = (11, 13)) (by decide +kernel)).trans ?_
  refine (px_ri (by decide +kernel)).trans ?_
  exact Iff.rfl
-- X11_end end(I)Z
theorem r133_0 {d : Nat} {X : Nat × (Nat → Int)} {v : Nat → Int} {M : PH} {K : PV → PS → Prop} {l1 : Int} (h1 : inR l1) : pm_Run d 133 0 [vA 0, vI l1] [] (GF X, M, PTF v) K ↔ if l1 < 0 then pm_Run d 133 12 [vA 0, vI l1] [] (GF X, M, PTF v) K else pm_Run d 133 4 [vA 0, vI l1] [] (GF X, M, PTF v) K := by
  refine (px_go (by decide +kernel : pm_fe 133 0 = some (.iload_n 1, 1)) rfl).trans ?_
  refine (ry_if_lt (off := 11) (tgt := 12) h1 (by decide +kernel)).trans ?_
  exact Iff.rfl
theorem r133_4 {d : Nat} {X : Nat × (Nat → Int)} {v : Nat → Int} {M : PH} {K : PV → PS → Prop} {l1 : Int} (h1 : inR l1) (h2 : inR (M 0 11)) : pm_Run d 133 4 [vA 0, vI l1] [] (GF X, M, PTF v) K ↔ if l1 ≤ M 0 11 then pm_Run d 133 27 [vA 0, vI l1] [] (GF X, M, PTF v) K else pm_Run d 133 12 [vA 0, vI l1] [] (GF X, M, PTF v) K := by
  refine (px_go (by decide +kernel : pm_fe 133 4 = some (.iload_n 1, 1)) rfl).trans ?_
  refine (px_go (by decide +kernel : pm_fe 133 5 = some (.aload_n 0, 1)) rfl).trans ?_
  refine (ry_get0 (idx := 86) (ci := 11) (k := 11) (by decide +kernel : 0 < 283 ∧ SHF 0 = (11, 13)) (by decide +kernel)).trans ?_
  refine (ry_ic_le (off := 18) (tgt := 27) h1 h2 (by decide +kernel)).trans ?_
  exact Iff.rfl
theorem r133_12 {d : Nat} {X : Nat × (Nat → Int)} {v : Nat → Int} {M : PH} {K : PV → PS → Prop} {l1 : Int} : pm_Run d 133 12 [vA 0, vI l1] [] (GF X, M, PTF v) K ↔ pm_Call d 164 [vA 0, vI 0] (GF X, M, PTF v) (fun r9 S1 => pm_Run d 133 17 [vA 0, vI l1] (pm_push r9 []) S1 K) := by
  refine (px_go (by decide +kernel : pm_fe 133 12 = some (.aload_n 0, 1)) rfl).trans ?_
  refine (px_go (by decide +kernel : pm_fe 133 13 = some (.iconst 0, 1)) rfl).trans ?_
  refine (ry_v1 (idx := 89) (m' := 164) (ci := 11) (by decide +kernel : 0 < 283 ∧ SHF 0 = (11, 13)) (by simp [pm_wl_n, pm_wl_c, pm_w] : pm_wl [] ≤ 8) (by decide +kernel)).trans ?_
  exact Iff.rfl
theorem r133_17 {d : Nat} {X : Nat × (Nat → Int)} {v : Nat → Int} {M : PH} {K : PV → PS → Prop} {l1 s0 : Int} (h1 : inR s0) : pm_Run d 133 17 [vA 0, vI l1] [vI s0] (GF X, M, PTF v) K ↔ if s0 = (-1) then pm_Run d 133 25 [vA 0, vI l1] [] (GF X, M, PTF v) K else pm_Run d 133 21 [vA 0, vI l1] [] (GF X, M, PTF v) K := by
  refine (px_go (by decide +kernel : pm_fe 133 17 = some (.iconst (-1), 1)) rfl).trans ?_
  refine (ry_ic_eq (off := 7) (tgt := 25) h1 (by decide : (-2147483648 ≤ ((-1) : Int) ∧ ((-1) : Int) < 2147483648)) (by decide +kernel)).trans ?_
  exact Iff.rfl
theorem r133_21 {d : Nat} {X : Nat × (Nat → Int)} {v : Nat → Int} {M : PH} {K : PV → PS → Prop} {l1 : Int} : pm_Run d 133 21 [vA 0, vI l1] [] (GF X, M, PTF v) K ↔ pm_Run d 133 26 [vA 0, vI l1] [vI 1] (GF X, M, PTF v) K := by
  refine (px_go (by decide +kernel : pm_fe 133 21 = some (.iconst 1, 1)) rfl).trans ?_
  refine (px_goto (off := 4) (tgt := 26) (by decide +kernel)).trans ?_
  exact Iff.rfl
theorem r133_25 {d : Nat} {X : Nat × (Nat → Int)} {v : Nat → Int} {M : PH} {K : PV → PS → Prop} {l1 : Int} : pm_Run d 133 25 [vA 0, vI l1] [] (GF X, M, PTF v) K ↔ pm_Run d 133 26 [vA 0, vI l1] [vI 0] (GF X, M, PTF v) K := by
  refine (px_go (by decide +kernel : pm_fe 133 25 = some (.iconst 0, 1)) rfl).trans ?_
  exact Iff.rfl
theorem r133_26 {d : Nat} {X : Nat × (Nat → Int)} {v : Nat → Int} {M : PH} {K : PV → PS → Prop} {l1 s0 : Int} (h1 : s0 = 0 ∨ s0 = 1) : pm_Run d 133 26 [vA 0, vI l1] [vI s0] (GF X, M, PTF v) K ↔ K (vI s0) (GF X, M, PTF v) := by
  refine (px_rz (by decide +kernel)).trans ((and_iff_right h1).trans ?_)
  exact Iff.rfl
theorem r133_27 {d : Nat} {X : Nat × (Nat → Int)} {v : Nat → Int} {M : PH} {K : PV → PS → Prop} {l1 : Int} : pm_Run d 133 27 [vA 0, vI l1] [] (GF X, M, PTF v) K ↔ pm_Run d 133 32 [vA 0, vI l1] [] (GF X, pm_sa M 0 (pm_up (M 0) 11 l1), PTF v) K := by
  refine (px_go (by decide +kernel : pm_fe 133 27 = some (.aload_n 0, 1)) rfl).trans ?_
  refine (px_go (by decide +kernel : pm_fe 133 28 = some (.iload_n 1, 1)) rfl).trans ?_
  refine (ry_put0 (idx := 86) (ci := 11) (k := 11) (by decide +kernel : 0 < 283 ∧ SHF 0 = (11, 13)) (by decide +kernel)).trans ?_
  exact Iff.rfl
theorem r133_32 {d : Nat} {X : Nat × (Nat → Int)} {v : Nat → Int} {M : PH} {K : PV → PS → Prop} {l1 : Int} : pm_Run d 133 32 [vA 0, vI l1] [] (GF X, M, PTF v) K ↔ K (vI 1) (GF X, M, PTF v) := by
  refine (px_go (by decide +kernel : pm_fe 133 32 = some (.iconst 1, 1)) rfl).trans ?_
  refine (px_rz (by decide +kernel)).trans ((and_iff_right (by decide : (1 : Int) = (0 : Int) ∨ (1 : Int) = (1 : Int))).trans ?_)
  exact Iff.rfl
-- X11_fault fault(I)I
theorem r135_0 {d : Nat} {X : Nat × (Nat → Int)} {v : Nat → Int} {M : PH} {K : PV → PS → Prop} {l1 : Int} (h1 : inR l1) : pm_Run d 135 0 [vA 0, vI l1] [] (GF X, M, PTF v) K ↔ if l1 ≠ 0 then pm_Run d 135 12 [vA 0, vI l1] [] (GF X, M, PTF v) K else pm_Run d 135 4 [vA 0, vI l1] [] (GF X, M, PTF v) K := by
  refine (px_go (by decide +kernel : pm_fe 135 0 = some (.iload_n 1, 1)) rfl).trans ?_
  refine (ry_if_ne (off := 11) (tgt := 12) h1 (by decide +kernel)).trans ?_
  exact Iff.rfl
theorem r135_4 {d : Nat} {X : Nat × (Nat → Int)} {v : Nat → Int} {M : PH} {K : PV → PS → Prop} {l1 : Int} : pm_Run d 135 4 [vA 0, vI l1] [] (GF X, M, PTF v) K ↔ K (vI (M 31 3)) (GF X, M, PTF v) := by
  refine (px_go (by decide +kernel : pm_fe 135 4 = some (.aload_n 0, 1)) rfl).trans ?_
  refine (ry_get2 (idx := 34) (ci := 11) (k := 4) (by decide +kernel : 0 < 283 ∧ SHF 0 = (11, 13)) (ptf_l (a := 0) (k := 4) (n := 31) (by decide +kernel)) (by decide +kernel)).trans ?_
  refine (ry_get0 (idx := 126) (ci := 6) (k := 3) (by decide +kernel : 31 < 283 ∧ SHF 31 = (6, 5)) (by decide +kernel)).trans ?_
  refine (px_ri (by decide +kernel)).trans ?_
  exact Iff.rfl
theorem r135_12 {d : Nat} {X : Nat × (Nat → Int)} {v : Nat → Int} {M : PH} {K : PV → PS → Prop} {l1 : Int} (h1 : inR l1) : pm_Run d 135 12 [vA 0, vI l1] [] (GF X, M, PTF v) K ↔ if l1 ≠ 1 then pm_Run d 135 27 [vA 0, vI l1] [] (GF X, M, PTF v) K else pm_Run d 135 17 [vA 0, vI l1] [] (GF X, M, PTF v) K := by
  refine (px_go (by decide +kernel : pm_fe 135 12 = some (.iload_n 1, 1)) rfl).trans ?_
  refine (px_go (by decide +kernel : pm_fe 135 13 = some (.iconst 1, 1)) rfl).trans ?_
  refine (ry_ic_ne (off := 13) (tgt := 27) h1 (by decide : (-2147483648 ≤ (1 : Int) ∧ (1 : Int) < 2147483648)) (by decide +kernel)).trans ?_
  exact Iff.rfl
theorem r135_17 {d : Nat} {X : Nat × (Nat → Int)} {v : Nat → Int} {M : PH} {K : PV → PS → Prop} {l1 : Int} : pm_Run d 135 17 [vA 0, vI l1] [] (GF X, M, PTF v) K ↔ pm_Run d 135 28 [vA 0, vI l1] [vI (M 31 4)] (GF X, M, PTF v) K := by
  refine (px_go (by decide +kernel : pm_fe 135 17 = some (.aload_n 0, 1)) rfl).trans ?_
  refine (ry_get2 (idx := 34) (ci := 11) (k := 4) (by decide +kernel : 0 < 283 ∧ SHF 0 = (11, 13)) (ptf_l (a := 0) (k := 4) (n := 31) (by decide +kernel)) (by decide +kernel)).trans ?_
  refine (ry_get0 (idx := 129) (ci := 6) (k := 4) (by decide +kernel : 31 < 283 ∧ SHF 31 = (6, 5)) (by decide +kernel)).trans ?_
  refine (px_goto (off := 4) (tgt := 28) (by decide +kernel)).trans ?_
  exact Iff.rfl
theorem r135_27 {d : Nat} {X : Nat × (Nat → Int)} {v : Nat → Int} {M : PH} {K : PV → PS → Prop} {l1 : Int} : pm_Run d 135 27 [vA 0, vI l1] [] (GF X, M, PTF v) K ↔ pm_Run d 135 28 [vA 0, vI l1] [vI (-1)] (GF X, M, PTF v) K := by
  refine (px_go (by decide +kernel : pm_fe 135 27 = some (.iconst (-1), 1)) rfl).trans ?_
  exact Iff.rfl
theorem r135_28 {d : Nat} {X : Nat × (Nat → Int)} {v : Nat → Int} {M : PH} {K : PV → PS → Prop} {l1 s0 : Int} : pm_Run d 135 28 [vA 0, vI l1] [vI s0] (GF X, M, PTF v) K ↔ K (vI s0) (GF X, M, PTF v) := by
  refine (px_ri (by decide +kernel)).trans ?_
  exact Iff.rfl
-- X11_has has(I)I
theorem r136_0 {d : Nat} {X : Nat × (Nat → Int)} {v : Nat → Int} {M : PH} {K : PV → PS → Prop} {l1 : Int} (h1 : inR l1) : pm_Run d 136 0 [vA 0, vI l1] [] (GF X, M, PTF v) K ↔ pm_Run d 136 (pm_tg 0 [64, 72, 80, 88, 96, 104, 112, 120, 128, 136, 144, 152] 157 l1) [vA 0, vI l1] [] (GF X, M, PTF v) K := by
  refine (px_go (by decide +kernel : pm_fe 136 0 = some (.iload_n 1, 1)) rfl).trans ?_
  refine (ry_tsw (lo := 0) (dt := 157) (tl := [64, 72, 80, 88, 96, 104, 112, 120, 128, 136, 144, 152]) h1 (by decide +kernel : pm_fe 136 1 = some (.tableswitch 156 0 11 #[63, 71, 79, 87, 95, 103, 111, 119, 127, 135, 143, 151], 63) ∧ _)).trans ?_
  exact Iff.rfl
theorem r136_64 {d : Nat} {c : Nat} {X : Nat × (Nat → Int)} {v : Nat → Int} {M : PH} {K : PV → PS → Prop} {l1 : Int} (hc : isCh c) (hv0 : v 0 = ((c : Nat) : Int)) : pm_Run d 136 64 [vA 0, vI l1] [] (GF X, M, PTF v) K ↔ K (vI (M c 0)) (GF X, M, PTF v) := by
  refine (px_go (by decide +kernel : pm_fe 136 64 = some (.aload_n 0, 1)) rfl).trans ?_
  refine (ry_get2 (idx := 27) (ci := 11) (k := 3) (by decide +kernel : 0 < 283 ∧ SHF 0 = (11, 13)) (ptd0 hv0) (by decide +kernel)).trans ?_
  refine (ry_get0 (idx := 132) (ci := 1) (k := 0) (chs0 hc) (by decide +kernel)).trans ?_
  refine (px_ri (by decide +kernel)).trans ?_
  exact Iff.rfl
theorem r136_72 {d : Nat} {c : Nat} {X : Nat × (Nat → Int)} {v : Nat → Int} {M : PH} {K : PV → PS → Prop} {l1 : Int} (hc : isCh c) (hv0 : v 0 = ((c : Nat) : Int)) : pm_Run d 136 72 [vA 0, vI l1] [] (GF X, M, PTF v) K ↔ K (vI (M c 1)) (GF X, M, PTF v) := by
  refine (px_go (by decide +kernel : pm_fe 136 72 = some (.aload_n 0, 1)) rfl).trans ?_
  refine (ry_get2 (idx := 27) (ci := 11) (k := 3) (by decide +kernel : 0 < 283 ∧ SHF 0 = (11, 13)) (ptd0 hv0) (by decide +kernel)).trans ?_
  refine (ry_get0 (idx := 135) (ci := 1) (k := 1) (chs0 hc) (by decide +kernel)).trans ?_
  refine (px_ri (by decide +kernel)).trans ?_
  exact Iff.rfl
theorem r136_80 {d : Nat} {c : Nat} {X : Nat × (Nat → Int)} {v : Nat → Int} {M : PH} {K : PV → PS → Prop} {l1 : Int} (hc : isCh c) (hv0 : v 0 = ((c : Nat) : Int)) : pm_Run d 136 80 [vA 0, vI l1] [] (GF X, M, PTF v) K ↔ K (vI (M c 2)) (GF X, M, PTF v) := by
  refine (px_go (by decide +kernel : pm_fe 136 80 = some (.aload_n 0, 1)) rfl).trans ?_
  refine (ry_get2 (idx := 27) (ci := 11) (k := 3) (by decide +kernel : 0 < 283 ∧ SHF 0 = (11, 13)) (ptd0 hv0) (by decide +kernel)).trans ?_
  refine (ry_get0 (idx := 138) (ci := 1) (k := 2) (chs0 hc) (by decide +kernel)).trans ?_
  refine (px_ri (by decide +kernel)).trans ?_
  exact Iff.rfl
theorem r136_88 {d : Nat} {c : Nat} {X : Nat × (Nat → Int)} {v : Nat → Int} {M : PH} {K : PV → PS → Prop} {l1 : Int} (hc : isCh c) (hv0 : v 0 = ((c : Nat) : Int)) : pm_Run d 136 88 [vA 0, vI l1] [] (GF X, M, PTF v) K ↔ K (vI (M c 3)) (GF X, M, PTF v) := by
  refine (px_go (by decide +kernel : pm_fe 136 88 = some (.aload_n 0, 1)) rfl).trans ?_
  refine (ry_get2 (idx := 27) (ci := 11) (k := 3) (by decide +kernel : 0 < 283 ∧ SHF 0 = (11, 13)) (ptd0 hv0) (by decide +kernel)).trans ?_
  refine (ry_get0 (idx := 141) (ci := 1) (k := 3) (chs0 hc) (by decide +kernel)).trans ?_
  refine (px_ri (by decide +kernel)).trans ?_
  exact Iff.rfl
theorem r136_96 {d : Nat} {c : Nat} {X : Nat × (Nat → Int)} {v : Nat → Int} {M : PH} {K : PV → PS → Prop} {l1 : Int} (hc : isCh c) (hv0 : v 0 = ((c : Nat) : Int)) : pm_Run d 136 96 [vA 0, vI l1] [] (GF X, M, PTF v) K ↔ K (vI (M c 4)) (GF X, M, PTF v) := by
  refine (px_go (by decide +kernel : pm_fe 136 96 = some (.aload_n 0, 1)) rfl).trans ?_
  refine (ry_get2 (idx := 27) (ci := 11) (k := 3) (by decide +kernel : 0 < 283 ∧ SHF 0 = (11, 13)) (ptd0 hv0) (by decide +kernel)).trans ?_
  refine (ry_get0 (idx := 144) (ci := 1) (k := 4) (chs0 hc) (by decide +kernel)).trans ?_
  refine (px_ri (by decide +kernel)).trans ?_
  exact Iff.rfl
theorem r136_104 {d : Nat} {c : Nat} {X : Nat × (Nat → Int)} {v : Nat → Int} {M : PH} {K : PV → PS → Prop} {l1 : Int} (hc : isCh c) (hv0 : v 0 = ((c : Nat) : Int)) : pm_Run d 136 104 [vA 0, vI l1] [] (GF X, M, PTF v) K ↔ K (vI (M c 5)) (GF X, M, PTF v) := by
  refine (px_go (by decide +kernel : pm_fe 136 104 = some (.aload_n 0, 1)) rfl).trans ?_
  refine (ry_get2 (idx := 27) (ci := 11) (k := 3) (by decide +kernel : 0 < 283 ∧ SHF 0 = (11, 13)) (ptd0 hv0) (by decide +kernel)).trans ?_
  refine (ry_get0 (idx := 147) (ci := 1) (k := 5) (chs0 hc) (by decide +kernel)).trans ?_
  refine (px_ri (by decide +kernel)).trans ?_
  exact Iff.rfl
theorem r136_112 {d : Nat} {c : Nat} {X : Nat × (Nat → Int)} {v : Nat → Int} {M : PH} {K : PV → PS → Prop} {l1 : Int} (hc : isCh c) (hv0 : v 0 = ((c : Nat) : Int)) : pm_Run d 136 112 [vA 0, vI l1] [] (GF X, M, PTF v) K ↔ K (vI (M c 6)) (GF X, M, PTF v) := by
  refine (px_go (by decide +kernel : pm_fe 136 112 = some (.aload_n 0, 1)) rfl).trans ?_
  refine (ry_get2 (idx := 27) (ci := 11) (k := 3) (by decide +kernel : 0 < 283 ∧ SHF 0 = (11, 13)) (ptd0 hv0) (by decide +kernel)).trans ?_
  refine (ry_get0 (idx := 150) (ci := 1) (k := 6) (chs0 hc) (by decide +kernel)).trans ?_
  refine (px_ri (by decide +kernel)).trans ?_
  exact Iff.rfl
theorem r136_120 {d : Nat} {X : Nat × (Nat → Int)} {v : Nat → Int} {M : PH} {K : PV → PS → Prop} {l1 : Int} : pm_Run d 136 120 [vA 0, vI l1] [] (GF X, M, PTF v) K ↔ K (vI (M 3 0)) (GF X, M, PTF v) := by
  refine (px_go (by decide +kernel : pm_fe 136 120 = some (.aload_n 0, 1)) rfl).trans ?_
  refine (ry_get2 (idx := 20) (ci := 11) (k := 2) (by decide +kernel : 0 < 283 ∧ SHF 0 = (11, 13)) (ptf_l (a := 0) (k := 2) (n := 3) (by decide +kernel)) (by decide +kernel)).trans ?_
  refine (ry_get0 (idx := 153) (ci := 5) (k := 0) (by decide +kernel : 3 < 283 ∧ SHF 3 = (5, 6)) (by decide +kernel)).trans ?_
  refine (px_ri (by decide +kernel)).trans ?_
  exact Iff.rfl
theorem r136_128 {d : Nat} {X : Nat × (Nat → Int)} {v : Nat → Int} {M : PH} {K : PV → PS → Prop} {l1 : Int} : pm_Run d 136 128 [vA 0, vI l1] [] (GF X, M, PTF v) K ↔ pm_Call d 63 [vA 3] (GF X, M, PTF v) (fun r9 S1 => pm_Run d 136 135 [vA 0, vI l1] (pm_push r9 []) S1 K) := by
  refine (px_go (by decide +kernel : pm_fe 136 128 = some (.aload_n 0, 1)) rfl).trans ?_
  refine (ry_get2 (idx := 20) (ci := 11) (k := 2) (by decide +kernel : 0 < 283 ∧ SHF 0 = (11, 13)) (ptf_l (a := 0) (k := 2) (n := 3) (by decide +kernel)) (by decide +kernel)).trans ?_
  refine (ry_v0 (idx := 156) (m' := 63) (ci := 5) (by decide +kernel : 3 < 283 ∧ SHF 3 = (5, 6)) (by simp [pm_wl_n, pm_wl_c, pm_w] : pm_wl [] ≤ 8) (by decide +kernel)).trans ?_
  exact Iff.rfl
theorem r136_135 {d : Nat} {X : Nat × (Nat → Int)} {v : Nat → Int} {M : PH} {K : PV → PS → Prop} {l1 s0 : Int} : pm_Run d 136 135 [vA 0, vI l1] [vI s0] (GF X, M, PTF v) K ↔ K (vI s0) (GF X, M, PTF v) := by
  refine (px_ri (by decide +kernel)).trans ?_
  exact Iff.rfl
theorem r136_136 {d : Nat} {X : Nat × (Nat → Int)} {v : Nat → Int} {M : PH} {K : PV → PS → Prop} {l1 : Int} : pm_Run d 136 136 [vA 0, vI l1] [] (GF X, M, PTF v) K ↔ pm_Call d 64 [vA 3] (GF X, M, PTF v) (fun r9 S1 => pm_Run d 136 143 [vA 0, vI l1] (pm_push r9 []) S1 K) := by
  refine (px_go (by decide +kernel : pm_fe 136 136 = some (.aload_n 0, 1)) rfl).trans ?_
  refine (ry_get2 (idx := 20) (ci := 11) (k := 2) (by decide +kernel : 0 < 283 ∧ SHF 0 = (11, 13)) (ptf_l (a := 0) (k := 2) (n := 3) (by decide +kernel)) (by decide +kernel)).trans ?_
  refine (ry_v0 (idx := 159) (m' := 64) (ci := 5) (by decide +kernel : 3 < 283 ∧ SHF 3 = (5, 6)) (by simp [pm_wl_n, pm_wl_c, pm_w] : pm_wl [] ≤ 8) (by decide +kernel)).trans ?_
  exact Iff.rfl
theorem r136_143 {d : Nat} {X : Nat × (Nat → Int)} {v : Nat → Int} {M : PH} {K : PV → PS → Prop} {l1 s0 : Int} : pm_Run d 136 143 [vA 0, vI l1] [vI s0] (GF X, M, PTF v) K ↔ K (vI s0) (GF X, M, PTF v) := by
  refine (px_ri (by decide +kernel)).trans ?_
  exact Iff.rfl
theorem r136_144 {d : Nat} {X : Nat × (Nat → Int)} {v : Nat → Int} {M : PH} {K : PV → PS → Prop} {l1 : Int} : pm_Run d 136 144 [vA 0, vI l1] [] (GF X, M, PTF v) K ↔ K (vI (M 103 2)) (GF X, M, PTF v) := by
  refine (px_go (by decide +kernel : pm_fe 136 144 = some (.aload_n 0, 1)) rfl).trans ?_
  refine (ry_get2 (idx := 71) (ci := 11) (k := 9) (by decide +kernel : 0 < 283 ∧ SHF 0 = (11, 13)) (ptf_l (a := 0) (k := 9) (n := 103) (by decide +kernel)) (by decide +kernel)).trans ?_
  refine (ry_get0 (idx := 162) (ci := 7) (k := 2) (by decide +kernel : 103 < 283 ∧ SHF 103 = (7, 3)) (by decide +kernel)).trans ?_
  refine (px_ri (by decide +kernel)).trans ?_
  exact Iff.rfl
theorem r136_152 {d : Nat} {X : Nat × (Nat → Int)} {v : Nat → Int} {M : PH} {K : PV → PS → Prop} {l1 : Int} : pm_Run d 136 152 [vA 0, vI l1] [] (GF X, M, PTF v) K ↔ K (vI (M 0 12)) (GF X, M, PTF v) := by
  refine (px_go (by decide +kernel : pm_fe 136 152 = some (.aload_n 0, 1)) rfl).trans ?_
  refine (ry_get0 (idx := 82) (ci := 11) (k := 12) (by decide +kernel : 0 < 283 ∧ SHF 0 = (11, 13)) (by decide +kernel)).trans ?_
  refine (px_ri (by decide +kernel)).trans ?_
  exact Iff.rfl
theorem r136_157 {d : Nat} {X : Nat × (Nat → Int)} {v : Nat → Int} {M : PH} {K : PV → PS → Prop} {l1 : Int} : pm_Run d 136 157 [vA 0, vI l1] [] (GF X, M, PTF v) K ↔ K (vI (-1)) (GF X, M, PTF v) := by
  refine (px_go (by decide +kernel : pm_fe 136 157 = some (.iconst (-1), 1)) rfl).trans ?_
  refine (px_ri (by decide +kernel)).trans ?_
  exact Iff.rfl
-- X11_letter letter(III)I
theorem r137_0 {d : Nat} {X : Nat × (Nat → Int)} {v : Nat → Int} {M : PH} {K : PV → PS → Prop} {l1 l2 l3 : Int} (h1 : inR l3) : pm_Run d 137 0 [vA 0, vI l1, vI l2, vI l3] [] (GF X, M, PTF v) K ↔ if l3 < 0 then pm_Run d 137 10 [vA 0, vI l1, vI l2, vI l3] [] (GF X, M, PTF v) K else pm_Run d 137 4 [vA 0, vI l1, vI l2, vI l3] [] (GF X, M, PTF v) K := by
  refine (px_go (by decide +kernel : pm_fe 137 0 = some (.iload_n 3, 1)) rfl).trans ?_
  refine (ry_if_lt (off := 9) (tgt := 10) h1 (by decide +kernel)).trans ?_
  exact Iff.rfl
theorem r137_4 {d : Nat} {X : Nat × (Nat → Int)} {v : Nat → Int} {M : PH} {K : PV → PS → Prop} {l1 l2 l3 : Int} (h1 : inR l3) : pm_Run d 137 4 [vA 0, vI l1, vI l2, vI l3] [] (GF X, M, PTF v) K ↔ if l3 < 6 then pm_Run d 137 12 [vA 0, vI l1, vI l2, vI l3] [] (GF X, M, PTF v) K else pm_Run d 137 10 [vA 0, vI l1, vI l2, vI l3] [] (GF X, M, PTF v) K := by
  refine (px_go (by decide +kernel : pm_fe 137 4 = some (.iload_n 3, 1)) rfl).trans ?_
  refine (px_go (by decide +kernel : pm_fe 137 5 = some (.bipush 6, 2)) rfl).trans ?_
  refine (ry_ic_lt (off := 5) (tgt := 12) h1 (by decide : (-2147483648 ≤ (6 : Int) ∧ (6 : Int) < 2147483648)) (by decide +kernel)).trans ?_
  exact Iff.rfl
theorem r137_10 {d : Nat} {X : Nat × (Nat → Int)} {v : Nat → Int} {M : PH} {K : PV → PS → Prop} {l1 l2 l3 : Int} : pm_Run d 137 10 [vA 0, vI l1, vI l2, vI l3] [] (GF X, M, PTF v) K ↔ K (vI (-1)) (GF X, M, PTF v) := by
  refine (px_go (by decide +kernel : pm_fe 137 10 = some (.iconst (-1), 1)) rfl).trans ?_
  refine (px_ri (by decide +kernel)).trans ?_
  exact Iff.rfl
theorem r137_12 {d : Nat} {X : Nat × (Nat → Int)} {v : Nat → Int} {M : PH} {K : PV → PS → Prop} {l1 l2 l3 : Int} (h1 : inR l1) : pm_Run d 137 12 [vA 0, vI l1, vI l2, vI l3] [] (GF X, M, PTF v) K ↔ if l1 ≠ 0 then pm_Run d 137 38 [vA 0, vI l1, vI l2, vI l3] [] (GF X, M, PTF v) K else pm_Run d 137 16 [vA 0, vI l1, vI l2, vI l3] [] (GF X, M, PTF v) K := by
  refine (px_go (by decide +kernel : pm_fe 137 12 = some (.iload_n 1, 1)) rfl).trans ?_
  refine (ry_if_ne (off := 25) (tgt := 38) h1 (by decide +kernel)).trans ?_
  exact Iff.rfl
theorem r137_16 {d : Nat} {X : Nat × (Nat → Int)} {v : Nat → Int} {M : PH} {K : PV → PS → Prop} {l1 l2 l3 : Int} : pm_Run d 137 16 [vA 0, vI l1, vI l2, vI l3] [] (GF X, M, PTF v) K ↔ pm_Call d 169 [vA 0, vI l2] (GF X, M, PTF v) (fun r9 S1 => pm_Run d 137 21 [vA 0, vI l1, vI l2, vI l3] (pm_push r9 []) S1 K) := by
  refine (px_go (by decide +kernel : pm_fe 137 16 = some (.aload_n 0, 1)) rfl).trans ?_
  refine (px_go (by decide +kernel : pm_fe 137 17 = some (.iload_n 2, 1)) rfl).trans ?_
  refine (ry_v1 (idx := 165) (m' := 169) (ci := 11) (by decide +kernel : 0 < 283 ∧ SHF 0 = (11, 13)) (by simp [pm_wl_n, pm_wl_c, pm_w] : pm_wl [] ≤ 8) (by decide +kernel)).trans ?_
  exact Iff.rfl
theorem r137_21 {d : Nat} {X : Nat × (Nat → Int)} {v : Nat → Int} {M : PH} {K : PV → PS → Prop} {l1 l2 l3 s0 : Int} (h1 : inR s0) : pm_Run d 137 21 [vA 0, vI l1, vI l2, vI l3] [vI s0] (GF X, M, PTF v) K ↔ if s0 = 0 then pm_Run d 137 38 [vA 0, vI l1, vI l2, vI l3] [] (GF X, M, PTF v) K else pm_Run d 137 24 [vA 0, vI l1, vI l2, vI l3] [] (GF X, M, PTF v) K := by
  refine (ry_if_eq (off := 17) (tgt := 38) h1 (by decide +kernel)).trans ?_
  exact Iff.rfl
theorem r137_24 {d : Nat} {c : Nat} {X : Nat × (Nat → Int)} {v : Nat → Int} {M : PH} {K : PV → PS → Prop} {l1 l2 l3 : Int} (hc : isCh c) (hv0 : v 0 = ((c : Nat) : Int)) (h1 : 0 ≤ l2) (h2 : l2 < 3) : pm_Run d 137 24 [vA 0, vI l1, vI l2, vI l3] [] (GF X, M, PTF v) K ↔ pm_Call d 49 [vI (M (c + 1) l2.toNat), vI l3] (GF X, M, PTF v) (fun r9 S1 => pm_Run d 137 37 [vA 0, vI l1, vI l2, vI l3] (pm_push r9 []) S1 K) := by
  refine (px_go (by decide +kernel : pm_fe 137 24 = some (.aload_n 0, 1)) rfl).trans ?_
  refine (ry_get2 (idx := 27) (ci := 11) (k := 3) (by decide +kernel : 0 < 283 ∧ SHF 0 = (11, 13)) (ptd0 hv0) (by decide +kernel)).trans ?_
  refine (ry_get2 (idx := 169) (ci := 1) (k := 8) (chs0 hc) (chp0_8 hc) (by decide +kernel)).trans ?_
  refine (px_go (by decide +kernel : pm_fe 137 31 = some (.iload_n 2, 1)) rfl).trans ?_
  refine (ry_iald (chs1 hc) h1 h2 (by decide +kernel)).trans ?_
  refine (px_go (by decide +kernel : pm_fe 137 33 = some (.iload_n 3, 1)) rfl).trans ?_
  refine (px_s2 (idx := 172) (m' := 49) (nest := 0) (by decide +kernel)).trans ((and_iff_right (by simp [pm_wl_n, pm_wl_c, pm_w] : pm_wl [] ≤ 8)).trans ?_)
  exact Iff.rfl
theorem r137_37 {d : Nat} {X : Nat × (Nat → Int)} {v : Nat → Int} {M : PH} {K : PV → PS → Prop} {l1 l2 l3 s0 : Int} : pm_Run d 137 37 [vA 0, vI l1, vI l2, vI l3] [vI s0] (GF X, M, PTF v) K ↔ K (vI s0) (GF X, M, PTF v) := by
  refine (px_ri (by decide +kernel)).trans ?_
  exact Iff.rfl
theorem r137_38 {d : Nat} {X : Nat × (Nat → Int)} {v : Nat → Int} {M : PH} {K : PV → PS → Prop} {l1 l2 l3 : Int} (h1 : inR l1) : pm_Run d 137 38 [vA 0, vI l1, vI l2, vI l3] [] (GF X, M, PTF v) K ↔ if l1 ≠ 1 then pm_Run d 137 65 [vA 0, vI l1, vI l2, vI l3] [] (GF X, M, PTF v) K else pm_Run d 137 43 [vA 0, vI l1, vI l2, vI l3] [] (GF X, M, PTF v) K := by
  refine (px_go (by decide +kernel : pm_fe 137 38 = some (.iload_n 1, 1)) rfl).trans ?_
  refine (px_go (by decide +kernel : pm_fe 137 39 = some (.iconst 1, 1)) rfl).trans ?_
  refine (ry_ic_ne (off := 25) (tgt := 65) h1 (by decide : (-2147483648 ≤ (1 : Int) ∧ (1 : Int) < 2147483648)) (by decide +kernel)).trans ?_
  exact Iff.rfl
theorem r137_43 {d : Nat} {X : Nat × (Nat → Int)} {v : Nat → Int} {M : PH} {K : PV → PS → Prop} {l1 l2 l3 : Int} : pm_Run d 137 43 [vA 0, vI l1, vI l2, vI l3] [] (GF X, M, PTF v) K ↔ pm_Call d 170 [vA 0, vI l2] (GF X, M, PTF v) (fun r9 S1 => pm_Run d 137 48 [vA 0, vI l1, vI l2, vI l3] (pm_push r9 []) S1 K) := by
  refine (px_go (by decide +kernel : pm_fe 137 43 = some (.aload_n 0, 1)) rfl).trans ?_
  refine (px_go (by decide +kernel : pm_fe 137 44 = some (.iload_n 2, 1)) rfl).trans ?_
  refine (ry_v1 (idx := 178) (m' := 170) (ci := 11) (by decide +kernel : 0 < 283 ∧ SHF 0 = (11, 13)) (by simp [pm_wl_n, pm_wl_c, pm_w] : pm_wl [] ≤ 8) (by decide +kernel)).trans ?_
  exact Iff.rfl
theorem r137_48 {d : Nat} {X : Nat × (Nat → Int)} {v : Nat → Int} {M : PH} {K : PV → PS → Prop} {l1 l2 l3 s0 : Int} (h1 : inR s0) : pm_Run d 137 48 [vA 0, vI l1, vI l2, vI l3] [vI s0] (GF X, M, PTF v) K ↔ if s0 = 0 then pm_Run d 137 65 [vA 0, vI l1, vI l2, vI l3] [] (GF X, M, PTF v) K else pm_Run d 137 51 [vA 0, vI l1, vI l2, vI l3] [] (GF X, M, PTF v) K := by
  refine (ry_if_eq (off := 17) (tgt := 65) h1 (by decide +kernel)).trans ?_
  exact Iff.rfl
theorem r137_51 {d : Nat} {c : Nat} {X : Nat × (Nat → Int)} {v : Nat → Int} {M : PH} {K : PV → PS → Prop} {l1 l2 l3 : Int} (hc : isCh c) (hv0 : v 0 = ((c : Nat) : Int)) (h1 : 0 ≤ l2) (h2 : l2 < 8) : pm_Run d 137 51 [vA 0, vI l1, vI l2, vI l3] [] (GF X, M, PTF v) K ↔ pm_Call d 49 [vI (M (c + 3) l2.toNat), vI l3] (GF X, M, PTF v) (fun r9 S1 => pm_Run d 137 64 [vA 0, vI l1, vI l2, vI l3] (pm_push r9 []) S1 K) := by
  refine (px_go (by decide +kernel : pm_fe 137 51 = some (.aload_n 0, 1)) rfl).trans ?_
  refine (ry_get2 (idx := 27) (ci := 11) (k := 3) (by decide +kernel : 0 < 283 ∧ SHF 0 = (11, 13)) (ptd0 hv0) (by decide +kernel)).trans ?_
  refine (ry_get2 (idx := 181) (ci := 1) (k := 10) (chs0 hc) (chp0_10 hc) (by decide +kernel)).trans ?_
  refine (px_go (by decide +kernel : pm_fe 137 58 = some (.iload_n 2, 1)) rfl).trans ?_
  refine (ry_iald (chs3 hc) h1 h2 (by decide +kernel)).trans ?_
  refine (px_go (by decide +kernel : pm_fe 137 60 = some (.iload_n 3, 1)) rfl).trans ?_
  refine (px_s2 (idx := 172) (m' := 49) (nest := 0) (by decide +kernel)).trans ((and_iff_right (by simp [pm_wl_n, pm_wl_c, pm_w] : pm_wl [] ≤ 8)).trans ?_)
  exact Iff.rfl
theorem r137_64 {d : Nat} {X : Nat × (Nat → Int)} {v : Nat → Int} {M : PH} {K : PV → PS → Prop} {l1 l2 l3 s0 : Int} : pm_Run d 137 64 [vA 0, vI l1, vI l2, vI l3] [vI s0] (GF X, M, PTF v) K ↔ K (vI s0) (GF X, M, PTF v) := by
  refine (px_ri (by decide +kernel)).trans ?_
  exact Iff.rfl
theorem r137_65 {d : Nat} {X : Nat × (Nat → Int)} {v : Nat → Int} {M : PH} {K : PV → PS → Prop} {l1 l2 l3 : Int} : pm_Run d 137 65 [vA 0, vI l1, vI l2, vI l3] [] (GF X, M, PTF v) K ↔ K (vI (-1)) (GF X, M, PTF v) := by
  refine (px_go (by decide +kernel : pm_fe 137 65 = some (.iconst (-1), 1)) rfl).trans ?_
  refine (px_ri (by decide +kernel)).trans ?_
  exact Iff.rfl
-- X11_moon moon(II)I
theorem r138_0 {d : Nat} {X : Nat × (Nat → Int)} {v : Nat → Int} {M : PH} {K : PV → PS → Prop} {l1 l2 : Int} : pm_Run d 138 0 [vA 0, vI l1, vI l2] [] (GF X, M, PTF v) K ↔ pm_Call d 169 [vA 0, vI l1] (GF X, M, PTF v) (fun r9 S1 => pm_Run d 138 5 [vA 0, vI l1, vI l2] (pm_push r9 []) S1 K) := by
  refine (px_go (by decide +kernel : pm_fe 138 0 = some (.aload_n 0, 1)) rfl).trans ?_
  refine (px_go (by decide +kernel : pm_fe 138 1 = some (.iload_n 1, 1)) rfl).trans ?_
  refine (ry_v1 (idx := 165) (m' := 169) (ci := 11) (by decide +kernel : 0 < 283 ∧ SHF 0 = (11, 13)) (by simp [pm_wl_n, pm_wl_c, pm_w] : pm_wl [] ≤ 8) (by decide +kernel)).trans ?_
  exact Iff.rfl
theorem r138_5 {d : Nat} {X : Nat × (Nat → Int)} {v : Nat → Int} {M : PH} {K : PV → PS → Prop} {l1 l2 s0 : Int} (h1 : inR s0) : pm_Run d 138 5 [vA 0, vI l1, vI l2] [vI s0] (GF X, M, PTF v) K ↔ if s0 ≠ 0 then pm_Run d 138 10 [vA 0, vI l1, vI l2] [] (GF X, M, PTF v) K else pm_Run d 138 8 [vA 0, vI l1, vI l2] [] (GF X, M, PTF v) K := by
  refine (ry_if_ne (off := 5) (tgt := 10) h1 (by decide +kernel)).trans ?_
  exact Iff.rfl
theorem r138_8 {d : Nat} {X : Nat × (Nat → Int)} {v : Nat → Int} {M : PH} {K : PV → PS → Prop} {l1 l2 : Int} : pm_Run d 138 8 [vA 0, vI l1, vI l2] [] (GF X, M, PTF v) K ↔ K (vI (-1)) (GF X, M, PTF v) := by
  refine (px_go (by decide +kernel : pm_fe 138 8 = some (.iconst (-1), 1)) rfl).trans ?_
  refine (px_ri (by decide +kernel)).trans ?_
  exact Iff.rfl
theorem r138_10 {d : Nat} {X : Nat × (Nat → Int)} {v : Nat → Int} {M : PH} {K : PV → PS → Prop} {l1 l2 : Int} (h1 : inR l2) : pm_Run d 138 10 [vA 0, vI l1, vI l2] [] (GF X, M, PTF v) K ↔ pm_Run d 138 (pm_tg 0 [48, 58, 68, 78, 87, 96] 120 l2) [vA 0, vI l1, vI l2] [] (GF X, M, PTF v) K := by
  refine (px_go (by decide +kernel : pm_fe 138 10 = some (.iload_n 2, 1)) rfl).trans ?_
  refine (ry_tsw (lo := 0) (dt := 120) (tl := [48, 58, 68, 78, 87, 96]) h1 (by decide +kernel : pm_fe 138 11 = some (.tableswitch 109 0 5 #[37, 47, 57, 67, 76, 85], 37) ∧ _)).trans ?_
  exact Iff.rfl
theorem r138_48 {d : Nat} {X : Nat × (Nat → Int)} {v : Nat → Int} {M : PH} {K : PV → PS → Prop} {l1 l2 : Int} (h1 : 0 ≤ l1) (h2 : l1 < 3) : pm_Run d 138 48 [vA 0, vI l1, vI l2] [] (GF X, M, PTF v) K ↔ K (vI (M 4 l1.toNat)) (GF X, M, PTF v) := by
  refine (px_go (by decide +kernel : pm_fe 138 48 = some (.aload_n 0, 1)) rfl).trans ?_
  refine (ry_get2 (idx := 20) (ci := 11) (k := 2) (by decide +kernel : 0 < 283 ∧ SHF 0 = (11, 13)) (ptf_l (a := 0) (k := 2) (n := 3) (by decide +kernel)) (by decide +kernel)).trans ?_
  refine (ry_get2 (idx := 184) (ci := 5) (k := 1) (by decide +kernel : 3 < 283 ∧ SHF 3 = (5, 6)) (ptf_l (a := 3) (k := 1) (n := 4) (by decide +kernel)) (by decide +kernel)).trans ?_
  refine (px_go (by decide +kernel : pm_fe 138 55 = some (.iload_n 1, 1)) rfl).trans ?_
  refine (ry_iald (by decide +kernel : 4 < 283 ∧ SHF 4 = (100, 3)) h1 h2 (by decide +kernel)).trans ?_
  refine (px_ri (by decide +kernel)).trans ?_
  exact Iff.rfl
theorem r138_58 {d : Nat} {c : Nat} {X : Nat × (Nat → Int)} {v : Nat → Int} {M : PH} {K : PV → PS → Prop} {l1 l2 : Int} (hc : isCh c) (hv0 : v 0 = ((c : Nat) : Int)) (h1 : 0 ≤ l1) (h2 : l1 < 3) : pm_Run d 138 58 [vA 0, vI l1, vI l2] [] (GF X, M, PTF v) K ↔ K (vI (M (c + 2) l1.toNat)) (GF X, M, PTF v) := by
  refine (px_go (by decide +kernel : pm_fe 138 58 = some (.aload_n 0, 1)) rfl).trans ?_
  refine (ry_get2 (idx := 27) (ci := 11) (k := 3) (by decide +kernel : 0 < 283 ∧ SHF 0 = (11, 13)) (ptd0 hv0) (by decide +kernel)).trans ?_
  refine (ry_get2 (idx := 187) (ci := 1) (k := 9) (chs0 hc) (chp0_9 hc) (by decide +kernel)).trans ?_
  refine (px_go (by decide +kernel : pm_fe 138 65 = some (.iload_n 1, 1)) rfl).trans ?_
  refine (ry_iald (chs2 hc) h1 h2 (by decide +kernel)).trans ?_
  refine (px_ri (by decide +kernel)).trans ?_
  exact Iff.rfl
theorem r138_68 {d : Nat} {X : Nat × (Nat → Int)} {v : Nat → Int} {M : PH} {K : PV → PS → Prop} {l1 l2 : Int} (h1 : 0 ≤ l1) (h2 : l1 < 3) : pm_Run d 138 68 [vA 0, vI l1, vI l2] [] (GF X, M, PTF v) K ↔ K (vI (M 5 l1.toNat)) (GF X, M, PTF v) := by
  refine (px_go (by decide +kernel : pm_fe 138 68 = some (.aload_n 0, 1)) rfl).trans ?_
  refine (ry_get2 (idx := 20) (ci := 11) (k := 2) (by decide +kernel : 0 < 283 ∧ SHF 0 = (11, 13)) (ptf_l (a := 0) (k := 2) (n := 3) (by decide +kernel)) (by decide +kernel)).trans ?_
  refine (ry_get2 (idx := 190) (ci := 5) (k := 2) (by decide +kernel : 3 < 283 ∧ SHF 3 = (5, 6)) (ptf_l (a := 3) (k := 2) (n := 5) (by decide +kernel)) (by decide +kernel)).trans ?_
  refine (px_go (by decide +kernel : pm_fe 138 75 = some (.iload_n 1, 1)) rfl).trans ?_
  refine (ry_iald (by decide +kernel : 5 < 283 ∧ SHF 5 = (100, 3)) h1 h2 (by decide +kernel)).trans ?_
  refine (px_ri (by decide +kernel)).trans ?_
  exact Iff.rfl
theorem r138_78 {d : Nat} {X : Nat × (Nat → Int)} {v : Nat → Int} {M : PH} {K : PV → PS → Prop} {l1 l2 : Int} : pm_Run d 138 78 [vA 0, vI l1, vI l2] [] (GF X, M, PTF v) K ↔ pm_Call d 58 [vA 3, vI l1] (GF X, M, PTF v) (fun r9 S1 => pm_Run d 138 86 [vA 0, vI l1, vI l2] (pm_push r9 []) S1 K) := by
  refine (px_go (by decide +kernel : pm_fe 138 78 = some (.aload_n 0, 1)) rfl).trans ?_
  refine (ry_get2 (idx := 20) (ci := 11) (k := 2) (by decide +kernel : 0 < 283 ∧ SHF 0 = (11, 13)) (ptf_l (a := 0) (k := 2) (n := 3) (by decide +kernel)) (by decide +kernel)).trans ?_
  refine (px_go (by decide +kernel : pm_fe 138 82 = some (.iload_n 1, 1)) rfl).trans ?_
  refine (ry_v1 (idx := 193) (m' := 58) (ci := 5) (by decide +kernel : 3 < 283 ∧ SHF 3 = (5, 6)) (by simp [pm_wl_n, pm_wl_c, pm_w] : pm_wl [] ≤ 8) (by decide +kernel)).trans ?_
  exact Iff.rfl
theorem r138_86 {d : Nat} {X : Nat × (Nat → Int)} {v : Nat → Int} {M : PH} {K : PV → PS → Prop} {l1 l2 s0 : Int} : pm_Run d 138 86 [vA 0, vI l1, vI l2] [vI s0] (GF X, M, PTF v) K ↔ K (vI s0) (GF X, M, PTF v) := by
  refine (px_ri (by decide +kernel)).trans ?_
  exact Iff.rfl
theorem r138_87 {d : Nat} {X : Nat × (Nat → Int)} {v : Nat → Int} {M : PH} {K : PV → PS → Prop} {l1 l2 : Int} : pm_Run d 138 87 [vA 0, vI l1, vI l2] [] (GF X, M, PTF v) K ↔ pm_Call d 59 [vA 3, vI l1] (GF X, M, PTF v) (fun r9 S1 => pm_Run d 138 95 [vA 0, vI l1, vI l2] (pm_push r9 []) S1 K) := by
  refine (px_go (by decide +kernel : pm_fe 138 87 = some (.aload_n 0, 1)) rfl).trans ?_
  refine (ry_get2 (idx := 20) (ci := 11) (k := 2) (by decide +kernel : 0 < 283 ∧ SHF 0 = (11, 13)) (ptf_l (a := 0) (k := 2) (n := 3) (by decide +kernel)) (by decide +kernel)).trans ?_
  refine (px_go (by decide +kernel : pm_fe 138 91 = some (.iload_n 1, 1)) rfl).trans ?_
  refine (ry_v1 (idx := 196) (m' := 59) (ci := 5) (by decide +kernel : 3 < 283 ∧ SHF 3 = (5, 6)) (by simp [pm_wl_n, pm_wl_c, pm_w] : pm_wl [] ≤ 8) (by decide +kernel)).trans ?_
  exact Iff.rfl
theorem r138_95 {d : Nat} {X : Nat × (Nat → Int)} {v : Nat → Int} {M : PH} {K : PV → PS → Prop} {l1 l2 s0 : Int} : pm_Run d 138 95 [vA 0, vI l1, vI l2] [vI s0] (GF X, M, PTF v) K ↔ K (vI s0) (GF X, M, PTF v) := by
  refine (px_ri (by decide +kernel)).trans ?_
  exact Iff.rfl
theorem r138_96 {d : Nat} {X : Nat × (Nat → Int)} {v : Nat → Int} {M : PH} {K : PV → PS → Prop} {l1 l2 : Int} : pm_Run d 138 96 [vA 0, vI l1, vI l2] [] (GF X, M, PTF v) K ↔ pm_Call d 59 [vA 3, vI l1] (GF X, M, PTF v) (fun r9 S1 => pm_Run d 138 104 [vA 0, vI l1, vI l2] (pm_push r9 []) S1 K) := by
  refine (px_go (by decide +kernel : pm_fe 138 96 = some (.aload_n 0, 1)) rfl).trans ?_
  refine (ry_get2 (idx := 20) (ci := 11) (k := 2) (by decide +kernel : 0 < 283 ∧ SHF 0 = (11, 13)) (ptf_l (a := 0) (k := 2) (n := 3) (by decide +kernel)) (by decide +kernel)).trans ?_
  refine (px_go (by decide +kernel : pm_fe 138 100 = some (.iload_n 1, 1)) rfl).trans ?_
  refine (ry_v1 (idx := 196) (m' := 59) (ci := 5) (by decide +kernel : 3 < 283 ∧ SHF 3 = (5, 6)) (by simp [pm_wl_n, pm_wl_c, pm_w] : pm_wl [] ≤ 8) (by decide +kernel)).trans ?_
  exact Iff.rfl
theorem r138_104 {d : Nat} {c : Nat} {X : Nat × (Nat → Int)} {v : Nat → Int} {M : PH} {K : PV → PS → Prop} {l1 l2 s0 : Int} (hc : isCh c) (hv0 : v 0 = ((c : Nat) : Int)) (h1 : inR s0) (h2 : inR (M c 6)) : pm_Run d 138 104 [vA 0, vI l1, vI l2] [vI s0] (GF X, M, PTF v) K ↔ if s0 < M c 6 then pm_Run d 138 118 [vA 0, vI l1, vI l2] [] (GF X, M, PTF v) K else pm_Run d 138 114 [vA 0, vI l1, vI l2] [] (GF X, M, PTF v) K := by
  refine (px_go (by decide +kernel : pm_fe 138 104 = some (.aload_n 0, 1)) rfl).trans ?_
  refine (ry_get2 (idx := 27) (ci := 11) (k := 3) (by decide +kernel : 0 < 283 ∧ SHF 0 = (11, 13)) (ptd0 hv0) (by decide +kernel)).trans ?_
  refine (ry_get0 (idx := 150) (ci := 1) (k := 6) (chs0 hc) (by decide +kernel)).trans ?_
  refine (ry_ic_lt (off := 7) (tgt := 118) h1 h2 (by decide +kernel)).trans ?_
  exact Iff.rfl
theorem r138_114 {d : Nat} {X : Nat × (Nat → Int)} {v : Nat → Int} {M : PH} {K : PV → PS → Prop} {l1 l2 : Int} : pm_Run d 138 114 [vA 0, vI l1, vI l2] [] (GF X, M, PTF v) K ↔ pm_Run d 138 119 [vA 0, vI l1, vI l2] [vI 1] (GF X, M, PTF v) K := by
  refine (px_go (by decide +kernel : pm_fe 138 114 = some (.iconst 1, 1)) rfl).trans ?_
  refine (px_goto (off := 4) (tgt := 119) (by decide +kernel)).trans ?_
  exact Iff.rfl
theorem r138_118 {d : Nat} {X : Nat × (Nat → Int)} {v : Nat → Int} {M : PH} {K : PV → PS → Prop} {l1 l2 : Int} : pm_Run d 138 118 [vA 0, vI l1, vI l2] [] (GF X, M, PTF v) K ↔ pm_Run d 138 119 [vA 0, vI l1, vI l2] [vI 0] (GF X, M, PTF v) K := by
  refine (px_go (by decide +kernel : pm_fe 138 118 = some (.iconst 0, 1)) rfl).trans ?_
  exact Iff.rfl
theorem r138_119 {d : Nat} {X : Nat × (Nat → Int)} {v : Nat → Int} {M : PH} {K : PV → PS → Prop} {l1 l2 s0 : Int} : pm_Run d 138 119 [vA 0, vI l1, vI l2] [vI s0] (GF X, M, PTF v) K ↔ K (vI s0) (GF X, M, PTF v) := by
  refine (px_ri (by decide +kernel)).trans ?_
  exact Iff.rfl
theorem r138_120 {d : Nat} {X : Nat × (Nat → Int)} {v : Nat → Int} {M : PH} {K : PV → PS → Prop} {l1 l2 : Int} : pm_Run d 138 120 [vA 0, vI l1, vI l2] [] (GF X, M, PTF v) K ↔ K (vI (-1)) (GF X, M, PTF v) := by
  refine (px_go (by decide +kernel : pm_fe 138 120 = some (.iconst (-1), 1)) rfl).trans ?_
  refine (px_ri (by decide +kernel)).trans ?_
  exact Iff.rfl
-- X11_harbor harbor(II)I
theorem r139_0 {d : Nat} {X : Nat × (Nat → Int)} {v : Nat → Int} {M : PH} {K : PV → PS → Prop} {l1 l2 : Int} : pm_Run d 139 0 [vA 0, vI l1, vI l2] [] (GF X, M, PTF v) K ↔ pm_Call d 170 [vA 0, vI l1] (GF X, M, PTF v) (fun r9 S1 => pm_Run d 139 5 [vA 0, vI l1, vI l2] (pm_push r9 []) S1 K) := by
  refine (px_go (by decide +kernel : pm_fe 139 0 = some (.aload_n 0, 1)) rfl).trans ?_
  refine (px_go (by decide +kernel : pm_fe 139 1 = some (.iload_n 1, 1)) rfl).trans ?_
  refine (ry_v1 (idx := 178) (m' := 170) (ci := 11) (by decide +kernel : 0 < 283 ∧ SHF 0 = (11, 13)) (by simp [pm_wl_n, pm_wl_c, pm_w] : pm_wl [] ≤ 8) (by decide +kernel)).trans ?_
  exact Iff.rfl
theorem r139_5 {d : Nat} {X : Nat × (Nat → Int)} {v : Nat → Int} {M : PH} {K : PV → PS → Prop} {l1 l2 s0 : Int} (h1 : inR s0) : pm_Run d 139 5 [vA 0, vI l1, vI l2] [vI s0] (GF X, M, PTF v) K ↔ if s0 ≠ 0 then pm_Run d 139 10 [vA 0, vI l1, vI l2] [] (GF X, M, PTF v) K else pm_Run d 139 8 [vA 0, vI l1, vI l2] [] (GF X, M, PTF v) K := by
  refine (ry_if_ne (off := 5) (tgt := 10) h1 (by decide +kernel)).trans ?_
  exact Iff.rfl
theorem r139_8 {d : Nat} {X : Nat × (Nat → Int)} {v : Nat → Int} {M : PH} {K : PV → PS → Prop} {l1 l2 : Int} : pm_Run d 139 8 [vA 0, vI l1, vI l2] [] (GF X, M, PTF v) K ↔ K (vI (-1)) (GF X, M, PTF v) := by
  refine (px_go (by decide +kernel : pm_fe 139 8 = some (.iconst (-1), 1)) rfl).trans ?_
  refine (px_ri (by decide +kernel)).trans ?_
  exact Iff.rfl
theorem r139_10 {d : Nat} {X : Nat × (Nat → Int)} {v : Nat → Int} {M : PH} {K : PV → PS → Prop} {l1 l2 : Int} (h1 : inR l2) : pm_Run d 139 10 [vA 0, vI l1, vI l2] [] (GF X, M, PTF v) K ↔ pm_Run d 139 (pm_tg 0 [64, 74, 84, 94, 103, 112, 126, 135, 145, 164] 197 l2) [vA 0, vI l1, vI l2] [] (GF X, M, PTF v) K := by
  refine (px_go (by decide +kernel : pm_fe 139 10 = some (.iload_n 2, 1)) rfl).trans ?_
  refine (ry_tsw (lo := 0) (dt := 197) (tl := [64, 74, 84, 94, 103, 112, 126, 135, 145, 164]) h1 (by decide +kernel : pm_fe 139 11 = some (.tableswitch 186 0 9 #[53, 63, 73, 83, 92, 101, 115, 124, 134, 153], 53) ∧ _)).trans ?_
  exact Iff.rfl
theorem r139_64 {d : Nat} {c : Nat} {X : Nat × (Nat → Int)} {v : Nat → Int} {M : PH} {K : PV → PS → Prop} {l1 l2 : Int} (hc : isCh c) (hv0 : v 0 = ((c : Nat) : Int)) (h1 : 0 ≤ l1) (h2 : l1 < 8) : pm_Run d 139 64 [vA 0, vI l1, vI l2] [] (GF X, M, PTF v) K ↔ K (vI (M (c + 4) l1.toNat)) (GF X, M, PTF v) := by
  refine (px_go (by decide +kernel : pm_fe 139 64 = some (.aload_n 0, 1)) rfl).trans ?_
  refine (ry_get2 (idx := 27) (ci := 11) (k := 3) (by decide +kernel : 0 < 283 ∧ SHF 0 = (11, 13)) (ptd0 hv0) (by decide +kernel)).trans ?_
  refine (ry_get2 (idx := 199) (ci := 1) (k := 11) (chs0 hc) (chp0_11 hc) (by decide +kernel)).trans ?_
  refine (px_go (by decide +kernel : pm_fe 139 71 = some (.iload_n 1, 1)) rfl).trans ?_
  refine (ry_iald (chs4 hc) h1 h2 (by decide +kernel)).trans ?_
  refine (px_ri (by decide +kernel)).trans ?_
  exact Iff.rfl
theorem r139_74 {d : Nat} {X : Nat × (Nat → Int)} {v : Nat → Int} {M : PH} {K : PV → PS → Prop} {l1 l2 : Int} (h1 : 0 ≤ l1) (h2 : l1 < 8) : pm_Run d 139 74 [vA 0, vI l1, vI l2] [] (GF X, M, PTF v) K ↔ K (vI (M 6 l1.toNat)) (GF X, M, PTF v) := by
  refine (px_go (by decide +kernel : pm_fe 139 74 = some (.aload_n 0, 1)) rfl).trans ?_
  refine (ry_get2 (idx := 20) (ci := 11) (k := 2) (by decide +kernel : 0 < 283 ∧ SHF 0 = (11, 13)) (ptf_l (a := 0) (k := 2) (n := 3) (by decide +kernel)) (by decide +kernel)).trans ?_
  refine (ry_get2 (idx := 202) (ci := 5) (k := 3) (by decide +kernel : 3 < 283 ∧ SHF 3 = (5, 6)) (ptf_l (a := 3) (k := 3) (n := 6) (by decide +kernel)) (by decide +kernel)).trans ?_
  refine (px_go (by decide +kernel : pm_fe 139 81 = some (.iload_n 1, 1)) rfl).trans ?_
  refine (ry_iald (by decide +kernel : 6 < 283 ∧ SHF 6 = (100, 8)) h1 h2 (by decide +kernel)).trans ?_
  refine (px_ri (by decide +kernel)).trans ?_
  exact Iff.rfl
theorem r139_84 {d : Nat} {c : Nat} {X : Nat × (Nat → Int)} {v : Nat → Int} {M : PH} {K : PV → PS → Prop} {l1 l2 : Int} (hc : isCh c) (hv0 : v 0 = ((c : Nat) : Int)) (h1 : 0 ≤ l1) (h2 : l1 < 8) : pm_Run d 139 84 [vA 0, vI l1, vI l2] [] (GF X, M, PTF v) K ↔ K (vI (M (c + 5) l1.toNat)) (GF X, M, PTF v) := by
  refine (px_go (by decide +kernel : pm_fe 139 84 = some (.aload_n 0, 1)) rfl).trans ?_
  refine (ry_get2 (idx := 27) (ci := 11) (k := 3) (by decide +kernel : 0 < 283 ∧ SHF 0 = (11, 13)) (ptd0 hv0) (by decide +kernel)).trans ?_
  refine (ry_get2 (idx := 205) (ci := 1) (k := 12) (chs0 hc) (chp0_12 hc) (by decide +kernel)).trans ?_
  refine (px_go (by decide +kernel : pm_fe 139 91 = some (.iload_n 1, 1)) rfl).trans ?_
  refine (ry_iald (chs5 hc) h1 h2 (by decide +kernel)).trans ?_
  refine (px_ri (by decide +kernel)).trans ?_
  exact Iff.rfl
theorem r139_94 {d : Nat} {X : Nat × (Nat → Int)} {v : Nat → Int} {M : PH} {K : PV → PS → Prop} {l1 l2 : Int} : pm_Run d 139 94 [vA 0, vI l1, vI l2] [] (GF X, M, PTF v) K ↔ pm_Call d 60 [vA 3, vI l1] (GF X, M, PTF v) (fun r9 S1 => pm_Run d 139 102 [vA 0, vI l1, vI l2] (pm_push r9 []) S1 K) := by
  refine (px_go (by decide +kernel : pm_fe 139 94 = some (.aload_n 0, 1)) rfl).trans ?_
  refine (ry_get2 (idx := 20) (ci := 11) (k := 2) (by decide +kernel : 0 < 283 ∧ SHF 0 = (11, 13)) (ptf_l (a := 0) (k := 2) (n := 3) (by decide +kernel)) (by decide +kernel)).trans ?_
  refine (px_go (by decide +kernel : pm_fe 139 98 = some (.iload_n 1, 1)) rfl).trans ?_
  refine (ry_v1 (idx := 208) (m' := 60) (ci := 5) (by decide +kernel : 3 < 283 ∧ SHF 3 = (5, 6)) (by simp [pm_wl_n, pm_wl_c, pm_w] : pm_wl [] ≤ 8) (by decide +kernel)).trans ?_
  exact Iff.rfl
theorem r139_102 {d : Nat} {X : Nat × (Nat → Int)} {v : Nat → Int} {M : PH} {K : PV → PS → Prop} {l1 l2 s0 : Int} : pm_Run d 139 102 [vA 0, vI l1, vI l2] [vI s0] (GF X, M, PTF v) K ↔ K (vI s0) (GF X, M, PTF v) := by
  refine (px_ri (by decide +kernel)).trans ?_
  exact Iff.rfl
theorem r139_103 {d : Nat} {X : Nat × (Nat → Int)} {v : Nat → Int} {M : PH} {K : PV → PS → Prop} {l1 l2 : Int} : pm_Run d 139 103 [vA 0, vI l1, vI l2] [] (GF X, M, PTF v) K ↔ pm_Call d 61 [vA 3, vI l1] (GF X, M, PTF v) (fun r9 S1 => pm_Run d 139 111 [vA 0, vI l1, vI l2] (pm_push r9 []) S1 K) := by
  refine (px_go (by decide +kernel : pm_fe 139 103 = some (.aload_n 0, 1)) rfl).trans ?_
  refine (ry_get2 (idx := 20) (ci := 11) (k := 2) (by decide +kernel : 0 < 283 ∧ SHF 0 = (11, 13)) (ptf_l (a := 0) (k := 2) (n := 3) (by decide +kernel)) (by decide +kernel)).trans ?_
  refine (px_go (by decide +kernel : pm_fe 139 107 = some (.iload_n 1, 1)) rfl).trans ?_
  refine (ry_v1 (idx := 211) (m' := 61) (ci := 5) (by decide +kernel : 3 < 283 ∧ SHF 3 = (5, 6)) (by simp [pm_wl_n, pm_wl_c, pm_w] : pm_wl [] ≤ 8) (by decide +kernel)).trans ?_
  exact Iff.rfl
theorem r139_111 {d : Nat} {X : Nat × (Nat → Int)} {v : Nat → Int} {M : PH} {K : PV → PS → Prop} {l1 l2 s0 : Int} : pm_Run d 139 111 [vA 0, vI l1, vI l2] [vI s0] (GF X, M, PTF v) K ↔ K (vI s0) (GF X, M, PTF v) := by
  refine (px_ri (by decide +kernel)).trans ?_
  exact Iff.rfl
theorem r139_112 {d : Nat} {X : Nat × (Nat → Int)} {v : Nat → Int} {M : PH} {K : PV → PS → Prop} {l1 l2 : Int} : pm_Run d 139 112 [vA 0, vI l1, vI l2] [] (GF X, M, PTF v) K ↔ pm_Call d 172 [vA 0, vI l1] (GF X, M, PTF v) (fun r9 S1 => pm_Run d 139 117 [vA 0, vI l1, vI l2] (pm_push r9 []) S1 K) := by
  refine (px_go (by decide +kernel : pm_fe 139 112 = some (.aload_n 0, 1)) rfl).trans ?_
  refine (px_go (by decide +kernel : pm_fe 139 113 = some (.iload_n 1, 1)) rfl).trans ?_
  refine (ry_v1 (idx := 214) (m' := 172) (ci := 11) (by decide +kernel : 0 < 283 ∧ SHF 0 = (11, 13)) (by simp [pm_wl_n, pm_wl_c, pm_w] : pm_wl [] ≤ 8) (by decide +kernel)).trans ?_
  exact Iff.rfl
theorem r139_117 {d : Nat} {X : Nat × (Nat → Int)} {v : Nat → Int} {M : PH} {K : PV → PS → Prop} {l1 l2 s0 : Int} (h1 : inR s0) : pm_Run d 139 117 [vA 0, vI l1, vI l2] [vI s0] (GF X, M, PTF v) K ↔ if s0 = 0 then pm_Run d 139 124 [vA 0, vI l1, vI l2] [] (GF X, M, PTF v) K else pm_Run d 139 120 [vA 0, vI l1, vI l2] [] (GF X, M, PTF v) K := by
  refine (ry_if_eq (off := 7) (tgt := 124) h1 (by decide +kernel)).trans ?_
  exact Iff.rfl
theorem r139_120 {d : Nat} {X : Nat × (Nat → Int)} {v : Nat → Int} {M : PH} {K : PV → PS → Prop} {l1 l2 : Int} : pm_Run d 139 120 [vA 0, vI l1, vI l2] [] (GF X, M, PTF v) K ↔ pm_Run d 139 125 [vA 0, vI l1, vI l2] [vI 1] (GF X, M, PTF v) K := by
  refine (px_go (by decide +kernel : pm_fe 139 120 = some (.iconst 1, 1)) rfl).trans ?_
  refine (px_goto (off := 4) (tgt := 125) (by decide +kernel)).trans ?_
  exact Iff.rfl
theorem r139_124 {d : Nat} {X : Nat × (Nat → Int)} {v : Nat → Int} {M : PH} {K : PV → PS → Prop} {l1 l2 : Int} : pm_Run d 139 124 [vA 0, vI l1, vI l2] [] (GF X, M, PTF v) K ↔ pm_Run d 139 125 [vA 0, vI l1, vI l2] [vI 0] (GF X, M, PTF v) K := by
  refine (px_go (by decide +kernel : pm_fe 139 124 = some (.iconst 0, 1)) rfl).trans ?_
  exact Iff.rfl
theorem r139_125 {d : Nat} {X : Nat × (Nat → Int)} {v : Nat → Int} {M : PH} {K : PV → PS → Prop} {l1 l2 s0 : Int} : pm_Run d 139 125 [vA 0, vI l1, vI l2] [vI s0] (GF X, M, PTF v) K ↔ K (vI s0) (GF X, M, PTF v) := by
  refine (px_ri (by decide +kernel)).trans ?_
  exact Iff.rfl
theorem r139_126 {d : Nat} {c : Nat} {X : Nat × (Nat → Int)} {v : Nat → Int} {M : PH} {K : PV → PS → Prop} {l1 l2 : Int} (hc : isCh c) (hv0 : v 0 = ((c : Nat) : Int)) : pm_Run d 139 126 [vA 0, vI l1, vI l2] [] (GF X, M, PTF v) K ↔ pm_Call d 17 [vA c, vI l1] (GF X, M, PTF v) (fun r9 S1 => pm_Run d 139 134 [vA 0, vI l1, vI l2] (pm_push r9 []) S1 K) := by
  refine (px_go (by decide +kernel : pm_fe 139 126 = some (.aload_n 0, 1)) rfl).trans ?_
  refine (ry_get2 (idx := 27) (ci := 11) (k := 3) (by decide +kernel : 0 < 283 ∧ SHF 0 = (11, 13)) (ptd0 hv0) (by decide +kernel)).trans ?_
  refine (px_go (by decide +kernel : pm_fe 139 130 = some (.iload_n 1, 1)) rfl).trans ?_
  refine (ry_v1 (idx := 217) (m' := 17) (ci := 1) (chs0 hc) (by simp [pm_wl_n, pm_wl_c, pm_w] : pm_wl [] ≤ 8) (by decide +kernel)).trans ?_
  exact Iff.rfl
theorem r139_134 {d : Nat} {X : Nat × (Nat → Int)} {v : Nat → Int} {M : PH} {K : PV → PS → Prop} {l1 l2 s0 : Int} : pm_Run d 139 134 [vA 0, vI l1, vI l2] [vI s0] (GF X, M, PTF v) K ↔ K (vI s0) (GF X, M, PTF v) := by
  refine (px_ri (by decide +kernel)).trans ?_
  exact Iff.rfl
theorem r139_135 {d : Nat} {c : Nat} {X : Nat × (Nat → Int)} {v : Nat → Int} {M : PH} {K : PV → PS → Prop} {l1 l2 : Int} (hc : isCh c) (hv0 : v 0 = ((c : Nat) : Int)) : pm_Run d 139 135 [vA 0, vI l1, vI l2] [] (GF X, M, PTF v) K ↔ pm_Call d 18 [vA c, vI l1, vI 0] (GF X, M, PTF v) (fun r9 S1 => pm_Run d 139 144 [vA 0, vI l1, vI l2] (pm_push r9 []) S1 K) := by
  refine (px_go (by decide +kernel : pm_fe 139 135 = some (.aload_n 0, 1)) rfl).trans ?_
  refine (ry_get2 (idx := 27) (ci := 11) (k := 3) (by decide +kernel : 0 < 283 ∧ SHF 0 = (11, 13)) (ptd0 hv0) (by decide +kernel)).trans ?_
  refine (px_go (by decide +kernel : pm_fe 139 139 = some (.iload_n 1, 1)) rfl).trans ?_
  refine (px_go (by decide +kernel : pm_fe 139 140 = some (.iconst 0, 1)) rfl).trans ?_
  refine (ry_v2 (idx := 220) (m' := 18) (ci := 1) (chs0 hc) (by simp [pm_wl_n, pm_wl_c, pm_w] : pm_wl [] ≤ 8) (by decide +kernel)).trans ?_
  exact Iff.rfl
theorem r139_144 {d : Nat} {X : Nat × (Nat → Int)} {v : Nat → Int} {M : PH} {K : PV → PS → Prop} {l1 l2 s0 : Int} : pm_Run d 139 144 [vA 0, vI l1, vI l2] [vI s0] (GF X, M, PTF v) K ↔ K (vI s0) (GF X, M, PTF v) := by
  refine (px_ri (by decide +kernel)).trans ?_
  exact Iff.rfl
theorem r139_145 {d : Nat} {c : Nat} {X : Nat × (Nat → Int)} {v : Nat → Int} {M : PH} {K : PV → PS → Prop} {l1 l2 : Int} (hc : isCh c) (hv0 : v 0 = ((c : Nat) : Int)) : pm_Run d 139 145 [vA 0, vI l1, vI l2] [] (GF X, M, PTF v) K ↔ pm_Call d 19 [vA c, vA 6] (GF X, M, PTF v) (fun r9 S1 => pm_Run d 139 159 [vA 0, vI l1, vI l2] (pm_push r9 []) S1 K) := by
  refine (px_go (by decide +kernel : pm_fe 139 145 = some (.aload_n 0, 1)) rfl).trans ?_
  refine (ry_get2 (idx := 27) (ci := 11) (k := 3) (by decide +kernel : 0 < 283 ∧ SHF 0 = (11, 13)) (ptd0 hv0) (by decide +kernel)).trans ?_
  refine (px_go (by decide +kernel : pm_fe 139 149 = some (.aload_n 0, 1)) rfl).trans ?_
  refine (ry_get2 (idx := 20) (ci := 11) (k := 2) (by decide +kernel : 0 < 283 ∧ SHF 0 = (11, 13)) (ptf_l (a := 0) (k := 2) (n := 3) (by decide +kernel)) (by decide +kernel)).trans ?_
  refine (ry_get2 (idx := 202) (ci := 5) (k := 3) (by decide +kernel : 3 < 283 ∧ SHF 3 = (5, 6)) (ptf_l (a := 3) (k := 3) (n := 6) (by decide +kernel)) (by decide +kernel)).trans ?_
  refine (ry_v1 (idx := 223) (m' := 19) (ci := 1) (chs0 hc) (by simp [pm_wl_n, pm_wl_c, pm_w] : pm_wl [] ≤ 8) (by decide +kernel)).trans ?_
  exact Iff.rfl
theorem r139_159 {d : Nat} {X : Nat × (Nat → Int)} {v : Nat → Int} {M : PH} {K : PV → PS → Prop} {l1 l2 s0 : Int} : pm_Run d 139 159 [vA 0, vI l1, vI l2] [vI s0] (GF X, M, PTF v) K ↔ K (vI (pm_and (pm_shr s0 l1) 1)) (GF X, M, PTF v) := by
  refine (px_go (by decide +kernel : pm_fe 139 159 = some (.iload_n 1, 1)) rfl).trans ?_
  refine (px_go (by decide +kernel : pm_fe 139 160 = some (.ishr, 1)) rfl).trans ?_
  refine (px_go (by decide +kernel : pm_fe 139 161 = some (.iconst 1, 1)) rfl).trans ?_
  refine (px_go (by decide +kernel : pm_fe 139 162 = some (.iand, 1)) rfl).trans ?_
  refine (px_ri (by decide +kernel)).trans ?_
  exact Iff.rfl
theorem r139_164 {d : Nat} {c : Nat} {X : Nat × (Nat → Int)} {v : Nat → Int} {M : PH} {K : PV → PS → Prop} {l1 l2 : Int} (hc : isCh c) (hv0 : v 0 = ((c : Nat) : Int)) : pm_Run d 139 164 [vA 0, vI l1, vI l2] [] (GF X, M, PTF v) K ↔ pm_Call d 17 [vA c, vI l1] (GF X, M, PTF v) (fun r9 S1 => pm_Run d 139 173 [vA 0, vI l1, vI l2] (pm_push r9 [vI 0]) S1 K) := by
  refine (px_go (by decide +kernel : pm_fe 139 164 = some (.iconst 0, 1)) rfl).trans ?_
  refine (px_go (by decide +kernel : pm_fe 139 165 = some (.aload_n 0, 1)) rfl).trans ?_
  refine (ry_get2 (idx := 27) (ci := 11) (k := 3) (by decide +kernel : 0 < 283 ∧ SHF 0 = (11, 13)) (ptd0 hv0) (by decide +kernel)).trans ?_
  refine (px_go (by decide +kernel : pm_fe 139 169 = some (.iload_n 1, 1)) rfl).trans ?_
  refine (ry_v1 (idx := 217) (m' := 17) (ci := 1) (chs0 hc) (by simp [pm_wl_n, pm_wl_c, pm_w] : pm_wl [vI 0] ≤ 8) (by decide +kernel)).trans ?_
  exact Iff.rfl
theorem r139_173 {d : Nat} {c : Nat} {X : Nat × (Nat → Int)} {v : Nat → Int} {M : PH} {K : PV → PS → Prop} {l1 l2 s0 s1 : Int} (hc : isCh c) (hv0 : v 0 = ((c : Nat) : Int)) (h1 : 0 ≤ l1) (h2 : l1 < 8) : pm_Run d 139 173 [vA 0, vI l1, vI l2] [vI s0, vI s1] (GF X, M, PTF v) K ↔ pm_Call d 18 [vA c, vI l1, vI 0] (GF X, M, PTF v) (fun r9 S1 => pm_Run d 139 192 [vA 0, vI l1, vI l2] (pm_push r9 [vI (s0 - (M 6 l1.toNat)), vI s1]) S1 K) := by
  refine (px_go (by decide +kernel : pm_fe 139 173 = some (.aload_n 0, 1)) rfl).trans ?_
  refine (ry_get2 (idx := 20) (ci := 11) (k := 2) (by decide +kernel : 0 < 283 ∧ SHF 0 = (11, 13)) (ptf_l (a := 0) (k := 2) (n := 3) (by decide +kernel)) (by decide +kernel)).trans ?_
  refine (ry_get2 (idx := 202) (ci := 5) (k := 3) (by decide +kernel : 3 < 283 ∧ SHF 3 = (5, 6)) (ptf_l (a := 3) (k := 3) (n := 6) (by decide +kernel)) (by decide +kernel)).trans ?_
  refine (px_go (by decide +kernel : pm_fe 139 180 = some (.iload_n 1, 1)) rfl).trans ?_
  refine (ry_iald (by decide +kernel : 6 < 283 ∧ SHF 6 = (100, 8)) h1 h2 (by decide +kernel)).trans ?_
  refine (px_go (by decide +kernel : pm_fe 139 182 = some (.isub, 1)) rfl).trans ?_
  refine (px_go (by decide +kernel : pm_fe 139 183 = some (.aload_n 0, 1)) rfl).trans ?_
  refine (ry_get2 (idx := 27) (ci := 11) (k := 3) (by decide +kernel : 0 < 283 ∧ SHF 0 = (11, 13)) (ptd0 hv0) (by decide +kernel)).trans ?_
  refine (px_go (by decide +kernel : pm_fe 139 187 = some (.iload_n 1, 1)) rfl).trans ?_
  refine (px_go (by decide +kernel : pm_fe 139 188 = some (.iconst 0, 1)) rfl).trans ?_
  refine (ry_v2 (idx := 220) (m' := 18) (ci := 1) (chs0 hc) (by simp [pm_wl_n, pm_wl_c, pm_w] : pm_wl [vI (s0 - (M 6 l1.toNat)), vI s1] ≤ 8) (by decide +kernel)).trans ?_
  exact Iff.rfl
theorem r139_192 {d : Nat} {X : Nat × (Nat → Int)} {v : Nat → Int} {M : PH} {K : PV → PS → Prop} {l1 l2 s0 s1 s2 : Int} (h1 : inR s2) (h2 : inR (s1 - s0)) : pm_Run d 139 192 [vA 0, vI l1, vI l2] [vI s0, vI s1, vI s2] (GF X, M, PTF v) K ↔ K (vI (max s2 (s1 - s0))) (GF X, M, PTF v) := by
  refine (px_go (by decide +kernel : pm_fe 139 192 = some (.isub, 1)) rfl).trans ?_
  refine (ry_mx (idx := 227) h1 h2 (by simp [pm_wl_n, pm_wl_c, pm_w] : pm_wl [] ≤ 8) (by decide +kernel)).trans ?_
  refine (px_ri (by decide +kernel)).trans ?_
  exact Iff.rfl
theorem r139_197 {d : Nat} {X : Nat × (Nat → Int)} {v : Nat → Int} {M : PH} {K : PV → PS → Prop} {l1 l2 : Int} : pm_Run d 139 197 [vA 0, vI l1, vI l2] [] (GF X, M, PTF v) K ↔ K (vI (-1)) (GF X, M, PTF v) := by
  refine (px_go (by decide +kernel : pm_fe 139 197 = some (.iconst (-1), 1)) rfl).trans ?_
  refine (px_ri (by decide +kernel)).trans ?_
  exact Iff.rfl
-- X11_bids bids(III)I
theorem r140_0 {d : Nat} {X : Nat × (Nat → Int)} {v : Nat → Int} {M : PH} {K : PV → PS → Prop} {l1 l2 l3 : Int} : pm_Run d 140 0 [vA 0, vI l1, vI l2, vI l3, PU] [] (GF X, M, PTF v) K ↔ pm_Call d 170 [vA 0, vI l1] (GF X, M, PTF v) (fun r9 S1 => pm_Run d 140 5 [vA 0, vI l1, vI l2, vI l3, PU] (pm_push r9 []) S1 K) := by
  refine (px_go (by decide +kernel : pm_fe 140 0 = some (.aload_n 0, 1)) rfl).trans ?_
  refine (px_go (by decide +kernel : pm_fe 140 1 = some (.iload_n 1, 1)) rfl).trans ?_
  refine (ry_v1 (idx := 178) (m' := 170) (ci := 11) (by decide +kernel : 0 < 283 ∧ SHF 0 = (11, 13)) (by simp [pm_wl_n, pm_wl_c, pm_w] : pm_wl [] ≤ 8) (by decide +kernel)).trans ?_
  exact Iff.rfl
theorem r140_5 {d : Nat} {X : Nat × (Nat → Int)} {v : Nat → Int} {M : PH} {K : PV → PS → Prop} {l1 l2 l3 s0 : Int} (h1 : inR s0) : pm_Run d 140 5 [vA 0, vI l1, vI l2, vI l3, PU] [vI s0] (GF X, M, PTF v) K ↔ if s0 = 0 then pm_Run d 140 16 [vA 0, vI l1, vI l2, vI l3, PU] [] (GF X, M, PTF v) K else pm_Run d 140 8 [vA 0, vI l1, vI l2, vI l3, PU] [] (GF X, M, PTF v) K := by
  refine (ry_if_eq (off := 11) (tgt := 16) h1 (by decide +kernel)).trans ?_
  exact Iff.rfl
theorem r140_8 {d : Nat} {X : Nat × (Nat → Int)} {v : Nat → Int} {M : PH} {K : PV → PS → Prop} {l1 l2 l3 : Int} : pm_Run d 140 8 [vA 0, vI l1, vI l2, vI l3, PU] [] (GF X, M, PTF v) K ↔ pm_Call d 169 [vA 0, vI l2] (GF X, M, PTF v) (fun r9 S1 => pm_Run d 140 13 [vA 0, vI l1, vI l2, vI l3, PU] (pm_push r9 []) S1 K) := by
  refine (px_go (by decide +kernel : pm_fe 140 8 = some (.aload_n 0, 1)) rfl).trans ?_
  refine (px_go (by decide +kernel : pm_fe 140 9 = some (.iload_n 2, 1)) rfl).trans ?_
  refine (ry_v1 (idx := 165) (m' := 169) (ci := 11) (by decide +kernel : 0 < 283 ∧ SHF 0 = (11, 13)) (by simp [pm_wl_n, pm_wl_c, pm_w] : pm_wl [] ≤ 8) (by decide +kernel)).trans ?_
  exact Iff.rfl
theorem r140_13 {d : Nat} {X : Nat × (Nat → Int)} {v : Nat → Int} {M : PH} {K : PV → PS → Prop} {l1 l2 l3 s0 : Int} (h1 : inR s0) : pm_Run d 140 13 [vA 0, vI l1, vI l2, vI l3, PU] [vI s0] (GF X, M, PTF v) K ↔ if s0 ≠ 0 then pm_Run d 140 18 [vA 0, vI l1, vI l2, vI l3, PU] [] (GF X, M, PTF v) K else pm_Run d 140 16 [vA 0, vI l1, vI l2, vI l3, PU] [] (GF X, M, PTF v) K := by
  refine (ry_if_ne (off := 5) (tgt := 18) h1 (by decide +kernel)).trans ?_
  exact Iff.rfl
theorem r140_16 {d : Nat} {X : Nat × (Nat → Int)} {v : Nat → Int} {M : PH} {K : PV → PS → Prop} {l1 l2 l3 : Int} : pm_Run d 140 16 [vA 0, vI l1, vI l2, vI l3, PU] [] (GF X, M, PTF v) K ↔ K (vI (-1)) (GF X, M, PTF v) := by
  refine (px_go (by decide +kernel : pm_fe 140 16 = some (.iconst (-1), 1)) rfl).trans ?_
  refine (px_ri (by decide +kernel)).trans ?_
  exact Iff.rfl
theorem r140_18 {d : Nat} {X : Nat × (Nat → Int)} {v : Nat → Int} {M : PH} {K : PV → PS → Prop} {l1 l2 l3 : Int} : pm_Run d 140 18 [vA 0, vI l1, vI l2, vI l3, PU] [] (GF X, M, PTF v) K ↔ pm_Call d 55 [vI l1, vI l2] (GF X, M, PTF v) (fun r9 S1 => pm_Run d 140 23 [vA 0, vI l1, vI l2, vI l3, PU] (pm_push r9 []) S1 K) := by
  refine (px_go (by decide +kernel : pm_fe 140 18 = some (.iload_n 1, 1)) rfl).trans ?_
  refine (px_go (by decide +kernel : pm_fe 140 19 = some (.iload_n 2, 1)) rfl).trans ?_
  refine (px_s2 (idx := 232) (m' := 55) (nest := 0) (by decide +kernel)).trans ((and_iff_right (by simp [pm_wl_n, pm_wl_c, pm_w] : pm_wl [] ≤ 8)).trans ?_)
  exact Iff.rfl
theorem r140_23 {d : Nat} {X : Nat × (Nat → Int)} {v : Nat → Int} {M : PH} {K : PV → PS → Prop} {l1 l2 l3 s0 : Int} (h1 : inR l3) : pm_Run d 140 23 [vA 0, vI l1, vI l2, vI l3, PU] [vI s0] (GF X, M, PTF v) K ↔ if l3 ≠ 0 then pm_Run d 140 40 [vA 0, vI l1, vI l2, vI l3, vI s0] [] (GF X, M, PTF v) K else pm_Run d 140 29 [vA 0, vI l1, vI l2, vI l3, vI s0] [] (GF X, M, PTF v) K := by
  refine (px_go (by decide +kernel : pm_fe 140 23 = some (.istore 4, 2)) rfl).trans ?_
  refine (px_go (by decide +kernel : pm_fe 140 25 = some (.iload_n 3, 1)) rfl).trans ?_
  refine (ry_if_ne (off := 14) (tgt := 40) h1 (by decide +kernel)).trans ?_
  exact Iff.rfl
theorem r140_29 {d : Nat} {X : Nat × (Nat → Int)} {v : Nat → Int} {M : PH} {K : PV → PS → Prop} {l1 l2 l3 l4 : Int} (h1 : 0 ≤ l4) (h2 : l4 < 24) : pm_Run d 140 29 [vA 0, vI l1, vI l2, vI l3, vI l4] [] (GF X, M, PTF v) K ↔ K (vI (M 7 l4.toNat)) (GF X, M, PTF v) := by
  refine (px_go (by decide +kernel : pm_fe 140 29 = some (.aload_n 0, 1)) rfl).trans ?_
  refine (ry_get2 (idx := 20) (ci := 11) (k := 2) (by decide +kernel : 0 < 283 ∧ SHF 0 = (11, 13)) (ptf_l (a := 0) (k := 2) (n := 3) (by decide +kernel)) (by decide +kernel)).trans ?_
  refine (ry_get2 (idx := 235) (ci := 5) (k := 4) (by decide +kernel : 3 < 283 ∧ SHF 3 = (5, 6)) (ptf_l (a := 3) (k := 4) (n := 7) (by decide +kernel)) (by decide +kernel)).trans ?_
  refine (px_go (by decide +kernel : pm_fe 140 36 = some (.iload 4, 2)) rfl).trans ?_
  refine (ry_iald (by decide +kernel : 7 < 283 ∧ SHF 7 = (100, 24)) h1 h2 (by decide +kernel)).trans ?_
  refine (px_ri (by decide +kernel)).trans ?_
  exact Iff.rfl
theorem r140_40 {d : Nat} {X : Nat × (Nat → Int)} {v : Nat → Int} {M : PH} {K : PV → PS → Prop} {l1 l2 l3 l4 : Int} (h1 : inR l3) : pm_Run d 140 40 [vA 0, vI l1, vI l2, vI l3, vI l4] [] (GF X, M, PTF v) K ↔ if l3 ≠ 1 then pm_Run d 140 58 [vA 0, vI l1, vI l2, vI l3, vI l4] [] (GF X, M, PTF v) K else pm_Run d 140 45 [vA 0, vI l1, vI l2, vI l3, vI l4] [] (GF X, M, PTF v) K := by
  refine (px_go (by decide +kernel : pm_fe 140 40 = some (.iload_n 3, 1)) rfl).trans ?_
  refine (px_go (by decide +kernel : pm_fe 140 41 = some (.iconst 1, 1)) rfl).trans ?_
  refine (ry_ic_ne (off := 16) (tgt := 58) h1 (by decide : (-2147483648 ≤ (1 : Int) ∧ (1 : Int) < 2147483648)) (by decide +kernel)).trans ?_
  exact Iff.rfl
theorem r140_45 {d : Nat} {X : Nat × (Nat → Int)} {v : Nat → Int} {M : PH} {K : PV → PS → Prop} {l1 l2 l3 l4 : Int} (h1 : 0 ≤ l4) (h2 : l4 < 24) : pm_Run d 140 45 [vA 0, vI l1, vI l2, vI l3, vI l4] [] (GF X, M, PTF v) K ↔ pm_Run d 140 59 [vA 0, vI l1, vI l2, vI l3, vI l4] [vI (M 8 l4.toNat)] (GF X, M, PTF v) K := by
  refine (px_go (by decide +kernel : pm_fe 140 45 = some (.aload_n 0, 1)) rfl).trans ?_
  refine (ry_get2 (idx := 20) (ci := 11) (k := 2) (by decide +kernel : 0 < 283 ∧ SHF 0 = (11, 13)) (ptf_l (a := 0) (k := 2) (n := 3) (by decide +kernel)) (by decide +kernel)).trans ?_
  refine (ry_get2 (idx := 238) (ci := 5) (k := 5) (by decide +kernel : 3 < 283 ∧ SHF 3 = (5, 6)) (ptf_l (a := 3) (k := 5) (n := 8) (by decide +kernel)) (by decide +kernel)).trans ?_
  refine (px_go (by decide +kernel : pm_fe 140 52 = some (.iload 4, 2)) rfl).trans ?_
  refine (ry_iald (by decide +kernel : 8 < 283 ∧ SHF 8 = (100, 24)) h1 h2 (by decide +kernel)).trans ?_
  refine (px_goto (off := 4) (tgt := 59) (by decide +kernel)).trans ?_
  exact Iff.rfl
theorem r140_58 {d : Nat} {X : Nat × (Nat → Int)} {v : Nat → Int} {M : PH} {K : PV → PS → Prop} {l1 l2 l3 l4 : Int} : pm_Run d 140 58 [vA 0, vI l1, vI l2, vI l3, vI l4] [] (GF X, M, PTF v) K ↔ pm_Run d 140 59 [vA 0, vI l1, vI l2, vI l3, vI l4] [vI (-1)] (GF X, M, PTF v) K := by
  refine (px_go (by decide +kernel : pm_fe 140 58 = some (.iconst (-1), 1)) rfl).trans ?_
  exact Iff.rfl
theorem r140_59 {d : Nat} {X : Nat × (Nat → Int)} {v : Nat → Int} {M : PH} {K : PV → PS → Prop} {l1 l2 l3 l4 s0 : Int} : pm_Run d 140 59 [vA 0, vI l1, vI l2, vI l3, vI l4] [vI s0] (GF X, M, PTF v) K ↔ K (vI s0) (GF X, M, PTF v) := by
  refine (px_ri (by decide +kernel)).trans ?_
  exact Iff.rfl
-- X11_pull pull(II)I
theorem r141_0 {d : Nat} {X : Nat × (Nat → Int)} {v : Nat → Int} {M : PH} {K : PV → PS → Prop} {l1 l2 : Int} : pm_Run d 141 0 [vA 0, vI l1, vI l2] [] (GF X, M, PTF v) K ↔ pm_Call d 169 [vA 0, vI l1] (GF X, M, PTF v) (fun r9 S1 => pm_Run d 141 5 [vA 0, vI l1, vI l2] (pm_push r9 []) S1 K) := by
  refine (px_go (by decide +kernel : pm_fe 141 0 = some (.aload_n 0, 1)) rfl).trans ?_
  refine (px_go (by decide +kernel : pm_fe 141 1 = some (.iload_n 1, 1)) rfl).trans ?_
  refine (ry_v1 (idx := 165) (m' := 169) (ci := 11) (by decide +kernel : 0 < 283 ∧ SHF 0 = (11, 13)) (by simp [pm_wl_n, pm_wl_c, pm_w] : pm_wl [] ≤ 8) (by decide +kernel)).trans ?_
  exact Iff.rfl
theorem r141_5 {d : Nat} {X : Nat × (Nat → Int)} {v : Nat → Int} {M : PH} {K : PV → PS → Prop} {l1 l2 s0 : Int} (h1 : inR s0) : pm_Run d 141 5 [vA 0, vI l1, vI l2] [vI s0] (GF X, M, PTF v) K ↔ if s0 = 0 then pm_Run d 141 16 [vA 0, vI l1, vI l2] [] (GF X, M, PTF v) K else pm_Run d 141 8 [vA 0, vI l1, vI l2] [] (GF X, M, PTF v) K := by
  refine (ry_if_eq (off := 11) (tgt := 16) h1 (by decide +kernel)).trans ?_
  exact Iff.rfl
theorem r141_8 {d : Nat} {X : Nat × (Nat → Int)} {v : Nat → Int} {M : PH} {K : PV → PS → Prop} {l1 l2 : Int} : pm_Run d 141 8 [vA 0, vI l1, vI l2] [] (GF X, M, PTF v) K ↔ pm_Call d 171 [vA 0, vI l2] (GF X, M, PTF v) (fun r9 S1 => pm_Run d 141 13 [vA 0, vI l1, vI l2] (pm_push r9 []) S1 K) := by
  refine (px_go (by decide +kernel : pm_fe 141 8 = some (.aload_n 0, 1)) rfl).trans ?_
  refine (px_go (by decide +kernel : pm_fe 141 9 = some (.iload_n 2, 1)) rfl).trans ?_
  refine (ry_v1 (idx := 241) (m' := 171) (ci := 11) (by decide +kernel : 0 < 283 ∧ SHF 0 = (11, 13)) (by simp [pm_wl_n, pm_wl_c, pm_w] : pm_wl [] ≤ 8) (by decide +kernel)).trans ?_
  exact Iff.rfl
theorem r141_13 {d : Nat} {X : Nat × (Nat → Int)} {v : Nat → Int} {M : PH} {K : PV → PS → Prop} {l1 l2 s0 : Int} (h1 : inR s0) : pm_Run d 141 13 [vA 0, vI l1, vI l2] [vI s0] (GF X, M, PTF v) K ↔ if s0 ≠ 0 then pm_Run d 141 19 [vA 0, vI l1, vI l2] [] (GF X, M, PTF v) K else pm_Run d 141 16 [vA 0, vI l1, vI l2] [] (GF X, M, PTF v) K := by
  refine (ry_if_ne (off := 6) (tgt := 19) h1 (by decide +kernel)).trans ?_
  exact Iff.rfl
theorem r141_16 {d : Nat} {X : Nat × (Nat → Int)} {v : Nat → Int} {M : PH} {K : PV → PS → Prop} {l1 l2 : Int} : pm_Run d 141 16 [vA 0, vI l1, vI l2] [] (GF X, M, PTF v) K ↔ K (vI (-1000000000)) (GF X, M, PTF v) := by
  refine (px_ldcI (idx := 244) (n := 2) (x := (-1000000000)) (by decide +kernel)).trans ?_
  refine (px_ri (by decide +kernel)).trans ?_
  exact Iff.rfl
theorem r141_19 {d : Nat} {X : Nat × (Nat → Int)} {v : Nat → Int} {M : PH} {K : PV → PS → Prop} {l1 l2 : Int} : pm_Run d 141 19 [vA 0, vI l1, vI l2] [] (GF X, M, PTF v) K ↔ pm_Call d 25 [vA 60, vI 0] (GF X, M, PTF v) (fun r9 S1 => pm_Run d 141 27 [vA 0, vI l1, vI l2] (pm_push r9 []) S1 K) := by
  refine (px_go (by decide +kernel : pm_fe 141 19 = some (.aload_n 0, 1)) rfl).trans ?_
  refine (ry_get2 (idx := 50) (ci := 11) (k := 6) (by decide +kernel : 0 < 283 ∧ SHF 0 = (11, 13)) (ptf_l (a := 0) (k := 6) (n := 60) (by decide +kernel)) (by decide +kernel)).trans ?_
  refine (px_go (by decide +kernel : pm_fe 141 23 = some (.iconst 0, 1)) rfl).trans ?_
  refine (ry_v1 (idx := 245) (m' := 25) (ci := 2) (by decide +kernel : 60 < 283 ∧ SHF 60 = (2, 13)) (by simp [pm_wl_n, pm_wl_c, pm_w] : pm_wl [] ≤ 8) (by decide +kernel)).trans ?_
  exact Iff.rfl
theorem r141_27 {d : Nat} {X : Nat × (Nat → Int)} {v : Nat → Int} {M : PH} {K : PV → PS → Prop} {l1 l2 : Int} : pm_Run d 141 27 [vA 0, vI l1, vI l2] [] (GF X, M, PTF v) K ↔ pm_Call d 26 [vA 60, vI l1, vI l2] (GF X, M, PTF v) (fun r9 S1 => pm_Run d 141 36 [vA 0, vI l1, vI l2] (pm_push r9 []) S1 K) := by
  refine (px_go (by decide +kernel : pm_fe 141 27 = some (.aload_n 0, 1)) rfl).trans ?_
  refine (ry_get2 (idx := 50) (ci := 11) (k := 6) (by decide +kernel : 0 < 283 ∧ SHF 0 = (11, 13)) (ptf_l (a := 0) (k := 6) (n := 60) (by decide +kernel)) (by decide +kernel)).trans ?_
  refine (px_go (by decide +kernel : pm_fe 141 31 = some (.iload_n 1, 1)) rfl).trans ?_
  refine (px_go (by decide +kernel : pm_fe 141 32 = some (.iload_n 2, 1)) rfl).trans ?_
  refine (ry_v2 (idx := 248) (m' := 26) (ci := 2) (by decide +kernel : 60 < 283 ∧ SHF 60 = (2, 13)) (by simp [pm_wl_n, pm_wl_c, pm_w] : pm_wl [] ≤ 8) (by decide +kernel)).trans ?_
  exact Iff.rfl
theorem r141_36 {d : Nat} {X : Nat × (Nat → Int)} {v : Nat → Int} {M : PH} {K : PV → PS → Prop} {l1 l2 s0 : Int} : pm_Run d 141 36 [vA 0, vI l1, vI l2] [vI s0] (GF X, M, PTF v) K ↔ K (vI s0) (GF X, M, PTF v) := by
  refine (px_ri (by decide +kernel)).trans ?_
  exact Iff.rfl
-- X11_height height(II)I
theorem r142_0 {d : Nat} {X : Nat × (Nat → Int)} {v : Nat → Int} {M : PH} {K : PV → PS → Prop} {l1 l2 : Int} : pm_Run d 142 0 [vA 0, vI l1, vI l2] [] (GF X, M, PTF v) K ↔ pm_Call d 171 [vA 0, vI l1] (GF X, M, PTF v) (fun r9 S1 => pm_Run d 142 5 [vA 0, vI l1, vI l2] (pm_push r9 []) S1 K) := by
  refine (px_go (by decide +kernel : pm_fe 142 0 = some (.aload_n 0, 1)) rfl).trans ?_
  refine (px_go (by decide +kernel : pm_fe 142 1 = some (.iload_n 1, 1)) rfl).trans ?_
  refine (ry_v1 (idx := 241) (m' := 171) (ci := 11) (by decide +kernel : 0 < 283 ∧ SHF 0 = (11, 13)) (by simp [pm_wl_n, pm_wl_c, pm_w] : pm_wl [] ≤ 8) (by decide +kernel)).trans ?_
  exact Iff.rfl
theorem r142_5 {d : Nat} {X : Nat × (Nat → Int)} {v : Nat → Int} {M : PH} {K : PV → PS → Prop} {l1 l2 s0 : Int} (h1 : inR s0) : pm_Run d 142 5 [vA 0, vI l1, vI l2] [vI s0] (GF X, M, PTF v) K ↔ if s0 = 0 then pm_Run d 142 19 [vA 0, vI l1, vI l2] [] (GF X, M, PTF v) K else pm_Run d 142 8 [vA 0, vI l1, vI l2] [] (GF X, M, PTF v) K := by
  refine (ry_if_eq (off := 14) (tgt := 19) h1 (by decide +kernel)).trans ?_
  exact Iff.rfl
theorem r142_8 {d : Nat} {X : Nat × (Nat → Int)} {v : Nat → Int} {M : PH} {K : PV → PS → Prop} {l1 l2 : Int} : pm_Run d 142 8 [vA 0, vI l1, vI l2] [] (GF X, M, PTF v) K ↔ pm_Call d 24 [vA 60, vI l2] (GF X, M, PTF v) (fun r9 S1 => pm_Run d 142 16 [vA 0, vI l1, vI l2] (pm_push r9 []) S1 K) := by
  refine (px_go (by decide +kernel : pm_fe 142 8 = some (.aload_n 0, 1)) rfl).trans ?_
  refine (ry_get2 (idx := 50) (ci := 11) (k := 6) (by decide +kernel : 0 < 283 ∧ SHF 0 = (11, 13)) (ptf_l (a := 0) (k := 6) (n := 60) (by decide +kernel)) (by decide +kernel)).trans ?_
  refine (px_go (by decide +kernel : pm_fe 142 12 = some (.iload_n 2, 1)) rfl).trans ?_
  refine (ry_v1 (idx := 251) (m' := 24) (ci := 2) (by decide +kernel : 60 < 283 ∧ SHF 60 = (2, 13)) (by simp [pm_wl_n, pm_wl_c, pm_w] : pm_wl [] ≤ 8) (by decide +kernel)).trans ?_
  exact Iff.rfl
theorem r142_16 {d : Nat} {X : Nat × (Nat → Int)} {v : Nat → Int} {M : PH} {K : PV → PS → Prop} {l1 l2 s0 : Int} (h1 : inR s0) : pm_Run d 142 16 [vA 0, vI l1, vI l2] [vI s0] (GF X, M, PTF v) K ↔ if s0 ≠ 0 then pm_Run d 142 22 [vA 0, vI l1, vI l2] [] (GF X, M, PTF v) K else pm_Run d 142 19 [vA 0, vI l1, vI l2] [] (GF X, M, PTF v) K := by
  refine (ry_if_ne (off := 6) (tgt := 22) h1 (by decide +kernel)).trans ?_
  exact Iff.rfl
theorem r142_19 {d : Nat} {X : Nat × (Nat → Int)} {v : Nat → Int} {M : PH} {K : PV → PS → Prop} {l1 l2 : Int} : pm_Run d 142 19 [vA 0, vI l1, vI l2] [] (GF X, M, PTF v) K ↔ K (vI (-1000000000)) (GF X, M, PTF v) := by
  refine (px_ldcI (idx := 244) (n := 2) (x := (-1000000000)) (by decide +kernel)).trans ?_
  refine (px_ri (by decide +kernel)).trans ?_
  exact Iff.rfl
theorem r142_22 {d : Nat} {X : Nat × (Nat → Int)} {v : Nat → Int} {M : PH} {K : PV → PS → Prop} {l1 l2 : Int} : pm_Run d 142 22 [vA 0, vI l1, vI l2] [] (GF X, M, PTF v) K ↔ pm_Call d 25 [vA 60, vI l2] (GF X, M, PTF v) (fun r9 S1 => pm_Run d 142 30 [vA 0, vI l1, vI l2] (pm_push r9 []) S1 K) := by
  refine (px_go (by decide +kernel : pm_fe 142 22 = some (.aload_n 0, 1)) rfl).trans ?_
  refine (ry_get2 (idx := 50) (ci := 11) (k := 6) (by decide +kernel : 0 < 283 ∧ SHF 0 = (11, 13)) (ptf_l (a := 0) (k := 6) (n := 60) (by decide +kernel)) (by decide +kernel)).trans ?_
  refine (px_go (by decide +kernel : pm_fe 142 26 = some (.iload_n 2, 1)) rfl).trans ?_
  refine (ry_v1 (idx := 245) (m' := 25) (ci := 2) (by decide +kernel : 60 < 283 ∧ SHF 60 = (2, 13)) (by simp [pm_wl_n, pm_wl_c, pm_w] : pm_wl [] ≤ 8) (by decide +kernel)).trans ?_
  exact Iff.rfl
theorem r142_30 {d : Nat} {X : Nat × (Nat → Int)} {v : Nat → Int} {M : PH} {K : PV → PS → Prop} {l1 l2 : Int} : pm_Run d 142 30 [vA 0, vI l1, vI l2] [] (GF X, M, PTF v) K ↔ pm_Call d 27 [vA 60, vI l1, vI l2] (GF X, M, PTF v) (fun r9 S1 => pm_Run d 142 39 [vA 0, vI l1, vI l2] (pm_push r9 []) S1 K) := by
  refine (px_go (by decide +kernel : pm_fe 142 30 = some (.aload_n 0, 1)) rfl).trans ?_
  refine (ry_get2 (idx := 50) (ci := 11) (k := 6) (by decide +kernel : 0 < 283 ∧ SHF 0 = (11, 13)) (ptf_l (a := 0) (k := 6) (n := 60) (by decide +kernel)) (by decide +kernel)).trans ?_
  refine (px_go (by decide +kernel : pm_fe 142 34 = some (.iload_n 1, 1)) rfl).trans ?_
  refine (px_go (by decide +kernel : pm_fe 142 35 = some (.iload_n 2, 1)) rfl).trans ?_
  refine (ry_v2 (idx := 254) (m' := 27) (ci := 2) (by decide +kernel : 60 < 283 ∧ SHF 60 = (2, 13)) (by simp [pm_wl_n, pm_wl_c, pm_w] : pm_wl [] ≤ 8) (by decide +kernel)).trans ?_
  exact Iff.rfl
theorem r142_39 {d : Nat} {X : Nat × (Nat → Int)} {v : Nat → Int} {M : PH} {K : PV → PS → Prop} {l1 l2 s0 : Int} : pm_Run d 142 39 [vA 0, vI l1, vI l2] [vI s0] (GF X, M, PTF v) K ↔ K (vI s0) (GF X, M, PTF v) := by
  refine (px_ri (by decide +kernel)).trans ?_
  exact Iff.rfl
-- X11_ahead ahead(III)I
theorem r143_0 {d : Nat} {X : Nat × (Nat → Int)} {v : Nat → Int} {M : PH} {K : PV → PS → Prop} {l1 l2 l3 : Int} : pm_Run d 143 0 [vA 0, vI l1, vI l2, vI l3] [] (GF X, M, PTF v) K ↔ pm_Call d 170 [vA 0, vI l1] (GF X, M, PTF v) (fun r9 S1 => pm_Run d 143 5 [vA 0, vI l1, vI l2, vI l3] (pm_push r9 []) S1 K) := by
  refine (px_go (by decide +kernel : pm_fe 143 0 = some (.aload_n 0, 1)) rfl).trans ?_
  refine (px_go (by decide +kernel : pm_fe 143 1 = some (.iload_n 1, 1)) rfl).trans ?_
  refine (ry_v1 (idx := 178) (m' := 170) (ci := 11) (by decide +kernel : 0 < 283 ∧ SHF 0 = (11, 13)) (by simp [pm_wl_n, pm_wl_c, pm_w] : pm_wl [] ≤ 8) (by decide +kernel)).trans ?_
  exact Iff.rfl
theorem r143_5 {d : Nat} {X : Nat × (Nat → Int)} {v : Nat → Int} {M : PH} {K : PV → PS → Prop} {l1 l2 l3 s0 : Int} (h1 : inR s0) : pm_Run d 143 5 [vA 0, vI l1, vI l2, vI l3] [vI s0] (GF X, M, PTF v) K ↔ if s0 = 0 then pm_Run d 143 19 [vA 0, vI l1, vI l2, vI l3] [] (GF X, M, PTF v) K else pm_Run d 143 8 [vA 0, vI l1, vI l2, vI l3] [] (GF X, M, PTF v) K := by
  refine (ry_if_eq (off := 14) (tgt := 19) h1 (by decide +kernel)).trans ?_
  exact Iff.rfl
theorem r143_8 {d : Nat} {X : Nat × (Nat → Int)} {v : Nat → Int} {M : PH} {K : PV → PS → Prop} {l1 l2 l3 : Int} : pm_Run d 143 8 [vA 0, vI l1, vI l2, vI l3] [] (GF X, M, PTF v) K ↔ pm_Call d 24 [vA 60, vI l2] (GF X, M, PTF v) (fun r9 S1 => pm_Run d 143 16 [vA 0, vI l1, vI l2, vI l3] (pm_push r9 []) S1 K) := by
  refine (px_go (by decide +kernel : pm_fe 143 8 = some (.aload_n 0, 1)) rfl).trans ?_
  refine (ry_get2 (idx := 50) (ci := 11) (k := 6) (by decide +kernel : 0 < 283 ∧ SHF 0 = (11, 13)) (ptf_l (a := 0) (k := 6) (n := 60) (by decide +kernel)) (by decide +kernel)).trans ?_
  refine (px_go (by decide +kernel : pm_fe 143 12 = some (.iload_n 2, 1)) rfl).trans ?_
  refine (ry_v1 (idx := 251) (m' := 24) (ci := 2) (by decide +kernel : 60 < 283 ∧ SHF 60 = (2, 13)) (by simp [pm_wl_n, pm_wl_c, pm_w] : pm_wl [] ≤ 8) (by decide +kernel)).trans ?_
  exact Iff.rfl
theorem r143_16 {d : Nat} {X : Nat × (Nat → Int)} {v : Nat → Int} {M : PH} {K : PV → PS → Prop} {l1 l2 l3 s0 : Int} (h1 : inR s0) : pm_Run d 143 16 [vA 0, vI l1, vI l2, vI l3] [vI s0] (GF X, M, PTF v) K ↔ if s0 ≠ 0 then pm_Run d 143 21 [vA 0, vI l1, vI l2, vI l3] [] (GF X, M, PTF v) K else pm_Run d 143 19 [vA 0, vI l1, vI l2, vI l3] [] (GF X, M, PTF v) K := by
  refine (ry_if_ne (off := 5) (tgt := 21) h1 (by decide +kernel)).trans ?_
  exact Iff.rfl
theorem r143_19 {d : Nat} {X : Nat × (Nat → Int)} {v : Nat → Int} {M : PH} {K : PV → PS → Prop} {l1 l2 l3 : Int} : pm_Run d 143 19 [vA 0, vI l1, vI l2, vI l3] [] (GF X, M, PTF v) K ↔ K (vI (-1)) (GF X, M, PTF v) := by
  refine (px_go (by decide +kernel : pm_fe 143 19 = some (.iconst (-1), 1)) rfl).trans ?_
  refine (px_ri (by decide +kernel)).trans ?_
  exact Iff.rfl
theorem r143_21 {d : Nat} {X : Nat × (Nat → Int)} {v : Nat → Int} {M : PH} {K : PV → PS → Prop} {l1 l2 l3 : Int} : pm_Run d 143 21 [vA 0, vI l1, vI l2, vI l3] [] (GF X, M, PTF v) K ↔ pm_Call d 25 [vA 60, vI l2] (GF X, M, PTF v) (fun r9 S1 => pm_Run d 143 29 [vA 0, vI l1, vI l2, vI l3] (pm_push r9 []) S1 K) := by
  refine (px_go (by decide +kernel : pm_fe 143 21 = some (.aload_n 0, 1)) rfl).trans ?_
  refine (ry_get2 (idx := 50) (ci := 11) (k := 6) (by decide +kernel : 0 < 283 ∧ SHF 0 = (11, 13)) (ptf_l (a := 0) (k := 6) (n := 60) (by decide +kernel)) (by decide +kernel)).trans ?_
  refine (px_go (by decide +kernel : pm_fe 143 25 = some (.iload_n 2, 1)) rfl).trans ?_
  refine (ry_v1 (idx := 245) (m' := 25) (ci := 2) (by decide +kernel : 60 < 283 ∧ SHF 60 = (2, 13)) (by simp [pm_wl_n, pm_wl_c, pm_w] : pm_wl [] ≤ 8) (by decide +kernel)).trans ?_
  exact Iff.rfl
theorem r143_29 {d : Nat} {X : Nat × (Nat → Int)} {v : Nat → Int} {M : PH} {K : PV → PS → Prop} {l1 l2 l3 : Int} (h1 : inR l3) : pm_Run d 143 29 [vA 0, vI l1, vI l2, vI l3] [] (GF X, M, PTF v) K ↔ pm_Run d 143 (pm_tg 0 [56, 66, 84] 94 l3) [vA 0, vI l1, vI l2, vI l3] [] (GF X, M, PTF v) K := by
  refine (px_go (by decide +kernel : pm_fe 143 29 = some (.iload_n 3, 1)) rfl).trans ?_
  refine (ry_tsw (lo := 0) (dt := 94) (tl := [56, 66, 84]) h1 (by decide +kernel : pm_fe 143 30 = some (.tableswitch 64 0 2 #[26, 36, 54], 26) ∧ _)).trans ?_
  exact Iff.rfl
theorem r143_56 {d : Nat} {X : Nat × (Nat → Int)} {v : Nat → Int} {M : PH} {K : PV → PS → Prop} {l1 l2 l3 : Int} : pm_Run d 143 56 [vA 0, vI l1, vI l2, vI l3] [] (GF X, M, PTF v) K ↔ pm_Call d 28 [vA 60, vI l1, vI l2] (GF X, M, PTF v) (fun r9 S1 => pm_Run d 143 65 [vA 0, vI l1, vI l2, vI l3] (pm_push r9 []) S1 K) := by
  refine (px_go (by decide +kernel : pm_fe 143 56 = some (.aload_n 0, 1)) rfl).trans ?_
  refine (ry_get2 (idx := 50) (ci := 11) (k := 6) (by decide +kernel : 0 < 283 ∧ SHF 0 = (11, 13)) (ptf_l (a := 0) (k := 6) (n := 60) (by decide +kernel)) (by decide +kernel)).trans ?_
  refine (px_go (by decide +kernel : pm_fe 143 60 = some (.iload_n 1, 1)) rfl).trans ?_
  refine (px_go (by decide +kernel : pm_fe 143 61 = some (.iload_n 2, 1)) rfl).trans ?_
  refine (ry_v2 (idx := 257) (m' := 28) (ci := 2) (by decide +kernel : 60 < 283 ∧ SHF 60 = (2, 13)) (by simp [pm_wl_n, pm_wl_c, pm_w] : pm_wl [] ≤ 8) (by decide +kernel)).trans ?_
  exact Iff.rfl
theorem r143_65 {d : Nat} {X : Nat × (Nat → Int)} {v : Nat → Int} {M : PH} {K : PV → PS → Prop} {l1 l2 l3 s0 : Int} : pm_Run d 143 65 [vA 0, vI l1, vI l2, vI l3] [vI s0] (GF X, M, PTF v) K ↔ K (vI s0) (GF X, M, PTF v) := by
  refine (px_ri (by decide +kernel)).trans ?_
  exact Iff.rfl
theorem r143_66 {d : Nat} {X : Nat × (Nat → Int)} {v : Nat → Int} {M : PH} {K : PV → PS → Prop} {l1 l2 l3 : Int} : pm_Run d 143 66 [vA 0, vI l1, vI l2, vI l3] [] (GF X, M, PTF v) K ↔ pm_Call d 30 [vA 60, vI l1, vI l2] (GF X, M, PTF v) (fun r9 S1 => pm_Run d 143 75 [vA 0, vI l1, vI l2, vI l3] (pm_push r9 []) S1 K) := by
  refine (px_go (by decide +kernel : pm_fe 143 66 = some (.aload_n 0, 1)) rfl).trans ?_
  refine (ry_get2 (idx := 50) (ci := 11) (k := 6) (by decide +kernel : 0 < 283 ∧ SHF 0 = (11, 13)) (ptf_l (a := 0) (k := 6) (n := 60) (by decide +kernel)) (by decide +kernel)).trans ?_
  refine (px_go (by decide +kernel : pm_fe 143 70 = some (.iload_n 1, 1)) rfl).trans ?_
  refine (px_go (by decide +kernel : pm_fe 143 71 = some (.iload_n 2, 1)) rfl).trans ?_
  refine (ry_v2 (idx := 260) (m' := 30) (ci := 2) (by decide +kernel : 60 < 283 ∧ SHF 60 = (2, 13)) (by simp [pm_wl_n, pm_wl_c, pm_w] : pm_wl [] ≤ 8) (by decide +kernel)).trans ?_
  exact Iff.rfl
theorem r143_75 {d : Nat} {X : Nat × (Nat → Int)} {v : Nat → Int} {M : PH} {K : PV → PS → Prop} {l1 l2 l3 s0 : Int} (h1 : inR s0) : pm_Run d 143 75 [vA 0, vI l1, vI l2, vI l3] [vI s0] (GF X, M, PTF v) K ↔ if s0 = 0 then pm_Run d 143 82 [vA 0, vI l1, vI l2, vI l3] [] (GF X, M, PTF v) K else pm_Run d 143 78 [vA 0, vI l1, vI l2, vI l3] [] (GF X, M, PTF v) K := by
  refine (ry_if_eq (off := 7) (tgt := 82) h1 (by decide +kernel)).trans ?_
  exact Iff.rfl
theorem r143_78 {d : Nat} {X : Nat × (Nat → Int)} {v : Nat → Int} {M : PH} {K : PV → PS → Prop} {l1 l2 l3 : Int} : pm_Run d 143 78 [vA 0, vI l1, vI l2, vI l3] [] (GF X, M, PTF v) K ↔ pm_Run d 143 83 [vA 0, vI l1, vI l2, vI l3] [vI 1] (GF X, M, PTF v) K := by
  refine (px_go (by decide +kernel : pm_fe 143 78 = some (.iconst 1, 1)) rfl).trans ?_
  refine (px_goto (off := 4) (tgt := 83) (by decide +kernel)).trans ?_
  exact Iff.rfl
theorem r143_82 {d : Nat} {X : Nat × (Nat → Int)} {v : Nat → Int} {M : PH} {K : PV → PS → Prop} {l1 l2 l3 : Int} : pm_Run d 143 82 [vA 0, vI l1, vI l2, vI l3] [] (GF X, M, PTF v) K ↔ pm_Run d 143 83 [vA 0, vI l1, vI l2, vI l3] [vI 0] (GF X, M, PTF v) K := by
  refine (px_go (by decide +kernel : pm_fe 143 82 = some (.iconst 0, 1)) rfl).trans ?_
  exact Iff.rfl
theorem r143_83 {d : Nat} {X : Nat × (Nat → Int)} {v : Nat → Int} {M : PH} {K : PV → PS → Prop} {l1 l2 l3 s0 : Int} : pm_Run d 143 83 [vA 0, vI l1, vI l2, vI l3] [vI s0] (GF X, M, PTF v) K ↔ K (vI s0) (GF X, M, PTF v) := by
  refine (px_ri (by decide +kernel)).trans ?_
  exact Iff.rfl
theorem r143_84 {d : Nat} {X : Nat × (Nat → Int)} {v : Nat → Int} {M : PH} {K : PV → PS → Prop} {l1 l2 l3 : Int} : pm_Run d 143 84 [vA 0, vI l1, vI l2, vI l3] [] (GF X, M, PTF v) K ↔ pm_Call d 29 [vA 60, vI l1, vI l2] (GF X, M, PTF v) (fun r9 S1 => pm_Run d 143 93 [vA 0, vI l1, vI l2, vI l3] (pm_push r9 []) S1 K) := by
  refine (px_go (by decide +kernel : pm_fe 143 84 = some (.aload_n 0, 1)) rfl).trans ?_
  refine (ry_get2 (idx := 50) (ci := 11) (k := 6) (by decide +kernel : 0 < 283 ∧ SHF 0 = (11, 13)) (ptf_l (a := 0) (k := 6) (n := 60) (by decide +kernel)) (by decide +kernel)).trans ?_
  refine (px_go (by decide +kernel : pm_fe 143 88 = some (.iload_n 1, 1)) rfl).trans ?_
  refine (px_go (by decide +kernel : pm_fe 143 89 = some (.iload_n 2, 1)) rfl).trans ?_
  refine (ry_v2 (idx := 264) (m' := 29) (ci := 2) (by decide +kernel : 60 < 283 ∧ SHF 60 = (2, 13)) (by simp [pm_wl_n, pm_wl_c, pm_w] : pm_wl [] ≤ 8) (by decide +kernel)).trans ?_
  exact Iff.rfl
theorem r143_93 {d : Nat} {X : Nat × (Nat → Int)} {v : Nat → Int} {M : PH} {K : PV → PS → Prop} {l1 l2 l3 s0 : Int} : pm_Run d 143 93 [vA 0, vI l1, vI l2, vI l3] [vI s0] (GF X, M, PTF v) K ↔ K (vI s0) (GF X, M, PTF v) := by
  refine (px_ri (by decide +kernel)).trans ?_
  exact Iff.rfl
theorem r143_94 {d : Nat} {X : Nat × (Nat → Int)} {v : Nat → Int} {M : PH} {K : PV → PS → Prop} {l1 l2 l3 : Int} : pm_Run d 143 94 [vA 0, vI l1, vI l2, vI l3] [] (GF X, M, PTF v) K ↔ K (vI (-1)) (GF X, M, PTF v) := by
  refine (px_go (by decide +kernel : pm_fe 143 94 = some (.iconst (-1), 1)) rfl).trans ?_
  refine (px_ri (by decide +kernel)).trans ?_
  exact Iff.rfl
-- X11_broken broken(I)I
theorem r144_0 {d : Nat} {X : Nat × (Nat → Int)} {v : Nat → Int} {M : PH} {K : PV → PS → Prop} {l1 : Int} (h1 : inR l1) : pm_Run d 144 0 [vA 0, vI l1] [] (GF X, M, PTF v) K ↔ if l1 < 0 then pm_Run d 144 19 [vA 0, vI l1] [] (GF X, M, PTF v) K else pm_Run d 144 4 [vA 0, vI l1] [] (GF X, M, PTF v) K := by
  refine (px_go (by decide +kernel : pm_fe 144 0 = some (.iload_n 1, 1)) rfl).trans ?_
  refine (ry_if_lt (off := 18) (tgt := 19) h1 (by decide +kernel)).trans ?_
  exact Iff.rfl
theorem r144_4 {d : Nat} {X : Nat × (Nat → Int)} {v : Nat → Int} {M : PH} {K : PV → PS → Prop} {l1 : Int} (h1 : inR l1) : pm_Run d 144 4 [vA 0, vI l1] [] (GF X, M, PTF v) K ↔ if 2 < l1 then pm_Run d 144 19 [vA 0, vI l1] [] (GF X, M, PTF v) K else pm_Run d 144 9 [vA 0, vI l1] [] (GF X, M, PTF v) K := by
  refine (px_go (by decide +kernel : pm_fe 144 4 = some (.iload_n 1, 1)) rfl).trans ?_
  refine (px_go (by decide +kernel : pm_fe 144 5 = some (.iconst 2, 1)) rfl).trans ?_
  refine (ry_ic_gt (off := 13) (tgt := 19) h1 (by decide : (-2147483648 ≤ (2 : Int) ∧ (2 : Int) < 2147483648)) (by decide +kernel)).trans ?_
  exact Iff.rfl
theorem r144_9 {d : Nat} {X : Nat × (Nat → Int)} {v : Nat → Int} {M : PH} {K : PV → PS → Prop} {l1 : Int} : pm_Run d 144 9 [vA 0, vI l1] [] (GF X, M, PTF v) K ↔ pm_Call d 33 [vA 60] (GF X, M, PTF v) (fun r9 S1 => pm_Run d 144 16 [vA 0, vI l1] (pm_push r9 []) S1 K) := by
  refine (px_go (by decide +kernel : pm_fe 144 9 = some (.aload_n 0, 1)) rfl).trans ?_
  refine (ry_get2 (idx := 50) (ci := 11) (k := 6) (by decide +kernel : 0 < 283 ∧ SHF 0 = (11, 13)) (ptf_l (a := 0) (k := 6) (n := 60) (by decide +kernel)) (by decide +kernel)).trans ?_
  refine (ry_v0 (idx := 266) (m' := 33) (ci := 2) (by decide +kernel : 60 < 283 ∧ SHF 60 = (2, 13)) (by simp [pm_wl_n, pm_wl_c, pm_w] : pm_wl [] ≤ 8) (by decide +kernel)).trans ?_
  exact Iff.rfl
theorem r144_16 {d : Nat} {X : Nat × (Nat → Int)} {v : Nat → Int} {M : PH} {K : PV → PS → Prop} {l1 s0 : Int} (h1 : inR s0) : pm_Run d 144 16 [vA 0, vI l1] [vI s0] (GF X, M, PTF v) K ↔ if s0 ≠ 0 then pm_Run d 144 21 [vA 0, vI l1] [] (GF X, M, PTF v) K else pm_Run d 144 19 [vA 0, vI l1] [] (GF X, M, PTF v) K := by
  refine (ry_if_ne (off := 5) (tgt := 21) h1 (by decide +kernel)).trans ?_
  exact Iff.rfl
theorem r144_19 {d : Nat} {X : Nat × (Nat → Int)} {v : Nat → Int} {M : PH} {K : PV → PS → Prop} {l1 : Int} : pm_Run d 144 19 [vA 0, vI l1] [] (GF X, M, PTF v) K ↔ K (vI (-1)) (GF X, M, PTF v) := by
  refine (px_go (by decide +kernel : pm_fe 144 19 = some (.iconst (-1), 1)) rfl).trans ?_
  refine (px_ri (by decide +kernel)).trans ?_
  exact Iff.rfl
theorem r144_21 {d : Nat} {X : Nat × (Nat → Int)} {v : Nat → Int} {M : PH} {K : PV → PS → Prop} {l1 : Int} (h1 : inR l1) : pm_Run d 144 21 [vA 0, vI l1] [] (GF X, M, PTF v) K ↔ if l1 ≠ 0 then pm_Run d 144 33 [vA 0, vI l1] [] (GF X, M, PTF v) K else pm_Run d 144 25 [vA 0, vI l1] [] (GF X, M, PTF v) K := by
  refine (px_go (by decide +kernel : pm_fe 144 21 = some (.iload_n 1, 1)) rfl).trans ?_
  refine (ry_if_ne (off := 11) (tgt := 33) h1 (by decide +kernel)).trans ?_
  exact Iff.rfl
theorem r144_25 {d : Nat} {X : Nat × (Nat → Int)} {v : Nat → Int} {M : PH} {K : PV → PS → Prop} {l1 : Int} : pm_Run d 144 25 [vA 0, vI l1] [] (GF X, M, PTF v) K ↔ K (vI (M 60 10)) (GF X, M, PTF v) := by
  refine (px_go (by decide +kernel : pm_fe 144 25 = some (.aload_n 0, 1)) rfl).trans ?_
  refine (ry_get2 (idx := 50) (ci := 11) (k := 6) (by decide +kernel : 0 < 283 ∧ SHF 0 = (11, 13)) (ptf_l (a := 0) (k := 6) (n := 60) (by decide +kernel)) (by decide +kernel)).trans ?_
  refine (ry_get0 (idx := 270) (ci := 2) (k := 10) (by decide +kernel : 60 < 283 ∧ SHF 60 = (2, 13)) (by decide +kernel)).trans ?_
  refine (px_ri (by decide +kernel)).trans ?_
  exact Iff.rfl
theorem r144_33 {d : Nat} {X : Nat × (Nat → Int)} {v : Nat → Int} {M : PH} {K : PV → PS → Prop} {l1 : Int} (h1 : inR l1) : pm_Run d 144 33 [vA 0, vI l1] [] (GF X, M, PTF v) K ↔ if l1 ≠ 1 then pm_Run d 144 48 [vA 0, vI l1] [] (GF X, M, PTF v) K else pm_Run d 144 38 [vA 0, vI l1] [] (GF X, M, PTF v) K := by
  refine (px_go (by decide +kernel : pm_fe 144 33 = some (.iload_n 1, 1)) rfl).trans ?_
  refine (px_go (by decide +kernel : pm_fe 144 34 = some (.iconst 1, 1)) rfl).trans ?_
  refine (ry_ic_ne (off := 13) (tgt := 48) h1 (by decide : (-2147483648 ≤ (1 : Int) ∧ (1 : Int) < 2147483648)) (by decide +kernel)).trans ?_
  exact Iff.rfl
theorem r144_38 {d : Nat} {X : Nat × (Nat → Int)} {v : Nat → Int} {M : PH} {K : PV → PS → Prop} {l1 : Int} : pm_Run d 144 38 [vA 0, vI l1] [] (GF X, M, PTF v) K ↔ pm_Run d 144 55 [vA 0, vI l1] [vI (M 60 11)] (GF X, M, PTF v) K := by
  refine (px_go (by decide +kernel : pm_fe 144 38 = some (.aload_n 0, 1)) rfl).trans ?_
  refine (ry_get2 (idx := 50) (ci := 11) (k := 6) (by decide +kernel : 0 < 283 ∧ SHF 0 = (11, 13)) (ptf_l (a := 0) (k := 6) (n := 60) (by decide +kernel)) (by decide +kernel)).trans ?_
  refine (ry_get0 (idx := 273) (ci := 2) (k := 11) (by decide +kernel : 60 < 283 ∧ SHF 60 = (2, 13)) (by decide +kernel)).trans ?_
  refine (px_goto (off := 10) (tgt := 55) (by decide +kernel)).trans ?_
  exact Iff.rfl
theorem r144_48 {d : Nat} {X : Nat × (Nat → Int)} {v : Nat → Int} {M : PH} {K : PV → PS → Prop} {l1 : Int} : pm_Run d 144 48 [vA 0, vI l1] [] (GF X, M, PTF v) K ↔ pm_Run d 144 55 [vA 0, vI l1] [vI (M 60 12)] (GF X, M, PTF v) K := by
  refine (px_go (by decide +kernel : pm_fe 144 48 = some (.aload_n 0, 1)) rfl).trans ?_
  refine (ry_get2 (idx := 50) (ci := 11) (k := 6) (by decide +kernel : 0 < 283 ∧ SHF 0 = (11, 13)) (ptf_l (a := 0) (k := 6) (n := 60) (by decide +kernel)) (by decide +kernel)).trans ?_
  refine (ry_get0 (idx := 276) (ci := 2) (k := 12) (by decide +kernel : 60 < 283 ∧ SHF 60 = (2, 13)) (by decide +kernel)).trans ?_
  exact Iff.rfl
theorem r144_55 {d : Nat} {X : Nat × (Nat → Int)} {v : Nat → Int} {M : PH} {K : PV → PS → Prop} {l1 s0 : Int} : pm_Run d 144 55 [vA 0, vI l1] [vI s0] (GF X, M, PTF v) K ↔ K (vI s0) (GF X, M, PTF v) := by
  refine (px_ri (by decide +kernel)).trans ?_
  exact Iff.rfl
-- X11_stranded stranded(II)I
theorem r145_0 {d : Nat} {X : Nat × (Nat → Int)} {v : Nat → Int} {M : PH} {K : PV → PS → Prop} {l1 l2 : Int} : pm_Run d 145 0 [vA 0, vI l1, vI l2] [] (GF X, M, PTF v) K ↔ pm_Call d 24 [vA 60, vI l1] (GF X, M, PTF v) (fun r9 S1 => pm_Run d 145 8 [vA 0, vI l1, vI l2] (pm_push r9 []) S1 K) := by
  refine (px_go (by decide +kernel : pm_fe 145 0 = some (.aload_n 0, 1)) rfl).trans ?_
  refine (ry_get2 (idx := 50) (ci := 11) (k := 6) (by decide +kernel : 0 < 283 ∧ SHF 0 = (11, 13)) (ptf_l (a := 0) (k := 6) (n := 60) (by decide +kernel)) (by decide +kernel)).trans ?_
  refine (px_go (by decide +kernel : pm_fe 145 4 = some (.iload_n 1, 1)) rfl).trans ?_
  refine (ry_v1 (idx := 251) (m' := 24) (ci := 2) (by decide +kernel : 60 < 283 ∧ SHF 60 = (2, 13)) (by simp [pm_wl_n, pm_wl_c, pm_w] : pm_wl [] ≤ 8) (by decide +kernel)).trans ?_
  exact Iff.rfl
theorem r145_8 {d : Nat} {X : Nat × (Nat → Int)} {v : Nat → Int} {M : PH} {K : PV → PS → Prop} {l1 l2 s0 : Int} (h1 : inR s0) : pm_Run d 145 8 [vA 0, vI l1, vI l2] [vI s0] (GF X, M, PTF v) K ↔ if s0 ≠ 0 then pm_Run d 145 13 [vA 0, vI l1, vI l2] [] (GF X, M, PTF v) K else pm_Run d 145 11 [vA 0, vI l1, vI l2] [] (GF X, M, PTF v) K := by
  refine (ry_if_ne (off := 5) (tgt := 13) h1 (by decide +kernel)).trans ?_
  exact Iff.rfl
theorem r145_11 {d : Nat} {X : Nat × (Nat → Int)} {v : Nat → Int} {M : PH} {K : PV → PS → Prop} {l1 l2 : Int} : pm_Run d 145 11 [vA 0, vI l1, vI l2] [] (GF X, M, PTF v) K ↔ K (vI (-1)) (GF X, M, PTF v) := by
  refine (px_go (by decide +kernel : pm_fe 145 11 = some (.iconst (-1), 1)) rfl).trans ?_
  refine (px_ri (by decide +kernel)).trans ?_
  exact Iff.rfl
theorem r145_13 {d : Nat} {X : Nat × (Nat → Int)} {v : Nat → Int} {M : PH} {K : PV → PS → Prop} {l1 l2 : Int} (h1 : inR l2) : pm_Run d 145 13 [vA 0, vI l1, vI l2] [] (GF X, M, PTF v) K ↔ if l2 ≠ 0 then pm_Run d 145 34 [vA 0, vI l1, vI l2] [] (GF X, M, PTF v) K else pm_Run d 145 17 [vA 0, vI l1, vI l2] [] (GF X, M, PTF v) K := by
  refine (px_go (by decide +kernel : pm_fe 145 13 = some (.iload_n 2, 1)) rfl).trans ?_
  refine (ry_if_ne (off := 20) (tgt := 34) h1 (by decide +kernel)).trans ?_
  exact Iff.rfl
theorem r145_17 {d : Nat} {X : Nat × (Nat → Int)} {v : Nat → Int} {M : PH} {K : PV → PS → Prop} {l1 l2 : Int} : pm_Run d 145 17 [vA 0, vI l1, vI l2] [] (GF X, M, PTF v) K ↔ pm_Call d 25 [vA 60, vI l1] (GF X, M, PTF v) (fun r9 S1 => pm_Run d 145 25 [vA 0, vI l1, vI l2] (pm_push r9 []) S1 K) := by
  refine (px_go (by decide +kernel : pm_fe 145 17 = some (.aload_n 0, 1)) rfl).trans ?_
  refine (ry_get2 (idx := 50) (ci := 11) (k := 6) (by decide +kernel : 0 < 283 ∧ SHF 0 = (11, 13)) (ptf_l (a := 0) (k := 6) (n := 60) (by decide +kernel)) (by decide +kernel)).trans ?_
  refine (px_go (by decide +kernel : pm_fe 145 21 = some (.iload_n 1, 1)) rfl).trans ?_
  refine (ry_v1 (idx := 245) (m' := 25) (ci := 2) (by decide +kernel : 60 < 283 ∧ SHF 60 = (2, 13)) (by simp [pm_wl_n, pm_wl_c, pm_w] : pm_wl [] ≤ 8) (by decide +kernel)).trans ?_
  exact Iff.rfl
theorem r145_25 {d : Nat} {X : Nat × (Nat → Int)} {v : Nat → Int} {M : PH} {K : PV → PS → Prop} {l1 l2 : Int} : pm_Run d 145 25 [vA 0, vI l1, vI l2] [] (GF X, M, PTF v) K ↔ pm_Call d 31 [vA 60, vI l1] (GF X, M, PTF v) (fun r9 S1 => pm_Run d 145 33 [vA 0, vI l1, vI l2] (pm_push r9 []) S1 K) := by
  refine (px_go (by decide +kernel : pm_fe 145 25 = some (.aload_n 0, 1)) rfl).trans ?_
  refine (ry_get2 (idx := 50) (ci := 11) (k := 6) (by decide +kernel : 0 < 283 ∧ SHF 0 = (11, 13)) (ptf_l (a := 0) (k := 6) (n := 60) (by decide +kernel)) (by decide +kernel)).trans ?_
  refine (px_go (by decide +kernel : pm_fe 145 29 = some (.iload_n 1, 1)) rfl).trans ?_
  refine (ry_v1 (idx := 279) (m' := 31) (ci := 2) (by decide +kernel : 60 < 283 ∧ SHF 60 = (2, 13)) (by simp [pm_wl_n, pm_wl_c, pm_w] : pm_wl [] ≤ 8) (by decide +kernel)).trans ?_
  exact Iff.rfl
theorem r145_33 {d : Nat} {X : Nat × (Nat → Int)} {v : Nat → Int} {M : PH} {K : PV → PS → Prop} {l1 l2 s0 : Int} : pm_Run d 145 33 [vA 0, vI l1, vI l2] [vI s0] (GF X, M, PTF v) K ↔ K (vI s0) (GF X, M, PTF v) := by
  refine (px_ri (by decide +kernel)).trans ?_
  exact Iff.rfl
theorem r145_34 {d : Nat} {X : Nat × (Nat → Int)} {v : Nat → Int} {M : PH} {K : PV → PS → Prop} {l1 l2 : Int} (h1 : inR l2) : pm_Run d 145 34 [vA 0, vI l1, vI l2] [] (GF X, M, PTF v) K ↔ if l2 ≠ 1 then pm_Run d 145 50 [vA 0, vI l1, vI l2] [] (GF X, M, PTF v) K else pm_Run d 145 39 [vA 0, vI l1, vI l2] [] (GF X, M, PTF v) K := by
  refine (px_go (by decide +kernel : pm_fe 145 34 = some (.iload_n 2, 1)) rfl).trans ?_
  refine (px_go (by decide +kernel : pm_fe 145 35 = some (.iconst 1, 1)) rfl).trans ?_
  refine (ry_ic_ne (off := 14) (tgt := 50) h1 (by decide : (-2147483648 ≤ (1 : Int) ∧ (1 : Int) < 2147483648)) (by decide +kernel)).trans ?_
  exact Iff.rfl
theorem r145_39 {d : Nat} {X : Nat × (Nat → Int)} {v : Nat → Int} {M : PH} {K : PV → PS → Prop} {l1 l2 : Int} : pm_Run d 145 39 [vA 0, vI l1, vI l2] [] (GF X, M, PTF v) K ↔ pm_Call d 32 [vA 60, vI l1] (GF X, M, PTF v) (fun r9 S1 => pm_Run d 145 47 [vA 0, vI l1, vI l2] (pm_push r9 []) S1 K) := by
  refine (px_go (by decide +kernel : pm_fe 145 39 = some (.aload_n 0, 1)) rfl).trans ?_
  refine (ry_get2 (idx := 50) (ci := 11) (k := 6) (by decide +kernel : 0 < 283 ∧ SHF 0 = (11, 13)) (ptf_l (a := 0) (k := 6) (n := 60) (by decide +kernel)) (by decide +kernel)).trans ?_
  refine (px_go (by decide +kernel : pm_fe 145 43 = some (.iload_n 1, 1)) rfl).trans ?_
  refine (ry_v1 (idx := 282) (m' := 32) (ci := 2) (by decide +kernel : 60 < 283 ∧ SHF 60 = (2, 13)) (by simp [pm_wl_n, pm_wl_c, pm_w] : pm_wl [] ≤ 8) (by decide +kernel)).trans ?_
  exact Iff.rfl
theorem r145_47 {d : Nat} {X : Nat × (Nat → Int)} {v : Nat → Int} {M : PH} {K : PV → PS → Prop} {l1 l2 s0 : Int} : pm_Run d 145 47 [vA 0, vI l1, vI l2] [vI s0] (GF X, M, PTF v) K ↔ pm_Run d 145 51 [vA 0, vI l1, vI l2] [vI s0] (GF X, M, PTF v) K := by
  refine (px_goto (off := 4) (tgt := 51) (by decide +kernel)).trans ?_
  exact Iff.rfl
theorem r145_50 {d : Nat} {X : Nat × (Nat → Int)} {v : Nat → Int} {M : PH} {K : PV → PS → Prop} {l1 l2 : Int} : pm_Run d 145 50 [vA 0, vI l1, vI l2] [] (GF X, M, PTF v) K ↔ pm_Run d 145 51 [vA 0, vI l1, vI l2] [vI (-1)] (GF X, M, PTF v) K := by
  refine (px_go (by decide +kernel : pm_fe 145 50 = some (.iconst (-1), 1)) rfl).trans ?_
  exact Iff.rfl
theorem r145_51 {d : Nat} {X : Nat × (Nat → Int)} {v : Nat → Int} {M : PH} {K : PV → PS → Prop} {l1 l2 s0 : Int} : pm_Run d 145 51 [vA 0, vI l1, vI l2] [vI s0] (GF X, M, PTF v) K ↔ K (vI s0) (GF X, M, PTF v) := by
  refine (px_ri (by decide +kernel)).trans ?_
  exact Iff.rfl
-- X11_bid bid(III)I
theorem r146_0 {d : Nat} {X : Nat × (Nat → Int)} {v : Nat → Int} {M : PH} {K : PV → PS → Prop} {l1 l2 l3 : Int} : pm_Run d 146 0 [vA 0, vI l1, vI l2, vI l3, PU, PU] [] (GF X, M, PTF v) K ↔ pm_Call d 170 [vA 0, vI l1] (GF X, M, PTF v) (fun r9 S1 => pm_Run d 146 5 [vA 0, vI l1, vI l2, vI l3, PU, PU] (pm_push r9 []) S1 K) := by
  refine (px_go (by decide +kernel : pm_fe 146 0 = some (.aload_n 0, 1)) rfl).trans ?_
  refine (px_go (by decide +kernel : pm_fe 146 1 = some (.iload_n 1, 1)) rfl).trans ?_
  refine (ry_v1 (idx := 178) (m' := 170) (ci := 11) (by decide +kernel : 0 < 283 ∧ SHF 0 = (11, 13)) (by simp [pm_wl_n, pm_wl_c, pm_w] : pm_wl [] ≤ 8) (by decide +kernel)).trans ?_
  exact Iff.rfl
theorem r146_5 {d : Nat} {X : Nat × (Nat → Int)} {v : Nat → Int} {M : PH} {K : PV → PS → Prop} {l1 l2 l3 s0 : Int} (h1 : inR s0) : pm_Run d 146 5 [vA 0, vI l1, vI l2, vI l3, PU, PU] [vI s0] (GF X, M, PTF v) K ↔ if s0 = 0 then pm_Run d 146 26 [vA 0, vI l1, vI l2, vI l3, PU, PU] [] (GF X, M, PTF v) K else pm_Run d 146 8 [vA 0, vI l1, vI l2, vI l3, PU, PU] [] (GF X, M, PTF v) K := by
  refine (ry_if_eq (off := 21) (tgt := 26) h1 (by decide +kernel)).trans ?_
  exact Iff.rfl
theorem r146_8 {d : Nat} {X : Nat × (Nat → Int)} {v : Nat → Int} {M : PH} {K : PV → PS → Prop} {l1 l2 l3 : Int} : pm_Run d 146 8 [vA 0, vI l1, vI l2, vI l3, PU, PU] [] (GF X, M, PTF v) K ↔ pm_Call d 169 [vA 0, vI l2] (GF X, M, PTF v) (fun r9 S1 => pm_Run d 146 13 [vA 0, vI l1, vI l2, vI l3, PU, PU] (pm_push r9 []) S1 K) := by
  refine (px_go (by decide +kernel : pm_fe 146 8 = some (.aload_n 0, 1)) rfl).trans ?_
  refine (px_go (by decide +kernel : pm_fe 146 9 = some (.iload_n 2, 1)) rfl).trans ?_
  refine (ry_v1 (idx := 165) (m' := 169) (ci := 11) (by decide +kernel : 0 < 283 ∧ SHF 0 = (11, 13)) (by simp [pm_wl_n, pm_wl_c, pm_w] : pm_wl [] ≤ 8) (by decide +kernel)).trans ?_
  exact Iff.rfl
theorem r146_13 {d : Nat} {X : Nat × (Nat → Int)} {v : Nat → Int} {M : PH} {K : PV → PS → Prop} {l1 l2 l3 s0 : Int} (h1 : inR s0) : pm_Run d 146 13 [vA 0, vI l1, vI l2, vI l3, PU, PU] [vI s0] (GF X, M, PTF v) K ↔ if s0 = 0 then pm_Run d 146 26 [vA 0, vI l1, vI l2, vI l3, PU, PU] [] (GF X, M, PTF v) K else pm_Run d 146 16 [vA 0, vI l1, vI l2, vI l3, PU, PU] [] (GF X, M, PTF v) K := by
  refine (ry_if_eq (off := 13) (tgt := 26) h1 (by decide +kernel)).trans ?_
  exact Iff.rfl
theorem r146_16 {d : Nat} {X : Nat × (Nat → Int)} {v : Nat → Int} {M : PH} {K : PV → PS → Prop} {l1 l2 l3 : Int} (h1 : inR l3) : pm_Run d 146 16 [vA 0, vI l1, vI l2, vI l3, PU, PU] [] (GF X, M, PTF v) K ↔ if l3 < 0 then pm_Run d 146 26 [vA 0, vI l1, vI l2, vI l3, PU, PU] [] (GF X, M, PTF v) K else pm_Run d 146 20 [vA 0, vI l1, vI l2, vI l3, PU, PU] [] (GF X, M, PTF v) K := by
  refine (px_go (by decide +kernel : pm_fe 146 16 = some (.iload_n 3, 1)) rfl).trans ?_
  refine (ry_if_lt (off := 9) (tgt := 26) h1 (by decide +kernel)).trans ?_
  exact Iff.rfl
theorem r146_20 {d : Nat} {X : Nat × (Nat → Int)} {v : Nat → Int} {M : PH} {K : PV → PS → Prop} {l1 l2 l3 : Int} (h1 : inR l3) : pm_Run d 146 20 [vA 0, vI l1, vI l2, vI l3, PU, PU] [] (GF X, M, PTF v) K ↔ if l3 ≤ 20 then pm_Run d 146 32 [vA 0, vI l1, vI l2, vI l3, PU, PU] [] (GF X, M, PTF v) K else pm_Run d 146 26 [vA 0, vI l1, vI l2, vI l3, PU, PU] [] (GF X, M, PTF v) K := by
  refine (px_go (by decide +kernel : pm_fe 146 20 = some (.iload_n 3, 1)) rfl).trans ?_
  refine (px_go (by decide +kernel : pm_fe 146 21 = some (.bipush 20, 2)) rfl).trans ?_
  refine (ry_ic_le (off := 9) (tgt := 32) h1 (by decide : (-2147483648 ≤ (20 : Int) ∧ (20 : Int) < 2147483648)) (by decide +kernel)).trans ?_
  exact Iff.rfl
theorem r146_26 {d : Nat} {X : Nat × (Nat → Int)} {v : Nat → Int} {M : PH} {K : PV → PS → Prop} {l1 l2 l3 : Int} : pm_Run d 146 26 [vA 0, vI l1, vI l2, vI l3, PU, PU] [] (GF X, M, PTF v) K ↔ pm_Call d 164 [vA 0, vI 2] (GF X, M, PTF v) (fun r9 S1 => pm_Run d 146 31 [vA 0, vI l1, vI l2, vI l3, PU, PU] (pm_push r9 []) S1 K) := by
  refine (px_go (by decide +kernel : pm_fe 146 26 = some (.aload_n 0, 1)) rfl).trans ?_
  refine (px_go (by decide +kernel : pm_fe 146 27 = some (.iconst 2, 1)) rfl).trans ?_
  refine (ry_v1 (idx := 89) (m' := 164) (ci := 11) (by decide +kernel : 0 < 283 ∧ SHF 0 = (11, 13)) (by simp [pm_wl_n, pm_wl_c, pm_w] : pm_wl [] ≤ 8) (by decide +kernel)).trans ?_
  exact Iff.rfl
theorem r146_31 {d : Nat} {X : Nat × (Nat → Int)} {v : Nat → Int} {M : PH} {K : PV → PS → Prop} {l1 l2 l3 s0 : Int} : pm_Run d 146 31 [vA 0, vI l1, vI l2, vI l3, PU, PU] [vI s0] (GF X, M, PTF v) K ↔ K (vI s0) (GF X, M, PTF v) := by
  refine (px_ri (by decide +kernel)).trans ?_
  exact Iff.rfl
theorem r146_32 {d : Nat} {X : Nat × (Nat → Int)} {v : Nat → Int} {M : PH} {K : PV → PS → Prop} {l1 l2 l3 : Int} : pm_Run d 146 32 [vA 0, vI l1, vI l2, vI l3, PU, PU] [] (GF X, M, PTF v) K ↔ pm_Call d 55 [vI l1, vI l2] (GF X, M, PTF v) (fun r9 S1 => pm_Run d 146 37 [vA 0, vI l1, vI l2, vI l3, PU, PU] (pm_push r9 []) S1 K) := by
  refine (px_go (by decide +kernel : pm_fe 146 32 = some (.iload_n 1, 1)) rfl).trans ?_
  refine (px_go (by decide +kernel : pm_fe 146 33 = some (.iload_n 2, 1)) rfl).trans ?_
  refine (px_s2 (idx := 232) (m' := 55) (nest := 0) (by decide +kernel)).trans ((and_iff_right (by simp [pm_wl_n, pm_wl_c, pm_w] : pm_wl [] ≤ 8)).trans ?_)
  exact Iff.rfl
theorem r146_37 {d : Nat} {X : Nat × (Nat → Int)} {v : Nat → Int} {M : PH} {K : PV → PS → Prop} {l1 l2 l3 s0 : Int} (h1 : 0 ≤ s0) (h2 : s0 < 24) : pm_Run d 146 37 [vA 0, vI l1, vI l2, vI l3, PU, PU] [vI s0] (GF X, M, PTF v) K ↔ pm_Call d 101 [vA 103, vA 3] (GF X, M, PTF v) (fun r9 S1 => pm_Run d 146 62 [vA 0, vI l1, vI l2, vI l3, vI s0, vI (M 7 s0.toNat)] (pm_push r9 []) S1 K) := by
  refine (px_go (by decide +kernel : pm_fe 146 37 = some (.istore 4, 2)) rfl).trans ?_
  refine (px_go (by decide +kernel : pm_fe 146 39 = some (.aload_n 0, 1)) rfl).trans ?_
  refine (ry_get2 (idx := 20) (ci := 11) (k := 2) (by decide +kernel : 0 < 283 ∧ SHF 0 = (11, 13)) (ptf_l (a := 0) (k := 2) (n := 3) (by decide +kernel)) (by decide +kernel)).trans ?_
  refine (ry_get2 (idx := 235) (ci := 5) (k := 4) (by decide +kernel : 3 < 283 ∧ SHF 3 = (5, 6)) (ptf_l (a := 3) (k := 4) (n := 7) (by decide +kernel)) (by decide +kernel)).trans ?_
  refine (px_go (by decide +kernel : pm_fe 146 46 = some (.iload 4, 2)) rfl).trans ?_
  refine (ry_iald (by decide +kernel : 7 < 283 ∧ SHF 7 = (100, 24)) h1 h2 (by decide +kernel)).trans ?_
  refine (px_go (by decide +kernel : pm_fe 146 49 = some (.istore 5, 2)) rfl).trans ?_
  refine (px_go (by decide +kernel : pm_fe 146 51 = some (.aload_n 0, 1)) rfl).trans ?_
  refine (ry_get2 (idx := 71) (ci := 11) (k := 9) (by decide +kernel : 0 < 283 ∧ SHF 0 = (11, 13)) (ptf_l (a := 0) (k := 9) (n := 103) (by decide +kernel)) (by decide +kernel)).trans ?_
  refine (px_go (by decide +kernel : pm_fe 146 55 = some (.aload_n 0, 1)) rfl).trans ?_
  refine (ry_get2 (idx := 20) (ci := 11) (k := 2) (by decide +kernel : 0 < 283 ∧ SHF 0 = (11, 13)) (ptf_l (a := 0) (k := 2) (n := 3) (by decide +kernel)) (by decide +kernel)).trans ?_
  refine (ry_v1 (idx := 285) (m' := 101) (ci := 7) (by decide +kernel : 103 < 283 ∧ SHF 103 = (7, 3)) (by simp [pm_wl_n, pm_wl_c, pm_w] : pm_wl [] ≤ 8) (by decide +kernel)).trans ?_
  exact Iff.rfl
theorem r146_62 {d : Nat} {X : Nat × (Nat → Int)} {v : Nat → Int} {M : PH} {K : PV → PS → Prop} {l1 l2 l3 l4 l5 : Int} (h1 : 0 ≤ l4) (h2 : l4 < 24) : pm_Run d 146 62 [vA 0, vI l1, vI l2, vI l3, vI l4, vI l5] [] (GF X, M, PTF v) K ↔ pm_Run d 146 73 [vA 0, vI l1, vI l2, vI l3, vI l4, vI l5] [] (GF X, pm_sa M 7 (pm_up (M 7) l4.toNat l3), PTF v) K := by
  refine (px_go (by decide +kernel : pm_fe 146 62 = some (.aload_n 0, 1)) rfl).trans ?_
  refine (ry_get2 (idx := 20) (ci := 11) (k := 2) (by decide +kernel : 0 < 283 ∧ SHF 0 = (11, 13)) (ptf_l (a := 0) (k := 2) (n := 3) (by decide +kernel)) (by decide +kernel)).trans ?_
  refine (ry_get2 (idx := 235) (ci := 5) (k := 4) (by decide +kernel : 3 < 283 ∧ SHF 3 = (5, 6)) (ptf_l (a := 3) (k := 4) (n := 7) (by decide +kernel)) (by decide +kernel)).trans ?_
  refine (px_go (by decide +kernel : pm_fe 146 69 = some (.iload 4, 2)) rfl).trans ?_
  refine (px_go (by decide +kernel : pm_fe 146 71 = some (.iload_n 3, 1)) rfl).trans ?_
  refine (ry_iast (by decide +kernel : 7 < 283 ∧ SHF 7 = (100, 24)) h1 h2 (by decide +kernel)).trans ?_
  exact Iff.rfl
theorem r146_73 {d : Nat} {X : Nat × (Nat → Int)} {v : Nat → Int} {M : PH} {K : PV → PS → Prop} {l1 l2 l3 l4 l5 : Int} : pm_Run d 146 73 [vA 0, vI l1, vI l2, vI l3, vI l4, vI l5] [] (GF X, M, PTF v) K ↔ pm_Call d 167 [vA 0] (GF X, M, PTF v) (fun r9 S1 => pm_Run d 146 77 [vA 0, vI l1, vI l2, vI l3, vI l4, vI l5] (pm_push r9 []) S1 K) := by
  refine (px_go (by decide +kernel : pm_fe 146 73 = some (.aload_n 0, 1)) rfl).trans ?_
  refine (ry_v0 (idx := 120) (m' := 167) (ci := 11) (by decide +kernel : 0 < 283 ∧ SHF 0 = (11, 13)) (by simp [pm_wl_n, pm_wl_c, pm_w] : pm_wl [] ≤ 8) (by decide +kernel)).trans ?_
  exact Iff.rfl
theorem r146_77 {d : Nat} {X : Nat × (Nat → Int)} {v : Nat → Int} {M : PH} {K : PV → PS → Prop} {l1 l2 l3 l4 l5 : Int} : pm_Run d 146 77 [vA 0, vI l1, vI l2, vI l3, vI l4, vI l5] [] (GF X, M, PTF v) K ↔ K (vI l5) (GF X, M, PTF v) := by
  refine (px_go (by decide +kernel : pm_fe 146 77 = some (.iload 5, 2)) rfl).trans ?_
  refine (px_ri (by decide +kernel)).trans ?_
  exact Iff.rfl
-- X11_give give(III)Z
theorem r147_0 {d : Nat} {X : Nat × (Nat → Int)} {v : Nat → Int} {M : PH} {K : PV → PS → Prop} {l1 l2 l3 : Int} : pm_Run d 147 0 [vA 0, vI l1, vI l2, vI l3] [] (GF X, M, PTF v) K ↔ pm_Call d 170 [vA 0, vI l1] (GF X, M, PTF v) (fun r9 S1 => pm_Run d 147 5 [vA 0, vI l1, vI l2, vI l3] (pm_push r9 []) S1 K) := by
  refine (px_go (by decide +kernel : pm_fe 147 0 = some (.aload_n 0, 1)) rfl).trans ?_
  refine (px_go (by decide +kernel : pm_fe 147 1 = some (.iload_n 1, 1)) rfl).trans ?_
  refine (ry_v1 (idx := 178) (m' := 170) (ci := 11) (by decide +kernel : 0 < 283 ∧ SHF 0 = (11, 13)) (by simp [pm_wl_n, pm_wl_c, pm_w] : pm_wl [] ≤ 8) (by decide +kernel)).trans ?_
  exact Iff.rfl
theorem r147_5 {d : Nat} {X : Nat × (Nat → Int)} {v : Nat → Int} {M : PH} {K : PV → PS → Prop} {l1 l2 l3 s0 : Int} (h1 : inR s0) : pm_Run d 147 5 [vA 0, vI l1, vI l2, vI l3] [vI s0] (GF X, M, PTF v) K ↔ if s0 = 0 then pm_Run d 147 56 [vA 0, vI l1, vI l2, vI l3] [] (GF X, M, PTF v) K else pm_Run d 147 8 [vA 0, vI l1, vI l2, vI l3] [] (GF X, M, PTF v) K := by
  refine (ry_if_eq (off := 51) (tgt := 56) h1 (by decide +kernel)).trans ?_
  exact Iff.rfl
theorem r147_8 {d : Nat} {X : Nat × (Nat → Int)} {v : Nat → Int} {M : PH} {K : PV → PS → Prop} {l1 l2 l3 : Int} : pm_Run d 147 8 [vA 0, vI l1, vI l2, vI l3] [] (GF X, M, PTF v) K ↔ pm_Call d 170 [vA 0, vI l2] (GF X, M, PTF v) (fun r9 S1 => pm_Run d 147 13 [vA 0, vI l1, vI l2, vI l3] (pm_push r9 []) S1 K) := by
  refine (px_go (by decide +kernel : pm_fe 147 8 = some (.aload_n 0, 1)) rfl).trans ?_
  refine (px_go (by decide +kernel : pm_fe 147 9 = some (.iload_n 2, 1)) rfl).trans ?_
  refine (ry_v1 (idx := 178) (m' := 170) (ci := 11) (by decide +kernel : 0 < 283 ∧ SHF 0 = (11, 13)) (by simp [pm_wl_n, pm_wl_c, pm_w] : pm_wl [] ≤ 8) (by decide +kernel)).trans ?_
  exact Iff.rfl
theorem r147_13 {d : Nat} {X : Nat × (Nat → Int)} {v : Nat → Int} {M : PH} {K : PV → PS → Prop} {l1 l2 l3 s0 : Int} (h1 : inR s0) : pm_Run d 147 13 [vA 0, vI l1, vI l2, vI l3] [vI s0] (GF X, M, PTF v) K ↔ if s0 = 0 then pm_Run d 147 56 [vA 0, vI l1, vI l2, vI l3] [] (GF X, M, PTF v) K else pm_Run d 147 16 [vA 0, vI l1, vI l2, vI l3] [] (GF X, M, PTF v) K := by
  refine (ry_if_eq (off := 43) (tgt := 56) h1 (by decide +kernel)).trans ?_
  exact Iff.rfl
theorem r147_16 {d : Nat} {X : Nat × (Nat → Int)} {v : Nat → Int} {M : PH} {K : PV → PS → Prop} {l1 l2 l3 : Int} (h1 : inR l1) (h2 : inR l2) : pm_Run d 147 16 [vA 0, vI l1, vI l2, vI l3] [] (GF X, M, PTF v) K ↔ if l1 = l2 then pm_Run d 147 56 [vA 0, vI l1, vI l2, vI l3] [] (GF X, M, PTF v) K else pm_Run d 147 21 [vA 0, vI l1, vI l2, vI l3] [] (GF X, M, PTF v) K := by
  refine (px_go (by decide +kernel : pm_fe 147 16 = some (.iload_n 1, 1)) rfl).trans ?_
  refine (px_go (by decide +kernel : pm_fe 147 17 = some (.iload_n 2, 1)) rfl).trans ?_
  refine (ry_ic_eq (off := 38) (tgt := 56) h1 h2 (by decide +kernel)).trans ?_
  exact Iff.rfl
theorem r147_21 {d : Nat} {X : Nat × (Nat → Int)} {v : Nat → Int} {M : PH} {K : PV → PS → Prop} {l1 l2 l3 : Int} (h1 : inR l3) : pm_Run d 147 21 [vA 0, vI l1, vI l2, vI l3] [] (GF X, M, PTF v) K ↔ if l3 < 1 then pm_Run d 147 56 [vA 0, vI l1, vI l2, vI l3] [] (GF X, M, PTF v) K else pm_Run d 147 26 [vA 0, vI l1, vI l2, vI l3] [] (GF X, M, PTF v) K := by
  refine (px_go (by decide +kernel : pm_fe 147 21 = some (.iload_n 3, 1)) rfl).trans ?_
  refine (px_go (by decide +kernel : pm_fe 147 22 = some (.iconst 1, 1)) rfl).trans ?_
  refine (ry_ic_lt (off := 33) (tgt := 56) h1 (by decide : (-2147483648 ≤ (1 : Int) ∧ (1 : Int) < 2147483648)) (by decide +kernel)).trans ?_
  exact Iff.rfl
theorem r147_26 {d : Nat} {X : Nat × (Nat → Int)} {v : Nat → Int} {M : PH} {K : PV → PS → Prop} {l1 l2 l3 : Int} (h1 : 0 ≤ l1) (h2 : l1 < 8) (h3 : inR l3) (h4 : inR (M 6 l1.toNat)) : pm_Run d 147 26 [vA 0, vI l1, vI l2, vI l3] [] (GF X, M, PTF v) K ↔ if M 6 l1.toNat < l3 then pm_Run d 147 56 [vA 0, vI l1, vI l2, vI l3] [] (GF X, M, PTF v) K else pm_Run d 147 39 [vA 0, vI l1, vI l2, vI l3] [] (GF X, M, PTF v) K := by
  refine (px_go (by decide +kernel : pm_fe 147 26 = some (.iload_n 3, 1)) rfl).trans ?_
  refine (px_go (by decide +kernel : pm_fe 147 27 = some (.aload_n 0, 1)) rfl).trans ?_
  refine (ry_get2 (idx := 20) (ci := 11) (k := 2) (by decide +kernel : 0 < 283 ∧ SHF 0 = (11, 13)) (ptf_l (a := 0) (k := 2) (n := 3) (by decide +kernel)) (by decide +kernel)).trans ?_
  refine (ry_get2 (idx := 202) (ci := 5) (k := 3) (by decide +kernel : 3 < 283 ∧ SHF 3 = (5, 6)) (ptf_l (a := 3) (k := 3) (n := 6) (by decide +kernel)) (by decide +kernel)).trans ?_
  refine (px_go (by decide +kernel : pm_fe 147 34 = some (.iload_n 1, 1)) rfl).trans ?_
  refine (ry_iald (by decide +kernel : 6 < 283 ∧ SHF 6 = (100, 8)) h1 h2 (by decide +kernel)).trans ?_
  refine (ry_ic_gt (off := 20) (tgt := 56) h3 h4 (by decide +kernel)).trans ?_
  exact Iff.rfl
theorem r147_39 {d : Nat} {X : Nat × (Nat → Int)} {v : Nat → Int} {M : PH} {K : PV → PS → Prop} {l1 l2 l3 : Int} (h1 : 0 ≤ l2) (h2 : l2 < 8) (h3 : inR l3) (h4 : inR (9999 - (M 6 l2.toNat))) : pm_Run d 147 39 [vA 0, vI l1, vI l2, vI l3] [] (GF X, M, PTF v) K ↔ if l3 ≤ 9999 - (M 6 l2.toNat) then pm_Run d 147 71 [vA 0, vI l1, vI l2, vI l3] [] (GF X, M, PTF v) K else pm_Run d 147 56 [vA 0, vI l1, vI l2, vI l3] [] (GF X, M, PTF v) K := by
  refine (px_go (by decide +kernel : pm_fe 147 39 = some (.iload_n 3, 1)) rfl).trans ?_
  refine (px_go (by decide +kernel : pm_fe 147 40 = some (.sipush 9999, 3)) rfl).trans ?_
  refine (px_go (by decide +kernel : pm_fe 147 43 = some (.aload_n 0, 1)) rfl).trans ?_
  refine (ry_get2 (idx := 20) (ci := 11) (k := 2) (by decide +kernel : 0 < 283 ∧ SHF 0 = (11, 13)) (ptf_l (a := 0) (k := 2) (n := 3) (by decide +kernel)) (by decide +kernel)).trans ?_
  refine (ry_get2 (idx := 202) (ci := 5) (k := 3) (by decide +kernel : 3 < 283 ∧ SHF 3 = (5, 6)) (ptf_l (a := 3) (k := 3) (n := 6) (by decide +kernel)) (by decide +kernel)).trans ?_
  refine (px_go (by decide +kernel : pm_fe 147 50 = some (.iload_n 2, 1)) rfl).trans ?_
  refine (ry_iald (by decide +kernel : 6 < 283 ∧ SHF 6 = (100, 8)) h1 h2 (by decide +kernel)).trans ?_
  refine (px_go (by decide +kernel : pm_fe 147 52 = some (.isub, 1)) rfl).trans ?_
  refine (ry_ic_le (off := 18) (tgt := 71) h3 h4 (by decide +kernel)).trans ?_
  exact Iff.rfl
theorem r147_56 {d : Nat} {X : Nat × (Nat → Int)} {v : Nat → Int} {M : PH} {K : PV → PS → Prop} {l1 l2 l3 : Int} : pm_Run d 147 56 [vA 0, vI l1, vI l2, vI l3] [] (GF X, M, PTF v) K ↔ pm_Call d 164 [vA 0, vI 2] (GF X, M, PTF v) (fun r9 S1 => pm_Run d 147 61 [vA 0, vI l1, vI l2, vI l3] (pm_push r9 []) S1 K) := by
  refine (px_go (by decide +kernel : pm_fe 147 56 = some (.aload_n 0, 1)) rfl).trans ?_
  refine (px_go (by decide +kernel : pm_fe 147 57 = some (.iconst 2, 1)) rfl).trans ?_
  refine (ry_v1 (idx := 89) (m' := 164) (ci := 11) (by decide +kernel : 0 < 283 ∧ SHF 0 = (11, 13)) (by simp [pm_wl_n, pm_wl_c, pm_w] : pm_wl [] ≤ 8) (by decide +kernel)).trans ?_
  exact Iff.rfl
theorem r147_61 {d : Nat} {X : Nat × (Nat → Int)} {v : Nat → Int} {M : PH} {K : PV → PS → Prop} {l1 l2 l3 s0 : Int} (h1 : inR s0) : pm_Run d 147 61 [vA 0, vI l1, vI l2, vI l3] [vI s0] (GF X, M, PTF v) K ↔ if s0 = (-1) then pm_Run d 147 69 [vA 0, vI l1, vI l2, vI l3] [] (GF X, M, PTF v) K else pm_Run d 147 65 [vA 0, vI l1, vI l2, vI l3] [] (GF X, M, PTF v) K := by
  refine (px_go (by decide +kernel : pm_fe 147 61 = some (.iconst (-1), 1)) rfl).trans ?_
  refine (ry_ic_eq (off := 7) (tgt := 69) h1 (by decide : (-2147483648 ≤ ((-1) : Int) ∧ ((-1) : Int) < 2147483648)) (by decide +kernel)).trans ?_
  exact Iff.rfl
theorem r147_65 {d : Nat} {X : Nat × (Nat → Int)} {v : Nat → Int} {M : PH} {K : PV → PS → Prop} {l1 l2 l3 : Int} : pm_Run d 147 65 [vA 0, vI l1, vI l2, vI l3] [] (GF X, M, PTF v) K ↔ pm_Run d 147 70 [vA 0, vI l1, vI l2, vI l3] [vI 1] (GF X, M, PTF v) K := by
  refine (px_go (by decide +kernel : pm_fe 147 65 = some (.iconst 1, 1)) rfl).trans ?_
  refine (px_goto (off := 4) (tgt := 70) (by decide +kernel)).trans ?_
  exact Iff.rfl
theorem r147_69 {d : Nat} {X : Nat × (Nat → Int)} {v : Nat → Int} {M : PH} {K : PV → PS → Prop} {l1 l2 l3 : Int} : pm_Run d 147 69 [vA 0, vI l1, vI l2, vI l3] [] (GF X, M, PTF v) K ↔ pm_Run d 147 70 [vA 0, vI l1, vI l2, vI l3] [vI 0] (GF X, M, PTF v) K := by
  refine (px_go (by decide +kernel : pm_fe 147 69 = some (.iconst 0, 1)) rfl).trans ?_
  exact Iff.rfl
theorem r147_70 {d : Nat} {X : Nat × (Nat → Int)} {v : Nat → Int} {M : PH} {K : PV → PS → Prop} {l1 l2 l3 s0 : Int} (h1 : s0 = 0 ∨ s0 = 1) : pm_Run d 147 70 [vA 0, vI l1, vI l2, vI l3] [vI s0] (GF X, M, PTF v) K ↔ K (vI s0) (GF X, M, PTF v) := by
  refine (px_rz (by decide +kernel)).trans ((and_iff_right h1).trans ?_)
  exact Iff.rfl
theorem r147_71 {d : Nat} {X : Nat × (Nat → Int)} {v : Nat → Int} {M : PH} {K : PV → PS → Prop} {l1 l2 l3 : Int} : pm_Run d 147 71 [vA 0, vI l1, vI l2, vI l3] [] (GF X, M, PTF v) K ↔ pm_Call d 101 [vA 103, vA 3] (GF X, M, PTF v) (fun r9 S1 => pm_Run d 147 82 [vA 0, vI l1, vI l2, vI l3] (pm_push r9 []) S1 K) := by
  refine (px_go (by decide +kernel : pm_fe 147 71 = some (.aload_n 0, 1)) rfl).trans ?_
  refine (ry_get2 (idx := 71) (ci := 11) (k := 9) (by decide +kernel : 0 < 283 ∧ SHF 0 = (11, 13)) (ptf_l (a := 0) (k := 9) (n := 103) (by decide +kernel)) (by decide +kernel)).trans ?_
  refine (px_go (by decide +kernel : pm_fe 147 75 = some (.aload_n 0, 1)) rfl).trans ?_
  refine (ry_get2 (idx := 20) (ci := 11) (k := 2) (by decide +kernel : 0 < 283 ∧ SHF 0 = (11, 13)) (ptf_l (a := 0) (k := 2) (n := 3) (by decide +kernel)) (by decide +kernel)).trans ?_
  refine (ry_v1 (idx := 285) (m' := 101) (ci := 7) (by decide +kernel : 103 < 283 ∧ SHF 103 = (7, 3)) (by simp [pm_wl_n, pm_wl_c, pm_w] : pm_wl [] ≤ 8) (by decide +kernel)).trans ?_
  exact Iff.rfl
theorem r147_82 {d : Nat} {X : Nat × (Nat → Int)} {v : Nat → Int} {M : PH} {K : PV → PS → Prop} {l1 l2 l3 : Int} (h1 : 0 ≤ l1) (h2 : l1 < 8) : pm_Run d 147 82 [vA 0, vI l1, vI l2, vI l3] [] (GF X, M, PTF v) K ↔ pm_Run d 147 95 [vA 0, vI l1, vI l2, vI l3] [] (GF X, pm_sa M 6 (pm_up (M 6) l1.toNat ((M 6 l1.toNat) - l3)), PTF v) K := by
  refine (px_go (by decide +kernel : pm_fe 147 82 = some (.aload_n 0, 1)) rfl).trans ?_
  refine (ry_get2 (idx := 20) (ci := 11) (k := 2) (by decide +kernel : 0 < 283 ∧ SHF 0 = (11, 13)) (ptf_l (a := 0) (k := 2) (n := 3) (by decide +kernel)) (by decide +kernel)).trans ?_
  refine (ry_get2 (idx := 202) (ci := 5) (k := 3) (by decide +kernel : 3 < 283 ∧ SHF 3 = (5, 6)) (ptf_l (a := 3) (k := 3) (n := 6) (by decide +kernel)) (by decide +kernel)).trans ?_
  refine (px_go (by decide +kernel : pm_fe 147 89 = some (.iload_n 1, 1)) rfl).trans ?_
  refine (px_go (by decide +kernel : pm_fe 147 90 = some (.dup2, 1)) rfl).trans ?_
  refine (ry_iald (by decide +kernel : 6 < 283 ∧ SHF 6 = (100, 8)) h1 h2 (by decide +kernel)).trans ?_
  refine (px_go (by decide +kernel : pm_fe 147 92 = some (.iload_n 3, 1)) rfl).trans ?_
  refine (px_go (by decide +kernel : pm_fe 147 93 = some (.isub, 1)) rfl).trans ?_
  refine (ry_iast (by decide +kernel : 6 < 283 ∧ SHF 6 = (100, 8)) h1 h2 (by decide +kernel)).trans ?_
  exact Iff.rfl
theorem r147_95 {d : Nat} {X : Nat × (Nat → Int)} {v : Nat → Int} {M : PH} {K : PV → PS → Prop} {l1 l2 l3 : Int} (h1 : 0 ≤ l2) (h2 : l2 < 8) : pm_Run d 147 95 [vA 0, vI l1, vI l2, vI l3] [] (GF X, M, PTF v) K ↔ pm_Run d 147 108 [vA 0, vI l1, vI l2, vI l3] [] (GF X, pm_sa M 6 (pm_up (M 6) l2.toNat ((M 6 l2.toNat) + l3)), PTF v) K := by
  refine (px_go (by decide +kernel : pm_fe 147 95 = some (.aload_n 0, 1)) rfl).trans ?_
  refine (ry_get2 (idx := 20) (ci := 11) (k := 2) (by decide +kernel : 0 < 283 ∧ SHF 0 = (11, 13)) (ptf_l (a := 0) (k := 2) (n := 3) (by decide +kernel)) (by decide +kernel)).trans ?_
  refine (ry_get2 (idx := 202) (ci := 5) (k := 3) (by decide +kernel : 3 < 283 ∧ SHF 3 = (5, 6)) (ptf_l (a := 3) (k := 3) (n := 6) (by decide +kernel)) (by decide +kernel)).trans ?_
  refine (px_go (by decide +kernel : pm_fe 147 102 = some (.iload_n 2, 1)) rfl).trans ?_
  refine (px_go (by decide +kernel : pm_fe 147 103 = some (.dup2, 1)) rfl).trans ?_
  refine (ry_iald (by decide +kernel : 6 < 283 ∧ SHF 6 = (100, 8)) h1 h2 (by decide +kernel)).trans ?_
  refine (px_go (by decide +kernel : pm_fe 147 105 = some (.iload_n 3, 1)) rfl).trans ?_
  refine (px_go (by decide +kernel : pm_fe 147 106 = some (.iadd, 1)) rfl).trans ?_
  refine (ry_iast (by decide +kernel : 6 < 283 ∧ SHF 6 = (100, 8)) h1 h2 (by decide +kernel)).trans ?_
  exact Iff.rfl
theorem r147_108 {d : Nat} {X : Nat × (Nat → Int)} {v : Nat → Int} {M : PH} {K : PV → PS → Prop} {l1 l2 l3 : Int} : pm_Run d 147 108 [vA 0, vI l1, vI l2, vI l3] [] (GF X, M, PTF v) K ↔ pm_Call d 167 [vA 0] (GF X, M, PTF v) (fun r9 S1 => pm_Run d 147 112 [vA 0, vI l1, vI l2, vI l3] (pm_push r9 []) S1 K) := by
  refine (px_go (by decide +kernel : pm_fe 147 108 = some (.aload_n 0, 1)) rfl).trans ?_
  refine (ry_v0 (idx := 120) (m' := 167) (ci := 11) (by decide +kernel : 0 < 283 ∧ SHF 0 = (11, 13)) (by simp [pm_wl_n, pm_wl_c, pm_w] : pm_wl [] ≤ 8) (by decide +kernel)).trans ?_
  exact Iff.rfl
theorem r147_112 {d : Nat} {X : Nat × (Nat → Int)} {v : Nat → Int} {M : PH} {K : PV → PS → Prop} {l1 l2 l3 : Int} : pm_Run d 147 112 [vA 0, vI l1, vI l2, vI l3] [] (GF X, M, PTF v) K ↔ K (vI 1) (GF X, M, PTF v) := by
  refine (px_go (by decide +kernel : pm_fe 147 112 = some (.iconst 1, 1)) rfl).trans ?_
  refine (px_rz (by decide +kernel)).trans ((and_iff_right (by decide : (1 : Int) = (0 : Int) ∨ (1 : Int) = (1 : Int))).trans ?_)
  exact Iff.rfl
-- X11_soothe soothe(II)I
theorem r148_0 {d : Nat} {X : Nat × (Nat → Int)} {v : Nat → Int} {M : PH} {K : PV → PS → Prop} {l1 l2 : Int} : pm_Run d 148 0 [vA 0, vI l1, vI l2, PU] [] (GF X, M, PTF v) K ↔ pm_Call d 169 [vA 0, vI l1] (GF X, M, PTF v) (fun r9 S1 => pm_Run d 148 5 [vA 0, vI l1, vI l2, PU] (pm_push r9 []) S1 K) := by
  refine (px_go (by decide +kernel : pm_fe 148 0 = some (.aload_n 0, 1)) rfl).trans ?_
  refine (px_go (by decide +kernel : pm_fe 148 1 = some (.iload_n 1, 1)) rfl).trans ?_
  refine (ry_v1 (idx := 165) (m' := 169) (ci := 11) (by decide +kernel : 0 < 283 ∧ SHF 0 = (11, 13)) (by simp [pm_wl_n, pm_wl_c, pm_w] : pm_wl [] ≤ 8) (by decide +kernel)).trans ?_
  exact Iff.rfl
theorem r148_5 {d : Nat} {X : Nat × (Nat → Int)} {v : Nat → Int} {M : PH} {K : PV → PS → Prop} {l1 l2 s0 : Int} (h1 : inR s0) : pm_Run d 148 5 [vA 0, vI l1, vI l2, PU] [vI s0] (GF X, M, PTF v) K ↔ if s0 = 0 then pm_Run d 148 18 [vA 0, vI l1, vI l2, PU] [] (GF X, M, PTF v) K else pm_Run d 148 8 [vA 0, vI l1, vI l2, PU] [] (GF X, M, PTF v) K := by
  refine (ry_if_eq (off := 13) (tgt := 18) h1 (by decide +kernel)).trans ?_
  exact Iff.rfl
theorem r148_8 {d : Nat} {X : Nat × (Nat → Int)} {v : Nat → Int} {M : PH} {K : PV → PS → Prop} {l1 l2 : Int} (h1 : inR l2) : pm_Run d 148 8 [vA 0, vI l1, vI l2, PU] [] (GF X, M, PTF v) K ↔ if l2 < 0 then pm_Run d 148 18 [vA 0, vI l1, vI l2, PU] [] (GF X, M, PTF v) K else pm_Run d 148 12 [vA 0, vI l1, vI l2, PU] [] (GF X, M, PTF v) K := by
  refine (px_go (by decide +kernel : pm_fe 148 8 = some (.iload_n 2, 1)) rfl).trans ?_
  refine (ry_if_lt (off := 9) (tgt := 18) h1 (by decide +kernel)).trans ?_
  exact Iff.rfl
theorem r148_12 {d : Nat} {X : Nat × (Nat → Int)} {v : Nat → Int} {M : PH} {K : PV → PS → Prop} {l1 l2 : Int} (h1 : inR l2) : pm_Run d 148 12 [vA 0, vI l1, vI l2, PU] [] (GF X, M, PTF v) K ↔ if l2 ≤ 9 then pm_Run d 148 24 [vA 0, vI l1, vI l2, PU] [] (GF X, M, PTF v) K else pm_Run d 148 18 [vA 0, vI l1, vI l2, PU] [] (GF X, M, PTF v) K := by
  refine (px_go (by decide +kernel : pm_fe 148 12 = some (.iload_n 2, 1)) rfl).trans ?_
  refine (px_go (by decide +kernel : pm_fe 148 13 = some (.bipush 9, 2)) rfl).trans ?_
  refine (ry_ic_le (off := 9) (tgt := 24) h1 (by decide : (-2147483648 ≤ (9 : Int) ∧ (9 : Int) < 2147483648)) (by decide +kernel)).trans ?_
  exact Iff.rfl
theorem r148_18 {d : Nat} {X : Nat × (Nat → Int)} {v : Nat → Int} {M : PH} {K : PV → PS → Prop} {l1 l2 : Int} : pm_Run d 148 18 [vA 0, vI l1, vI l2, PU] [] (GF X, M, PTF v) K ↔ pm_Call d 164 [vA 0, vI 2] (GF X, M, PTF v) (fun r9 S1 => pm_Run d 148 23 [vA 0, vI l1, vI l2, PU] (pm_push r9 []) S1 K) := by
  refine (px_go (by decide +kernel : pm_fe 148 18 = some (.aload_n 0, 1)) rfl).trans ?_
  refine (px_go (by decide +kernel : pm_fe 148 19 = some (.iconst 2, 1)) rfl).trans ?_
  refine (ry_v1 (idx := 89) (m' := 164) (ci := 11) (by decide +kernel : 0 < 283 ∧ SHF 0 = (11, 13)) (by simp [pm_wl_n, pm_wl_c, pm_w] : pm_wl [] ≤ 8) (by decide +kernel)).trans ?_
  exact Iff.rfl
theorem r148_23 {d : Nat} {X : Nat × (Nat → Int)} {v : Nat → Int} {M : PH} {K : PV → PS → Prop} {l1 l2 s0 : Int} : pm_Run d 148 23 [vA 0, vI l1, vI l2, PU] [vI s0] (GF X, M, PTF v) K ↔ K (vI s0) (GF X, M, PTF v) := by
  refine (px_ri (by decide +kernel)).trans ?_
  exact Iff.rfl
theorem r148_24 {d : Nat} {X : Nat × (Nat → Int)} {v : Nat → Int} {M : PH} {K : PV → PS → Prop} {l1 l2 : Int} (h1 : 0 ≤ l1) (h2 : l1 < 3) : pm_Run d 148 24 [vA 0, vI l1, vI l2, PU] [] (GF X, M, PTF v) K ↔ pm_Call d 101 [vA 103, vA 3] (GF X, M, PTF v) (fun r9 S1 => pm_Run d 148 45 [vA 0, vI l1, vI l2, vI (M 5 l1.toNat)] (pm_push r9 []) S1 K) := by
  refine (px_go (by decide +kernel : pm_fe 148 24 = some (.aload_n 0, 1)) rfl).trans ?_
  refine (ry_get2 (idx := 20) (ci := 11) (k := 2) (by decide +kernel : 0 < 283 ∧ SHF 0 = (11, 13)) (ptf_l (a := 0) (k := 2) (n := 3) (by decide +kernel)) (by decide +kernel)).trans ?_
  refine (ry_get2 (idx := 190) (ci := 5) (k := 2) (by decide +kernel : 3 < 283 ∧ SHF 3 = (5, 6)) (ptf_l (a := 3) (k := 2) (n := 5) (by decide +kernel)) (by decide +kernel)).trans ?_
  refine (px_go (by decide +kernel : pm_fe 148 31 = some (.iload_n 1, 1)) rfl).trans ?_
  refine (ry_iald (by decide +kernel : 5 < 283 ∧ SHF 5 = (100, 3)) h1 h2 (by decide +kernel)).trans ?_
  refine (px_go (by decide +kernel : pm_fe 148 33 = some (.istore_n 3, 1)) rfl).trans ?_
  refine (px_go (by decide +kernel : pm_fe 148 34 = some (.aload_n 0, 1)) rfl).trans ?_
  refine (ry_get2 (idx := 71) (ci := 11) (k := 9) (by decide +kernel : 0 < 283 ∧ SHF 0 = (11, 13)) (ptf_l (a := 0) (k := 9) (n := 103) (by decide +kernel)) (by decide +kernel)).trans ?_
  refine (px_go (by decide +kernel : pm_fe 148 38 = some (.aload_n 0, 1)) rfl).trans ?_
  refine (ry_get2 (idx := 20) (ci := 11) (k := 2) (by decide +kernel : 0 < 283 ∧ SHF 0 = (11, 13)) (ptf_l (a := 0) (k := 2) (n := 3) (by decide +kernel)) (by decide +kernel)).trans ?_
  refine (ry_v1 (idx := 285) (m' := 101) (ci := 7) (by decide +kernel : 103 < 283 ∧ SHF 103 = (7, 3)) (by simp [pm_wl_n, pm_wl_c, pm_w] : pm_wl [] ≤ 8) (by decide +kernel)).trans ?_
  exact Iff.rfl
theorem r148_45 {d : Nat} {X : Nat × (Nat → Int)} {v : Nat → Int} {M : PH} {K : PV → PS → Prop} {l1 l2 l3 : Int} (h1 : 0 ≤ l1) (h2 : l1 < 3) : pm_Run d 148 45 [vA 0, vI l1, vI l2, vI l3] [] (GF X, M, PTF v) K ↔ pm_Run d 148 55 [vA 0, vI l1, vI l2, vI l3] [] (GF X, pm_sa M 5 (pm_up (M 5) l1.toNat l2), PTF v) K := by
  refine (px_go (by decide +kernel : pm_fe 148 45 = some (.aload_n 0, 1)) rfl).trans ?_
  refine (ry_get2 (idx := 20) (ci := 11) (k := 2) (by decide +kernel : 0 < 283 ∧ SHF 0 = (11, 13)) (ptf_l (a := 0) (k := 2) (n := 3) (by decide +kernel)) (by decide +kernel)).trans ?_
  refine (ry_get2 (idx := 190) (ci := 5) (k := 2) (by decide +kernel : 3 < 283 ∧ SHF 3 = (5, 6)) (ptf_l (a := 3) (k := 2) (n := 5) (by decide +kernel)) (by decide +kernel)).trans ?_
  refine (px_go (by decide +kernel : pm_fe 148 52 = some (.iload_n 1, 1)) rfl).trans ?_
  refine (px_go (by decide +kernel : pm_fe 148 53 = some (.iload_n 2, 1)) rfl).trans ?_
  refine (ry_iast (by decide +kernel : 5 < 283 ∧ SHF 5 = (100, 3)) h1 h2 (by decide +kernel)).trans ?_
  exact Iff.rfl
theorem r148_55 {d : Nat} {X : Nat × (Nat → Int)} {v : Nat → Int} {M : PH} {K : PV → PS → Prop} {l1 l2 l3 : Int} : pm_Run d 148 55 [vA 0, vI l1, vI l2, vI l3] [] (GF X, M, PTF v) K ↔ pm_Call d 167 [vA 0] (GF X, M, PTF v) (fun r9 S1 => pm_Run d 148 59 [vA 0, vI l1, vI l2, vI l3] (pm_push r9 []) S1 K) := by
  refine (px_go (by decide +kernel : pm_fe 148 55 = some (.aload_n 0, 1)) rfl).trans ?_
  refine (ry_v0 (idx := 120) (m' := 167) (ci := 11) (by decide +kernel : 0 < 283 ∧ SHF 0 = (11, 13)) (by simp [pm_wl_n, pm_wl_c, pm_w] : pm_wl [] ≤ 8) (by decide +kernel)).trans ?_
  exact Iff.rfl
theorem r148_59 {d : Nat} {X : Nat × (Nat → Int)} {v : Nat → Int} {M : PH} {K : PV → PS → Prop} {l1 l2 l3 : Int} : pm_Run d 148 59 [vA 0, vI l1, vI l2, vI l3] [] (GF X, M, PTF v) K ↔ K (vI l3) (GF X, M, PTF v) := by
  refine (px_go (by decide +kernel : pm_fe 148 59 = some (.iload_n 3, 1)) rfl).trans ?_
  refine (px_ri (by decide +kernel)).trans ?_
  exact Iff.rfl
-- X11_hours hours(I)I
theorem r149_0 {d : Nat} {X : Nat × (Nat → Int)} {v : Nat → Int} {M : PH} {K : PV → PS → Prop} {l1 : Int} : pm_Run d 149 0 [vA 0, vI l1, PU] [] (GF X, M, PTF v) K ↔ pm_Call d 174 [vA 0, vI l1, vI 200] (GF X, M, PTF v) (fun r9 S1 => pm_Run d 149 8 [vA 0, vI l1, PU] (pm_push r9 []) S1 K) := by
  refine (px_go (by decide +kernel : pm_fe 149 0 = some (.aload_n 0, 1)) rfl).trans ?_
  refine (px_go (by decide +kernel : pm_fe 149 1 = some (.iload_n 1, 1)) rfl).trans ?_
  refine (px_go (by decide +kernel : pm_fe 149 2 = some (.sipush 200, 3)) rfl).trans ?_
  refine (ry_v2 (idx := 288) (m' := 174) (ci := 11) (by decide +kernel : 0 < 283 ∧ SHF 0 = (11, 13)) (by simp [pm_wl_n, pm_wl_c, pm_w] : pm_wl [] ≤ 8) (by decide +kernel)).trans ?_
  exact Iff.rfl
theorem r149_8 {d : Nat} {X : Nat × (Nat → Int)} {v : Nat → Int} {M : PH} {K : PV → PS → Prop} {l1 s0 : Int} (h1 : inR s0) : pm_Run d 149 8 [vA 0, vI l1, PU] [vI s0] (GF X, M, PTF v) K ↔ if s0 ≠ 0 then pm_Run d 149 17 [vA 0, vI l1, PU] [] (GF X, M, PTF v) K else pm_Run d 149 11 [vA 0, vI l1, PU] [] (GF X, M, PTF v) K := by
  refine (ry_if_ne (off := 9) (tgt := 17) h1 (by decide +kernel)).trans ?_
  exact Iff.rfl
theorem r149_11 {d : Nat} {X : Nat × (Nat → Int)} {v : Nat → Int} {M : PH} {K : PV → PS → Prop} {l1 : Int} : pm_Run d 149 11 [vA 0, vI l1, PU] [] (GF X, M, PTF v) K ↔ pm_Call d 164 [vA 0, vI 3] (GF X, M, PTF v) (fun r9 S1 => pm_Run d 149 16 [vA 0, vI l1, PU] (pm_push r9 []) S1 K) := by
  refine (px_go (by decide +kernel : pm_fe 149 11 = some (.aload_n 0, 1)) rfl).trans ?_
  refine (px_go (by decide +kernel : pm_fe 149 12 = some (.iconst 3, 1)) rfl).trans ?_
  refine (ry_v1 (idx := 89) (m' := 164) (ci := 11) (by decide +kernel : 0 < 283 ∧ SHF 0 = (11, 13)) (by simp [pm_wl_n, pm_wl_c, pm_w] : pm_wl [] ≤ 8) (by decide +kernel)).trans ?_
  exact Iff.rfl
theorem r149_16 {d : Nat} {X : Nat × (Nat → Int)} {v : Nat → Int} {M : PH} {K : PV → PS → Prop} {l1 s0 : Int} : pm_Run d 149 16 [vA 0, vI l1, PU] [vI s0] (GF X, M, PTF v) K ↔ K (vI s0) (GF X, M, PTF v) := by
  refine (px_ri (by decide +kernel)).trans ?_
  exact Iff.rfl
theorem r149_17 {d : Nat} {X : Nat × (Nat → Int)} {v : Nat → Int} {M : PH} {K : PV → PS → Prop} {l1 : Int} : pm_Run d 149 17 [vA 0, vI l1, PU] [] (GF X, M, PTF v) K ↔ pm_Call d 101 [vA 103, vA 3] (GF X, M, PTF v) (fun r9 S1 => pm_Run d 149 28 [vA 0, vI l1, PU] (pm_push r9 []) S1 K) := by
  refine (px_go (by decide +kernel : pm_fe 149 17 = some (.aload_n 0, 1)) rfl).trans ?_
  refine (ry_get2 (idx := 71) (ci := 11) (k := 9) (by decide +kernel : 0 < 283 ∧ SHF 0 = (11, 13)) (ptf_l (a := 0) (k := 9) (n := 103) (by decide +kernel)) (by decide +kernel)).trans ?_
  refine (px_go (by decide +kernel : pm_fe 149 21 = some (.aload_n 0, 1)) rfl).trans ?_
  refine (ry_get2 (idx := 20) (ci := 11) (k := 2) (by decide +kernel : 0 < 283 ∧ SHF 0 = (11, 13)) (ptf_l (a := 0) (k := 2) (n := 3) (by decide +kernel)) (by decide +kernel)).trans ?_
  refine (ry_v1 (idx := 285) (m' := 101) (ci := 7) (by decide +kernel : 103 < 283 ∧ SHF 103 = (7, 3)) (by simp [pm_wl_n, pm_wl_c, pm_w] : pm_wl [] ≤ 8) (by decide +kernel)).trans ?_
  exact Iff.rfl
theorem r149_28 {d : Nat} {X : Nat × (Nat → Int)} {v : Nat → Int} {M : PH} {K : PV → PS → Prop} {l1 : Int} : pm_Run d 149 28 [vA 0, vI l1, PU] [] (GF X, M, PTF v) K ↔ pm_Run d 149 30 [vA 0, vI l1, vI 0] [] (GF X, M, PTF v) K := by
  refine (px_go (by decide +kernel : pm_fe 149 28 = some (.iconst 0, 1)) rfl).trans ?_
  refine (px_go (by decide +kernel : pm_fe 149 29 = some (.istore_n 2, 1)) rfl).trans ?_
  exact Iff.rfl
theorem r149_30 {d : Nat} {X : Nat × (Nat → Int)} {v : Nat → Int} {M : PH} {K : PV → PS → Prop} {l1 l2 : Int} (h1 : inR l2) (h2 : inR l1) : pm_Run d 149 30 [vA 0, vI l1, vI l2] [] (GF X, M, PTF v) K ↔ if l1 ≤ l2 then pm_Run d 149 56 [vA 0, vI l1, vI l2] [] (GF X, M, PTF v) K else pm_Run d 149 35 [vA 0, vI l1, vI l2] [] (GF X, M, PTF v) K := by
  refine (px_go (by decide +kernel : pm_fe 149 30 = some (.iload_n 2, 1)) rfl).trans ?_
  refine (px_go (by decide +kernel : pm_fe 149 31 = some (.iload_n 1, 1)) rfl).trans ?_
  refine (ry_ic_ge (off := 24) (tgt := 56) h1 h2 (by decide +kernel)).trans ?_
  exact Iff.rfl
theorem r149_35 {d : Nat} {c : Nat} {X : Nat × (Nat → Int)} {v : Nat → Int} {M : PH} {K : PV → PS → Prop} {l1 l2 : Int} (hc : isCh c) (hv0 : v 0 = ((c : Nat) : Int)) : pm_Run d 149 35 [vA 0, vI l1, vI l2] [] (GF X, M, PTF v) K ↔ pm_Call d 121 [vA 57, vA c, vA 3] (GF X, M, PTF v) (fun r9 S1 => pm_Run d 149 50 [vA 0, vI l1, vI l2] (pm_push r9 []) S1 K) := by
  refine (px_go (by decide +kernel : pm_fe 149 35 = some (.aload_n 0, 1)) rfl).trans ?_
  refine (ry_get2 (idx := 41) (ci := 11) (k := 5) (by decide +kernel : 0 < 283 ∧ SHF 0 = (11, 13)) (ptf_l (a := 0) (k := 5) (n := 57) (by decide +kernel)) (by decide +kernel)).trans ?_
  refine (px_go (by decide +kernel : pm_fe 149 39 = some (.aload_n 0, 1)) rfl).trans ?_
  refine (ry_get2 (idx := 27) (ci := 11) (k := 3) (by decide +kernel : 0 < 283 ∧ SHF 0 = (11, 13)) (ptd0 hv0) (by decide +kernel)).trans ?_
  refine (px_go (by decide +kernel : pm_fe 149 43 = some (.aload_n 0, 1)) rfl).trans ?_
  refine (ry_get2 (idx := 20) (ci := 11) (k := 2) (by decide +kernel : 0 < 283 ∧ SHF 0 = (11, 13)) (ptf_l (a := 0) (k := 2) (n := 3) (by decide +kernel)) (by decide +kernel)).trans ?_
  refine (ry_v2 (idx := 291) (m' := 121) (ci := 9) (by decide +kernel : 57 < 283 ∧ SHF 57 = (9, 2)) (by simp [pm_wl_n, pm_wl_c, pm_w] : pm_wl [] ≤ 8) (by decide +kernel)).trans ?_
  exact Iff.rfl
theorem r149_50 {d : Nat} {X : Nat × (Nat → Int)} {v : Nat → Int} {M : PH} {K : PV → PS → Prop} {l1 l2 : Int} : pm_Run d 149 50 [vA 0, vI l1, vI l2] [] (GF X, M, PTF v) K ↔ pm_Run d 149 30 [vA 0, vI l1, vI (l2 + 1)] [] (GF X, M, PTF v) K := by
  refine (px_go (by decide +kernel : pm_fe 149 50 = some (.iinc 2 1, 3)) rfl).trans ?_
  refine (px_goto (off := (-23)) (tgt := 30) (by decide +kernel)).trans ?_
  exact Iff.rfl
theorem r149_56 {d : Nat} {X : Nat × (Nat → Int)} {v : Nat → Int} {M : PH} {K : PV → PS → Prop} {l1 l2 : Int} : pm_Run d 149 56 [vA 0, vI l1, vI l2] [] (GF X, M, PTF v) K ↔ pm_Call d 167 [vA 0] (GF X, M, PTF v) (fun r9 S1 => pm_Run d 149 60 [vA 0, vI l1, vI l2] (pm_push r9 []) S1 K) := by
  refine (px_go (by decide +kernel : pm_fe 149 56 = some (.aload_n 0, 1)) rfl).trans ?_
  refine (ry_v0 (idx := 120) (m' := 167) (ci := 11) (by decide +kernel : 0 < 283 ∧ SHF 0 = (11, 13)) (by simp [pm_wl_n, pm_wl_c, pm_w] : pm_wl [] ≤ 8) (by decide +kernel)).trans ?_
  exact Iff.rfl
theorem r149_60 {d : Nat} {X : Nat × (Nat → Int)} {v : Nat → Int} {M : PH} {K : PV → PS → Prop} {l1 l2 : Int} : pm_Run d 149 60 [vA 0, vI l1, vI l2] [] (GF X, M, PTF v) K ↔ K (vI (M 3 0)) (GF X, M, PTF v) := by
  refine (px_go (by decide +kernel : pm_fe 149 60 = some (.aload_n 0, 1)) rfl).trans ?_
  refine (ry_get2 (idx := 20) (ci := 11) (k := 2) (by decide +kernel : 0 < 283 ∧ SHF 0 = (11, 13)) (ptf_l (a := 0) (k := 2) (n := 3) (by decide +kernel)) (by decide +kernel)).trans ?_
  refine (ry_get0 (idx := 153) (ci := 5) (k := 0) (by decide +kernel : 3 < 283 ∧ SHF 3 = (5, 6)) (by decide +kernel)).trans ?_
  refine (px_ri (by decide +kernel)).trans ?_
  exact Iff.rfl
-- X11_storms storms(I)I
theorem r150_0 {d : Nat} {X : Nat × (Nat → Int)} {v : Nat → Int} {M : PH} {K : PV → PS → Prop} {l1 : Int} : pm_Run d 150 0 [vA 0, vI l1, PU] [] (GF X, M, PTF v) K ↔ pm_Call d 174 [vA 0, vI l1, vI 100] (GF X, M, PTF v) (fun r9 S1 => pm_Run d 150 7 [vA 0, vI l1, PU] (pm_push r9 []) S1 K) := by
  refine (px_go (by decide +kernel : pm_fe 150 0 = some (.aload_n 0, 1)) rfl).trans ?_
  refine (px_go (by decide +kernel : pm_fe 150 1 = some (.iload_n 1, 1)) rfl).trans ?_
  refine (px_go (by decide +kernel : pm_fe 150 2 = some (.bipush 100, 2)) rfl).trans ?_
  refine (ry_v2 (idx := 288) (m' := 174) (ci := 11) (by decide +kernel : 0 < 283 ∧ SHF 0 = (11, 13)) (by simp [pm_wl_n, pm_wl_c, pm_w] : pm_wl [] ≤ 8) (by decide +kernel)).trans ?_
  exact Iff.rfl
theorem r150_7 {d : Nat} {X : Nat × (Nat → Int)} {v : Nat → Int} {M : PH} {K : PV → PS → Prop} {l1 s0 : Int} (h1 : inR s0) : pm_Run d 150 7 [vA 0, vI l1, PU] [vI s0] (GF X, M, PTF v) K ↔ if s0 ≠ 0 then pm_Run d 150 16 [vA 0, vI l1, PU] [] (GF X, M, PTF v) K else pm_Run d 150 10 [vA 0, vI l1, PU] [] (GF X, M, PTF v) K := by
  refine (ry_if_ne (off := 9) (tgt := 16) h1 (by decide +kernel)).trans ?_
  exact Iff.rfl
theorem r150_10 {d : Nat} {X : Nat × (Nat → Int)} {v : Nat → Int} {M : PH} {K : PV → PS → Prop} {l1 : Int} : pm_Run d 150 10 [vA 0, vI l1, PU] [] (GF X, M, PTF v) K ↔ pm_Call d 164 [vA 0, vI 3] (GF X, M, PTF v) (fun r9 S1 => pm_Run d 150 15 [vA 0, vI l1, PU] (pm_push r9 []) S1 K) := by
  refine (px_go (by decide +kernel : pm_fe 150 10 = some (.aload_n 0, 1)) rfl).trans ?_
  refine (px_go (by decide +kernel : pm_fe 150 11 = some (.iconst 3, 1)) rfl).trans ?_
  refine (ry_v1 (idx := 89) (m' := 164) (ci := 11) (by decide +kernel : 0 < 283 ∧ SHF 0 = (11, 13)) (by simp [pm_wl_n, pm_wl_c, pm_w] : pm_wl [] ≤ 8) (by decide +kernel)).trans ?_
  exact Iff.rfl
theorem r150_15 {d : Nat} {X : Nat × (Nat → Int)} {v : Nat → Int} {M : PH} {K : PV → PS → Prop} {l1 s0 : Int} : pm_Run d 150 15 [vA 0, vI l1, PU] [vI s0] (GF X, M, PTF v) K ↔ K (vI s0) (GF X, M, PTF v) := by
  refine (px_ri (by decide +kernel)).trans ?_
  exact Iff.rfl
theorem r150_16 {d : Nat} {X : Nat × (Nat → Int)} {v : Nat → Int} {M : PH} {K : PV → PS → Prop} {l1 : Int} : pm_Run d 150 16 [vA 0, vI l1, PU] [] (GF X, M, PTF v) K ↔ pm_Call d 101 [vA 103, vA 3] (GF X, M, PTF v) (fun r9 S1 => pm_Run d 150 27 [vA 0, vI l1, PU] (pm_push r9 []) S1 K) := by
  refine (px_go (by decide +kernel : pm_fe 150 16 = some (.aload_n 0, 1)) rfl).trans ?_
  refine (ry_get2 (idx := 71) (ci := 11) (k := 9) (by decide +kernel : 0 < 283 ∧ SHF 0 = (11, 13)) (ptf_l (a := 0) (k := 9) (n := 103) (by decide +kernel)) (by decide +kernel)).trans ?_
  refine (px_go (by decide +kernel : pm_fe 150 20 = some (.aload_n 0, 1)) rfl).trans ?_
  refine (ry_get2 (idx := 20) (ci := 11) (k := 2) (by decide +kernel : 0 < 283 ∧ SHF 0 = (11, 13)) (ptf_l (a := 0) (k := 2) (n := 3) (by decide +kernel)) (by decide +kernel)).trans ?_
  refine (ry_v1 (idx := 285) (m' := 101) (ci := 7) (by decide +kernel : 103 < 283 ∧ SHF 103 = (7, 3)) (by simp [pm_wl_n, pm_wl_c, pm_w] : pm_wl [] ≤ 8) (by decide +kernel)).trans ?_
  exact Iff.rfl
theorem r150_27 {d : Nat} {X : Nat × (Nat → Int)} {v : Nat → Int} {M : PH} {K : PV → PS → Prop} {l1 : Int} : pm_Run d 150 27 [vA 0, vI l1, PU] [] (GF X, M, PTF v) K ↔ pm_Run d 150 29 [vA 0, vI l1, vI 0] [] (GF X, M, PTF v) K := by
  refine (px_go (by decide +kernel : pm_fe 150 27 = some (.iconst 0, 1)) rfl).trans ?_
  refine (px_go (by decide +kernel : pm_fe 150 28 = some (.istore_n 2, 1)) rfl).trans ?_
  exact Iff.rfl
theorem r150_29 {d : Nat} {X : Nat × (Nat → Int)} {v : Nat → Int} {M : PH} {K : PV → PS → Prop} {l1 l2 : Int} (h1 : inR l2) (h2 : inR l1) : pm_Run d 150 29 [vA 0, vI l1, vI l2] [] (GF X, M, PTF v) K ↔ if l1 ≤ l2 then pm_Run d 150 59 [vA 0, vI l1, vI l2] [] (GF X, M, PTF v) K else pm_Run d 150 34 [vA 0, vI l1, vI l2] [] (GF X, M, PTF v) K := by
  refine (px_go (by decide +kernel : pm_fe 150 29 = some (.iload_n 2, 1)) rfl).trans ?_
  refine (px_go (by decide +kernel : pm_fe 150 30 = some (.iload_n 1, 1)) rfl).trans ?_
  refine (ry_ic_ge (off := 28) (tgt := 59) h1 h2 (by decide +kernel)).trans ?_
  exact Iff.rfl
theorem r150_34 {d : Nat} {X : Nat × (Nat → Int)} {v : Nat → Int} {M : PH} {K : PV → PS → Prop} {l1 l2 : Int} : pm_Run d 150 34 [vA 0, vI l1, vI l2] [] (GF X, M, PTF v) K ↔ pm_Call d 175 [vA 0] (GF X, M, PTF v) (fun r9 S1 => pm_Run d 150 38 [vA 0, vI l1, vI l2] (pm_push r9 []) S1 K) := by
  refine (px_go (by decide +kernel : pm_fe 150 34 = some (.aload_n 0, 1)) rfl).trans ?_
  refine (ry_v0 (idx := 294) (m' := 175) (ci := 11) (by decide +kernel : 0 < 283 ∧ SHF 0 = (11, 13)) (by simp [pm_wl_n, pm_wl_c, pm_w] : pm_wl [] ≤ 8) (by decide +kernel)).trans ?_
  exact Iff.rfl
theorem r150_38 {d : Nat} {c : Nat} {X : Nat × (Nat → Int)} {v : Nat → Int} {M : PH} {K : PV → PS → Prop} {l1 l2 : Int} (hc : isCh c) (hv0 : v 0 = ((c : Nat) : Int)) : pm_Run d 150 38 [vA 0, vI l1, vI l2] [] (GF X, M, PTF v) K ↔ pm_Call d 121 [vA 57, vA c, vA 3] (GF X, M, PTF v) (fun r9 S1 => pm_Run d 150 53 [vA 0, vI l1, vI l2] (pm_push r9 []) S1 K) := by
  refine (px_go (by decide +kernel : pm_fe 150 38 = some (.aload_n 0, 1)) rfl).trans ?_
  refine (ry_get2 (idx := 41) (ci := 11) (k := 5) (by decide +kernel : 0 < 283 ∧ SHF 0 = (11, 13)) (ptf_l (a := 0) (k := 5) (n := 57) (by decide +kernel)) (by decide +kernel)).trans ?_
  refine (px_go (by decide +kernel : pm_fe 150 42 = some (.aload_n 0, 1)) rfl).trans ?_
  refine (ry_get2 (idx := 27) (ci := 11) (k := 3) (by decide +kernel : 0 < 283 ∧ SHF 0 = (11, 13)) (ptd0 hv0) (by decide +kernel)).trans ?_
  refine (px_go (by decide +kernel : pm_fe 150 46 = some (.aload_n 0, 1)) rfl).trans ?_
  refine (ry_get2 (idx := 20) (ci := 11) (k := 2) (by decide +kernel : 0 < 283 ∧ SHF 0 = (11, 13)) (ptf_l (a := 0) (k := 2) (n := 3) (by decide +kernel)) (by decide +kernel)).trans ?_
  refine (ry_v2 (idx := 291) (m' := 121) (ci := 9) (by decide +kernel : 57 < 283 ∧ SHF 57 = (9, 2)) (by simp [pm_wl_n, pm_wl_c, pm_w] : pm_wl [] ≤ 8) (by decide +kernel)).trans ?_
  exact Iff.rfl
theorem r150_53 {d : Nat} {X : Nat × (Nat → Int)} {v : Nat → Int} {M : PH} {K : PV → PS → Prop} {l1 l2 : Int} : pm_Run d 150 53 [vA 0, vI l1, vI l2] [] (GF X, M, PTF v) K ↔ pm_Run d 150 29 [vA 0, vI l1, vI (l2 + 1)] [] (GF X, M, PTF v) K := by
  refine (px_go (by decide +kernel : pm_fe 150 53 = some (.iinc 2 1, 3)) rfl).trans ?_
  refine (px_goto (off := (-27)) (tgt := 29) (by decide +kernel)).trans ?_
  exact Iff.rfl
theorem r150_59 {d : Nat} {X : Nat × (Nat → Int)} {v : Nat → Int} {M : PH} {K : PV → PS → Prop} {l1 l2 : Int} : pm_Run d 150 59 [vA 0, vI l1, vI l2] [] (GF X, M, PTF v) K ↔ pm_Call d 167 [vA 0] (GF X, M, PTF v) (fun r9 S1 => pm_Run d 150 63 [vA 0, vI l1, vI l2] (pm_push r9 []) S1 K) := by
  refine (px_go (by decide +kernel : pm_fe 150 59 = some (.aload_n 0, 1)) rfl).trans ?_
  refine (ry_v0 (idx := 120) (m' := 167) (ci := 11) (by decide +kernel : 0 < 283 ∧ SHF 0 = (11, 13)) (by simp [pm_wl_n, pm_wl_c, pm_w] : pm_wl [] ≤ 8) (by decide +kernel)).trans ?_
  exact Iff.rfl
theorem r150_63 {d : Nat} {X : Nat × (Nat → Int)} {v : Nat → Int} {M : PH} {K : PV → PS → Prop} {l1 l2 : Int} : pm_Run d 150 63 [vA 0, vI l1, vI l2] [] (GF X, M, PTF v) K ↔ K (vI (M 3 0)) (GF X, M, PTF v) := by
  refine (px_go (by decide +kernel : pm_fe 150 63 = some (.aload_n 0, 1)) rfl).trans ?_
  refine (ry_get2 (idx := 20) (ci := 11) (k := 2) (by decide +kernel : 0 < 283 ∧ SHF 0 = (11, 13)) (ptf_l (a := 0) (k := 2) (n := 3) (by decide +kernel)) (by decide +kernel)).trans ?_
  refine (ry_get0 (idx := 153) (ci := 5) (k := 0) (by decide +kernel : 3 < 283 ∧ SHF 3 = (5, 6)) (by decide +kernel)).trans ?_
  refine (px_ri (by decide +kernel)).trans ?_
  exact Iff.rfl
-- X11_undo undo()Z
theorem r151_0 {d : Nat} {X : Nat × (Nat → Int)} {v : Nat → Int} {M : PH} {K : PV → PS → Prop} (h1 : inR (M 103 2)) : pm_Run d 151 0 [vA 0] [] (GF X, M, PTF v) K ↔ if M 103 2 ≠ 0 then pm_Run d 151 25 [vA 0] [] (GF X, M, PTF v) K else pm_Run d 151 10 [vA 0] [] (GF X, M, PTF v) K := by
  refine (px_go (by decide +kernel : pm_fe 151 0 = some (.aload_n 0, 1)) rfl).trans ?_
  refine (ry_get2 (idx := 71) (ci := 11) (k := 9) (by decide +kernel : 0 < 283 ∧ SHF 0 = (11, 13)) (ptf_l (a := 0) (k := 9) (n := 103) (by decide +kernel)) (by decide +kernel)).trans ?_
  refine (ry_get0 (idx := 162) (ci := 7) (k := 2) (by decide +kernel : 103 < 283 ∧ SHF 103 = (7, 3)) (by decide +kernel)).trans ?_
  refine (ry_if_ne (off := 18) (tgt := 25) h1 (by decide +kernel)).trans ?_
  exact Iff.rfl
theorem r151_10 {d : Nat} {X : Nat × (Nat → Int)} {v : Nat → Int} {M : PH} {K : PV → PS → Prop} : pm_Run d 151 10 [vA 0] [] (GF X, M, PTF v) K ↔ pm_Call d 164 [vA 0, vI 4] (GF X, M, PTF v) (fun r9 S1 => pm_Run d 151 15 [vA 0] (pm_push r9 []) S1 K) := by
  refine (px_go (by decide +kernel : pm_fe 151 10 = some (.aload_n 0, 1)) rfl).trans ?_
  refine (px_go (by decide +kernel : pm_fe 151 11 = some (.iconst 4, 1)) rfl).trans ?_
  refine (ry_v1 (idx := 89) (m' := 164) (ci := 11) (by decide +kernel : 0 < 283 ∧ SHF 0 = (11, 13)) (by simp [pm_wl_n, pm_wl_c, pm_w] : pm_wl [] ≤ 8) (by decide +kernel)).trans ?_
  exact Iff.rfl
theorem r151_15 {d : Nat} {X : Nat × (Nat → Int)} {v : Nat → Int} {M : PH} {K : PV → PS → Prop} {s0 : Int} (h1 : inR s0) : pm_Run d 151 15 [vA 0] [vI s0] (GF X, M, PTF v) K ↔ if s0 = (-1) then pm_Run d 151 23 [vA 0] [] (GF X, M, PTF v) K else pm_Run d 151 19 [vA 0] [] (GF X, M, PTF v) K := by
  refine (px_go (by decide +kernel : pm_fe 151 15 = some (.iconst (-1), 1)) rfl).trans ?_
  refine (ry_ic_eq (off := 7) (tgt := 23) h1 (by decide : (-2147483648 ≤ ((-1) : Int) ∧ ((-1) : Int) < 2147483648)) (by decide +kernel)).trans ?_
  exact Iff.rfl
theorem r151_19 {d : Nat} {X : Nat × (Nat → Int)} {v : Nat → Int} {M : PH} {K : PV → PS → Prop} : pm_Run d 151 19 [vA 0] [] (GF X, M, PTF v) K ↔ pm_Run d 151 24 [vA 0] [vI 1] (GF X, M, PTF v) K := by
  refine (px_go (by decide +kernel : pm_fe 151 19 = some (.iconst 1, 1)) rfl).trans ?_
  refine (px_goto (off := 4) (tgt := 24) (by decide +kernel)).trans ?_
  exact Iff.rfl
theorem r151_23 {d : Nat} {X : Nat × (Nat → Int)} {v : Nat → Int} {M : PH} {K : PV → PS → Prop} : pm_Run d 151 23 [vA 0] [] (GF X, M, PTF v) K ↔ pm_Run d 151 24 [vA 0] [vI 0] (GF X, M, PTF v) K := by
  refine (px_go (by decide +kernel : pm_fe 151 23 = some (.iconst 0, 1)) rfl).trans ?_
  exact Iff.rfl
theorem r151_24 {d : Nat} {X : Nat × (Nat → Int)} {v : Nat → Int} {M : PH} {K : PV → PS → Prop} {s0 : Int} (h1 : s0 = 0 ∨ s0 = 1) : pm_Run d 151 24 [vA 0] [vI s0] (GF X, M, PTF v) K ↔ K (vI s0) (GF X, M, PTF v) := by
  refine (px_rz (by decide +kernel)).trans ((and_iff_right h1).trans ?_)
  exact Iff.rfl
theorem r151_25 {d : Nat} {X : Nat × (Nat → Int)} {v : Nat → Int} {M : PH} {K : PV → PS → Prop} : pm_Run d 151 25 [vA 0] [] (GF X, M, PTF v) K ↔ pm_Call d 102 [vA 103, vA 3] (GF X, M, PTF v) (fun r9 S1 => pm_Run d 151 36 [vA 0] (pm_push r9 []) S1 K) := by
  refine (px_go (by decide +kernel : pm_fe 151 25 = some (.aload_n 0, 1)) rfl).trans ?_
  refine (ry_get2 (idx := 71) (ci := 11) (k := 9) (by decide +kernel : 0 < 283 ∧ SHF 0 = (11, 13)) (ptf_l (a := 0) (k := 9) (n := 103) (by decide +kernel)) (by decide +kernel)).trans ?_
  refine (px_go (by decide +kernel : pm_fe 151 29 = some (.aload_n 0, 1)) rfl).trans ?_
  refine (ry_get2 (idx := 20) (ci := 11) (k := 2) (by decide +kernel : 0 < 283 ∧ SHF 0 = (11, 13)) (ptf_l (a := 0) (k := 2) (n := 3) (by decide +kernel)) (by decide +kernel)).trans ?_
  refine (ry_v1 (idx := 297) (m' := 102) (ci := 7) (by decide +kernel : 103 < 283 ∧ SHF 103 = (7, 3)) (by simp [pm_wl_n, pm_wl_c, pm_w] : pm_wl [] ≤ 8) (by decide +kernel)).trans ?_
  exact Iff.rfl
theorem r151_36 {d : Nat} {X : Nat × (Nat → Int)} {v : Nat → Int} {M : PH} {K : PV → PS → Prop} : pm_Run d 151 36 [vA 0] [] (GF X, M, PTF v) K ↔ pm_Call d 167 [vA 0] (GF X, M, PTF v) (fun r9 S1 => pm_Run d 151 40 [vA 0] (pm_push r9 []) S1 K) := by
  refine (px_go (by decide +kernel : pm_fe 151 36 = some (.aload_n 0, 1)) rfl).trans ?_
  refine (ry_v0 (idx := 120) (m' := 167) (ci := 11) (by decide +kernel : 0 < 283 ∧ SHF 0 = (11, 13)) (by simp [pm_wl_n, pm_wl_c, pm_w] : pm_wl [] ≤ 8) (by decide +kernel)).trans ?_
  exact Iff.rfl
theorem r151_40 {d : Nat} {X : Nat × (Nat → Int)} {v : Nat → Int} {M : PH} {K : PV → PS → Prop} : pm_Run d 151 40 [vA 0] [] (GF X, M, PTF v) K ↔ K (vI 1) (GF X, M, PTF v) := by
  refine (px_go (by decide +kernel : pm_fe 151 40 = some (.iconst 1, 1)) rfl).trans ?_
  refine (px_rz (by decide +kernel)).trans ((and_iff_right (by decide : (1 : Int) = (0 : Int) ∨ (1 : Int) = (1 : Int))).trans ?_)
  exact Iff.rfl
-- X11_seed seed(I)Z
theorem r152_0 {d : Nat} {X : Nat × (Nat → Int)} {v : Nat → Int} {M : PH} {K : PV → PS → Prop} {l1 : Int} (h1 : inR l1) : pm_Run d 152 0 [vA 0, vI l1] [] (GF X, M, PTF v) K ↔ if 0 ≤ l1 then pm_Run d 152 19 [vA 0, vI l1] [] (GF X, M, PTF v) K else pm_Run d 152 4 [vA 0, vI l1] [] (GF X, M, PTF v) K := by
  refine (px_go (by decide +kernel : pm_fe 152 0 = some (.iload_n 1, 1)) rfl).trans ?_
  refine (ry_if_ge (off := 18) (tgt := 19) h1 (by decide +kernel)).trans ?_
  exact Iff.rfl
theorem r152_4 {d : Nat} {X : Nat × (Nat → Int)} {v : Nat → Int} {M : PH} {K : PV → PS → Prop} {l1 : Int} : pm_Run d 152 4 [vA 0, vI l1] [] (GF X, M, PTF v) K ↔ pm_Call d 164 [vA 0, vI 5] (GF X, M, PTF v) (fun r9 S1 => pm_Run d 152 9 [vA 0, vI l1] (pm_push r9 []) S1 K) := by
  refine (px_go (by decide +kernel : pm_fe 152 4 = some (.aload_n 0, 1)) rfl).trans ?_
  refine (px_go (by decide +kernel : pm_fe 152 5 = some (.iconst 5, 1)) rfl).trans ?_
  refine (ry_v1 (idx := 89) (m' := 164) (ci := 11) (by decide +kernel : 0 < 283 ∧ SHF 0 = (11, 13)) (by simp [pm_wl_n, pm_wl_c, pm_w] : pm_wl [] ≤ 8) (by decide +kernel)).trans ?_
  exact Iff.rfl
theorem r152_9 {d : Nat} {X : Nat × (Nat → Int)} {v : Nat → Int} {M : PH} {K : PV → PS → Prop} {l1 s0 : Int} (h1 : inR s0) : pm_Run d 152 9 [vA 0, vI l1] [vI s0] (GF X, M, PTF v) K ↔ if s0 = (-1) then pm_Run d 152 17 [vA 0, vI l1] [] (GF X, M, PTF v) K else pm_Run d 152 13 [vA 0, vI l1] [] (GF X, M, PTF v) K := by
  refine (px_go (by decide +kernel : pm_fe 152 9 = some (.iconst (-1), 1)) rfl).trans ?_
  refine (ry_ic_eq (off := 7) (tgt := 17) h1 (by decide : (-2147483648 ≤ ((-1) : Int) ∧ ((-1) : Int) < 2147483648)) (by decide +kernel)).trans ?_
  exact Iff.rfl
theorem r152_13 {d : Nat} {X : Nat × (Nat → Int)} {v : Nat → Int} {M : PH} {K : PV → PS → Prop} {l1 : Int} : pm_Run d 152 13 [vA 0, vI l1] [] (GF X, M, PTF v) K ↔ pm_Run d 152 18 [vA 0, vI l1] [vI 1] (GF X, M, PTF v) K := by
  refine (px_go (by decide +kernel : pm_fe 152 13 = some (.iconst 1, 1)) rfl).trans ?_
  refine (px_goto (off := 4) (tgt := 18) (by decide +kernel)).trans ?_
  exact Iff.rfl
theorem r152_17 {d : Nat} {X : Nat × (Nat → Int)} {v : Nat → Int} {M : PH} {K : PV → PS → Prop} {l1 : Int} : pm_Run d 152 17 [vA 0, vI l1] [] (GF X, M, PTF v) K ↔ pm_Run d 152 18 [vA 0, vI l1] [vI 0] (GF X, M, PTF v) K := by
  refine (px_go (by decide +kernel : pm_fe 152 17 = some (.iconst 0, 1)) rfl).trans ?_
  exact Iff.rfl
theorem r152_18 {d : Nat} {X : Nat × (Nat → Int)} {v : Nat → Int} {M : PH} {K : PV → PS → Prop} {l1 s0 : Int} (h1 : s0 = 0 ∨ s0 = 1) : pm_Run d 152 18 [vA 0, vI l1] [vI s0] (GF X, M, PTF v) K ↔ K (vI s0) (GF X, M, PTF v) := by
  refine (px_rz (by decide +kernel)).trans ((and_iff_right h1).trans ?_)
  exact Iff.rfl
theorem r152_19 {d : Nat} {X : Nat × (Nat → Int)} {v : Nat → Int} {M : PH} {K : PV → PS → Prop} {l1 : Int} : pm_Run d 152 19 [vA 0, vI l1] [] (GF X, M, PTF v) K ↔ pm_Run d 152 24 [vA 0, vI l1] [] (GF X, pm_sa M 0 (pm_up (M 0) 12 l1), PTF v) K := by
  refine (px_go (by decide +kernel : pm_fe 152 19 = some (.aload_n 0, 1)) rfl).trans ?_
  refine (px_go (by decide +kernel : pm_fe 152 20 = some (.iload_n 1, 1)) rfl).trans ?_
  refine (ry_put0 (idx := 82) (ci := 11) (k := 12) (by decide +kernel : 0 < 283 ∧ SHF 0 = (11, 13)) (by decide +kernel)).trans ?_
  exact Iff.rfl
theorem r152_24 {d : Nat} {X : Nat × (Nat → Int)} {v : Nat → Int} {M : PH} {K : PV → PS → Prop} {l1 : Int} : pm_Run d 152 24 [vA 0, vI l1] [] (GF X, M, PTF v) K ↔ K (vI 1) (GF X, M, PTF v) := by
  refine (px_go (by decide +kernel : pm_fe 152 24 = some (.iconst 1, 1)) rfl).trans ?_
  refine (px_rz (by decide +kernel)).trans ((and_iff_right (by decide : (1 : Int) = (0 : Int) ∨ (1 : Int) = (1 : Int))).trans ?_)
  exact Iff.rfl
-- X11_wished wished(III)I
theorem r153_0 {d : Nat} {X : Nat × (Nat → Int)} {v : Nat → Int} {M : PH} {K : PV → PS → Prop} {l1 l2 l3 : Int} : pm_Run d 153 0 [vA 0, vI l1, vI l2, vI l3] [] (GF X, M, PTF v) K ↔ pm_Call d 170 [vA 0, vI l1] (GF X, M, PTF v) (fun r9 S1 => pm_Run d 153 5 [vA 0, vI l1, vI l2, vI l3] (pm_push r9 []) S1 K) := by
  refine (px_go (by decide +kernel : pm_fe 153 0 = some (.aload_n 0, 1)) rfl).trans ?_
  refine (px_go (by decide +kernel : pm_fe 153 1 = some (.iload_n 1, 1)) rfl).trans ?_
  refine (ry_v1 (idx := 178) (m' := 170) (ci := 11) (by decide +kernel : 0 < 283 ∧ SHF 0 = (11, 13)) (by simp [pm_wl_n, pm_wl_c, pm_w] : pm_wl [] ≤ 8) (by decide +kernel)).trans ?_
  exact Iff.rfl
theorem r153_5 {d : Nat} {X : Nat × (Nat → Int)} {v : Nat → Int} {M : PH} {K : PV → PS → Prop} {l1 l2 l3 s0 : Int} (h1 : inR s0) : pm_Run d 153 5 [vA 0, vI l1, vI l2, vI l3] [vI s0] (GF X, M, PTF v) K ↔ if s0 = 0 then pm_Run d 153 35 [vA 0, vI l1, vI l2, vI l3] [] (GF X, M, PTF v) K else pm_Run d 153 8 [vA 0, vI l1, vI l2, vI l3] [] (GF X, M, PTF v) K := by
  refine (ry_if_eq (off := 30) (tgt := 35) h1 (by decide +kernel)).trans ?_
  exact Iff.rfl
theorem r153_8 {d : Nat} {X : Nat × (Nat → Int)} {v : Nat → Int} {M : PH} {K : PV → PS → Prop} {l1 l2 l3 : Int} (h1 : inR l2) : pm_Run d 153 8 [vA 0, vI l1, vI l2, vI l3] [] (GF X, M, PTF v) K ↔ if l2 < (-999) then pm_Run d 153 35 [vA 0, vI l1, vI l2, vI l3] [] (GF X, M, PTF v) K else pm_Run d 153 15 [vA 0, vI l1, vI l2, vI l3] [] (GF X, M, PTF v) K := by
  refine (px_go (by decide +kernel : pm_fe 153 8 = some (.iload_n 2, 1)) rfl).trans ?_
  refine (px_go (by decide +kernel : pm_fe 153 9 = some (.sipush (-999), 3)) rfl).trans ?_
  refine (ry_ic_lt (off := 23) (tgt := 35) h1 (by decide : (-2147483648 ≤ ((-999) : Int) ∧ ((-999) : Int) < 2147483648)) (by decide +kernel)).trans ?_
  exact Iff.rfl
theorem r153_15 {d : Nat} {X : Nat × (Nat → Int)} {v : Nat → Int} {M : PH} {K : PV → PS → Prop} {l1 l2 l3 : Int} (h1 : inR l2) : pm_Run d 153 15 [vA 0, vI l1, vI l2, vI l3] [] (GF X, M, PTF v) K ↔ if 999 < l2 then pm_Run d 153 35 [vA 0, vI l1, vI l2, vI l3] [] (GF X, M, PTF v) K else pm_Run d 153 22 [vA 0, vI l1, vI l2, vI l3] [] (GF X, M, PTF v) K := by
  refine (px_go (by decide +kernel : pm_fe 153 15 = some (.iload_n 2, 1)) rfl).trans ?_
  refine (px_go (by decide +kernel : pm_fe 153 16 = some (.sipush 999, 3)) rfl).trans ?_
  refine (ry_ic_gt (off := 16) (tgt := 35) h1 (by decide : (-2147483648 ≤ (999 : Int) ∧ (999 : Int) < 2147483648)) (by decide +kernel)).trans ?_
  exact Iff.rfl
theorem r153_22 {d : Nat} {X : Nat × (Nat → Int)} {v : Nat → Int} {M : PH} {K : PV → PS → Prop} {l1 l2 l3 : Int} (h1 : inR l3) : pm_Run d 153 22 [vA 0, vI l1, vI l2, vI l3] [] (GF X, M, PTF v) K ↔ if l3 = (-1) then pm_Run d 153 37 [vA 0, vI l1, vI l2, vI l3] [] (GF X, M, PTF v) K else pm_Run d 153 27 [vA 0, vI l1, vI l2, vI l3] [] (GF X, M, PTF v) K := by
  refine (px_go (by decide +kernel : pm_fe 153 22 = some (.iload_n 3, 1)) rfl).trans ?_
  refine (px_go (by decide +kernel : pm_fe 153 23 = some (.iconst (-1), 1)) rfl).trans ?_
  refine (ry_ic_eq (off := 13) (tgt := 37) h1 (by decide : (-2147483648 ≤ ((-1) : Int) ∧ ((-1) : Int) < 2147483648)) (by decide +kernel)).trans ?_
  exact Iff.rfl
theorem r153_27 {d : Nat} {X : Nat × (Nat → Int)} {v : Nat → Int} {M : PH} {K : PV → PS → Prop} {l1 l2 l3 : Int} : pm_Run d 153 27 [vA 0, vI l1, vI l2, vI l3] [] (GF X, M, PTF v) K ↔ pm_Call d 169 [vA 0, vI l3] (GF X, M, PTF v) (fun r9 S1 => pm_Run d 153 32 [vA 0, vI l1, vI l2, vI l3] (pm_push r9 []) S1 K) := by
  refine (px_go (by decide +kernel : pm_fe 153 27 = some (.aload_n 0, 1)) rfl).trans ?_
  refine (px_go (by decide +kernel : pm_fe 153 28 = some (.iload_n 3, 1)) rfl).trans ?_
  refine (ry_v1 (idx := 165) (m' := 169) (ci := 11) (by decide +kernel : 0 < 283 ∧ SHF 0 = (11, 13)) (by simp [pm_wl_n, pm_wl_c, pm_w] : pm_wl [] ≤ 8) (by decide +kernel)).trans ?_
  exact Iff.rfl
theorem r153_32 {d : Nat} {X : Nat × (Nat → Int)} {v : Nat → Int} {M : PH} {K : PV → PS → Prop} {l1 l2 l3 s0 : Int} (h1 : inR s0) : pm_Run d 153 32 [vA 0, vI l1, vI l2, vI l3] [vI s0] (GF X, M, PTF v) K ↔ if s0 ≠ 0 then pm_Run d 153 37 [vA 0, vI l1, vI l2, vI l3] [] (GF X, M, PTF v) K else pm_Run d 153 35 [vA 0, vI l1, vI l2, vI l3] [] (GF X, M, PTF v) K := by
  refine (ry_if_ne (off := 5) (tgt := 37) h1 (by decide +kernel)).trans ?_
  exact Iff.rfl
theorem r153_35 {d : Nat} {X : Nat × (Nat → Int)} {v : Nat → Int} {M : PH} {K : PV → PS → Prop} {l1 l2 l3 : Int} : pm_Run d 153 35 [vA 0, vI l1, vI l2, vI l3] [] (GF X, M, PTF v) K ↔ K (vI (-1)) (GF X, M, PTF v) := by
  refine (px_go (by decide +kernel : pm_fe 153 35 = some (.iconst (-1), 1)) rfl).trans ?_
  refine (px_ri (by decide +kernel)).trans ?_
  exact Iff.rfl
theorem r153_37 {d : Nat} {X : Nat × (Nat → Int)} {v : Nat → Int} {M : PH} {K : PV → PS → Prop} {l1 l2 l3 : Int} : pm_Run d 153 37 [vA 0, vI l1, vI l2, vI l3] [] (GF X, M, PTF v) K ↔ pm_Call d 2 [vA 74, vI l1, vI l2] (GF X, M, PTF v) (fun r9 S1 => pm_Run d 153 46 [vA 0, vI l1, vI l2, vI l3] (pm_push r9 []) S1 K) := by
  refine (px_go (by decide +kernel : pm_fe 153 37 = some (.aload_n 0, 1)) rfl).trans ?_
  refine (ry_get2 (idx := 57) (ci := 11) (k := 7) (by decide +kernel : 0 < 283 ∧ SHF 0 = (11, 13)) (ptf_l (a := 0) (k := 7) (n := 74) (by decide +kernel)) (by decide +kernel)).trans ?_
  refine (px_go (by decide +kernel : pm_fe 153 41 = some (.iload_n 1, 1)) rfl).trans ?_
  refine (px_go (by decide +kernel : pm_fe 153 42 = some (.iload_n 2, 1)) rfl).trans ?_
  refine (ry_v2 (idx := 300) (m' := 2) (ci := 0) (by decide +kernel : 74 < 283 ∧ SHF 74 = (0, 17)) (by simp [pm_wl_n, pm_wl_c, pm_w] : pm_wl [] ≤ 8) (by decide +kernel)).trans ?_
  exact Iff.rfl
theorem r153_46 {d : Nat} {X : Nat × (Nat → Int)} {v : Nat → Int} {M : PH} {K : PV → PS → Prop} {l1 l2 l3 s0 : Int} (h1 : inR s0) : pm_Run d 153 46 [vA 0, vI l1, vI l2, vI l3] [vI s0] (GF X, M, PTF v) K ↔ if s0 ≠ 0 then pm_Run d 153 51 [vA 0, vI l1, vI l2, vI l3] [] (GF X, M, PTF v) K else pm_Run d 153 49 [vA 0, vI l1, vI l2, vI l3] [] (GF X, M, PTF v) K := by
  refine (ry_if_ne (off := 5) (tgt := 51) h1 (by decide +kernel)).trans ?_
  exact Iff.rfl
theorem r153_49 {d : Nat} {X : Nat × (Nat → Int)} {v : Nat → Int} {M : PH} {K : PV → PS → Prop} {l1 l2 l3 : Int} : pm_Run d 153 49 [vA 0, vI l1, vI l2, vI l3] [] (GF X, M, PTF v) K ↔ K (vI (-1)) (GF X, M, PTF v) := by
  refine (px_go (by decide +kernel : pm_fe 153 49 = some (.iconst (-1), 1)) rfl).trans ?_
  refine (px_ri (by decide +kernel)).trans ?_
  exact Iff.rfl
theorem r153_51 {d : Nat} {X : Nat × (Nat → Int)} {v : Nat → Int} {M : PH} {K : PV → PS → Prop} {l1 l2 l3 : Int} (h1 : inR l3) : pm_Run d 153 51 [vA 0, vI l1, vI l2, vI l3] [] (GF X, M, PTF v) K ↔ if l3 ≠ (-1) then pm_Run d 153 66 [vA 0, vI l1, vI l2, vI l3] [] (GF X, M, PTF v) K else pm_Run d 153 56 [vA 0, vI l1, vI l2, vI l3] [] (GF X, M, PTF v) K := by
  refine (px_go (by decide +kernel : pm_fe 153 51 = some (.iload_n 3, 1)) rfl).trans ?_
  refine (px_go (by decide +kernel : pm_fe 153 52 = some (.iconst (-1), 1)) rfl).trans ?_
  refine (ry_ic_ne (off := 13) (tgt := 66) h1 (by decide : (-2147483648 ≤ ((-1) : Int) ∧ ((-1) : Int) < 2147483648)) (by decide +kernel)).trans ?_
  exact Iff.rfl
theorem r153_56 {d : Nat} {X : Nat × (Nat → Int)} {v : Nat → Int} {M : PH} {K : PV → PS → Prop} {l1 l2 l3 : Int} : pm_Run d 153 56 [vA 0, vI l1, vI l2, vI l3] [] (GF X, M, PTF v) K ↔ pm_Run d 153 75 [vA 0, vI l1, vI l2, vI l3] [vI (M 74 13)] (GF X, M, PTF v) K := by
  refine (px_go (by decide +kernel : pm_fe 153 56 = some (.aload_n 0, 1)) rfl).trans ?_
  refine (ry_get2 (idx := 57) (ci := 11) (k := 7) (by decide +kernel : 0 < 283 ∧ SHF 0 = (11, 13)) (ptf_l (a := 0) (k := 7) (n := 74) (by decide +kernel)) (by decide +kernel)).trans ?_
  refine (ry_get0 (idx := 303) (ci := 0) (k := 13) (by decide +kernel : 74 < 283 ∧ SHF 74 = (0, 17)) (by decide +kernel)).trans ?_
  refine (px_goto (off := 12) (tgt := 75) (by decide +kernel)).trans ?_
  exact Iff.rfl
theorem r153_66 {d : Nat} {X : Nat × (Nat → Int)} {v : Nat → Int} {M : PH} {K : PV → PS → Prop} {l1 l2 l3 : Int} (h1 : 0 ≤ l3) (h2 : l3 < 3) : pm_Run d 153 66 [vA 0, vI l1, vI l2, vI l3] [] (GF X, M, PTF v) K ↔ pm_Run d 153 75 [vA 0, vI l1, vI l2, vI l3] [vI (M 84 l3.toNat)] (GF X, M, PTF v) K := by
  refine (px_go (by decide +kernel : pm_fe 153 66 = some (.aload_n 0, 1)) rfl).trans ?_
  refine (ry_get2 (idx := 57) (ci := 11) (k := 7) (by decide +kernel : 0 < 283 ∧ SHF 0 = (11, 13)) (ptf_l (a := 0) (k := 7) (n := 74) (by decide +kernel)) (by decide +kernel)).trans ?_
  refine (ry_get2 (idx := 306) (ci := 0) (k := 14) (by decide +kernel : 74 < 283 ∧ SHF 74 = (0, 17)) (ptf_l (a := 74) (k := 14) (n := 84) (by decide +kernel)) (by decide +kernel)).trans ?_
  refine (px_go (by decide +kernel : pm_fe 153 73 = some (.iload_n 3, 1)) rfl).trans ?_
  refine (ry_iald (by decide +kernel : 84 < 283 ∧ SHF 84 = (100, 3)) h1 h2 (by decide +kernel)).trans ?_
  exact Iff.rfl
theorem r153_75 {d : Nat} {X : Nat × (Nat → Int)} {v : Nat → Int} {M : PH} {K : PV → PS → Prop} {l1 l2 l3 s0 : Int} : pm_Run d 153 75 [vA 0, vI l1, vI l2, vI l3] [vI s0] (GF X, M, PTF v) K ↔ K (vI s0) (GF X, M, PTF v) := by
  refine (px_ri (by decide +kernel)).trans ?_
  exact Iff.rfl
-- X11_rest rest(I)I
theorem r154_0 {d : Nat} {X : Nat × (Nat → Int)} {v : Nat → Int} {M : PH} {K : PV → PS → Prop} {l1 : Int} : pm_Run d 154 0 [vA 0, vI l1] [] (GF X, M, PTF v) K ↔ pm_Call d 168 [vA 0] (GF X, M, PTF v) (fun r9 S1 => pm_Run d 154 4 [vA 0, vI l1] (pm_push r9 []) S1 K) := by
  refine (px_go (by decide +kernel : pm_fe 154 0 = some (.aload_n 0, 1)) rfl).trans ?_
  refine (ry_v0 (idx := 309) (m' := 168) (ci := 11) (by decide +kernel : 0 < 283 ∧ SHF 0 = (11, 13)) (by simp [pm_wl_n, pm_wl_c, pm_w] : pm_wl [] ≤ 8) (by decide +kernel)).trans ?_
  exact Iff.rfl
theorem r154_4 {d : Nat} {X : Nat × (Nat → Int)} {v : Nat → Int} {M : PH} {K : PV → PS → Prop} {l1 s0 : Int} (h1 : inR s0) : pm_Run d 154 4 [vA 0, vI l1] [vI s0] (GF X, M, PTF v) K ↔ if s0 = 0 then pm_Run d 154 12 [vA 0, vI l1] [] (GF X, M, PTF v) K else pm_Run d 154 7 [vA 0, vI l1] [] (GF X, M, PTF v) K := by
  refine (ry_if_eq (off := 8) (tgt := 12) h1 (by decide +kernel)).trans ?_
  exact Iff.rfl
theorem r154_7 {d : Nat} {X : Nat × (Nat → Int)} {v : Nat → Int} {M : PH} {K : PV → PS → Prop} {l1 : Int} (h1 : inR l1) : pm_Run d 154 7 [vA 0, vI l1] [] (GF X, M, PTF v) K ↔ if (-1) ≤ l1 then pm_Run d 154 14 [vA 0, vI l1] [] (GF X, M, PTF v) K else pm_Run d 154 12 [vA 0, vI l1] [] (GF X, M, PTF v) K := by
  refine (px_go (by decide +kernel : pm_fe 154 7 = some (.iload_n 1, 1)) rfl).trans ?_
  refine (px_go (by decide +kernel : pm_fe 154 8 = some (.iconst (-1), 1)) rfl).trans ?_
  refine (ry_ic_ge (off := 5) (tgt := 14) h1 (by decide : (-2147483648 ≤ ((-1) : Int) ∧ ((-1) : Int) < 2147483648)) (by decide +kernel)).trans ?_
  exact Iff.rfl
theorem r154_12 {d : Nat} {X : Nat × (Nat → Int)} {v : Nat → Int} {M : PH} {K : PV → PS → Prop} {l1 : Int} : pm_Run d 154 12 [vA 0, vI l1] [] (GF X, M, PTF v) K ↔ K (vI (-1)) (GF X, M, PTF v) := by
  refine (px_go (by decide +kernel : pm_fe 154 12 = some (.iconst (-1), 1)) rfl).trans ?_
  refine (px_ri (by decide +kernel)).trans ?_
  exact Iff.rfl
theorem r154_14 {d : Nat} {X : Nat × (Nat → Int)} {v : Nat → Int} {M : PH} {K : PV → PS → Prop} {l1 : Int} (h1 : inR l1) : pm_Run d 154 14 [vA 0, vI l1] [] (GF X, M, PTF v) K ↔ if l1 ≠ (-1) then pm_Run d 154 34 [vA 0, vI l1] [] (GF X, M, PTF v) K else pm_Run d 154 19 [vA 0, vI l1] [] (GF X, M, PTF v) K := by
  refine (px_go (by decide +kernel : pm_fe 154 14 = some (.iload_n 1, 1)) rfl).trans ?_
  refine (px_go (by decide +kernel : pm_fe 154 15 = some (.iconst (-1), 1)) rfl).trans ?_
  refine (ry_ic_ne (off := 18) (tgt := 34) h1 (by decide : (-2147483648 ≤ ((-1) : Int) ∧ ((-1) : Int) < 2147483648)) (by decide +kernel)).trans ?_
  exact Iff.rfl
theorem r154_19 {d : Nat} {X : Nat × (Nat → Int)} {v : Nat → Int} {M : PH} {K : PV → PS → Prop} {l1 : Int} : pm_Run d 154 19 [vA 0, vI l1] [] (GF X, M, PTF v) K ↔ pm_Call d 4 [vA 74] (GF X, M, PTF v) (fun r9 S1 => pm_Run d 154 26 [vA 0, vI l1] (pm_push r9 []) S1 K) := by
  refine (px_go (by decide +kernel : pm_fe 154 19 = some (.aload_n 0, 1)) rfl).trans ?_
  refine (ry_get2 (idx := 57) (ci := 11) (k := 7) (by decide +kernel : 0 < 283 ∧ SHF 0 = (11, 13)) (ptf_l (a := 0) (k := 7) (n := 74) (by decide +kernel)) (by decide +kernel)).trans ?_
  refine (ry_v0 (idx := 312) (m' := 4) (ci := 0) (by decide +kernel : 74 < 283 ∧ SHF 74 = (0, 17)) (by simp [pm_wl_n, pm_wl_c, pm_w] : pm_wl [] ≤ 8) (by decide +kernel)).trans ?_
  exact Iff.rfl
theorem r154_26 {d : Nat} {X : Nat × (Nat → Int)} {v : Nat → Int} {M : PH} {K : PV → PS → Prop} {l1 : Int} : pm_Run d 154 26 [vA 0, vI l1] [] (GF X, M, PTF v) K ↔ K (vI (M 74 16)) (GF X, M, PTF v) := by
  refine (px_go (by decide +kernel : pm_fe 154 26 = some (.aload_n 0, 1)) rfl).trans ?_
  refine (ry_get2 (idx := 57) (ci := 11) (k := 7) (by decide +kernel : 0 < 283 ∧ SHF 0 = (11, 13)) (ptf_l (a := 0) (k := 7) (n := 74) (by decide +kernel)) (by decide +kernel)).trans ?_
  refine (ry_get0 (idx := 315) (ci := 0) (k := 16) (by decide +kernel : 74 < 283 ∧ SHF 74 = (0, 17)) (by decide +kernel)).trans ?_
  refine (px_ri (by decide +kernel)).trans ?_
  exact Iff.rfl
theorem r154_34 {d : Nat} {X : Nat × (Nat → Int)} {v : Nat → Int} {M : PH} {K : PV → PS → Prop} {l1 : Int} (h1 : inR l1) : pm_Run d 154 34 [vA 0, vI l1] [] (GF X, M, PTF v) K ↔ pm_Call d 170 [vA 0, vI (l1.tdiv 10)] (GF X, M, PTF v) (fun r9 S1 => pm_Run d 154 42 [vA 0, vI l1] (pm_push r9 []) S1 K) := by
  refine (px_go (by decide +kernel : pm_fe 154 34 = some (.aload_n 0, 1)) rfl).trans ?_
  refine (px_go (by decide +kernel : pm_fe 154 35 = some (.iload_n 1, 1)) rfl).trans ?_
  refine (px_go (by decide +kernel : pm_fe 154 36 = some (.bipush 10, 2)) rfl).trans ?_
  refine (ry_idiv h1 (by decide : (-2147483648 ≤ (10 : Int) ∧ (10 : Int) < 2147483648)) (by decide : (10 : Int) ≠ (0 : Int)) (by decide +kernel)).trans ?_
  refine (ry_v1 (idx := 178) (m' := 170) (ci := 11) (by decide +kernel : 0 < 283 ∧ SHF 0 = (11, 13)) (by simp [pm_wl_n, pm_wl_c, pm_w] : pm_wl [] ≤ 8) (by decide +kernel)).trans ?_
  exact Iff.rfl
theorem r154_42 {d : Nat} {X : Nat × (Nat → Int)} {v : Nat → Int} {M : PH} {K : PV → PS → Prop} {l1 s0 : Int} (h1 : inR s0) : pm_Run d 154 42 [vA 0, vI l1] [vI s0] (GF X, M, PTF v) K ↔ if s0 = 0 then pm_Run d 154 56 [vA 0, vI l1] [] (GF X, M, PTF v) K else pm_Run d 154 45 [vA 0, vI l1] [] (GF X, M, PTF v) K := by
  refine (ry_if_eq (off := 14) (tgt := 56) h1 (by decide +kernel)).trans ?_
  exact Iff.rfl
theorem r154_45 {d : Nat} {X : Nat × (Nat → Int)} {v : Nat → Int} {M : PH} {K : PV → PS → Prop} {l1 : Int} (h1 : inR l1) : pm_Run d 154 45 [vA 0, vI l1] [] (GF X, M, PTF v) K ↔ pm_Call d 169 [vA 0, vI (l1.tmod 10)] (GF X, M, PTF v) (fun r9 S1 => pm_Run d 154 53 [vA 0, vI l1] (pm_push r9 []) S1 K) := by
  refine (px_go (by decide +kernel : pm_fe 154 45 = some (.aload_n 0, 1)) rfl).trans ?_
  refine (px_go (by decide +kernel : pm_fe 154 46 = some (.iload_n 1, 1)) rfl).trans ?_
  refine (px_go (by decide +kernel : pm_fe 154 47 = some (.bipush 10, 2)) rfl).trans ?_
  refine (ry_irem h1 (by decide : (-2147483648 ≤ (10 : Int) ∧ (10 : Int) < 2147483648)) (by decide : (10 : Int) ≠ (0 : Int)) (by decide +kernel)).trans ?_
  refine (ry_v1 (idx := 165) (m' := 169) (ci := 11) (by decide +kernel : 0 < 283 ∧ SHF 0 = (11, 13)) (by simp [pm_wl_n, pm_wl_c, pm_w] : pm_wl [] ≤ 8) (by decide +kernel)).trans ?_
  exact Iff.rfl
theorem r154_53 {d : Nat} {X : Nat × (Nat → Int)} {v : Nat → Int} {M : PH} {K : PV → PS → Prop} {l1 s0 : Int} (h1 : inR s0) : pm_Run d 154 53 [vA 0, vI l1] [vI s0] (GF X, M, PTF v) K ↔ if s0 ≠ 0 then pm_Run d 154 58 [vA 0, vI l1] [] (GF X, M, PTF v) K else pm_Run d 154 56 [vA 0, vI l1] [] (GF X, M, PTF v) K := by
  refine (ry_if_ne (off := 5) (tgt := 58) h1 (by decide +kernel)).trans ?_
  exact Iff.rfl
theorem r154_56 {d : Nat} {X : Nat × (Nat → Int)} {v : Nat → Int} {M : PH} {K : PV → PS → Prop} {l1 : Int} : pm_Run d 154 56 [vA 0, vI l1] [] (GF X, M, PTF v) K ↔ K (vI (-1)) (GF X, M, PTF v) := by
  refine (px_go (by decide +kernel : pm_fe 154 56 = some (.iconst (-1), 1)) rfl).trans ?_
  refine (px_ri (by decide +kernel)).trans ?_
  exact Iff.rfl
theorem r154_58 {d : Nat} {X : Nat × (Nat → Int)} {v : Nat → Int} {M : PH} {K : PV → PS → Prop} {l1 : Int} : pm_Run d 154 58 [vA 0, vI l1] [] (GF X, M, PTF v) K ↔ pm_Call d 4 [vA 74] (GF X, M, PTF v) (fun r9 S1 => pm_Run d 154 65 [vA 0, vI l1] (pm_push r9 []) S1 K) := by
  refine (px_go (by decide +kernel : pm_fe 154 58 = some (.aload_n 0, 1)) rfl).trans ?_
  refine (ry_get2 (idx := 57) (ci := 11) (k := 7) (by decide +kernel : 0 < 283 ∧ SHF 0 = (11, 13)) (ptf_l (a := 0) (k := 7) (n := 74) (by decide +kernel)) (by decide +kernel)).trans ?_
  refine (ry_v0 (idx := 312) (m' := 4) (ci := 0) (by decide +kernel : 74 < 283 ∧ SHF 74 = (0, 17)) (by simp [pm_wl_n, pm_wl_c, pm_w] : pm_wl [] ≤ 8) (by decide +kernel)).trans ?_
  exact Iff.rfl
theorem r154_65 {d : Nat} {X : Nat × (Nat → Int)} {v : Nat → Int} {M : PH} {K : PV → PS → Prop} {l1 : Int} (h1 : inR l1) : pm_Run d 154 65 [vA 0, vI l1] [] (GF X, M, PTF v) K ↔ pm_Call d 55 [vI (l1.tdiv 10), vI (l1.tmod 10)] (GF X, M, PTF v) (fun r9 S1 => pm_Run d 154 86 [vA 0, vI l1] (pm_push r9 [vA 89]) S1 K) := by
  refine (px_go (by decide +kernel : pm_fe 154 65 = some (.aload_n 0, 1)) rfl).trans ?_
  refine (ry_get2 (idx := 57) (ci := 11) (k := 7) (by decide +kernel : 0 < 283 ∧ SHF 0 = (11, 13)) (ptf_l (a := 0) (k := 7) (n := 74) (by decide +kernel)) (by decide +kernel)).trans ?_
  refine (ry_get2 (idx := 318) (ci := 0) (k := 15) (by decide +kernel : 74 < 283 ∧ SHF 74 = (0, 17)) (ptf_l (a := 74) (k := 15) (n := 85) (by decide +kernel)) (by decide +kernel)).trans ?_
  refine (ry_get2 (idx := 235) (ci := 5) (k := 4) (by decide +kernel : 85 < 283 ∧ SHF 85 = (5, 6)) (ptf_l (a := 85) (k := 4) (n := 89) (by decide +kernel)) (by decide +kernel)).trans ?_
  refine (px_go (by decide +kernel : pm_fe 154 75 = some (.iload_n 1, 1)) rfl).trans ?_
  refine (px_go (by decide +kernel : pm_fe 154 76 = some (.bipush 10, 2)) rfl).trans ?_
  refine (ry_idiv h1 (by decide : (-2147483648 ≤ (10 : Int) ∧ (10 : Int) < 2147483648)) (by decide : (10 : Int) ≠ (0 : Int)) (by decide +kernel)).trans ?_
  refine (px_go (by decide +kernel : pm_fe 154 79 = some (.iload_n 1, 1)) rfl).trans ?_
  refine (px_go (by decide +kernel : pm_fe 154 80 = some (.bipush 10, 2)) rfl).trans ?_
  refine (ry_irem h1 (by decide : (-2147483648 ≤ (10 : Int) ∧ (10 : Int) < 2147483648)) (by decide : (10 : Int) ≠ (0 : Int)) (by decide +kernel)).trans ?_
  refine (px_s2 (idx := 232) (m' := 55) (nest := 0) (by decide +kernel)).trans ((and_iff_right (by simp [pm_wl_n, pm_wl_c, pm_w] : pm_wl [vA 89] ≤ 8)).trans ?_)
  exact Iff.rfl
theorem r154_86 {d : Nat} {X : Nat × (Nat → Int)} {v : Nat → Int} {M : PH} {K : PV → PS → Prop} {l1 s0 : Int} (h1 : 0 ≤ s0) (h2 : s0 < 24) : pm_Run d 154 86 [vA 0, vI l1] [vI s0, vA 89] (GF X, M, PTF v) K ↔ K (vI (M 89 s0.toNat)) (GF X, M, PTF v) := by
  refine (ry_iald (by decide +kernel : 89 < 283 ∧ SHF 89 = (100, 24)) h1 h2 (by decide +kernel)).trans ?_
  refine (px_ri (by decide +kernel)).trans ?_
  exact Iff.rfl
-- X11_across across(III)I
theorem r155_0 {d : Nat} {X : Nat × (Nat → Int)} {v : Nat → Int} {M : PH} {K : PV → PS → Prop} {l1 l2 l3 : Int} : pm_Run d 155 0 [vA 0, vI l1, vI l2, vI l3] [] (GF X, M, PTF v) K ↔ pm_Call d 173 [vA 0, vI l1, vI l2, vI l3] (GF X, M, PTF v) (fun r9 S1 => pm_Run d 155 7 [vA 0, vI l1, vI l2, vI l3] (pm_push r9 []) S1 K) := by
  refine (px_go (by decide +kernel : pm_fe 155 0 = some (.aload_n 0, 1)) rfl).trans ?_
  refine (px_go (by decide +kernel : pm_fe 155 1 = some (.iload_n 1, 1)) rfl).trans ?_
  refine (px_go (by decide +kernel : pm_fe 155 2 = some (.iload_n 2, 1)) rfl).trans ?_
  refine (px_go (by decide +kernel : pm_fe 155 3 = some (.iload_n 3, 1)) rfl).trans ?_
  refine (ry_v3 (idx := 321) (m' := 173) (ci := 11) (by decide +kernel : 0 < 283 ∧ SHF 0 = (11, 13)) (by simp [pm_wl_n, pm_wl_c, pm_w] : pm_wl [] ≤ 8) (by decide +kernel)).trans ?_
  exact Iff.rfl
theorem r155_7 {d : Nat} {X : Nat × (Nat → Int)} {v : Nat → Int} {M : PH} {K : PV → PS → Prop} {l1 l2 l3 s0 : Int} (h1 : inR s0) : pm_Run d 155 7 [vA 0, vI l1, vI l2, vI l3] [vI s0] (GF X, M, PTF v) K ↔ if s0 = 0 then pm_Run d 155 39 [vA 0, vI l1, vI l2, vI l3] [] (GF X, M, PTF v) K else pm_Run d 155 10 [vA 0, vI l1, vI l2, vI l3] [] (GF X, M, PTF v) K := by
  refine (ry_if_eq (off := 32) (tgt := 39) h1 (by decide +kernel)).trans ?_
  exact Iff.rfl
theorem r155_10 {d : Nat} {c : Nat} {X : Nat × (Nat → Int)} {v : Nat → Int} {M : PH} {K : PV → PS → Prop} {l1 l2 l3 : Int} (hc : isCh c) (hv0 : v 0 = ((c : Nat) : Int)) (h1 : 0 ≤ l1) (h2 : l1 < 8) (h3 : 0 ≤ l2) (h4 : l2 < 8) : pm_Run d 155 10 [vA 0, vI l1, vI l2, vI l3] [] (GF X, M, PTF v) K ↔ pm_Call d 34 [vA 60, vI (M (c + 4) l1.toNat), vI (M (c + 4) l2.toNat), vI l3] (GF X, M, PTF v) (fun r9 S1 => pm_Run d 155 36 [vA 0, vI l1, vI l2, vI l3] (pm_push r9 []) S1 K) := by
  refine (px_go (by decide +kernel : pm_fe 155 10 = some (.aload_n 0, 1)) rfl).trans ?_
  refine (ry_get2 (idx := 50) (ci := 11) (k := 6) (by decide +kernel : 0 < 283 ∧ SHF 0 = (11, 13)) (ptf_l (a := 0) (k := 6) (n := 60) (by decide +kernel)) (by decide +kernel)).trans ?_
  refine (px_go (by decide +kernel : pm_fe 155 14 = some (.aload_n 0, 1)) rfl).trans ?_
  refine (ry_get2 (idx := 27) (ci := 11) (k := 3) (by decide +kernel : 0 < 283 ∧ SHF 0 = (11, 13)) (ptd0 hv0) (by decide +kernel)).trans ?_
  refine (ry_get2 (idx := 199) (ci := 1) (k := 11) (chs0 hc) (chp0_11 hc) (by decide +kernel)).trans ?_
  refine (px_go (by decide +kernel : pm_fe 155 21 = some (.iload_n 1, 1)) rfl).trans ?_
  refine (ry_iald (chs4 hc) h1 h2 (by decide +kernel)).trans ?_
  refine (px_go (by decide +kernel : pm_fe 155 23 = some (.aload_n 0, 1)) rfl).trans ?_
  refine (ry_get2 (idx := 27) (ci := 11) (k := 3) (by decide +kernel : 0 < 283 ∧ SHF 0 = (11, 13)) (ptd0 hv0) (by decide +kernel)).trans ?_
  refine (ry_get2 (idx := 199) (ci := 1) (k := 11) (chs0 hc) (chp0_11 hc) (by decide +kernel)).trans ?_
  refine (px_go (by decide +kernel : pm_fe 155 30 = some (.iload_n 2, 1)) rfl).trans ?_
  refine (ry_iald (chs4 hc) h3 h4 (by decide +kernel)).trans ?_
  refine (px_go (by decide +kernel : pm_fe 155 32 = some (.iload_n 3, 1)) rfl).trans ?_
  refine (ry_v3 (idx := 325) (m' := 34) (ci := 2) (by decide +kernel : 60 < 283 ∧ SHF 60 = (2, 13)) (by simp [pm_wl_n, pm_wl_c, pm_w] : pm_wl [] ≤ 8) (by decide +kernel)).trans ?_
  exact Iff.rfl
theorem r155_36 {d : Nat} {X : Nat × (Nat → Int)} {v : Nat → Int} {M : PH} {K : PV → PS → Prop} {l1 l2 l3 s0 : Int} : pm_Run d 155 36 [vA 0, vI l1, vI l2, vI l3] [vI s0] (GF X, M, PTF v) K ↔ pm_Run d 155 40 [vA 0, vI l1, vI l2, vI l3] [vI s0] (GF X, M, PTF v) K := by
  refine (px_goto (off := 4) (tgt := 40) (by decide +kernel)).trans ?_
  exact Iff.rfl
theorem r155_39 {d : Nat} {X : Nat × (Nat → Int)} {v : Nat → Int} {M : PH} {K : PV → PS → Prop} {l1 l2 l3 : Int} : pm_Run d 155 39 [vA 0, vI l1, vI l2, vI l3] [] (GF X, M, PTF v) K ↔ pm_Run d 155 40 [vA 0, vI l1, vI l2, vI l3] [vI (-1)] (GF X, M, PTF v) K := by
  refine (px_go (by decide +kernel : pm_fe 155 39 = some (.iconst (-1), 1)) rfl).trans ?_
  exact Iff.rfl
theorem r155_40 {d : Nat} {X : Nat × (Nat → Int)} {v : Nat → Int} {M : PH} {K : PV → PS → Prop} {l1 l2 l3 s0 : Int} : pm_Run d 155 40 [vA 0, vI l1, vI l2, vI l3] [vI s0] (GF X, M, PTF v) K ↔ K (vI s0) (GF X, M, PTF v) := by
  refine (px_ri (by decide +kernel)).trans ?_
  exact Iff.rfl
-- X11_latest latest(III)I
theorem r156_0 {d : Nat} {X : Nat × (Nat → Int)} {v : Nat → Int} {M : PH} {K : PV → PS → Prop} {l1 l2 l3 : Int} : pm_Run d 156 0 [vA 0, vI l1, vI l2, vI l3] [] (GF X, M, PTF v) K ↔ pm_Call d 173 [vA 0, vI l1, vI l2, vI l3] (GF X, M, PTF v) (fun r9 S1 => pm_Run d 156 7 [vA 0, vI l1, vI l2, vI l3] (pm_push r9 []) S1 K) := by
  refine (px_go (by decide +kernel : pm_fe 156 0 = some (.aload_n 0, 1)) rfl).trans ?_
  refine (px_go (by decide +kernel : pm_fe 156 1 = some (.iload_n 1, 1)) rfl).trans ?_
  refine (px_go (by decide +kernel : pm_fe 156 2 = some (.iload_n 2, 1)) rfl).trans ?_
  refine (px_go (by decide +kernel : pm_fe 156 3 = some (.iload_n 3, 1)) rfl).trans ?_
  refine (ry_v3 (idx := 321) (m' := 173) (ci := 11) (by decide +kernel : 0 < 283 ∧ SHF 0 = (11, 13)) (by simp [pm_wl_n, pm_wl_c, pm_w] : pm_wl [] ≤ 8) (by decide +kernel)).trans ?_
  exact Iff.rfl
theorem r156_7 {d : Nat} {X : Nat × (Nat → Int)} {v : Nat → Int} {M : PH} {K : PV → PS → Prop} {l1 l2 l3 s0 : Int} (h1 : inR s0) : pm_Run d 156 7 [vA 0, vI l1, vI l2, vI l3] [vI s0] (GF X, M, PTF v) K ↔ if s0 = 0 then pm_Run d 156 39 [vA 0, vI l1, vI l2, vI l3] [] (GF X, M, PTF v) K else pm_Run d 156 10 [vA 0, vI l1, vI l2, vI l3] [] (GF X, M, PTF v) K := by
  refine (ry_if_eq (off := 32) (tgt := 39) h1 (by decide +kernel)).trans ?_
  exact Iff.rfl
theorem r156_10 {d : Nat} {c : Nat} {X : Nat × (Nat → Int)} {v : Nat → Int} {M : PH} {K : PV → PS → Prop} {l1 l2 l3 : Int} (hc : isCh c) (hv0 : v 0 = ((c : Nat) : Int)) (h1 : 0 ≤ l1) (h2 : l1 < 8) (h3 : 0 ≤ l2) (h4 : l2 < 8) : pm_Run d 156 10 [vA 0, vI l1, vI l2, vI l3] [] (GF X, M, PTF v) K ↔ pm_Call d 35 [vA 60, vI (M (c + 4) l1.toNat), vI (M (c + 4) l2.toNat), vI l3] (GF X, M, PTF v) (fun r9 S1 => pm_Run d 156 36 [vA 0, vI l1, vI l2, vI l3] (pm_push r9 []) S1 K) := by
  refine (px_go (by decide +kernel : pm_fe 156 10 = some (.aload_n 0, 1)) rfl).trans ?_
  refine (ry_get2 (idx := 50) (ci := 11) (k := 6) (by decide +kernel : 0 < 283 ∧ SHF 0 = (11, 13)) (ptf_l (a := 0) (k := 6) (n := 60) (by decide +kernel)) (by decide +kernel)).trans ?_
  refine (px_go (by decide +kernel : pm_fe 156 14 = some (.aload_n 0, 1)) rfl).trans ?_
  refine (ry_get2 (idx := 27) (ci := 11) (k := 3) (by decide +kernel : 0 < 283 ∧ SHF 0 = (11, 13)) (ptd0 hv0) (by decide +kernel)).trans ?_
  refine (ry_get2 (idx := 199) (ci := 1) (k := 11) (chs0 hc) (chp0_11 hc) (by decide +kernel)).trans ?_
  refine (px_go (by decide +kernel : pm_fe 156 21 = some (.iload_n 1, 1)) rfl).trans ?_
  refine (ry_iald (chs4 hc) h1 h2 (by decide +kernel)).trans ?_
  refine (px_go (by decide +kernel : pm_fe 156 23 = some (.aload_n 0, 1)) rfl).trans ?_
  refine (ry_get2 (idx := 27) (ci := 11) (k := 3) (by decide +kernel : 0 < 283 ∧ SHF 0 = (11, 13)) (ptd0 hv0) (by decide +kernel)).trans ?_
  refine (ry_get2 (idx := 199) (ci := 1) (k := 11) (chs0 hc) (chp0_11 hc) (by decide +kernel)).trans ?_
  refine (px_go (by decide +kernel : pm_fe 156 30 = some (.iload_n 2, 1)) rfl).trans ?_
  refine (ry_iald (chs4 hc) h3 h4 (by decide +kernel)).trans ?_
  refine (px_go (by decide +kernel : pm_fe 156 32 = some (.iload_n 3, 1)) rfl).trans ?_
  refine (ry_v3 (idx := 329) (m' := 35) (ci := 2) (by decide +kernel : 60 < 283 ∧ SHF 60 = (2, 13)) (by simp [pm_wl_n, pm_wl_c, pm_w] : pm_wl [] ≤ 8) (by decide +kernel)).trans ?_
  exact Iff.rfl
theorem r156_36 {d : Nat} {X : Nat × (Nat → Int)} {v : Nat → Int} {M : PH} {K : PV → PS → Prop} {l1 l2 l3 s0 : Int} : pm_Run d 156 36 [vA 0, vI l1, vI l2, vI l3] [vI s0] (GF X, M, PTF v) K ↔ pm_Run d 156 40 [vA 0, vI l1, vI l2, vI l3] [vI s0] (GF X, M, PTF v) K := by
  refine (px_goto (off := 4) (tgt := 40) (by decide +kernel)).trans ?_
  exact Iff.rfl
theorem r156_39 {d : Nat} {X : Nat × (Nat → Int)} {v : Nat → Int} {M : PH} {K : PV → PS → Prop} {l1 l2 l3 : Int} : pm_Run d 156 39 [vA 0, vI l1, vI l2, vI l3] [] (GF X, M, PTF v) K ↔ pm_Run d 156 40 [vA 0, vI l1, vI l2, vI l3] [vI (-1)] (GF X, M, PTF v) K := by
  refine (px_go (by decide +kernel : pm_fe 156 39 = some (.iconst (-1), 1)) rfl).trans ?_
  exact Iff.rfl
theorem r156_40 {d : Nat} {X : Nat × (Nat → Int)} {v : Nat → Int} {M : PH} {K : PV → PS → Prop} {l1 l2 l3 s0 : Int} : pm_Run d 156 40 [vA 0, vI l1, vI l2, vI l3] [vI s0] (GF X, M, PTF v) K ↔ K (vI s0) (GF X, M, PTF v) := by
  refine (px_ri (by decide +kernel)).trans ?_
  exact Iff.rfl
-- X11_meet meet(I)I
theorem r157_0 {d : Nat} {c : Nat} {X : Nat × (Nat → Int)} {v : Nat → Int} {M : PH} {K : PV → PS → Prop} {l1 : Int} (hc : isCh c) (hv0 : v 0 = ((c : Nat) : Int)) : pm_Run d 157 0 [vA 0, vI l1, PU] [] (GF X, M, PTF v) K ↔ pm_Call d 21 [vA c, vA 3] (GF X, M, PTF v) (fun r9 S1 => pm_Run d 157 11 [vA 0, vI l1, PU] (pm_push r9 []) S1 K) := by
  refine (px_go (by decide +kernel : pm_fe 157 0 = some (.aload_n 0, 1)) rfl).trans ?_
  refine (ry_get2 (idx := 27) (ci := 11) (k := 3) (by decide +kernel : 0 < 283 ∧ SHF 0 = (11, 13)) (ptd0 hv0) (by decide +kernel)).trans ?_
  refine (px_go (by decide +kernel : pm_fe 157 4 = some (.aload_n 0, 1)) rfl).trans ?_
  refine (ry_get2 (idx := 20) (ci := 11) (k := 2) (by decide +kernel : 0 < 283 ∧ SHF 0 = (11, 13)) (ptf_l (a := 0) (k := 2) (n := 3) (by decide +kernel)) (by decide +kernel)).trans ?_
  refine (ry_v1 (idx := 332) (m' := 21) (ci := 1) (chs0 hc) (by simp [pm_wl_n, pm_wl_c, pm_w] : pm_wl [] ≤ 8) (by decide +kernel)).trans ?_
  exact Iff.rfl
theorem r157_11 {d : Nat} {X : Nat × (Nat → Int)} {v : Nat → Int} {M : PH} {K : PV → PS → Prop} {l1 s0 : Int} (h1 : inR s0) : pm_Run d 157 11 [vA 0, vI l1, PU] [vI s0] (GF X, M, PTF v) K ↔ if s0 ≠ (-1) then pm_Run d 157 19 [vA 0, vI l1, vI s0] [] (GF X, M, PTF v) K else pm_Run d 157 17 [vA 0, vI l1, vI s0] [] (GF X, M, PTF v) K := by
  refine (px_go (by decide +kernel : pm_fe 157 11 = some (.istore_n 2, 1)) rfl).trans ?_
  refine (px_go (by decide +kernel : pm_fe 157 12 = some (.iload_n 2, 1)) rfl).trans ?_
  refine (px_go (by decide +kernel : pm_fe 157 13 = some (.iconst (-1), 1)) rfl).trans ?_
  refine (ry_ic_ne (off := 5) (tgt := 19) h1 (by decide : (-2147483648 ≤ ((-1) : Int) ∧ ((-1) : Int) < 2147483648)) (by decide +kernel)).trans ?_
  exact Iff.rfl
theorem r157_17 {d : Nat} {X : Nat × (Nat → Int)} {v : Nat → Int} {M : PH} {K : PV → PS → Prop} {l1 l2 : Int} : pm_Run d 157 17 [vA 0, vI l1, vI l2] [] (GF X, M, PTF v) K ↔ K (vI (-1)) (GF X, M, PTF v) := by
  refine (px_go (by decide +kernel : pm_fe 157 17 = some (.iconst (-1), 1)) rfl).trans ?_
  refine (px_ri (by decide +kernel)).trans ?_
  exact Iff.rfl
theorem r157_19 {d : Nat} {X : Nat × (Nat → Int)} {v : Nat → Int} {M : PH} {K : PV → PS → Prop} {l1 l2 : Int} (h1 : inR l1) : pm_Run d 157 19 [vA 0, vI l1, vI l2] [] (GF X, M, PTF v) K ↔ if l1 ≠ 0 then pm_Run d 157 33 [vA 0, vI l1, vI l2] [] (GF X, M, PTF v) K else pm_Run d 157 23 [vA 0, vI l1, vI l2] [] (GF X, M, PTF v) K := by
  refine (px_go (by decide +kernel : pm_fe 157 19 = some (.iload_n 1, 1)) rfl).trans ?_
  refine (ry_if_ne (off := 13) (tgt := 33) h1 (by decide +kernel)).trans ?_
  exact Iff.rfl
theorem r157_23 {d : Nat} {X : Nat × (Nat → Int)} {v : Nat → Int} {M : PH} {K : PV → PS → Prop} {l1 l2 : Int} : pm_Run d 157 23 [vA 0, vI l1, vI l2] [] (GF X, M, PTF v) K ↔ K (vI ((M 3 0) + l2)) (GF X, M, PTF v) := by
  refine (px_go (by decide +kernel : pm_fe 157 23 = some (.aload_n 0, 1)) rfl).trans ?_
  refine (ry_get2 (idx := 20) (ci := 11) (k := 2) (by decide +kernel : 0 < 283 ∧ SHF 0 = (11, 13)) (ptf_l (a := 0) (k := 2) (n := 3) (by decide +kernel)) (by decide +kernel)).trans ?_
  refine (ry_get0 (idx := 153) (ci := 5) (k := 0) (by decide +kernel : 3 < 283 ∧ SHF 3 = (5, 6)) (by decide +kernel)).trans ?_
  refine (px_go (by decide +kernel : pm_fe 157 30 = some (.iload_n 2, 1)) rfl).trans ?_
  refine (px_go (by decide +kernel : pm_fe 157 31 = some (.iadd, 1)) rfl).trans ?_
  refine (px_ri (by decide +kernel)).trans ?_
  exact Iff.rfl
theorem r157_33 {d : Nat} {X : Nat × (Nat → Int)} {v : Nat → Int} {M : PH} {K : PV → PS → Prop} {l1 l2 : Int} (h1 : inR l1) : pm_Run d 157 33 [vA 0, vI l1, vI l2] [] (GF X, M, PTF v) K ↔ if l1 ≠ 1 then pm_Run d 157 54 [vA 0, vI l1, vI l2] [] (GF X, M, PTF v) K else pm_Run d 157 38 [vA 0, vI l1, vI l2] [] (GF X, M, PTF v) K := by
  refine (px_go (by decide +kernel : pm_fe 157 33 = some (.iload_n 1, 1)) rfl).trans ?_
  refine (px_go (by decide +kernel : pm_fe 157 34 = some (.iconst 1, 1)) rfl).trans ?_
  refine (ry_ic_ne (off := 19) (tgt := 54) h1 (by decide : (-2147483648 ≤ (1 : Int) ∧ (1 : Int) < 2147483648)) (by decide +kernel)).trans ?_
  exact Iff.rfl
theorem r157_38 {d : Nat} {c : Nat} {X : Nat × (Nat → Int)} {v : Nat → Int} {M : PH} {K : PV → PS → Prop} {l1 l2 : Int} (hc : isCh c) (hv0 : v 0 = ((c : Nat) : Int)) : pm_Run d 157 38 [vA 0, vI l1, vI l2] [] (GF X, M, PTF v) K ↔ pm_Call d 20 [vA c, vA 3, vI 0, vI l2] (GF X, M, PTF v) (fun r9 S1 => pm_Run d 157 51 [vA 0, vI l1, vI l2] (pm_push r9 []) S1 K) := by
  refine (px_go (by decide +kernel : pm_fe 157 38 = some (.aload_n 0, 1)) rfl).trans ?_
  refine (ry_get2 (idx := 27) (ci := 11) (k := 3) (by decide +kernel : 0 < 283 ∧ SHF 0 = (11, 13)) (ptd0 hv0) (by decide +kernel)).trans ?_
  refine (px_go (by decide +kernel : pm_fe 157 42 = some (.aload_n 0, 1)) rfl).trans ?_
  refine (ry_get2 (idx := 20) (ci := 11) (k := 2) (by decide +kernel : 0 < 283 ∧ SHF 0 = (11, 13)) (ptf_l (a := 0) (k := 2) (n := 3) (by decide +kernel)) (by decide +kernel)).trans ?_
  refine (px_go (by decide +kernel : pm_fe 157 46 = some (.iconst 0, 1)) rfl).trans ?_
  refine (px_go (by decide +kernel : pm_fe 157 47 = some (.iload_n 2, 1)) rfl).trans ?_
  refine (ry_v3 (idx := 336) (m' := 20) (ci := 1) (chs0 hc) (by simp [pm_wl_n, pm_wl_c, pm_w] : pm_wl [] ≤ 8) (by decide +kernel)).trans ?_
  exact Iff.rfl
theorem r157_51 {d : Nat} {X : Nat × (Nat → Int)} {v : Nat → Int} {M : PH} {K : PV → PS → Prop} {l1 l2 s0 : Int} : pm_Run d 157 51 [vA 0, vI l1, vI l2] [vI s0] (GF X, M, PTF v) K ↔ pm_Run d 157 55 [vA 0, vI l1, vI l2] [vI s0] (GF X, M, PTF v) K := by
  refine (px_goto (off := 4) (tgt := 55) (by decide +kernel)).trans ?_
  exact Iff.rfl
theorem r157_54 {d : Nat} {X : Nat × (Nat → Int)} {v : Nat → Int} {M : PH} {K : PV → PS → Prop} {l1 l2 : Int} : pm_Run d 157 54 [vA 0, vI l1, vI l2] [] (GF X, M, PTF v) K ↔ pm_Run d 157 55 [vA 0, vI l1, vI l2] [vI (-1)] (GF X, M, PTF v) K := by
  refine (px_go (by decide +kernel : pm_fe 157 54 = some (.iconst (-1), 1)) rfl).trans ?_
  exact Iff.rfl
theorem r157_55 {d : Nat} {X : Nat × (Nat → Int)} {v : Nat → Int} {M : PH} {K : PV → PS → Prop} {l1 l2 s0 : Int} : pm_Run d 157 55 [vA 0, vI l1, vI l2] [vI s0] (GF X, M, PTF v) K ↔ K (vI s0) (GF X, M, PTF v) := by
  refine (px_ri (by decide +kernel)).trans ?_
  exact Iff.rfl
-- X11_see see()I
theorem r158_0 {d : Nat} {X : Nat × (Nat → Int)} {v : Nat → Int} {M : PH} {K : PV → PS → Prop} : pm_Run d 158 0 [vA 0, PU] [] (GF X, M, PTF v) K ↔ pm_Call d 166 [vA 0] (GF X, M, PTF v) (fun r9 S1 => pm_Run d 158 4 [vA 0, PU] (pm_push r9 []) S1 K) := by
  refine (px_go (by decide +kernel : pm_fe 158 0 = some (.aload_n 0, 1)) rfl).trans ?_
  refine (ry_v0 (idx := 97) (m' := 166) (ci := 11) (by decide +kernel : 0 < 283 ∧ SHF 0 = (11, 13)) (by simp [pm_wl_n, pm_wl_c, pm_w] : pm_wl [] ≤ 8) (by decide +kernel)).trans ?_
  exact Iff.rfl
theorem r158_4 {d : Nat} {c : Nat} {X : Nat × (Nat → Int)} {v : Nat → Int} {M : PH} {K : PV → PS → Prop} {s0 : Int} (hc : isCh c) (hv0 : v 0 = ((c : Nat) : Int)) : pm_Run d 158 4 [vA 0, PU] [vI s0] (GF X, M, PTF v) K ↔ pm_Call d 128 [vA 91, vA 1, vI s0, vI (M c 0)] (GF X, M, PTF v) (fun r9 S1 => pm_Run d 158 24 [vA 0, vI s0] (pm_push r9 []) S1 K) := by
  refine (px_go (by decide +kernel : pm_fe 158 4 = some (.istore_n 1, 1)) rfl).trans ?_
  refine (px_go (by decide +kernel : pm_fe 158 5 = some (.aload_n 0, 1)) rfl).trans ?_
  refine (ry_get2 (idx := 64) (ci := 11) (k := 8) (by decide +kernel : 0 < 283 ∧ SHF 0 = (11, 13)) (ptf_l (a := 0) (k := 8) (n := 91) (by decide +kernel)) (by decide +kernel)).trans ?_
  refine (px_go (by decide +kernel : pm_fe 158 9 = some (.aload_n 0, 1)) rfl).trans ?_
  refine (ry_get2 (idx := 9) (ci := 11) (k := 0) (by decide +kernel : 0 < 283 ∧ SHF 0 = (11, 13)) (ptf_l (a := 0) (k := 0) (n := 1) (by decide +kernel)) (by decide +kernel)).trans ?_
  refine (px_go (by decide +kernel : pm_fe 158 13 = some (.iload_n 1, 1)) rfl).trans ?_
  refine (px_go (by decide +kernel : pm_fe 158 14 = some (.aload_n 0, 1)) rfl).trans ?_
  refine (ry_get2 (idx := 27) (ci := 11) (k := 3) (by decide +kernel : 0 < 283 ∧ SHF 0 = (11, 13)) (ptd0 hv0) (by decide +kernel)).trans ?_
  refine (ry_get0 (idx := 132) (ci := 1) (k := 0) (chs0 hc) (by decide +kernel)).trans ?_
  refine (ry_v3 (idx := 340) (m' := 128) (ci := 10) (by decide +kernel : 91 < 283 ∧ SHF 91 = (10, 11)) (by simp [pm_wl_n, pm_wl_c, pm_w] : pm_wl [] ≤ 8) (by decide +kernel)).trans ?_
  exact Iff.rfl
theorem r158_24 {d : Nat} {X : Nat × (Nat → Int)} {v : Nat → Int} {M : PH} {K : PV → PS → Prop} {l1 s0 : Int} (h1 : inR s0) : pm_Run d 158 24 [vA 0, vI l1] [vI s0] (GF X, M, PTF v) K ↔ if s0 ≠ 0 then pm_Run d 158 33 [vA 0, vI l1] [] (GF X, M, PTF v) K else pm_Run d 158 27 [vA 0, vI l1] [] (GF X, M, PTF v) K := by
  refine (ry_if_ne (off := 9) (tgt := 33) h1 (by decide +kernel)).trans ?_
  exact Iff.rfl
theorem r158_27 {d : Nat} {X : Nat × (Nat → Int)} {v : Nat → Int} {M : PH} {K : PV → PS → Prop} {l1 : Int} : pm_Run d 158 27 [vA 0, vI l1] [] (GF X, M, PTF v) K ↔ pm_Call d 164 [vA 0, vI 5] (GF X, M, PTF v) (fun r9 S1 => pm_Run d 158 32 [vA 0, vI l1] (pm_push r9 []) S1 K) := by
  refine (px_go (by decide +kernel : pm_fe 158 27 = some (.aload_n 0, 1)) rfl).trans ?_
  refine (px_go (by decide +kernel : pm_fe 158 28 = some (.iconst 5, 1)) rfl).trans ?_
  refine (ry_v1 (idx := 89) (m' := 164) (ci := 11) (by decide +kernel : 0 < 283 ∧ SHF 0 = (11, 13)) (by simp [pm_wl_n, pm_wl_c, pm_w] : pm_wl [] ≤ 8) (by decide +kernel)).trans ?_
  exact Iff.rfl
theorem r158_32 {d : Nat} {X : Nat × (Nat → Int)} {v : Nat → Int} {M : PH} {K : PV → PS → Prop} {l1 s0 : Int} : pm_Run d 158 32 [vA 0, vI l1] [vI s0] (GF X, M, PTF v) K ↔ K (vI s0) (GF X, M, PTF v) := by
  refine (px_ri (by decide +kernel)).trans ?_
  exact Iff.rfl
theorem r158_33 {d : Nat} {X : Nat × (Nat → Int)} {v : Nat → Int} {M : PH} {K : PV → PS → Prop} {l1 : Int} : pm_Run d 158 33 [vA 0, vI l1] [] (GF X, M, PTF v) K ↔ K (vI (M 91 7)) (GF X, M, PTF v) := by
  refine (px_go (by decide +kernel : pm_fe 158 33 = some (.aload_n 0, 1)) rfl).trans ?_
  refine (ry_get2 (idx := 64) (ci := 11) (k := 8) (by decide +kernel : 0 < 283 ∧ SHF 0 = (11, 13)) (ptf_l (a := 0) (k := 8) (n := 91) (by decide +kernel)) (by decide +kernel)).trans ?_
  refine (ry_get0 (idx := 344) (ci := 10) (k := 7) (by decide +kernel : 91 < 283 ∧ SHF 91 = (10, 11)) (by decide +kernel)).trans ?_
  refine (px_ri (by decide +kernel)).trans ?_
  exact Iff.rfl
-- X11_payers payers(I)I
theorem r159_0 {d : Nat} {X : Nat × (Nat → Int)} {v : Nat → Int} {M : PH} {K : PV → PS → Prop} {l1 : Int} (h1 : inR (M 91 7)) : pm_Run d 159 0 [vA 0, vI l1] [] (GF X, M, PTF v) K ↔ if M 91 7 = 0 then pm_Run d 159 19 [vA 0, vI l1] [] (GF X, M, PTF v) K else pm_Run d 159 10 [vA 0, vI l1] [] (GF X, M, PTF v) K := by
  refine (px_go (by decide +kernel : pm_fe 159 0 = some (.aload_n 0, 1)) rfl).trans ?_
  refine (ry_get2 (idx := 64) (ci := 11) (k := 8) (by decide +kernel : 0 < 283 ∧ SHF 0 = (11, 13)) (ptf_l (a := 0) (k := 8) (n := 91) (by decide +kernel)) (by decide +kernel)).trans ?_
  refine (ry_get0 (idx := 344) (ci := 10) (k := 7) (by decide +kernel : 91 < 283 ∧ SHF 91 = (10, 11)) (by decide +kernel)).trans ?_
  refine (ry_if_eq (off := 12) (tgt := 19) h1 (by decide +kernel)).trans ?_
  exact Iff.rfl
theorem r159_10 {d : Nat} {X : Nat × (Nat → Int)} {v : Nat → Int} {M : PH} {K : PV → PS → Prop} {l1 : Int} (h1 : inR l1) : pm_Run d 159 10 [vA 0, vI l1] [] (GF X, M, PTF v) K ↔ if l1 < 0 then pm_Run d 159 19 [vA 0, vI l1] [] (GF X, M, PTF v) K else pm_Run d 159 14 [vA 0, vI l1] [] (GF X, M, PTF v) K := by
  refine (px_go (by decide +kernel : pm_fe 159 10 = some (.iload_n 1, 1)) rfl).trans ?_
  refine (ry_if_lt (off := 8) (tgt := 19) h1 (by decide +kernel)).trans ?_
  exact Iff.rfl
theorem r159_14 {d : Nat} {X : Nat × (Nat → Int)} {v : Nat → Int} {M : PH} {K : PV → PS → Prop} {l1 : Int} (h1 : inR l1) : pm_Run d 159 14 [vA 0, vI l1] [] (GF X, M, PTF v) K ↔ if l1 ≤ 2 then pm_Run d 159 21 [vA 0, vI l1] [] (GF X, M, PTF v) K else pm_Run d 159 19 [vA 0, vI l1] [] (GF X, M, PTF v) K := by
  refine (px_go (by decide +kernel : pm_fe 159 14 = some (.iload_n 1, 1)) rfl).trans ?_
  refine (px_go (by decide +kernel : pm_fe 159 15 = some (.iconst 2, 1)) rfl).trans ?_
  refine (ry_ic_le (off := 5) (tgt := 21) h1 (by decide : (-2147483648 ≤ (2 : Int) ∧ (2 : Int) < 2147483648)) (by decide +kernel)).trans ?_
  exact Iff.rfl
theorem r159_19 {d : Nat} {X : Nat × (Nat → Int)} {v : Nat → Int} {M : PH} {K : PV → PS → Prop} {l1 : Int} : pm_Run d 159 19 [vA 0, vI l1] [] (GF X, M, PTF v) K ↔ K (vI (-1)) (GF X, M, PTF v) := by
  refine (px_go (by decide +kernel : pm_fe 159 19 = some (.iconst (-1), 1)) rfl).trans ?_
  refine (px_ri (by decide +kernel)).trans ?_
  exact Iff.rfl
theorem r159_21 {d : Nat} {X : Nat × (Nat → Int)} {v : Nat → Int} {M : PH} {K : PV → PS → Prop} {l1 : Int} : pm_Run d 159 21 [vA 0, vI l1] [] (GF X, M, PTF v) K ↔ pm_Call d 129 [vA 91] (GF X, M, PTF v) (fun r9 S1 => pm_Run d 159 28 [vA 0, vI l1] (pm_push r9 []) S1 K) := by
  refine (px_go (by decide +kernel : pm_fe 159 21 = some (.aload_n 0, 1)) rfl).trans ?_
  refine (ry_get2 (idx := 64) (ci := 11) (k := 8) (by decide +kernel : 0 < 283 ∧ SHF 0 = (11, 13)) (ptf_l (a := 0) (k := 8) (n := 91) (by decide +kernel)) (by decide +kernel)).trans ?_
  refine (ry_v0 (idx := 347) (m' := 129) (ci := 10) (by decide +kernel : 91 < 283 ∧ SHF 91 = (10, 11)) (by simp [pm_wl_n, pm_wl_c, pm_w] : pm_wl [] ≤ 8) (by decide +kernel)).trans ?_
  exact Iff.rfl
theorem r159_28 {d : Nat} {X : Nat × (Nat → Int)} {v : Nat → Int} {M : PH} {K : PV → PS → Prop} {l1 : Int} (h1 : inR l1) : pm_Run d 159 28 [vA 0, vI l1] [] (GF X, M, PTF v) K ↔ if l1 ≠ 0 then pm_Run d 159 40 [vA 0, vI l1] [] (GF X, M, PTF v) K else pm_Run d 159 32 [vA 0, vI l1] [] (GF X, M, PTF v) K := by
  refine (px_go (by decide +kernel : pm_fe 159 28 = some (.iload_n 1, 1)) rfl).trans ?_
  refine (ry_if_ne (off := 11) (tgt := 40) h1 (by decide +kernel)).trans ?_
  exact Iff.rfl
theorem r159_32 {d : Nat} {X : Nat × (Nat → Int)} {v : Nat → Int} {M : PH} {K : PV → PS → Prop} {l1 : Int} : pm_Run d 159 32 [vA 0, vI l1] [] (GF X, M, PTF v) K ↔ K (vI (M 91 8)) (GF X, M, PTF v) := by
  refine (px_go (by decide +kernel : pm_fe 159 32 = some (.aload_n 0, 1)) rfl).trans ?_
  refine (ry_get2 (idx := 64) (ci := 11) (k := 8) (by decide +kernel : 0 < 283 ∧ SHF 0 = (11, 13)) (ptf_l (a := 0) (k := 8) (n := 91) (by decide +kernel)) (by decide +kernel)).trans ?_
  refine (ry_get0 (idx := 350) (ci := 10) (k := 8) (by decide +kernel : 91 < 283 ∧ SHF 91 = (10, 11)) (by decide +kernel)).trans ?_
  refine (px_ri (by decide +kernel)).trans ?_
  exact Iff.rfl
theorem r159_40 {d : Nat} {X : Nat × (Nat → Int)} {v : Nat → Int} {M : PH} {K : PV → PS → Prop} {l1 : Int} (h1 : inR l1) : pm_Run d 159 40 [vA 0, vI l1] [] (GF X, M, PTF v) K ↔ if l1 ≠ 1 then pm_Run d 159 55 [vA 0, vI l1] [] (GF X, M, PTF v) K else pm_Run d 159 45 [vA 0, vI l1] [] (GF X, M, PTF v) K := by
  refine (px_go (by decide +kernel : pm_fe 159 40 = some (.iload_n 1, 1)) rfl).trans ?_
  refine (px_go (by decide +kernel : pm_fe 159 41 = some (.iconst 1, 1)) rfl).trans ?_
  refine (ry_ic_ne (off := 13) (tgt := 55) h1 (by decide : (-2147483648 ≤ (1 : Int) ∧ (1 : Int) < 2147483648)) (by decide +kernel)).trans ?_
  exact Iff.rfl
theorem r159_45 {d : Nat} {X : Nat × (Nat → Int)} {v : Nat → Int} {M : PH} {K : PV → PS → Prop} {l1 : Int} : pm_Run d 159 45 [vA 0, vI l1] [] (GF X, M, PTF v) K ↔ pm_Run d 159 62 [vA 0, vI l1] [vI (M 91 9)] (GF X, M, PTF v) K := by
  refine (px_go (by decide +kernel : pm_fe 159 45 = some (.aload_n 0, 1)) rfl).trans ?_
  refine (ry_get2 (idx := 64) (ci := 11) (k := 8) (by decide +kernel : 0 < 283 ∧ SHF 0 = (11, 13)) (ptf_l (a := 0) (k := 8) (n := 91) (by decide +kernel)) (by decide +kernel)).trans ?_
  refine (ry_get0 (idx := 353) (ci := 10) (k := 9) (by decide +kernel : 91 < 283 ∧ SHF 91 = (10, 11)) (by decide +kernel)).trans ?_
  refine (px_goto (off := 10) (tgt := 62) (by decide +kernel)).trans ?_
  exact Iff.rfl
theorem r159_55 {d : Nat} {X : Nat × (Nat → Int)} {v : Nat → Int} {M : PH} {K : PV → PS → Prop} {l1 : Int} : pm_Run d 159 55 [vA 0, vI l1] [] (GF X, M, PTF v) K ↔ pm_Run d 159 62 [vA 0, vI l1] [vI (M 91 10)] (GF X, M, PTF v) K := by
  refine (px_go (by decide +kernel : pm_fe 159 55 = some (.aload_n 0, 1)) rfl).trans ?_
  refine (ry_get2 (idx := 64) (ci := 11) (k := 8) (by decide +kernel : 0 < 283 ∧ SHF 0 = (11, 13)) (ptf_l (a := 0) (k := 8) (n := 91) (by decide +kernel)) (by decide +kernel)).trans ?_
  refine (ry_get0 (idx := 356) (ci := 10) (k := 10) (by decide +kernel : 91 < 283 ∧ SHF 91 = (10, 11)) (by decide +kernel)).trans ?_
  exact Iff.rfl
theorem r159_62 {d : Nat} {X : Nat × (Nat → Int)} {v : Nat → Int} {M : PH} {K : PV → PS → Prop} {l1 s0 : Int} : pm_Run d 159 62 [vA 0, vI l1] [vI s0] (GF X, M, PTF v) K ↔ K (vI s0) (GF X, M, PTF v) := by
  refine (px_ri (by decide +kernel)).trans ?_
  exact Iff.rfl
-- X11_image image()I
theorem r160_0 {d : Nat} {c : Nat} {X : Nat × (Nat → Int)} {v : Nat → Int} {M : PH} {K : PV → PS → Prop} (hc : isCh c) (hv0 : v 0 = ((c : Nat) : Int)) : pm_Run d 160 0 [vA 0] [] (GF X, M, PTF v) K ↔ pm_Call d 104 [vA 225, vA c, vA 3] (GF X, M, PTF v) (fun r9 S1 => pm_Run d 160 15 [vA 0] (pm_push r9 []) S1 K) := by
  refine (px_go (by decide +kernel : pm_fe 160 0 = some (.aload_n 0, 1)) rfl).trans ?_
  refine (ry_get2 (idx := 78) (ci := 11) (k := 10) (by decide +kernel : 0 < 283 ∧ SHF 0 = (11, 13)) (ptf_l (a := 0) (k := 10) (n := 225) (by decide +kernel)) (by decide +kernel)).trans ?_
  refine (px_go (by decide +kernel : pm_fe 160 4 = some (.aload_n 0, 1)) rfl).trans ?_
  refine (ry_get2 (idx := 27) (ci := 11) (k := 3) (by decide +kernel : 0 < 283 ∧ SHF 0 = (11, 13)) (ptd0 hv0) (by decide +kernel)).trans ?_
  refine (px_go (by decide +kernel : pm_fe 160 8 = some (.aload_n 0, 1)) rfl).trans ?_
  refine (ry_get2 (idx := 20) (ci := 11) (k := 2) (by decide +kernel : 0 < 283 ∧ SHF 0 = (11, 13)) (ptf_l (a := 0) (k := 2) (n := 3) (by decide +kernel)) (by decide +kernel)).trans ?_
  refine (ry_v2 (idx := 359) (m' := 104) (ci := 8) (by decide +kernel : 225 < 283 ∧ SHF 225 = (8, 6)) (by simp [pm_wl_n, pm_wl_c, pm_w] : pm_wl [] ≤ 8) (by decide +kernel)).trans ?_
  exact Iff.rfl
theorem r160_15 {d : Nat} {X : Nat × (Nat → Int)} {v : Nat → Int} {M : PH} {K : PV → PS → Prop} : pm_Run d 160 15 [vA 0] [] (GF X, M, PTF v) K ↔ K (vI (M 225 2)) (GF X, M, PTF v) := by
  refine (px_go (by decide +kernel : pm_fe 160 15 = some (.aload_n 0, 1)) rfl).trans ?_
  refine (ry_get2 (idx := 78) (ci := 11) (k := 10) (by decide +kernel : 0 < 283 ∧ SHF 0 = (11, 13)) (ptf_l (a := 0) (k := 10) (n := 225) (by decide +kernel)) (by decide +kernel)).trans ?_
  refine (ry_get0 (idx := 362) (ci := 8) (k := 2) (by decide +kernel : 225 < 283 ∧ SHF 225 = (8, 6)) (by decide +kernel)).trans ?_
  refine (px_ri (by decide +kernel)).trans ?_
  exact Iff.rfl
-- X11_octet octet(I)I
theorem r161_0 {d : Nat} {X : Nat × (Nat → Int)} {v : Nat → Int} {M : PH} {K : PV → PS → Prop} {l1 : Int} (h1 : inR l1) : pm_Run d 161 0 [vA 0, vI l1] [] (GF X, M, PTF v) K ↔ if l1 < 0 then pm_Run d 161 31 [vA 0, vI l1] [] (GF X, M, PTF v) K else pm_Run d 161 4 [vA 0, vI l1] [] (GF X, M, PTF v) K := by
  refine (px_go (by decide +kernel : pm_fe 161 0 = some (.iload_n 1, 1)) rfl).trans ?_
  refine (ry_if_lt (off := 30) (tgt := 31) h1 (by decide +kernel)).trans ?_
  exact Iff.rfl
theorem r161_4 {d : Nat} {X : Nat × (Nat → Int)} {v : Nat → Int} {M : PH} {K : PV → PS → Prop} {l1 : Int} (h1 : inR l1) (h2 : inR (M 225 2)) : pm_Run d 161 4 [vA 0, vI l1] [] (GF X, M, PTF v) K ↔ if M 225 2 ≤ l1 then pm_Run d 161 31 [vA 0, vI l1] [] (GF X, M, PTF v) K else pm_Run d 161 15 [vA 0, vI l1] [] (GF X, M, PTF v) K := by
  refine (px_go (by decide +kernel : pm_fe 161 4 = some (.iload_n 1, 1)) rfl).trans ?_
  refine (px_go (by decide +kernel : pm_fe 161 5 = some (.aload_n 0, 1)) rfl).trans ?_
  refine (ry_get2 (idx := 78) (ci := 11) (k := 10) (by decide +kernel : 0 < 283 ∧ SHF 0 = (11, 13)) (ptf_l (a := 0) (k := 10) (n := 225) (by decide +kernel)) (by decide +kernel)).trans ?_
  refine (ry_get0 (idx := 362) (ci := 8) (k := 2) (by decide +kernel : 225 < 283 ∧ SHF 225 = (8, 6)) (by decide +kernel)).trans ?_
  refine (ry_ic_ge (off := 19) (tgt := 31) h1 h2 (by decide +kernel)).trans ?_
  exact Iff.rfl
theorem r161_15 {d : Nat} {X : Nat × (Nat → Int)} {v : Nat → Int} {M : PH} {K : PV → PS → Prop} {l1 : Int} (h1 : 0 ≤ l1) (h2 : l1 < 97) : pm_Run d 161 15 [vA 0, vI l1] [] (GF X, M, PTF v) K ↔ pm_Run d 161 32 [vA 0, vI l1] [vI (pm_and (M 226 l1.toNat) 255)] (GF X, M, PTF v) K := by
  refine (px_go (by decide +kernel : pm_fe 161 15 = some (.aload_n 0, 1)) rfl).trans ?_
  refine (ry_get2 (idx := 78) (ci := 11) (k := 10) (by decide +kernel : 0 < 283 ∧ SHF 0 = (11, 13)) (ptf_l (a := 0) (k := 10) (n := 225) (by decide +kernel)) (by decide +kernel)).trans ?_
  refine (ry_get2 (idx := 365) (ci := 8) (k := 0) (by decide +kernel : 225 < 283 ∧ SHF 225 = (8, 6)) (ptf_l (a := 225) (k := 0) (n := 226) (by decide +kernel)) (by decide +kernel)).trans ?_
  refine (px_go (by decide +kernel : pm_fe 161 22 = some (.iload_n 1, 1)) rfl).trans ?_
  refine (ry_bald (by decide +kernel : 226 < 283 ∧ SHF 226 = (101, 97)) h1 h2 (by decide +kernel)).trans ?_
  refine (px_go (by decide +kernel : pm_fe 161 24 = some (.sipush 255, 3)) rfl).trans ?_
  refine (px_go (by decide +kernel : pm_fe 161 27 = some (.iand, 1)) rfl).trans ?_
  refine (px_goto (off := 4) (tgt := 32) (by decide +kernel)).trans ?_
  exact Iff.rfl
theorem r161_31 {d : Nat} {X : Nat × (Nat → Int)} {v : Nat → Int} {M : PH} {K : PV → PS → Prop} {l1 : Int} : pm_Run d 161 31 [vA 0, vI l1] [] (GF X, M, PTF v) K ↔ pm_Run d 161 32 [vA 0, vI l1] [vI (-1)] (GF X, M, PTF v) K := by
  refine (px_go (by decide +kernel : pm_fe 161 31 = some (.iconst (-1), 1)) rfl).trans ?_
  exact Iff.rfl
theorem r161_32 {d : Nat} {X : Nat × (Nat → Int)} {v : Nat → Int} {M : PH} {K : PV → PS → Prop} {l1 s0 : Int} : pm_Run d 161 32 [vA 0, vI l1] [vI s0] (GF X, M, PTF v) K ↔ K (vI s0) (GF X, M, PTF v) := by
  refine (px_ri (by decide +kernel)).trans ?_
  exact Iff.rfl
-- X11_on on()Z
theorem r162_0 {d : Nat} {X : Nat × (Nat → Int)} {v : Nat → Int} {M : PH} {K : PV → PS → Prop} : pm_Run d 162 0 [vA 0, PU] [] (GF X, M, PTF v) K ↔ pm_Call d 166 [vA 0] (GF X, M, PTF v) (fun r9 S1 => pm_Run d 162 4 [vA 0, PU] (pm_push r9 []) S1 K) := by
  refine (px_go (by decide +kernel : pm_fe 162 0 = some (.aload_n 0, 1)) rfl).trans ?_
  refine (ry_v0 (idx := 97) (m' := 166) (ci := 11) (by decide +kernel : 0 < 283 ∧ SHF 0 = (11, 13)) (by simp [pm_wl_n, pm_wl_c, pm_w] : pm_wl [] ≤ 8) (by decide +kernel)).trans ?_
  exact Iff.rfl
theorem r162_4 {d : Nat} {X : Nat × (Nat → Int)} {v : Nat → Int} {M : PH} {K : PV → PS → Prop} {s0 : Int} : pm_Run d 162 4 [vA 0, PU] [vI s0] (GF X, M, PTF v) K ↔ pm_Call d 168 [vA 0] (GF X, M, PTF v) (fun r9 S1 => pm_Run d 162 9 [vA 0, vI s0] (pm_push r9 []) S1 K) := by
  refine (px_go (by decide +kernel : pm_fe 162 4 = some (.istore_n 1, 1)) rfl).trans ?_
  refine (px_go (by decide +kernel : pm_fe 162 5 = some (.aload_n 0, 1)) rfl).trans ?_
  refine (ry_v0 (idx := 309) (m' := 168) (ci := 11) (by decide +kernel : 0 < 283 ∧ SHF 0 = (11, 13)) (by simp [pm_wl_n, pm_wl_c, pm_w] : pm_wl [] ≤ 8) (by decide +kernel)).trans ?_
  exact Iff.rfl
theorem r162_9 {d : Nat} {X : Nat × (Nat → Int)} {v : Nat → Int} {M : PH} {K : PV → PS → Prop} {l1 s0 : Int} (h1 : inR s0) : pm_Run d 162 9 [vA 0, vI l1] [vI s0] (GF X, M, PTF v) K ↔ if s0 = 0 then pm_Run d 162 31 [vA 0, vI l1] [] (GF X, M, PTF v) K else pm_Run d 162 12 [vA 0, vI l1] [] (GF X, M, PTF v) K := by
  refine (ry_if_eq (off := 22) (tgt := 31) h1 (by decide +kernel)).trans ?_
  exact Iff.rfl
theorem r162_12 {d : Nat} {c : Nat} {X : Nat × (Nat → Int)} {v : Nat → Int} {M : PH} {K : PV → PS → Prop} {l1 : Int} (hc : isCh c) (hv0 : v 0 = ((c : Nat) : Int)) : pm_Run d 162 12 [vA 0, vI l1] [] (GF X, M, PTF v) K ↔ pm_Call d 105 [vA 225, vA c, vA 1, vI l1] (GF X, M, PTF v) (fun r9 S1 => pm_Run d 162 28 [vA 0, vI l1] (pm_push r9 []) S1 K) := by
  refine (px_go (by decide +kernel : pm_fe 162 12 = some (.aload_n 0, 1)) rfl).trans ?_
  refine (ry_get2 (idx := 78) (ci := 11) (k := 10) (by decide +kernel : 0 < 283 ∧ SHF 0 = (11, 13)) (ptf_l (a := 0) (k := 10) (n := 225) (by decide +kernel)) (by decide +kernel)).trans ?_
  refine (px_go (by decide +kernel : pm_fe 162 16 = some (.aload_n 0, 1)) rfl).trans ?_
  refine (ry_get2 (idx := 27) (ci := 11) (k := 3) (by decide +kernel : 0 < 283 ∧ SHF 0 = (11, 13)) (ptd0 hv0) (by decide +kernel)).trans ?_
  refine (px_go (by decide +kernel : pm_fe 162 20 = some (.aload_n 0, 1)) rfl).trans ?_
  refine (ry_get2 (idx := 9) (ci := 11) (k := 0) (by decide +kernel : 0 < 283 ∧ SHF 0 = (11, 13)) (ptf_l (a := 0) (k := 0) (n := 1) (by decide +kernel)) (by decide +kernel)).trans ?_
  refine (px_go (by decide +kernel : pm_fe 162 24 = some (.iload_n 1, 1)) rfl).trans ?_
  refine (ry_v3 (idx := 368) (m' := 105) (ci := 8) (by decide +kernel : 225 < 283 ∧ SHF 225 = (8, 6)) (by simp [pm_wl_n, pm_wl_c, pm_w] : pm_wl [] ≤ 8) (by decide +kernel)).trans ?_
  exact Iff.rfl
theorem r162_28 {d : Nat} {X : Nat × (Nat → Int)} {v : Nat → Int} {M : PH} {K : PV → PS → Prop} {l1 s0 : Int} (h1 : inR s0) : pm_Run d 162 28 [vA 0, vI l1] [vI s0] (GF X, M, PTF v) K ↔ if s0 ≠ 0 then pm_Run d 162 46 [vA 0, vI l1] [] (GF X, M, PTF v) K else pm_Run d 162 31 [vA 0, vI l1] [] (GF X, M, PTF v) K := by
  refine (ry_if_ne (off := 18) (tgt := 46) h1 (by decide +kernel)).trans ?_
  exact Iff.rfl
theorem r162_31 {d : Nat} {X : Nat × (Nat → Int)} {v : Nat → Int} {M : PH} {K : PV → PS → Prop} {l1 : Int} : pm_Run d 162 31 [vA 0, vI l1] [] (GF X, M, PTF v) K ↔ pm_Call d 164 [vA 0, vI 5] (GF X, M, PTF v) (fun r9 S1 => pm_Run d 162 36 [vA 0, vI l1] (pm_push r9 []) S1 K) := by
  refine (px_go (by decide +kernel : pm_fe 162 31 = some (.aload_n 0, 1)) rfl).trans ?_
  refine (px_go (by decide +kernel : pm_fe 162 32 = some (.iconst 5, 1)) rfl).trans ?_
  refine (ry_v1 (idx := 89) (m' := 164) (ci := 11) (by decide +kernel : 0 < 283 ∧ SHF 0 = (11, 13)) (by simp [pm_wl_n, pm_wl_c, pm_w] : pm_wl [] ≤ 8) (by decide +kernel)).trans ?_
  exact Iff.rfl
theorem r162_36 {d : Nat} {X : Nat × (Nat → Int)} {v : Nat → Int} {M : PH} {K : PV → PS → Prop} {l1 s0 : Int} (h1 : inR s0) : pm_Run d 162 36 [vA 0, vI l1] [vI s0] (GF X, M, PTF v) K ↔ if s0 = (-1) then pm_Run d 162 44 [vA 0, vI l1] [] (GF X, M, PTF v) K else pm_Run d 162 40 [vA 0, vI l1] [] (GF X, M, PTF v) K := by
  refine (px_go (by decide +kernel : pm_fe 162 36 = some (.iconst (-1), 1)) rfl).trans ?_
  refine (ry_ic_eq (off := 7) (tgt := 44) h1 (by decide : (-2147483648 ≤ ((-1) : Int) ∧ ((-1) : Int) < 2147483648)) (by decide +kernel)).trans ?_
  exact Iff.rfl
theorem r162_40 {d : Nat} {X : Nat × (Nat → Int)} {v : Nat → Int} {M : PH} {K : PV → PS → Prop} {l1 : Int} : pm_Run d 162 40 [vA 0, vI l1] [] (GF X, M, PTF v) K ↔ pm_Run d 162 45 [vA 0, vI l1] [vI 1] (GF X, M, PTF v) K := by
  refine (px_go (by decide +kernel : pm_fe 162 40 = some (.iconst 1, 1)) rfl).trans ?_
  refine (px_goto (off := 4) (tgt := 45) (by decide +kernel)).trans ?_
  exact Iff.rfl
theorem r162_44 {d : Nat} {X : Nat × (Nat → Int)} {v : Nat → Int} {M : PH} {K : PV → PS → Prop} {l1 : Int} : pm_Run d 162 44 [vA 0, vI l1] [] (GF X, M, PTF v) K ↔ pm_Run d 162 45 [vA 0, vI l1] [vI 0] (GF X, M, PTF v) K := by
  refine (px_go (by decide +kernel : pm_fe 162 44 = some (.iconst 0, 1)) rfl).trans ?_
  exact Iff.rfl
theorem r162_45 {d : Nat} {X : Nat × (Nat → Int)} {v : Nat → Int} {M : PH} {K : PV → PS → Prop} {l1 s0 : Int} (h1 : s0 = 0 ∨ s0 = 1) : pm_Run d 162 45 [vA 0, vI l1] [vI s0] (GF X, M, PTF v) K ↔ K (vI s0) (GF X, M, PTF v) := by
  refine (px_rz (by decide +kernel)).trans ((and_iff_right h1).trans ?_)
  exact Iff.rfl
theorem r162_46 {d : Nat} {X : Nat × (Nat → Int)} {v : Nat → Int} {M : PH} {K : PV → PS → Prop} {l1 : Int} : pm_Run d 162 46 [vA 0, vI l1] [] (GF X, M, PTF v) K ↔ pm_Call d 56 [vA 3, vA 227] (GF X, M, PTF v) (fun r9 S1 => pm_Run d 162 60 [vA 0, vI l1] (pm_push r9 []) S1 K) := by
  refine (px_go (by decide +kernel : pm_fe 162 46 = some (.aload_n 0, 1)) rfl).trans ?_
  refine (ry_get2 (idx := 20) (ci := 11) (k := 2) (by decide +kernel : 0 < 283 ∧ SHF 0 = (11, 13)) (ptf_l (a := 0) (k := 2) (n := 3) (by decide +kernel)) (by decide +kernel)).trans ?_
  refine (px_go (by decide +kernel : pm_fe 162 50 = some (.aload_n 0, 1)) rfl).trans ?_
  refine (ry_get2 (idx := 78) (ci := 11) (k := 10) (by decide +kernel : 0 < 283 ∧ SHF 0 = (11, 13)) (ptf_l (a := 0) (k := 10) (n := 225) (by decide +kernel)) (by decide +kernel)).trans ?_
  refine (ry_get2 (idx := 372) (ci := 8) (k := 1) (by decide +kernel : 225 < 283 ∧ SHF 225 = (8, 6)) (ptf_l (a := 225) (k := 1) (n := 227) (by decide +kernel)) (by decide +kernel)).trans ?_
  refine (ry_v1 (idx := 112) (m' := 56) (ci := 5) (by decide +kernel : 3 < 283 ∧ SHF 3 = (5, 6)) (by simp [pm_wl_n, pm_wl_c, pm_w] : pm_wl [] ≤ 8) (by decide +kernel)).trans ?_
  exact Iff.rfl
theorem r162_60 {d : Nat} {X : Nat × (Nat → Int)} {v : Nat → Int} {M : PH} {K : PV → PS → Prop} {l1 : Int} : pm_Run d 162 60 [vA 0, vI l1] [] (GF X, M, PTF v) K ↔ pm_Call d 100 [vA 103] (GF X, M, PTF v) (fun r9 S1 => pm_Run d 162 67 [vA 0, vI l1] (pm_push r9 []) S1 K) := by
  refine (px_go (by decide +kernel : pm_fe 162 60 = some (.aload_n 0, 1)) rfl).trans ?_
  refine (ry_get2 (idx := 71) (ci := 11) (k := 9) (by decide +kernel : 0 < 283 ∧ SHF 0 = (11, 13)) (ptf_l (a := 0) (k := 9) (n := 103) (by decide +kernel)) (by decide +kernel)).trans ?_
  refine (ry_v0 (idx := 116) (m' := 100) (ci := 7) (by decide +kernel : 103 < 283 ∧ SHF 103 = (7, 3)) (by simp [pm_wl_n, pm_wl_c, pm_w] : pm_wl [] ≤ 8) (by decide +kernel)).trans ?_
  exact Iff.rfl
theorem r162_67 {d : Nat} {X : Nat × (Nat → Int)} {v : Nat → Int} {M : PH} {K : PV → PS → Prop} {l1 : Int} : pm_Run d 162 67 [vA 0, vI l1] [] (GF X, M, PTF v) K ↔ pm_Call d 167 [vA 0] (GF X, M, PTF v) (fun r9 S1 => pm_Run d 162 71 [vA 0, vI l1] (pm_push r9 []) S1 K) := by
  refine (px_go (by decide +kernel : pm_fe 162 67 = some (.aload_n 0, 1)) rfl).trans ?_
  refine (ry_v0 (idx := 120) (m' := 167) (ci := 11) (by decide +kernel : 0 < 283 ∧ SHF 0 = (11, 13)) (by simp [pm_wl_n, pm_wl_c, pm_w] : pm_wl [] ≤ 8) (by decide +kernel)).trans ?_
  exact Iff.rfl
theorem r162_71 {d : Nat} {X : Nat × (Nat → Int)} {v : Nat → Int} {M : PH} {K : PV → PS → Prop} {l1 : Int} : pm_Run d 162 71 [vA 0, vI l1] [] (GF X, M, PTF v) K ↔ K (vI 1) (GF X, M, PTF v) := by
  refine (px_go (by decide +kernel : pm_fe 162 71 = some (.iconst 1, 1)) rfl).trans ?_
  refine (px_rz (by decide +kernel)).trans ((and_iff_right (by decide : (1 : Int) = (0 : Int) ∨ (1 : Int) = (1 : Int))).trans ?_)
  exact Iff.rfl
-- X11_status status(I)I
theorem r163_0 {d : Nat} {X : Nat × (Nat → Int)} {v : Nat → Int} {M : PH} {K : PV → PS → Prop} {l1 : Int} (h1 : inR l1) : pm_Run d 163 0 [vA 0, vI l1] [] (GF X, M, PTF v) K ↔ if l1 < 0 then pm_Run d 163 22 [vA 0, vI l1] [] (GF X, M, PTF v) K else pm_Run d 163 4 [vA 0, vI l1] [] (GF X, M, PTF v) K := by
  refine (px_go (by decide +kernel : pm_fe 163 0 = some (.iload_n 1, 1)) rfl).trans ?_
  refine (ry_if_lt (off := 21) (tgt := 22) h1 (by decide +kernel)).trans ?_
  exact Iff.rfl
theorem r163_4 {d : Nat} {X : Nat × (Nat → Int)} {v : Nat → Int} {M : PH} {K : PV → PS → Prop} {l1 : Int} (h1 : inR l1) : pm_Run d 163 4 [vA 0, vI l1] [] (GF X, M, PTF v) K ↔ if 6 ≤ l1 then pm_Run d 163 22 [vA 0, vI l1] [] (GF X, M, PTF v) K else pm_Run d 163 13 [vA 0, vI l1] [] (GF X, M, PTF v) K := by
  refine (px_go (by decide +kernel : pm_fe 163 4 = some (.iload_n 1, 1)) rfl).trans ?_
  refine (px_go (by decide +kernel : pm_fe 163 5 = some (.aload_n 0, 1)) rfl).trans ?_
  refine (ry_get2 (idx := 13) (ci := 11) (k := 1) (by decide +kernel : 0 < 283 ∧ SHF 0 = (11, 13)) (ptf_l (a := 0) (k := 1) (n := 2) (by decide +kernel)) (by decide +kernel)).trans ?_
  refine (ry_alen (by decide +kernel : 2 < 283 ∧ SHF 2 = (100, 6)) (by decide) (by decide +kernel)).trans ?_
  refine (ry_ic_ge (off := 12) (tgt := 22) h1 (by decide : (-2147483648 ≤ (6 : Int) ∧ (6 : Int) < 2147483648)) (by decide +kernel)).trans ?_
  exact Iff.rfl
theorem r163_13 {d : Nat} {X : Nat × (Nat → Int)} {v : Nat → Int} {M : PH} {K : PV → PS → Prop} {l1 : Int} (h1 : 0 ≤ l1) (h2 : l1 < 6) : pm_Run d 163 13 [vA 0, vI l1] [] (GF X, M, PTF v) K ↔ pm_Run d 163 23 [vA 0, vI l1] [vI (M 2 l1.toNat)] (GF X, M, PTF v) K := by
  refine (px_go (by decide +kernel : pm_fe 163 13 = some (.aload_n 0, 1)) rfl).trans ?_
  refine (ry_get2 (idx := 13) (ci := 11) (k := 1) (by decide +kernel : 0 < 283 ∧ SHF 0 = (11, 13)) (ptf_l (a := 0) (k := 1) (n := 2) (by decide +kernel)) (by decide +kernel)).trans ?_
  refine (px_go (by decide +kernel : pm_fe 163 17 = some (.iload_n 1, 1)) rfl).trans ?_
  refine (ry_iald (by decide +kernel : 2 < 283 ∧ SHF 2 = (100, 6)) h1 h2 (by decide +kernel)).trans ?_
  refine (px_goto (off := 4) (tgt := 23) (by decide +kernel)).trans ?_
  exact Iff.rfl
theorem r163_22 {d : Nat} {X : Nat × (Nat → Int)} {v : Nat → Int} {M : PH} {K : PV → PS → Prop} {l1 : Int} : pm_Run d 163 22 [vA 0, vI l1] [] (GF X, M, PTF v) K ↔ pm_Run d 163 23 [vA 0, vI l1] [vI (-1)] (GF X, M, PTF v) K := by
  refine (px_go (by decide +kernel : pm_fe 163 22 = some (.iconst (-1), 1)) rfl).trans ?_
  exact Iff.rfl
theorem r163_23 {d : Nat} {X : Nat × (Nat → Int)} {v : Nat → Int} {M : PH} {K : PV → PS → Prop} {l1 s0 : Int} : pm_Run d 163 23 [vA 0, vI l1] [vI s0] (GF X, M, PTF v) K ↔ K (vI s0) (GF X, M, PTF v) := by
  refine (px_ri (by decide +kernel)).trans ?_
  exact Iff.rfl
-- X11_refusal refusal(I)I
theorem r164_0 {d : Nat} {X : Nat × (Nat → Int)} {v : Nat → Int} {M : PH} {K : PV → PS → Prop} {l1 : Int} (h1 : inR l1) : pm_Run d 164 0 [vA 0, vI l1] [] (GF X, M, PTF v) K ↔ if l1 < 0 then pm_Run d 164 23 [vA 0, vI l1] [] (GF X, M, PTF v) K else pm_Run d 164 4 [vA 0, vI l1] [] (GF X, M, PTF v) K := by
  refine (px_go (by decide +kernel : pm_fe 164 0 = some (.iload_n 1, 1)) rfl).trans ?_
  refine (ry_if_lt (off := 22) (tgt := 23) h1 (by decide +kernel)).trans ?_
  exact Iff.rfl
theorem r164_4 {d : Nat} {X : Nat × (Nat → Int)} {v : Nat → Int} {M : PH} {K : PV → PS → Prop} {l1 : Int} (h1 : inR l1) : pm_Run d 164 4 [vA 0, vI l1] [] (GF X, M, PTF v) K ↔ if 6 ≤ l1 then pm_Run d 164 23 [vA 0, vI l1] [] (GF X, M, PTF v) K else pm_Run d 164 13 [vA 0, vI l1] [] (GF X, M, PTF v) K := by
  refine (px_go (by decide +kernel : pm_fe 164 4 = some (.iload_n 1, 1)) rfl).trans ?_
  refine (px_go (by decide +kernel : pm_fe 164 5 = some (.aload_n 0, 1)) rfl).trans ?_
  refine (ry_get2 (idx := 13) (ci := 11) (k := 1) (by decide +kernel : 0 < 283 ∧ SHF 0 = (11, 13)) (ptf_l (a := 0) (k := 1) (n := 2) (by decide +kernel)) (by decide +kernel)).trans ?_
  refine (ry_alen (by decide +kernel : 2 < 283 ∧ SHF 2 = (100, 6)) (by decide) (by decide +kernel)).trans ?_
  refine (ry_ic_ge (off := 13) (tgt := 23) h1 (by decide : (-2147483648 ≤ (6 : Int) ∧ (6 : Int) < 2147483648)) (by decide +kernel)).trans ?_
  exact Iff.rfl
theorem r164_13 {d : Nat} {X : Nat × (Nat → Int)} {v : Nat → Int} {M : PH} {K : PV → PS → Prop} {l1 : Int} (h1 : 0 ≤ l1) (h2 : l1 < 6) : pm_Run d 164 13 [vA 0, vI l1] [] (GF X, M, PTF v) K ↔ pm_Run d 164 23 [vA 0, vI l1] [] (GF X, pm_sa M 2 (pm_up (M 2) l1.toNat ((M 2 l1.toNat) + 1)), PTF v) K := by
  refine (px_go (by decide +kernel : pm_fe 164 13 = some (.aload_n 0, 1)) rfl).trans ?_
  refine (ry_get2 (idx := 13) (ci := 11) (k := 1) (by decide +kernel : 0 < 283 ∧ SHF 0 = (11, 13)) (ptf_l (a := 0) (k := 1) (n := 2) (by decide +kernel)) (by decide +kernel)).trans ?_
  refine (px_go (by decide +kernel : pm_fe 164 17 = some (.iload_n 1, 1)) rfl).trans ?_
  refine (px_go (by decide +kernel : pm_fe 164 18 = some (.dup2, 1)) rfl).trans ?_
  refine (ry_iald (by decide +kernel : 2 < 283 ∧ SHF 2 = (100, 6)) h1 h2 (by decide +kernel)).trans ?_
  refine (px_go (by decide +kernel : pm_fe 164 20 = some (.iconst 1, 1)) rfl).trans ?_
  refine (px_go (by decide +kernel : pm_fe 164 21 = some (.iadd, 1)) rfl).trans ?_
  refine (ry_iast (by decide +kernel : 2 < 283 ∧ SHF 2 = (100, 6)) h1 h2 (by decide +kernel)).trans ?_
  exact Iff.rfl
theorem r164_23 {d : Nat} {X : Nat × (Nat → Int)} {v : Nat → Int} {M : PH} {K : PV → PS → Prop} {l1 : Int} : pm_Run d 164 23 [vA 0, vI l1] [] (GF X, M, PTF v) K ↔ K (vI (-1)) (GF X, M, PTF v) := by
  refine (px_go (by decide +kernel : pm_fe 164 23 = some (.iconst (-1), 1)) rfl).trans ?_
  refine (px_ri (by decide +kernel)).trans ?_
  exact Iff.rfl
-- X11_append append(I)V
theorem r165_0 {d : Nat} {X : Nat × (Nat → Int)} {v : Nat → Int} {M : PH} {K : PV → PS → Prop} {l1 : Int} : pm_Run d 165 0 [vA 0, vI l1, PU] [] (GF X, M, PTF v) K ↔ pm_Run d 165 3 [vA 0, vI l1, vI 24] [] (GF X, M, PTF v) K := by
  refine (px_go (by decide +kernel : pm_fe 165 0 = some (.bipush 24, 2)) rfl).trans ?_
  refine (px_go (by decide +kernel : pm_fe 165 2 = some (.istore_n 2, 1)) rfl).trans ?_
  exact Iff.rfl
theorem r165_3 {d : Nat} {X : Nat × (Nat → Int)} {v : Nat → Int} {M : PH} {K : PV → PS → Prop} {l1 l2 : Int} (h1 : inR l2) : pm_Run d 165 3 [vA 0, vI l1, vI l2] [] (GF X, M, PTF v) K ↔ if l2 < 0 then pm_Run d 165 46 [vA 0, vI l1, vI l2] [] (GF X, M, PTF v) K else pm_Run d 165 7 [vA 0, vI l1, vI l2] [] (GF X, M, PTF v) K := by
  refine (px_go (by decide +kernel : pm_fe 165 3 = some (.iload_n 2, 1)) rfl).trans ?_
  refine (ry_if_lt (off := 42) (tgt := 46) h1 (by decide +kernel)).trans ?_
  exact Iff.rfl
theorem r165_7 {d : Nat} {X : Nat × (Nat → Int)} {v : Nat → Int} {M : PH} {K : PV → PS → Prop} {l1 l2 : Int} (h1 : inR (M 0 11)) : pm_Run d 165 7 [vA 0, vI l1, vI l2] [] (GF X, M, PTF v) K ↔ if 1600 ≤ M 0 11 then pm_Run d 165 40 [vA 0, vI l1, vI l2] [] (GF X, M, PTF v) K else pm_Run d 165 17 [vA 0, vI l1, vI l2] [] (GF X, M, PTF v) K := by
  refine (px_go (by decide +kernel : pm_fe 165 7 = some (.aload_n 0, 1)) rfl).trans ?_
  refine (ry_get0 (idx := 86) (ci := 11) (k := 11) (by decide +kernel : 0 < 283 ∧ SHF 0 = (11, 13)) (by decide +kernel)).trans ?_
  refine (px_go (by decide +kernel : pm_fe 165 11 = some (.sipush 1600, 3)) rfl).trans ?_
  refine (ry_ic_ge (off := 26) (tgt := 40) h1 (by decide : (-2147483648 ≤ (1600 : Int) ∧ (1600 : Int) < 2147483648)) (by decide +kernel)).trans ?_
  exact Iff.rfl
theorem r165_17 {d : Nat} {X : Nat × (Nat → Int)} {v : Nat → Int} {M : PH} {K : PV → PS → Prop} {l1 l2 : Int} (h1 : 0 ≤ (M 0 11)) (h2 : (M 0 11) < 1600) : pm_Run d 165 17 [vA 0, vI l1, vI l2] [] (GF X, M, PTF v) K ↔ pm_Run d 165 30 [vA 0, vI l1, vI l2] [] (GF X, pm_sa M 1 (pm_up (M 1) (M 0 11).toNat (pm_b8 (pm_b8 (pm_shr l1 l2)))), PTF v) K := by
  refine (px_go (by decide +kernel : pm_fe 165 17 = some (.aload_n 0, 1)) rfl).trans ?_
  refine (ry_get2 (idx := 9) (ci := 11) (k := 0) (by decide +kernel : 0 < 283 ∧ SHF 0 = (11, 13)) (ptf_l (a := 0) (k := 0) (n := 1) (by decide +kernel)) (by decide +kernel)).trans ?_
  refine (px_go (by decide +kernel : pm_fe 165 21 = some (.aload_n 0, 1)) rfl).trans ?_
  refine (ry_get0 (idx := 86) (ci := 11) (k := 11) (by decide +kernel : 0 < 283 ∧ SHF 0 = (11, 13)) (by decide +kernel)).trans ?_
  refine (px_go (by decide +kernel : pm_fe 165 25 = some (.iload_n 1, 1)) rfl).trans ?_
  refine (px_go (by decide +kernel : pm_fe 165 26 = some (.iload_n 2, 1)) rfl).trans ?_
  refine (px_go (by decide +kernel : pm_fe 165 27 = some (.ishr, 1)) rfl).trans ?_
  refine (px_go (by decide +kernel : pm_fe 165 28 = some (.i2b, 1)) rfl).trans ?_
  refine (ry_bast (by decide +kernel : 1 < 283 ∧ SHF 1 = (101, 1600)) h1 h2 (by decide +kernel)).trans ?_
  exact Iff.rfl
theorem r165_30 {d : Nat} {X : Nat × (Nat → Int)} {v : Nat → Int} {M : PH} {K : PV → PS → Prop} {l1 l2 : Int} : pm_Run d 165 30 [vA 0, vI l1, vI l2] [] (GF X, M, PTF v) K ↔ pm_Run d 165 40 [vA 0, vI l1, vI l2] [] (GF X, pm_sa M 0 (pm_up (M 0) 11 ((M 0 11) + 1)), PTF v) K := by
  refine (px_go (by decide +kernel : pm_fe 165 30 = some (.aload_n 0, 1)) rfl).trans ?_
  refine (px_go (by decide +kernel : pm_fe 165 31 = some (.dup, 1)) rfl).trans ?_
  refine (ry_get0 (idx := 86) (ci := 11) (k := 11) (by decide +kernel : 0 < 283 ∧ SHF 0 = (11, 13)) (by decide +kernel)).trans ?_
  refine (px_go (by decide +kernel : pm_fe 165 35 = some (.iconst 1, 1)) rfl).trans ?_
  refine (px_go (by decide +kernel : pm_fe 165 36 = some (.iadd, 1)) rfl).trans ?_
  refine (ry_put0 (idx := 86) (ci := 11) (k := 11) (by decide +kernel : 0 < 283 ∧ SHF 0 = (11, 13)) (by decide +kernel)).trans ?_
  exact Iff.rfl
theorem r165_40 {d : Nat} {X : Nat × (Nat → Int)} {v : Nat → Int} {M : PH} {K : PV → PS → Prop} {l1 l2 : Int} : pm_Run d 165 40 [vA 0, vI l1, vI l2] [] (GF X, M, PTF v) K ↔ pm_Run d 165 3 [vA 0, vI l1, vI (l2 + (-8))] [] (GF X, M, PTF v) K := by
  refine (px_go (by decide +kernel : pm_fe 165 40 = some (.iinc 2 (-8), 3)) rfl).trans ?_
  refine (px_goto (off := (-40)) (tgt := 3) (by decide +kernel)).trans ?_
  exact Iff.rfl
theorem r165_46 {d : Nat} {X : Nat × (Nat → Int)} {v : Nat → Int} {M : PH} {K : PV → PS → Prop} {l1 l2 : Int} : pm_Run d 165 46 [vA 0, vI l1, vI l2] [] (GF X, M, PTF v) K ↔ K PU (GF X, M, PTF v) := by
  refine (px_rv (by decide +kernel)).trans ?_
  exact Iff.rfl
-- X11_takeTape takeTape()I
theorem r166_0 {d : Nat} {X : Nat × (Nat → Int)} {v : Nat → Int} {M : PH} {K : PV → PS → Prop} : pm_Run d 166 0 [vA 0, PU] [] (GF X, M, PTF v) K ↔ pm_Run d 166 10 [vA 0, vI (M 0 11)] [] (GF X, pm_sa M 0 (pm_up (M 0) 11 0), PTF v) K := by
  refine (px_go (by decide +kernel : pm_fe 166 0 = some (.aload_n 0, 1)) rfl).trans ?_
  refine (ry_get0 (idx := 86) (ci := 11) (k := 11) (by decide +kernel : 0 < 283 ∧ SHF 0 = (11, 13)) (by decide +kernel)).trans ?_
  refine (px_go (by decide +kernel : pm_fe 166 4 = some (.istore_n 1, 1)) rfl).trans ?_
  refine (px_go (by decide +kernel : pm_fe 166 5 = some (.aload_n 0, 1)) rfl).trans ?_
  refine (px_go (by decide +kernel : pm_fe 166 6 = some (.iconst 0, 1)) rfl).trans ?_
  refine (ry_put0 (idx := 86) (ci := 11) (k := 11) (by decide +kernel : 0 < 283 ∧ SHF 0 = (11, 13)) (by decide +kernel)).trans ?_
  exact Iff.rfl
theorem r166_10 {d : Nat} {X : Nat × (Nat → Int)} {v : Nat → Int} {M : PH} {K : PV → PS → Prop} {l1 : Int} : pm_Run d 166 10 [vA 0, vI l1] [] (GF X, M, PTF v) K ↔ K (vI l1) (GF X, M, PTF v) := by
  refine (px_go (by decide +kernel : pm_fe 166 10 = some (.iload_n 1, 1)) rfl).trans ?_
  refine (px_ri (by decide +kernel)).trans ?_
  exact Iff.rfl
-- X11_changed changed()V
theorem r167_0 {d : Nat} {c : Nat} {X : Nat × (Nat → Int)} {v : Nat → Int} {M : PH} {K : PV → PS → Prop} (hc : isCh c) (hv0 : v 0 = ((c : Nat) : Int)) : pm_Run d 167 0 [vA 0] [] (GF X, M, PTF v) K ↔ pm_Call d 23 [vA 60, vA c] (GF X, M, PTF v) (fun r9 S1 => pm_Run d 167 11 [vA 0] (pm_push r9 []) S1 K) := by
  refine (px_go (by decide +kernel : pm_fe 167 0 = some (.aload_n 0, 1)) rfl).trans ?_
  refine (ry_get2 (idx := 50) (ci := 11) (k := 6) (by decide +kernel : 0 < 283 ∧ SHF 0 = (11, 13)) (ptf_l (a := 0) (k := 6) (n := 60) (by decide +kernel)) (by decide +kernel)).trans ?_
  refine (px_go (by decide +kernel : pm_fe 167 4 = some (.aload_n 0, 1)) rfl).trans ?_
  refine (ry_get2 (idx := 27) (ci := 11) (k := 3) (by decide +kernel : 0 < 283 ∧ SHF 0 = (11, 13)) (ptd0 hv0) (by decide +kernel)).trans ?_
  refine (ry_v1 (idx := 375) (m' := 23) (ci := 2) (by decide +kernel : 60 < 283 ∧ SHF 60 = (2, 13)) (by simp [pm_wl_n, pm_wl_c, pm_w] : pm_wl [] ≤ 8) (by decide +kernel)).trans ?_
  exact Iff.rfl
theorem r167_11 {d : Nat} {c : Nat} {X : Nat × (Nat → Int)} {v : Nat → Int} {M : PH} {K : PV → PS → Prop} (hc : isCh c) (hv0 : v 0 = ((c : Nat) : Int)) : pm_Run d 167 11 [vA 0] [] (GF X, M, PTF v) K ↔ pm_Call d 1 [vA 74, vA c] (GF X, M, PTF v) (fun r9 S1 => pm_Run d 167 22 [vA 0] (pm_push r9 []) S1 K) := by
  refine (px_go (by decide +kernel : pm_fe 167 11 = some (.aload_n 0, 1)) rfl).trans ?_
  refine (ry_get2 (idx := 57) (ci := 11) (k := 7) (by decide +kernel : 0 < 283 ∧ SHF 0 = (11, 13)) (ptf_l (a := 0) (k := 7) (n := 74) (by decide +kernel)) (by decide +kernel)).trans ?_
  refine (px_go (by decide +kernel : pm_fe 167 15 = some (.aload_n 0, 1)) rfl).trans ?_
  refine (ry_get2 (idx := 27) (ci := 11) (k := 3) (by decide +kernel : 0 < 283 ∧ SHF 0 = (11, 13)) (ptd0 hv0) (by decide +kernel)).trans ?_
  refine (ry_v1 (idx := 379) (m' := 1) (ci := 0) (by decide +kernel : 74 < 283 ∧ SHF 74 = (0, 17)) (by simp [pm_wl_n, pm_wl_c, pm_w] : pm_wl [] ≤ 8) (by decide +kernel)).trans ?_
  exact Iff.rfl
theorem r167_22 {d : Nat} {c : Nat} {X : Nat × (Nat → Int)} {v : Nat → Int} {M : PH} {K : PV → PS → Prop} (hc : isCh c) (hv0 : v 0 = ((c : Nat) : Int)) : pm_Run d 167 22 [vA 0] [] (GF X, M, PTF v) K ↔ pm_Call d 126 [vA 91, vA c] (GF X, M, PTF v) (fun r9 S1 => pm_Run d 167 33 [vA 0] (pm_push r9 []) S1 K) := by
  refine (px_go (by decide +kernel : pm_fe 167 22 = some (.aload_n 0, 1)) rfl).trans ?_
  refine (ry_get2 (idx := 64) (ci := 11) (k := 8) (by decide +kernel : 0 < 283 ∧ SHF 0 = (11, 13)) (ptf_l (a := 0) (k := 8) (n := 91) (by decide +kernel)) (by decide +kernel)).trans ?_
  refine (px_go (by decide +kernel : pm_fe 167 26 = some (.aload_n 0, 1)) rfl).trans ?_
  refine (ry_get2 (idx := 27) (ci := 11) (k := 3) (by decide +kernel : 0 < 283 ∧ SHF 0 = (11, 13)) (ptd0 hv0) (by decide +kernel)).trans ?_
  refine (ry_v1 (idx := 380) (m' := 126) (ci := 10) (by decide +kernel : 91 < 283 ∧ SHF 91 = (10, 11)) (by simp [pm_wl_n, pm_wl_c, pm_w] : pm_wl [] ≤ 8) (by decide +kernel)).trans ?_
  exact Iff.rfl
theorem r167_33 {d : Nat} {X : Nat × (Nat → Int)} {v : Nat → Int} {M : PH} {K : PV → PS → Prop} : pm_Run d 167 33 [vA 0] [] (GF X, M, PTF v) K ↔ K PU (GF X, M, PTF v) := by
  refine (px_rv (by decide +kernel)).trans ?_
  exact Iff.rfl
-- X11_isSea isSea()Z
theorem r168_0 {d : Nat} {c : Nat} {X : Nat × (Nat → Int)} {v : Nat → Int} {M : PH} {K : PV → PS → Prop} (hc : isCh c) (hv0 : v 0 = ((c : Nat) : Int)) (h1 : inR (M c 0)) : pm_Run d 168 0 [vA 0] [] (GF X, M, PTF v) K ↔ if M c 0 ≤ 0 then pm_Run d 168 14 [vA 0] [] (GF X, M, PTF v) K else pm_Run d 168 10 [vA 0] [] (GF X, M, PTF v) K := by
  refine (px_go (by decide +kernel : pm_fe 168 0 = some (.aload_n 0, 1)) rfl).trans ?_
  refine (ry_get2 (idx := 27) (ci := 11) (k := 3) (by decide +kernel : 0 < 283 ∧ SHF 0 = (11, 13)) (ptd0 hv0) (by decide +kernel)).trans ?_
  refine (ry_get0 (idx := 132) (ci := 1) (k := 0) (chs0 hc) (by decide +kernel)).trans ?_
  refine (ry_if_le (off := 7) (tgt := 14) h1 (by decide +kernel)).trans ?_
  exact Iff.rfl
theorem r168_10 {d : Nat} {X : Nat × (Nat → Int)} {v : Nat → Int} {M : PH} {K : PV → PS → Prop} : pm_Run d 168 10 [vA 0] [] (GF X, M, PTF v) K ↔ pm_Run d 168 15 [vA 0] [vI 1] (GF X, M, PTF v) K := by
  refine (px_go (by decide +kernel : pm_fe 168 10 = some (.iconst 1, 1)) rfl).trans ?_
  refine (px_goto (off := 4) (tgt := 15) (by decide +kernel)).trans ?_
  exact Iff.rfl
theorem r168_14 {d : Nat} {X : Nat × (Nat → Int)} {v : Nat → Int} {M : PH} {K : PV → PS → Prop} : pm_Run d 168 14 [vA 0] [] (GF X, M, PTF v) K ↔ pm_Run d 168 15 [vA 0] [vI 0] (GF X, M, PTF v) K := by
  refine (px_go (by decide +kernel : pm_fe 168 14 = some (.iconst 0, 1)) rfl).trans ?_
  exact Iff.rfl
theorem r168_15 {d : Nat} {X : Nat × (Nat → Int)} {v : Nat → Int} {M : PH} {K : PV → PS → Prop} {s0 : Int} (h1 : s0 = 0 ∨ s0 = 1) : pm_Run d 168 15 [vA 0] [vI s0] (GF X, M, PTF v) K ↔ K (vI s0) (GF X, M, PTF v) := by
  refine (px_rz (by decide +kernel)).trans ((and_iff_right h1).trans ?_)
  exact Iff.rfl
-- X11_isMoon isMoon(I)Z
theorem r169_0 {d : Nat} {X : Nat × (Nat → Int)} {v : Nat → Int} {M : PH} {K : PV → PS → Prop} {l1 : Int} (h1 : inR l1) : pm_Run d 169 0 [vA 0, vI l1] [] (GF X, M, PTF v) K ↔ if l1 < 0 then pm_Run d 169 19 [vA 0, vI l1] [] (GF X, M, PTF v) K else pm_Run d 169 4 [vA 0, vI l1] [] (GF X, M, PTF v) K := by
  refine (px_go (by decide +kernel : pm_fe 169 0 = some (.iload_n 1, 1)) rfl).trans ?_
  refine (ry_if_lt (off := 18) (tgt := 19) h1 (by decide +kernel)).trans ?_
  exact Iff.rfl
theorem r169_4 {d : Nat} {c : Nat} {X : Nat × (Nat → Int)} {v : Nat → Int} {M : PH} {K : PV → PS → Prop} {l1 : Int} (hc : isCh c) (hv0 : v 0 = ((c : Nat) : Int)) (h1 : inR l1) (h2 : inR (M c 1)) : pm_Run d 169 4 [vA 0, vI l1] [] (GF X, M, PTF v) K ↔ if M c 1 ≤ l1 then pm_Run d 169 19 [vA 0, vI l1] [] (GF X, M, PTF v) K else pm_Run d 169 15 [vA 0, vI l1] [] (GF X, M, PTF v) K := by
  refine (px_go (by decide +kernel : pm_fe 169 4 = some (.iload_n 1, 1)) rfl).trans ?_
  refine (px_go (by decide +kernel : pm_fe 169 5 = some (.aload_n 0, 1)) rfl).trans ?_
  refine (ry_get2 (idx := 27) (ci := 11) (k := 3) (by decide +kernel : 0 < 283 ∧ SHF 0 = (11, 13)) (ptd0 hv0) (by decide +kernel)).trans ?_
  refine (ry_get0 (idx := 135) (ci := 1) (k := 1) (chs0 hc) (by decide +kernel)).trans ?_
  refine (ry_ic_ge (off := 7) (tgt := 19) h1 h2 (by decide +kernel)).trans ?_
  exact Iff.rfl
theorem r169_15 {d : Nat} {X : Nat × (Nat → Int)} {v : Nat → Int} {M : PH} {K : PV → PS → Prop} {l1 : Int} : pm_Run d 169 15 [vA 0, vI l1] [] (GF X, M, PTF v) K ↔ pm_Run d 169 20 [vA 0, vI l1] [vI 1] (GF X, M, PTF v) K := by
  refine (px_go (by decide +kernel : pm_fe 169 15 = some (.iconst 1, 1)) rfl).trans ?_
  refine (px_goto (off := 4) (tgt := 20) (by decide +kernel)).trans ?_
  exact Iff.rfl
theorem r169_19 {d : Nat} {X : Nat × (Nat → Int)} {v : Nat → Int} {M : PH} {K : PV → PS → Prop} {l1 : Int} : pm_Run d 169 19 [vA 0, vI l1] [] (GF X, M, PTF v) K ↔ pm_Run d 169 20 [vA 0, vI l1] [vI 0] (GF X, M, PTF v) K := by
  refine (px_go (by decide +kernel : pm_fe 169 19 = some (.iconst 0, 1)) rfl).trans ?_
  exact Iff.rfl
theorem r169_20 {d : Nat} {X : Nat × (Nat → Int)} {v : Nat → Int} {M : PH} {K : PV → PS → Prop} {l1 s0 : Int} (h1 : s0 = 0 ∨ s0 = 1) : pm_Run d 169 20 [vA 0, vI l1] [vI s0] (GF X, M, PTF v) K ↔ K (vI s0) (GF X, M, PTF v) := by
  refine (px_rz (by decide +kernel)).trans ((and_iff_right h1).trans ?_)
  exact Iff.rfl
-- X11_isHarbor isHarbor(I)Z
theorem r170_0 {d : Nat} {X : Nat × (Nat → Int)} {v : Nat → Int} {M : PH} {K : PV → PS → Prop} {l1 : Int} (h1 : inR l1) : pm_Run d 170 0 [vA 0, vI l1] [] (GF X, M, PTF v) K ↔ if l1 < 0 then pm_Run d 170 19 [vA 0, vI l1] [] (GF X, M, PTF v) K else pm_Run d 170 4 [vA 0, vI l1] [] (GF X, M, PTF v) K := by
  refine (px_go (by decide +kernel : pm_fe 170 0 = some (.iload_n 1, 1)) rfl).trans ?_
  refine (ry_if_lt (off := 18) (tgt := 19) h1 (by decide +kernel)).trans ?_
  exact Iff.rfl
theorem r170_4 {d : Nat} {c : Nat} {X : Nat × (Nat → Int)} {v : Nat → Int} {M : PH} {K : PV → PS → Prop} {l1 : Int} (hc : isCh c) (hv0 : v 0 = ((c : Nat) : Int)) (h1 : inR l1) (h2 : inR (M c 2)) : pm_Run d 170 4 [vA 0, vI l1] [] (GF X, M, PTF v) K ↔ if M c 2 ≤ l1 then pm_Run d 170 19 [vA 0, vI l1] [] (GF X, M, PTF v) K else pm_Run d 170 15 [vA 0, vI l1] [] (GF X, M, PTF v) K := by
  refine (px_go (by decide +kernel : pm_fe 170 4 = some (.iload_n 1, 1)) rfl).trans ?_
  refine (px_go (by decide +kernel : pm_fe 170 5 = some (.aload_n 0, 1)) rfl).trans ?_
  refine (ry_get2 (idx := 27) (ci := 11) (k := 3) (by decide +kernel : 0 < 283 ∧ SHF 0 = (11, 13)) (ptd0 hv0) (by decide +kernel)).trans ?_
  refine (ry_get0 (idx := 138) (ci := 1) (k := 2) (chs0 hc) (by decide +kernel)).trans ?_
  refine (ry_ic_ge (off := 7) (tgt := 19) h1 h2 (by decide +kernel)).trans ?_
  exact Iff.rfl
theorem r170_15 {d : Nat} {X : Nat × (Nat → Int)} {v : Nat → Int} {M : PH} {K : PV → PS → Prop} {l1 : Int} : pm_Run d 170 15 [vA 0, vI l1] [] (GF X, M, PTF v) K ↔ pm_Run d 170 20 [vA 0, vI l1] [vI 1] (GF X, M, PTF v) K := by
  refine (px_go (by decide +kernel : pm_fe 170 15 = some (.iconst 1, 1)) rfl).trans ?_
  refine (px_goto (off := 4) (tgt := 20) (by decide +kernel)).trans ?_
  exact Iff.rfl
theorem r170_19 {d : Nat} {X : Nat × (Nat → Int)} {v : Nat → Int} {M : PH} {K : PV → PS → Prop} {l1 : Int} : pm_Run d 170 19 [vA 0, vI l1] [] (GF X, M, PTF v) K ↔ pm_Run d 170 20 [vA 0, vI l1] [vI 0] (GF X, M, PTF v) K := by
  refine (px_go (by decide +kernel : pm_fe 170 19 = some (.iconst 0, 1)) rfl).trans ?_
  exact Iff.rfl
theorem r170_20 {d : Nat} {X : Nat × (Nat → Int)} {v : Nat → Int} {M : PH} {K : PV → PS → Prop} {l1 s0 : Int} (h1 : s0 = 0 ∨ s0 = 1) : pm_Run d 170 20 [vA 0, vI l1] [vI s0] (GF X, M, PTF v) K ↔ K (vI s0) (GF X, M, PTF v) := by
  refine (px_rz (by decide +kernel)).trans ((and_iff_right h1).trans ?_)
  exact Iff.rfl
-- X11_isPlace isPlace(I)Z
theorem r171_0 {d : Nat} {X : Nat × (Nat → Int)} {v : Nat → Int} {M : PH} {K : PV → PS → Prop} {l1 : Int} (h1 : inR l1) : pm_Run d 171 0 [vA 0, vI l1] [] (GF X, M, PTF v) K ↔ if l1 < 0 then pm_Run d 171 19 [vA 0, vI l1] [] (GF X, M, PTF v) K else pm_Run d 171 4 [vA 0, vI l1] [] (GF X, M, PTF v) K := by
  refine (px_go (by decide +kernel : pm_fe 171 0 = some (.iload_n 1, 1)) rfl).trans ?_
  refine (ry_if_lt (off := 18) (tgt := 19) h1 (by decide +kernel)).trans ?_
  exact Iff.rfl
theorem r171_4 {d : Nat} {c : Nat} {X : Nat × (Nat → Int)} {v : Nat → Int} {M : PH} {K : PV → PS → Prop} {l1 : Int} (hc : isCh c) (hv0 : v 0 = ((c : Nat) : Int)) (h1 : inR l1) (h2 : inR (M c 0)) : pm_Run d 171 4 [vA 0, vI l1] [] (GF X, M, PTF v) K ↔ if M c 0 ≤ l1 then pm_Run d 171 19 [vA 0, vI l1] [] (GF X, M, PTF v) K else pm_Run d 171 15 [vA 0, vI l1] [] (GF X, M, PTF v) K := by
  refine (px_go (by decide +kernel : pm_fe 171 4 = some (.iload_n 1, 1)) rfl).trans ?_
  refine (px_go (by decide +kernel : pm_fe 171 5 = some (.aload_n 0, 1)) rfl).trans ?_
  refine (ry_get2 (idx := 27) (ci := 11) (k := 3) (by decide +kernel : 0 < 283 ∧ SHF 0 = (11, 13)) (ptd0 hv0) (by decide +kernel)).trans ?_
  refine (ry_get0 (idx := 132) (ci := 1) (k := 0) (chs0 hc) (by decide +kernel)).trans ?_
  refine (ry_ic_ge (off := 7) (tgt := 19) h1 h2 (by decide +kernel)).trans ?_
  exact Iff.rfl
theorem r171_15 {d : Nat} {X : Nat × (Nat → Int)} {v : Nat → Int} {M : PH} {K : PV → PS → Prop} {l1 : Int} : pm_Run d 171 15 [vA 0, vI l1] [] (GF X, M, PTF v) K ↔ pm_Run d 171 20 [vA 0, vI l1] [vI 1] (GF X, M, PTF v) K := by
  refine (px_go (by decide +kernel : pm_fe 171 15 = some (.iconst 1, 1)) rfl).trans ?_
  refine (px_goto (off := 4) (tgt := 20) (by decide +kernel)).trans ?_
  exact Iff.rfl
theorem r171_19 {d : Nat} {X : Nat × (Nat → Int)} {v : Nat → Int} {M : PH} {K : PV → PS → Prop} {l1 : Int} : pm_Run d 171 19 [vA 0, vI l1] [] (GF X, M, PTF v) K ↔ pm_Run d 171 20 [vA 0, vI l1] [vI 0] (GF X, M, PTF v) K := by
  refine (px_go (by decide +kernel : pm_fe 171 19 = some (.iconst 0, 1)) rfl).trans ?_
  exact Iff.rfl
theorem r171_20 {d : Nat} {X : Nat × (Nat → Int)} {v : Nat → Int} {M : PH} {K : PV → PS → Prop} {l1 s0 : Int} (h1 : s0 = 0 ∨ s0 = 1) : pm_Run d 171 20 [vA 0, vI l1] [vI s0] (GF X, M, PTF v) K ↔ K (vI s0) (GF X, M, PTF v) := by
  refine (px_rz (by decide +kernel)).trans ((and_iff_right h1).trans ?_)
  exact Iff.rfl
-- X11_isStranded isStranded(I)Z
theorem r172_0 {d : Nat} {X : Nat × (Nat → Int)} {v : Nat → Int} {M : PH} {K : PV → PS → Prop} {l1 : Int} : pm_Run d 172 0 [vA 0, vI l1] [] (GF X, M, PTF v) K ↔ pm_Call d 25 [vA 60, vI 0] (GF X, M, PTF v) (fun r9 S1 => pm_Run d 172 8 [vA 0, vI l1] (pm_push r9 []) S1 K) := by
  refine (px_go (by decide +kernel : pm_fe 172 0 = some (.aload_n 0, 1)) rfl).trans ?_
  refine (ry_get2 (idx := 50) (ci := 11) (k := 6) (by decide +kernel : 0 < 283 ∧ SHF 0 = (11, 13)) (ptf_l (a := 0) (k := 6) (n := 60) (by decide +kernel)) (by decide +kernel)).trans ?_
  refine (px_go (by decide +kernel : pm_fe 172 4 = some (.iconst 0, 1)) rfl).trans ?_
  refine (ry_v1 (idx := 245) (m' := 25) (ci := 2) (by decide +kernel : 60 < 283 ∧ SHF 60 = (2, 13)) (by simp [pm_wl_n, pm_wl_c, pm_w] : pm_wl [] ≤ 8) (by decide +kernel)).trans ?_
  exact Iff.rfl
theorem r172_8 {d : Nat} {X : Nat × (Nat → Int)} {v : Nat → Int} {M : PH} {K : PV → PS → Prop} {l1 : Int} : pm_Run d 172 8 [vA 0, vI l1] [] (GF X, M, PTF v) K ↔ pm_Call d 30 [vA 60, vI l1, vI 0] (GF X, M, PTF v) (fun r9 S1 => pm_Run d 172 17 [vA 0, vI l1] (pm_push r9 []) S1 K) := by
  refine (px_go (by decide +kernel : pm_fe 172 8 = some (.aload_n 0, 1)) rfl).trans ?_
  refine (ry_get2 (idx := 50) (ci := 11) (k := 6) (by decide +kernel : 0 < 283 ∧ SHF 0 = (11, 13)) (ptf_l (a := 0) (k := 6) (n := 60) (by decide +kernel)) (by decide +kernel)).trans ?_
  refine (px_go (by decide +kernel : pm_fe 172 12 = some (.iload_n 1, 1)) rfl).trans ?_
  refine (px_go (by decide +kernel : pm_fe 172 13 = some (.iconst 0, 1)) rfl).trans ?_
  refine (ry_v2 (idx := 260) (m' := 30) (ci := 2) (by decide +kernel : 60 < 283 ∧ SHF 60 = (2, 13)) (by simp [pm_wl_n, pm_wl_c, pm_w] : pm_wl [] ≤ 8) (by decide +kernel)).trans ?_
  exact Iff.rfl
theorem r172_17 {d : Nat} {X : Nat × (Nat → Int)} {v : Nat → Int} {M : PH} {K : PV → PS → Prop} {l1 s0 : Int} (h1 : s0 = 0 ∨ s0 = 1) : pm_Run d 172 17 [vA 0, vI l1] [vI s0] (GF X, M, PTF v) K ↔ K (vI s0) (GF X, M, PTF v) := by
  refine (px_rz (by decide +kernel)).trans ((and_iff_right h1).trans ?_)
  exact Iff.rfl
-- X11_isVoyage isVoyage(III)Z
theorem r173_0 {d : Nat} {X : Nat × (Nat → Int)} {v : Nat → Int} {M : PH} {K : PV → PS → Prop} {l1 l2 l3 : Int} : pm_Run d 173 0 [vA 0, vI l1, vI l2, vI l3] [] (GF X, M, PTF v) K ↔ pm_Call d 170 [vA 0, vI l1] (GF X, M, PTF v) (fun r9 S1 => pm_Run d 173 5 [vA 0, vI l1, vI l2, vI l3] (pm_push r9 []) S1 K) := by
  refine (px_go (by decide +kernel : pm_fe 173 0 = some (.aload_n 0, 1)) rfl).trans ?_
  refine (px_go (by decide +kernel : pm_fe 173 1 = some (.iload_n 1, 1)) rfl).trans ?_
  refine (ry_v1 (idx := 178) (m' := 170) (ci := 11) (by decide +kernel : 0 < 283 ∧ SHF 0 = (11, 13)) (by simp [pm_wl_n, pm_wl_c, pm_w] : pm_wl [] ≤ 8) (by decide +kernel)).trans ?_
  exact Iff.rfl
theorem r173_5 {d : Nat} {X : Nat × (Nat → Int)} {v : Nat → Int} {M : PH} {K : PV → PS → Prop} {l1 l2 l3 s0 : Int} (h1 : inR s0) : pm_Run d 173 5 [vA 0, vI l1, vI l2, vI l3] [vI s0] (GF X, M, PTF v) K ↔ if s0 = 0 then pm_Run d 173 30 [vA 0, vI l1, vI l2, vI l3] [] (GF X, M, PTF v) K else pm_Run d 173 8 [vA 0, vI l1, vI l2, vI l3] [] (GF X, M, PTF v) K := by
  refine (ry_if_eq (off := 25) (tgt := 30) h1 (by decide +kernel)).trans ?_
  exact Iff.rfl
theorem r173_8 {d : Nat} {X : Nat × (Nat → Int)} {v : Nat → Int} {M : PH} {K : PV → PS → Prop} {l1 l2 l3 : Int} : pm_Run d 173 8 [vA 0, vI l1, vI l2, vI l3] [] (GF X, M, PTF v) K ↔ pm_Call d 170 [vA 0, vI l2] (GF X, M, PTF v) (fun r9 S1 => pm_Run d 173 13 [vA 0, vI l1, vI l2, vI l3] (pm_push r9 []) S1 K) := by
  refine (px_go (by decide +kernel : pm_fe 173 8 = some (.aload_n 0, 1)) rfl).trans ?_
  refine (px_go (by decide +kernel : pm_fe 173 9 = some (.iload_n 2, 1)) rfl).trans ?_
  refine (ry_v1 (idx := 178) (m' := 170) (ci := 11) (by decide +kernel : 0 < 283 ∧ SHF 0 = (11, 13)) (by simp [pm_wl_n, pm_wl_c, pm_w] : pm_wl [] ≤ 8) (by decide +kernel)).trans ?_
  exact Iff.rfl
theorem r173_13 {d : Nat} {X : Nat × (Nat → Int)} {v : Nat → Int} {M : PH} {K : PV → PS → Prop} {l1 l2 l3 s0 : Int} (h1 : inR s0) : pm_Run d 173 13 [vA 0, vI l1, vI l2, vI l3] [vI s0] (GF X, M, PTF v) K ↔ if s0 = 0 then pm_Run d 173 30 [vA 0, vI l1, vI l2, vI l3] [] (GF X, M, PTF v) K else pm_Run d 173 16 [vA 0, vI l1, vI l2, vI l3] [] (GF X, M, PTF v) K := by
  refine (ry_if_eq (off := 17) (tgt := 30) h1 (by decide +kernel)).trans ?_
  exact Iff.rfl
theorem r173_16 {d : Nat} {X : Nat × (Nat → Int)} {v : Nat → Int} {M : PH} {K : PV → PS → Prop} {l1 l2 l3 : Int} (h1 : inR l3) : pm_Run d 173 16 [vA 0, vI l1, vI l2, vI l3] [] (GF X, M, PTF v) K ↔ if l3 < 0 then pm_Run d 173 30 [vA 0, vI l1, vI l2, vI l3] [] (GF X, M, PTF v) K else pm_Run d 173 20 [vA 0, vI l1, vI l2, vI l3] [] (GF X, M, PTF v) K := by
  refine (px_go (by decide +kernel : pm_fe 173 16 = some (.iload_n 3, 1)) rfl).trans ?_
  refine (ry_if_lt (off := 13) (tgt := 30) h1 (by decide +kernel)).trans ?_
  exact Iff.rfl
theorem r173_20 {d : Nat} {X : Nat × (Nat → Int)} {v : Nat → Int} {M : PH} {K : PV → PS → Prop} {l1 l2 l3 : Int} (h1 : inR l3) : pm_Run d 173 20 [vA 0, vI l1, vI l2, vI l3] [] (GF X, M, PTF v) K ↔ if 99 < l3 then pm_Run d 173 30 [vA 0, vI l1, vI l2, vI l3] [] (GF X, M, PTF v) K else pm_Run d 173 26 [vA 0, vI l1, vI l2, vI l3] [] (GF X, M, PTF v) K := by
  refine (px_go (by decide +kernel : pm_fe 173 20 = some (.iload_n 3, 1)) rfl).trans ?_
  refine (px_go (by decide +kernel : pm_fe 173 21 = some (.bipush 99, 2)) rfl).trans ?_
  refine (ry_ic_gt (off := 7) (tgt := 30) h1 (by decide : (-2147483648 ≤ (99 : Int) ∧ (99 : Int) < 2147483648)) (by decide +kernel)).trans ?_
  exact Iff.rfl
theorem r173_26 {d : Nat} {X : Nat × (Nat → Int)} {v : Nat → Int} {M : PH} {K : PV → PS → Prop} {l1 l2 l3 : Int} : pm_Run d 173 26 [vA 0, vI l1, vI l2, vI l3] [] (GF X, M, PTF v) K ↔ pm_Run d 173 31 [vA 0, vI l1, vI l2, vI l3] [vI 1] (GF X, M, PTF v) K := by
  refine (px_go (by decide +kernel : pm_fe 173 26 = some (.iconst 1, 1)) rfl).trans ?_
  refine (px_goto (off := 4) (tgt := 31) (by decide +kernel)).trans ?_
  exact Iff.rfl
theorem r173_30 {d : Nat} {X : Nat × (Nat → Int)} {v : Nat → Int} {M : PH} {K : PV → PS → Prop} {l1 l2 l3 : Int} : pm_Run d 173 30 [vA 0, vI l1, vI l2, vI l3] [] (GF X, M, PTF v) K ↔ pm_Run d 173 31 [vA 0, vI l1, vI l2, vI l3] [vI 0] (GF X, M, PTF v) K := by
  refine (px_go (by decide +kernel : pm_fe 173 30 = some (.iconst 0, 1)) rfl).trans ?_
  exact Iff.rfl
theorem r173_31 {d : Nat} {X : Nat × (Nat → Int)} {v : Nat → Int} {M : PH} {K : PV → PS → Prop} {l1 l2 l3 s0 : Int} (h1 : s0 = 0 ∨ s0 = 1) : pm_Run d 173 31 [vA 0, vI l1, vI l2, vI l3] [vI s0] (GF X, M, PTF v) K ↔ K (vI s0) (GF X, M, PTF v) := by
  refine (px_rz (by decide +kernel)).trans ((and_iff_right h1).trans ?_)
  exact Iff.rfl
-- X11_canPass canPass(II)Z
theorem r174_0 {d : Nat} {X : Nat × (Nat → Int)} {v : Nat → Int} {M : PH} {K : PV → PS → Prop} {l1 l2 : Int} : pm_Run d 174 0 [vA 0, vI l1, vI l2] [] (GF X, M, PTF v) K ↔ pm_Call d 168 [vA 0] (GF X, M, PTF v) (fun r9 S1 => pm_Run d 174 4 [vA 0, vI l1, vI l2] (pm_push r9 []) S1 K) := by
  refine (px_go (by decide +kernel : pm_fe 174 0 = some (.aload_n 0, 1)) rfl).trans ?_
  refine (ry_v0 (idx := 309) (m' := 168) (ci := 11) (by decide +kernel : 0 < 283 ∧ SHF 0 = (11, 13)) (by simp [pm_wl_n, pm_wl_c, pm_w] : pm_wl [] ≤ 8) (by decide +kernel)).trans ?_
  exact Iff.rfl
theorem r174_4 {d : Nat} {X : Nat × (Nat → Int)} {v : Nat → Int} {M : PH} {K : PV → PS → Prop} {l1 l2 s0 : Int} (h1 : inR s0) : pm_Run d 174 4 [vA 0, vI l1, vI l2] [vI s0] (GF X, M, PTF v) K ↔ if s0 = 0 then pm_Run d 174 36 [vA 0, vI l1, vI l2] [] (GF X, M, PTF v) K else pm_Run d 174 7 [vA 0, vI l1, vI l2] [] (GF X, M, PTF v) K := by
  refine (ry_if_eq (off := 32) (tgt := 36) h1 (by decide +kernel)).trans ?_
  exact Iff.rfl
theorem r174_7 {d : Nat} {X : Nat × (Nat → Int)} {v : Nat → Int} {M : PH} {K : PV → PS → Prop} {l1 l2 : Int} (h1 : inR l1) : pm_Run d 174 7 [vA 0, vI l1, vI l2] [] (GF X, M, PTF v) K ↔ if l1 < 1 then pm_Run d 174 36 [vA 0, vI l1, vI l2] [] (GF X, M, PTF v) K else pm_Run d 174 12 [vA 0, vI l1, vI l2] [] (GF X, M, PTF v) K := by
  refine (px_go (by decide +kernel : pm_fe 174 7 = some (.iload_n 1, 1)) rfl).trans ?_
  refine (px_go (by decide +kernel : pm_fe 174 8 = some (.iconst 1, 1)) rfl).trans ?_
  refine (ry_ic_lt (off := 27) (tgt := 36) h1 (by decide : (-2147483648 ≤ (1 : Int) ∧ (1 : Int) < 2147483648)) (by decide +kernel)).trans ?_
  exact Iff.rfl
theorem r174_12 {d : Nat} {X : Nat × (Nat → Int)} {v : Nat → Int} {M : PH} {K : PV → PS → Prop} {l1 l2 : Int} (h1 : inR l1) (h2 : inR l2) : pm_Run d 174 12 [vA 0, vI l1, vI l2] [] (GF X, M, PTF v) K ↔ if l2 < l1 then pm_Run d 174 36 [vA 0, vI l1, vI l2] [] (GF X, M, PTF v) K else pm_Run d 174 17 [vA 0, vI l1, vI l2] [] (GF X, M, PTF v) K := by
  refine (px_go (by decide +kernel : pm_fe 174 12 = some (.iload_n 1, 1)) rfl).trans ?_
  refine (px_go (by decide +kernel : pm_fe 174 13 = some (.iload_n 2, 1)) rfl).trans ?_
  refine (ry_ic_gt (off := 22) (tgt := 36) h1 h2 (by decide +kernel)).trans ?_
  exact Iff.rfl
theorem r174_17 {d : Nat} {X : Nat × (Nat → Int)} {v : Nat → Int} {M : PH} {K : PV → PS → Prop} {l1 l2 : Int} (h1 : inR l1) (h2 : inR (9999 - (M 3 0))) : pm_Run d 174 17 [vA 0, vI l1, vI l2] [] (GF X, M, PTF v) K ↔ if 9999 - (M 3 0) < l1 then pm_Run d 174 36 [vA 0, vI l1, vI l2] [] (GF X, M, PTF v) K else pm_Run d 174 32 [vA 0, vI l1, vI l2] [] (GF X, M, PTF v) K := by
  refine (px_go (by decide +kernel : pm_fe 174 17 = some (.iload_n 1, 1)) rfl).trans ?_
  refine (px_go (by decide +kernel : pm_fe 174 18 = some (.sipush 9999, 3)) rfl).trans ?_
  refine (px_go (by decide +kernel : pm_fe 174 21 = some (.aload_n 0, 1)) rfl).trans ?_
  refine (ry_get2 (idx := 20) (ci := 11) (k := 2) (by decide +kernel : 0 < 283 ∧ SHF 0 = (11, 13)) (ptf_l (a := 0) (k := 2) (n := 3) (by decide +kernel)) (by decide +kernel)).trans ?_
  refine (ry_get0 (idx := 153) (ci := 5) (k := 0) (by decide +kernel : 3 < 283 ∧ SHF 3 = (5, 6)) (by decide +kernel)).trans ?_
  refine (px_go (by decide +kernel : pm_fe 174 28 = some (.isub, 1)) rfl).trans ?_
  refine (ry_ic_gt (off := 7) (tgt := 36) h1 h2 (by decide +kernel)).trans ?_
  exact Iff.rfl
theorem r174_32 {d : Nat} {X : Nat × (Nat → Int)} {v : Nat → Int} {M : PH} {K : PV → PS → Prop} {l1 l2 : Int} : pm_Run d 174 32 [vA 0, vI l1, vI l2] [] (GF X, M, PTF v) K ↔ pm_Run d 174 37 [vA 0, vI l1, vI l2] [vI 1] (GF X, M, PTF v) K := by
  refine (px_go (by decide +kernel : pm_fe 174 32 = some (.iconst 1, 1)) rfl).trans ?_
  refine (px_goto (off := 4) (tgt := 37) (by decide +kernel)).trans ?_
  exact Iff.rfl
theorem r174_36 {d : Nat} {X : Nat × (Nat → Int)} {v : Nat → Int} {M : PH} {K : PV → PS → Prop} {l1 l2 : Int} : pm_Run d 174 36 [vA 0, vI l1, vI l2] [] (GF X, M, PTF v) K ↔ pm_Run d 174 37 [vA 0, vI l1, vI l2] [vI 0] (GF X, M, PTF v) K := by
  refine (px_go (by decide +kernel : pm_fe 174 36 = some (.iconst 0, 1)) rfl).trans ?_
  exact Iff.rfl
theorem r174_37 {d : Nat} {X : Nat × (Nat → Int)} {v : Nat → Int} {M : PH} {K : PV → PS → Prop} {l1 l2 s0 : Int} (h1 : s0 = 0 ∨ s0 = 1) : pm_Run d 174 37 [vA 0, vI l1, vI l2] [vI s0] (GF X, M, PTF v) K ↔ K (vI s0) (GF X, M, PTF v) := by
  refine (px_rz (by decide +kernel)).trans ((and_iff_right h1).trans ?_)
  exact Iff.rfl
-- X11_storm storm()V
theorem r175_0 {d : Nat} {c : Nat} {X : Nat × (Nat → Int)} {v : Nat → Int} {M : PH} {K : PV → PS → Prop} (hc : isCh c) (hv0 : v 0 = ((c : Nat) : Int)) (h1 : inR (M c 1)) : pm_Run d 175 0 [vA 0, PU] [] (GF X, M, PTF v) K ↔ if M c 1 ≤ 0 then pm_Run d 175 37 [vA 0, PU] [] (GF X, M, PTF v) K else pm_Run d 175 10 [vA 0, PU] [] (GF X, M, PTF v) K := by
  refine (px_go (by decide +kernel : pm_fe 175 0 = some (.aload_n 0, 1)) rfl).trans ?_
  refine (ry_get2 (idx := 27) (ci := 11) (k := 3) (by decide +kernel : 0 < 283 ∧ SHF 0 = (11, 13)) (ptd0 hv0) (by decide +kernel)).trans ?_
  refine (ry_get0 (idx := 135) (ci := 1) (k := 1) (chs0 hc) (by decide +kernel)).trans ?_
  refine (ry_if_le (off := 30) (tgt := 37) h1 (by decide +kernel)).trans ?_
  exact Iff.rfl
theorem r175_10 {d : Nat} {c : Nat} {X : Nat × (Nat → Int)} {v : Nat → Int} {M : PH} {K : PV → PS → Prop} (hc : isCh c) (hv0 : v 0 = ((c : Nat) : Int)) : pm_Run d 175 10 [vA 0, PU] [] (GF X, M, PTF v) K ↔ pm_Call d 176 [vA 0, vI (M c 1)] (GF X, M, PTF v) (fun r9 S1 => pm_Run d 175 21 [vA 0, PU] (pm_push r9 []) S1 K) := by
  refine (px_go (by decide +kernel : pm_fe 175 10 = some (.aload_n 0, 1)) rfl).trans ?_
  refine (px_go (by decide +kernel : pm_fe 175 11 = some (.aload_n 0, 1)) rfl).trans ?_
  refine (ry_get2 (idx := 27) (ci := 11) (k := 3) (by decide +kernel : 0 < 283 ∧ SHF 0 = (11, 13)) (ptd0 hv0) (by decide +kernel)).trans ?_
  refine (ry_get0 (idx := 135) (ci := 1) (k := 1) (chs0 hc) (by decide +kernel)).trans ?_
  refine (ry_v1 (idx := 381) (m' := 176) (ci := 11) (by decide +kernel : 0 < 283 ∧ SHF 0 = (11, 13)) (by simp [pm_wl_n, pm_wl_c, pm_w] : pm_wl [] ≤ 8) (by decide +kernel)).trans ?_
  exact Iff.rfl
theorem r175_21 {d : Nat} {X : Nat × (Nat → Int)} {v : Nat → Int} {M : PH} {K : PV → PS → Prop} {s0 : Int} : pm_Run d 175 21 [vA 0, PU] [vI s0] (GF X, M, PTF v) K ↔ pm_Call d 176 [vA 0, vI 10] (GF X, M, PTF v) (fun r9 S1 => pm_Run d 175 36 [vA 0, vI s0] (pm_push r9 [vI s0, vA 5]) S1 K) := by
  refine (px_go (by decide +kernel : pm_fe 175 21 = some (.istore_n 1, 1)) rfl).trans ?_
  refine (px_go (by decide +kernel : pm_fe 175 22 = some (.aload_n 0, 1)) rfl).trans ?_
  refine (ry_get2 (idx := 20) (ci := 11) (k := 2) (by decide +kernel : 0 < 283 ∧ SHF 0 = (11, 13)) (ptf_l (a := 0) (k := 2) (n := 3) (by decide +kernel)) (by decide +kernel)).trans ?_
  refine (ry_get2 (idx := 190) (ci := 5) (k := 2) (by decide +kernel : 3 < 283 ∧ SHF 3 = (5, 6)) (ptf_l (a := 3) (k := 2) (n := 5) (by decide +kernel)) (by decide +kernel)).trans ?_
  refine (px_go (by decide +kernel : pm_fe 175 29 = some (.iload_n 1, 1)) rfl).trans ?_
  refine (px_go (by decide +kernel : pm_fe 175 30 = some (.aload_n 0, 1)) rfl).trans ?_
  refine (px_go (by decide +kernel : pm_fe 175 31 = some (.bipush 10, 2)) rfl).trans ?_
  refine (ry_v1 (idx := 381) (m' := 176) (ci := 11) (by decide +kernel : 0 < 283 ∧ SHF 0 = (11, 13)) (by simp [pm_wl_n, pm_wl_c, pm_w] : pm_wl [vI s0, vA 5] ≤ 8) (by decide +kernel)).trans ?_
  exact Iff.rfl
theorem r175_36 {d : Nat} {X : Nat × (Nat → Int)} {v : Nat → Int} {M : PH} {K : PV → PS → Prop} {l1 s0 s1 : Int} (h1 : 0 ≤ s1) (h2 : s1 < 3) : pm_Run d 175 36 [vA 0, vI l1] [vI s0, vI s1, vA 5] (GF X, M, PTF v) K ↔ pm_Run d 175 37 [vA 0, vI l1] [] (GF X, pm_sa M 5 (pm_up (M 5) s1.toNat s0), PTF v) K := by
  refine (ry_iast (by decide +kernel : 5 < 283 ∧ SHF 5 = (100, 3)) h1 h2 (by decide +kernel)).trans ?_
  exact Iff.rfl
theorem r175_37 {d : Nat} {X : Nat × (Nat → Int)} {v : Nat → Int} {M : PH} {K : PV → PS → Prop} {l1 : PV} : pm_Run d 175 37 [vA 0, l1] [] (GF X, M, PTF v) K ↔ K PU (GF X, M, PTF v) := by
  refine (px_rv (by decide +kernel)).trans ?_
  exact Iff.rfl
-- X11_draw draw(I)I
theorem r176_0 {d : Nat} {X : Nat × (Nat → Int)} {v : Nat → Int} {M : PH} {K : PV → PS → Prop} {l1 : Int} (h1 : inR (M 0 12)) : pm_Run d 176 0 [vA 0, vI l1] [] (GF X, M, PTF v) K ↔ pm_Run d 176 22 [vA 0, vI l1] [] (GF X, pm_sa M 0 (pm_up (M 0) 12 (pm_land ((1103515245 * (M 0 12)) + 12345) 2147483647)), PTF v) K := by
  refine (px_go (by decide +kernel : pm_fe 176 0 = some (.aload_n 0, 1)) rfl).trans ?_
  refine (px_ldcL (idx := 384) (x := 1103515245) (by decide +kernel)).trans ?_
  refine (px_go (by decide +kernel : pm_fe 176 4 = some (.aload_n 0, 1)) rfl).trans ?_
  refine (ry_get0 (idx := 82) (ci := 11) (k := 12) (by decide +kernel : 0 < 283 ∧ SHF 0 = (11, 13)) (by decide +kernel)).trans ?_
  refine (ry_i2l h1 (by decide +kernel)).trans ?_
  refine (px_go (by decide +kernel : pm_fe 176 9 = some (.lmul, 1)) rfl).trans ?_
  refine (px_ldcL (idx := 386) (x := 12345) (by decide +kernel)).trans ?_
  refine (px_go (by decide +kernel : pm_fe 176 13 = some (.ladd, 1)) rfl).trans ?_
  refine (px_ldcL (idx := 388) (x := 2147483647) (by decide +kernel)).trans ?_
  refine (px_go (by decide +kernel : pm_fe 176 17 = some (.land, 1)) rfl).trans ?_
  refine (px_go (by decide +kernel : pm_fe 176 18 = some (.l2i, 1)) rfl).trans ?_
  refine (ry_put0 (idx := 82) (ci := 11) (k := 12) (by decide +kernel : 0 < 283 ∧ SHF 0 = (11, 13)) (by decide +kernel)).trans ?_
  exact Iff.rfl
theorem r176_22 {d : Nat} {X : Nat × (Nat → Int)} {v : Nat → Int} {M : PH} {K : PV → PS → Prop} {l1 : Int} (h1 : inR l1) : pm_Run d 176 22 [vA 0, vI l1] [] (GF X, M, PTF v) K ↔ if l1 ≤ 0 then pm_Run d 176 38 [vA 0, vI l1] [] (GF X, M, PTF v) K else pm_Run d 176 26 [vA 0, vI l1] [] (GF X, M, PTF v) K := by
  refine (px_go (by decide +kernel : pm_fe 176 22 = some (.iload_n 1, 1)) rfl).trans ?_
  refine (ry_if_le (off := 15) (tgt := 38) h1 (by decide +kernel)).trans ?_
  exact Iff.rfl
theorem r176_26 {d : Nat} {X : Nat × (Nat → Int)} {v : Nat → Int} {M : PH} {K : PV → PS → Prop} {l1 : Int} (h1 : inR (M 0 12)) (h2 : inR ((M 0 12).tdiv 64)) (h3 : inR l1) (h4 : l1 ≠ 0) : pm_Run d 176 26 [vA 0, vI l1] [] (GF X, M, PTF v) K ↔ pm_Run d 176 39 [vA 0, vI l1] [vI (((M 0 12).tdiv 64).tmod l1)] (GF X, M, PTF v) K := by
  refine (px_go (by decide +kernel : pm_fe 176 26 = some (.aload_n 0, 1)) rfl).trans ?_
  refine (ry_get0 (idx := 82) (ci := 11) (k := 12) (by decide +kernel : 0 < 283 ∧ SHF 0 = (11, 13)) (by decide +kernel)).trans ?_
  refine (px_go (by decide +kernel : pm_fe 176 30 = some (.bipush 64, 2)) rfl).trans ?_
  refine (ry_idiv h1 (by decide : (-2147483648 ≤ (64 : Int) ∧ (64 : Int) < 2147483648)) (by decide : (64 : Int) ≠ (0 : Int)) (by decide +kernel)).trans ?_
  refine (px_go (by decide +kernel : pm_fe 176 33 = some (.iload_n 1, 1)) rfl).trans ?_
  refine (ry_irem h2 h3 h4 (by decide +kernel)).trans ?_
  refine (px_goto (off := 4) (tgt := 39) (by decide +kernel)).trans ?_
  exact Iff.rfl
theorem r176_38 {d : Nat} {X : Nat × (Nat → Int)} {v : Nat → Int} {M : PH} {K : PV → PS → Prop} {l1 : Int} : pm_Run d 176 38 [vA 0, vI l1] [] (GF X, M, PTF v) K ↔ pm_Run d 176 39 [vA 0, vI l1] [vI 0] (GF X, M, PTF v) K := by
  refine (px_go (by decide +kernel : pm_fe 176 38 = some (.iconst 0, 1)) rfl).trans ?_
  exact Iff.rfl
theorem r176_39 {d : Nat} {X : Nat × (Nat → Int)} {v : Nat → Int} {M : PH} {K : PV → PS → Prop} {l1 s0 : Int} : pm_Run d 176 39 [vA 0, vI l1] [vI s0] (GF X, M, PTF v) K ↔ K (vI s0) (GF X, M, PTF v) := by
  refine (px_ri (by decide +kernel)).trans ?_
  exact Iff.rfl
-- X11_within within(III)I
theorem r177_0 {d : Nat} {X : Nat × (Nat → Int)} {v : Nat → Int} {M : PH} {K : PV → PS → Prop} {l0 l1 l2 : Int} (h1 : inR l1) (h2 : inR l0) : pm_Run d 177 0 [vI l0, vI l1, vI l2] [] (GF X, M, PTF v) K ↔ if l0 ≤ l1 then pm_Run d 177 7 [vI l0, vI l1, vI l2] [] (GF X, M, PTF v) K else pm_Run d 177 5 [vI l0, vI l1, vI l2] [] (GF X, M, PTF v) K := by
  refine (px_go (by decide +kernel : pm_fe 177 0 = some (.iload_n 1, 1)) rfl).trans ?_
  refine (px_go (by decide +kernel : pm_fe 177 1 = some (.iload_n 0, 1)) rfl).trans ?_
  refine (ry_ic_ge (off := 5) (tgt := 7) h1 h2 (by decide +kernel)).trans ?_
  exact Iff.rfl
theorem r177_5 {d : Nat} {X : Nat × (Nat → Int)} {v : Nat → Int} {M : PH} {K : PV → PS → Prop} {l0 l1 l2 : Int} : pm_Run d 177 5 [vI l0, vI l1, vI l2] [] (GF X, M, PTF v) K ↔ K (vI l0) (GF X, M, PTF v) := by
  refine (px_go (by decide +kernel : pm_fe 177 5 = some (.iload_n 0, 1)) rfl).trans ?_
  refine (px_ri (by decide +kernel)).trans ?_
  exact Iff.rfl
theorem r177_7 {d : Nat} {X : Nat × (Nat → Int)} {v : Nat → Int} {M : PH} {K : PV → PS → Prop} {l0 l1 l2 : Int} (h1 : inR l1) (h2 : inR l2) : pm_Run d 177 7 [vI l0, vI l1, vI l2] [] (GF X, M, PTF v) K ↔ if l1 ≤ l2 then pm_Run d 177 16 [vI l0, vI l1, vI l2] [] (GF X, M, PTF v) K else pm_Run d 177 12 [vI l0, vI l1, vI l2] [] (GF X, M, PTF v) K := by
  refine (px_go (by decide +kernel : pm_fe 177 7 = some (.iload_n 1, 1)) rfl).trans ?_
  refine (px_go (by decide +kernel : pm_fe 177 8 = some (.iload_n 2, 1)) rfl).trans ?_
  refine (ry_ic_le (off := 7) (tgt := 16) h1 h2 (by decide +kernel)).trans ?_
  exact Iff.rfl
theorem r177_12 {d : Nat} {X : Nat × (Nat → Int)} {v : Nat → Int} {M : PH} {K : PV → PS → Prop} {l0 l1 l2 : Int} : pm_Run d 177 12 [vI l0, vI l1, vI l2] [] (GF X, M, PTF v) K ↔ pm_Run d 177 17 [vI l0, vI l1, vI l2] [vI l2] (GF X, M, PTF v) K := by
  refine (px_go (by decide +kernel : pm_fe 177 12 = some (.iload_n 2, 1)) rfl).trans ?_
  refine (px_goto (off := 4) (tgt := 17) (by decide +kernel)).trans ?_
  exact Iff.rfl
theorem r177_16 {d : Nat} {X : Nat × (Nat → Int)} {v : Nat → Int} {M : PH} {K : PV → PS → Prop} {l0 l1 l2 : Int} : pm_Run d 177 16 [vI l0, vI l1, vI l2] [] (GF X, M, PTF v) K ↔ pm_Run d 177 17 [vI l0, vI l1, vI l2] [vI l1] (GF X, M, PTF v) K := by
  refine (px_go (by decide +kernel : pm_fe 177 16 = some (.iload_n 1, 1)) rfl).trans ?_
  exact Iff.rfl
theorem r177_17 {d : Nat} {X : Nat × (Nat → Int)} {v : Nat → Int} {M : PH} {K : PV → PS → Prop} {l0 l1 l2 s0 : Int} : pm_Run d 177 17 [vI l0, vI l1, vI l2] [vI s0] (GF X, M, PTF v) K ↔ K (vI s0) (GF X, M, PTF v) := by
  refine (px_ri (by decide +kernel)).trans ?_
  exact Iff.rfl
