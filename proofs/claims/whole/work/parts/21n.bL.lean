-- L_law law([I)Z
theorem en308 {d : Nat} {p0 : Int} {S : PS} {K : PV → PS → Prop} : pm_Call (d + 1) 308 [.inr (.inr (.inl p0))] S K ↔ pm_Run d 308 0 [.inr (.inr (.inl p0)), PU, PU, PU] [] S K := pm_Call_s.trans (and_iff_right (show 1 ≤ pm_ml 308 from by decide +kernel))
theorem b308_15 {d : Nat} {G : PG} {M T : PH} {K : PV → PS → Prop} {l1 s0 : Int} : pm_Run d 308 15 [.inr (.inr (.inl (-2))), .inr (.inr (.inl l1)), PU, PU] [.inr (.inr (.inl s0))] (G, M, T) K ↔ pm_Run d 308 18 [.inr (.inr (.inl (-2))), .inr (.inr (.inl l1)), .inr (.inr (.inl s0)), .inl 0] [] (G, M, T) K := by
  refine (px_go (by decide +kernel : pm_fe 308 15 = some (.astore_n 2, 1)) rfl).trans ?_
  refine (px_go (by decide +kernel : pm_fe 308 16 = some (.iconst 0, 1)) rfl).trans ?_
  refine (px_go (by decide +kernel : pm_fe 308 17 = some (.istore_n 3, 1)) rfl).trans ?_
  exact Iff.rfl
theorem b308_18 {d : Nat} {G : PG} {M T : PH} {K : PV → PS → Prop} {l1 l2 l3 : Int} : pm_Run d 308 18 [.inr (.inr (.inl (-2))), .inr (.inr (.inl l1)), .inr (.inr (.inl l2)), .inl l3] [] (G, M, T) K ↔ if pm_sg ((G.2.2.2.1 : Int) - 6) < pm_sg l3 then pm_Run d 308 1128 [.inr (.inr (.inl (-2))), .inr (.inr (.inl l1)), .inr (.inr (.inl l2)), .inl l3] [] (G, M, T) K else pm_Run d 308 27 [.inr (.inr (.inl (-2))), .inr (.inr (.inl l1)), .inr (.inr (.inl l2)), .inl l3] [] (G, M, T) K := by
  refine (px_go (by decide +kernel : pm_fe 308 18 = some (.iload_n 3, 1)) rfl).trans ?_
  refine (px_go (by decide +kernel : pm_fe 308 19 = some (.aload_n 0, 1)) rfl).trans ?_
  refine (px_slen (by decide +kernel)).trans ?_
  refine (px_go (by decide +kernel : pm_fe 308 21 = some (.bipush 6, 2)) rfl).trans ?_
  refine (px_go (by decide +kernel : pm_fe 308 23 = some (.isub, 1)) rfl).trans ?_
  refine (px_ic_gt (off := 1104) (tgt := 1128) (by decide +kernel)).trans ?_
  exact Iff.rfl
theorem b308_27 {d : Nat} {G : PG} {M T : PH} {K : PV → PS → Prop} {l1 l2 l3 : Int} (h1 : 0 ≤ pm_sg l3) (h2 : pm_sg l3 < G.2.2.2.1) : pm_Run d 308 27 [.inr (.inr (.inl (-2))), .inr (.inr (.inl l1)), .inr (.inr (.inl l2)), .inl l3] [] (G, M, T) K ↔ pm_Run d 308 (pm_tg 0 [176, 239, 262, 275, 298, 321, 364, 397, 430, 473, 506, 539, 582, 605, 638, 681, 724, 757, 780, 803, 816, 839, 882, 905, 948, 991, 1014, 1027, 1050, 1063, 1086, 1099] 1122 (pm_sg (pm_and (G.2.2.2.2 (pm_sg l3).toNat) 31))) [.inr (.inr (.inl (-2))), .inr (.inr (.inl l1)), .inr (.inr (.inl l2)), .inl l3] [] (G, M, T) K := by
  refine (px_go (by decide +kernel : pm_fe 308 27 = some (.aload_n 0, 1)) rfl).trans ?_
  refine (px_go (by decide +kernel : pm_fe 308 28 = some (.iload_n 3, 1)) rfl).trans ?_
  refine (px_siald (by decide +kernel) h1 h2).trans ?_
  refine (px_go (by decide +kernel : pm_fe 308 30 = some (.bipush 31, 2)) rfl).trans ?_
  refine (px_go (by decide +kernel : pm_fe 308 32 = some (.iand, 1)) rfl).trans ?_
  refine (px_tsw (lo := 0) (dt := 1122) (tl := [176, 239, 262, 275, 298, 321, 364, 397, 430, 473, 506, 539, 582, 605, 638, 681, 724, 757, 780, 803, 816, 839, 882, 905, 948, 991, 1014, 1027, 1050, 1063, 1086, 1099]) (by decide +kernel : pm_fe 308 33 = some (.tableswitch 1089 0 31 #[143, 206, 229, 242, 265, 288, 331, 364, 397, 440, 473, 506, 549, 572, 605, 648, 691, 724, 747, 770, 783, 806, 849, 872, 915, 958, 981, 994, 1017, 1030, 1053, 1066], 143) ∧ _)).trans ?_
  exact Iff.rfl
theorem b308_176 {d : Nat} {G : PG} {M T : PH} {K : PV → PS → Prop} {l1 l2 l3 : Int} (h1 : 0 ≤ pm_sg (l3 + 1)) (h2 : pm_sg (l3 + 1) < G.2.2.2.1) (h3 : 0 ≤ pm_sg (l3 + 2)) (h4 : pm_sg (l3 + 2) < G.2.2.2.1) (h5 : 0 ≤ pm_sg (l3 + 3)) (h6 : pm_sg (l3 + 3) < G.2.2.2.1) (h7 : 0 ≤ pm_sg (l3 + 4)) (h8 : pm_sg (l3 + 4) < G.2.2.2.1) (h9 : 0 ≤ pm_sg (l3 + 5)) (h10 : pm_sg (l3 + 5) < G.2.2.2.1) (h11 : pm_ob G l1 11) : pm_Run d 308 176 [.inr (.inr (.inl (-2))), .inr (.inr (.inl l1)), .inr (.inr (.inl l2)), .inl l3] [] (G, M, T) K ↔ pm_Call d 132 [.inr (.inr (.inl l1)), .inl (G.2.2.2.2 (pm_sg (l3 + 1)).toNat), .inl (G.2.2.2.2 (pm_sg (l3 + 2)).toNat), .inl (G.2.2.2.2 (pm_sg (l3 + 3)).toNat), .inl (G.2.2.2.2 (pm_sg (l3 + 4)).toNat), .inl (G.2.2.2.2 (pm_sg (l3 + 5)).toNat)] (G, M, T) (fun r S1 => pm_Run d 308 205 [.inr (.inr (.inl (-2))), .inr (.inr (.inl l1)), .inr (.inr (.inl l2)), .inl l3] (pm_push r []) S1 K) := by
  refine (px_go (by decide +kernel : pm_fe 308 176 = some (.aload_n 1, 1)) rfl).trans ?_
  refine (px_go (by decide +kernel : pm_fe 308 177 = some (.aload_n 0, 1)) rfl).trans ?_
  refine (px_go (by decide +kernel : pm_fe 308 178 = some (.iload_n 3, 1)) rfl).trans ?_
  refine (px_go (by decide +kernel : pm_fe 308 179 = some (.iconst 1, 1)) rfl).trans ?_
  refine (px_go (by decide +kernel : pm_fe 308 180 = some (.iadd, 1)) rfl).trans ?_
  refine (px_siald (by decide +kernel) h1 h2).trans ?_
  refine (px_go (by decide +kernel : pm_fe 308 182 = some (.aload_n 0, 1)) rfl).trans ?_
  refine (px_go (by decide +kernel : pm_fe 308 183 = some (.iload_n 3, 1)) rfl).trans ?_
  refine (px_go (by decide +kernel : pm_fe 308 184 = some (.iconst 2, 1)) rfl).trans ?_
  refine (px_go (by decide +kernel : pm_fe 308 185 = some (.iadd, 1)) rfl).trans ?_
  refine (px_siald (by decide +kernel) h3 h4).trans ?_
  refine (px_go (by decide +kernel : pm_fe 308 187 = some (.aload_n 0, 1)) rfl).trans ?_
  refine (px_go (by decide +kernel : pm_fe 308 188 = some (.iload_n 3, 1)) rfl).trans ?_
  refine (px_go (by decide +kernel : pm_fe 308 189 = some (.iconst 3, 1)) rfl).trans ?_
  refine (px_go (by decide +kernel : pm_fe 308 190 = some (.iadd, 1)) rfl).trans ?_
  refine (px_siald (by decide +kernel) h5 h6).trans ?_
  refine (px_go (by decide +kernel : pm_fe 308 192 = some (.aload_n 0, 1)) rfl).trans ?_
  refine (px_go (by decide +kernel : pm_fe 308 193 = some (.iload_n 3, 1)) rfl).trans ?_
  refine (px_go (by decide +kernel : pm_fe 308 194 = some (.iconst 4, 1)) rfl).trans ?_
  refine (px_go (by decide +kernel : pm_fe 308 195 = some (.iadd, 1)) rfl).trans ?_
  refine (px_siald (by decide +kernel) h7 h8).trans ?_
  refine (px_go (by decide +kernel : pm_fe 308 197 = some (.aload_n 0, 1)) rfl).trans ?_
  refine (px_go (by decide +kernel : pm_fe 308 198 = some (.iload_n 3, 1)) rfl).trans ?_
  refine (px_go (by decide +kernel : pm_fe 308 199 = some (.iconst 5, 1)) rfl).trans ?_
  refine (px_go (by decide +kernel : pm_fe 308 200 = some (.iadd, 1)) rfl).trans ?_
  refine (px_siald (by decide +kernel) h9 h10).trans ?_
  refine (px_v5 (idx := 13) (m' := 132) (ci := 11) (by decide +kernel)).trans ((and_iff_right ⟨h11, (by simp [pm_wl_n, pm_wl_c, pm_w] : pm_wl [] ≤ 8)⟩).trans ?_)
  exact Iff.rfl
theorem b308_205 {d : Nat} {G : PG} {M T : PH} {K : PV → PS → Prop} {l1 l2 l3 s0 : Int} (h1 : 0 ≤ pm_sg (l3 + 1)) (h2 : pm_sg (l3 + 1) < G.2.2.2.1) (h3 : 0 ≤ pm_sg (l3 + 2)) (h4 : pm_sg (l3 + 2) < G.2.2.2.1) (h5 : 0 ≤ pm_sg (l3 + 3)) (h6 : pm_sg (l3 + 3) < G.2.2.2.1) (h7 : 0 ≤ pm_sg (l3 + 4)) (h8 : pm_sg (l3 + 4) < G.2.2.2.1) (h9 : 0 ≤ pm_sg (l3 + 5)) (h10 : pm_sg (l3 + 5) < G.2.2.2.1) (h11 : pm_ob G l2 12) : pm_Run d 308 205 [.inr (.inr (.inl (-2))), .inr (.inr (.inl l1)), .inr (.inr (.inl l2)), .inl l3] [.inl s0] (G, M, T) K ↔ pm_Call d 181 [.inr (.inr (.inl l2)), .inl (G.2.2.2.2 (pm_sg (l3 + 1)).toNat), .inl (G.2.2.2.2 (pm_sg (l3 + 2)).toNat), .inl (G.2.2.2.2 (pm_sg (l3 + 3)).toNat), .inl (G.2.2.2.2 (pm_sg (l3 + 4)).toNat), .inl (G.2.2.2.2 (pm_sg (l3 + 5)).toNat)] (G, M, T) (fun r S1 => pm_Run d 308 234 [.inr (.inr (.inl (-2))), .inr (.inr (.inl l1)), .inr (.inr (.inl l2)), .inl l3] (pm_push r [.inl s0]) S1 K) := by
  refine (px_go (by decide +kernel : pm_fe 308 205 = some (.aload_n 2, 1)) rfl).trans ?_
  refine (px_go (by decide +kernel : pm_fe 308 206 = some (.aload_n 0, 1)) rfl).trans ?_
  refine (px_go (by decide +kernel : pm_fe 308 207 = some (.iload_n 3, 1)) rfl).trans ?_
  refine (px_go (by decide +kernel : pm_fe 308 208 = some (.iconst 1, 1)) rfl).trans ?_
  refine (px_go (by decide +kernel : pm_fe 308 209 = some (.iadd, 1)) rfl).trans ?_
  refine (px_siald (by decide +kernel) h1 h2).trans ?_
  refine (px_go (by decide +kernel : pm_fe 308 211 = some (.aload_n 0, 1)) rfl).trans ?_
  refine (px_go (by decide +kernel : pm_fe 308 212 = some (.iload_n 3, 1)) rfl).trans ?_
  refine (px_go (by decide +kernel : pm_fe 308 213 = some (.iconst 2, 1)) rfl).trans ?_
  refine (px_go (by decide +kernel : pm_fe 308 214 = some (.iadd, 1)) rfl).trans ?_
  refine (px_siald (by decide +kernel) h3 h4).trans ?_
  refine (px_go (by decide +kernel : pm_fe 308 216 = some (.aload_n 0, 1)) rfl).trans ?_
  refine (px_go (by decide +kernel : pm_fe 308 217 = some (.iload_n 3, 1)) rfl).trans ?_
  refine (px_go (by decide +kernel : pm_fe 308 218 = some (.iconst 3, 1)) rfl).trans ?_
  refine (px_go (by decide +kernel : pm_fe 308 219 = some (.iadd, 1)) rfl).trans ?_
  refine (px_siald (by decide +kernel) h5 h6).trans ?_
  refine (px_go (by decide +kernel : pm_fe 308 221 = some (.aload_n 0, 1)) rfl).trans ?_
  refine (px_go (by decide +kernel : pm_fe 308 222 = some (.iload_n 3, 1)) rfl).trans ?_
  refine (px_go (by decide +kernel : pm_fe 308 223 = some (.iconst 4, 1)) rfl).trans ?_
  refine (px_go (by decide +kernel : pm_fe 308 224 = some (.iadd, 1)) rfl).trans ?_
  refine (px_siald (by decide +kernel) h7 h8).trans ?_
  refine (px_go (by decide +kernel : pm_fe 308 226 = some (.aload_n 0, 1)) rfl).trans ?_
  refine (px_go (by decide +kernel : pm_fe 308 227 = some (.iload_n 3, 1)) rfl).trans ?_
  refine (px_go (by decide +kernel : pm_fe 308 228 = some (.iconst 5, 1)) rfl).trans ?_
  refine (px_go (by decide +kernel : pm_fe 308 229 = some (.iadd, 1)) rfl).trans ?_
  refine (px_siald (by decide +kernel) h9 h10).trans ?_
  refine (px_v5 (idx := 17) (m' := 181) (ci := 12) (by decide +kernel)).trans ((and_iff_right ⟨h11, (by simp [pm_wl_n, pm_wl_c, pm_w] : pm_wl [.inl s0] ≤ 8)⟩).trans ?_)
  exact Iff.rfl
theorem b308_234 {d : Nat} {G : PG} {M T : PH} {K : PV → PS → Prop} {l1 l2 l3 s0 s1 : Int} : pm_Run d 308 234 [.inr (.inr (.inl (-2))), .inr (.inr (.inl l1)), .inr (.inr (.inl l2)), .inl l3] [.inl s0, .inl s1] (G, M, T) K ↔ if pm_sg s1 = pm_sg s0 then pm_Run d 308 1122 [.inr (.inr (.inl (-2))), .inr (.inr (.inl l1)), .inr (.inr (.inl l2)), .inl l3] [] (G, M, T) K else pm_Run d 308 237 [.inr (.inr (.inl (-2))), .inr (.inr (.inl l1)), .inr (.inr (.inl l2)), .inl l3] [] (G, M, T) K := by
  refine (px_ic_eq (off := 888) (tgt := 1122) (by decide +kernel)).trans ?_
  exact Iff.rfl
theorem b308_237 {d : Nat} {G : PG} {M T : PH} {K : PV → PS → Prop} {l1 l2 l3 : Int} : pm_Run d 308 237 [.inr (.inr (.inl (-2))), .inr (.inr (.inl l1)), .inr (.inr (.inl l2)), .inl l3] [] (G, M, T) K ↔ K (.inl 0) (G, M, T) := by
  refine (px_go (by decide +kernel : pm_fe 308 237 = some (.iconst 0, 1)) rfl).trans ?_
  refine (px_rz (by decide +kernel)).trans ((and_iff_right (by decide : (0 : Int) = (0 : Int) ∨ (0 : Int) = (1 : Int))).trans ?_)
  exact Iff.rfl
theorem b308_239 {d : Nat} {G : PG} {M T : PH} {K : PV → PS → Prop} {l1 l2 l3 : Int} (h1 : 0 ≤ pm_sg (l3 + 1)) (h2 : pm_sg (l3 + 1) < G.2.2.2.1) (h3 : pm_ob G l1 11) : pm_Run d 308 239 [.inr (.inr (.inl (-2))), .inr (.inr (.inl l1)), .inr (.inr (.inl l2)), .inl l3] [] (G, M, T) K ↔ pm_Call d 133 [.inr (.inr (.inl l1)), .inl (G.2.2.2.2 (pm_sg (l3 + 1)).toNat)] (G, M, T) (fun r S1 => pm_Run d 308 248 [.inr (.inr (.inl (-2))), .inr (.inr (.inl l1)), .inr (.inr (.inl l2)), .inl l3] (pm_push r []) S1 K) := by
  refine (px_go (by decide +kernel : pm_fe 308 239 = some (.aload_n 1, 1)) rfl).trans ?_
  refine (px_go (by decide +kernel : pm_fe 308 240 = some (.aload_n 0, 1)) rfl).trans ?_
  refine (px_go (by decide +kernel : pm_fe 308 241 = some (.iload_n 3, 1)) rfl).trans ?_
  refine (px_go (by decide +kernel : pm_fe 308 242 = some (.iconst 1, 1)) rfl).trans ?_
  refine (px_go (by decide +kernel : pm_fe 308 243 = some (.iadd, 1)) rfl).trans ?_
  refine (px_siald (by decide +kernel) h1 h2).trans ?_
  refine (px_v1 (idx := 18) (m' := 133) (ci := 11) (by decide +kernel)).trans ((and_iff_right ⟨h3, (by simp [pm_wl_n, pm_wl_c, pm_w] : pm_wl [] ≤ 8)⟩).trans ?_)
  exact Iff.rfl
theorem b308_248 {d : Nat} {G : PG} {M T : PH} {K : PV → PS → Prop} {l1 l2 l3 s0 : Int} (h1 : 0 ≤ pm_sg (l3 + 1)) (h2 : pm_sg (l3 + 1) < G.2.2.2.1) (h3 : pm_ob G l2 12) : pm_Run d 308 248 [.inr (.inr (.inl (-2))), .inr (.inr (.inl l1)), .inr (.inr (.inl l2)), .inl l3] [.inl s0] (G, M, T) K ↔ pm_Call d 182 [.inr (.inr (.inl l2)), .inl (G.2.2.2.2 (pm_sg (l3 + 1)).toNat)] (G, M, T) (fun r S1 => pm_Run d 308 257 [.inr (.inr (.inl (-2))), .inr (.inr (.inl l1)), .inr (.inr (.inl l2)), .inl l3] (pm_push r [.inl s0]) S1 K) := by
  refine (px_go (by decide +kernel : pm_fe 308 248 = some (.aload_n 2, 1)) rfl).trans ?_
  refine (px_go (by decide +kernel : pm_fe 308 249 = some (.aload_n 0, 1)) rfl).trans ?_
  refine (px_go (by decide +kernel : pm_fe 308 250 = some (.iload_n 3, 1)) rfl).trans ?_
  refine (px_go (by decide +kernel : pm_fe 308 251 = some (.iconst 1, 1)) rfl).trans ?_
  refine (px_go (by decide +kernel : pm_fe 308 252 = some (.iadd, 1)) rfl).trans ?_
  refine (px_siald (by decide +kernel) h1 h2).trans ?_
  refine (px_v1 (idx := 22) (m' := 182) (ci := 12) (by decide +kernel)).trans ((and_iff_right ⟨h3, (by simp [pm_wl_n, pm_wl_c, pm_w] : pm_wl [.inl s0] ≤ 8)⟩).trans ?_)
  exact Iff.rfl
theorem b308_257 {d : Nat} {G : PG} {M T : PH} {K : PV → PS → Prop} {l1 l2 l3 s0 s1 : Int} : pm_Run d 308 257 [.inr (.inr (.inl (-2))), .inr (.inr (.inl l1)), .inr (.inr (.inl l2)), .inl l3] [.inl s0, .inl s1] (G, M, T) K ↔ if pm_sg s1 = pm_sg s0 then pm_Run d 308 1122 [.inr (.inr (.inl (-2))), .inr (.inr (.inl l1)), .inr (.inr (.inl l2)), .inl l3] [] (G, M, T) K else pm_Run d 308 260 [.inr (.inr (.inl (-2))), .inr (.inr (.inl l1)), .inr (.inr (.inl l2)), .inl l3] [] (G, M, T) K := by
  refine (px_ic_eq (off := 865) (tgt := 1122) (by decide +kernel)).trans ?_
  exact Iff.rfl
theorem b308_260 {d : Nat} {G : PG} {M T : PH} {K : PV → PS → Prop} {l1 l2 l3 : Int} : pm_Run d 308 260 [.inr (.inr (.inl (-2))), .inr (.inr (.inl l1)), .inr (.inr (.inl l2)), .inl l3] [] (G, M, T) K ↔ K (.inl 0) (G, M, T) := by
  refine (px_go (by decide +kernel : pm_fe 308 260 = some (.iconst 0, 1)) rfl).trans ?_
  refine (px_rz (by decide +kernel)).trans ((and_iff_right (by decide : (0 : Int) = (0 : Int) ∨ (0 : Int) = (1 : Int))).trans ?_)
  exact Iff.rfl
theorem b308_262 {d : Nat} {G : PG} {M T : PH} {K : PV → PS → Prop} {l1 l2 l3 : Int} (h1 : pm_ob G l1 11) : pm_Run d 308 262 [.inr (.inr (.inl (-2))), .inr (.inr (.inl l1)), .inr (.inr (.inl l2)), .inl l3] [] (G, M, T) K ↔ pm_Call d 134 [.inr (.inr (.inl l1))] (G, M, T) (fun r S1 => pm_Run d 308 266 [.inr (.inr (.inl (-2))), .inr (.inr (.inl l1)), .inr (.inr (.inl l2)), .inl l3] (pm_push r []) S1 K) := by
  refine (px_go (by decide +kernel : pm_fe 308 262 = some (.aload_n 1, 1)) rfl).trans ?_
  refine (px_v0 (idx := 23) (m' := 134) (ci := 11) (by decide +kernel)).trans ((and_iff_right ⟨h1, (by simp [pm_wl_n, pm_wl_c, pm_w] : pm_wl [] ≤ 8)⟩).trans ?_)
  exact Iff.rfl
theorem b308_266 {d : Nat} {G : PG} {M T : PH} {K : PV → PS → Prop} {l1 l2 l3 s0 : Int} (h1 : pm_ob G l2 12) : pm_Run d 308 266 [.inr (.inr (.inl (-2))), .inr (.inr (.inl l1)), .inr (.inr (.inl l2)), .inl l3] [.inl s0] (G, M, T) K ↔ pm_Call d 222 [.inr (.inr (.inl l2))] (G, M, T) (fun r S1 => pm_Run d 308 270 [.inr (.inr (.inl (-2))), .inr (.inr (.inl l1)), .inr (.inr (.inl l2)), .inl l3] (pm_push r [.inl s0]) S1 K) := by
  refine (px_go (by decide +kernel : pm_fe 308 266 = some (.aload_n 2, 1)) rfl).trans ?_
  refine (px_v0 (idx := 27) (m' := 222) (ci := 12) (by decide +kernel)).trans ((and_iff_right ⟨h1, (by simp [pm_wl_n, pm_wl_c, pm_w] : pm_wl [.inl s0] ≤ 8)⟩).trans ?_)
  exact Iff.rfl
theorem b308_270 {d : Nat} {G : PG} {M T : PH} {K : PV → PS → Prop} {l1 l2 l3 s0 s1 : Int} : pm_Run d 308 270 [.inr (.inr (.inl (-2))), .inr (.inr (.inl l1)), .inr (.inr (.inl l2)), .inl l3] [.inl s0, .inl s1] (G, M, T) K ↔ if pm_sg s1 = pm_sg s0 then pm_Run d 308 1122 [.inr (.inr (.inl (-2))), .inr (.inr (.inl l1)), .inr (.inr (.inl l2)), .inl l3] [] (G, M, T) K else pm_Run d 308 273 [.inr (.inr (.inl (-2))), .inr (.inr (.inl l1)), .inr (.inr (.inl l2)), .inl l3] [] (G, M, T) K := by
  refine (px_ic_eq (off := 852) (tgt := 1122) (by decide +kernel)).trans ?_
  exact Iff.rfl
theorem b308_273 {d : Nat} {G : PG} {M T : PH} {K : PV → PS → Prop} {l1 l2 l3 : Int} : pm_Run d 308 273 [.inr (.inr (.inl (-2))), .inr (.inr (.inl l1)), .inr (.inr (.inl l2)), .inl l3] [] (G, M, T) K ↔ K (.inl 0) (G, M, T) := by
  refine (px_go (by decide +kernel : pm_fe 308 273 = some (.iconst 0, 1)) rfl).trans ?_
  refine (px_rz (by decide +kernel)).trans ((and_iff_right (by decide : (0 : Int) = (0 : Int) ∨ (0 : Int) = (1 : Int))).trans ?_)
  exact Iff.rfl
theorem b308_275 {d : Nat} {G : PG} {M T : PH} {K : PV → PS → Prop} {l1 l2 l3 : Int} (h1 : 0 ≤ pm_sg (l3 + 1)) (h2 : pm_sg (l3 + 1) < G.2.2.2.1) (h3 : pm_ob G l1 11) : pm_Run d 308 275 [.inr (.inr (.inl (-2))), .inr (.inr (.inl l1)), .inr (.inr (.inl l2)), .inl l3] [] (G, M, T) K ↔ pm_Call d 135 [.inr (.inr (.inl l1)), .inl (G.2.2.2.2 (pm_sg (l3 + 1)).toNat)] (G, M, T) (fun r S1 => pm_Run d 308 284 [.inr (.inr (.inl (-2))), .inr (.inr (.inl l1)), .inr (.inr (.inl l2)), .inl l3] (pm_push r []) S1 K) := by
  refine (px_go (by decide +kernel : pm_fe 308 275 = some (.aload_n 1, 1)) rfl).trans ?_
  refine (px_go (by decide +kernel : pm_fe 308 276 = some (.aload_n 0, 1)) rfl).trans ?_
  refine (px_go (by decide +kernel : pm_fe 308 277 = some (.iload_n 3, 1)) rfl).trans ?_
  refine (px_go (by decide +kernel : pm_fe 308 278 = some (.iconst 1, 1)) rfl).trans ?_
  refine (px_go (by decide +kernel : pm_fe 308 279 = some (.iadd, 1)) rfl).trans ?_
  refine (px_siald (by decide +kernel) h1 h2).trans ?_
  refine (px_v1 (idx := 28) (m' := 135) (ci := 11) (by decide +kernel)).trans ((and_iff_right ⟨h3, (by simp [pm_wl_n, pm_wl_c, pm_w] : pm_wl [] ≤ 8)⟩).trans ?_)
  exact Iff.rfl
theorem b308_284 {d : Nat} {G : PG} {M T : PH} {K : PV → PS → Prop} {l1 l2 l3 s0 : Int} (h1 : 0 ≤ pm_sg (l3 + 1)) (h2 : pm_sg (l3 + 1) < G.2.2.2.1) (h3 : pm_ob G l2 12) : pm_Run d 308 284 [.inr (.inr (.inl (-2))), .inr (.inr (.inl l1)), .inr (.inr (.inl l2)), .inl l3] [.inl s0] (G, M, T) K ↔ pm_Call d 223 [.inr (.inr (.inl l2)), .inl (G.2.2.2.2 (pm_sg (l3 + 1)).toNat)] (G, M, T) (fun r S1 => pm_Run d 308 293 [.inr (.inr (.inl (-2))), .inr (.inr (.inl l1)), .inr (.inr (.inl l2)), .inl l3] (pm_push r [.inl s0]) S1 K) := by
  refine (px_go (by decide +kernel : pm_fe 308 284 = some (.aload_n 2, 1)) rfl).trans ?_
  refine (px_go (by decide +kernel : pm_fe 308 285 = some (.aload_n 0, 1)) rfl).trans ?_
  refine (px_go (by decide +kernel : pm_fe 308 286 = some (.iload_n 3, 1)) rfl).trans ?_
  refine (px_go (by decide +kernel : pm_fe 308 287 = some (.iconst 1, 1)) rfl).trans ?_
  refine (px_go (by decide +kernel : pm_fe 308 288 = some (.iadd, 1)) rfl).trans ?_
  refine (px_siald (by decide +kernel) h1 h2).trans ?_
  refine (px_v1 (idx := 32) (m' := 223) (ci := 12) (by decide +kernel)).trans ((and_iff_right ⟨h3, (by simp [pm_wl_n, pm_wl_c, pm_w] : pm_wl [.inl s0] ≤ 8)⟩).trans ?_)
  exact Iff.rfl
theorem b308_293 {d : Nat} {G : PG} {M T : PH} {K : PV → PS → Prop} {l1 l2 l3 s0 s1 : Int} : pm_Run d 308 293 [.inr (.inr (.inl (-2))), .inr (.inr (.inl l1)), .inr (.inr (.inl l2)), .inl l3] [.inl s0, .inl s1] (G, M, T) K ↔ if pm_sg s1 = pm_sg s0 then pm_Run d 308 1122 [.inr (.inr (.inl (-2))), .inr (.inr (.inl l1)), .inr (.inr (.inl l2)), .inl l3] [] (G, M, T) K else pm_Run d 308 296 [.inr (.inr (.inl (-2))), .inr (.inr (.inl l1)), .inr (.inr (.inl l2)), .inl l3] [] (G, M, T) K := by
  refine (px_ic_eq (off := 829) (tgt := 1122) (by decide +kernel)).trans ?_
  exact Iff.rfl
theorem b308_296 {d : Nat} {G : PG} {M T : PH} {K : PV → PS → Prop} {l1 l2 l3 : Int} : pm_Run d 308 296 [.inr (.inr (.inl (-2))), .inr (.inr (.inl l1)), .inr (.inr (.inl l2)), .inl l3] [] (G, M, T) K ↔ K (.inl 0) (G, M, T) := by
  refine (px_go (by decide +kernel : pm_fe 308 296 = some (.iconst 0, 1)) rfl).trans ?_
  refine (px_rz (by decide +kernel)).trans ((and_iff_right (by decide : (0 : Int) = (0 : Int) ∨ (0 : Int) = (1 : Int))).trans ?_)
  exact Iff.rfl
theorem b308_298 {d : Nat} {G : PG} {M T : PH} {K : PV → PS → Prop} {l1 l2 l3 : Int} (h1 : 0 ≤ pm_sg (l3 + 1)) (h2 : pm_sg (l3 + 1) < G.2.2.2.1) (h3 : pm_ob G l1 11) : pm_Run d 308 298 [.inr (.inr (.inl (-2))), .inr (.inr (.inl l1)), .inr (.inr (.inl l2)), .inl l3] [] (G, M, T) K ↔ pm_Call d 136 [.inr (.inr (.inl l1)), .inl (G.2.2.2.2 (pm_sg (l3 + 1)).toNat)] (G, M, T) (fun r S1 => pm_Run d 308 307 [.inr (.inr (.inl (-2))), .inr (.inr (.inl l1)), .inr (.inr (.inl l2)), .inl l3] (pm_push r []) S1 K) := by
  refine (px_go (by decide +kernel : pm_fe 308 298 = some (.aload_n 1, 1)) rfl).trans ?_
  refine (px_go (by decide +kernel : pm_fe 308 299 = some (.aload_n 0, 1)) rfl).trans ?_
  refine (px_go (by decide +kernel : pm_fe 308 300 = some (.iload_n 3, 1)) rfl).trans ?_
  refine (px_go (by decide +kernel : pm_fe 308 301 = some (.iconst 1, 1)) rfl).trans ?_
  refine (px_go (by decide +kernel : pm_fe 308 302 = some (.iadd, 1)) rfl).trans ?_
  refine (px_siald (by decide +kernel) h1 h2).trans ?_
  refine (px_v1 (idx := 33) (m' := 136) (ci := 11) (by decide +kernel)).trans ((and_iff_right ⟨h3, (by simp [pm_wl_n, pm_wl_c, pm_w] : pm_wl [] ≤ 8)⟩).trans ?_)
  exact Iff.rfl
theorem b308_307 {d : Nat} {G : PG} {M T : PH} {K : PV → PS → Prop} {l1 l2 l3 s0 : Int} (h1 : 0 ≤ pm_sg (l3 + 1)) (h2 : pm_sg (l3 + 1) < G.2.2.2.1) (h3 : pm_ob G l2 12) : pm_Run d 308 307 [.inr (.inr (.inl (-2))), .inr (.inr (.inl l1)), .inr (.inr (.inl l2)), .inl l3] [.inl s0] (G, M, T) K ↔ pm_Call d 261 [.inr (.inr (.inl l2)), .inl (G.2.2.2.2 (pm_sg (l3 + 1)).toNat)] (G, M, T) (fun r S1 => pm_Run d 308 316 [.inr (.inr (.inl (-2))), .inr (.inr (.inl l1)), .inr (.inr (.inl l2)), .inl l3] (pm_push r [.inl s0]) S1 K) := by
  refine (px_go (by decide +kernel : pm_fe 308 307 = some (.aload_n 2, 1)) rfl).trans ?_
  refine (px_go (by decide +kernel : pm_fe 308 308 = some (.aload_n 0, 1)) rfl).trans ?_
  refine (px_go (by decide +kernel : pm_fe 308 309 = some (.iload_n 3, 1)) rfl).trans ?_
  refine (px_go (by decide +kernel : pm_fe 308 310 = some (.iconst 1, 1)) rfl).trans ?_
  refine (px_go (by decide +kernel : pm_fe 308 311 = some (.iadd, 1)) rfl).trans ?_
  refine (px_siald (by decide +kernel) h1 h2).trans ?_
  refine (px_v1 (idx := 36) (m' := 261) (ci := 12) (by decide +kernel)).trans ((and_iff_right ⟨h3, (by simp [pm_wl_n, pm_wl_c, pm_w] : pm_wl [.inl s0] ≤ 8)⟩).trans ?_)
  exact Iff.rfl
theorem b308_316 {d : Nat} {G : PG} {M T : PH} {K : PV → PS → Prop} {l1 l2 l3 s0 s1 : Int} : pm_Run d 308 316 [.inr (.inr (.inl (-2))), .inr (.inr (.inl l1)), .inr (.inr (.inl l2)), .inl l3] [.inl s0, .inl s1] (G, M, T) K ↔ if pm_sg s1 = pm_sg s0 then pm_Run d 308 1122 [.inr (.inr (.inl (-2))), .inr (.inr (.inl l1)), .inr (.inr (.inl l2)), .inl l3] [] (G, M, T) K else pm_Run d 308 319 [.inr (.inr (.inl (-2))), .inr (.inr (.inl l1)), .inr (.inr (.inl l2)), .inl l3] [] (G, M, T) K := by
  refine (px_ic_eq (off := 806) (tgt := 1122) (by decide +kernel)).trans ?_
  exact Iff.rfl
theorem b308_319 {d : Nat} {G : PG} {M T : PH} {K : PV → PS → Prop} {l1 l2 l3 : Int} : pm_Run d 308 319 [.inr (.inr (.inl (-2))), .inr (.inr (.inl l1)), .inr (.inr (.inl l2)), .inl l3] [] (G, M, T) K ↔ K (.inl 0) (G, M, T) := by
  refine (px_go (by decide +kernel : pm_fe 308 319 = some (.iconst 0, 1)) rfl).trans ?_
  refine (px_rz (by decide +kernel)).trans ((and_iff_right (by decide : (0 : Int) = (0 : Int) ∨ (0 : Int) = (1 : Int))).trans ?_)
  exact Iff.rfl
theorem b308_321 {d : Nat} {G : PG} {M T : PH} {K : PV → PS → Prop} {l1 l2 l3 : Int} (h1 : 0 ≤ pm_sg (l3 + 1)) (h2 : pm_sg (l3 + 1) < G.2.2.2.1) (h3 : 0 ≤ pm_sg (l3 + 2)) (h4 : pm_sg (l3 + 2) < G.2.2.2.1) (h5 : 0 ≤ pm_sg (l3 + 3)) (h6 : pm_sg (l3 + 3) < G.2.2.2.1) (h7 : pm_ob G l1 11) : pm_Run d 308 321 [.inr (.inr (.inl (-2))), .inr (.inr (.inl l1)), .inr (.inr (.inl l2)), .inl l3] [] (G, M, T) K ↔ pm_Call d 137 [.inr (.inr (.inl l1)), .inl (G.2.2.2.2 (pm_sg (l3 + 1)).toNat), .inl (G.2.2.2.2 (pm_sg (l3 + 2)).toNat), .inl (G.2.2.2.2 (pm_sg (l3 + 3)).toNat)] (G, M, T) (fun r S1 => pm_Run d 308 340 [.inr (.inr (.inl (-2))), .inr (.inr (.inl l1)), .inr (.inr (.inl l2)), .inl l3] (pm_push r []) S1 K) := by
  refine (px_go (by decide +kernel : pm_fe 308 321 = some (.aload_n 1, 1)) rfl).trans ?_
  refine (px_go (by decide +kernel : pm_fe 308 322 = some (.aload_n 0, 1)) rfl).trans ?_
  refine (px_go (by decide +kernel : pm_fe 308 323 = some (.iload_n 3, 1)) rfl).trans ?_
  refine (px_go (by decide +kernel : pm_fe 308 324 = some (.iconst 1, 1)) rfl).trans ?_
  refine (px_go (by decide +kernel : pm_fe 308 325 = some (.iadd, 1)) rfl).trans ?_
  refine (px_siald (by decide +kernel) h1 h2).trans ?_
  refine (px_go (by decide +kernel : pm_fe 308 327 = some (.aload_n 0, 1)) rfl).trans ?_
  refine (px_go (by decide +kernel : pm_fe 308 328 = some (.iload_n 3, 1)) rfl).trans ?_
  refine (px_go (by decide +kernel : pm_fe 308 329 = some (.iconst 2, 1)) rfl).trans ?_
  refine (px_go (by decide +kernel : pm_fe 308 330 = some (.iadd, 1)) rfl).trans ?_
  refine (px_siald (by decide +kernel) h3 h4).trans ?_
  refine (px_go (by decide +kernel : pm_fe 308 332 = some (.aload_n 0, 1)) rfl).trans ?_
  refine (px_go (by decide +kernel : pm_fe 308 333 = some (.iload_n 3, 1)) rfl).trans ?_
  refine (px_go (by decide +kernel : pm_fe 308 334 = some (.iconst 3, 1)) rfl).trans ?_
  refine (px_go (by decide +kernel : pm_fe 308 335 = some (.iadd, 1)) rfl).trans ?_
  refine (px_siald (by decide +kernel) h5 h6).trans ?_
  refine (px_v3 (idx := 37) (m' := 137) (ci := 11) (by decide +kernel)).trans ((and_iff_right ⟨h7, (by simp [pm_wl_n, pm_wl_c, pm_w] : pm_wl [] ≤ 8)⟩).trans ?_)
  exact Iff.rfl
theorem b308_340 {d : Nat} {G : PG} {M T : PH} {K : PV → PS → Prop} {l1 l2 l3 s0 : Int} (h1 : 0 ≤ pm_sg (l3 + 1)) (h2 : pm_sg (l3 + 1) < G.2.2.2.1) (h3 : 0 ≤ pm_sg (l3 + 2)) (h4 : pm_sg (l3 + 2) < G.2.2.2.1) (h5 : 0 ≤ pm_sg (l3 + 3)) (h6 : pm_sg (l3 + 3) < G.2.2.2.1) (h7 : pm_ob G l2 12) : pm_Run d 308 340 [.inr (.inr (.inl (-2))), .inr (.inr (.inl l1)), .inr (.inr (.inl l2)), .inl l3] [.inl s0] (G, M, T) K ↔ pm_Call d 262 [.inr (.inr (.inl l2)), .inl (G.2.2.2.2 (pm_sg (l3 + 1)).toNat), .inl (G.2.2.2.2 (pm_sg (l3 + 2)).toNat), .inl (G.2.2.2.2 (pm_sg (l3 + 3)).toNat)] (G, M, T) (fun r S1 => pm_Run d 308 359 [.inr (.inr (.inl (-2))), .inr (.inr (.inl l1)), .inr (.inr (.inl l2)), .inl l3] (pm_push r [.inl s0]) S1 K) := by
  refine (px_go (by decide +kernel : pm_fe 308 340 = some (.aload_n 2, 1)) rfl).trans ?_
  refine (px_go (by decide +kernel : pm_fe 308 341 = some (.aload_n 0, 1)) rfl).trans ?_
  refine (px_go (by decide +kernel : pm_fe 308 342 = some (.iload_n 3, 1)) rfl).trans ?_
  refine (px_go (by decide +kernel : pm_fe 308 343 = some (.iconst 1, 1)) rfl).trans ?_
  refine (px_go (by decide +kernel : pm_fe 308 344 = some (.iadd, 1)) rfl).trans ?_
  refine (px_siald (by decide +kernel) h1 h2).trans ?_
  refine (px_go (by decide +kernel : pm_fe 308 346 = some (.aload_n 0, 1)) rfl).trans ?_
  refine (px_go (by decide +kernel : pm_fe 308 347 = some (.iload_n 3, 1)) rfl).trans ?_
  refine (px_go (by decide +kernel : pm_fe 308 348 = some (.iconst 2, 1)) rfl).trans ?_
  refine (px_go (by decide +kernel : pm_fe 308 349 = some (.iadd, 1)) rfl).trans ?_
  refine (px_siald (by decide +kernel) h3 h4).trans ?_
  refine (px_go (by decide +kernel : pm_fe 308 351 = some (.aload_n 0, 1)) rfl).trans ?_
  refine (px_go (by decide +kernel : pm_fe 308 352 = some (.iload_n 3, 1)) rfl).trans ?_
  refine (px_go (by decide +kernel : pm_fe 308 353 = some (.iconst 3, 1)) rfl).trans ?_
  refine (px_go (by decide +kernel : pm_fe 308 354 = some (.iadd, 1)) rfl).trans ?_
  refine (px_siald (by decide +kernel) h5 h6).trans ?_
  refine (px_v3 (idx := 41) (m' := 262) (ci := 12) (by decide +kernel)).trans ((and_iff_right ⟨h7, (by simp [pm_wl_n, pm_wl_c, pm_w] : pm_wl [.inl s0] ≤ 8)⟩).trans ?_)
  exact Iff.rfl
theorem b308_359 {d : Nat} {G : PG} {M T : PH} {K : PV → PS → Prop} {l1 l2 l3 s0 s1 : Int} : pm_Run d 308 359 [.inr (.inr (.inl (-2))), .inr (.inr (.inl l1)), .inr (.inr (.inl l2)), .inl l3] [.inl s0, .inl s1] (G, M, T) K ↔ if pm_sg s1 = pm_sg s0 then pm_Run d 308 1122 [.inr (.inr (.inl (-2))), .inr (.inr (.inl l1)), .inr (.inr (.inl l2)), .inl l3] [] (G, M, T) K else pm_Run d 308 362 [.inr (.inr (.inl (-2))), .inr (.inr (.inl l1)), .inr (.inr (.inl l2)), .inl l3] [] (G, M, T) K := by
  refine (px_ic_eq (off := 763) (tgt := 1122) (by decide +kernel)).trans ?_
  exact Iff.rfl
theorem b308_362 {d : Nat} {G : PG} {M T : PH} {K : PV → PS → Prop} {l1 l2 l3 : Int} : pm_Run d 308 362 [.inr (.inr (.inl (-2))), .inr (.inr (.inl l1)), .inr (.inr (.inl l2)), .inl l3] [] (G, M, T) K ↔ K (.inl 0) (G, M, T) := by
  refine (px_go (by decide +kernel : pm_fe 308 362 = some (.iconst 0, 1)) rfl).trans ?_
  refine (px_rz (by decide +kernel)).trans ((and_iff_right (by decide : (0 : Int) = (0 : Int) ∨ (0 : Int) = (1 : Int))).trans ?_)
  exact Iff.rfl
theorem b308_364 {d : Nat} {G : PG} {M T : PH} {K : PV → PS → Prop} {l1 l2 l3 : Int} (h1 : 0 ≤ pm_sg (l3 + 1)) (h2 : pm_sg (l3 + 1) < G.2.2.2.1) (h3 : 0 ≤ pm_sg (l3 + 2)) (h4 : pm_sg (l3 + 2) < G.2.2.2.1) (h5 : pm_ob G l1 11) : pm_Run d 308 364 [.inr (.inr (.inl (-2))), .inr (.inr (.inl l1)), .inr (.inr (.inl l2)), .inl l3] [] (G, M, T) K ↔ pm_Call d 138 [.inr (.inr (.inl l1)), .inl (G.2.2.2.2 (pm_sg (l3 + 1)).toNat), .inl (G.2.2.2.2 (pm_sg (l3 + 2)).toNat)] (G, M, T) (fun r S1 => pm_Run d 308 378 [.inr (.inr (.inl (-2))), .inr (.inr (.inl l1)), .inr (.inr (.inl l2)), .inl l3] (pm_push r []) S1 K) := by
  refine (px_go (by decide +kernel : pm_fe 308 364 = some (.aload_n 1, 1)) rfl).trans ?_
  refine (px_go (by decide +kernel : pm_fe 308 365 = some (.aload_n 0, 1)) rfl).trans ?_
  refine (px_go (by decide +kernel : pm_fe 308 366 = some (.iload_n 3, 1)) rfl).trans ?_
  refine (px_go (by decide +kernel : pm_fe 308 367 = some (.iconst 1, 1)) rfl).trans ?_
  refine (px_go (by decide +kernel : pm_fe 308 368 = some (.iadd, 1)) rfl).trans ?_
  refine (px_siald (by decide +kernel) h1 h2).trans ?_
  refine (px_go (by decide +kernel : pm_fe 308 370 = some (.aload_n 0, 1)) rfl).trans ?_
  refine (px_go (by decide +kernel : pm_fe 308 371 = some (.iload_n 3, 1)) rfl).trans ?_
  refine (px_go (by decide +kernel : pm_fe 308 372 = some (.iconst 2, 1)) rfl).trans ?_
  refine (px_go (by decide +kernel : pm_fe 308 373 = some (.iadd, 1)) rfl).trans ?_
  refine (px_siald (by decide +kernel) h3 h4).trans ?_
  refine (px_v2 (idx := 42) (m' := 138) (ci := 11) (by decide +kernel)).trans ((and_iff_right ⟨h5, (by simp [pm_wl_n, pm_wl_c, pm_w] : pm_wl [] ≤ 8)⟩).trans ?_)
  exact Iff.rfl
theorem b308_378 {d : Nat} {G : PG} {M T : PH} {K : PV → PS → Prop} {l1 l2 l3 s0 : Int} (h1 : 0 ≤ pm_sg (l3 + 1)) (h2 : pm_sg (l3 + 1) < G.2.2.2.1) (h3 : 0 ≤ pm_sg (l3 + 2)) (h4 : pm_sg (l3 + 2) < G.2.2.2.1) (h5 : pm_ob G l2 12) : pm_Run d 308 378 [.inr (.inr (.inl (-2))), .inr (.inr (.inl l1)), .inr (.inr (.inl l2)), .inl l3] [.inl s0] (G, M, T) K ↔ pm_Call d 263 [.inr (.inr (.inl l2)), .inl (G.2.2.2.2 (pm_sg (l3 + 1)).toNat), .inl (G.2.2.2.2 (pm_sg (l3 + 2)).toNat)] (G, M, T) (fun r S1 => pm_Run d 308 392 [.inr (.inr (.inl (-2))), .inr (.inr (.inl l1)), .inr (.inr (.inl l2)), .inl l3] (pm_push r [.inl s0]) S1 K) := by
  refine (px_go (by decide +kernel : pm_fe 308 378 = some (.aload_n 2, 1)) rfl).trans ?_
  refine (px_go (by decide +kernel : pm_fe 308 379 = some (.aload_n 0, 1)) rfl).trans ?_
  refine (px_go (by decide +kernel : pm_fe 308 380 = some (.iload_n 3, 1)) rfl).trans ?_
  refine (px_go (by decide +kernel : pm_fe 308 381 = some (.iconst 1, 1)) rfl).trans ?_
  refine (px_go (by decide +kernel : pm_fe 308 382 = some (.iadd, 1)) rfl).trans ?_
  refine (px_siald (by decide +kernel) h1 h2).trans ?_
  refine (px_go (by decide +kernel : pm_fe 308 384 = some (.aload_n 0, 1)) rfl).trans ?_
  refine (px_go (by decide +kernel : pm_fe 308 385 = some (.iload_n 3, 1)) rfl).trans ?_
  refine (px_go (by decide +kernel : pm_fe 308 386 = some (.iconst 2, 1)) rfl).trans ?_
  refine (px_go (by decide +kernel : pm_fe 308 387 = some (.iadd, 1)) rfl).trans ?_
  refine (px_siald (by decide +kernel) h3 h4).trans ?_
  refine (px_v2 (idx := 46) (m' := 263) (ci := 12) (by decide +kernel)).trans ((and_iff_right ⟨h5, (by simp [pm_wl_n, pm_wl_c, pm_w] : pm_wl [.inl s0] ≤ 8)⟩).trans ?_)
  exact Iff.rfl
theorem b308_392 {d : Nat} {G : PG} {M T : PH} {K : PV → PS → Prop} {l1 l2 l3 s0 s1 : Int} : pm_Run d 308 392 [.inr (.inr (.inl (-2))), .inr (.inr (.inl l1)), .inr (.inr (.inl l2)), .inl l3] [.inl s0, .inl s1] (G, M, T) K ↔ if pm_sg s1 = pm_sg s0 then pm_Run d 308 1122 [.inr (.inr (.inl (-2))), .inr (.inr (.inl l1)), .inr (.inr (.inl l2)), .inl l3] [] (G, M, T) K else pm_Run d 308 395 [.inr (.inr (.inl (-2))), .inr (.inr (.inl l1)), .inr (.inr (.inl l2)), .inl l3] [] (G, M, T) K := by
  refine (px_ic_eq (off := 730) (tgt := 1122) (by decide +kernel)).trans ?_
  exact Iff.rfl
theorem b308_395 {d : Nat} {G : PG} {M T : PH} {K : PV → PS → Prop} {l1 l2 l3 : Int} : pm_Run d 308 395 [.inr (.inr (.inl (-2))), .inr (.inr (.inl l1)), .inr (.inr (.inl l2)), .inl l3] [] (G, M, T) K ↔ K (.inl 0) (G, M, T) := by
  refine (px_go (by decide +kernel : pm_fe 308 395 = some (.iconst 0, 1)) rfl).trans ?_
  refine (px_rz (by decide +kernel)).trans ((and_iff_right (by decide : (0 : Int) = (0 : Int) ∨ (0 : Int) = (1 : Int))).trans ?_)
  exact Iff.rfl
theorem b308_397 {d : Nat} {G : PG} {M T : PH} {K : PV → PS → Prop} {l1 l2 l3 : Int} (h1 : 0 ≤ pm_sg (l3 + 1)) (h2 : pm_sg (l3 + 1) < G.2.2.2.1) (h3 : 0 ≤ pm_sg (l3 + 2)) (h4 : pm_sg (l3 + 2) < G.2.2.2.1) (h5 : pm_ob G l1 11) : pm_Run d 308 397 [.inr (.inr (.inl (-2))), .inr (.inr (.inl l1)), .inr (.inr (.inl l2)), .inl l3] [] (G, M, T) K ↔ pm_Call d 139 [.inr (.inr (.inl l1)), .inl (G.2.2.2.2 (pm_sg (l3 + 1)).toNat), .inl (G.2.2.2.2 (pm_sg (l3 + 2)).toNat)] (G, M, T) (fun r S1 => pm_Run d 308 411 [.inr (.inr (.inl (-2))), .inr (.inr (.inl l1)), .inr (.inr (.inl l2)), .inl l3] (pm_push r []) S1 K) := by
  refine (px_go (by decide +kernel : pm_fe 308 397 = some (.aload_n 1, 1)) rfl).trans ?_
  refine (px_go (by decide +kernel : pm_fe 308 398 = some (.aload_n 0, 1)) rfl).trans ?_
  refine (px_go (by decide +kernel : pm_fe 308 399 = some (.iload_n 3, 1)) rfl).trans ?_
  refine (px_go (by decide +kernel : pm_fe 308 400 = some (.iconst 1, 1)) rfl).trans ?_
  refine (px_go (by decide +kernel : pm_fe 308 401 = some (.iadd, 1)) rfl).trans ?_
  refine (px_siald (by decide +kernel) h1 h2).trans ?_
  refine (px_go (by decide +kernel : pm_fe 308 403 = some (.aload_n 0, 1)) rfl).trans ?_
  refine (px_go (by decide +kernel : pm_fe 308 404 = some (.iload_n 3, 1)) rfl).trans ?_
  refine (px_go (by decide +kernel : pm_fe 308 405 = some (.iconst 2, 1)) rfl).trans ?_
  refine (px_go (by decide +kernel : pm_fe 308 406 = some (.iadd, 1)) rfl).trans ?_
  refine (px_siald (by decide +kernel) h3 h4).trans ?_
  refine (px_v2 (idx := 47) (m' := 139) (ci := 11) (by decide +kernel)).trans ((and_iff_right ⟨h5, (by simp [pm_wl_n, pm_wl_c, pm_w] : pm_wl [] ≤ 8)⟩).trans ?_)
  exact Iff.rfl
theorem b308_411 {d : Nat} {G : PG} {M T : PH} {K : PV → PS → Prop} {l1 l2 l3 s0 : Int} (h1 : 0 ≤ pm_sg (l3 + 1)) (h2 : pm_sg (l3 + 1) < G.2.2.2.1) (h3 : 0 ≤ pm_sg (l3 + 2)) (h4 : pm_sg (l3 + 2) < G.2.2.2.1) (h5 : pm_ob G l2 12) : pm_Run d 308 411 [.inr (.inr (.inl (-2))), .inr (.inr (.inl l1)), .inr (.inr (.inl l2)), .inl l3] [.inl s0] (G, M, T) K ↔ pm_Call d 269 [.inr (.inr (.inl l2)), .inl (G.2.2.2.2 (pm_sg (l3 + 1)).toNat), .inl (G.2.2.2.2 (pm_sg (l3 + 2)).toNat)] (G, M, T) (fun r S1 => pm_Run d 308 425 [.inr (.inr (.inl (-2))), .inr (.inr (.inl l1)), .inr (.inr (.inl l2)), .inl l3] (pm_push r [.inl s0]) S1 K) := by
  refine (px_go (by decide +kernel : pm_fe 308 411 = some (.aload_n 2, 1)) rfl).trans ?_
  refine (px_go (by decide +kernel : pm_fe 308 412 = some (.aload_n 0, 1)) rfl).trans ?_
  refine (px_go (by decide +kernel : pm_fe 308 413 = some (.iload_n 3, 1)) rfl).trans ?_
  refine (px_go (by decide +kernel : pm_fe 308 414 = some (.iconst 1, 1)) rfl).trans ?_
  refine (px_go (by decide +kernel : pm_fe 308 415 = some (.iadd, 1)) rfl).trans ?_
  refine (px_siald (by decide +kernel) h1 h2).trans ?_
  refine (px_go (by decide +kernel : pm_fe 308 417 = some (.aload_n 0, 1)) rfl).trans ?_
  refine (px_go (by decide +kernel : pm_fe 308 418 = some (.iload_n 3, 1)) rfl).trans ?_
  refine (px_go (by decide +kernel : pm_fe 308 419 = some (.iconst 2, 1)) rfl).trans ?_
  refine (px_go (by decide +kernel : pm_fe 308 420 = some (.iadd, 1)) rfl).trans ?_
  refine (px_siald (by decide +kernel) h3 h4).trans ?_
  refine (px_v2 (idx := 50) (m' := 269) (ci := 12) (by decide +kernel)).trans ((and_iff_right ⟨h5, (by simp [pm_wl_n, pm_wl_c, pm_w] : pm_wl [.inl s0] ≤ 8)⟩).trans ?_)
  exact Iff.rfl
theorem b308_425 {d : Nat} {G : PG} {M T : PH} {K : PV → PS → Prop} {l1 l2 l3 s0 s1 : Int} : pm_Run d 308 425 [.inr (.inr (.inl (-2))), .inr (.inr (.inl l1)), .inr (.inr (.inl l2)), .inl l3] [.inl s0, .inl s1] (G, M, T) K ↔ if pm_sg s1 = pm_sg s0 then pm_Run d 308 1122 [.inr (.inr (.inl (-2))), .inr (.inr (.inl l1)), .inr (.inr (.inl l2)), .inl l3] [] (G, M, T) K else pm_Run d 308 428 [.inr (.inr (.inl (-2))), .inr (.inr (.inl l1)), .inr (.inr (.inl l2)), .inl l3] [] (G, M, T) K := by
  refine (px_ic_eq (off := 697) (tgt := 1122) (by decide +kernel)).trans ?_
  exact Iff.rfl
theorem b308_428 {d : Nat} {G : PG} {M T : PH} {K : PV → PS → Prop} {l1 l2 l3 : Int} : pm_Run d 308 428 [.inr (.inr (.inl (-2))), .inr (.inr (.inl l1)), .inr (.inr (.inl l2)), .inl l3] [] (G, M, T) K ↔ K (.inl 0) (G, M, T) := by
  refine (px_go (by decide +kernel : pm_fe 308 428 = some (.iconst 0, 1)) rfl).trans ?_
  refine (px_rz (by decide +kernel)).trans ((and_iff_right (by decide : (0 : Int) = (0 : Int) ∨ (0 : Int) = (1 : Int))).trans ?_)
  exact Iff.rfl
theorem b308_430 {d : Nat} {G : PG} {M T : PH} {K : PV → PS → Prop} {l1 l2 l3 : Int} (h1 : 0 ≤ pm_sg (l3 + 1)) (h2 : pm_sg (l3 + 1) < G.2.2.2.1) (h3 : 0 ≤ pm_sg (l3 + 2)) (h4 : pm_sg (l3 + 2) < G.2.2.2.1) (h5 : 0 ≤ pm_sg (l3 + 3)) (h6 : pm_sg (l3 + 3) < G.2.2.2.1) (h7 : pm_ob G l1 11) : pm_Run d 308 430 [.inr (.inr (.inl (-2))), .inr (.inr (.inl l1)), .inr (.inr (.inl l2)), .inl l3] [] (G, M, T) K ↔ pm_Call d 140 [.inr (.inr (.inl l1)), .inl (G.2.2.2.2 (pm_sg (l3 + 1)).toNat), .inl (G.2.2.2.2 (pm_sg (l3 + 2)).toNat), .inl (G.2.2.2.2 (pm_sg (l3 + 3)).toNat)] (G, M, T) (fun r S1 => pm_Run d 308 449 [.inr (.inr (.inl (-2))), .inr (.inr (.inl l1)), .inr (.inr (.inl l2)), .inl l3] (pm_push r []) S1 K) := by
  refine (px_go (by decide +kernel : pm_fe 308 430 = some (.aload_n 1, 1)) rfl).trans ?_
  refine (px_go (by decide +kernel : pm_fe 308 431 = some (.aload_n 0, 1)) rfl).trans ?_
  refine (px_go (by decide +kernel : pm_fe 308 432 = some (.iload_n 3, 1)) rfl).trans ?_
  refine (px_go (by decide +kernel : pm_fe 308 433 = some (.iconst 1, 1)) rfl).trans ?_
  refine (px_go (by decide +kernel : pm_fe 308 434 = some (.iadd, 1)) rfl).trans ?_
  refine (px_siald (by decide +kernel) h1 h2).trans ?_
  refine (px_go (by decide +kernel : pm_fe 308 436 = some (.aload_n 0, 1)) rfl).trans ?_
  refine (px_go (by decide +kernel : pm_fe 308 437 = some (.iload_n 3, 1)) rfl).trans ?_
  refine (px_go (by decide +kernel : pm_fe 308 438 = some (.iconst 2, 1)) rfl).trans ?_
  refine (px_go (by decide +kernel : pm_fe 308 439 = some (.iadd, 1)) rfl).trans ?_
  refine (px_siald (by decide +kernel) h3 h4).trans ?_
  refine (px_go (by decide +kernel : pm_fe 308 441 = some (.aload_n 0, 1)) rfl).trans ?_
  refine (px_go (by decide +kernel : pm_fe 308 442 = some (.iload_n 3, 1)) rfl).trans ?_
  refine (px_go (by decide +kernel : pm_fe 308 443 = some (.iconst 3, 1)) rfl).trans ?_
  refine (px_go (by decide +kernel : pm_fe 308 444 = some (.iadd, 1)) rfl).trans ?_
  refine (px_siald (by decide +kernel) h5 h6).trans ?_
  refine (px_v3 (idx := 51) (m' := 140) (ci := 11) (by decide +kernel)).trans ((and_iff_right ⟨h7, (by simp [pm_wl_n, pm_wl_c, pm_w] : pm_wl [] ≤ 8)⟩).trans ?_)
  exact Iff.rfl
theorem b308_449 {d : Nat} {G : PG} {M T : PH} {K : PV → PS → Prop} {l1 l2 l3 s0 : Int} (h1 : 0 ≤ pm_sg (l3 + 1)) (h2 : pm_sg (l3 + 1) < G.2.2.2.1) (h3 : 0 ≤ pm_sg (l3 + 2)) (h4 : pm_sg (l3 + 2) < G.2.2.2.1) (h5 : 0 ≤ pm_sg (l3 + 3)) (h6 : pm_sg (l3 + 3) < G.2.2.2.1) (h7 : pm_ob G l2 12) : pm_Run d 308 449 [.inr (.inr (.inl (-2))), .inr (.inr (.inl l1)), .inr (.inr (.inl l2)), .inl l3] [.inl s0] (G, M, T) K ↔ pm_Call d 270 [.inr (.inr (.inl l2)), .inl (G.2.2.2.2 (pm_sg (l3 + 1)).toNat), .inl (G.2.2.2.2 (pm_sg (l3 + 2)).toNat), .inl (G.2.2.2.2 (pm_sg (l3 + 3)).toNat)] (G, M, T) (fun r S1 => pm_Run d 308 468 [.inr (.inr (.inl (-2))), .inr (.inr (.inl l1)), .inr (.inr (.inl l2)), .inl l3] (pm_push r [.inl s0]) S1 K) := by
  refine (px_go (by decide +kernel : pm_fe 308 449 = some (.aload_n 2, 1)) rfl).trans ?_
  refine (px_go (by decide +kernel : pm_fe 308 450 = some (.aload_n 0, 1)) rfl).trans ?_
  refine (px_go (by decide +kernel : pm_fe 308 451 = some (.iload_n 3, 1)) rfl).trans ?_
  refine (px_go (by decide +kernel : pm_fe 308 452 = some (.iconst 1, 1)) rfl).trans ?_
  refine (px_go (by decide +kernel : pm_fe 308 453 = some (.iadd, 1)) rfl).trans ?_
  refine (px_siald (by decide +kernel) h1 h2).trans ?_
  refine (px_go (by decide +kernel : pm_fe 308 455 = some (.aload_n 0, 1)) rfl).trans ?_
  refine (px_go (by decide +kernel : pm_fe 308 456 = some (.iload_n 3, 1)) rfl).trans ?_
  refine (px_go (by decide +kernel : pm_fe 308 457 = some (.iconst 2, 1)) rfl).trans ?_
  refine (px_go (by decide +kernel : pm_fe 308 458 = some (.iadd, 1)) rfl).trans ?_
  refine (px_siald (by decide +kernel) h3 h4).trans ?_
  refine (px_go (by decide +kernel : pm_fe 308 460 = some (.aload_n 0, 1)) rfl).trans ?_
  refine (px_go (by decide +kernel : pm_fe 308 461 = some (.iload_n 3, 1)) rfl).trans ?_
  refine (px_go (by decide +kernel : pm_fe 308 462 = some (.iconst 3, 1)) rfl).trans ?_
  refine (px_go (by decide +kernel : pm_fe 308 463 = some (.iadd, 1)) rfl).trans ?_
  refine (px_siald (by decide +kernel) h5 h6).trans ?_
  refine (px_v3 (idx := 54) (m' := 270) (ci := 12) (by decide +kernel)).trans ((and_iff_right ⟨h7, (by simp [pm_wl_n, pm_wl_c, pm_w] : pm_wl [.inl s0] ≤ 8)⟩).trans ?_)
  exact Iff.rfl
theorem b308_468 {d : Nat} {G : PG} {M T : PH} {K : PV → PS → Prop} {l1 l2 l3 s0 s1 : Int} : pm_Run d 308 468 [.inr (.inr (.inl (-2))), .inr (.inr (.inl l1)), .inr (.inr (.inl l2)), .inl l3] [.inl s0, .inl s1] (G, M, T) K ↔ if pm_sg s1 = pm_sg s0 then pm_Run d 308 1122 [.inr (.inr (.inl (-2))), .inr (.inr (.inl l1)), .inr (.inr (.inl l2)), .inl l3] [] (G, M, T) K else pm_Run d 308 471 [.inr (.inr (.inl (-2))), .inr (.inr (.inl l1)), .inr (.inr (.inl l2)), .inl l3] [] (G, M, T) K := by
  refine (px_ic_eq (off := 654) (tgt := 1122) (by decide +kernel)).trans ?_
  exact Iff.rfl
theorem b308_471 {d : Nat} {G : PG} {M T : PH} {K : PV → PS → Prop} {l1 l2 l3 : Int} : pm_Run d 308 471 [.inr (.inr (.inl (-2))), .inr (.inr (.inl l1)), .inr (.inr (.inl l2)), .inl l3] [] (G, M, T) K ↔ K (.inl 0) (G, M, T) := by
  refine (px_go (by decide +kernel : pm_fe 308 471 = some (.iconst 0, 1)) rfl).trans ?_
  refine (px_rz (by decide +kernel)).trans ((and_iff_right (by decide : (0 : Int) = (0 : Int) ∨ (0 : Int) = (1 : Int))).trans ?_)
  exact Iff.rfl
theorem b308_473 {d : Nat} {G : PG} {M T : PH} {K : PV → PS → Prop} {l1 l2 l3 : Int} (h1 : 0 ≤ pm_sg (l3 + 1)) (h2 : pm_sg (l3 + 1) < G.2.2.2.1) (h3 : 0 ≤ pm_sg (l3 + 2)) (h4 : pm_sg (l3 + 2) < G.2.2.2.1) (h5 : pm_ob G l1 11) : pm_Run d 308 473 [.inr (.inr (.inl (-2))), .inr (.inr (.inl l1)), .inr (.inr (.inl l2)), .inl l3] [] (G, M, T) K ↔ pm_Call d 141 [.inr (.inr (.inl l1)), .inl (G.2.2.2.2 (pm_sg (l3 + 1)).toNat), .inl (G.2.2.2.2 (pm_sg (l3 + 2)).toNat)] (G, M, T) (fun r S1 => pm_Run d 308 487 [.inr (.inr (.inl (-2))), .inr (.inr (.inl l1)), .inr (.inr (.inl l2)), .inl l3] (pm_push r []) S1 K) := by
  refine (px_go (by decide +kernel : pm_fe 308 473 = some (.aload_n 1, 1)) rfl).trans ?_
  refine (px_go (by decide +kernel : pm_fe 308 474 = some (.aload_n 0, 1)) rfl).trans ?_
  refine (px_go (by decide +kernel : pm_fe 308 475 = some (.iload_n 3, 1)) rfl).trans ?_
  refine (px_go (by decide +kernel : pm_fe 308 476 = some (.iconst 1, 1)) rfl).trans ?_
  refine (px_go (by decide +kernel : pm_fe 308 477 = some (.iadd, 1)) rfl).trans ?_
  refine (px_siald (by decide +kernel) h1 h2).trans ?_
  refine (px_go (by decide +kernel : pm_fe 308 479 = some (.aload_n 0, 1)) rfl).trans ?_
  refine (px_go (by decide +kernel : pm_fe 308 480 = some (.iload_n 3, 1)) rfl).trans ?_
  refine (px_go (by decide +kernel : pm_fe 308 481 = some (.iconst 2, 1)) rfl).trans ?_
  refine (px_go (by decide +kernel : pm_fe 308 482 = some (.iadd, 1)) rfl).trans ?_
  refine (px_siald (by decide +kernel) h3 h4).trans ?_
  refine (px_v2 (idx := 55) (m' := 141) (ci := 11) (by decide +kernel)).trans ((and_iff_right ⟨h5, (by simp [pm_wl_n, pm_wl_c, pm_w] : pm_wl [] ≤ 8)⟩).trans ?_)
  exact Iff.rfl
theorem b308_487 {d : Nat} {G : PG} {M T : PH} {K : PV → PS → Prop} {l1 l2 l3 s0 : Int} (h1 : 0 ≤ pm_sg (l3 + 1)) (h2 : pm_sg (l3 + 1) < G.2.2.2.1) (h3 : 0 ≤ pm_sg (l3 + 2)) (h4 : pm_sg (l3 + 2) < G.2.2.2.1) (h5 : pm_ob G l2 12) : pm_Run d 308 487 [.inr (.inr (.inl (-2))), .inr (.inr (.inl l1)), .inr (.inr (.inl l2)), .inl l3] [.inl s0] (G, M, T) K ↔ pm_Call d 271 [.inr (.inr (.inl l2)), .inl (G.2.2.2.2 (pm_sg (l3 + 1)).toNat), .inl (G.2.2.2.2 (pm_sg (l3 + 2)).toNat)] (G, M, T) (fun r S1 => pm_Run d 308 501 [.inr (.inr (.inl (-2))), .inr (.inr (.inl l1)), .inr (.inr (.inl l2)), .inl l3] (pm_push r [.inl s0]) S1 K) := by
  refine (px_go (by decide +kernel : pm_fe 308 487 = some (.aload_n 2, 1)) rfl).trans ?_
  refine (px_go (by decide +kernel : pm_fe 308 488 = some (.aload_n 0, 1)) rfl).trans ?_
  refine (px_go (by decide +kernel : pm_fe 308 489 = some (.iload_n 3, 1)) rfl).trans ?_
  refine (px_go (by decide +kernel : pm_fe 308 490 = some (.iconst 1, 1)) rfl).trans ?_
  refine (px_go (by decide +kernel : pm_fe 308 491 = some (.iadd, 1)) rfl).trans ?_
  refine (px_siald (by decide +kernel) h1 h2).trans ?_
  refine (px_go (by decide +kernel : pm_fe 308 493 = some (.aload_n 0, 1)) rfl).trans ?_
  refine (px_go (by decide +kernel : pm_fe 308 494 = some (.iload_n 3, 1)) rfl).trans ?_
  refine (px_go (by decide +kernel : pm_fe 308 495 = some (.iconst 2, 1)) rfl).trans ?_
  refine (px_go (by decide +kernel : pm_fe 308 496 = some (.iadd, 1)) rfl).trans ?_
  refine (px_siald (by decide +kernel) h3 h4).trans ?_
  refine (px_v2 (idx := 58) (m' := 271) (ci := 12) (by decide +kernel)).trans ((and_iff_right ⟨h5, (by simp [pm_wl_n, pm_wl_c, pm_w] : pm_wl [.inl s0] ≤ 8)⟩).trans ?_)
  exact Iff.rfl
theorem b308_501 {d : Nat} {G : PG} {M T : PH} {K : PV → PS → Prop} {l1 l2 l3 s0 s1 : Int} : pm_Run d 308 501 [.inr (.inr (.inl (-2))), .inr (.inr (.inl l1)), .inr (.inr (.inl l2)), .inl l3] [.inl s0, .inl s1] (G, M, T) K ↔ if pm_sg s1 = pm_sg s0 then pm_Run d 308 1122 [.inr (.inr (.inl (-2))), .inr (.inr (.inl l1)), .inr (.inr (.inl l2)), .inl l3] [] (G, M, T) K else pm_Run d 308 504 [.inr (.inr (.inl (-2))), .inr (.inr (.inl l1)), .inr (.inr (.inl l2)), .inl l3] [] (G, M, T) K := by
  refine (px_ic_eq (off := 621) (tgt := 1122) (by decide +kernel)).trans ?_
  exact Iff.rfl
theorem b308_504 {d : Nat} {G : PG} {M T : PH} {K : PV → PS → Prop} {l1 l2 l3 : Int} : pm_Run d 308 504 [.inr (.inr (.inl (-2))), .inr (.inr (.inl l1)), .inr (.inr (.inl l2)), .inl l3] [] (G, M, T) K ↔ K (.inl 0) (G, M, T) := by
  refine (px_go (by decide +kernel : pm_fe 308 504 = some (.iconst 0, 1)) rfl).trans ?_
  refine (px_rz (by decide +kernel)).trans ((and_iff_right (by decide : (0 : Int) = (0 : Int) ∨ (0 : Int) = (1 : Int))).trans ?_)
  exact Iff.rfl
theorem b308_506 {d : Nat} {G : PG} {M T : PH} {K : PV → PS → Prop} {l1 l2 l3 : Int} (h1 : 0 ≤ pm_sg (l3 + 1)) (h2 : pm_sg (l3 + 1) < G.2.2.2.1) (h3 : 0 ≤ pm_sg (l3 + 2)) (h4 : pm_sg (l3 + 2) < G.2.2.2.1) (h5 : pm_ob G l1 11) : pm_Run d 308 506 [.inr (.inr (.inl (-2))), .inr (.inr (.inl l1)), .inr (.inr (.inl l2)), .inl l3] [] (G, M, T) K ↔ pm_Call d 142 [.inr (.inr (.inl l1)), .inl (G.2.2.2.2 (pm_sg (l3 + 1)).toNat), .inl (G.2.2.2.2 (pm_sg (l3 + 2)).toNat)] (G, M, T) (fun r S1 => pm_Run d 308 520 [.inr (.inr (.inl (-2))), .inr (.inr (.inl l1)), .inr (.inr (.inl l2)), .inl l3] (pm_push r []) S1 K) := by
  refine (px_go (by decide +kernel : pm_fe 308 506 = some (.aload_n 1, 1)) rfl).trans ?_
  refine (px_go (by decide +kernel : pm_fe 308 507 = some (.aload_n 0, 1)) rfl).trans ?_
  refine (px_go (by decide +kernel : pm_fe 308 508 = some (.iload_n 3, 1)) rfl).trans ?_
  refine (px_go (by decide +kernel : pm_fe 308 509 = some (.iconst 1, 1)) rfl).trans ?_
  refine (px_go (by decide +kernel : pm_fe 308 510 = some (.iadd, 1)) rfl).trans ?_
  refine (px_siald (by decide +kernel) h1 h2).trans ?_
  refine (px_go (by decide +kernel : pm_fe 308 512 = some (.aload_n 0, 1)) rfl).trans ?_
  refine (px_go (by decide +kernel : pm_fe 308 513 = some (.iload_n 3, 1)) rfl).trans ?_
  refine (px_go (by decide +kernel : pm_fe 308 514 = some (.iconst 2, 1)) rfl).trans ?_
  refine (px_go (by decide +kernel : pm_fe 308 515 = some (.iadd, 1)) rfl).trans ?_
  refine (px_siald (by decide +kernel) h3 h4).trans ?_
  refine (px_v2 (idx := 59) (m' := 142) (ci := 11) (by decide +kernel)).trans ((and_iff_right ⟨h5, (by simp [pm_wl_n, pm_wl_c, pm_w] : pm_wl [] ≤ 8)⟩).trans ?_)
  exact Iff.rfl
theorem b308_520 {d : Nat} {G : PG} {M T : PH} {K : PV → PS → Prop} {l1 l2 l3 s0 : Int} (h1 : 0 ≤ pm_sg (l3 + 1)) (h2 : pm_sg (l3 + 1) < G.2.2.2.1) (h3 : 0 ≤ pm_sg (l3 + 2)) (h4 : pm_sg (l3 + 2) < G.2.2.2.1) (h5 : pm_ob G l2 12) : pm_Run d 308 520 [.inr (.inr (.inl (-2))), .inr (.inr (.inl l1)), .inr (.inr (.inl l2)), .inl l3] [.inl s0] (G, M, T) K ↔ pm_Call d 272 [.inr (.inr (.inl l2)), .inl (G.2.2.2.2 (pm_sg (l3 + 1)).toNat), .inl (G.2.2.2.2 (pm_sg (l3 + 2)).toNat)] (G, M, T) (fun r S1 => pm_Run d 308 534 [.inr (.inr (.inl (-2))), .inr (.inr (.inl l1)), .inr (.inr (.inl l2)), .inl l3] (pm_push r [.inl s0]) S1 K) := by
  refine (px_go (by decide +kernel : pm_fe 308 520 = some (.aload_n 2, 1)) rfl).trans ?_
  refine (px_go (by decide +kernel : pm_fe 308 521 = some (.aload_n 0, 1)) rfl).trans ?_
  refine (px_go (by decide +kernel : pm_fe 308 522 = some (.iload_n 3, 1)) rfl).trans ?_
  refine (px_go (by decide +kernel : pm_fe 308 523 = some (.iconst 1, 1)) rfl).trans ?_
  refine (px_go (by decide +kernel : pm_fe 308 524 = some (.iadd, 1)) rfl).trans ?_
  refine (px_siald (by decide +kernel) h1 h2).trans ?_
  refine (px_go (by decide +kernel : pm_fe 308 526 = some (.aload_n 0, 1)) rfl).trans ?_
  refine (px_go (by decide +kernel : pm_fe 308 527 = some (.iload_n 3, 1)) rfl).trans ?_
  refine (px_go (by decide +kernel : pm_fe 308 528 = some (.iconst 2, 1)) rfl).trans ?_
  refine (px_go (by decide +kernel : pm_fe 308 529 = some (.iadd, 1)) rfl).trans ?_
  refine (px_siald (by decide +kernel) h3 h4).trans ?_
  refine (px_v2 (idx := 62) (m' := 272) (ci := 12) (by decide +kernel)).trans ((and_iff_right ⟨h5, (by simp [pm_wl_n, pm_wl_c, pm_w] : pm_wl [.inl s0] ≤ 8)⟩).trans ?_)
  exact Iff.rfl
theorem b308_534 {d : Nat} {G : PG} {M T : PH} {K : PV → PS → Prop} {l1 l2 l3 s0 s1 : Int} : pm_Run d 308 534 [.inr (.inr (.inl (-2))), .inr (.inr (.inl l1)), .inr (.inr (.inl l2)), .inl l3] [.inl s0, .inl s1] (G, M, T) K ↔ if pm_sg s1 = pm_sg s0 then pm_Run d 308 1122 [.inr (.inr (.inl (-2))), .inr (.inr (.inl l1)), .inr (.inr (.inl l2)), .inl l3] [] (G, M, T) K else pm_Run d 308 537 [.inr (.inr (.inl (-2))), .inr (.inr (.inl l1)), .inr (.inr (.inl l2)), .inl l3] [] (G, M, T) K := by
  refine (px_ic_eq (off := 588) (tgt := 1122) (by decide +kernel)).trans ?_
  exact Iff.rfl
theorem b308_537 {d : Nat} {G : PG} {M T : PH} {K : PV → PS → Prop} {l1 l2 l3 : Int} : pm_Run d 308 537 [.inr (.inr (.inl (-2))), .inr (.inr (.inl l1)), .inr (.inr (.inl l2)), .inl l3] [] (G, M, T) K ↔ K (.inl 0) (G, M, T) := by
  refine (px_go (by decide +kernel : pm_fe 308 537 = some (.iconst 0, 1)) rfl).trans ?_
  refine (px_rz (by decide +kernel)).trans ((and_iff_right (by decide : (0 : Int) = (0 : Int) ∨ (0 : Int) = (1 : Int))).trans ?_)
  exact Iff.rfl
theorem b308_539 {d : Nat} {G : PG} {M T : PH} {K : PV → PS → Prop} {l1 l2 l3 : Int} (h1 : 0 ≤ pm_sg (l3 + 1)) (h2 : pm_sg (l3 + 1) < G.2.2.2.1) (h3 : 0 ≤ pm_sg (l3 + 2)) (h4 : pm_sg (l3 + 2) < G.2.2.2.1) (h5 : 0 ≤ pm_sg (l3 + 3)) (h6 : pm_sg (l3 + 3) < G.2.2.2.1) (h7 : pm_ob G l1 11) : pm_Run d 308 539 [.inr (.inr (.inl (-2))), .inr (.inr (.inl l1)), .inr (.inr (.inl l2)), .inl l3] [] (G, M, T) K ↔ pm_Call d 143 [.inr (.inr (.inl l1)), .inl (G.2.2.2.2 (pm_sg (l3 + 1)).toNat), .inl (G.2.2.2.2 (pm_sg (l3 + 2)).toNat), .inl (G.2.2.2.2 (pm_sg (l3 + 3)).toNat)] (G, M, T) (fun r S1 => pm_Run d 308 558 [.inr (.inr (.inl (-2))), .inr (.inr (.inl l1)), .inr (.inr (.inl l2)), .inl l3] (pm_push r []) S1 K) := by
  refine (px_go (by decide +kernel : pm_fe 308 539 = some (.aload_n 1, 1)) rfl).trans ?_
  refine (px_go (by decide +kernel : pm_fe 308 540 = some (.aload_n 0, 1)) rfl).trans ?_
  refine (px_go (by decide +kernel : pm_fe 308 541 = some (.iload_n 3, 1)) rfl).trans ?_
  refine (px_go (by decide +kernel : pm_fe 308 542 = some (.iconst 1, 1)) rfl).trans ?_
  refine (px_go (by decide +kernel : pm_fe 308 543 = some (.iadd, 1)) rfl).trans ?_
  refine (px_siald (by decide +kernel) h1 h2).trans ?_
  refine (px_go (by decide +kernel : pm_fe 308 545 = some (.aload_n 0, 1)) rfl).trans ?_
  refine (px_go (by decide +kernel : pm_fe 308 546 = some (.iload_n 3, 1)) rfl).trans ?_
  refine (px_go (by decide +kernel : pm_fe 308 547 = some (.iconst 2, 1)) rfl).trans ?_
  refine (px_go (by decide +kernel : pm_fe 308 548 = some (.iadd, 1)) rfl).trans ?_
  refine (px_siald (by decide +kernel) h3 h4).trans ?_
  refine (px_go (by decide +kernel : pm_fe 308 550 = some (.aload_n 0, 1)) rfl).trans ?_
  refine (px_go (by decide +kernel : pm_fe 308 551 = some (.iload_n 3, 1)) rfl).trans ?_
  refine (px_go (by decide +kernel : pm_fe 308 552 = some (.iconst 3, 1)) rfl).trans ?_
  refine (px_go (by decide +kernel : pm_fe 308 553 = some (.iadd, 1)) rfl).trans ?_
  refine (px_siald (by decide +kernel) h5 h6).trans ?_
  refine (px_v3 (idx := 63) (m' := 143) (ci := 11) (by decide +kernel)).trans ((and_iff_right ⟨h7, (by simp [pm_wl_n, pm_wl_c, pm_w] : pm_wl [] ≤ 8)⟩).trans ?_)
  exact Iff.rfl
theorem b308_558 {d : Nat} {G : PG} {M T : PH} {K : PV → PS → Prop} {l1 l2 l3 s0 : Int} (h1 : 0 ≤ pm_sg (l3 + 1)) (h2 : pm_sg (l3 + 1) < G.2.2.2.1) (h3 : 0 ≤ pm_sg (l3 + 2)) (h4 : pm_sg (l3 + 2) < G.2.2.2.1) (h5 : 0 ≤ pm_sg (l3 + 3)) (h6 : pm_sg (l3 + 3) < G.2.2.2.1) (h7 : pm_ob G l2 12) : pm_Run d 308 558 [.inr (.inr (.inl (-2))), .inr (.inr (.inl l1)), .inr (.inr (.inl l2)), .inl l3] [.inl s0] (G, M, T) K ↔ pm_Call d 273 [.inr (.inr (.inl l2)), .inl (G.2.2.2.2 (pm_sg (l3 + 1)).toNat), .inl (G.2.2.2.2 (pm_sg (l3 + 2)).toNat), .inl (G.2.2.2.2 (pm_sg (l3 + 3)).toNat)] (G, M, T) (fun r S1 => pm_Run d 308 577 [.inr (.inr (.inl (-2))), .inr (.inr (.inl l1)), .inr (.inr (.inl l2)), .inl l3] (pm_push r [.inl s0]) S1 K) := by
  refine (px_go (by decide +kernel : pm_fe 308 558 = some (.aload_n 2, 1)) rfl).trans ?_
  refine (px_go (by decide +kernel : pm_fe 308 559 = some (.aload_n 0, 1)) rfl).trans ?_
  refine (px_go (by decide +kernel : pm_fe 308 560 = some (.iload_n 3, 1)) rfl).trans ?_
  refine (px_go (by decide +kernel : pm_fe 308 561 = some (.iconst 1, 1)) rfl).trans ?_
  refine (px_go (by decide +kernel : pm_fe 308 562 = some (.iadd, 1)) rfl).trans ?_
  refine (px_siald (by decide +kernel) h1 h2).trans ?_
  refine (px_go (by decide +kernel : pm_fe 308 564 = some (.aload_n 0, 1)) rfl).trans ?_
  refine (px_go (by decide +kernel : pm_fe 308 565 = some (.iload_n 3, 1)) rfl).trans ?_
  refine (px_go (by decide +kernel : pm_fe 308 566 = some (.iconst 2, 1)) rfl).trans ?_
  refine (px_go (by decide +kernel : pm_fe 308 567 = some (.iadd, 1)) rfl).trans ?_
  refine (px_siald (by decide +kernel) h3 h4).trans ?_
  refine (px_go (by decide +kernel : pm_fe 308 569 = some (.aload_n 0, 1)) rfl).trans ?_
  refine (px_go (by decide +kernel : pm_fe 308 570 = some (.iload_n 3, 1)) rfl).trans ?_
  refine (px_go (by decide +kernel : pm_fe 308 571 = some (.iconst 3, 1)) rfl).trans ?_
  refine (px_go (by decide +kernel : pm_fe 308 572 = some (.iadd, 1)) rfl).trans ?_
  refine (px_siald (by decide +kernel) h5 h6).trans ?_
  refine (px_v3 (idx := 66) (m' := 273) (ci := 12) (by decide +kernel)).trans ((and_iff_right ⟨h7, (by simp [pm_wl_n, pm_wl_c, pm_w] : pm_wl [.inl s0] ≤ 8)⟩).trans ?_)
  exact Iff.rfl
theorem b308_577 {d : Nat} {G : PG} {M T : PH} {K : PV → PS → Prop} {l1 l2 l3 s0 s1 : Int} : pm_Run d 308 577 [.inr (.inr (.inl (-2))), .inr (.inr (.inl l1)), .inr (.inr (.inl l2)), .inl l3] [.inl s0, .inl s1] (G, M, T) K ↔ if pm_sg s1 = pm_sg s0 then pm_Run d 308 1122 [.inr (.inr (.inl (-2))), .inr (.inr (.inl l1)), .inr (.inr (.inl l2)), .inl l3] [] (G, M, T) K else pm_Run d 308 580 [.inr (.inr (.inl (-2))), .inr (.inr (.inl l1)), .inr (.inr (.inl l2)), .inl l3] [] (G, M, T) K := by
  refine (px_ic_eq (off := 545) (tgt := 1122) (by decide +kernel)).trans ?_
  exact Iff.rfl
theorem b308_580 {d : Nat} {G : PG} {M T : PH} {K : PV → PS → Prop} {l1 l2 l3 : Int} : pm_Run d 308 580 [.inr (.inr (.inl (-2))), .inr (.inr (.inl l1)), .inr (.inr (.inl l2)), .inl l3] [] (G, M, T) K ↔ K (.inl 0) (G, M, T) := by
  refine (px_go (by decide +kernel : pm_fe 308 580 = some (.iconst 0, 1)) rfl).trans ?_
  refine (px_rz (by decide +kernel)).trans ((and_iff_right (by decide : (0 : Int) = (0 : Int) ∨ (0 : Int) = (1 : Int))).trans ?_)
  exact Iff.rfl
theorem b308_582 {d : Nat} {G : PG} {M T : PH} {K : PV → PS → Prop} {l1 l2 l3 : Int} (h1 : 0 ≤ pm_sg (l3 + 1)) (h2 : pm_sg (l3 + 1) < G.2.2.2.1) (h3 : pm_ob G l1 11) : pm_Run d 308 582 [.inr (.inr (.inl (-2))), .inr (.inr (.inl l1)), .inr (.inr (.inl l2)), .inl l3] [] (G, M, T) K ↔ pm_Call d 144 [.inr (.inr (.inl l1)), .inl (G.2.2.2.2 (pm_sg (l3 + 1)).toNat)] (G, M, T) (fun r S1 => pm_Run d 308 591 [.inr (.inr (.inl (-2))), .inr (.inr (.inl l1)), .inr (.inr (.inl l2)), .inl l3] (pm_push r []) S1 K) := by
  refine (px_go (by decide +kernel : pm_fe 308 582 = some (.aload_n 1, 1)) rfl).trans ?_
  refine (px_go (by decide +kernel : pm_fe 308 583 = some (.aload_n 0, 1)) rfl).trans ?_
  refine (px_go (by decide +kernel : pm_fe 308 584 = some (.iload_n 3, 1)) rfl).trans ?_
  refine (px_go (by decide +kernel : pm_fe 308 585 = some (.iconst 1, 1)) rfl).trans ?_
  refine (px_go (by decide +kernel : pm_fe 308 586 = some (.iadd, 1)) rfl).trans ?_
  refine (px_siald (by decide +kernel) h1 h2).trans ?_
  refine (px_v1 (idx := 67) (m' := 144) (ci := 11) (by decide +kernel)).trans ((and_iff_right ⟨h3, (by simp [pm_wl_n, pm_wl_c, pm_w] : pm_wl [] ≤ 8)⟩).trans ?_)
  exact Iff.rfl
theorem b308_591 {d : Nat} {G : PG} {M T : PH} {K : PV → PS → Prop} {l1 l2 l3 s0 : Int} (h1 : 0 ≤ pm_sg (l3 + 1)) (h2 : pm_sg (l3 + 1) < G.2.2.2.1) (h3 : pm_ob G l2 12) : pm_Run d 308 591 [.inr (.inr (.inl (-2))), .inr (.inr (.inl l1)), .inr (.inr (.inl l2)), .inl l3] [.inl s0] (G, M, T) K ↔ pm_Call d 274 [.inr (.inr (.inl l2)), .inl (G.2.2.2.2 (pm_sg (l3 + 1)).toNat)] (G, M, T) (fun r S1 => pm_Run d 308 600 [.inr (.inr (.inl (-2))), .inr (.inr (.inl l1)), .inr (.inr (.inl l2)), .inl l3] (pm_push r [.inl s0]) S1 K) := by
  refine (px_go (by decide +kernel : pm_fe 308 591 = some (.aload_n 2, 1)) rfl).trans ?_
  refine (px_go (by decide +kernel : pm_fe 308 592 = some (.aload_n 0, 1)) rfl).trans ?_
  refine (px_go (by decide +kernel : pm_fe 308 593 = some (.iload_n 3, 1)) rfl).trans ?_
  refine (px_go (by decide +kernel : pm_fe 308 594 = some (.iconst 1, 1)) rfl).trans ?_
  refine (px_go (by decide +kernel : pm_fe 308 595 = some (.iadd, 1)) rfl).trans ?_
  refine (px_siald (by decide +kernel) h1 h2).trans ?_
  refine (px_v1 (idx := 70) (m' := 274) (ci := 12) (by decide +kernel)).trans ((and_iff_right ⟨h3, (by simp [pm_wl_n, pm_wl_c, pm_w] : pm_wl [.inl s0] ≤ 8)⟩).trans ?_)
  exact Iff.rfl
theorem b308_600 {d : Nat} {G : PG} {M T : PH} {K : PV → PS → Prop} {l1 l2 l3 s0 s1 : Int} : pm_Run d 308 600 [.inr (.inr (.inl (-2))), .inr (.inr (.inl l1)), .inr (.inr (.inl l2)), .inl l3] [.inl s0, .inl s1] (G, M, T) K ↔ if pm_sg s1 = pm_sg s0 then pm_Run d 308 1122 [.inr (.inr (.inl (-2))), .inr (.inr (.inl l1)), .inr (.inr (.inl l2)), .inl l3] [] (G, M, T) K else pm_Run d 308 603 [.inr (.inr (.inl (-2))), .inr (.inr (.inl l1)), .inr (.inr (.inl l2)), .inl l3] [] (G, M, T) K := by
  refine (px_ic_eq (off := 522) (tgt := 1122) (by decide +kernel)).trans ?_
  exact Iff.rfl
theorem b308_603 {d : Nat} {G : PG} {M T : PH} {K : PV → PS → Prop} {l1 l2 l3 : Int} : pm_Run d 308 603 [.inr (.inr (.inl (-2))), .inr (.inr (.inl l1)), .inr (.inr (.inl l2)), .inl l3] [] (G, M, T) K ↔ K (.inl 0) (G, M, T) := by
  refine (px_go (by decide +kernel : pm_fe 308 603 = some (.iconst 0, 1)) rfl).trans ?_
  refine (px_rz (by decide +kernel)).trans ((and_iff_right (by decide : (0 : Int) = (0 : Int) ∨ (0 : Int) = (1 : Int))).trans ?_)
  exact Iff.rfl
theorem b308_605 {d : Nat} {G : PG} {M T : PH} {K : PV → PS → Prop} {l1 l2 l3 : Int} (h1 : 0 ≤ pm_sg (l3 + 1)) (h2 : pm_sg (l3 + 1) < G.2.2.2.1) (h3 : 0 ≤ pm_sg (l3 + 2)) (h4 : pm_sg (l3 + 2) < G.2.2.2.1) (h5 : pm_ob G l1 11) : pm_Run d 308 605 [.inr (.inr (.inl (-2))), .inr (.inr (.inl l1)), .inr (.inr (.inl l2)), .inl l3] [] (G, M, T) K ↔ pm_Call d 145 [.inr (.inr (.inl l1)), .inl (G.2.2.2.2 (pm_sg (l3 + 1)).toNat), .inl (G.2.2.2.2 (pm_sg (l3 + 2)).toNat)] (G, M, T) (fun r S1 => pm_Run d 308 619 [.inr (.inr (.inl (-2))), .inr (.inr (.inl l1)), .inr (.inr (.inl l2)), .inl l3] (pm_push r []) S1 K) := by
  refine (px_go (by decide +kernel : pm_fe 308 605 = some (.aload_n 1, 1)) rfl).trans ?_
  refine (px_go (by decide +kernel : pm_fe 308 606 = some (.aload_n 0, 1)) rfl).trans ?_
  refine (px_go (by decide +kernel : pm_fe 308 607 = some (.iload_n 3, 1)) rfl).trans ?_
  refine (px_go (by decide +kernel : pm_fe 308 608 = some (.iconst 1, 1)) rfl).trans ?_
  refine (px_go (by decide +kernel : pm_fe 308 609 = some (.iadd, 1)) rfl).trans ?_
  refine (px_siald (by decide +kernel) h1 h2).trans ?_
  refine (px_go (by decide +kernel : pm_fe 308 611 = some (.aload_n 0, 1)) rfl).trans ?_
  refine (px_go (by decide +kernel : pm_fe 308 612 = some (.iload_n 3, 1)) rfl).trans ?_
  refine (px_go (by decide +kernel : pm_fe 308 613 = some (.iconst 2, 1)) rfl).trans ?_
  refine (px_go (by decide +kernel : pm_fe 308 614 = some (.iadd, 1)) rfl).trans ?_
  refine (px_siald (by decide +kernel) h3 h4).trans ?_
  refine (px_v2 (idx := 71) (m' := 145) (ci := 11) (by decide +kernel)).trans ((and_iff_right ⟨h5, (by simp [pm_wl_n, pm_wl_c, pm_w] : pm_wl [] ≤ 8)⟩).trans ?_)
  exact Iff.rfl
theorem b308_619 {d : Nat} {G : PG} {M T : PH} {K : PV → PS → Prop} {l1 l2 l3 s0 : Int} (h1 : 0 ≤ pm_sg (l3 + 1)) (h2 : pm_sg (l3 + 1) < G.2.2.2.1) (h3 : 0 ≤ pm_sg (l3 + 2)) (h4 : pm_sg (l3 + 2) < G.2.2.2.1) (h5 : pm_ob G l2 12) : pm_Run d 308 619 [.inr (.inr (.inl (-2))), .inr (.inr (.inl l1)), .inr (.inr (.inl l2)), .inl l3] [.inl s0] (G, M, T) K ↔ pm_Call d 276 [.inr (.inr (.inl l2)), .inl (G.2.2.2.2 (pm_sg (l3 + 1)).toNat), .inl (G.2.2.2.2 (pm_sg (l3 + 2)).toNat)] (G, M, T) (fun r S1 => pm_Run d 308 633 [.inr (.inr (.inl (-2))), .inr (.inr (.inl l1)), .inr (.inr (.inl l2)), .inl l3] (pm_push r [.inl s0]) S1 K) := by
  refine (px_go (by decide +kernel : pm_fe 308 619 = some (.aload_n 2, 1)) rfl).trans ?_
  refine (px_go (by decide +kernel : pm_fe 308 620 = some (.aload_n 0, 1)) rfl).trans ?_
  refine (px_go (by decide +kernel : pm_fe 308 621 = some (.iload_n 3, 1)) rfl).trans ?_
  refine (px_go (by decide +kernel : pm_fe 308 622 = some (.iconst 1, 1)) rfl).trans ?_
  refine (px_go (by decide +kernel : pm_fe 308 623 = some (.iadd, 1)) rfl).trans ?_
  refine (px_siald (by decide +kernel) h1 h2).trans ?_
  refine (px_go (by decide +kernel : pm_fe 308 625 = some (.aload_n 0, 1)) rfl).trans ?_
  refine (px_go (by decide +kernel : pm_fe 308 626 = some (.iload_n 3, 1)) rfl).trans ?_
  refine (px_go (by decide +kernel : pm_fe 308 627 = some (.iconst 2, 1)) rfl).trans ?_
  refine (px_go (by decide +kernel : pm_fe 308 628 = some (.iadd, 1)) rfl).trans ?_
  refine (px_siald (by decide +kernel) h3 h4).trans ?_
  refine (px_v2 (idx := 74) (m' := 276) (ci := 12) (by decide +kernel)).trans ((and_iff_right ⟨h5, (by simp [pm_wl_n, pm_wl_c, pm_w] : pm_wl [.inl s0] ≤ 8)⟩).trans ?_)
  exact Iff.rfl
theorem b308_633 {d : Nat} {G : PG} {M T : PH} {K : PV → PS → Prop} {l1 l2 l3 s0 s1 : Int} : pm_Run d 308 633 [.inr (.inr (.inl (-2))), .inr (.inr (.inl l1)), .inr (.inr (.inl l2)), .inl l3] [.inl s0, .inl s1] (G, M, T) K ↔ if pm_sg s1 = pm_sg s0 then pm_Run d 308 1122 [.inr (.inr (.inl (-2))), .inr (.inr (.inl l1)), .inr (.inr (.inl l2)), .inl l3] [] (G, M, T) K else pm_Run d 308 636 [.inr (.inr (.inl (-2))), .inr (.inr (.inl l1)), .inr (.inr (.inl l2)), .inl l3] [] (G, M, T) K := by
  refine (px_ic_eq (off := 489) (tgt := 1122) (by decide +kernel)).trans ?_
  exact Iff.rfl
theorem b308_636 {d : Nat} {G : PG} {M T : PH} {K : PV → PS → Prop} {l1 l2 l3 : Int} : pm_Run d 308 636 [.inr (.inr (.inl (-2))), .inr (.inr (.inl l1)), .inr (.inr (.inl l2)), .inl l3] [] (G, M, T) K ↔ K (.inl 0) (G, M, T) := by
  refine (px_go (by decide +kernel : pm_fe 308 636 = some (.iconst 0, 1)) rfl).trans ?_
  refine (px_rz (by decide +kernel)).trans ((and_iff_right (by decide : (0 : Int) = (0 : Int) ∨ (0 : Int) = (1 : Int))).trans ?_)
  exact Iff.rfl
theorem b308_638 {d : Nat} {G : PG} {M T : PH} {K : PV → PS → Prop} {l1 l2 l3 : Int} (h1 : 0 ≤ pm_sg (l3 + 1)) (h2 : pm_sg (l3 + 1) < G.2.2.2.1) (h3 : 0 ≤ pm_sg (l3 + 2)) (h4 : pm_sg (l3 + 2) < G.2.2.2.1) (h5 : 0 ≤ pm_sg (l3 + 3)) (h6 : pm_sg (l3 + 3) < G.2.2.2.1) (h7 : pm_ob G l1 11) : pm_Run d 308 638 [.inr (.inr (.inl (-2))), .inr (.inr (.inl l1)), .inr (.inr (.inl l2)), .inl l3] [] (G, M, T) K ↔ pm_Call d 146 [.inr (.inr (.inl l1)), .inl (G.2.2.2.2 (pm_sg (l3 + 1)).toNat), .inl (G.2.2.2.2 (pm_sg (l3 + 2)).toNat), .inl (G.2.2.2.2 (pm_sg (l3 + 3)).toNat)] (G, M, T) (fun r S1 => pm_Run d 308 657 [.inr (.inr (.inl (-2))), .inr (.inr (.inl l1)), .inr (.inr (.inl l2)), .inl l3] (pm_push r []) S1 K) := by
  refine (px_go (by decide +kernel : pm_fe 308 638 = some (.aload_n 1, 1)) rfl).trans ?_
  refine (px_go (by decide +kernel : pm_fe 308 639 = some (.aload_n 0, 1)) rfl).trans ?_
  refine (px_go (by decide +kernel : pm_fe 308 640 = some (.iload_n 3, 1)) rfl).trans ?_
  refine (px_go (by decide +kernel : pm_fe 308 641 = some (.iconst 1, 1)) rfl).trans ?_
  refine (px_go (by decide +kernel : pm_fe 308 642 = some (.iadd, 1)) rfl).trans ?_
  refine (px_siald (by decide +kernel) h1 h2).trans ?_
  refine (px_go (by decide +kernel : pm_fe 308 644 = some (.aload_n 0, 1)) rfl).trans ?_
  refine (px_go (by decide +kernel : pm_fe 308 645 = some (.iload_n 3, 1)) rfl).trans ?_
  refine (px_go (by decide +kernel : pm_fe 308 646 = some (.iconst 2, 1)) rfl).trans ?_
  refine (px_go (by decide +kernel : pm_fe 308 647 = some (.iadd, 1)) rfl).trans ?_
  refine (px_siald (by decide +kernel) h3 h4).trans ?_
  refine (px_go (by decide +kernel : pm_fe 308 649 = some (.aload_n 0, 1)) rfl).trans ?_
  refine (px_go (by decide +kernel : pm_fe 308 650 = some (.iload_n 3, 1)) rfl).trans ?_
  refine (px_go (by decide +kernel : pm_fe 308 651 = some (.iconst 3, 1)) rfl).trans ?_
  refine (px_go (by decide +kernel : pm_fe 308 652 = some (.iadd, 1)) rfl).trans ?_
  refine (px_siald (by decide +kernel) h5 h6).trans ?_
  refine (px_v3 (idx := 75) (m' := 146) (ci := 11) (by decide +kernel)).trans ((and_iff_right ⟨h7, (by simp [pm_wl_n, pm_wl_c, pm_w] : pm_wl [] ≤ 8)⟩).trans ?_)
  exact Iff.rfl
theorem b308_657 {d : Nat} {G : PG} {M T : PH} {K : PV → PS → Prop} {l1 l2 l3 s0 : Int} (h1 : 0 ≤ pm_sg (l3 + 1)) (h2 : pm_sg (l3 + 1) < G.2.2.2.1) (h3 : 0 ≤ pm_sg (l3 + 2)) (h4 : pm_sg (l3 + 2) < G.2.2.2.1) (h5 : 0 ≤ pm_sg (l3 + 3)) (h6 : pm_sg (l3 + 3) < G.2.2.2.1) (h7 : pm_ob G l2 12) : pm_Run d 308 657 [.inr (.inr (.inl (-2))), .inr (.inr (.inl l1)), .inr (.inr (.inl l2)), .inl l3] [.inl s0] (G, M, T) K ↔ pm_Call d 277 [.inr (.inr (.inl l2)), .inl (G.2.2.2.2 (pm_sg (l3 + 1)).toNat), .inl (G.2.2.2.2 (pm_sg (l3 + 2)).toNat), .inl (G.2.2.2.2 (pm_sg (l3 + 3)).toNat)] (G, M, T) (fun r S1 => pm_Run d 308 676 [.inr (.inr (.inl (-2))), .inr (.inr (.inl l1)), .inr (.inr (.inl l2)), .inl l3] (pm_push r [.inl s0]) S1 K) := by
  refine (px_go (by decide +kernel : pm_fe 308 657 = some (.aload_n 2, 1)) rfl).trans ?_
  refine (px_go (by decide +kernel : pm_fe 308 658 = some (.aload_n 0, 1)) rfl).trans ?_
  refine (px_go (by decide +kernel : pm_fe 308 659 = some (.iload_n 3, 1)) rfl).trans ?_
  refine (px_go (by decide +kernel : pm_fe 308 660 = some (.iconst 1, 1)) rfl).trans ?_
  refine (px_go (by decide +kernel : pm_fe 308 661 = some (.iadd, 1)) rfl).trans ?_
  refine (px_siald (by decide +kernel) h1 h2).trans ?_
  refine (px_go (by decide +kernel : pm_fe 308 663 = some (.aload_n 0, 1)) rfl).trans ?_
  refine (px_go (by decide +kernel : pm_fe 308 664 = some (.iload_n 3, 1)) rfl).trans ?_
  refine (px_go (by decide +kernel : pm_fe 308 665 = some (.iconst 2, 1)) rfl).trans ?_
  refine (px_go (by decide +kernel : pm_fe 308 666 = some (.iadd, 1)) rfl).trans ?_
  refine (px_siald (by decide +kernel) h3 h4).trans ?_
  refine (px_go (by decide +kernel : pm_fe 308 668 = some (.aload_n 0, 1)) rfl).trans ?_
  refine (px_go (by decide +kernel : pm_fe 308 669 = some (.iload_n 3, 1)) rfl).trans ?_
  refine (px_go (by decide +kernel : pm_fe 308 670 = some (.iconst 3, 1)) rfl).trans ?_
  refine (px_go (by decide +kernel : pm_fe 308 671 = some (.iadd, 1)) rfl).trans ?_
  refine (px_siald (by decide +kernel) h5 h6).trans ?_
  refine (px_v3 (idx := 78) (m' := 277) (ci := 12) (by decide +kernel)).trans ((and_iff_right ⟨h7, (by simp [pm_wl_n, pm_wl_c, pm_w] : pm_wl [.inl s0] ≤ 8)⟩).trans ?_)
  exact Iff.rfl
theorem b308_676 {d : Nat} {G : PG} {M T : PH} {K : PV → PS → Prop} {l1 l2 l3 s0 s1 : Int} : pm_Run d 308 676 [.inr (.inr (.inl (-2))), .inr (.inr (.inl l1)), .inr (.inr (.inl l2)), .inl l3] [.inl s0, .inl s1] (G, M, T) K ↔ if pm_sg s1 = pm_sg s0 then pm_Run d 308 1122 [.inr (.inr (.inl (-2))), .inr (.inr (.inl l1)), .inr (.inr (.inl l2)), .inl l3] [] (G, M, T) K else pm_Run d 308 679 [.inr (.inr (.inl (-2))), .inr (.inr (.inl l1)), .inr (.inr (.inl l2)), .inl l3] [] (G, M, T) K := by
  refine (px_ic_eq (off := 446) (tgt := 1122) (by decide +kernel)).trans ?_
  exact Iff.rfl
theorem b308_679 {d : Nat} {G : PG} {M T : PH} {K : PV → PS → Prop} {l1 l2 l3 : Int} : pm_Run d 308 679 [.inr (.inr (.inl (-2))), .inr (.inr (.inl l1)), .inr (.inr (.inl l2)), .inl l3] [] (G, M, T) K ↔ K (.inl 0) (G, M, T) := by
  refine (px_go (by decide +kernel : pm_fe 308 679 = some (.iconst 0, 1)) rfl).trans ?_
  refine (px_rz (by decide +kernel)).trans ((and_iff_right (by decide : (0 : Int) = (0 : Int) ∨ (0 : Int) = (1 : Int))).trans ?_)
  exact Iff.rfl
theorem b308_681 {d : Nat} {G : PG} {M T : PH} {K : PV → PS → Prop} {l1 l2 l3 : Int} (h1 : 0 ≤ pm_sg (l3 + 1)) (h2 : pm_sg (l3 + 1) < G.2.2.2.1) (h3 : 0 ≤ pm_sg (l3 + 2)) (h4 : pm_sg (l3 + 2) < G.2.2.2.1) (h5 : 0 ≤ pm_sg (l3 + 3)) (h6 : pm_sg (l3 + 3) < G.2.2.2.1) (h7 : pm_ob G l1 11) : pm_Run d 308 681 [.inr (.inr (.inl (-2))), .inr (.inr (.inl l1)), .inr (.inr (.inl l2)), .inl l3] [] (G, M, T) K ↔ pm_Call d 147 [.inr (.inr (.inl l1)), .inl (G.2.2.2.2 (pm_sg (l3 + 1)).toNat), .inl (G.2.2.2.2 (pm_sg (l3 + 2)).toNat), .inl (G.2.2.2.2 (pm_sg (l3 + 3)).toNat)] (G, M, T) (fun r S1 => pm_Run d 308 700 [.inr (.inr (.inl (-2))), .inr (.inr (.inl l1)), .inr (.inr (.inl l2)), .inl l3] (pm_push r []) S1 K) := by
  refine (px_go (by decide +kernel : pm_fe 308 681 = some (.aload_n 1, 1)) rfl).trans ?_
  refine (px_go (by decide +kernel : pm_fe 308 682 = some (.aload_n 0, 1)) rfl).trans ?_
  refine (px_go (by decide +kernel : pm_fe 308 683 = some (.iload_n 3, 1)) rfl).trans ?_
  refine (px_go (by decide +kernel : pm_fe 308 684 = some (.iconst 1, 1)) rfl).trans ?_
  refine (px_go (by decide +kernel : pm_fe 308 685 = some (.iadd, 1)) rfl).trans ?_
  refine (px_siald (by decide +kernel) h1 h2).trans ?_
  refine (px_go (by decide +kernel : pm_fe 308 687 = some (.aload_n 0, 1)) rfl).trans ?_
  refine (px_go (by decide +kernel : pm_fe 308 688 = some (.iload_n 3, 1)) rfl).trans ?_
  refine (px_go (by decide +kernel : pm_fe 308 689 = some (.iconst 2, 1)) rfl).trans ?_
  refine (px_go (by decide +kernel : pm_fe 308 690 = some (.iadd, 1)) rfl).trans ?_
  refine (px_siald (by decide +kernel) h3 h4).trans ?_
  refine (px_go (by decide +kernel : pm_fe 308 692 = some (.aload_n 0, 1)) rfl).trans ?_
  refine (px_go (by decide +kernel : pm_fe 308 693 = some (.iload_n 3, 1)) rfl).trans ?_
  refine (px_go (by decide +kernel : pm_fe 308 694 = some (.iconst 3, 1)) rfl).trans ?_
  refine (px_go (by decide +kernel : pm_fe 308 695 = some (.iadd, 1)) rfl).trans ?_
  refine (px_siald (by decide +kernel) h5 h6).trans ?_
  refine (px_v3 (idx := 79) (m' := 147) (ci := 11) (by decide +kernel)).trans ((and_iff_right ⟨h7, (by simp [pm_wl_n, pm_wl_c, pm_w] : pm_wl [] ≤ 8)⟩).trans ?_)
  exact Iff.rfl
theorem b308_700 {d : Nat} {G : PG} {M T : PH} {K : PV → PS → Prop} {l1 l2 l3 s0 : Int} (h1 : 0 ≤ pm_sg (l3 + 1)) (h2 : pm_sg (l3 + 1) < G.2.2.2.1) (h3 : 0 ≤ pm_sg (l3 + 2)) (h4 : pm_sg (l3 + 2) < G.2.2.2.1) (h5 : 0 ≤ pm_sg (l3 + 3)) (h6 : pm_sg (l3 + 3) < G.2.2.2.1) (h7 : pm_ob G l2 12) : pm_Run d 308 700 [.inr (.inr (.inl (-2))), .inr (.inr (.inl l1)), .inr (.inr (.inl l2)), .inl l3] [.inl s0] (G, M, T) K ↔ pm_Call d 278 [.inr (.inr (.inl l2)), .inl (G.2.2.2.2 (pm_sg (l3 + 1)).toNat), .inl (G.2.2.2.2 (pm_sg (l3 + 2)).toNat), .inl (G.2.2.2.2 (pm_sg (l3 + 3)).toNat)] (G, M, T) (fun r S1 => pm_Run d 308 719 [.inr (.inr (.inl (-2))), .inr (.inr (.inl l1)), .inr (.inr (.inl l2)), .inl l3] (pm_push r [.inl s0]) S1 K) := by
  refine (px_go (by decide +kernel : pm_fe 308 700 = some (.aload_n 2, 1)) rfl).trans ?_
  refine (px_go (by decide +kernel : pm_fe 308 701 = some (.aload_n 0, 1)) rfl).trans ?_
  refine (px_go (by decide +kernel : pm_fe 308 702 = some (.iload_n 3, 1)) rfl).trans ?_
  refine (px_go (by decide +kernel : pm_fe 308 703 = some (.iconst 1, 1)) rfl).trans ?_
  refine (px_go (by decide +kernel : pm_fe 308 704 = some (.iadd, 1)) rfl).trans ?_
  refine (px_siald (by decide +kernel) h1 h2).trans ?_
  refine (px_go (by decide +kernel : pm_fe 308 706 = some (.aload_n 0, 1)) rfl).trans ?_
  refine (px_go (by decide +kernel : pm_fe 308 707 = some (.iload_n 3, 1)) rfl).trans ?_
  refine (px_go (by decide +kernel : pm_fe 308 708 = some (.iconst 2, 1)) rfl).trans ?_
  refine (px_go (by decide +kernel : pm_fe 308 709 = some (.iadd, 1)) rfl).trans ?_
  refine (px_siald (by decide +kernel) h3 h4).trans ?_
  refine (px_go (by decide +kernel : pm_fe 308 711 = some (.aload_n 0, 1)) rfl).trans ?_
  refine (px_go (by decide +kernel : pm_fe 308 712 = some (.iload_n 3, 1)) rfl).trans ?_
  refine (px_go (by decide +kernel : pm_fe 308 713 = some (.iconst 3, 1)) rfl).trans ?_
  refine (px_go (by decide +kernel : pm_fe 308 714 = some (.iadd, 1)) rfl).trans ?_
  refine (px_siald (by decide +kernel) h5 h6).trans ?_
  refine (px_v3 (idx := 83) (m' := 278) (ci := 12) (by decide +kernel)).trans ((and_iff_right ⟨h7, (by simp [pm_wl_n, pm_wl_c, pm_w] : pm_wl [.inl s0] ≤ 8)⟩).trans ?_)
  exact Iff.rfl
theorem b308_719 {d : Nat} {G : PG} {M T : PH} {K : PV → PS → Prop} {l1 l2 l3 s0 s1 : Int} : pm_Run d 308 719 [.inr (.inr (.inl (-2))), .inr (.inr (.inl l1)), .inr (.inr (.inl l2)), .inl l3] [.inl s0, .inl s1] (G, M, T) K ↔ if pm_sg s1 = pm_sg s0 then pm_Run d 308 1122 [.inr (.inr (.inl (-2))), .inr (.inr (.inl l1)), .inr (.inr (.inl l2)), .inl l3] [] (G, M, T) K else pm_Run d 308 722 [.inr (.inr (.inl (-2))), .inr (.inr (.inl l1)), .inr (.inr (.inl l2)), .inl l3] [] (G, M, T) K := by
  refine (px_ic_eq (off := 403) (tgt := 1122) (by decide +kernel)).trans ?_
  exact Iff.rfl
theorem b308_722 {d : Nat} {G : PG} {M T : PH} {K : PV → PS → Prop} {l1 l2 l3 : Int} : pm_Run d 308 722 [.inr (.inr (.inl (-2))), .inr (.inr (.inl l1)), .inr (.inr (.inl l2)), .inl l3] [] (G, M, T) K ↔ K (.inl 0) (G, M, T) := by
  refine (px_go (by decide +kernel : pm_fe 308 722 = some (.iconst 0, 1)) rfl).trans ?_
  refine (px_rz (by decide +kernel)).trans ((and_iff_right (by decide : (0 : Int) = (0 : Int) ∨ (0 : Int) = (1 : Int))).trans ?_)
  exact Iff.rfl
theorem b308_724 {d : Nat} {G : PG} {M T : PH} {K : PV → PS → Prop} {l1 l2 l3 : Int} (h1 : 0 ≤ pm_sg (l3 + 1)) (h2 : pm_sg (l3 + 1) < G.2.2.2.1) (h3 : 0 ≤ pm_sg (l3 + 2)) (h4 : pm_sg (l3 + 2) < G.2.2.2.1) (h5 : pm_ob G l1 11) : pm_Run d 308 724 [.inr (.inr (.inl (-2))), .inr (.inr (.inl l1)), .inr (.inr (.inl l2)), .inl l3] [] (G, M, T) K ↔ pm_Call d 148 [.inr (.inr (.inl l1)), .inl (G.2.2.2.2 (pm_sg (l3 + 1)).toNat), .inl (G.2.2.2.2 (pm_sg (l3 + 2)).toNat)] (G, M, T) (fun r S1 => pm_Run d 308 738 [.inr (.inr (.inl (-2))), .inr (.inr (.inl l1)), .inr (.inr (.inl l2)), .inl l3] (pm_push r []) S1 K) := by
  refine (px_go (by decide +kernel : pm_fe 308 724 = some (.aload_n 1, 1)) rfl).trans ?_
  refine (px_go (by decide +kernel : pm_fe 308 725 = some (.aload_n 0, 1)) rfl).trans ?_
  refine (px_go (by decide +kernel : pm_fe 308 726 = some (.iload_n 3, 1)) rfl).trans ?_
  refine (px_go (by decide +kernel : pm_fe 308 727 = some (.iconst 1, 1)) rfl).trans ?_
  refine (px_go (by decide +kernel : pm_fe 308 728 = some (.iadd, 1)) rfl).trans ?_
  refine (px_siald (by decide +kernel) h1 h2).trans ?_
  refine (px_go (by decide +kernel : pm_fe 308 730 = some (.aload_n 0, 1)) rfl).trans ?_
  refine (px_go (by decide +kernel : pm_fe 308 731 = some (.iload_n 3, 1)) rfl).trans ?_
  refine (px_go (by decide +kernel : pm_fe 308 732 = some (.iconst 2, 1)) rfl).trans ?_
  refine (px_go (by decide +kernel : pm_fe 308 733 = some (.iadd, 1)) rfl).trans ?_
  refine (px_siald (by decide +kernel) h3 h4).trans ?_
  refine (px_v2 (idx := 84) (m' := 148) (ci := 11) (by decide +kernel)).trans ((and_iff_right ⟨h5, (by simp [pm_wl_n, pm_wl_c, pm_w] : pm_wl [] ≤ 8)⟩).trans ?_)
  exact Iff.rfl
theorem b308_738 {d : Nat} {G : PG} {M T : PH} {K : PV → PS → Prop} {l1 l2 l3 s0 : Int} (h1 : 0 ≤ pm_sg (l3 + 1)) (h2 : pm_sg (l3 + 1) < G.2.2.2.1) (h3 : 0 ≤ pm_sg (l3 + 2)) (h4 : pm_sg (l3 + 2) < G.2.2.2.1) (h5 : pm_ob G l2 12) : pm_Run d 308 738 [.inr (.inr (.inl (-2))), .inr (.inr (.inl l1)), .inr (.inr (.inl l2)), .inl l3] [.inl s0] (G, M, T) K ↔ pm_Call d 279 [.inr (.inr (.inl l2)), .inl (G.2.2.2.2 (pm_sg (l3 + 1)).toNat), .inl (G.2.2.2.2 (pm_sg (l3 + 2)).toNat)] (G, M, T) (fun r S1 => pm_Run d 308 752 [.inr (.inr (.inl (-2))), .inr (.inr (.inl l1)), .inr (.inr (.inl l2)), .inl l3] (pm_push r [.inl s0]) S1 K) := by
  refine (px_go (by decide +kernel : pm_fe 308 738 = some (.aload_n 2, 1)) rfl).trans ?_
  refine (px_go (by decide +kernel : pm_fe 308 739 = some (.aload_n 0, 1)) rfl).trans ?_
  refine (px_go (by decide +kernel : pm_fe 308 740 = some (.iload_n 3, 1)) rfl).trans ?_
  refine (px_go (by decide +kernel : pm_fe 308 741 = some (.iconst 1, 1)) rfl).trans ?_
  refine (px_go (by decide +kernel : pm_fe 308 742 = some (.iadd, 1)) rfl).trans ?_
  refine (px_siald (by decide +kernel) h1 h2).trans ?_
  refine (px_go (by decide +kernel : pm_fe 308 744 = some (.aload_n 0, 1)) rfl).trans ?_
  refine (px_go (by decide +kernel : pm_fe 308 745 = some (.iload_n 3, 1)) rfl).trans ?_
  refine (px_go (by decide +kernel : pm_fe 308 746 = some (.iconst 2, 1)) rfl).trans ?_
  refine (px_go (by decide +kernel : pm_fe 308 747 = some (.iadd, 1)) rfl).trans ?_
  refine (px_siald (by decide +kernel) h3 h4).trans ?_
  refine (px_v2 (idx := 87) (m' := 279) (ci := 12) (by decide +kernel)).trans ((and_iff_right ⟨h5, (by simp [pm_wl_n, pm_wl_c, pm_w] : pm_wl [.inl s0] ≤ 8)⟩).trans ?_)
  exact Iff.rfl
theorem b308_752 {d : Nat} {G : PG} {M T : PH} {K : PV → PS → Prop} {l1 l2 l3 s0 s1 : Int} : pm_Run d 308 752 [.inr (.inr (.inl (-2))), .inr (.inr (.inl l1)), .inr (.inr (.inl l2)), .inl l3] [.inl s0, .inl s1] (G, M, T) K ↔ if pm_sg s1 = pm_sg s0 then pm_Run d 308 1122 [.inr (.inr (.inl (-2))), .inr (.inr (.inl l1)), .inr (.inr (.inl l2)), .inl l3] [] (G, M, T) K else pm_Run d 308 755 [.inr (.inr (.inl (-2))), .inr (.inr (.inl l1)), .inr (.inr (.inl l2)), .inl l3] [] (G, M, T) K := by
  refine (px_ic_eq (off := 370) (tgt := 1122) (by decide +kernel)).trans ?_
  exact Iff.rfl
theorem b308_755 {d : Nat} {G : PG} {M T : PH} {K : PV → PS → Prop} {l1 l2 l3 : Int} : pm_Run d 308 755 [.inr (.inr (.inl (-2))), .inr (.inr (.inl l1)), .inr (.inr (.inl l2)), .inl l3] [] (G, M, T) K ↔ K (.inl 0) (G, M, T) := by
  refine (px_go (by decide +kernel : pm_fe 308 755 = some (.iconst 0, 1)) rfl).trans ?_
  refine (px_rz (by decide +kernel)).trans ((and_iff_right (by decide : (0 : Int) = (0 : Int) ∨ (0 : Int) = (1 : Int))).trans ?_)
  exact Iff.rfl
theorem b308_757 {d : Nat} {G : PG} {M T : PH} {K : PV → PS → Prop} {l1 l2 l3 : Int} (h1 : 0 ≤ pm_sg (l3 + 1)) (h2 : pm_sg (l3 + 1) < G.2.2.2.1) (h3 : pm_ob G l1 11) : pm_Run d 308 757 [.inr (.inr (.inl (-2))), .inr (.inr (.inl l1)), .inr (.inr (.inl l2)), .inl l3] [] (G, M, T) K ↔ pm_Call d 149 [.inr (.inr (.inl l1)), .inl (G.2.2.2.2 (pm_sg (l3 + 1)).toNat)] (G, M, T) (fun r S1 => pm_Run d 308 766 [.inr (.inr (.inl (-2))), .inr (.inr (.inl l1)), .inr (.inr (.inl l2)), .inl l3] (pm_push r []) S1 K) := by
  refine (px_go (by decide +kernel : pm_fe 308 757 = some (.aload_n 1, 1)) rfl).trans ?_
  refine (px_go (by decide +kernel : pm_fe 308 758 = some (.aload_n 0, 1)) rfl).trans ?_
  refine (px_go (by decide +kernel : pm_fe 308 759 = some (.iload_n 3, 1)) rfl).trans ?_
  refine (px_go (by decide +kernel : pm_fe 308 760 = some (.iconst 1, 1)) rfl).trans ?_
  refine (px_go (by decide +kernel : pm_fe 308 761 = some (.iadd, 1)) rfl).trans ?_
  refine (px_siald (by decide +kernel) h1 h2).trans ?_
  refine (px_v1 (idx := 88) (m' := 149) (ci := 11) (by decide +kernel)).trans ((and_iff_right ⟨h3, (by simp [pm_wl_n, pm_wl_c, pm_w] : pm_wl [] ≤ 8)⟩).trans ?_)
  exact Iff.rfl
theorem b308_766 {d : Nat} {G : PG} {M T : PH} {K : PV → PS → Prop} {l1 l2 l3 s0 : Int} (h1 : 0 ≤ pm_sg (l3 + 1)) (h2 : pm_sg (l3 + 1) < G.2.2.2.1) (h3 : pm_ob G l2 12) : pm_Run d 308 766 [.inr (.inr (.inl (-2))), .inr (.inr (.inl l1)), .inr (.inr (.inl l2)), .inl l3] [.inl s0] (G, M, T) K ↔ pm_Call d 280 [.inr (.inr (.inl l2)), .inl (G.2.2.2.2 (pm_sg (l3 + 1)).toNat)] (G, M, T) (fun r S1 => pm_Run d 308 775 [.inr (.inr (.inl (-2))), .inr (.inr (.inl l1)), .inr (.inr (.inl l2)), .inl l3] (pm_push r [.inl s0]) S1 K) := by
  refine (px_go (by decide +kernel : pm_fe 308 766 = some (.aload_n 2, 1)) rfl).trans ?_
  refine (px_go (by decide +kernel : pm_fe 308 767 = some (.aload_n 0, 1)) rfl).trans ?_
  refine (px_go (by decide +kernel : pm_fe 308 768 = some (.iload_n 3, 1)) rfl).trans ?_
  refine (px_go (by decide +kernel : pm_fe 308 769 = some (.iconst 1, 1)) rfl).trans ?_
  refine (px_go (by decide +kernel : pm_fe 308 770 = some (.iadd, 1)) rfl).trans ?_
  refine (px_siald (by decide +kernel) h1 h2).trans ?_
  refine (px_v1 (idx := 91) (m' := 280) (ci := 12) (by decide +kernel)).trans ((and_iff_right ⟨h3, (by simp [pm_wl_n, pm_wl_c, pm_w] : pm_wl [.inl s0] ≤ 8)⟩).trans ?_)
  exact Iff.rfl
theorem b308_775 {d : Nat} {G : PG} {M T : PH} {K : PV → PS → Prop} {l1 l2 l3 s0 s1 : Int} : pm_Run d 308 775 [.inr (.inr (.inl (-2))), .inr (.inr (.inl l1)), .inr (.inr (.inl l2)), .inl l3] [.inl s0, .inl s1] (G, M, T) K ↔ if pm_sg s1 = pm_sg s0 then pm_Run d 308 1122 [.inr (.inr (.inl (-2))), .inr (.inr (.inl l1)), .inr (.inr (.inl l2)), .inl l3] [] (G, M, T) K else pm_Run d 308 778 [.inr (.inr (.inl (-2))), .inr (.inr (.inl l1)), .inr (.inr (.inl l2)), .inl l3] [] (G, M, T) K := by
  refine (px_ic_eq (off := 347) (tgt := 1122) (by decide +kernel)).trans ?_
  exact Iff.rfl
theorem b308_778 {d : Nat} {G : PG} {M T : PH} {K : PV → PS → Prop} {l1 l2 l3 : Int} : pm_Run d 308 778 [.inr (.inr (.inl (-2))), .inr (.inr (.inl l1)), .inr (.inr (.inl l2)), .inl l3] [] (G, M, T) K ↔ K (.inl 0) (G, M, T) := by
  refine (px_go (by decide +kernel : pm_fe 308 778 = some (.iconst 0, 1)) rfl).trans ?_
  refine (px_rz (by decide +kernel)).trans ((and_iff_right (by decide : (0 : Int) = (0 : Int) ∨ (0 : Int) = (1 : Int))).trans ?_)
  exact Iff.rfl
theorem b308_780 {d : Nat} {G : PG} {M T : PH} {K : PV → PS → Prop} {l1 l2 l3 : Int} (h1 : 0 ≤ pm_sg (l3 + 1)) (h2 : pm_sg (l3 + 1) < G.2.2.2.1) (h3 : pm_ob G l1 11) : pm_Run d 308 780 [.inr (.inr (.inl (-2))), .inr (.inr (.inl l1)), .inr (.inr (.inl l2)), .inl l3] [] (G, M, T) K ↔ pm_Call d 150 [.inr (.inr (.inl l1)), .inl (G.2.2.2.2 (pm_sg (l3 + 1)).toNat)] (G, M, T) (fun r S1 => pm_Run d 308 789 [.inr (.inr (.inl (-2))), .inr (.inr (.inl l1)), .inr (.inr (.inl l2)), .inl l3] (pm_push r []) S1 K) := by
  refine (px_go (by decide +kernel : pm_fe 308 780 = some (.aload_n 1, 1)) rfl).trans ?_
  refine (px_go (by decide +kernel : pm_fe 308 781 = some (.aload_n 0, 1)) rfl).trans ?_
  refine (px_go (by decide +kernel : pm_fe 308 782 = some (.iload_n 3, 1)) rfl).trans ?_
  refine (px_go (by decide +kernel : pm_fe 308 783 = some (.iconst 1, 1)) rfl).trans ?_
  refine (px_go (by decide +kernel : pm_fe 308 784 = some (.iadd, 1)) rfl).trans ?_
  refine (px_siald (by decide +kernel) h1 h2).trans ?_
  refine (px_v1 (idx := 92) (m' := 150) (ci := 11) (by decide +kernel)).trans ((and_iff_right ⟨h3, (by simp [pm_wl_n, pm_wl_c, pm_w] : pm_wl [] ≤ 8)⟩).trans ?_)
  exact Iff.rfl
theorem b308_789 {d : Nat} {G : PG} {M T : PH} {K : PV → PS → Prop} {l1 l2 l3 s0 : Int} (h1 : 0 ≤ pm_sg (l3 + 1)) (h2 : pm_sg (l3 + 1) < G.2.2.2.1) (h3 : pm_ob G l2 12) : pm_Run d 308 789 [.inr (.inr (.inl (-2))), .inr (.inr (.inl l1)), .inr (.inr (.inl l2)), .inl l3] [.inl s0] (G, M, T) K ↔ pm_Call d 282 [.inr (.inr (.inl l2)), .inl (G.2.2.2.2 (pm_sg (l3 + 1)).toNat)] (G, M, T) (fun r S1 => pm_Run d 308 798 [.inr (.inr (.inl (-2))), .inr (.inr (.inl l1)), .inr (.inr (.inl l2)), .inl l3] (pm_push r [.inl s0]) S1 K) := by
  refine (px_go (by decide +kernel : pm_fe 308 789 = some (.aload_n 2, 1)) rfl).trans ?_
  refine (px_go (by decide +kernel : pm_fe 308 790 = some (.aload_n 0, 1)) rfl).trans ?_
  refine (px_go (by decide +kernel : pm_fe 308 791 = some (.iload_n 3, 1)) rfl).trans ?_
  refine (px_go (by decide +kernel : pm_fe 308 792 = some (.iconst 1, 1)) rfl).trans ?_
  refine (px_go (by decide +kernel : pm_fe 308 793 = some (.iadd, 1)) rfl).trans ?_
  refine (px_siald (by decide +kernel) h1 h2).trans ?_
  refine (px_v1 (idx := 95) (m' := 282) (ci := 12) (by decide +kernel)).trans ((and_iff_right ⟨h3, (by simp [pm_wl_n, pm_wl_c, pm_w] : pm_wl [.inl s0] ≤ 8)⟩).trans ?_)
  exact Iff.rfl
theorem b308_798 {d : Nat} {G : PG} {M T : PH} {K : PV → PS → Prop} {l1 l2 l3 s0 s1 : Int} : pm_Run d 308 798 [.inr (.inr (.inl (-2))), .inr (.inr (.inl l1)), .inr (.inr (.inl l2)), .inl l3] [.inl s0, .inl s1] (G, M, T) K ↔ if pm_sg s1 = pm_sg s0 then pm_Run d 308 1122 [.inr (.inr (.inl (-2))), .inr (.inr (.inl l1)), .inr (.inr (.inl l2)), .inl l3] [] (G, M, T) K else pm_Run d 308 801 [.inr (.inr (.inl (-2))), .inr (.inr (.inl l1)), .inr (.inr (.inl l2)), .inl l3] [] (G, M, T) K := by
  refine (px_ic_eq (off := 324) (tgt := 1122) (by decide +kernel)).trans ?_
  exact Iff.rfl
theorem b308_801 {d : Nat} {G : PG} {M T : PH} {K : PV → PS → Prop} {l1 l2 l3 : Int} : pm_Run d 308 801 [.inr (.inr (.inl (-2))), .inr (.inr (.inl l1)), .inr (.inr (.inl l2)), .inl l3] [] (G, M, T) K ↔ K (.inl 0) (G, M, T) := by
  refine (px_go (by decide +kernel : pm_fe 308 801 = some (.iconst 0, 1)) rfl).trans ?_
  refine (px_rz (by decide +kernel)).trans ((and_iff_right (by decide : (0 : Int) = (0 : Int) ∨ (0 : Int) = (1 : Int))).trans ?_)
  exact Iff.rfl
theorem b308_803 {d : Nat} {G : PG} {M T : PH} {K : PV → PS → Prop} {l1 l2 l3 : Int} (h1 : pm_ob G l1 11) : pm_Run d 308 803 [.inr (.inr (.inl (-2))), .inr (.inr (.inl l1)), .inr (.inr (.inl l2)), .inl l3] [] (G, M, T) K ↔ pm_Call d 151 [.inr (.inr (.inl l1))] (G, M, T) (fun r S1 => pm_Run d 308 807 [.inr (.inr (.inl (-2))), .inr (.inr (.inl l1)), .inr (.inr (.inl l2)), .inl l3] (pm_push r []) S1 K) := by
  refine (px_go (by decide +kernel : pm_fe 308 803 = some (.aload_n 1, 1)) rfl).trans ?_
  refine (px_v0 (idx := 96) (m' := 151) (ci := 11) (by decide +kernel)).trans ((and_iff_right ⟨h1, (by simp [pm_wl_n, pm_wl_c, pm_w] : pm_wl [] ≤ 8)⟩).trans ?_)
  exact Iff.rfl
theorem b308_807 {d : Nat} {G : PG} {M T : PH} {K : PV → PS → Prop} {l1 l2 l3 s0 : Int} (h1 : pm_ob G l2 12) : pm_Run d 308 807 [.inr (.inr (.inl (-2))), .inr (.inr (.inl l1)), .inr (.inr (.inl l2)), .inl l3] [.inl s0] (G, M, T) K ↔ pm_Call d 236 [.inr (.inr (.inl l2))] (G, M, T) (fun r S1 => pm_Run d 308 811 [.inr (.inr (.inl (-2))), .inr (.inr (.inl l1)), .inr (.inr (.inl l2)), .inl l3] (pm_push r [.inl s0]) S1 K) := by
  refine (px_go (by decide +kernel : pm_fe 308 807 = some (.aload_n 2, 1)) rfl).trans ?_
  refine (px_v0 (idx := 100) (m' := 236) (ci := 12) (by decide +kernel)).trans ((and_iff_right ⟨h1, (by simp [pm_wl_n, pm_wl_c, pm_w] : pm_wl [.inl s0] ≤ 8)⟩).trans ?_)
  exact Iff.rfl
theorem b308_811 {d : Nat} {G : PG} {M T : PH} {K : PV → PS → Prop} {l1 l2 l3 s0 s1 : Int} : pm_Run d 308 811 [.inr (.inr (.inl (-2))), .inr (.inr (.inl l1)), .inr (.inr (.inl l2)), .inl l3] [.inl s0, .inl s1] (G, M, T) K ↔ if pm_sg s1 = pm_sg s0 then pm_Run d 308 1122 [.inr (.inr (.inl (-2))), .inr (.inr (.inl l1)), .inr (.inr (.inl l2)), .inl l3] [] (G, M, T) K else pm_Run d 308 814 [.inr (.inr (.inl (-2))), .inr (.inr (.inl l1)), .inr (.inr (.inl l2)), .inl l3] [] (G, M, T) K := by
  refine (px_ic_eq (off := 311) (tgt := 1122) (by decide +kernel)).trans ?_
  exact Iff.rfl
theorem b308_814 {d : Nat} {G : PG} {M T : PH} {K : PV → PS → Prop} {l1 l2 l3 : Int} : pm_Run d 308 814 [.inr (.inr (.inl (-2))), .inr (.inr (.inl l1)), .inr (.inr (.inl l2)), .inl l3] [] (G, M, T) K ↔ K (.inl 0) (G, M, T) := by
  refine (px_go (by decide +kernel : pm_fe 308 814 = some (.iconst 0, 1)) rfl).trans ?_
  refine (px_rz (by decide +kernel)).trans ((and_iff_right (by decide : (0 : Int) = (0 : Int) ∨ (0 : Int) = (1 : Int))).trans ?_)
  exact Iff.rfl
theorem b308_816 {d : Nat} {G : PG} {M T : PH} {K : PV → PS → Prop} {l1 l2 l3 : Int} (h1 : 0 ≤ pm_sg (l3 + 1)) (h2 : pm_sg (l3 + 1) < G.2.2.2.1) (h3 : pm_ob G l1 11) : pm_Run d 308 816 [.inr (.inr (.inl (-2))), .inr (.inr (.inl l1)), .inr (.inr (.inl l2)), .inl l3] [] (G, M, T) K ↔ pm_Call d 152 [.inr (.inr (.inl l1)), .inl (G.2.2.2.2 (pm_sg (l3 + 1)).toNat)] (G, M, T) (fun r S1 => pm_Run d 308 825 [.inr (.inr (.inl (-2))), .inr (.inr (.inl l1)), .inr (.inr (.inl l2)), .inl l3] (pm_push r []) S1 K) := by
  refine (px_go (by decide +kernel : pm_fe 308 816 = some (.aload_n 1, 1)) rfl).trans ?_
  refine (px_go (by decide +kernel : pm_fe 308 817 = some (.aload_n 0, 1)) rfl).trans ?_
  refine (px_go (by decide +kernel : pm_fe 308 818 = some (.iload_n 3, 1)) rfl).trans ?_
  refine (px_go (by decide +kernel : pm_fe 308 819 = some (.iconst 1, 1)) rfl).trans ?_
  refine (px_go (by decide +kernel : pm_fe 308 820 = some (.iadd, 1)) rfl).trans ?_
  refine (px_siald (by decide +kernel) h1 h2).trans ?_
  refine (px_v1 (idx := 101) (m' := 152) (ci := 11) (by decide +kernel)).trans ((and_iff_right ⟨h3, (by simp [pm_wl_n, pm_wl_c, pm_w] : pm_wl [] ≤ 8)⟩).trans ?_)
  exact Iff.rfl
theorem b308_825 {d : Nat} {G : PG} {M T : PH} {K : PV → PS → Prop} {l1 l2 l3 s0 : Int} (h1 : 0 ≤ pm_sg (l3 + 1)) (h2 : pm_sg (l3 + 1) < G.2.2.2.1) (h3 : pm_ob G l2 12) : pm_Run d 308 825 [.inr (.inr (.inl (-2))), .inr (.inr (.inl l1)), .inr (.inr (.inl l2)), .inl l3] [.inl s0] (G, M, T) K ↔ pm_Call d 283 [.inr (.inr (.inl l2)), .inl (G.2.2.2.2 (pm_sg (l3 + 1)).toNat)] (G, M, T) (fun r S1 => pm_Run d 308 834 [.inr (.inr (.inl (-2))), .inr (.inr (.inl l1)), .inr (.inr (.inl l2)), .inl l3] (pm_push r [.inl s0]) S1 K) := by
  refine (px_go (by decide +kernel : pm_fe 308 825 = some (.aload_n 2, 1)) rfl).trans ?_
  refine (px_go (by decide +kernel : pm_fe 308 826 = some (.aload_n 0, 1)) rfl).trans ?_
  refine (px_go (by decide +kernel : pm_fe 308 827 = some (.iload_n 3, 1)) rfl).trans ?_
  refine (px_go (by decide +kernel : pm_fe 308 828 = some (.iconst 1, 1)) rfl).trans ?_
  refine (px_go (by decide +kernel : pm_fe 308 829 = some (.iadd, 1)) rfl).trans ?_
  refine (px_siald (by decide +kernel) h1 h2).trans ?_
  refine (px_v1 (idx := 104) (m' := 283) (ci := 12) (by decide +kernel)).trans ((and_iff_right ⟨h3, (by simp [pm_wl_n, pm_wl_c, pm_w] : pm_wl [.inl s0] ≤ 8)⟩).trans ?_)
  exact Iff.rfl
theorem b308_834 {d : Nat} {G : PG} {M T : PH} {K : PV → PS → Prop} {l1 l2 l3 s0 s1 : Int} : pm_Run d 308 834 [.inr (.inr (.inl (-2))), .inr (.inr (.inl l1)), .inr (.inr (.inl l2)), .inl l3] [.inl s0, .inl s1] (G, M, T) K ↔ if pm_sg s1 = pm_sg s0 then pm_Run d 308 1122 [.inr (.inr (.inl (-2))), .inr (.inr (.inl l1)), .inr (.inr (.inl l2)), .inl l3] [] (G, M, T) K else pm_Run d 308 837 [.inr (.inr (.inl (-2))), .inr (.inr (.inl l1)), .inr (.inr (.inl l2)), .inl l3] [] (G, M, T) K := by
  refine (px_ic_eq (off := 288) (tgt := 1122) (by decide +kernel)).trans ?_
  exact Iff.rfl
theorem b308_837 {d : Nat} {G : PG} {M T : PH} {K : PV → PS → Prop} {l1 l2 l3 : Int} : pm_Run d 308 837 [.inr (.inr (.inl (-2))), .inr (.inr (.inl l1)), .inr (.inr (.inl l2)), .inl l3] [] (G, M, T) K ↔ K (.inl 0) (G, M, T) := by
  refine (px_go (by decide +kernel : pm_fe 308 837 = some (.iconst 0, 1)) rfl).trans ?_
  refine (px_rz (by decide +kernel)).trans ((and_iff_right (by decide : (0 : Int) = (0 : Int) ∨ (0 : Int) = (1 : Int))).trans ?_)
  exact Iff.rfl
theorem b308_839 {d : Nat} {G : PG} {M T : PH} {K : PV → PS → Prop} {l1 l2 l3 : Int} (h1 : 0 ≤ pm_sg (l3 + 1)) (h2 : pm_sg (l3 + 1) < G.2.2.2.1) (h3 : 0 ≤ pm_sg (l3 + 2)) (h4 : pm_sg (l3 + 2) < G.2.2.2.1) (h5 : 0 ≤ pm_sg (l3 + 3)) (h6 : pm_sg (l3 + 3) < G.2.2.2.1) (h7 : pm_ob G l1 11) : pm_Run d 308 839 [.inr (.inr (.inl (-2))), .inr (.inr (.inl l1)), .inr (.inr (.inl l2)), .inl l3] [] (G, M, T) K ↔ pm_Call d 153 [.inr (.inr (.inl l1)), .inl (G.2.2.2.2 (pm_sg (l3 + 1)).toNat), .inl (G.2.2.2.2 (pm_sg (l3 + 2)).toNat), .inl (G.2.2.2.2 (pm_sg (l3 + 3)).toNat)] (G, M, T) (fun r S1 => pm_Run d 308 858 [.inr (.inr (.inl (-2))), .inr (.inr (.inl l1)), .inr (.inr (.inl l2)), .inl l3] (pm_push r []) S1 K) := by
  refine (px_go (by decide +kernel : pm_fe 308 839 = some (.aload_n 1, 1)) rfl).trans ?_
  refine (px_go (by decide +kernel : pm_fe 308 840 = some (.aload_n 0, 1)) rfl).trans ?_
  refine (px_go (by decide +kernel : pm_fe 308 841 = some (.iload_n 3, 1)) rfl).trans ?_
  refine (px_go (by decide +kernel : pm_fe 308 842 = some (.iconst 1, 1)) rfl).trans ?_
  refine (px_go (by decide +kernel : pm_fe 308 843 = some (.iadd, 1)) rfl).trans ?_
  refine (px_siald (by decide +kernel) h1 h2).trans ?_
  refine (px_go (by decide +kernel : pm_fe 308 845 = some (.aload_n 0, 1)) rfl).trans ?_
  refine (px_go (by decide +kernel : pm_fe 308 846 = some (.iload_n 3, 1)) rfl).trans ?_
  refine (px_go (by decide +kernel : pm_fe 308 847 = some (.iconst 2, 1)) rfl).trans ?_
  refine (px_go (by decide +kernel : pm_fe 308 848 = some (.iadd, 1)) rfl).trans ?_
  refine (px_siald (by decide +kernel) h3 h4).trans ?_
  refine (px_go (by decide +kernel : pm_fe 308 850 = some (.aload_n 0, 1)) rfl).trans ?_
  refine (px_go (by decide +kernel : pm_fe 308 851 = some (.iload_n 3, 1)) rfl).trans ?_
  refine (px_go (by decide +kernel : pm_fe 308 852 = some (.iconst 3, 1)) rfl).trans ?_
  refine (px_go (by decide +kernel : pm_fe 308 853 = some (.iadd, 1)) rfl).trans ?_
  refine (px_siald (by decide +kernel) h5 h6).trans ?_
  refine (px_v3 (idx := 105) (m' := 153) (ci := 11) (by decide +kernel)).trans ((and_iff_right ⟨h7, (by simp [pm_wl_n, pm_wl_c, pm_w] : pm_wl [] ≤ 8)⟩).trans ?_)
  exact Iff.rfl
theorem b308_858 {d : Nat} {G : PG} {M T : PH} {K : PV → PS → Prop} {l1 l2 l3 s0 : Int} (h1 : 0 ≤ pm_sg (l3 + 1)) (h2 : pm_sg (l3 + 1) < G.2.2.2.1) (h3 : 0 ≤ pm_sg (l3 + 2)) (h4 : pm_sg (l3 + 2) < G.2.2.2.1) (h5 : 0 ≤ pm_sg (l3 + 3)) (h6 : pm_sg (l3 + 3) < G.2.2.2.1) (h7 : pm_ob G l2 12) : pm_Run d 308 858 [.inr (.inr (.inl (-2))), .inr (.inr (.inl l1)), .inr (.inr (.inl l2)), .inl l3] [.inl s0] (G, M, T) K ↔ pm_Call d 287 [.inr (.inr (.inl l2)), .inl (G.2.2.2.2 (pm_sg (l3 + 1)).toNat), .inl (G.2.2.2.2 (pm_sg (l3 + 2)).toNat), .inl (G.2.2.2.2 (pm_sg (l3 + 3)).toNat)] (G, M, T) (fun r S1 => pm_Run d 308 877 [.inr (.inr (.inl (-2))), .inr (.inr (.inl l1)), .inr (.inr (.inl l2)), .inl l3] (pm_push r [.inl s0]) S1 K) := by
  refine (px_go (by decide +kernel : pm_fe 308 858 = some (.aload_n 2, 1)) rfl).trans ?_
  refine (px_go (by decide +kernel : pm_fe 308 859 = some (.aload_n 0, 1)) rfl).trans ?_
  refine (px_go (by decide +kernel : pm_fe 308 860 = some (.iload_n 3, 1)) rfl).trans ?_
  refine (px_go (by decide +kernel : pm_fe 308 861 = some (.iconst 1, 1)) rfl).trans ?_
  refine (px_go (by decide +kernel : pm_fe 308 862 = some (.iadd, 1)) rfl).trans ?_
  refine (px_siald (by decide +kernel) h1 h2).trans ?_
  refine (px_go (by decide +kernel : pm_fe 308 864 = some (.aload_n 0, 1)) rfl).trans ?_
  refine (px_go (by decide +kernel : pm_fe 308 865 = some (.iload_n 3, 1)) rfl).trans ?_
  refine (px_go (by decide +kernel : pm_fe 308 866 = some (.iconst 2, 1)) rfl).trans ?_
  refine (px_go (by decide +kernel : pm_fe 308 867 = some (.iadd, 1)) rfl).trans ?_
  refine (px_siald (by decide +kernel) h3 h4).trans ?_
  refine (px_go (by decide +kernel : pm_fe 308 869 = some (.aload_n 0, 1)) rfl).trans ?_
  refine (px_go (by decide +kernel : pm_fe 308 870 = some (.iload_n 3, 1)) rfl).trans ?_
  refine (px_go (by decide +kernel : pm_fe 308 871 = some (.iconst 3, 1)) rfl).trans ?_
  refine (px_go (by decide +kernel : pm_fe 308 872 = some (.iadd, 1)) rfl).trans ?_
  refine (px_siald (by decide +kernel) h5 h6).trans ?_
  refine (px_v3 (idx := 108) (m' := 287) (ci := 12) (by decide +kernel)).trans ((and_iff_right ⟨h7, (by simp [pm_wl_n, pm_wl_c, pm_w] : pm_wl [.inl s0] ≤ 8)⟩).trans ?_)
  exact Iff.rfl
theorem b308_877 {d : Nat} {G : PG} {M T : PH} {K : PV → PS → Prop} {l1 l2 l3 s0 s1 : Int} : pm_Run d 308 877 [.inr (.inr (.inl (-2))), .inr (.inr (.inl l1)), .inr (.inr (.inl l2)), .inl l3] [.inl s0, .inl s1] (G, M, T) K ↔ if pm_sg s1 = pm_sg s0 then pm_Run d 308 1122 [.inr (.inr (.inl (-2))), .inr (.inr (.inl l1)), .inr (.inr (.inl l2)), .inl l3] [] (G, M, T) K else pm_Run d 308 880 [.inr (.inr (.inl (-2))), .inr (.inr (.inl l1)), .inr (.inr (.inl l2)), .inl l3] [] (G, M, T) K := by
  refine (px_ic_eq (off := 245) (tgt := 1122) (by decide +kernel)).trans ?_
  exact Iff.rfl
theorem b308_880 {d : Nat} {G : PG} {M T : PH} {K : PV → PS → Prop} {l1 l2 l3 : Int} : pm_Run d 308 880 [.inr (.inr (.inl (-2))), .inr (.inr (.inl l1)), .inr (.inr (.inl l2)), .inl l3] [] (G, M, T) K ↔ K (.inl 0) (G, M, T) := by
  refine (px_go (by decide +kernel : pm_fe 308 880 = some (.iconst 0, 1)) rfl).trans ?_
  refine (px_rz (by decide +kernel)).trans ((and_iff_right (by decide : (0 : Int) = (0 : Int) ∨ (0 : Int) = (1 : Int))).trans ?_)
  exact Iff.rfl
theorem b308_882 {d : Nat} {G : PG} {M T : PH} {K : PV → PS → Prop} {l1 l2 l3 : Int} (h1 : 0 ≤ pm_sg (l3 + 1)) (h2 : pm_sg (l3 + 1) < G.2.2.2.1) (h3 : pm_ob G l1 11) : pm_Run d 308 882 [.inr (.inr (.inl (-2))), .inr (.inr (.inl l1)), .inr (.inr (.inl l2)), .inl l3] [] (G, M, T) K ↔ pm_Call d 154 [.inr (.inr (.inl l1)), .inl (G.2.2.2.2 (pm_sg (l3 + 1)).toNat)] (G, M, T) (fun r S1 => pm_Run d 308 891 [.inr (.inr (.inl (-2))), .inr (.inr (.inl l1)), .inr (.inr (.inl l2)), .inl l3] (pm_push r []) S1 K) := by
  refine (px_go (by decide +kernel : pm_fe 308 882 = some (.aload_n 1, 1)) rfl).trans ?_
  refine (px_go (by decide +kernel : pm_fe 308 883 = some (.aload_n 0, 1)) rfl).trans ?_
  refine (px_go (by decide +kernel : pm_fe 308 884 = some (.iload_n 3, 1)) rfl).trans ?_
  refine (px_go (by decide +kernel : pm_fe 308 885 = some (.iconst 1, 1)) rfl).trans ?_
  refine (px_go (by decide +kernel : pm_fe 308 886 = some (.iadd, 1)) rfl).trans ?_
  refine (px_siald (by decide +kernel) h1 h2).trans ?_
  refine (px_v1 (idx := 109) (m' := 154) (ci := 11) (by decide +kernel)).trans ((and_iff_right ⟨h3, (by simp [pm_wl_n, pm_wl_c, pm_w] : pm_wl [] ≤ 8)⟩).trans ?_)
  exact Iff.rfl
theorem b308_891 {d : Nat} {G : PG} {M T : PH} {K : PV → PS → Prop} {l1 l2 l3 s0 : Int} (h1 : 0 ≤ pm_sg (l3 + 1)) (h2 : pm_sg (l3 + 1) < G.2.2.2.1) (h3 : pm_ob G l2 12) : pm_Run d 308 891 [.inr (.inr (.inl (-2))), .inr (.inr (.inl l1)), .inr (.inr (.inl l2)), .inl l3] [.inl s0] (G, M, T) K ↔ pm_Call d 291 [.inr (.inr (.inl l2)), .inl (G.2.2.2.2 (pm_sg (l3 + 1)).toNat)] (G, M, T) (fun r S1 => pm_Run d 308 900 [.inr (.inr (.inl (-2))), .inr (.inr (.inl l1)), .inr (.inr (.inl l2)), .inl l3] (pm_push r [.inl s0]) S1 K) := by
  refine (px_go (by decide +kernel : pm_fe 308 891 = some (.aload_n 2, 1)) rfl).trans ?_
  refine (px_go (by decide +kernel : pm_fe 308 892 = some (.aload_n 0, 1)) rfl).trans ?_
  refine (px_go (by decide +kernel : pm_fe 308 893 = some (.iload_n 3, 1)) rfl).trans ?_
  refine (px_go (by decide +kernel : pm_fe 308 894 = some (.iconst 1, 1)) rfl).trans ?_
  refine (px_go (by decide +kernel : pm_fe 308 895 = some (.iadd, 1)) rfl).trans ?_
  refine (px_siald (by decide +kernel) h1 h2).trans ?_
  refine (px_v1 (idx := 112) (m' := 291) (ci := 12) (by decide +kernel)).trans ((and_iff_right ⟨h3, (by simp [pm_wl_n, pm_wl_c, pm_w] : pm_wl [.inl s0] ≤ 8)⟩).trans ?_)
  exact Iff.rfl
theorem b308_900 {d : Nat} {G : PG} {M T : PH} {K : PV → PS → Prop} {l1 l2 l3 s0 s1 : Int} : pm_Run d 308 900 [.inr (.inr (.inl (-2))), .inr (.inr (.inl l1)), .inr (.inr (.inl l2)), .inl l3] [.inl s0, .inl s1] (G, M, T) K ↔ if pm_sg s1 = pm_sg s0 then pm_Run d 308 1122 [.inr (.inr (.inl (-2))), .inr (.inr (.inl l1)), .inr (.inr (.inl l2)), .inl l3] [] (G, M, T) K else pm_Run d 308 903 [.inr (.inr (.inl (-2))), .inr (.inr (.inl l1)), .inr (.inr (.inl l2)), .inl l3] [] (G, M, T) K := by
  refine (px_ic_eq (off := 222) (tgt := 1122) (by decide +kernel)).trans ?_
  exact Iff.rfl
theorem b308_903 {d : Nat} {G : PG} {M T : PH} {K : PV → PS → Prop} {l1 l2 l3 : Int} : pm_Run d 308 903 [.inr (.inr (.inl (-2))), .inr (.inr (.inl l1)), .inr (.inr (.inl l2)), .inl l3] [] (G, M, T) K ↔ K (.inl 0) (G, M, T) := by
  refine (px_go (by decide +kernel : pm_fe 308 903 = some (.iconst 0, 1)) rfl).trans ?_
  refine (px_rz (by decide +kernel)).trans ((and_iff_right (by decide : (0 : Int) = (0 : Int) ∨ (0 : Int) = (1 : Int))).trans ?_)
  exact Iff.rfl
theorem b308_905 {d : Nat} {G : PG} {M T : PH} {K : PV → PS → Prop} {l1 l2 l3 : Int} (h1 : 0 ≤ pm_sg (l3 + 1)) (h2 : pm_sg (l3 + 1) < G.2.2.2.1) (h3 : 0 ≤ pm_sg (l3 + 2)) (h4 : pm_sg (l3 + 2) < G.2.2.2.1) (h5 : 0 ≤ pm_sg (l3 + 3)) (h6 : pm_sg (l3 + 3) < G.2.2.2.1) (h7 : pm_ob G l1 11) : pm_Run d 308 905 [.inr (.inr (.inl (-2))), .inr (.inr (.inl l1)), .inr (.inr (.inl l2)), .inl l3] [] (G, M, T) K ↔ pm_Call d 155 [.inr (.inr (.inl l1)), .inl (G.2.2.2.2 (pm_sg (l3 + 1)).toNat), .inl (G.2.2.2.2 (pm_sg (l3 + 2)).toNat), .inl (G.2.2.2.2 (pm_sg (l3 + 3)).toNat)] (G, M, T) (fun r S1 => pm_Run d 308 924 [.inr (.inr (.inl (-2))), .inr (.inr (.inl l1)), .inr (.inr (.inl l2)), .inl l3] (pm_push r []) S1 K) := by
  refine (px_go (by decide +kernel : pm_fe 308 905 = some (.aload_n 1, 1)) rfl).trans ?_
  refine (px_go (by decide +kernel : pm_fe 308 906 = some (.aload_n 0, 1)) rfl).trans ?_
  refine (px_go (by decide +kernel : pm_fe 308 907 = some (.iload_n 3, 1)) rfl).trans ?_
  refine (px_go (by decide +kernel : pm_fe 308 908 = some (.iconst 1, 1)) rfl).trans ?_
  refine (px_go (by decide +kernel : pm_fe 308 909 = some (.iadd, 1)) rfl).trans ?_
  refine (px_siald (by decide +kernel) h1 h2).trans ?_
  refine (px_go (by decide +kernel : pm_fe 308 911 = some (.aload_n 0, 1)) rfl).trans ?_
  refine (px_go (by decide +kernel : pm_fe 308 912 = some (.iload_n 3, 1)) rfl).trans ?_
  refine (px_go (by decide +kernel : pm_fe 308 913 = some (.iconst 2, 1)) rfl).trans ?_
  refine (px_go (by decide +kernel : pm_fe 308 914 = some (.iadd, 1)) rfl).trans ?_
  refine (px_siald (by decide +kernel) h3 h4).trans ?_
  refine (px_go (by decide +kernel : pm_fe 308 916 = some (.aload_n 0, 1)) rfl).trans ?_
  refine (px_go (by decide +kernel : pm_fe 308 917 = some (.iload_n 3, 1)) rfl).trans ?_
  refine (px_go (by decide +kernel : pm_fe 308 918 = some (.iconst 3, 1)) rfl).trans ?_
  refine (px_go (by decide +kernel : pm_fe 308 919 = some (.iadd, 1)) rfl).trans ?_
  refine (px_siald (by decide +kernel) h5 h6).trans ?_
  refine (px_v3 (idx := 113) (m' := 155) (ci := 11) (by decide +kernel)).trans ((and_iff_right ⟨h7, (by simp [pm_wl_n, pm_wl_c, pm_w] : pm_wl [] ≤ 8)⟩).trans ?_)
  exact Iff.rfl
theorem b308_924 {d : Nat} {G : PG} {M T : PH} {K : PV → PS → Prop} {l1 l2 l3 s0 : Int} (h1 : 0 ≤ pm_sg (l3 + 1)) (h2 : pm_sg (l3 + 1) < G.2.2.2.1) (h3 : 0 ≤ pm_sg (l3 + 2)) (h4 : pm_sg (l3 + 2) < G.2.2.2.1) (h5 : 0 ≤ pm_sg (l3 + 3)) (h6 : pm_sg (l3 + 3) < G.2.2.2.1) (h7 : pm_ob G l2 12) : pm_Run d 308 924 [.inr (.inr (.inl (-2))), .inr (.inr (.inl l1)), .inr (.inr (.inl l2)), .inl l3] [.inl s0] (G, M, T) K ↔ pm_Call d 294 [.inr (.inr (.inl l2)), .inl (G.2.2.2.2 (pm_sg (l3 + 1)).toNat), .inl (G.2.2.2.2 (pm_sg (l3 + 2)).toNat), .inl (G.2.2.2.2 (pm_sg (l3 + 3)).toNat)] (G, M, T) (fun r S1 => pm_Run d 308 943 [.inr (.inr (.inl (-2))), .inr (.inr (.inl l1)), .inr (.inr (.inl l2)), .inl l3] (pm_push r [.inl s0]) S1 K) := by
  refine (px_go (by decide +kernel : pm_fe 308 924 = some (.aload_n 2, 1)) rfl).trans ?_
  refine (px_go (by decide +kernel : pm_fe 308 925 = some (.aload_n 0, 1)) rfl).trans ?_
  refine (px_go (by decide +kernel : pm_fe 308 926 = some (.iload_n 3, 1)) rfl).trans ?_
  refine (px_go (by decide +kernel : pm_fe 308 927 = some (.iconst 1, 1)) rfl).trans ?_
  refine (px_go (by decide +kernel : pm_fe 308 928 = some (.iadd, 1)) rfl).trans ?_
  refine (px_siald (by decide +kernel) h1 h2).trans ?_
  refine (px_go (by decide +kernel : pm_fe 308 930 = some (.aload_n 0, 1)) rfl).trans ?_
  refine (px_go (by decide +kernel : pm_fe 308 931 = some (.iload_n 3, 1)) rfl).trans ?_
  refine (px_go (by decide +kernel : pm_fe 308 932 = some (.iconst 2, 1)) rfl).trans ?_
  refine (px_go (by decide +kernel : pm_fe 308 933 = some (.iadd, 1)) rfl).trans ?_
  refine (px_siald (by decide +kernel) h3 h4).trans ?_
  refine (px_go (by decide +kernel : pm_fe 308 935 = some (.aload_n 0, 1)) rfl).trans ?_
  refine (px_go (by decide +kernel : pm_fe 308 936 = some (.iload_n 3, 1)) rfl).trans ?_
  refine (px_go (by decide +kernel : pm_fe 308 937 = some (.iconst 3, 1)) rfl).trans ?_
  refine (px_go (by decide +kernel : pm_fe 308 938 = some (.iadd, 1)) rfl).trans ?_
  refine (px_siald (by decide +kernel) h5 h6).trans ?_
  refine (px_v3 (idx := 116) (m' := 294) (ci := 12) (by decide +kernel)).trans ((and_iff_right ⟨h7, (by simp [pm_wl_n, pm_wl_c, pm_w] : pm_wl [.inl s0] ≤ 8)⟩).trans ?_)
  exact Iff.rfl
theorem b308_943 {d : Nat} {G : PG} {M T : PH} {K : PV → PS → Prop} {l1 l2 l3 s0 s1 : Int} : pm_Run d 308 943 [.inr (.inr (.inl (-2))), .inr (.inr (.inl l1)), .inr (.inr (.inl l2)), .inl l3] [.inl s0, .inl s1] (G, M, T) K ↔ if pm_sg s1 = pm_sg s0 then pm_Run d 308 1122 [.inr (.inr (.inl (-2))), .inr (.inr (.inl l1)), .inr (.inr (.inl l2)), .inl l3] [] (G, M, T) K else pm_Run d 308 946 [.inr (.inr (.inl (-2))), .inr (.inr (.inl l1)), .inr (.inr (.inl l2)), .inl l3] [] (G, M, T) K := by
  refine (px_ic_eq (off := 179) (tgt := 1122) (by decide +kernel)).trans ?_
  exact Iff.rfl
theorem b308_946 {d : Nat} {G : PG} {M T : PH} {K : PV → PS → Prop} {l1 l2 l3 : Int} : pm_Run d 308 946 [.inr (.inr (.inl (-2))), .inr (.inr (.inl l1)), .inr (.inr (.inl l2)), .inl l3] [] (G, M, T) K ↔ K (.inl 0) (G, M, T) := by
  refine (px_go (by decide +kernel : pm_fe 308 946 = some (.iconst 0, 1)) rfl).trans ?_
  refine (px_rz (by decide +kernel)).trans ((and_iff_right (by decide : (0 : Int) = (0 : Int) ∨ (0 : Int) = (1 : Int))).trans ?_)
  exact Iff.rfl
theorem b308_948 {d : Nat} {G : PG} {M T : PH} {K : PV → PS → Prop} {l1 l2 l3 : Int} (h1 : 0 ≤ pm_sg (l3 + 1)) (h2 : pm_sg (l3 + 1) < G.2.2.2.1) (h3 : 0 ≤ pm_sg (l3 + 2)) (h4 : pm_sg (l3 + 2) < G.2.2.2.1) (h5 : 0 ≤ pm_sg (l3 + 3)) (h6 : pm_sg (l3 + 3) < G.2.2.2.1) (h7 : pm_ob G l1 11) : pm_Run d 308 948 [.inr (.inr (.inl (-2))), .inr (.inr (.inl l1)), .inr (.inr (.inl l2)), .inl l3] [] (G, M, T) K ↔ pm_Call d 156 [.inr (.inr (.inl l1)), .inl (G.2.2.2.2 (pm_sg (l3 + 1)).toNat), .inl (G.2.2.2.2 (pm_sg (l3 + 2)).toNat), .inl (G.2.2.2.2 (pm_sg (l3 + 3)).toNat)] (G, M, T) (fun r S1 => pm_Run d 308 967 [.inr (.inr (.inl (-2))), .inr (.inr (.inl l1)), .inr (.inr (.inl l2)), .inl l3] (pm_push r []) S1 K) := by
  refine (px_go (by decide +kernel : pm_fe 308 948 = some (.aload_n 1, 1)) rfl).trans ?_
  refine (px_go (by decide +kernel : pm_fe 308 949 = some (.aload_n 0, 1)) rfl).trans ?_
  refine (px_go (by decide +kernel : pm_fe 308 950 = some (.iload_n 3, 1)) rfl).trans ?_
  refine (px_go (by decide +kernel : pm_fe 308 951 = some (.iconst 1, 1)) rfl).trans ?_
  refine (px_go (by decide +kernel : pm_fe 308 952 = some (.iadd, 1)) rfl).trans ?_
  refine (px_siald (by decide +kernel) h1 h2).trans ?_
  refine (px_go (by decide +kernel : pm_fe 308 954 = some (.aload_n 0, 1)) rfl).trans ?_
  refine (px_go (by decide +kernel : pm_fe 308 955 = some (.iload_n 3, 1)) rfl).trans ?_
  refine (px_go (by decide +kernel : pm_fe 308 956 = some (.iconst 2, 1)) rfl).trans ?_
  refine (px_go (by decide +kernel : pm_fe 308 957 = some (.iadd, 1)) rfl).trans ?_
  refine (px_siald (by decide +kernel) h3 h4).trans ?_
  refine (px_go (by decide +kernel : pm_fe 308 959 = some (.aload_n 0, 1)) rfl).trans ?_
  refine (px_go (by decide +kernel : pm_fe 308 960 = some (.iload_n 3, 1)) rfl).trans ?_
  refine (px_go (by decide +kernel : pm_fe 308 961 = some (.iconst 3, 1)) rfl).trans ?_
  refine (px_go (by decide +kernel : pm_fe 308 962 = some (.iadd, 1)) rfl).trans ?_
  refine (px_siald (by decide +kernel) h5 h6).trans ?_
  refine (px_v3 (idx := 117) (m' := 156) (ci := 11) (by decide +kernel)).trans ((and_iff_right ⟨h7, (by simp [pm_wl_n, pm_wl_c, pm_w] : pm_wl [] ≤ 8)⟩).trans ?_)
  exact Iff.rfl
theorem b308_967 {d : Nat} {G : PG} {M T : PH} {K : PV → PS → Prop} {l1 l2 l3 s0 : Int} (h1 : 0 ≤ pm_sg (l3 + 1)) (h2 : pm_sg (l3 + 1) < G.2.2.2.1) (h3 : 0 ≤ pm_sg (l3 + 2)) (h4 : pm_sg (l3 + 2) < G.2.2.2.1) (h5 : 0 ≤ pm_sg (l3 + 3)) (h6 : pm_sg (l3 + 3) < G.2.2.2.1) (h7 : pm_ob G l2 12) : pm_Run d 308 967 [.inr (.inr (.inl (-2))), .inr (.inr (.inl l1)), .inr (.inr (.inl l2)), .inl l3] [.inl s0] (G, M, T) K ↔ pm_Call d 295 [.inr (.inr (.inl l2)), .inl (G.2.2.2.2 (pm_sg (l3 + 1)).toNat), .inl (G.2.2.2.2 (pm_sg (l3 + 2)).toNat), .inl (G.2.2.2.2 (pm_sg (l3 + 3)).toNat)] (G, M, T) (fun r S1 => pm_Run d 308 986 [.inr (.inr (.inl (-2))), .inr (.inr (.inl l1)), .inr (.inr (.inl l2)), .inl l3] (pm_push r [.inl s0]) S1 K) := by
  refine (px_go (by decide +kernel : pm_fe 308 967 = some (.aload_n 2, 1)) rfl).trans ?_
  refine (px_go (by decide +kernel : pm_fe 308 968 = some (.aload_n 0, 1)) rfl).trans ?_
  refine (px_go (by decide +kernel : pm_fe 308 969 = some (.iload_n 3, 1)) rfl).trans ?_
  refine (px_go (by decide +kernel : pm_fe 308 970 = some (.iconst 1, 1)) rfl).trans ?_
  refine (px_go (by decide +kernel : pm_fe 308 971 = some (.iadd, 1)) rfl).trans ?_
  refine (px_siald (by decide +kernel) h1 h2).trans ?_
  refine (px_go (by decide +kernel : pm_fe 308 973 = some (.aload_n 0, 1)) rfl).trans ?_
  refine (px_go (by decide +kernel : pm_fe 308 974 = some (.iload_n 3, 1)) rfl).trans ?_
  refine (px_go (by decide +kernel : pm_fe 308 975 = some (.iconst 2, 1)) rfl).trans ?_
  refine (px_go (by decide +kernel : pm_fe 308 976 = some (.iadd, 1)) rfl).trans ?_
  refine (px_siald (by decide +kernel) h3 h4).trans ?_
  refine (px_go (by decide +kernel : pm_fe 308 978 = some (.aload_n 0, 1)) rfl).trans ?_
  refine (px_go (by decide +kernel : pm_fe 308 979 = some (.iload_n 3, 1)) rfl).trans ?_
  refine (px_go (by decide +kernel : pm_fe 308 980 = some (.iconst 3, 1)) rfl).trans ?_
  refine (px_go (by decide +kernel : pm_fe 308 981 = some (.iadd, 1)) rfl).trans ?_
  refine (px_siald (by decide +kernel) h5 h6).trans ?_
  refine (px_v3 (idx := 120) (m' := 295) (ci := 12) (by decide +kernel)).trans ((and_iff_right ⟨h7, (by simp [pm_wl_n, pm_wl_c, pm_w] : pm_wl [.inl s0] ≤ 8)⟩).trans ?_)
  exact Iff.rfl
theorem b308_986 {d : Nat} {G : PG} {M T : PH} {K : PV → PS → Prop} {l1 l2 l3 s0 s1 : Int} : pm_Run d 308 986 [.inr (.inr (.inl (-2))), .inr (.inr (.inl l1)), .inr (.inr (.inl l2)), .inl l3] [.inl s0, .inl s1] (G, M, T) K ↔ if pm_sg s1 = pm_sg s0 then pm_Run d 308 1122 [.inr (.inr (.inl (-2))), .inr (.inr (.inl l1)), .inr (.inr (.inl l2)), .inl l3] [] (G, M, T) K else pm_Run d 308 989 [.inr (.inr (.inl (-2))), .inr (.inr (.inl l1)), .inr (.inr (.inl l2)), .inl l3] [] (G, M, T) K := by
  refine (px_ic_eq (off := 136) (tgt := 1122) (by decide +kernel)).trans ?_
  exact Iff.rfl
theorem b308_989 {d : Nat} {G : PG} {M T : PH} {K : PV → PS → Prop} {l1 l2 l3 : Int} : pm_Run d 308 989 [.inr (.inr (.inl (-2))), .inr (.inr (.inl l1)), .inr (.inr (.inl l2)), .inl l3] [] (G, M, T) K ↔ K (.inl 0) (G, M, T) := by
  refine (px_go (by decide +kernel : pm_fe 308 989 = some (.iconst 0, 1)) rfl).trans ?_
  refine (px_rz (by decide +kernel)).trans ((and_iff_right (by decide : (0 : Int) = (0 : Int) ∨ (0 : Int) = (1 : Int))).trans ?_)
  exact Iff.rfl
theorem b308_991 {d : Nat} {G : PG} {M T : PH} {K : PV → PS → Prop} {l1 l2 l3 : Int} (h1 : 0 ≤ pm_sg (l3 + 1)) (h2 : pm_sg (l3 + 1) < G.2.2.2.1) (h3 : pm_ob G l1 11) : pm_Run d 308 991 [.inr (.inr (.inl (-2))), .inr (.inr (.inl l1)), .inr (.inr (.inl l2)), .inl l3] [] (G, M, T) K ↔ pm_Call d 157 [.inr (.inr (.inl l1)), .inl (G.2.2.2.2 (pm_sg (l3 + 1)).toNat)] (G, M, T) (fun r S1 => pm_Run d 308 1000 [.inr (.inr (.inl (-2))), .inr (.inr (.inl l1)), .inr (.inr (.inl l2)), .inl l3] (pm_push r []) S1 K) := by
  refine (px_go (by decide +kernel : pm_fe 308 991 = some (.aload_n 1, 1)) rfl).trans ?_
  refine (px_go (by decide +kernel : pm_fe 308 992 = some (.aload_n 0, 1)) rfl).trans ?_
  refine (px_go (by decide +kernel : pm_fe 308 993 = some (.iload_n 3, 1)) rfl).trans ?_
  refine (px_go (by decide +kernel : pm_fe 308 994 = some (.iconst 1, 1)) rfl).trans ?_
  refine (px_go (by decide +kernel : pm_fe 308 995 = some (.iadd, 1)) rfl).trans ?_
  refine (px_siald (by decide +kernel) h1 h2).trans ?_
  refine (px_v1 (idx := 121) (m' := 157) (ci := 11) (by decide +kernel)).trans ((and_iff_right ⟨h3, (by simp [pm_wl_n, pm_wl_c, pm_w] : pm_wl [] ≤ 8)⟩).trans ?_)
  exact Iff.rfl
theorem b308_1000 {d : Nat} {G : PG} {M T : PH} {K : PV → PS → Prop} {l1 l2 l3 s0 : Int} (h1 : 0 ≤ pm_sg (l3 + 1)) (h2 : pm_sg (l3 + 1) < G.2.2.2.1) (h3 : pm_ob G l2 12) : pm_Run d 308 1000 [.inr (.inr (.inl (-2))), .inr (.inr (.inl l1)), .inr (.inr (.inl l2)), .inl l3] [.inl s0] (G, M, T) K ↔ pm_Call d 296 [.inr (.inr (.inl l2)), .inl (G.2.2.2.2 (pm_sg (l3 + 1)).toNat)] (G, M, T) (fun r S1 => pm_Run d 308 1009 [.inr (.inr (.inl (-2))), .inr (.inr (.inl l1)), .inr (.inr (.inl l2)), .inl l3] (pm_push r [.inl s0]) S1 K) := by
  refine (px_go (by decide +kernel : pm_fe 308 1000 = some (.aload_n 2, 1)) rfl).trans ?_
  refine (px_go (by decide +kernel : pm_fe 308 1001 = some (.aload_n 0, 1)) rfl).trans ?_
  refine (px_go (by decide +kernel : pm_fe 308 1002 = some (.iload_n 3, 1)) rfl).trans ?_
  refine (px_go (by decide +kernel : pm_fe 308 1003 = some (.iconst 1, 1)) rfl).trans ?_
  refine (px_go (by decide +kernel : pm_fe 308 1004 = some (.iadd, 1)) rfl).trans ?_
  refine (px_siald (by decide +kernel) h1 h2).trans ?_
  refine (px_v1 (idx := 124) (m' := 296) (ci := 12) (by decide +kernel)).trans ((and_iff_right ⟨h3, (by simp [pm_wl_n, pm_wl_c, pm_w] : pm_wl [.inl s0] ≤ 8)⟩).trans ?_)
  exact Iff.rfl
theorem b308_1009 {d : Nat} {G : PG} {M T : PH} {K : PV → PS → Prop} {l1 l2 l3 s0 s1 : Int} : pm_Run d 308 1009 [.inr (.inr (.inl (-2))), .inr (.inr (.inl l1)), .inr (.inr (.inl l2)), .inl l3] [.inl s0, .inl s1] (G, M, T) K ↔ if pm_sg s1 = pm_sg s0 then pm_Run d 308 1122 [.inr (.inr (.inl (-2))), .inr (.inr (.inl l1)), .inr (.inr (.inl l2)), .inl l3] [] (G, M, T) K else pm_Run d 308 1012 [.inr (.inr (.inl (-2))), .inr (.inr (.inl l1)), .inr (.inr (.inl l2)), .inl l3] [] (G, M, T) K := by
  refine (px_ic_eq (off := 113) (tgt := 1122) (by decide +kernel)).trans ?_
  exact Iff.rfl
theorem b308_1012 {d : Nat} {G : PG} {M T : PH} {K : PV → PS → Prop} {l1 l2 l3 : Int} : pm_Run d 308 1012 [.inr (.inr (.inl (-2))), .inr (.inr (.inl l1)), .inr (.inr (.inl l2)), .inl l3] [] (G, M, T) K ↔ K (.inl 0) (G, M, T) := by
  refine (px_go (by decide +kernel : pm_fe 308 1012 = some (.iconst 0, 1)) rfl).trans ?_
  refine (px_rz (by decide +kernel)).trans ((and_iff_right (by decide : (0 : Int) = (0 : Int) ∨ (0 : Int) = (1 : Int))).trans ?_)
  exact Iff.rfl
theorem b308_1014 {d : Nat} {G : PG} {M T : PH} {K : PV → PS → Prop} {l1 l2 l3 : Int} (h1 : pm_ob G l1 11) : pm_Run d 308 1014 [.inr (.inr (.inl (-2))), .inr (.inr (.inl l1)), .inr (.inr (.inl l2)), .inl l3] [] (G, M, T) K ↔ pm_Call d 158 [.inr (.inr (.inl l1))] (G, M, T) (fun r S1 => pm_Run d 308 1018 [.inr (.inr (.inl (-2))), .inr (.inr (.inl l1)), .inr (.inr (.inl l2)), .inl l3] (pm_push r []) S1 K) := by
  refine (px_go (by decide +kernel : pm_fe 308 1014 = some (.aload_n 1, 1)) rfl).trans ?_
  refine (px_v0 (idx := 125) (m' := 158) (ci := 11) (by decide +kernel)).trans ((and_iff_right ⟨h1, (by simp [pm_wl_n, pm_wl_c, pm_w] : pm_wl [] ≤ 8)⟩).trans ?_)
  exact Iff.rfl
theorem b308_1018 {d : Nat} {G : PG} {M T : PH} {K : PV → PS → Prop} {l1 l2 l3 s0 : Int} (h1 : pm_ob G l2 12) : pm_Run d 308 1018 [.inr (.inr (.inl (-2))), .inr (.inr (.inl l1)), .inr (.inr (.inl l2)), .inl l3] [.inl s0] (G, M, T) K ↔ pm_Call d 297 [.inr (.inr (.inl l2))] (G, M, T) (fun r S1 => pm_Run d 308 1022 [.inr (.inr (.inl (-2))), .inr (.inr (.inl l1)), .inr (.inr (.inl l2)), .inl l3] (pm_push r [.inl s0]) S1 K) := by
  refine (px_go (by decide +kernel : pm_fe 308 1018 = some (.aload_n 2, 1)) rfl).trans ?_
  refine (px_v0 (idx := 128) (m' := 297) (ci := 12) (by decide +kernel)).trans ((and_iff_right ⟨h1, (by simp [pm_wl_n, pm_wl_c, pm_w] : pm_wl [.inl s0] ≤ 8)⟩).trans ?_)
  exact Iff.rfl
theorem b308_1022 {d : Nat} {G : PG} {M T : PH} {K : PV → PS → Prop} {l1 l2 l3 s0 s1 : Int} : pm_Run d 308 1022 [.inr (.inr (.inl (-2))), .inr (.inr (.inl l1)), .inr (.inr (.inl l2)), .inl l3] [.inl s0, .inl s1] (G, M, T) K ↔ if pm_sg s1 = pm_sg s0 then pm_Run d 308 1122 [.inr (.inr (.inl (-2))), .inr (.inr (.inl l1)), .inr (.inr (.inl l2)), .inl l3] [] (G, M, T) K else pm_Run d 308 1025 [.inr (.inr (.inl (-2))), .inr (.inr (.inl l1)), .inr (.inr (.inl l2)), .inl l3] [] (G, M, T) K := by
  refine (px_ic_eq (off := 100) (tgt := 1122) (by decide +kernel)).trans ?_
  exact Iff.rfl
theorem b308_1025 {d : Nat} {G : PG} {M T : PH} {K : PV → PS → Prop} {l1 l2 l3 : Int} : pm_Run d 308 1025 [.inr (.inr (.inl (-2))), .inr (.inr (.inl l1)), .inr (.inr (.inl l2)), .inl l3] [] (G, M, T) K ↔ K (.inl 0) (G, M, T) := by
  refine (px_go (by decide +kernel : pm_fe 308 1025 = some (.iconst 0, 1)) rfl).trans ?_
  refine (px_rz (by decide +kernel)).trans ((and_iff_right (by decide : (0 : Int) = (0 : Int) ∨ (0 : Int) = (1 : Int))).trans ?_)
  exact Iff.rfl
theorem b308_1027 {d : Nat} {G : PG} {M T : PH} {K : PV → PS → Prop} {l1 l2 l3 : Int} (h1 : 0 ≤ pm_sg (l3 + 1)) (h2 : pm_sg (l3 + 1) < G.2.2.2.1) (h3 : pm_ob G l1 11) : pm_Run d 308 1027 [.inr (.inr (.inl (-2))), .inr (.inr (.inl l1)), .inr (.inr (.inl l2)), .inl l3] [] (G, M, T) K ↔ pm_Call d 159 [.inr (.inr (.inl l1)), .inl (G.2.2.2.2 (pm_sg (l3 + 1)).toNat)] (G, M, T) (fun r S1 => pm_Run d 308 1036 [.inr (.inr (.inl (-2))), .inr (.inr (.inl l1)), .inr (.inr (.inl l2)), .inl l3] (pm_push r []) S1 K) := by
  refine (px_go (by decide +kernel : pm_fe 308 1027 = some (.aload_n 1, 1)) rfl).trans ?_
  refine (px_go (by decide +kernel : pm_fe 308 1028 = some (.aload_n 0, 1)) rfl).trans ?_
  refine (px_go (by decide +kernel : pm_fe 308 1029 = some (.iload_n 3, 1)) rfl).trans ?_
  refine (px_go (by decide +kernel : pm_fe 308 1030 = some (.iconst 1, 1)) rfl).trans ?_
  refine (px_go (by decide +kernel : pm_fe 308 1031 = some (.iadd, 1)) rfl).trans ?_
  refine (px_siald (by decide +kernel) h1 h2).trans ?_
  refine (px_v1 (idx := 129) (m' := 159) (ci := 11) (by decide +kernel)).trans ((and_iff_right ⟨h3, (by simp [pm_wl_n, pm_wl_c, pm_w] : pm_wl [] ≤ 8)⟩).trans ?_)
  exact Iff.rfl
theorem b308_1036 {d : Nat} {G : PG} {M T : PH} {K : PV → PS → Prop} {l1 l2 l3 s0 : Int} (h1 : 0 ≤ pm_sg (l3 + 1)) (h2 : pm_sg (l3 + 1) < G.2.2.2.1) (h3 : pm_ob G l2 12) : pm_Run d 308 1036 [.inr (.inr (.inl (-2))), .inr (.inr (.inl l1)), .inr (.inr (.inl l2)), .inl l3] [.inl s0] (G, M, T) K ↔ pm_Call d 299 [.inr (.inr (.inl l2)), .inl (G.2.2.2.2 (pm_sg (l3 + 1)).toNat)] (G, M, T) (fun r S1 => pm_Run d 308 1045 [.inr (.inr (.inl (-2))), .inr (.inr (.inl l1)), .inr (.inr (.inl l2)), .inl l3] (pm_push r [.inl s0]) S1 K) := by
  refine (px_go (by decide +kernel : pm_fe 308 1036 = some (.aload_n 2, 1)) rfl).trans ?_
  refine (px_go (by decide +kernel : pm_fe 308 1037 = some (.aload_n 0, 1)) rfl).trans ?_
  refine (px_go (by decide +kernel : pm_fe 308 1038 = some (.iload_n 3, 1)) rfl).trans ?_
  refine (px_go (by decide +kernel : pm_fe 308 1039 = some (.iconst 1, 1)) rfl).trans ?_
  refine (px_go (by decide +kernel : pm_fe 308 1040 = some (.iadd, 1)) rfl).trans ?_
  refine (px_siald (by decide +kernel) h1 h2).trans ?_
  refine (px_v1 (idx := 132) (m' := 299) (ci := 12) (by decide +kernel)).trans ((and_iff_right ⟨h3, (by simp [pm_wl_n, pm_wl_c, pm_w] : pm_wl [.inl s0] ≤ 8)⟩).trans ?_)
  exact Iff.rfl
theorem b308_1045 {d : Nat} {G : PG} {M T : PH} {K : PV → PS → Prop} {l1 l2 l3 s0 s1 : Int} : pm_Run d 308 1045 [.inr (.inr (.inl (-2))), .inr (.inr (.inl l1)), .inr (.inr (.inl l2)), .inl l3] [.inl s0, .inl s1] (G, M, T) K ↔ if pm_sg s1 = pm_sg s0 then pm_Run d 308 1122 [.inr (.inr (.inl (-2))), .inr (.inr (.inl l1)), .inr (.inr (.inl l2)), .inl l3] [] (G, M, T) K else pm_Run d 308 1048 [.inr (.inr (.inl (-2))), .inr (.inr (.inl l1)), .inr (.inr (.inl l2)), .inl l3] [] (G, M, T) K := by
  refine (px_ic_eq (off := 77) (tgt := 1122) (by decide +kernel)).trans ?_
  exact Iff.rfl
theorem b308_1048 {d : Nat} {G : PG} {M T : PH} {K : PV → PS → Prop} {l1 l2 l3 : Int} : pm_Run d 308 1048 [.inr (.inr (.inl (-2))), .inr (.inr (.inl l1)), .inr (.inr (.inl l2)), .inl l3] [] (G, M, T) K ↔ K (.inl 0) (G, M, T) := by
  refine (px_go (by decide +kernel : pm_fe 308 1048 = some (.iconst 0, 1)) rfl).trans ?_
  refine (px_rz (by decide +kernel)).trans ((and_iff_right (by decide : (0 : Int) = (0 : Int) ∨ (0 : Int) = (1 : Int))).trans ?_)
  exact Iff.rfl
theorem b308_1050 {d : Nat} {G : PG} {M T : PH} {K : PV → PS → Prop} {l1 l2 l3 : Int} (h1 : pm_ob G l1 11) : pm_Run d 308 1050 [.inr (.inr (.inl (-2))), .inr (.inr (.inl l1)), .inr (.inr (.inl l2)), .inl l3] [] (G, M, T) K ↔ pm_Call d 160 [.inr (.inr (.inl l1))] (G, M, T) (fun r S1 => pm_Run d 308 1054 [.inr (.inr (.inl (-2))), .inr (.inr (.inl l1)), .inr (.inr (.inl l2)), .inl l3] (pm_push r []) S1 K) := by
  refine (px_go (by decide +kernel : pm_fe 308 1050 = some (.aload_n 1, 1)) rfl).trans ?_
  refine (px_v0 (idx := 133) (m' := 160) (ci := 11) (by decide +kernel)).trans ((and_iff_right ⟨h1, (by simp [pm_wl_n, pm_wl_c, pm_w] : pm_wl [] ≤ 8)⟩).trans ?_)
  exact Iff.rfl
theorem b308_1054 {d : Nat} {G : PG} {M T : PH} {K : PV → PS → Prop} {l1 l2 l3 s0 : Int} (h1 : pm_ob G l2 12) : pm_Run d 308 1054 [.inr (.inr (.inl (-2))), .inr (.inr (.inl l1)), .inr (.inr (.inl l2)), .inl l3] [.inl s0] (G, M, T) K ↔ pm_Call d 302 [.inr (.inr (.inl l2))] (G, M, T) (fun r S1 => pm_Run d 308 1058 [.inr (.inr (.inl (-2))), .inr (.inr (.inl l1)), .inr (.inr (.inl l2)), .inl l3] (pm_push r [.inl s0]) S1 K) := by
  refine (px_go (by decide +kernel : pm_fe 308 1054 = some (.aload_n 2, 1)) rfl).trans ?_
  refine (px_v0 (idx := 136) (m' := 302) (ci := 12) (by decide +kernel)).trans ((and_iff_right ⟨h1, (by simp [pm_wl_n, pm_wl_c, pm_w] : pm_wl [.inl s0] ≤ 8)⟩).trans ?_)
  exact Iff.rfl
theorem b308_1058 {d : Nat} {G : PG} {M T : PH} {K : PV → PS → Prop} {l1 l2 l3 s0 s1 : Int} : pm_Run d 308 1058 [.inr (.inr (.inl (-2))), .inr (.inr (.inl l1)), .inr (.inr (.inl l2)), .inl l3] [.inl s0, .inl s1] (G, M, T) K ↔ if pm_sg s1 = pm_sg s0 then pm_Run d 308 1122 [.inr (.inr (.inl (-2))), .inr (.inr (.inl l1)), .inr (.inr (.inl l2)), .inl l3] [] (G, M, T) K else pm_Run d 308 1061 [.inr (.inr (.inl (-2))), .inr (.inr (.inl l1)), .inr (.inr (.inl l2)), .inl l3] [] (G, M, T) K := by
  refine (px_ic_eq (off := 64) (tgt := 1122) (by decide +kernel)).trans ?_
  exact Iff.rfl
theorem b308_1061 {d : Nat} {G : PG} {M T : PH} {K : PV → PS → Prop} {l1 l2 l3 : Int} : pm_Run d 308 1061 [.inr (.inr (.inl (-2))), .inr (.inr (.inl l1)), .inr (.inr (.inl l2)), .inl l3] [] (G, M, T) K ↔ K (.inl 0) (G, M, T) := by
  refine (px_go (by decide +kernel : pm_fe 308 1061 = some (.iconst 0, 1)) rfl).trans ?_
  refine (px_rz (by decide +kernel)).trans ((and_iff_right (by decide : (0 : Int) = (0 : Int) ∨ (0 : Int) = (1 : Int))).trans ?_)
  exact Iff.rfl
theorem b308_1063 {d : Nat} {G : PG} {M T : PH} {K : PV → PS → Prop} {l1 l2 l3 : Int} (h1 : 0 ≤ pm_sg (l3 + 1)) (h2 : pm_sg (l3 + 1) < G.2.2.2.1) (h3 : pm_ob G l1 11) : pm_Run d 308 1063 [.inr (.inr (.inl (-2))), .inr (.inr (.inl l1)), .inr (.inr (.inl l2)), .inl l3] [] (G, M, T) K ↔ pm_Call d 161 [.inr (.inr (.inl l1)), .inl (G.2.2.2.2 (pm_sg (l3 + 1)).toNat)] (G, M, T) (fun r S1 => pm_Run d 308 1072 [.inr (.inr (.inl (-2))), .inr (.inr (.inl l1)), .inr (.inr (.inl l2)), .inl l3] (pm_push r []) S1 K) := by
  refine (px_go (by decide +kernel : pm_fe 308 1063 = some (.aload_n 1, 1)) rfl).trans ?_
  refine (px_go (by decide +kernel : pm_fe 308 1064 = some (.aload_n 0, 1)) rfl).trans ?_
  refine (px_go (by decide +kernel : pm_fe 308 1065 = some (.iload_n 3, 1)) rfl).trans ?_
  refine (px_go (by decide +kernel : pm_fe 308 1066 = some (.iconst 1, 1)) rfl).trans ?_
  refine (px_go (by decide +kernel : pm_fe 308 1067 = some (.iadd, 1)) rfl).trans ?_
  refine (px_siald (by decide +kernel) h1 h2).trans ?_
  refine (px_v1 (idx := 137) (m' := 161) (ci := 11) (by decide +kernel)).trans ((and_iff_right ⟨h3, (by simp [pm_wl_n, pm_wl_c, pm_w] : pm_wl [] ≤ 8)⟩).trans ?_)
  exact Iff.rfl
theorem b308_1072 {d : Nat} {G : PG} {M T : PH} {K : PV → PS → Prop} {l1 l2 l3 s0 : Int} (h1 : 0 ≤ pm_sg (l3 + 1)) (h2 : pm_sg (l3 + 1) < G.2.2.2.1) (h3 : pm_ob G l2 12) : pm_Run d 308 1072 [.inr (.inr (.inl (-2))), .inr (.inr (.inl l1)), .inr (.inr (.inl l2)), .inl l3] [.inl s0] (G, M, T) K ↔ pm_Call d 303 [.inr (.inr (.inl l2)), .inl (G.2.2.2.2 (pm_sg (l3 + 1)).toNat)] (G, M, T) (fun r S1 => pm_Run d 308 1081 [.inr (.inr (.inl (-2))), .inr (.inr (.inl l1)), .inr (.inr (.inl l2)), .inl l3] (pm_push r [.inl s0]) S1 K) := by
  refine (px_go (by decide +kernel : pm_fe 308 1072 = some (.aload_n 2, 1)) rfl).trans ?_
  refine (px_go (by decide +kernel : pm_fe 308 1073 = some (.aload_n 0, 1)) rfl).trans ?_
  refine (px_go (by decide +kernel : pm_fe 308 1074 = some (.iload_n 3, 1)) rfl).trans ?_
  refine (px_go (by decide +kernel : pm_fe 308 1075 = some (.iconst 1, 1)) rfl).trans ?_
  refine (px_go (by decide +kernel : pm_fe 308 1076 = some (.iadd, 1)) rfl).trans ?_
  refine (px_siald (by decide +kernel) h1 h2).trans ?_
  refine (px_v1 (idx := 140) (m' := 303) (ci := 12) (by decide +kernel)).trans ((and_iff_right ⟨h3, (by simp [pm_wl_n, pm_wl_c, pm_w] : pm_wl [.inl s0] ≤ 8)⟩).trans ?_)
  exact Iff.rfl
theorem b308_1081 {d : Nat} {G : PG} {M T : PH} {K : PV → PS → Prop} {l1 l2 l3 s0 s1 : Int} : pm_Run d 308 1081 [.inr (.inr (.inl (-2))), .inr (.inr (.inl l1)), .inr (.inr (.inl l2)), .inl l3] [.inl s0, .inl s1] (G, M, T) K ↔ if pm_sg s1 = pm_sg s0 then pm_Run d 308 1122 [.inr (.inr (.inl (-2))), .inr (.inr (.inl l1)), .inr (.inr (.inl l2)), .inl l3] [] (G, M, T) K else pm_Run d 308 1084 [.inr (.inr (.inl (-2))), .inr (.inr (.inl l1)), .inr (.inr (.inl l2)), .inl l3] [] (G, M, T) K := by
  refine (px_ic_eq (off := 41) (tgt := 1122) (by decide +kernel)).trans ?_
  exact Iff.rfl
theorem b308_1084 {d : Nat} {G : PG} {M T : PH} {K : PV → PS → Prop} {l1 l2 l3 : Int} : pm_Run d 308 1084 [.inr (.inr (.inl (-2))), .inr (.inr (.inl l1)), .inr (.inr (.inl l2)), .inl l3] [] (G, M, T) K ↔ K (.inl 0) (G, M, T) := by
  refine (px_go (by decide +kernel : pm_fe 308 1084 = some (.iconst 0, 1)) rfl).trans ?_
  refine (px_rz (by decide +kernel)).trans ((and_iff_right (by decide : (0 : Int) = (0 : Int) ∨ (0 : Int) = (1 : Int))).trans ?_)
  exact Iff.rfl
theorem b308_1086 {d : Nat} {G : PG} {M T : PH} {K : PV → PS → Prop} {l1 l2 l3 : Int} (h1 : pm_ob G l1 11) : pm_Run d 308 1086 [.inr (.inr (.inl (-2))), .inr (.inr (.inl l1)), .inr (.inr (.inl l2)), .inl l3] [] (G, M, T) K ↔ pm_Call d 162 [.inr (.inr (.inl l1))] (G, M, T) (fun r S1 => pm_Run d 308 1090 [.inr (.inr (.inl (-2))), .inr (.inr (.inl l1)), .inr (.inr (.inl l2)), .inl l3] (pm_push r []) S1 K) := by
  refine (px_go (by decide +kernel : pm_fe 308 1086 = some (.aload_n 1, 1)) rfl).trans ?_
  refine (px_v0 (idx := 141) (m' := 162) (ci := 11) (by decide +kernel)).trans ((and_iff_right ⟨h1, (by simp [pm_wl_n, pm_wl_c, pm_w] : pm_wl [] ≤ 8)⟩).trans ?_)
  exact Iff.rfl
theorem b308_1090 {d : Nat} {G : PG} {M T : PH} {K : PV → PS → Prop} {l1 l2 l3 s0 : Int} (h1 : pm_ob G l2 12) : pm_Run d 308 1090 [.inr (.inr (.inl (-2))), .inr (.inr (.inl l1)), .inr (.inr (.inl l2)), .inl l3] [.inl s0] (G, M, T) K ↔ pm_Call d 306 [.inr (.inr (.inl l2))] (G, M, T) (fun r S1 => pm_Run d 308 1094 [.inr (.inr (.inl (-2))), .inr (.inr (.inl l1)), .inr (.inr (.inl l2)), .inl l3] (pm_push r [.inl s0]) S1 K) := by
  refine (px_go (by decide +kernel : pm_fe 308 1090 = some (.aload_n 2, 1)) rfl).trans ?_
  refine (px_v0 (idx := 144) (m' := 306) (ci := 12) (by decide +kernel)).trans ((and_iff_right ⟨h1, (by simp [pm_wl_n, pm_wl_c, pm_w] : pm_wl [.inl s0] ≤ 8)⟩).trans ?_)
  exact Iff.rfl
theorem b308_1094 {d : Nat} {G : PG} {M T : PH} {K : PV → PS → Prop} {l1 l2 l3 s0 s1 : Int} : pm_Run d 308 1094 [.inr (.inr (.inl (-2))), .inr (.inr (.inl l1)), .inr (.inr (.inl l2)), .inl l3] [.inl s0, .inl s1] (G, M, T) K ↔ if pm_sg s1 = pm_sg s0 then pm_Run d 308 1122 [.inr (.inr (.inl (-2))), .inr (.inr (.inl l1)), .inr (.inr (.inl l2)), .inl l3] [] (G, M, T) K else pm_Run d 308 1097 [.inr (.inr (.inl (-2))), .inr (.inr (.inl l1)), .inr (.inr (.inl l2)), .inl l3] [] (G, M, T) K := by
  refine (px_ic_eq (off := 28) (tgt := 1122) (by decide +kernel)).trans ?_
  exact Iff.rfl
theorem b308_1097 {d : Nat} {G : PG} {M T : PH} {K : PV → PS → Prop} {l1 l2 l3 : Int} : pm_Run d 308 1097 [.inr (.inr (.inl (-2))), .inr (.inr (.inl l1)), .inr (.inr (.inl l2)), .inl l3] [] (G, M, T) K ↔ K (.inl 0) (G, M, T) := by
  refine (px_go (by decide +kernel : pm_fe 308 1097 = some (.iconst 0, 1)) rfl).trans ?_
  refine (px_rz (by decide +kernel)).trans ((and_iff_right (by decide : (0 : Int) = (0 : Int) ∨ (0 : Int) = (1 : Int))).trans ?_)
  exact Iff.rfl
theorem b308_1099 {d : Nat} {G : PG} {M T : PH} {K : PV → PS → Prop} {l1 l2 l3 : Int} (h1 : 0 ≤ pm_sg (l3 + 1)) (h2 : pm_sg (l3 + 1) < G.2.2.2.1) (h3 : pm_ob G l1 11) : pm_Run d 308 1099 [.inr (.inr (.inl (-2))), .inr (.inr (.inl l1)), .inr (.inr (.inl l2)), .inl l3] [] (G, M, T) K ↔ pm_Call d 163 [.inr (.inr (.inl l1)), .inl (G.2.2.2.2 (pm_sg (l3 + 1)).toNat)] (G, M, T) (fun r S1 => pm_Run d 308 1108 [.inr (.inr (.inl (-2))), .inr (.inr (.inl l1)), .inr (.inr (.inl l2)), .inl l3] (pm_push r []) S1 K) := by
  refine (px_go (by decide +kernel : pm_fe 308 1099 = some (.aload_n 1, 1)) rfl).trans ?_
  refine (px_go (by decide +kernel : pm_fe 308 1100 = some (.aload_n 0, 1)) rfl).trans ?_
  refine (px_go (by decide +kernel : pm_fe 308 1101 = some (.iload_n 3, 1)) rfl).trans ?_
  refine (px_go (by decide +kernel : pm_fe 308 1102 = some (.iconst 1, 1)) rfl).trans ?_
  refine (px_go (by decide +kernel : pm_fe 308 1103 = some (.iadd, 1)) rfl).trans ?_
  refine (px_siald (by decide +kernel) h1 h2).trans ?_
  refine (px_v1 (idx := 145) (m' := 163) (ci := 11) (by decide +kernel)).trans ((and_iff_right ⟨h3, (by simp [pm_wl_n, pm_wl_c, pm_w] : pm_wl [] ≤ 8)⟩).trans ?_)
  exact Iff.rfl
theorem b308_1108 {d : Nat} {G : PG} {M T : PH} {K : PV → PS → Prop} {l1 l2 l3 s0 : Int} (h1 : 0 ≤ pm_sg (l3 + 1)) (h2 : pm_sg (l3 + 1) < G.2.2.2.1) (h3 : pm_ob G l2 12) : pm_Run d 308 1108 [.inr (.inr (.inl (-2))), .inr (.inr (.inl l1)), .inr (.inr (.inl l2)), .inl l3] [.inl s0] (G, M, T) K ↔ pm_Call d 225 [.inr (.inr (.inl l2)), .inl (G.2.2.2.2 (pm_sg (l3 + 1)).toNat)] (G, M, T) (fun r S1 => pm_Run d 308 1117 [.inr (.inr (.inl (-2))), .inr (.inr (.inl l1)), .inr (.inr (.inl l2)), .inl l3] (pm_push r [.inl s0]) S1 K) := by
  refine (px_go (by decide +kernel : pm_fe 308 1108 = some (.aload_n 2, 1)) rfl).trans ?_
  refine (px_go (by decide +kernel : pm_fe 308 1109 = some (.aload_n 0, 1)) rfl).trans ?_
  refine (px_go (by decide +kernel : pm_fe 308 1110 = some (.iload_n 3, 1)) rfl).trans ?_
  refine (px_go (by decide +kernel : pm_fe 308 1111 = some (.iconst 1, 1)) rfl).trans ?_
  refine (px_go (by decide +kernel : pm_fe 308 1112 = some (.iadd, 1)) rfl).trans ?_
  refine (px_siald (by decide +kernel) h1 h2).trans ?_
  refine (px_v1 (idx := 148) (m' := 225) (ci := 12) (by decide +kernel)).trans ((and_iff_right ⟨h3, (by simp [pm_wl_n, pm_wl_c, pm_w] : pm_wl [.inl s0] ≤ 8)⟩).trans ?_)
  exact Iff.rfl
theorem b308_1117 {d : Nat} {G : PG} {M T : PH} {K : PV → PS → Prop} {l1 l2 l3 s0 s1 : Int} : pm_Run d 308 1117 [.inr (.inr (.inl (-2))), .inr (.inr (.inl l1)), .inr (.inr (.inl l2)), .inl l3] [.inl s0, .inl s1] (G, M, T) K ↔ if pm_sg s1 = pm_sg s0 then pm_Run d 308 1122 [.inr (.inr (.inl (-2))), .inr (.inr (.inl l1)), .inr (.inr (.inl l2)), .inl l3] [] (G, M, T) K else pm_Run d 308 1120 [.inr (.inr (.inl (-2))), .inr (.inr (.inl l1)), .inr (.inr (.inl l2)), .inl l3] [] (G, M, T) K := by
  refine (px_ic_eq (off := 5) (tgt := 1122) (by decide +kernel)).trans ?_
  exact Iff.rfl
theorem b308_1120 {d : Nat} {G : PG} {M T : PH} {K : PV → PS → Prop} {l1 l2 l3 : Int} : pm_Run d 308 1120 [.inr (.inr (.inl (-2))), .inr (.inr (.inl l1)), .inr (.inr (.inl l2)), .inl l3] [] (G, M, T) K ↔ K (.inl 0) (G, M, T) := by
  refine (px_go (by decide +kernel : pm_fe 308 1120 = some (.iconst 0, 1)) rfl).trans ?_
  refine (px_rz (by decide +kernel)).trans ((and_iff_right (by decide : (0 : Int) = (0 : Int) ∨ (0 : Int) = (1 : Int))).trans ?_)
  exact Iff.rfl
theorem b308_1122 {d : Nat} {G : PG} {M T : PH} {K : PV → PS → Prop} {l1 l2 l3 : Int} : pm_Run d 308 1122 [.inr (.inr (.inl (-2))), .inr (.inr (.inl l1)), .inr (.inr (.inl l2)), .inl l3] [] (G, M, T) K ↔ pm_Run d 308 18 [.inr (.inr (.inl (-2))), .inr (.inr (.inl l1)), .inr (.inr (.inl l2)), .inl (l3 + 6)] [] (G, M, T) K := by
  refine (px_go (by decide +kernel : pm_fe 308 1122 = some (.iinc 3 6, 3)) rfl).trans ?_
  refine (px_goto (off := (-1107)) (tgt := 18) (by decide +kernel)).trans ?_
  exact Iff.rfl
theorem b308_1128 {d : Nat} {G : PG} {M T : PH} {K : PV → PS → Prop} {l1 l2 l3 : Int} : pm_Run d 308 1128 [.inr (.inr (.inl (-2))), .inr (.inr (.inl l1)), .inr (.inr (.inl l2)), .inl l3] [] (G, M, T) K ↔ K (.inl 1) (G, M, T) := by
  refine (px_go (by decide +kernel : pm_fe 308 1128 = some (.iconst 1, 1)) rfl).trans ?_
  refine (px_rz (by decide +kernel)).trans ((and_iff_right (by decide : (1 : Int) = (0 : Int) ∨ (1 : Int) = (1 : Int))).trans ?_)
  exact Iff.rfl
