/-! The reference: sea. -/
section RFaz
variable {d b w bk D : Nat} {X : Nat × (Nat → Int)} {v : Nat → Int} {M M' M2 : PH} {K : PV → PS → Prop} {B : Nat → Int} {N : Nat} {κ : KP} {l S S0 Q : List Int} {e : Int × Int} {s : S2} {n : Nat → Nat} {a : PH} {z : CZ} {F : Nat → List Int} {μ : PH} {rf : Nat → Int} {sd : Int} {A : Nat} {P : Nat → PH} {R : Nat} {sp sh : Nat → Int} {pi : PB2} {fe : Int × Int}
theorem bo_k {q k : Nat} (hb : b < 2) (h : wd q * b ≤ k ∧ k < wd q * b + wd q) : k < wd q * (1 - b) ∨ wd q * (1 - b) + wd q ≤ k := by
  obtain rfl | rfl : b = 0 ∨ b = 1 := by omega
  · left
    show k < wd q * 1
    omega
  · right
    show wd q * 0 + wd q ≤ k
    omega
theorem s222 (h : IR M b n a F μ B N rf sd A P R sp sh pi fe) (hB : BB B) (hw : ∀ k l z, gRead B N = .inr (k, l, z) → wC z.1 z.2.1 z.2.2.1) (hK0 : ∀ e, gRead B N = .inl e → ∀ M', IR M' b n a F μ B 0 (pm_up rf 1 (rf 1 + 1)) sd A P R sp sh pi e → frS M M' → K (vI (-1)) (GF X, M', PTF v)) (hK1 : ∀ k l z, gRead B N = .inr (k, l, z) → ∀ M', IR M' (1 - b) z.1 z.2.1 z.2.2.1 z.2.2.2 B 0 rf sd 0 P 0 sp sh pi (0, -1) → frS M M' → K (vI ((k : Nat) : Int)) (GF X, M', PTF v)) : pm_Call (d + 10) 222 [vA 234] (GF X, M, PTF v) K := by
  obtain ⟨hS, hM, hT, hR, h62, hU, hG, hI, hF, hN⟩ := h
  have hb := hS.1.1
  have wc := hS.2.2.1
  refine i222 (d := d + 9) (b := b) (N := N) ⟨hb.2, hb.1⟩ hT.2.2 (fun M1 s1 t1 q1 k1 j1 => ?_)
  have hT1 : TX M1 B N := ⟨hB, hT.2.1, fun k hk => by rw [q1 235 (by omega) (by omega)]; exact hT.1 k hk⟩
  refine m222 (d := d) (bk := 1 - b) hT1 s1 (fun e he M2 i f2 g2 => ?_) (fun c l z hc M2 e8 e9 d2 z2 g2 => ?_)
  · have f8 := f2.1
    have f9 := f2.2.2.1
    have fb := f2.2.1
    rw [r222_188, r222_196, sa_s, sa_sa]
    generalize hM3 : pm_sa M2 234 (pm_up (pm_up (M2 234) 10 (M2 234 8)) 11 (pm_up (M2 234) 10 (M2 234 8) 9)) = M3
    have n3 : ∀ q, q ≠ 234 → M3 q = M2 q := fun q hq => by rw [← hM3, sa_n hq]
    have j3 : ∀ j, j ≠ 10 → j ≠ 11 → M3 234 j = M2 234 j := fun j z1 z2 => by rw [← hM3, sa_s, up_n z2, up_n z1]
    have a10 : M3 234 10 = e.1 := by rw [← hM3, sa_s, up_n (by omega), up_s]; exact f8
    have a11 : M3 234 11 = e.2 := by rw [← hM3, sa_s, up_s, up_n (by omega)]; exact f9
    rw [r222_204 (by rw [j3 8 (by omega) (by omega)]; omega), if_neg (by rw [j3 8 (by omega) (by omega)]; omega), r222_211]
    refine (c224 (d := d + 8) (j := 1) (by omega)).mpr ?_
    rw [push_i, r222_216]
    generalize hM4 : pm_sa M3 269 (pm_up (M3 269) 1 (M3 269 1 + 1)) = M4
    have n4 : ∀ q, q ≠ 269 → M4 q = M3 q := fun q hq => by rw [← hM4, sa_n hq]
    have big : ∀ q, q ≠ 234 → q ≠ 269 → q < 236 ∨ 268 < q → M4 q = M q := fun q z1 z2 z3 => by rw [n4 q z2, n3 q z1, g2.1 q z1 z3, q1 q z1 z3]
    have bnk : ∀ q, 236 ≤ q → q ≤ 262 → ∀ k, wd q * b ≤ k ∧ k < wd q * b + wd q → M4 q k = M q k := fun q z1 z2 k z3 => by rw [n4 q (by omega), n3 q (by omega), g2.2.2 q z1 z2 k (bo_k hb.1 z3), k1 q z1 z2 k z3]
    have slo : ∀ j, j = 13 ∨ j = 60 ∨ j = 61 ∨ j = 62 ∨ j = 71 ∨ j = 75 → M4 234 j = M 234 j := fun j hj => by rw [n4 234 (by omega), j3 j (by omega) (by omega), g2.2.1 j (by omega) (by omega) (by omega) (by omega) (by omega) (by omega) (by omega), j1 j (by omega) (by omega) (by omega) (by omega) (by omega) (by omega) (by omega)]
    have r269 : M3 269 = M 269 := by rw [n3 269 (by omega), g2.1 269 (by omega) (by omega), q1 269 (by omega) (by omega)]
    refine hK0 e he M4 ⟨RS_b hS (slo 13 (by omega)) bnk, RM_v hM (fun q z1 z2 => big q (by omega) (by omega) (by omega)), ⟨fun k hk => absurd hk (Nat.not_lt_zero k), by omega, ?_⟩, fun k hk => ?_, (slo 62 (by omega)).trans h62, ?_, ?_, ?_, ⟨by rw [n4 234 (by omega)]; exact a10, by rw [n4 234 (by omega)]; exact a11⟩, RN_b hN ⟨wc.2.1, wc.2.2.1⟩ bnk⟩ (fun q hq => big q (by omega) (by omega) (by omega))
    · rw [n4 234 (by omega), j3 1 (by omega) (by omega), g2.2.1 1 (by omega) (by omega) (by omega) (by omega) (by omega) (by omega) (by omega)]; exact t1
    · rw [← hM4, sa_s, r269]
      by_cases q : k = 1
      · subst q
        rw [up_s, up_s, hR 1 (by omega)]
      · rw [up_n q, up_n q]; exact hR k hk
    · obtain ⟨x, u1, u2, u3, u4, u5⟩ := hU
      exact ⟨x, u1, u2, (slo 60 (by omega)).trans u3, (slo 61 (by omega)).trans u4, fun k hk => RM_v (u5 k hk) (fun q z1 z2 => big q (by omega) (by omega) (by omega))⟩
    · exact ⟨(slo 71 (by omega)).trans hG.1, fun k hk => by rw [big 280 (by omega) (by omega) (by omega), big 281 (by omega) (by omega) (by omega)]; exact hG.2 k hk⟩
    · exact ⟨(slo 75 (by omega)).trans hI.1, fun k hk => by rw [big 282 (by omega) (by omega) (by omega)]; exact hI.2 k hk⟩
  · rw [r222_188, r222_196, sa_s, sa_sa]
    generalize hM3 : pm_sa M2 234 (pm_up (pm_up (M2 234) 10 (M2 234 8)) 11 (pm_up (M2 234) 10 (M2 234 8) 9)) = M3
    have n3 : ∀ q, q ≠ 234 → M3 q = M2 q := fun q hq => by rw [← hM3, sa_n hq]
    have j3 : ∀ j, j ≠ 10 → j ≠ 11 → M3 234 j = M2 234 j := fun j z1 z2 => by rw [← hM3, sa_s, up_n z2, up_n z1]
    have a10 : M3 234 10 = 0 := by rw [← hM3, sa_s, up_n (by omega), up_s]; exact e8
    have a11 : M3 234 11 = -1 := by rw [← hM3, sa_s, up_s, up_n (by omega)]; exact e9
    rw [r222_204 (by rw [j3 8 (by omega) (by omega)]; omega), if_pos (by rw [j3 8 (by omega) (by omega)]; omega), r222_217]
    have e42 : M3 234 42 = ((1 - b : Nat) : Int) := by rw [j3 42 (by omega) (by omega)]; exact z2.2.2.1.1.1
    rw [e42]
    generalize hM4 : pm_sa M3 234 (pm_up (M3 234) 13 ((1 - b : Nat) : Int)) = M4
    have n4 : ∀ q, q ≠ 234 → M4 q = M2 q := fun q hq => by rw [← hM4, sa_n hq]; exact n3 q hq
    have j4 : ∀ j, j ≠ 10 → j ≠ 11 → j ≠ 13 → M4 234 j = M2 234 j := fun j z1 z2 z3 => by rw [← hM4, sa_s, up_n z3]; exact j3 j z1 z2
    have a4 : M4 234 13 = ((1 - b : Nat) : Int) ∧ M4 234 10 = 0 ∧ M4 234 11 = -1 := by rw [← hM4, sa_s, up_s, up_n (by omega), up_n (by omega)]; exact ⟨rfl, a10, a11⟩
    have z4 : BZ M4 (1 - b) l z := BZ_u z2 (j4 42 (by omega) (by omega) (by omega)) (fun q k hu => by rw [n4 q (fun z => by subst z; unfold US at hu; omega)])
    have d4 : CDR M4 (1 - b) l := CDR_u d2 (j4 42 (by omega) (by omega) (by omega)) (j4 41 (by omega) (by omega) (by omega)) (n4 259 (by omega)) (n4 260 (by omega))
    rw [r222_225]
    refine c233 (d := d + 8) a4.1 z4 (fun M5 r5 q5 j5 v61 v71 => ?_)
    rw [push_u, r222_229]
    have big : ∀ q, q ≠ 234 → q < 236 ∨ (268 < q ∧ q < 270) ∨ 275 < q → M5 q = M q := fun q z1 z2 => by rw [q5 q z1 (by omega), n4 q z1, g2.1 q z1 (by omega), q1 q z1 (by omega)]
    have slo : ∀ j, j = 60 ∨ j = 62 ∨ j = 75 → M5 234 j = M 234 j := fun j hj => by rw [j5 j (by omega) (by omega), j4 j (by omega) (by omega) (by omega), g2.2.1 j (by omega) (by omega) (by omega) (by omega) (by omega) (by omega) (by omega), j1 j (by omega) (by omega) (by omega) (by omega) (by omega) (by omega) (by omega)]
    have z5 : BZ M5 (1 - b) l z := BZ_u z4 (j5 42 (by omega) (by omega)) (fun q k hu => by
      have : 236 ≤ q ∧ q ≤ 262 := by unfold US at hu; omega
      rw [q5 q (by omega) (by omega)])
    have d5 : CDR M5 (1 - b) l := CDR_u d4 (j5 42 (by omega) (by omega)) (j5 41 (by omega) (by omega)) (q5 259 (by omega) (by omega)) (q5 260 (by omega) (by omega))
    obtain ⟨rs, rn⟩ := RS_z z5 d5 (by rw [j5 13 (by omega) (by omega)]; exact a4.1) (hw c l z hc)
    refine hK1 c l z hc M5 ⟨rs, r5, ⟨fun k hk => absurd hk (Nat.not_lt_zero k), by omega, ?_⟩, fun k hk => by rw [big 269 (by omega) (by omega)]; exact hR k hk, (slo 62 (by omega)).trans h62, ?_, ⟨v71, fun k hk => absurd hk (Nat.not_lt_zero k)⟩, ⟨(slo 75 (by omega)).trans hI.1, fun k hk => by rw [big 282 (by omega) (by omega)]; exact hI.2 k hk⟩, ⟨by rw [j5 10 (by omega) (by omega)]; exact a4.2.1, by rw [j5 11 (by omega) (by omega)]; exact a4.2.2⟩, rn⟩ (fun q hq => big q (by omega) (by omega))
    · rw [j5 1 (by omega) (by omega), j4 1 (by omega) (by omega) (by omega), g2.2.1 1 (by omega) (by omega) (by omega) (by omega) (by omega) (by omega) (by omega)]; exact t1
    · obtain ⟨x, u1, -, u3, -, -⟩ := hU
      exact ⟨x, u1, by omega, (slo 60 (by omega)).trans u3, v61, fun k hk => absurd hk (Nat.not_lt_zero k)⟩
end RFaz
