/-! The reference: letters of names. -/
section RFq
variable {d b w : Nat} {X : Nat × (Nat → Int)} {v : Nat → Int} {M M' M2 : PH} {K : PV → PS → Prop} {n : Nat → Nat} {a μ ν : PH} {F : Nat → List Int}
theorem bw_d {x k : Nat} (h : ∀ i, i < k → 1 ≤ ltN x i ∧ ltN x i ≤ 26) : ∀ {j : Nat}, j ≤ k → bwk x k / 2 ^ (8 * j) = bwk x (k - j)
  | 0, _ => by simp
  | j + 1, hj => by
    have g := h (k - (j + 1)) (by omega)
    have e := bw_d h (j := j) (by omega)
    have s := bw_s g.1
    rw [show k - (j + 1) + 1 = k - j by omega] at s
    rw [show 8 * (j + 1) = 8 * j + 8 by omega, Nat.pow_add, ← Nat.div_div_eq_div_mul, e, s]
    omega
theorem s262 (hS : RS M b n a F) (hN : RN M b n a) {x y z : Int} (hx : inR x) (hy : inR y) (hz : inR z) : pm_Call (d + 2) 262 [vA 234, vI x, vI y, vI z] (GF X, M, PTF v) K ↔ K (vI (qLet n a x y z)) (GF X, M, PTF v) := by
  have hn := hS.2.2.1
  obtain ⟨⟨hb, e13⟩, ⟨-, e1, e2, -⟩, -⟩ := id hS.1
  have bad : qLet n a x y z = -1 → (pm_Run (d + 1) 262 37 [vA 234, vI x, vI y, vI z, PU, PU, PU, PU, PU] [] (GF X, M, PTF v) K ↔ K (vI (qLet n a x y z)) (GF X, M, PTF v)) := fun e => by rw [r262_37, e]
  -- a name's letter
  have good : ∀ (u : Int), nmOk u → 0 ≤ z ∧ z ≤ 5 → qLet n a x y z = ltr u z.toNat → (pm_Run (d + 1) 262 49 [vA 234, vI x, vI y, vI z, PU, PU, PU, PU, PU] [vL (bwk u.toNat 6 : Nat)] (GF X, M, PTF v) K ↔ K (vI (qLet n a x y z)) (GF X, M, PTF v)) := by
    intro u hu hz6 eq
    obtain ⟨bu, k, k6, hk, hkz⟩ := hu
    obtain ⟨i, rfl⟩ := Int.eq_ofNat_of_zero_le hz6.1
    rw [Int.toNat_natCast] at eq
    have eq2 : ltr u i = (ltN u.toNat i : Int) := rfl
    have lw := bw_l (x := u.toNat)
    have ek := bw_z hkz k6 (Nat.le_refl _)
    rw [eq, eq2, r262_49]
    have lp : ∀ m j, j + m = k → (pm_Run (d + 1) 262 58 [vA 234, vI x, vI y, vI (i : Int), vL (bwk u.toNat 6 : Nat), PU, vI (j : Int), vL (bwk u.toNat m : Nat), PU] [] (GF X, M, PTF v) K ↔ K (vI (ltN u.toNat i : Int)) (GF X, M, PTF v)) := by
      intro m
      induction m with
      | zero =>
        intro j hj
        have e0 : bwk u.toNat 0 = 0 := rfl
        rw [e0, r262_58 (by omega) cm_r, if_pos (by rw [cm_g]; omega), r262_78 hz (by omega)]
        by_cases q : i < k
        · rw [if_pos (by omega), r262_88, r262_110]
          have ex : (8 * ((j : Int) - 1 - (i : Int))) = ((8 * (k - (i + 1)) : Nat) : Int) := by omega
          have g := hk i q
          have s := bw_s g.1
          have dd := bw_d hk (j := k - (i + 1)) (by omega)
          have lb := bw_b (x := u.toNat) (k := i + 1) (fun i _ => lt31) (by omega)
          have lb2 : (256 : Nat) ^ (i + 1) ≤ 256 ^ 6 := Nat.pow_le_pow_right (by omega) (by omega)
          have lb3 : (256 : Nat) ^ 6 = 281474976710656 := rfl
          rw [s] at lb
          rw [show k - (k - (i + 1)) = i + 1 by omega] at dd
          rw [ex, pm_lshrN (by omega) (by omega), Nat.shiftRight_eq_div_pow, ek, dd, s, show (255 : Int) = ((255 : Nat) : Int) from rfl, pm_landN (by omega) (by omega), show (255 : Nat) = 2 ^ 8 - 1 from rfl, Nat.and_two_pow_sub_one_eq_mod]
          rw [show (((256 * bwk u.toNat i + (ltN u.toNat i + 96)) % 2 ^ 8 : Nat) : Int) - 97 + 1 = (ltN u.toNat i : Int) by omega]
        · rw [if_neg (by omega), r262_84, r262_110, hkz i (by omega) (by omega)]; exact Iff.rfl
      | succ m ih =>
        intro j hj
        have g := hk m (by omega)
        have s := bw_s g.1
        have lb := bw_b (x := u.toNat) (k := m + 1) (fun i _ => lt31) (by omega)
        have lb2 : (256 : Nat) ^ (m + 1) ≤ 256 ^ 6 := Nat.pow_le_pow_right (by omega) (by omega)
        have lb3 : (256 : Nat) ^ 6 = 281474976710656 := rfl
        rw [r262_58 (by omega) cm_r, if_neg (by rw [cm_g]; omega), r262_65, show pm_lshr (bwk u.toNat (m + 1) : Nat) 8 = ((bwk u.toNat (m + 1) >>> 8 : Nat) : Int) from pm_lshrN (k := 8) (by omega) (by omega), Nat.shiftRight_eq_div_pow, s, show (256 * bwk u.toNat m + (ltN u.toNat m + 96)) / 2 ^ 8 = bwk u.toNat m by omega]
        have := ih (j + 1) (by omega)
        exact this
    have := lp k 0 (by omega)
    rw [← ek] at this
    exact this
  rw [en262, r262_0]
  by_cases q0 : 0 ≤ x ∧ x ≤ 1
  · rw [c179t hx (by omega) (by omega) q0, push_i, r262_6 (by omega), if_neg (by omega), r262_9, e13, en192, r192_0 hx]
    have x2 : x = 0 ∨ x = 1 := by omega
    rcases x2 with rfl | rfl
    · rw [if_neg (by simp), r192_4 (by omega) (by omega), r192_19, Int.toNat_natCast, e1, push_i, r262_20]
      by_cases q1 : isIx (n 1) y = true
      · have q1' := isIx_i.mp q1
        rw [c179t hy (by omega) (by omega) (by omega), push_i, r262_25 (by omega), if_neg (by omega), r262_28]
        by_cases q2 : 0 ≤ z ∧ z ≤ 5
        · obtain ⟨m, rfl, hm⟩ := ixN q1
          have nm := hN.1 m hm
          rw [c179t hz (by omega) (by omega) q2, push_i, r262_34 (by omega), if_pos (by omega), r262_39, e13, en193, r193_0 (by omega), if_neg (by simp), r193_4 (by omega) (by omega), r193_28, show (3 * (b : Int) + (m : Int)).toNat = 3 * b + m by omega, nm.1, push_l]
          exact good _ nm.2 q2 (by rw [qLet, if_pos (isIx_i.mpr (by omega)), if_pos ⟨rfl, q1⟩, Int.toNat_natCast])
        · rw [c179f hz (by omega) (by omega) q2, push_i, r262_34 (by omega), if_neg (by simp)]
          exact bad (by rw [qLet, if_neg (fun h => q2 (by have := isIx_i.mp h; omega))])
      · rw [c179f hy (by omega) (by omega) (fun h => q1 (isIx_i.mpr (by omega))), push_i, r262_25 (by omega), if_pos rfl]
        exact bad (by
          rw [qLet]
          split
          · rw [if_neg (fun h => q1 h.2), if_neg (fun h => by have := h.1; omega)]
          · rfl)
    · rw [if_pos (by omega), r192_13 (by omega) (by omega), r192_19, Int.toNat_natCast, e2, push_i, r262_20]
      by_cases q1 : isIx (n 2) y = true
      · have q1' := isIx_i.mp q1
        rw [c179t hy (by omega) (by omega) (by omega), push_i, r262_25 (by omega), if_neg (by omega), r262_28]
        by_cases q2 : 0 ≤ z ∧ z ≤ 5
        · obtain ⟨m, rfl, hm⟩ := ixN q1
          have nm := hN.2 m hm
          rw [c179t hz (by omega) (by omega) q2, push_i, r262_34 (by omega), if_pos (by omega), r262_39, e13, en193, r193_0 (by omega), if_pos (by omega), r193_17 (by omega) (by omega), r193_28, show (8 * (b : Int) + (m : Int)).toNat = 8 * b + m by omega, nm.1, push_l]
          exact good _ nm.2 q2 (by rw [qLet, if_pos (isIx_i.mpr (by omega)), if_neg (fun h => by have := h.1; omega), if_pos ⟨rfl, q1⟩, Int.toNat_natCast])
        · rw [c179f hz (by omega) (by omega) q2, push_i, r262_34 (by omega), if_neg (by simp)]
          exact bad (by rw [qLet, if_neg (fun h => q2 (by have := isIx_i.mp h; omega))])
      · rw [c179f hy (by omega) (by omega) (fun h => q1 (isIx_i.mpr (by omega))), push_i, r262_25 (by omega), if_pos rfl]
        exact bad (by
          rw [qLet]
          split
          · rw [if_neg (fun h => by have := h.1; omega), if_neg (fun h => q1 h.2)]
          · rfl)
  · rw [c179f hx (by omega) (by omega) q0, push_i, r262_6 (by omega), if_pos rfl]
    exact bad (by
      rw [qLet]
      split
      · rw [if_neg (fun h => by have := h.1; omega), if_neg (fun h => by have := h.1; omega)]
      · rfl)
end RFq
