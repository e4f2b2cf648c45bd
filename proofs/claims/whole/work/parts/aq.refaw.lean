/-! The reference: a sea begins. -/
section RFaw
variable {d b w bk D : Nat} {X : Nat × (Nat → Int)} {v : Nat → Int} {M M' M2 : PH} {K : PV → PS → Prop} {B : Nat → Int} {N : Nat} {κ : KP} {o op : Nat} {l S S0 Q : List Int} {e : Int × Int} {s : S2} {n : Nat → Nat} {a : PH} {z : CZ} {P : Nat → Nat → Prop}
theorem l233a (hb : M 234 13 = (bk : Int) ∧ bk < 2) (hK : ∀ M', (∀ q, q ≠ 271 → q ≠ 272 → M' q = M q) → (∀ k, k < 3 → M' 271 k = M 238 (3 * bk + k) ∧ M' 272 k = M 240 (3 * bk + k)) → pm_Run d 233 68 [vA 234, vI 3] [] (GF X, M', PTF v) K) : ∀ (r i : Nat) (M1 : PH), i + r = 3 → (∀ q, q ≠ 271 → q ≠ 272 → M1 q = M q) → (∀ k, k < i → M1 271 k = M 238 (3 * bk + k) ∧ M1 272 k = M 240 (3 * bk + k)) → pm_Run d 233 19 [vA 234, vI (i : Int)] [] (GF X, M1, PTF v) K
  | 0, i, M1, hi, h1, h2 => by
    have : i = 3 := by omega
    subst this
    rw [r233_19 (by omega), if_pos (by omega)]
    exact hK M1 h1 h2
  | r + 1, i, M1, hi, h1, h2 => by
    obtain ⟨h13, hb⟩ := hb
    have e13 : M1 234 13 = (bk : Int) := by rw [h1 234 (by omega) (by omega)]; exact h13
    have sl : ((3 * (bk : Int)) + (i : Int)).toNat = 3 * bk + i := by omega
    rw [r233_19 (by omega), if_neg (by omega), r233_24 (by omega) (by omega) (by omega) (by omega), e13, sl, Int.toNat_natCast]
    have f13 : (pm_sa M1 271 (pm_up (M1 271) i (M1 238 (3 * bk + i)))) 234 13 = (bk : Int) := by rw [sa_n (by omega)]; exact e13
    rw [r233_43 (by rw [f13]; omega) (by rw [f13]; omega) (by omega) (by omega), f13, sl, Int.toNat_natCast, r233_62, show (i : Int) + 1 = ((i + 1 : Nat) : Int) by omega]
    refine l233a ⟨h13, hb⟩ hK r (i + 1) _ (by omega) (fun q z1 z2 => by rw [sa_n z2, sa_n z1]; exact h1 q z1 z2) (fun k hk => ?_)
    rw [sa_s, sa_n (show (271 : Nat) ≠ 272 by omega), sa_s, sa_n (show (240 : Nat) ≠ 271 by omega), sa_n (show (272 : Nat) ≠ 271 by omega), h1 238 (by omega) (by omega), h1 240 (by omega) (by omega)]
    by_cases q : k = i
    · subst q
      rw [up_s, up_s]; exact ⟨rfl, rfl⟩
    · rw [up_n q, up_n q]; exact h2 k (by omega)
theorem l233b (hb : M 234 13 = (bk : Int) ∧ bk < 2) (hK : ∀ M', (∀ q, q ≠ 273 → M' q = M q) → (∀ k, k < 8 → M' 273 k = M 243 (8 * bk + k)) → pm_Run d 233 102 [vA 234, vI 8] [] (GF X, M', PTF v) K) : ∀ (r i : Nat) (M1 : PH), i + r = 8 → (∀ q, q ≠ 273 → M1 q = M q) → (∀ k, k < i → M1 273 k = M 243 (8 * bk + k)) → pm_Run d 233 70 [vA 234, vI (i : Int)] [] (GF X, M1, PTF v) K
  | 0, i, M1, hi, h1, h2 => by
    have : i = 8 := by omega
    subst this
    rw [r233_70 (by omega), if_pos (by omega)]
    exact hK M1 h1 h2
  | r + 1, i, M1, hi, h1, h2 => by
    obtain ⟨h13, hb⟩ := hb
    have e13 : M1 234 13 = (bk : Int) := by rw [h1 234 (by omega)]; exact h13
    have sl : ((8 * (bk : Int)) + (i : Int)).toNat = 8 * bk + i := by omega
    rw [r233_70 (by omega), if_neg (by omega), r233_76 (by omega) (by omega) (by omega) (by omega), e13, sl, Int.toNat_natCast, r233_96, show (i : Int) + 1 = ((i + 1 : Nat) : Int) by omega]
    refine l233b ⟨h13, hb⟩ hK r (i + 1) _ (by omega) (fun q z1 => by rw [sa_n z1]; exact h1 q z1) (fun k hk => ?_)
    rw [sa_s, h1 243 (by omega)]
    by_cases q : k = i
    · subst q
      rw [up_s]
    · rw [up_n q]; exact h2 k (by omega)
theorem l233c {c : Nat} (hb : M 234 13 = (bk : Int) ∧ bk < 2) (hc : M 241 bk = (c : Int) ∧ c ≤ 8) (hK : ∀ M', (∀ q, q ≠ 274 → q ≠ 275 → M' q = M q) → (∀ k, k < 24 → M' 274 k = (if 3 * c ≤ k then 0 else M 245 (24 * bk + k)) ∧ M' 275 k = 0) → K PU (GF X, M', PTF v)) : ∀ (r i : Nat) (M1 : PH), i + r = 24 → (∀ q, q ≠ 274 → q ≠ 275 → M1 q = M q) → (∀ k, k < i → M1 274 k = (if 3 * c ≤ k then 0 else M 245 (24 * bk + k)) ∧ M1 275 k = 0) → pm_Run d 233 104 [vA 234, vI (i : Int)] [] (GF X, M1, PTF v) K
  | 0, i, M1, hi, h1, h2 => by
    have : i = 24 := by omega
    subst this
    rw [r233_104 (by omega), if_pos (by omega), r233_162]
    exact hK M1 h1 h2
  | r + 1, i, M1, hi, h1, h2 => by
    obtain ⟨h13, hb⟩ := hb
    have e13 : M1 234 13 = (bk : Int) := by rw [h1 234 (by omega) (by omega)]; exact h13
    have ix : (M1 234 13).toNat = bk := by omega
    have e41 : M1 241 bk = (c : Int) := by rw [h1 241 (by omega) (by omega)]; exact hc.1
    have c8 := hc.2
    have sl : ((24 * (bk : Int)) + (i : Int)).toNat = 24 * bk + i := by omega
    have fin : ∀ x : Int, x = (if 3 * c ≤ i then 0 else M 245 (24 * bk + i)) → pm_Run d 233 148 [vA 234, vI (i : Int)] [vI x, vI (i : Int), vA 274] (GF X, M1, PTF v) K := fun x hx => by
      rw [r233_148 (by omega) (by omega), Int.toNat_natCast, r233_149 (by omega) (by omega), Int.toNat_natCast, r233_156, show (i : Int) + 1 = ((i + 1 : Nat) : Int) by omega]
      refine l233c ⟨h13, hb⟩ hc hK r (i + 1) _ (by omega) (fun q z1 z2 => by rw [sa_n z2, sa_n z1]; exact h1 q z1 z2) (fun k hk => ?_)
      rw [sa_s, sa_n (show (274 : Nat) ≠ 275 by omega), sa_s, sa_n (show (275 : Nat) ≠ 274 by omega)]
      by_cases q : k = i
      · subst q
        rw [up_s, up_s]; exact ⟨hx, rfl⟩
      · rw [up_n q, up_n q]; exact h2 k (by omega)
    rw [r233_104 (by omega), if_neg (by omega), r233_110 (by omega) (by omega) (by omega) (by rw [ix, e41]; omega), ix, e41]
    by_cases q : 3 * c ≤ i
    · rw [if_pos (by omega), r233_147]
      exact fin 0 (by rw [if_pos q])
    · rw [if_neg (by omega), r233_130 (by omega) (by omega), e13, sl, h1 245 (by omega) (by omega)]
      exact fin _ (by rw [if_neg q])
/-- begin -/
theorem c233 (h13 : M 234 13 = (bk : Int)) (hZ : BZ M bk l z) (hK : ∀ M', RM M' z.1 0 z.2.2.2 → (∀ q, q ≠ 234 → q < 270 ∨ 275 < q → M' q = M q) → (∀ j, j ≠ 61 → j ≠ 71 → M' 234 j = M 234 j) → M' 234 61 = 0 → M' 234 71 = 0 → K PU (GF X, M', PTF v)) : pm_Call (d + 1) 233 [vA 234] (GF X, M, PTF v) K := by
  obtain ⟨⟨-, w0, w5, -, -⟩, -, ⟨⟨-, hb⟩, n1, n2, -⟩, ⟨v1, v2, -⟩, -⟩ := hZ
  rw [en233, r233_0, r233_7, r233_12, sa_s, sa_sa, r233_17]
  rw [show pm_sa M 270 (pm_up (M 270) 0 0) 234 = M 234 from sa_n (by omega)]
  generalize hM1 : pm_sa (pm_sa M 270 (pm_up (M 270) 0 0)) 234 (pm_up (pm_up (M 234) 61 0) 71 0) = M1
  have m1 : ∀ q, q ≠ 234 → q ≠ 270 → M1 q = M q := fun q z1 z2 => by rw [← hM1, sa_n z1, sa_n z2]
  have m2 : ∀ j, j ≠ 61 → j ≠ 71 → M1 234 j = M 234 j := fun j z1 z2 => by rw [← hM1, sa_s, up_n z2, up_n z1]
  have m3 : M1 234 61 = 0 ∧ M1 234 71 = 0 := by rw [← hM1, sa_s, up_n (by omega), up_s, up_s]; exact ⟨rfl, rfl⟩
  have m4 : M1 270 0 = 0 := by rw [← hM1, sa_n (by omega), sa_s, up_s]
  have i1 : M1 234 13 = (bk : Int) ∧ bk < 2 := ⟨by rw [m2 13 (by omega) (by omega)]; exact h13, hb⟩
  refine l233a i1 (fun M2 a1 a2 => ?_) 3 0 M1 rfl (fun _ _ _ => rfl) (fun k hk => absurd hk (Nat.not_lt_zero k))
  rw [r233_68]
  refine l233b (M := M2) (bk := bk) ⟨by rw [a1 234 (by omega) (by omega)]; exact i1.1, hb⟩ (fun M3 b1 b2 => ?_) 8 0 M2 rfl (fun _ _ => rfl) (fun k hk => absurd hk (Nat.not_lt_zero k))
  rw [r233_102]
  refine l233c (M := M3) (bk := bk) (c := z.1 2) ⟨by rw [b1 234 (by omega), a1 234 (by omega) (by omega)]; exact i1.1, hb⟩ ⟨by rw [b1 241 (by omega), a1 241 (by omega) (by omega), m1 241 (by omega) (by omega)]; exact n2.1, n2.2⟩ (fun M4 c1 c2 => ?_) 24 0 M3 rfl (fun _ _ _ => rfl) (fun k hk => absurd hk (Nat.not_lt_zero k))
  have x1 := n1.2
  have x2 := n2.2
  refine hK M4 ⟨by omega, ?_, fun m hm => ?_, fun i hi => ?_, fun i m hi hm => ?_⟩ (fun q z1 z2 => ?_) (fun j z1 z2 => ?_) ?_ ?_
  · rw [c1 270 (by omega) (by omega), b1 270 (by omega), a1 270 (by omega) (by omega), m4, w0]
  · rw [c1 271 (by omega) (by omega), c1 272 (by omega) (by omega), b1 271 (by omega), b1 272 (by omega), show 3 * 0 + m = m by omega, (a2 m (by omega)).1, (a2 m (by omega)).2, m1 238 (by omega) (by omega), m1 240 (by omega) (by omega)]
    exact ⟨(v1 m hm).1, (v1 m hm).2.2⟩
  · rw [c1 273 (by omega) (by omega), show 8 * 0 + i = i by omega, b2 i (by omega), a1 243 (by omega) (by omega), m1 243 (by omega) (by omega)]
    exact (v2 i hi).2.1
  · rw [show 24 * 0 + 3 * i + m = 3 * i + m by omega, (c2 (3 * i + m) (by omega)).1, (c2 (3 * i + m) (by omega)).2, if_neg (by omega), b1 245 (by omega), a1 245 (by omega) (by omega), m1 245 (by omega) (by omega), w5]
    exact ⟨(v2 i hi).2.2.2 m (by omega), rfl⟩
  · rw [c1 q (by omega) (by omega), b1 q (by omega), a1 q (by omega) (by omega), m1 q z1 (by omega)]
  · rw [c1 234 (by omega) (by omega), b1 234 (by omega), a1 234 (by omega) (by omega)]; exact m2 j z1 z2
  · rw [c1 234 (by omega) (by omega), b1 234 (by omega), a1 234 (by omega) (by omega)]; exact m3.1
  · rw [c1 234 (by omega) (by omega), b1 234 (by omega), a1 234 (by omega) (by omega)]; exact m3.2
end RFaw
