/-! The reference: rivals, refusals, tape. -/
def RTp (M : PH) (B : Nat → Int) (N : Nat) : Prop := (∀ k, k < N → M 235 k = B k) ∧ N ≤ 1600 ∧ M 234 1 = (N : Int)
section RF3
variable {d b w : Nat} {X : Nat × (Nat → Int)} {v : Nat → Int} {M M' : PH} {K : PV → PS → Prop} {n : Nat → Nat} {a μ : PH} {F : Nat → List Int} {B : Nat → Int} {N N' : Nat} {rf : Nat → Int}
theorem c241 (hR : RC M b n a) (hwC : wC n a F) (hM : RM M n w μ) (hw : wN n μ) {m : Nat} (hm : m < n 1) : pm_Call (d + 2) 241 [vA 234, vI (w : Int), vI (m : Int)] (GF X, M, PTF v) K ↔ K (vI (sm (fun o => if o = m then 0 else bt μ o) (n 1))) (GF X, M, PTF v) := by
  have hR' := hR
  obtain ⟨⟨hb, e13⟩, ⟨e0, e1, e2, -⟩, -⟩ := hR'
  have hn := hwC.1
  have en : M 237 (M 234 13).toNat = (n 1 : Int) := by rw [e13, Int.toNat_natCast, e1]
  rw [en241, r241_0]
  refine (loopN (fun j => pm_Run (d + 1) 241 5 [vA 234, vI (w : Int), vI (m : Int), vI (sm (fun o => if o = m then 0 else bt μ o) j), vI (j : Int)] [] (GF X, M, PTF v) K) (n 1) (fun j hj => ?_)).trans ?_
  · rw [r241_5 (by omega) (by omega) (by omega) (by rw [en]; omega), en, if_neg (by omega), r241_19 (by omega) (by omega), sm]
    by_cases q : j = m
    · rw [if_neg (by omega), r241_26, r241_37, if_pos q]; exact Iff.rfl
    · rw [if_pos (by omega), r241_30, c237 hR hwC hM hw hj, push_i, r241_37, if_neg q]; exact Iff.rfl
  · rw [r241_5 (by omega) (by omega) (by omega) (by rw [en]; omega), en, if_pos (by omega), r241_45]
theorem c224 {j : Nat} (hj : j < 6) : pm_Call (d + 1) 224 [vA 234, vI (j : Int)] (GF X, M, PTF v) K ↔ K (vI (-1)) (GF X, pm_sa M 269 (pm_up (M 269) j (M 269 j + 1)), PTF v) := by
  rw [en224, r224_0 (by omega) (by omega), r224_10, Int.toNat_natCast]
theorem c225 (h : ∀ k, k < 6 → M 269 k = rf k) {x : Int} (hx : inR x) : pm_Call (d + 2) 225 [vA 234, vI x] (GF X, M, PTF v) K ↔ K (vI (if isIx 6 x = true then rf x.toNat else -1)) (GF X, M, PTF v) := by
  rw [en225, r225_0, c179 hx (by decide) (by decide), push_i, r225_6 i01]
  by_cases q : isIx 6 x = true
  · have q' := isIx_i.mp q
    rw [if_pos (c := decide _ = true) (by simp; omega), if_neg (by omega), r225_9 (by omega) (by omega), r225_19, h x.toNat (by omega), if_pos q]
  · rw [if_neg (c := decide _ = true) (fun z => q (isIx_i.mpr (by simp at z; omega))), if_pos rfl, r225_18, r225_19, if_neg q]
theorem and255 {x : Int} : pm_and x 255 = x % 256 := by
  have e : pm_and x 255 = ((x % 4294967296).toNat &&& 255 : Nat) := by
    rw [pm_and, bi_t, Int32.toBitVec_and, show (Int32.ofInt 255).toBitVec = BitVec.ofNat 32 255 from bi_o (a := 255)]
    have e2 : (Int32.ofInt x).toBitVec = BitVec.ofNat 32 (x % 4294967296).toNat := by
      show BitVec.ofInt 32 x = _
      apply BitVec.eq_of_toNat_eq
      rw [BitVec.toNat_ofInt, BitVec.toNat_ofNat]
      omega
    rw [e2, ← BitVec.ofNat_and, bi_v]
    have := Nat.and_le_right (n := (x % 4294967296).toNat) (m := 255)
    omega
  rw [e, show (255 : Nat) = 2 ^ 8 - 1 from rfl, Nat.and_two_pow_sub_one_eq_mod]
  omega
theorem s180 (h : RTp M B N) (hN : N < 1600) {x : Int} {s : Nat} (hs : s < 32) (hK : ∀ M', RTp M' (pm_up B N (oc x s)) (N + 1) → (∀ q, q ≠ 234 → q ≠ 235 → M' q = M q) → (∀ j, j ≠ 1 → M' 234 j = M 234 j) → pm_Run d 180 3 [vA 234, vI x, vI ((s : Int) + -8)] [] (GF X, M', PTF v) K) : pm_Run d 180 3 [vA 234, vI x, vI (s : Int)] [] (GF X, M, PTF v) K := by
  obtain ⟨t1, t2, t3⟩ := h
  rw [r180_3 (by omega), if_neg (by omega), r180_7 (by rw [t3]; omega) (by rw [t3]; omega), r180_23, r180_33]
  rw [t3, Int.toNat_natCast, and255]
  refine hK _ ⟨fun k hk => ?_, by omega, ?_⟩ (fun q z1 z2 => by rw [sa_n z1, sa_n z2]) (fun j hj => by rw [sa_s, up_n hj, sa_n (by omega)])
  · rw [sa_n (by omega), sa_s]
    by_cases q : k = N
    · subst q; rw [up_s, up_s]; rfl
    · rw [up_n q, up_n q]; exact t1 k (by omega)
  · rw [sa_s, up_s, sa_n (by omega), t3]; omega
theorem c180 (h : RTp M B N) (hN : N + 4 ≤ 1600) (hN' : N' = N + 4) {x : Int} (hK : ∀ M', RTp M' (put4 B N x) N' → (∀ q, q ≠ 234 → q ≠ 235 → M' q = M q) → (∀ j, j ≠ 1 → M' 234 j = M 234 j) → K PU (GF X, M', PTF v)) : pm_Call (d + 1) 180 [vA 234, vI x] (GF X, M, PTF v) K := by
  subst hN'
  rw [en180, r180_0]
  refine s180 (s := 24) h (by omega) (by omega) (fun M1 g1 f1 k1 => ?_)
  refine s180 (s := 16) g1 (by omega) (by omega) (fun M2 g2 f2 k2 => ?_)
  refine s180 (s := 8) g2 (by omega) (by omega) (fun M3 g3 f3 k3 => ?_)
  refine s180 (s := 0) g3 (by omega) (by omega) (fun M4 g4 f4 k4 => ?_)
  rw [r180_3 (by decide), if_pos (by decide), r180_39]
  exact hK M4 g4 (fun q z1 z2 => (f4 q z1 z2).trans ((f3 q z1 z2).trans ((f2 q z1 z2).trans (f1 q z1 z2)))) (fun j hj => (k4 j hj).trans ((k3 j hj).trans ((k2 j hj).trans (k1 j hj))))
end RF3
