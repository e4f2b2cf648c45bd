/-! The reference: feed, end, the fault that is told, the last hour ahead. -/
section RF4
variable {d b w : Nat} {X : Nat × (Nat → Int)} {v : Nat → Int} {M M' : PH} {K : PV → PS → Prop} {n : Nat → Nat} {a μ : PH} {F : Nat → List Int} {B : Nat → Int} {N N' : Nat} {rf : Nat → Int}
set_option maxRecDepth 20000 in
theorem c181 (h : RTp M B N) {x1 x2 x3 x4 x5 : Int} (hK0 : 1600 < N + 20 → K (vI (-1)) (GF X, pm_sa M 269 (pm_up (M 269) 0 (M 269 0 + 1)), PTF v)) (hK1 : N + 20 ≤ 1600 → ∀ M', RTp M' (put5 B N x1 x2 x3 x4 x5) (N + 20) → (∀ q, q ≠ 234 → q ≠ 235 → M' q = M q) → (∀ j, j ≠ 1 → M' 234 j = M 234 j) → K (vI ((N + 20 : Nat) : Int)) (GF X, M', PTF v)) : pm_Call (d + 2) 181 [vA 234, vI x1, vI x2, vI x3, vI x4, vI x5] (GF X, M, PTF v) K := by
  obtain ⟨t1, t2, t3⟩ := id h
  rw [en181, r181_0 (by rw [t3]; omega), t3]
  by_cases q : 1600 < (N : Int) + 20
  · rw [if_neg (by omega), r181_13]
    refine (c224 (j := 0) (by omega)).mpr ?_
    rw [push_i, r181_18]
    exact hK0 (by omega)
  · rw [if_pos (by omega), r181_19]
    refine c180 (N' := N + 4) h (by omega) (by omega) (fun M1 g1 f1 k1 => ?_)
    rw [push_u, r181_24]
    refine c180 (N' := N + 8) g1 (by omega) (by omega) (fun M2 g2 f2 k2 => ?_)
    rw [push_u, r181_29]
    refine c180 (N' := N + 12) g2 (by omega) (by omega) (fun M3 g3 f3 k3 => ?_)
    rw [push_u, r181_34]
    refine c180 (N' := N + 16) g3 (by omega) (by omega) (fun M4 g4 f4 k4 => ?_)
    rw [push_u, r181_40]
    refine c180 (N' := N + 20) g4 (by omega) (by omega) (fun M5 g5 f5 k5 => ?_)
    rw [push_u, r181_46, g5.2.2]
    exact hK1 (by omega) M5 g5 (fun q z1 z2 => (f5 q z1 z2).trans ((f4 q z1 z2).trans ((f3 q z1 z2).trans ((f2 q z1 z2).trans (f1 q z1 z2))))) (fun j hj => (k5 j hj).trans ((k4 j hj).trans ((k3 j hj).trans ((k2 j hj).trans (k1 j hj)))))
theorem c182 (h : RTp M B N) {x : Int} (hx : inR x) (hK0 : ¬ (0 ≤ x ∧ x ≤ (N : Int)) → K (vI 0) (GF X, pm_sa M 269 (pm_up (M 269) 0 (M 269 0 + 1)), PTF v)) (hK1 : 0 ≤ x ∧ x ≤ (N : Int) → RTp (pm_sa M 234 (pm_up (M 234) 1 x)) B x.toNat → K (vI 1) (GF X, pm_sa M 234 (pm_up (M 234) 1 x), PTF v)) : pm_Call (d + 2) 182 [vA 234, vI x] (GF X, M, PTF v) K := by
  obtain ⟨t1, t2, t3⟩ := h
  have bad : ¬ (0 ≤ x ∧ x ≤ (N : Int)) → pm_Run (d + 1) 182 12 [vA 234, vI x] [] (GF X, M, PTF v) K := by
    intro q
    rw [r182_12]
    refine (c224 (j := 0) (by omega)).mpr ?_
    rw [push_i, r182_17 (by decide), if_pos (by decide), r182_24, r182_25 (by simp)]
    exact hK0 q
  rw [en182, r182_0 hx]
  by_cases q : x < 0
  · rw [if_pos q]; exact bad (by omega)
  · rw [if_neg q, r182_4 hx (by rw [t3]; omega), t3]
    by_cases q1 : x ≤ (N : Int)
    · rw [if_pos q1, r182_26, r182_31]
      exact hK1 (by omega) ⟨fun k hk => by rw [sa_n (by omega)]; exact t1 k (by omega), by omega, by rw [sa_s, up_s]; omega⟩
    · rw [if_neg q1]; exact bad (by omega)
theorem c258 (h : M 270 0 = μ 0 0) (hw : wM n μ) : pm_Call (d + 1) 258 [vA 234] (GF X, M, PTF v) K ↔ K (vI (lst μ : Int)) (GF X, M, PTF v) := by
  have b0 := hw.1
  have hl := lst_i hw
  rw [en258, r258_0 (by rw [h]; omega), h]
  by_cases q : 48 ≤ 9999 - μ 0 0
  · rw [if_pos q, r258_28, r258_30, show (48 : Int) = (lst μ : Int) by omega]
  · rw [if_neg q, r258_15, r258_30, h, show 9999 - μ 0 0 = (lst μ : Int) by omega]
end RF4
