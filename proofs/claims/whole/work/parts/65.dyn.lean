/-! Where references are put; bidding goes on. -/
section DYN
variable {d c : Nat} {X : Nat × (Nat → Int)} {v : Nat → Int} {M : PH} {K : PV → PS → Prop}
theorem ptu0 {x : Int} : pm_sa (PTF v) 0 (pm_up (PTF v 0) 3 x) = PTF (pm_up v 0 x) := by
  funext a k
  by_cases h : a = 0
  · subst h
    by_cases h2 : k = 3
    · subst h2; simp [pm_sa, pm_up, PTF]
    · simp [pm_sa, pm_up, PTF, h2]
  · simp [pm_sa, pm_up, PTF, h]
theorem ptu1 {x : Int} : pm_sa (PTF v) 31 (pm_up (PTF v 31) 1 x) = PTF (pm_up v 1 x) := by
  funext a k
  by_cases h : a = 31
  · subst h
    by_cases h2 : k = 1
    · subst h2; simp [pm_sa, pm_up, PTF]
    · simp [pm_sa, pm_up, PTF, h2]
  · simp [pm_sa, pm_up, PTF, h]
theorem ptu2 {x : Int} : pm_sa (PTF v) 60 (pm_up (PTF v 60) 7 x) = PTF (pm_up v 2 x) := by
  funext a k
  by_cases h : a = 60
  · subst h
    by_cases h2 : k = 7
    · subst h2; simp [pm_sa, pm_up, PTF]
    · simp [pm_sa, pm_up, PTF, h2]
  · simp [pm_sa, pm_up, PTF, h]
theorem ptu3 {x : Int} : pm_sa (PTF v) 74 (pm_up (PTF v 74) 8 x) = PTF (pm_up v 3 x) := by
  funext a k
  by_cases h : a = 74
  · subst h
    by_cases h2 : k = 8
    · subst h2; simp [pm_sa, pm_up, PTF]
    · simp [pm_sa, pm_up, PTF, h2]
  · simp [pm_sa, pm_up, PTF, h]
theorem ptu4 {x : Int} : pm_sa (PTF v) 91 (pm_up (PTF v 91) 5 x) = PTF (pm_up v 4 x) := by
  funext a k
  by_cases h : a = 91
  · subst h
    by_cases h2 : k = 5
    · subst h2; simp [pm_sa, pm_up, PTF]
    · simp [pm_sa, pm_up, PTF, h2]
  · simp [pm_sa, pm_up, PTF, h]
theorem ptu5 {x : Int} : pm_sa (PTF v) 32 (pm_up (PTF v 32) 1 x) = PTF (pm_up v 5 x) := by
  funext a k
  by_cases h : a = 32
  · subst h
    by_cases h2 : k = 1
    · subst h2; simp [pm_sa, pm_up, PTF]
    · simp [pm_sa, pm_up, PTF, h2]
  · simp [pm_sa, pm_up, PTF, h]
theorem ptu6 {x : Int} : pm_sa (PTF v) 225 (pm_up (PTF v 225) 3 x) = PTF (pm_up v 6 x) := by
  funext a k
  by_cases h : a = 225
  · subst h
    by_cases h2 : k = 3
    · subst h2; simp [pm_sa, pm_up, PTF]
    · simp [pm_sa, pm_up, PTF, h2]
  · simp [pm_sa, pm_up, PTF, h]
theorem pm_mnR {x y : Int} (hx : inR x) (hy : inR y) : pm_mn x y = min x y := by
  unfold pm_mn
  rw [pm_sgid hx.1 hx.2, pm_sgid hy.1 hy.2]
  split <;> omega
theorem c1 : pm_Call (d + 1) 1 [vA 74, vA c] (GF X, M, PTF v) K ↔ K PU (GF X, pm_sa M 74 (pm_up (pm_up (M 74) 11 (-1)) 16 0), PTF (pm_up v 3 (c : Int))) := by
  rw [en1, b1_0 (ob_i (n := 17) (by decide +kernel)) (by omega)]
  simp only [Int.toNat_natCast, sa_s, sa_sa, ptu3]
theorem c126 : pm_Call (d + 1) 126 [vA 91, vA c] (GF X, M, PTF v) K ↔ K PU (GF X, pm_sa M 91 (pm_up (M 91) 6 0), PTF (pm_up v 4 (c : Int))) := by
  rw [en126, b126_0 (ob_i (n := 11) (by decide +kernel)) (by omega)]
  simp only [Int.toNat_natCast, sa_s, sa_sa, ptu4]
theorem c23 (h : 0 ≤ M 3 0 ∧ M 3 0 ≤ 9999) : pm_Call (d + 1) 23 [vA 60, vA c] (GF X, M, PTF v) K ↔ K PU (GF X, pm_sa M 60 (pm_up (pm_up (pm_up (pm_up (pm_up (M 60) 8 (min 48 (9999 - M 3 0))) 9 0) 10 (-1)) 11 (-1)) 12 (-1)), PTF (pm_up v 2 (c : Int))) := by
  have e : ∀ u : Nat → Int, PTF u 60 6 = ((3 : Nat) : Int) := fun u => ptf_l (by decide +kernel)
  have o60 : pm_ob (GF X) ((60 : Nat) : Int) 2 := ob_i (n := 13) (by decide +kernel)
  have e2 : (pm_sa (PTF v) ((60 : Nat) : Int).toNat (pm_up (PTF v ((60 : Nat) : Int).toNat) 7 (c : Int))) ((60 : Nat) : Int).toNat 6 = ((3 : Nat) : Int) := by rw [Int.toNat_natCast, ptu2, e]
  rw [en23, b23_0 o60 (by omega) (by rw [e2]; exact ob_i (n := 6) (by decide +kernel)), b23_30 o60, b23_45, e2]
  simp only [Int.toNat_natCast, sa_s, sa_sa, ptu2]
  rw [pm_mnR (by omega) (by omega)]
theorem c50 {s : Int} (hs : 0 ≤ s ∧ s ≤ 1600) : pm_Call (d + 1) 50 [vA 32, vA 1, vI s] (GF X, M, PTF v) K ↔ K PU (GF X, pm_sa M 32 (pm_up (pm_up (pm_up (M 32) 2 s) 3 0) 4 0), PTF (pm_up v 5 1)) := by
  have o32 : pm_ob (GF X) ((32 : Nat) : Int) 4 := ob_i (n := 9) (by decide +kernel)
  have e : (((GF X).2.2.1 ((1 : Nat) : Int).toNat).2 : Int) = 1600 := by rw [Int.toNat_natCast]; rfl
  rw [en50, b50_0 o32 (by omega) (by refine ⟨by omega, by rw [Int.toNat_natCast]; show 1 < 283; omega, by rw [Int.toNat_natCast]; show 100 ≤ (SHF 1).1; decide +kernel, by rw [Int.toNat_natCast]; show (SHF 1).1 ≤ 104; decide +kernel⟩), b50_20 o32, e]
  simp only [Int.toNat_natCast, sa_s, sa_sa, ptu5]
  rw [pm_mnR (by omega) (by omega), show min s 1600 = s by omega]
  exact Iff.rfl
theorem c68 {c2 : Nat} (hv : v 1 = (c2 : Int)) : pm_Call (d + 1) 68 [vA 31, vA c] (GF X, M, PTF v) K ↔ K (vA c2) (GF X, M, PTF (pm_up v 1 (c : Int))) := by
  have e : PTF v ((31 : Nat) : Int).toNat 1 = (c2 : Int) := by rw [Int.toNat_natCast]; exact ptd1 hv
  rw [en68, b68_0 (ob_i (n := 5) (by decide +kernel)) (by omega) (by rw [e]; omega), e]
  simp only [Int.toNat_natCast, ptu1]
end DYN
