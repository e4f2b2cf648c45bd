/-! The reference: a layer is copied. -/
def cpr (f : Nat → Int) (p q j : Nat) : Nat → Int := fun k => if p ≤ k ∧ k < p + j then f (q + (k - p)) else f k
theorem cpr_0 {f : Nat → Int} {p q : Nat} : cpr f p q 0 = f := by
  funext k; rw [cpr, if_neg (by omega)]
theorem cpr_s {f : Nat → Int} {p q j : Nat} : pm_up (cpr f p q j) (p + j) (f (q + j)) = cpr f p q (j + 1) := by
  funext k
  by_cases h : k = p + j
  · subst h
    rw [up_s, cpr, if_pos (by omega), show p + j - p = j by omega]
  · rw [up_n h, cpr, cpr]
    by_cases h2 : p ≤ k ∧ k < p + j
    · rw [if_pos h2, if_pos (by omega)]
    · rw [if_neg h2, if_neg (by omega)]
theorem cpr_n {f : Nat → Int} {p q j k : Nat} (h : k < p ∨ p + j ≤ k) : cpr f p q j k = f k := by rw [cpr, if_neg (by omega)]
theorem cpr_i {f : Nat → Int} {p q j i : Nat} (h : i < j) : cpr f p q j (p + i) = f (q + i) := by rw [cpr, if_pos (by omega), show p + i - p = i by omega]
section RF5
variable {d : Nat} {X : Nat × (Nat → Int)} {v : Nat → Int} {M : PH} {K : PV → PS → Prop}
def lcp (M : PH) (t s : Nat) : PH := pm_sa (pm_sa (pm_sa (pm_sa (pm_sa (pm_sa M 270 (pm_up (M 270) t (M 270 s))) 271 (cpr (M 271) (3 * t) (3 * s) 3)) 272 (cpr (M 272) (3 * t) (3 * s) 3)) 273 (cpr (M 273) (8 * t) (8 * s) 8)) 274 (cpr (M 274) (24 * t) (24 * s) 24)) 275 (cpr (M 275) (24 * t) (24 * s) 24)
theorem l232a {t s : Nat} (ht : t < 22) (hs : s < 22) (hn : t ≠ s) : pm_Run d 232 14 [vA 234, vI (t : Int), vI (s : Int), vI 0] [] (GF X, M, PTF v) K ↔ pm_Run d 232 65 [vA 234, vI (t : Int), vI (s : Int), vI 3] [] (GF X, pm_sa (pm_sa M 271 (cpr (M 271) (3 * t) (3 * s) 3)) 272 (cpr (M 272) (3 * t) (3 * s) 3), PTF v) K := by
  have st : ∀ j : Nat, j < 3 → (pm_Run d 232 14 [vA 234, vI (t : Int), vI (s : Int), vI (j : Int)] [] (GF X, pm_sa (pm_sa M 271 (cpr (M 271) (3 * t) (3 * s) j)) 272 (cpr (M 272) (3 * t) (3 * s) j), PTF v) K ↔ pm_Run d 232 14 [vA 234, vI (t : Int), vI (s : Int), vI ((j + 1 : Nat) : Int)] [] (GF X, pm_sa (pm_sa M 271 (cpr (M 271) (3 * t) (3 * s) (j + 1))) 272 (cpr (M 272) (3 * t) (3 * s) (j + 1)), PTF v) K) := fun j hj => by
    have i1 : (3 * (t : Int) + (j : Int)).toNat = 3 * t + j := by omega
    have i2 : (3 * (s : Int) + (j : Int)).toNat = 3 * s + j := by omega
    rw [r232_14 (by omega), if_neg (by omega), r232_19 (by omega) (by omega) (by omega) (by omega), r232_39 (by omega) (by omega) (by omega) (by omega), r232_59, i1, i2]
    have e : pm_sa (pm_sa (pm_sa (pm_sa M 271 (cpr (M 271) (3 * t) (3 * s) j)) 272 (cpr (M 272) (3 * t) (3 * s) j)) 271 (pm_up (pm_sa (pm_sa M 271 (cpr (M 271) (3 * t) (3 * s) j)) 272 (cpr (M 272) (3 * t) (3 * s) j) 271) (3 * t + j) (pm_sa (pm_sa M 271 (cpr (M 271) (3 * t) (3 * s) j)) 272 (cpr (M 272) (3 * t) (3 * s) j) 271 (3 * s + j)))) 272 (pm_up (cpr (M 272) (3 * t) (3 * s) j) (3 * t + j) (cpr (M 272) (3 * t) (3 * s) j (3 * s + j))) = pm_sa (pm_sa M 271 (cpr (M 271) (3 * t) (3 * s) (j + 1))) 272 (cpr (M 272) (3 * t) (3 * s) (j + 1)) := by
      funext q
      by_cases q2 : q = 272
      · subst q2; rw [sa_s, sa_s, cpr_n (by omega), cpr_s]
      · rw [sa_n q2, sa_n q2]
        by_cases q1 : q = 271
        · subst q1; rw [sa_s, sa_s, sa_n (by omega), sa_s, cpr_n (by omega), cpr_s]
        · rw [sa_n q1, sa_n q2, sa_n q1, sa_n q1]
    rw [sa_n (a := 271) (b := 272) (by omega), sa_s (a := 272), e]
    exact Iff.rfl
  have e0 : pm_sa (pm_sa M 271 (cpr (M 271) (3 * t) (3 * s) 0)) 272 (cpr (M 272) (3 * t) (3 * s) 0) = M := by
    rw [cpr_0, cpr_0, sa_id (a := 271) rfl, sa_id rfl]
  have l := loopN (fun j => pm_Run d 232 14 [vA 234, vI (t : Int), vI (s : Int), vI (j : Int)] [] (GF X, pm_sa (pm_sa M 271 (cpr (M 271) (3 * t) (3 * s) j)) 272 (cpr (M 272) (3 * t) (3 * s) j), PTF v) K) 3 st
  simp only [e0] at l
  refine l.trans ?_
  rw [r232_14 (by omega), if_pos (by omega)]
  exact Iff.rfl
theorem l232b {t s : Nat} (ht : t < 22) (hs : s < 22) (hn : t ≠ s) : pm_Run d 232 67 [vA 234, vI (t : Int), vI (s : Int), vI 0] [] (GF X, M, PTF v) K ↔ pm_Run d 232 101 [vA 234, vI (t : Int), vI (s : Int), vI 8] [] (GF X, pm_sa M 273 (cpr (M 273) (8 * t) (8 * s) 8), PTF v) K := by
  have st : ∀ j : Nat, j < 8 → (pm_Run d 232 67 [vA 234, vI (t : Int), vI (s : Int), vI (j : Int)] [] (GF X, pm_sa M 273 (cpr (M 273) (8 * t) (8 * s) j), PTF v) K ↔ pm_Run d 232 67 [vA 234, vI (t : Int), vI (s : Int), vI ((j + 1 : Nat) : Int)] [] (GF X, pm_sa M 273 (cpr (M 273) (8 * t) (8 * s) (j + 1)), PTF v) K) := fun j hj => by
    have i1 : (8 * (t : Int) + (j : Int)).toNat = 8 * t + j := by omega
    have i2 : (8 * (s : Int) + (j : Int)).toNat = 8 * s + j := by omega
    rw [r232_67 (by omega), if_neg (by omega), r232_73 (by omega) (by omega) (by omega) (by omega), r232_95, i1, i2, sa_s, sa_sa, cpr_n (by omega), cpr_s]
    exact Iff.rfl
  have e0 : pm_sa M 273 (cpr (M 273) (8 * t) (8 * s) 0) = M := by rw [cpr_0, sa_id rfl]
  have l := loopN (fun j => pm_Run d 232 67 [vA 234, vI (t : Int), vI (s : Int), vI (j : Int)] [] (GF X, pm_sa M 273 (cpr (M 273) (8 * t) (8 * s) j), PTF v) K) 8 st
  simp only [e0] at l
  refine l.trans ?_
  rw [r232_67 (by omega), if_pos (by omega)]
  exact Iff.rfl
theorem l232c {t s : Nat} (ht : t < 22) (hs : s < 22) (hn : t ≠ s) : pm_Run d 232 103 [vA 234, vI (t : Int), vI (s : Int), vI 0] [] (GF X, M, PTF v) K ↔ pm_Run d 232 159 [vA 234, vI (t : Int), vI (s : Int), vI 24] [] (GF X, pm_sa (pm_sa M 274 (cpr (M 274) (24 * t) (24 * s) 24)) 275 (cpr (M 275) (24 * t) (24 * s) 24), PTF v) K := by
  have st : ∀ j : Nat, j < 24 → (pm_Run d 232 103 [vA 234, vI (t : Int), vI (s : Int), vI (j : Int)] [] (GF X, pm_sa (pm_sa M 274 (cpr (M 274) (24 * t) (24 * s) j)) 275 (cpr (M 275) (24 * t) (24 * s) j), PTF v) K ↔ pm_Run d 232 103 [vA 234, vI (t : Int), vI (s : Int), vI ((j + 1 : Nat) : Int)] [] (GF X, pm_sa (pm_sa M 274 (cpr (M 274) (24 * t) (24 * s) (j + 1))) 275 (cpr (M 275) (24 * t) (24 * s) (j + 1)), PTF v) K) := fun j hj => by
    have i1 : (24 * (t : Int) + (j : Int)).toNat = 24 * t + j := by omega
    have i2 : (24 * (s : Int) + (j : Int)).toNat = 24 * s + j := by omega
    rw [r232_103 (by omega), if_neg (by omega), r232_109 (by omega) (by omega) (by omega) (by omega), r232_131 (by omega) (by omega) (by omega) (by omega), r232_153, i1, i2]
    have e : pm_sa (pm_sa (pm_sa (pm_sa M 274 (cpr (M 274) (24 * t) (24 * s) j)) 275 (cpr (M 275) (24 * t) (24 * s) j)) 274 (pm_up (pm_sa (pm_sa M 274 (cpr (M 274) (24 * t) (24 * s) j)) 275 (cpr (M 275) (24 * t) (24 * s) j) 274) (24 * t + j) (pm_sa (pm_sa M 274 (cpr (M 274) (24 * t) (24 * s) j)) 275 (cpr (M 275) (24 * t) (24 * s) j) 274 (24 * s + j)))) 275 (pm_up (cpr (M 275) (24 * t) (24 * s) j) (24 * t + j) (cpr (M 275) (24 * t) (24 * s) j (24 * s + j))) = pm_sa (pm_sa M 274 (cpr (M 274) (24 * t) (24 * s) (j + 1))) 275 (cpr (M 275) (24 * t) (24 * s) (j + 1)) := by
      funext q
      by_cases q2 : q = 275
      · subst q2; rw [sa_s, sa_s, cpr_n (by omega), cpr_s]
      · rw [sa_n q2, sa_n q2]
        by_cases q1 : q = 274
        · subst q1; rw [sa_s, sa_s, sa_n (by omega), sa_s, cpr_n (by omega), cpr_s]
        · rw [sa_n q1, sa_n q2, sa_n q1, sa_n q1]
    rw [sa_n (a := 274) (b := 275) (by omega), sa_s (a := 275), e]
    exact Iff.rfl
  have e0 : pm_sa (pm_sa M 274 (cpr (M 274) (24 * t) (24 * s) 0)) 275 (cpr (M 275) (24 * t) (24 * s) 0) = M := by
    rw [cpr_0, cpr_0, sa_id (a := 274) rfl, sa_id rfl]
  have l := loopN (fun j => pm_Run d 232 103 [vA 234, vI (t : Int), vI (s : Int), vI (j : Int)] [] (GF X, pm_sa (pm_sa M 274 (cpr (M 274) (24 * t) (24 * s) j)) 275 (cpr (M 275) (24 * t) (24 * s) j), PTF v) K) 24 st
  simp only [e0] at l
  refine l.trans ?_
  rw [r232_103 (by omega), if_pos (by omega)]
  exact Iff.rfl
end RF5
