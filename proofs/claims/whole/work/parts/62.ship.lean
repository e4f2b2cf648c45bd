/-! Ships: sets of places as bits. -/
def isB (U N : Nat) (S : Nat → Bool) : Prop := U < 2 ^ N ∧ ∀ p, p < N → U.testBit p = S p
/-- the places of a set and those beside them -/
def spr (N : Nat) (S : Nat → Bool) : Nat → Bool := fun p => S p || (S (if p + 1 = N then 0 else p + 1) || S (if p = 0 then N - 1 else p - 1))
theorem pw_lt {j : Nat} (h : j ≤ 24) : 2 ^ j ≤ 16777216 := Nat.pow_le_pow_right (n := 2) (by omega) h
theorem isB_lt {U N : Nat} {S : Nat → Bool} (h : isB U N S) (hN : N ≤ 24) : U < 16777216 := Nat.lt_of_lt_of_le h.1 (pw_lt hN)
theorem isB_t {U N : Nat} {S : Nat → Bool} (h : isB U N S) (q : Nat) : U.testBit q = (decide (q < N) && S q) := by
  by_cases hq : q < N
  · rw [h.2 q hq]; simp [hq]
  · rw [Nat.testBit_lt_two_pow (Nat.lt_of_lt_of_le h.1 (Nat.pow_le_pow_right (by omega) (by omega)))]; simp [hq]
theorem isB_o {U N : Nat} {S : Nat → Bool} (h1 : U < 2 ^ N) (h : ∀ p, p < N → U.testBit p = S p) : isB U N S := ⟨h1, h⟩
theorem isB_c {U N : Nat} {S S' : Nat → Bool} (h : isB U N S) (e : ∀ p, p < N → S p = S' p) : isB U N S' := ⟨h.1, fun p hp => (h.2 p hp).trans (e p hp)⟩
theorem isB_s {U j : Nat} {S : Nat → Bool} (h : isB U j S) (hs : S j = true) : isB (U ||| 2 ^ j) (j + 1) S := by
  have h1 : 2 ^ j < 2 ^ (j + 1) := Nat.pow_lt_pow_right (by omega) (by omega)
  refine ⟨Nat.or_lt_two_pow (Nat.lt_trans h.1 h1) h1, fun p hp => ?_⟩
  rw [Nat.testBit_or, Nat.testBit_two_pow, isB_t h]
  by_cases q : p = j
  · subst q; simp [hs]
  · have : p < j := by omega
    have q' : ¬ j = p := by omega
    simp [this, q']
theorem isB_n {U j : Nat} {S : Nat → Bool} (h : isB U j S) (hs : S j = false) : isB U (j + 1) S := by
  have h1 : 2 ^ j < 2 ^ (j + 1) := Nat.pow_lt_pow_right (by omega) (by omega)
  refine ⟨Nat.lt_trans h.1 h1, fun p hp => ?_⟩
  rw [isB_t h]
  by_cases q : p = j
  · subst q; simp [hs]
  · have : p < j := by omega
    simp [this]
theorem isB_a {U V N : Nat} {S T : Nat → Bool} (h : isB U N S) (h2 : isB V N T) : isB (U &&& V) N (fun p => S p && T p) := ⟨Nat.lt_of_le_of_lt Nat.and_le_left h.1, fun p hp => by rw [Nat.testBit_and, h.2 p hp, h2.2 p hp]⟩
theorem isB_or {U V N : Nat} {S T : Nat → Bool} (h : isB U N S) (h2 : isB V N T) : isB (U ||| V) N (fun p => S p || T p) := ⟨Nat.or_lt_two_pow h.1 h2.1, fun p hp => by rw [Nat.testBit_or, h.2 p hp, h2.2 p hp]⟩
theorem isB_1 {N f : Nat} (h : f < N) : isB (2 ^ f) N (fun p => decide (p = f)) := ⟨Nat.pow_lt_pow_right (by omega) h, fun p hp => by rw [Nat.testBit_two_pow]; simp [eq_comm]⟩
theorem isB_0 {N : Nat} : isB 0 N (fun _ => false) := ⟨Nat.two_pow_pos N, fun p _ => by simp⟩
theorem shl1 {j : Nat} (h : j ≤ 24) : pm_shl 1 (j : Int) = ((2 ^ j : Nat) : Int) := by
  have h1 := pw_lt h
  have := pm_shlN (a := 1) (k := j) (by omega) (by omega)
  rw [Nat.one_mul] at this
  exact this
/-- the class's spreading -/
def sprN (U N : Nat) : Nat := ((((U <<< 1 ||| U) ||| U >>> 1) ||| (U >>> (N - 1) &&& 1)) ||| (U &&& 1) <<< (N - 1)) &&& (2 ^ N - 1)
theorem isB_p {U N : Nat} {S : Nat → Bool} (hN : 0 < N) (h : isB U N S) : isB (sprN U N) N (spr N S) := by
  refine ⟨?_, fun p hp => ?_⟩
  · have h1 := Nat.two_pow_pos N
    have h2 : sprN U N ≤ 2 ^ N - 1 := Nat.and_le_right
    omega
  · have t1 : (1 : Nat).testBit p = decide (p = 0) := by rw [show (1 : Nat) = 2 ^ 0 from rfl, Nat.testBit_two_pow]; simp [eq_comm]
    have t2 : (1 : Nat).testBit (p - (N - 1)) = decide (p - (N - 1) = 0) := by rw [show (1 : Nat) = 2 ^ 0 from rfl, Nat.testBit_two_pow]; simp [eq_comm]
    unfold sprN spr
    rw [Nat.testBit_and, Nat.testBit_or, Nat.testBit_or, Nat.testBit_or, Nat.testBit_or, Nat.testBit_shiftLeft, Nat.testBit_shiftLeft, Nat.testBit_and, Nat.testBit_and, Nat.testBit_shiftRight, Nat.testBit_shiftRight, Nat.testBit_two_pow_sub_one, t1, t2]
    simp only [isB_t h]
    by_cases h0 : p = 0
    · subst h0
      by_cases h1 : N = 1
      · subst h1; simp
      · have e1 : ¬ (0 + 1 = N) := by omega
        have e2 : 1 + 0 < N := by omega
        have e3 : N - 1 + 0 < N := by omega
        have e4 : ¬ (0 ≥ N - 1) := by omega
        have e5 : N - 1 < N := by omega
        simp [e1, e2, e3, e4, e5, hp]
        cases S 0 <;> cases S 1 <;> cases S (N - 1) <;> simp
    · by_cases h1 : p + 1 = N
      · have e1 : p ≥ 1 := by omega
        have e2 : p - 1 < N := by omega
        have e3 : ¬ (1 + p < N) := by omega
        have e4 : p ≥ N - 1 := by omega
        have e5 : p - (N - 1) = 0 := by omega
        simp [h0, h1, e1, e2, e3, e4, e5, hp, hN]
        cases S p <;> cases S 0 <;> cases S (p - 1) <;> simp
      · have e1 : p ≥ 1 := by omega
        have e2 : p - 1 < N := by omega
        have e3 : 1 + p < N := by omega
        have e4 : ¬ (p ≥ N - 1) := by omega
        have e6 : 1 + p = p + 1 := by omega
        simp [h0, h1, e1, e2, e4, hp, e6 ▸ e3, e6]
        cases S p <;> cases S (p + 1) <;> cases S (p - 1) <;> simp
/-- where a ship may be, hour by hour -/
def rch (N : Nat) (fl : Nat → Nat → Bool) (f : Nat) : Nat → Nat → Bool
  | 0 => fun p => decide (p = f) && fl 0 p
  | t + 1 => fun p => spr N (rch N fl f t) p && fl (t + 1) p
/-- from where it still comes there: the set s hours ahead of L, one more -/
def gd (N : Nat) (fl : Nat → Nat → Bool) (to L : Nat) : Nat → Nat → Bool
  | 0 => fun _ => false
  | s + 1 => fun p => (decide (p = to) || spr N (gd N fl to L s) p) && fl (L - s) p
def flo (n : Nat → Nat) (a : PH) (F : Nat → List Int) (μ : PH) (D : Int) (t p : Nat) : Bool := decide (D ≤ hts n F (ahd n a F μ t) p)
theorem spr_e {N p : Nat} {S : Nat → Bool} (h : ∀ p, p < N → S p = false) (hp : p < N) : spr N S p = false := by
  unfold spr
  rw [h p hp, h _ (show (if p + 1 = N then 0 else p + 1) < N by split <;> omega), h _ (show (if p = 0 then N - 1 else p - 1) < N by split <;> omega)]
  rfl
theorem rch_e {N f t : Nat} {fl : Nat → Nat → Bool} (h : ∀ p, p < N → rch N fl f t p = false) : ∀ k p, p < N → rch N fl f (t + k) p = false
  | 0, p, hp => h p hp
  | k + 1, p, hp => by
    show (spr N (rch N fl f (t + k)) p && fl (t + k + 1) p) = false
    rw [spr_e (rch_e h k) hp]; rfl
section CSH
variable {d c : Nat} {X : Nat × (Nat → Int)} {v : Nat → Int} {M M' : PH} {K : PV → PS → Prop} {n : Nat → Nat} {a μ : PH} {F : Nat → List Int}
theorem c36 (hc : isCh c) (hv : v 2 = (c : Int)) (hC : isC M c n a F) (hwC : wC n a F) {k t : Nat} (hI : FI M n a F μ k) (ht : t < k) (ht49 : t < 49) {D : Int} (hD : inR D) (hK : ∀ U : Nat, isB U (n 0) (flo n a F μ D t) → K (vI (U : Int)) (GF X, M, PTF v)) : pm_Call (d + 2) 36 [vA 60, vI (t : Int), vI D] (GF X, M, PTF v) K := by
  have hn := hwC.1
  have e0 : M c 0 = (n 0 : Int) := hC.1 0 (by omega)
  rw [en36, r36_0]
  refine loopI (n 0) (fun j (U : Nat) => isB U j (flo n a F μ D t)) (fun j U => pm_Run (d + 1) 36 5 [vA 60, vI (t : Int), vI D, vI (U : Int), vI (j : Int)] [] (GF X, M, PTF v) K) (fun j U hj hU ih => ?_) (fun U hU => ?_) 0 ⟨by omega, fun p hp => absurd hp (by omega)⟩
  · have hb := hts_b (μ := ahd n a F μ t) (p := j) hwC
    have hUb := isB_lt hU (by omega)
    rw [r36_5 hc hv (by omega) (by rw [e0]; omega), e0, if_neg (by omega), r36_17, c27 (by omega) ht49, push_i, (hI.2.2.2.1 t ht).1 j hj, r36_24 (by omega) hD]
    by_cases q : hts n F (ahd n a F μ t) j < D
    · rw [if_pos q, r36_35]
      exact ih U (isB_n hU (by simp [flo]; omega))
    · rw [if_neg q, r36_28, r36_35, shl1 (by omega), pm_orN (by omega) (by have := pw_lt (show j ≤ 24 by omega); omega)]
      exact ih _ (isB_s hU (by simp [flo]; omega))
  · rw [r36_5 hc hv (by omega) (by rw [e0]; omega), e0, if_pos (by omega), r36_41]
    exact hK U hU
theorem c37 (hc : isCh c) (hv : v 2 = (c : Int)) (e0 : M c 0 = (n 0 : Int)) (h0 : 0 < n 0) (h24 : n 0 ≤ 24) {U : Nat} {S : Nat → Bool} (hU : isB U (n 0) S) (hK : ∀ W : Nat, isB W (n 0) (spr (n 0) S) → K (vI (W : Int)) (GF X, M, PTF v)) : pm_Call (d + 1) 37 [vA 60, vI (U : Int)] (GF X, M, PTF v) K := by
  have hb := isB_lt hU h24
  have hp := pw_lt h24
  have hp1 := pw_lt (show n 0 - 1 ≤ 24 by omega)
  have hpp := Nat.two_pow_pos (n 0)
  have s1 : pm_shl (U : Int) 1 = ((U <<< 1 : Nat) : Int) := by
    have := pm_shlN (a := U) (k := 1) (by omega) (by omega)
    rw [← Nat.shiftLeft_eq] at this
    exact this
  have s3 : pm_shr (U : Int) 1 = ((U >>> 1 : Nat) : Int) := pm_shrN (k := 1) (by omega) (by omega)
  have l1 : U <<< 1 < 2 ^ 25 := by rw [Nat.shiftLeft_eq]; omega
  have l3 : U >>> 1 < 2 ^ 25 := by rw [Nat.shiftRight_eq_div_pow]; omega
  have a1 : U &&& 1 ≤ 1 := Nat.and_le_right
  have s4 : pm_and (pm_shr (U : Int) ((n 0 - 1 : Nat) : Int)) 1 = ((U >>> (n 0 - 1) &&& 1 : Nat) : Int) := by
    have l4 : U >>> (n 0 - 1) ≤ U := by rw [Nat.shiftRight_eq_div_pow]; exact Nat.div_le_self _ _
    rw [pm_shrN (by omega) (by omega)]
    exact pm_andN (b := 1) (by omega) (by omega)
  have l5 : (U &&& 1) <<< (n 0 - 1) < 2 ^ 25 := by
    rw [Nat.shiftLeft_eq]
    have := Nat.mul_le_mul a1 hp1
    omega
  have s5 : pm_shl (pm_and (U : Int) 1) ((n 0 - 1 : Nat) : Int) = (((U &&& 1) <<< (n 0 - 1) : Nat) : Int) := by
    rw [show pm_and (U : Int) 1 = ((U &&& 1 : Nat) : Int) from pm_andN (b := 1) (by omega) (by omega)]
    have h5 := l5
    rw [Nat.shiftLeft_eq] at h5 ⊢
    exact pm_shlN (by omega) (by omega)
  have l4 : U >>> (n 0 - 1) &&& 1 < 2 ^ 25 := Nat.lt_of_le_of_lt Nat.and_le_right (by decide)
  have s6 : pm_shl 1 (n 0 : Int) - 1 = ((2 ^ n 0 - 1 : Nat) : Int) := by rw [shl1 h24]; omega
  have o1 := Nat.or_lt_two_pow l1 (show U < 2 ^ 25 by omega)
  have o2 := Nat.or_lt_two_pow o1 l3
  have o3 := Nat.or_lt_two_pow o2 l4
  have o4 := Nat.or_lt_two_pow o3 l5
  rw [en37, r37_0 hc hv (by rw [e0]; omega), e0, if_pos (by omega), r37_12 hc hv, e0, show (n 0 : Int) - 1 = ((n 0 - 1 : Nat) : Int) by omega, s1, s3, s4, s5, s6, pm_orN (by omega) (by omega), pm_orN (by omega) (by omega), pm_orN (by omega) (by omega), pm_orN (by omega) (by omega), pm_andN (by omega) (by omega)]
  exact hK _ (isB_p h0 hU)
theorem c34 (hc : isCh c) (hv : v 2 = (c : Int)) (hC : isC M c n a F) (hwC : wC n a F) (hμ : mo M 3 = μ) (hw : wM n μ) {k f to : Nat} (hI : FI M n a F μ k) (hf : f < n 0) (hto : to < n 0) {D : Int} (hD : inR D) (hK : ∀ M' k', FI M' n a F μ k' → frF c M M' → K (vI (fi (fun t => rch (n 0) (flo n a F μ D) f t to) (lst μ + 1) 0)) (GF X, M', PTF v)) : pm_Call (d + 7) 34 [vA 60, vI (f : Int), vI (to : Int), vI D] (GF X, M, PTF v) K := by
  obtain ⟨hL, hL48⟩ := lst_i hw
  have hn := hwC.1
  have main : ∀ r t, t + r = lst μ + 1 → ∀ (M' : PH) k (U : Nat), FI M' n a F μ k → frF c M M' → isB U (n 0) (if t = 0 then (fun p => decide (p = f)) else rch (n 0) (flo n a F μ D) f (t - 1)) → (∀ M' k', FI M' n a F μ k' → frF c M M' → K (vI (fi (fun t => rch (n 0) (flo n a F μ D) f t to) r t)) (GF X, M', PTF v)) → pm_Run (d + 6) 34 8 [vA 60, vI (f : Int), vI (to : Int), vI D, vI (U : Int), vI (t : Int)] [] (GF X, M', PTF v) K := by
    intro r
    induction r with
    | zero =>
      intro t ht M' k U hI' hfr hU hk
      rw [r34_8 (by omega) (by rw [hI'.1]; omega), hI'.1, if_pos (by omega), r34_73]
      exact hk M' k hI' hfr
    | succ r ih =>
      intro t ht M' k U hI' hfr hU hk
      have hUb := isB_lt hU (by omega)
      rw [r34_8 (by omega) (by rw [hI'.1]; omega), hI'.1, if_neg (by omega), r34_17 (by omega)]
      by_cases hU0 : U = 0
      · rw [if_pos (by omega), r34_73]
        have := hk M' k hI' hfr
        subst hU0
        by_cases q : t = 0
        · rw [if_pos q] at hU
          have := hU.2 f hf
          simp at this
        · rw [if_neg q] at hU
          have he : ∀ p, p < n 0 → rch (n 0) (flo n a F μ D) f (t - 1) p = false := fun p hp => by rw [← hU.2 p hp]; simp
          rw [fi_0 (fun j h1 h2 => by have := rch_e he (j - (t - 1)) to hto; rw [show t - 1 + (j - (t - 1)) = j by omega] at this; exact this)] at this
          exact this
      · rw [if_neg (by omega), r34_22]
        refine c25 hc hv (frF_C hc hfr hC) hwC ((frF_3 hc hfr).trans hμ) hw hI' (by omega) (fun M2 k2 hI2 hk2 _ hf2 => ?_)
        have hfr2 := frF_t hfr hf2
        have hC2 := frF_C hc hfr2 hC
        rw [push_u, r34_28 (by omega)]
        have B : ∀ U1 : Nat, isB U1 (n 0) (fun p => if t = 0 then decide (p = f) else spr (n 0) (rch (n 0) (flo n a F μ D) f (t - 1)) p) → pm_Run (d + 6) 34 44 [vA 60, vI (f : Int), vI (to : Int), vI D, vI (U : Int), vI (t : Int)] [vI (U1 : Int)] (GF X, M2, PTF v) K := by
          intro U1 hU1
          rw [r34_44]
          refine c36 hc hv hC2 hwC hI2 (by omega) (by omega) hD (fun W hW => ?_)
          have b1 := isB_lt hU1 (by omega)
          have b2 := isB_lt hW (by omega)
          have hA : isB (U1 &&& W) (n 0) (rch (n 0) (flo n a F μ D) f t) := isB_c (isB_a hU1 hW) (fun p _ => by
            by_cases q : t = 0
            · subst q; simp [rch]
            · rw [if_neg q, show rch (n 0) (flo n a F μ D) f t = rch (n 0) (flo n a F μ D) f ((t - 1) + 1) by rw [Nat.sub_add_cancel (by omega)]]
              show _ = (_ && flo n a F μ D (t - 1 + 1) p)
              rw [Nat.sub_add_cancel (by omega)])
          have b3 := isB_lt hA (by omega)
          rw [push_i, r34_51 bi_and, pm_andN (a := U1) (b := W) (by omega) (by omega), bi_bit (by omega) (by omega), hA.2 to hto]
          by_cases q : rch (n 0) (flo n a F μ D) f t to = true
          · rw [if_pos q, if_neg (by simp), r34_64]
            have := hk M2 k2 hI2 hfr2
            rw [fi, if_pos q] at this
            exact this
          · rw [if_neg q, if_pos (by simp), r34_67]
            refine ih (t + 1) (by omega) M2 k2 (U1 &&& W) hI2 hfr2 (by rw [if_neg (by omega), Nat.add_sub_cancel]; exact hA) (fun M3 k3 h3 f3 => ?_)
            have := hk M3 k3 h3 f3
            rw [fi, if_neg q] at this
            exact this
        by_cases q : t = 0
        · rw [if_neg (by omega), r34_33]
          exact B U (isB_c hU (fun p _ => by simp [q]))
        · rw [if_pos (by omega), r34_38]
          rw [if_neg q] at hU
          refine c37 (n := n) hc hv (hC2.1 0 (by omega)) (by omega) (by omega) hU (fun W hW => ?_)
          rw [push_i]
          exact B W (isB_c hW (fun p _ => by simp [q]))
  rw [en34, r34_0, shl1 (by omega)]
  exact main (lst μ + 1) 0 (by omega) M k _ hI frF_r (isB_1 hf) hK
theorem c35 (hc : isCh c) (hv : v 2 = (c : Int)) (hC : isC M c n a F) (hwC : wC n a F) (hμ : mo M 3 = μ) (hw : wM n μ) {k f to : Nat} (hI : FI M n a F μ k) (hf : f < n 0) (hto : to < n 0) {D : Int} (hD : inR D) (hK : ∀ M' k', FI M' n a F μ k' → frF c M M' → K (vI (if fi (fun s => gd (n 0) (flo n a F μ D) to (lst μ) (s + 1) f) (lst μ + 1) 0 = -1 then -1 else lst μ - fi (fun s => gd (n 0) (flo n a F μ D) to (lst μ) (s + 1) f) (lst μ + 1) 0)) (GF X, M', PTF v)) : pm_Call (d + 7) 35 [vA 60, vI (f : Int), vI (to : Int), vI D] (GF X, M, PTF v) K := by
  obtain ⟨hL, hL48⟩ := lst_i hw
  have hn := hwC.1
  rw [en35, r35_0, hI.1, hL]
  refine c25 hc hv hC hwC hμ hw hI (by omega) (fun M2 k2 hI2 hk2 _ hf2 => ?_)
  have hC2 := frF_C hc hf2 hC
  rw [push_u, r35_11, hI2.1, hL]
  have main : ∀ r s, s + r = lst μ + 1 → ∀ U : Nat, isB U (n 0) (gd (n 0) (flo n a F μ D) to (lst μ) s) → K (vI (if fi (fun s => gd (n 0) (flo n a F μ D) to (lst μ) (s + 1) f) r s = -1 then -1 else lst μ - fi (fun s => gd (n 0) (flo n a F μ D) to (lst μ) (s + 1) f) r s)) (GF X, M2, PTF v) → pm_Run (d + 6) 35 17 [vA 60, vI (f : Int), vI (to : Int), vI D, vI (U : Int), vI ((lst μ : Int) - (s : Int))] [] (GF X, M2, PTF v) K := by
    intro r
    induction r with
    | zero =>
      intro s hs U hU hk
      rw [r35_17 (by omega), if_pos (by omega), r35_61]
      exact hk
    | succ r ih =>
      intro s hs U hU hk
      rw [r35_17 (by omega), if_neg (by omega), r35_22, shl1 (by omega)]
      refine c37 (n := n) hc hv (hC2.1 0 (by omega)) (by omega) (by omega) hU (fun W hW => ?_)
      have h1 := isB_or (isB_1 hto) hW
      have b0 := isB_lt (isB_1 hto) (by omega)
      have b1 := isB_lt hW (by omega)
      have b2 := isB_lt h1 (by omega)
      rw [push_i, r35_31, pm_orN (by omega) (by omega), show (lst μ : Int) - (s : Int) = ((lst μ - s : Nat) : Int) by omega]
      refine c36 hc hv hC2 hwC hI2 (by omega) (by omega) hD (fun V hV => ?_)
      have b3 := isB_lt hV (by omega)
      have hA : isB ((2 ^ to ||| W) &&& V) (n 0) (gd (n 0) (flo n a F μ D) to (lst μ) (s + 1)) := isB_c (isB_a h1 hV) (fun p _ => rfl)
      have b4 := isB_lt hA (by omega)
      rw [push_i, r35_39 bi_and, pm_andN (a := 2 ^ to ||| W) (b := V) (by omega) (by omega), bi_bit (by omega) (by omega), hA.2 f hf]
      by_cases q : gd (n 0) (flo n a F μ D) to (lst μ) (s + 1) f = true
      · rw [if_pos q, if_neg (by simp), r35_52]
        rw [fi, if_pos q, if_neg (by omega)] at hk
        rw [show ((lst μ - s : Nat) : Int) = (lst μ : Int) - (s : Int) by omega]
        exact hk
      · rw [if_neg q, if_pos (by simp), r35_55, show ((lst μ - s : Nat) : Int) + -1 = (lst μ : Int) - ((s + 1 : Nat) : Int) by omega]
        rw [fi, if_neg q] at hk
        exact ih (s + 1) (by omega) _ hA hk
  have := main (lst μ + 1) 0 (by omega) 0 isB_0 (hK M2 k2 hI2 hf2)
  rw [show (lst μ : Int) - ((0 : Nat) : Int) = (lst μ : Int) by omega] at this
  exact this
end CSH
