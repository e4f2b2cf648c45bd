/-! The tape's bytes; what is seen; charts; acts that are past. -/
/-- the class's tape -/
def TP (M : PH) (B : Nat → Int) : Prop := ∀ k, k < 1600 → M 1 k = pm_b8 (B k) ∧ 0 ≤ B k ∧ B k ≤ 255
theorem b8_n : ∀ k : Nat, k < 256 → pm_and (pm_b8 (k : Int)) 255 = (k : Int) := by decide +kernel
theorem b8_a {x : Int} (h : 0 ≤ x ∧ x ≤ 255) : pm_and (pm_b8 x) 255 = x := by
  obtain ⟨k, rfl⟩ := Int.eq_ofNat_of_zero_le h.1
  exact b8_n k (by omega)
theorem b8_2 {x y : Int} (hx : 0 ≤ x ∧ x ≤ 255) (hy : 0 ≤ y ∧ y ≤ 255) : pm_or (pm_shl x 8) y = x * 256 + y := by
  obtain ⟨k, rfl⟩ := Int.eq_ofNat_of_zero_le hx.1
  obtain ⟨l, rfl⟩ := Int.eq_ofNat_of_zero_le hy.1
  have h1 := pm_shlN (a := k) (k := 8) (by omega) (by omega)
  rw [show pm_shl (k : Int) 8 = ((k * 2 ^ 8 : Nat) : Int) from h1, pm_orN (by omega) (by omega), ← Nat.shiftLeft_eq, ← Nat.shiftLeft_add_eq_or_of_lt (show l < 2 ^ 8 by omega), Nat.shiftLeft_eq]
  omega
theorem r1S : 1 < 283 ∧ SHF 1 = (101, 1600) := by decide +kernel
section CCH
variable {d c b : Nat} {X : Nat × (Nat → Int)} {v : Nat → Int} {M M' : PH} {K : PV → PS → Prop} {n : Nat → Nat} {a μ : PH} {F : Nat → List Int} {B : Nat → Int}
theorem c127 : pm_Call (d + 1) 127 [vA 91] (GF X, M, PTF v) K ↔ K PU (GF X, pm_sa M 91 (pm_up (M 91) 7 0), PTF v) := by rw [en127, r127_0]
/-- rows that may be seen -/
def seeOk (B : Nat → Int) (s n0 : Nat) : Prop := (3 ≤ s ∧ s ≤ 60 ∧ s % 3 = 0) ∧ al (fun i => decide (B (3 * i) < (n0 : Int))) (s / 3) = true
theorem al_f {p : Nat → Bool} {j : Nat} (h : al p j = false) : ∀ i, al p (j + i) = false
  | 0 => h
  | i + 1 => by rw [← Nat.add_assoc, al, al_f h i]; rfl
theorem c128 (hB : TP M B) {s n0 : Nat} (hs : s ≤ 1600) (h24 : n0 ≤ 24) (h0 : ¬ seeOk B s n0 → K (vI 0) (GF X, M, PTF v)) (h1 : seeOk B s n0 → ∀ M' : PH, (∀ q, q ≠ 91 → q ≠ 101 → q ≠ 102 → M' q = M q) → M' 91 7 = ((s / 3 : Nat) : Int) → M' 91 6 = 0 → (∀ j, j ≠ 6 → j ≠ 7 → M' 91 j = M 91 j) → (∀ k, k < s / 3 → M' 101 k = B (3 * k) ∧ M' 102 k = B (3 * k + 1) * 256 + B (3 * k + 2) - 1000) → K (vI 1) (GF X, M', PTF v)) : pm_Call (d + 1) 128 [vA 91, vA 1, vI (s : Int), vI (n0 : Int)] (GF X, M, PTF v) K := by
  have ht : ((s : Int)).tmod 3 = ((s % 3 : Nat) : Int) := (Int.ofNat_tmod s 3).symm
  have hdv : ((s : Int)).tdiv 3 = ((s / 3 : Nat) : Int) := (Int.ofNat_tdiv s 3).symm
  have no : ¬ seeOk B s n0 → ∀ l4 : PV, l4 = PU → pm_Run d 128 23 [vA 91, vA 1, vI (s : Int), vI (n0 : Int), l4] [] (GF X, M, PTF v) K := by
    intro h l4 e
    subst e
    rw [r128_23 (nr := 1600)]; exact h0 h
  rw [en128, r128_0 (nr := 1600) (by omega)]
  by_cases q1 : s < 3
  · rw [if_pos (by omega)]; exact no (fun z => by have := z.1; omega) _ rfl
  rw [if_neg (by omega), r128_5 (nr := 1600) (by omega)]
  by_cases q2 : 60 < s
  · rw [if_pos (by omega)]; exact no (fun z => by have := z.1; omega) _ rfl
  rw [if_neg (by omega), r128_11 r1S (by omega) (by omega), if_neg (by omega), r128_17 (nr := 1600) (by omega) (by rw [ht]; omega), ht]
  by_cases q3 : s % 3 = 0
  case neg => rw [if_neg (by omega)]; exact no (fun z => by have := z.1; omega) _ rfl
  rw [if_pos (by omega), r128_25 (nr := 1600)]
  -- all places are there
  have L2 : seeOk B s n0 → ∀ l4 : PV, (∃ x, l4 = vI x) → pm_Run d 128 54 [vA 91, vA 1, vI (s : Int), vI (n0 : Int), l4] [] (GF X, M, PTF v) K := by
    rintro hok l4 ⟨x, rfl⟩
    rw [r128_54 (nr := 1600) (by omega), r128_61 (nr := 1600), hdv]
    refine loopI (s / 3) (fun j (M' : PH) => (∀ q, q ≠ 91 → q ≠ 101 → q ≠ 102 → M' q = M q) ∧ M' 91 = pm_up (M 91) 7 ((s / 3 : Nat) : Int) ∧ (∀ k, k < j → M' 101 k = B (3 * k) ∧ M' 102 k = B (3 * k + 1) * 256 + B (3 * k + 2) - 1000)) (fun j M' => pm_Run d 128 64 [vA 91, vA 1, vI (s : Int), vI (n0 : Int), vI (j : Int)] [] (GF X, M', PTF v) K) (fun j M' hj hI ih => ?_) (fun M' hI => ?_) _ ⟨fun q z1 z2 z3 => sa_n z1, sa_s, fun k hk => absurd hk (by omega)⟩
    · obtain ⟨i1, i2, i3⟩ := hI
      have m1 : M' 1 = M 1 := i1 1 (by omega) (by omega) (by omega)
      have b0 := hB (3 * j) (by omega)
      have b1 := hB (3 * j + 1) (by omega)
      have b2 := hB (3 * j + 2) (by omega)
      rw [r128_64 (nr := 1600) (by omega) (by rw [i2, up_s]; omega), i2, up_s, if_neg (by omega), r128_73 r1S (by omega) (by omega) (by omega) (by omega), r128_90 r1S (by omega) (by omega) (by omega) (by omega) (by omega) (by omega), r128_129 (nr := 1600), show (3 * (j : Int)).toNat = 3 * j by omega, show (3 * (j : Int) + 1).toNat = 3 * j + 1 by omega, show (3 * (j : Int) + 2).toNat = 3 * j + 2 by omega, Int.toNat_natCast, sa_n (show 1 ≠ 101 by omega), m1, b0.1, b1.1, b2.1, b8_a b0.2, b8_a b1.2, b8_a b2.2, b8_2 b1.2 b2.2]
      refine ih _ ⟨fun q z1 z2 z3 => by rw [sa_n z3, sa_n z2]; exact i1 q z1 z2 z3, by rw [sa_n (by omega), sa_n (by omega)]; exact i2, fun k hk => ?_⟩
      rw [sa_n (show 101 ≠ 102 by omega), sa_s, sa_s, sa_n (show 102 ≠ 101 by omega)]
      by_cases z : k = j
      · rw [up_e z, up_e z, z]; exact ⟨rfl, rfl⟩
      · rw [up_n z, up_n z]; exact i3 k (by omega)
    · obtain ⟨i1, i2, i3⟩ := hI
      rw [r128_64 (nr := 1600) (by omega) (by rw [i2, up_s]; omega), i2, up_s, if_pos (by omega), r128_135 (nr := 1600), r128_140 (nr := 1600)]
      exact h1 hok _ (fun q z1 z2 z3 => by rw [sa_n z1]; exact i1 q z1 z2 z3) (by rw [sa_s, up_n (by omega), i2, up_s]) (by rw [sa_s, up_s]) (fun j z1 z2 => by rw [sa_s, up_n z1, i2, up_n z2]) (fun k hk => by rw [sa_n (by omega), sa_n (by omega)]; exact i3 k hk)
  have L1 : ∀ k j, j + k = s / 3 → al (fun i => decide (B (3 * i) < (n0 : Int))) j = true → pm_Run d 128 28 [vA 91, vA 1, vI (s : Int), vI (n0 : Int), vI ((3 * j : Nat) : Int)] [] (GF X, M, PTF v) K := by
    intro k
    induction k with
    | zero =>
      intro j hj hal
      rw [r128_28 (nr := 1600) (by omega) (by omega), if_pos (by omega)]
      exact L2 ⟨by omega, by rw [show s / 3 = j by omega]; exact hal⟩ _ ⟨_, rfl⟩
    | succ k ih =>
      intro j hj hal
      have b0 := hB (3 * j) (by omega)
      rw [r128_28 (nr := 1600) (by omega) (by omega), if_neg (by omega), r128_34 r1S (by omega) (by omega) bi_and (by omega), Int.toNat_natCast, b0.1, b8_a b0.2]
      by_cases q : B (3 * j) < (n0 : Int)
      · rw [if_pos q, r128_48 (nr := 1600), show ((3 * j : Nat) : Int) + 3 = ((3 * (j + 1) : Nat) : Int) by omega]
        exact ih (j + 1) (by omega) (by rw [al, hal]; simp [q])
      · rw [if_neg q, r128_46 (nr := 1600)]
        refine h0 (fun z => ?_)
        have := al_f (p := fun i => decide (B (3 * i) < (n0 : Int))) (j := j + 1) (by rw [al, hal]; simp; omega) k
        rw [show j + 1 + k = s / 3 by omega, z.2] at this
        exact absurd this (by decide)
  exact L1 (s / 3) 0 (by omega) rfl
theorem c14 (hc : isCh c) (e1 : M c 1 = (n 1 : Int)) (h3 : n 1 ≤ 3) (hr : ∀ k, k < n 1 → inR (M (c + 1) k)) {x : Int} (hx : inR x) : pm_Call (d + 1) 14 [vA c, vI x] (GF X, M, PTF v) K ↔ K (vI (fi (fun k => decide (M (c + 1) k = x)) (n 1) 0)) (GF X, M, PTF v) := by
  have main : ∀ k j, j + k = n 1 → (pm_Run d 14 2 [vA c, vI x, vI (j : Int)] [] (GF X, M, PTF v) K ↔ K (vI (fi (fun k => decide (M (c + 1) k = x)) k j)) (GF X, M, PTF v)) := by
    intro k
    induction k with
    | zero => intro j hj; rw [r14_2 hc (by omega) (by rw [e1]; omega), e1, if_pos (by omega), r14_28]; rfl
    | succ k ih =>
      intro j hj
      rw [r14_2 hc (by omega) (by rw [e1]; omega), e1, if_neg (by omega), r14_10 hc (by omega) (by omega) (by rw [Int.toNat_natCast]; exact hr j (by omega)) hx, Int.toNat_natCast, fi]
      by_cases q : M (c + 1) j = x
      · rw [if_neg (by simp [q]), r14_20, if_pos (by simp [q])]
      · rw [if_pos q, r14_22, if_neg (by simp [q])]
        exact ih (j + 1) (by omega)
  rw [en14, r14_0]
  exact main (n 1) 0 (by omega)
theorem c15 (hc : isCh c) (e2 : M c 2 = (n 2 : Int)) (h8 : n 2 ≤ 8) (hr : ∀ k, k < n 2 → inR (M (c + 3) k)) {x : Int} (hx : inR x) : pm_Call (d + 1) 15 [vA c, vI x] (GF X, M, PTF v) K ↔ K (vI (fi (fun k => decide (M (c + 3) k = x)) (n 2) 0)) (GF X, M, PTF v) := by
  have main : ∀ k j, j + k = n 2 → (pm_Run d 15 2 [vA c, vI x, vI (j : Int)] [] (GF X, M, PTF v) K ↔ K (vI (fi (fun k => decide (M (c + 3) k = x)) k j)) (GF X, M, PTF v)) := by
    intro k
    induction k with
    | zero => intro j hj; rw [r15_2 hc (by omega) (by rw [e2]; omega), e2, if_pos (by omega), r15_28]; rfl
    | succ k ih =>
      intro j hj
      rw [r15_2 hc (by omega) (by rw [e2]; omega), e2, if_neg (by omega), r15_10 hc (by omega) (by omega) (by rw [Int.toNat_natCast]; exact hr j (by omega)) hx, Int.toNat_natCast, fi]
      by_cases q : M (c + 3) j = x
      · rw [if_neg (by simp [q]), r15_20, if_pos (by simp [q])]
      · rw [if_pos q, r15_22, if_neg (by simp [q])]
        exact ih (j + 1) (by omega)
  rw [en15, r15_0]
  exact main (n 2) 0 (by omega)
theorem c16 (hc : isCh c) (e2 : M c 2 = (n 2 : Int)) (h8 : n 2 ≤ 8) (hr : ∀ k, k < n 2 → inR (M (c + 4) k)) {x : Int} (hx : inR x) : pm_Call (d + 1) 16 [vA c, vI x] (GF X, M, PTF v) K ↔ K (vI (if fi (fun k => decide (M (c + 4) k = x)) (n 2) 0 = -1 then 0 else 1)) (GF X, M, PTF v) := by
  have main : ∀ k j, j + k = n 2 → (pm_Run d 16 2 [vA c, vI x, vI (j : Int)] [] (GF X, M, PTF v) K ↔ K (vI (if fi (fun k => decide (M (c + 4) k = x)) k j = -1 then 0 else 1)) (GF X, M, PTF v)) := by
    intro k
    induction k with
    | zero => intro j hj; rw [r16_2 hc (by omega) (by rw [e2]; omega), e2, if_pos (by omega), r16_28]; rfl
    | succ k ih =>
      intro j hj
      rw [r16_2 hc (by omega) (by rw [e2]; omega), e2, if_neg (by omega), r16_10 hc (by omega) (by omega) (by rw [Int.toNat_natCast]; exact hr j (by omega)) hx, Int.toNat_natCast]
      by_cases q : M (c + 4) j = x
      · have e : fi (fun k => decide (M (c + 4) k = x)) (k + 1) j = (j : Int) := by rw [fi, if_pos (by simp [q])]
        rw [if_neg (by simp [q]), r16_20, e, if_neg (by omega)]
      · have e : fi (fun k => decide (M (c + 4) k = x)) (k + 1) j = fi (fun k => decide (M (c + 4) k = x)) k (j + 1) := by rw [fi, if_neg (by simp [q])]
        rw [if_pos q, r16_22, e]
        exact ih (j + 1) (by omega)
  rw [en16, r16_0]
  exact main (n 2) 0 (by omega)
def owB (n : Nat → Nat) (a : PH) (h : Nat) : Int := sm (fun i => if a 4 i = (h : Int) then a 6 i else 0) (n 3)
def owT (n : Nat → Nat) (a : PH) (h U : Nat) : Int := sm (fun i => if a 5 i = (h : Int) ∧ U.testBit (a 4 i).toNat = false then a 6 i else 0) (n 3)
theorem owB_b (hwC : wC n a F) {h : Nat} : 0 ≤ owB n a h ∧ owB n a h ≤ 15984 := by
  have h16 := hwC.1
  have := sm_b (f := fun i => if a 4 i = (h : Int) then a 6 i else 0) (lo := 0) (hi := 999) (n := n 3) (fun i hi => by have := hwC.2.2.2.1 i hi; split <;> omega)
  unfold owB; omega
theorem owT_b (hwC : wC n a F) {h U : Nat} : 0 ≤ owT n a h U ∧ owT n a h U ≤ 15984 := by
  have h16 := hwC.1
  have := sm_b (f := fun i => if a 5 i = (h : Int) ∧ U.testBit (a 4 i).toNat = false then a 6 i else 0) (lo := 0) (hi := 999) (n := n 3) (fun i hi => by have := hwC.2.2.2.1 i hi; split <;> omega)
  unfold owT; omega
theorem c17 (hc : isCh c) (hC : isC M c n a F) (hwC : wC n a F) {h : Nat} (hh : h < 8) : pm_Call (d + 1) 17 [vA c, vI (h : Int)] (GF X, M, PTF v) K ↔ K (vI (owB n a h)) (GF X, M, PTF v) := by
  have e3 : M c 3 = (n 3 : Int) := hC.1 3 (by omega)
  have hn := hwC.1
  rw [en17, r17_0]
  refine (loopN (fun j => pm_Run d 17 4 [vA c, vI (h : Int), vI (sm (fun i => if a 4 i = (h : Int) then a 6 i else 0) j), vI (j : Int)] [] (GF X, M, PTF v) K) (n 3) (fun j hj => ?_)).trans ?_
  · have g := hwC.2.2.2.1 j hj
    have g2 := hC.2.2.2.1 j hj
    rw [r17_4 hc (by omega) (by rw [e3]; omega), e3, if_neg (by omega), r17_12 hc (by omega) (by omega) (by rw [Int.toNat_natCast, g2.1]; omega) (by omega), Int.toNat_natCast, g2.1, sm]
    by_cases q : a 4 j = (h : Int)
    · rw [if_neg (by simp [q]), r17_22 hc (by omega) (by omega), r17_31, Int.toNat_natCast, g2.2.2, if_pos q]; exact Iff.rfl
    · rw [if_pos q, r17_31, if_neg q, Int.add_zero]; exact Iff.rfl
  · rw [r17_4 hc (by omega) (by rw [e3]; omega), e3, if_pos (by omega), r17_37]; exact Iff.rfl
theorem c18 (hc : isCh c) (hC : isC M c n a F) (hwC : wC n a F) {h U : Nat} (hh : h < 8) (hU : U < 2147483648) : pm_Call (d + 1) 18 [vA c, vI (h : Int), vI (U : Int)] (GF X, M, PTF v) K ↔ K (vI (owT n a h U)) (GF X, M, PTF v) := by
  have e3 : M c 3 = (n 3 : Int) := hC.1 3 (by omega)
  have hn := hwC.1
  rw [en18, r18_0]
  refine (loopN (fun j => pm_Run d 18 5 [vA c, vI (h : Int), vI (U : Int), vI (sm (fun i => if a 5 i = (h : Int) ∧ U.testBit (a 4 i).toNat = false then a 6 i else 0) j), vI (j : Int)] [] (GF X, M, PTF v) K) (n 3) (fun j hj => ?_)).trans ?_
  · have g := hwC.2.2.2.1 j hj
    have g2 := hC.2.2.2.1 j hj
    have e4 : M (c + 6) j = (((a 4 j).toNat : Nat) : Int) := by rw [g2.1]; omega
    rw [r18_5 hc (by omega) (by rw [e3]; omega), e3, if_neg (by omega), r18_14 hc (by omega) (by omega) (by rw [Int.toNat_natCast, g2.2.1]; omega) (by omega), Int.toNat_natCast, g2.2.1, sm]
    by_cases q : a 5 j = (h : Int)
    · rw [if_neg (by simp [q]), r18_25 hc (by omega) (by omega) bi_and, Int.toNat_natCast, e4, bi_bit hU (by omega)]
      by_cases z : U.testBit (a 4 j).toNat = true
      · rw [if_pos z, if_pos (by omega), r18_49, if_neg (by rw [z]; simp), Int.add_zero]; exact Iff.rfl
      · rw [if_neg z, if_neg (by simp), r18_39 hc (by omega) (by omega), r18_49, Int.toNat_natCast, g2.2.2, if_pos ⟨q, by simpa using z⟩]; exact Iff.rfl
    · rw [if_pos q, r18_49, if_neg (fun z => q z.1), Int.add_zero]; exact Iff.rfl
  · rw [r18_5 hc (by omega) (by rw [e3]; omega), e3, if_pos (by omega), r18_55]; exact Iff.rfl
/-- who fails, given who does: one more round -/
def fl1 (n : Nat → Nat) (a μ : PH) (U : Nat) : Nat → Nat
  | 0 => U
  | h + 1 => if μ 3 h + owT n a h U < owB n a h then fl1 n a μ U h ||| 2 ^ h else fl1 n a μ U h
def fls (n : Nat → Nat) (a μ : PH) : Nat → Nat
  | 0 => 0
  | k + 1 => fl1 n a μ (fls n a μ k) (n 2)
theorem fl1_b {U : Nat} (hU : U < 256) : ∀ {h : Nat}, h ≤ 8 → fl1 n a μ U h < 256
  | 0, _ => hU
  | h + 1, hh => by
    have h1 := fl1_b hU (h := h) (by omega)
    rw [fl1]
    split
    · exact Nat.or_lt_two_pow (n := 8) h1 (Nat.pow_lt_pow_right (by omega) (by omega))
    · exact h1
theorem fls_b (h8 : n 2 ≤ 8) : ∀ {k : Nat}, fls n a μ k < 256
  | 0 => by simp [fls]
  | k + 1 => fl1_b (fls_b h8) h8
theorem fls_f {k : Nat} (h : fls n a μ (k + 1) = fls n a μ k) : ∀ i, fls n a μ (k + i) = fls n a μ k
  | 0 => rfl
  | i + 1 => by
    show fl1 n a μ (fls n a μ (k + i)) (n 2) = _
    rw [fls_f h i]; exact h
theorem c19 (hc : isCh c) (hC : isC M c n a F) (hwC : wC n a F) (hμ : mo M 3 = μ) (hw : wM n μ) : pm_Call (d + 2) 19 [vA c, vA 6] (GF X, M, PTF v) K ↔ K (vI (fls n a μ 9 : Nat)) (GF X, M, PTF v) := by
  have e2 : M c 2 = (n 2 : Int) := hC.1 2 (by omega)
  have hn := hwC.1
  have hn8 : n 2 ≤ 8 := hn.2.2.1
  have r6 : 6 < 283 ∧ SHF 6 = (100, 8) := by decide +kernel
  have main : ∀ k r, r + k = 9 → ∀ l4 l5 : PV, (pm_Run (d + 1) 19 4 [vA c, vA 6, vI (fls n a μ r : Nat), vI (r : Int), l4, l5] [] (GF X, M, PTF v) K ↔ K (vI (fls n a μ 9 : Nat)) (GF X, M, PTF v)) := by
    intro k
    induction k with
    | zero =>
      intro r hr l4 l5
      rw [r19_4 (nr := 8) (by omega), if_pos (by omega), r19_78 (nr := 8), show r = 9 by omega]
    | succ k ih =>
      intro r hr l4 l5
      have b1 := fls_b (a := a) (μ := μ) hn8 (k := r)
      have b2 := fls_b (a := a) (μ := μ) hn8 (k := r + 1)
      rw [r19_4 (nr := 8) (by omega), if_neg (by omega), r19_10 (nr := 8)]
      refine (loopN (fun h => pm_Run (d + 1) 19 16 [vA c, vA 6, vI (fls n a μ r : Nat), vI (r : Int), vI (fl1 n a μ (fls n a μ r) h : Nat), vI (h : Int)] [] (GF X, M, PTF v) K) (n 2) (fun h hh => ?_)).trans ?_
      · have b3 := fl1_b (a := a) (μ := μ) (n := n) b1 (h := h) (by omega)
        have t1 := owT_b hwC (h := h) (U := fls n a μ r)
        have t2 := owB_b hwC (h := h)
        have t3 := hw.2.2.2.1 h (by omega)
        have e6 : M 6 h = μ 3 h := (mo_3 (M := M) (b := 3) (by omega)).trans (by rw [hμ])
        rw [r19_16 (nr := 8) hc (by omega) (by rw [e2]; omega), e2, if_neg (by omega), r19_25 hc r6 (by omega) (by omega), c18 hc hC hwC (by omega) (by omega), push_i, r19_36 (nr := 8) hc, c17 hc hC hwC (by omega), push_i, Int.toNat_natCast, e6, r19_43 (nr := 8) (by omega) (by omega), fl1]
        by_cases q : μ 3 h + owT n a h (fls n a μ r) < owB n a h
        · rw [if_neg (by omega), r19_46 (nr := 8), r19_55 (nr := 8), shl1 (by omega), pm_orN (by omega) (by have := pw_lt (show h ≤ 24 by omega); omega), if_pos q]; exact Iff.rfl
        · rw [if_pos (by omega), r19_55 (nr := 8), if_neg q]; exact Iff.rfl
      · have e : fl1 n a μ (fls n a μ r) (n 2) = fls n a μ (r + 1) := rfl
        rw [r19_16 (nr := 8) hc (by omega) (by rw [e2]; omega), e2, if_pos (by omega), e, r19_61 (nr := 8) (by omega) (by omega)]
        by_cases q : fls n a μ (r + 1) = fls n a μ r
        · rw [if_neg (by simp [q]), r19_67 (nr := 8), ← fls_f q (9 - r), show r + (9 - r) = 9 by omega]
        · rw [if_pos (by omega), r19_69 (nr := 8)]
          exact ih (r + 1) (by omega) _ _
  rw [en19, r19_0 (nr := 8)]
  exact main 9 0 (by omega) PU PU
def plc (n : Nat → Nat) (a μ : PH) (m t : Nat) : Int := (μ 1 m + (t : Int) * a 1 m).tmod (n 0)
def meeT (n : Nat → Nat) (a μ : PH) (t : Nat) : Bool := al (fun i => decide (plc n a μ (i + 1) t = plc n a μ 0 t)) (n 1 - 1)
theorem cnt_al {p : Nat → Bool} : ∀ {k : Nat}, sm (fun i => if p i = true then 1 else 0) k ≤ k ∧ (sm (fun i => if p i = true then 1 else 0) k = k ↔ al p k = true)
  | 0 => by simp [sm, al]
  | k + 1 => by
    obtain ⟨h1, h2⟩ := cnt_al (p := p) (k := k)
    rw [sm, al]
    by_cases q : p k = true
    · rw [if_pos q, q, Bool.and_true]; exact ⟨by omega, ⟨fun z => h2.mp (by omega), fun z => by have := h2.mpr z; omega⟩⟩
    · rw [if_neg q]
      have q' : p k = false := by simpa using q
      rw [q', Bool.and_false]
      exact ⟨by omega, ⟨fun z => by omega, fun z => absurd z (by decide)⟩⟩
theorem c21 (hc : isCh c) (hC : isC M c n a F) (hwC : wC n a F) (hμ : mo M 3 = μ) (hw : wM n μ) : pm_Call (d + 2) 21 [vA c, vA 3] (GF X, M, PTF v) K ↔ K (vI (if n 1 = 0 then -1 else fi (meeT n a μ) (n 0) 0)) (GF X, M, PTF v) := by
  have e0 : M c 0 = (n 0 : Int) := hC.1 0 (by omega)
  have e1 : M c 1 = (n 1 : Int) := hC.1 1 (by omega)
  obtain ⟨hn0, hn1, hn2, -, -, hn5, -, hn00⟩ := hwC.1
  rw [en21, r21_0]
  by_cases z : n 1 = 0
  · rw [r21_2 hc (by omega) (by rw [e0]; omega), e0, if_pos z]
    by_cases q : (n 0 : Int) ≤ 0
    · rw [if_pos q, r21_74]
    · rw [if_neg q, r21_10 hc (by rw [e1]; omega), e1, if_pos (by omega), r21_74]
  · rw [if_neg z]
    have pc : ∀ m t : Nat, m < n 1 → t < n 0 → ∀ K' : PV → PS → Prop, (pm_Call (d + 1) 20 [vA c, vA 3, vI (m : Int), vI (t : Int)] (GF X, M, PTF v) K' ↔ K' (vI (plc n a μ m t)) (GF X, M, PTF v)) := by
      intro m t hm ht K'
      have g1 := hw.2.1 m hm
      have g2 := hwC.2.1 m hm
      have ea : M (c + 2) m = a 1 m := hC.2.1 m hm
      have eb : M (3 + 1) m = μ 1 m := (mo_1 (M := M) (b := 3) (by omega)).trans (by rw [hμ])
      have hb : 0 ≤ (t : Int) * a 1 m ∧ (t : Int) * a 1 m ≤ 24 * 23 := ⟨Int.mul_nonneg (by omega) (by omega), Int.mul_le_mul (by omega) (by omega) (by omega) (by omega)⟩
      rw [c20 (n := n) hc mo3 (by omega) e0 hn0 (by rw [ea, eb]; omega), ea, eb, if_neg (by omega)]
      exact Iff.rfl
    have pb : ∀ m t : Nat, m < n 1 → t < n 0 → inR (plc n a μ m t) := by
      intro m t hm ht
      have g1 := hw.2.1 m hm
      have g2 := hwC.2.1 m hm
      have := tm_b (x := μ 1 m + (t : Int) * a 1 m) (y := n 0) (by have : 0 ≤ (t : Int) * a 1 m := Int.mul_nonneg (by omega) (by omega); omega) (by omega)
      unfold plc; omega
    have main : ∀ k t, t + k = n 0 → ∀ l3 l4 : PV, (pm_Run (d + 1) 21 2 [vA c, vA 3, vI (t : Int), l3, l4] [] (GF X, M, PTF v) K ↔ K (vI (fi (meeT n a μ) k t)) (GF X, M, PTF v)) := by
      intro k
      induction k with
      | zero =>
        intro t ht l3 l4
        rw [r21_2 hc (by omega) (by rw [e0]; omega), e0, if_pos (by omega), r21_74]; rfl
      | succ k ih =>
        intro t ht l3 l4
        rw [r21_2 hc (by omega) (by rw [e0]; omega), e0, if_neg (by omega), r21_10 hc (by rw [e1]; omega), e1, if_neg (by omega), r21_17]
        refine (loopN (fun i => pm_Run (d + 1) 21 22 [vA c, vA 3, vI (t : Int), vI (1 + sm (fun i => if decide (plc n a μ (i + 1) t = plc n a μ 0 t) = true then 1 else 0) i), vI ((i + 1 : Nat) : Int)] [] (GF X, M, PTF v) K) (n 1 - 1) (fun i hi => ?_)).trans ?_
        · rw [r21_22 hc (by omega) (by rw [e1]; omega), e1, if_neg (by omega), r21_31 hc, pc (i + 1) t (by omega) (by omega), push_i, r21_39 hc]
          refine (pc 0 t (by omega) (by omega) _).trans ?_
          rw [push_i, r21_46 (pb _ _ (by omega) (by omega)) (pb _ _ (by omega) (by omega)), sm]
          by_cases q : plc n a μ (i + 1) t = plc n a μ 0 t
          · rw [if_neg (by simp [q]), r21_49, r21_52, if_pos (by simp [q]), Int.add_assoc]; exact Iff.rfl
          · rw [if_pos q, r21_52, if_neg (by simp [q]), Int.add_zero]; exact Iff.rfl
        · have hcn := cnt_al (p := fun i => decide (plc n a μ (i + 1) t = plc n a μ 0 t)) (k := n 1 - 1)
          have hs0 := sm_b (f := fun i => if decide (plc n a μ (i + 1) t = plc n a μ 0 t) = true then 1 else 0) (lo := 0) (hi := 1) (n := n 1 - 1) (fun i hi => by split <;> omega)
          rw [r21_22 hc (by omega) (by rw [e1]; omega), e1, if_pos (by omega), r21_58 hc (by omega) (by rw [e1]; omega), e1, fi]
          by_cases q : meeT n a μ t = true
          · have := hcn.2.mpr q
            rw [if_neg (by omega), r21_66, if_pos q]
          · have : ¬ sm (fun i => if decide (plc n a μ (i + 1) t = plc n a μ 0 t) = true then 1 else 0) (n 1 - 1) = ((n 1 - 1 : Nat) : Int) := fun w => q (hcn.2.mp w)
            rw [if_pos (by omega), r21_68, if_neg q]
            exact ih (t + 1) (by omega) _ _
    exact main (n 0) 0 (by omega) PU PU
end CCH
