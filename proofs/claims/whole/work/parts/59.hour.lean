/-! An hour goes by, in the class's cells. -/
def passH (n : Nat → Nat) (a : PH) (F : Nat → List Int) (H : Nat → Int) (μ : PH) : PH := ups (mov n a (payA n (ernA n a F H μ))) 0 0 (min 9999 (mov n a (payA n (ernA n a F H μ)) 0 0 + 1))
def frB (b c : Nat) (M M' : PH) : Prop := ∀ q, q ≠ c + 20 → q ≠ c + 21 → (q < b ∨ b + 5 < q) → M' q = M q
/-- the first of k from i that is so, or -1 -/
def fi (p : Nat → Bool) : Nat → Nat → Int
  | 0, _ => -1
  | k + 1, i => if p i then (i : Int) else fi p k (i + 1)
section CHO
variable {d b c t : Nat} {X : Nat × (Nat → Int)} {v : Nat → Int} {M M' : PH} {K : PV → PS → Prop} {n : Nat → Nat} {a μ : PH} {F : Nat → List Int}
theorem frB_C (hb : isMo b) (hc : isCh c) (h : frB b c M M') (hC : isC M c n a F) : isC M' c n a F := by
  have := mo_ch hb hc
  exact isC_fr (fun i hi => h _ (by omega) (by omega) (by omega)) hC
theorem frB_t {M2 : PH} (h : frB b c M M') (h2 : frB b c M' M2) : frB b c M M2 := fun q h1 h3 h4 => (h2 q h1 h3 h4).trans (h q h1 h3 h4)
theorem frB_r : frB b c M M := fun _ _ _ _ => rfl
theorem frB_h (hb : isMo b) (hc : isCh c) (ht : isTi t) (h : frB b c M M') : M' (t + 2) = M (t + 2) := by
  have h1 := mo_ti hb ht
  have h2 := ct_d hc ht
  exact h _ (by omega) (by omega) (by omega)
theorem c122 (hc : isCh c) (ht : isTi t) (hb : isMo b) (hC : isC M c n a F) (hwC : wC n a F) (hμ : mo M b = μ) (hw : wM n μ) {H : Nat → Int} (hHb : ∀ p, p < n 0 → -100000 ≤ H p ∧ H p ≤ 100000) (hH : (10015 : Int) ∈ F 1 → ∀ p, p < n 0 → M (t + 2) p = H p) (hK : ∀ M' : PH, frB b c M M' → mo M' b = passH n a F H μ → K PU (GF X, M', PTF v)) : pm_Call (d + 4) 122 [vA t, vA c, vA b] (GF X, M, PTF v) K := by
  obtain ⟨hn0, hn1, hn2, -, -, hn5, -, hn00⟩ := hwC.1
  have hbc := mo_cv hb hc
  have e1 : M c 1 = (n 1 : Int) := hC.1 1 (by omega)
  have e2 : M c 2 = (n 2 : Int) := hC.1 2 (by omega)
  have hcell : ∀ M' : PH, frB b c M M' → M' c 1 = (n 1 : Int) ∧ M' c 2 = (n 2 : Int) ∧ M' c 0 = (n 0 : Int) := fun M' h => by
    have := frB_C hb hc h hC
    exact ⟨this.1 1 (by omega), this.1 2 (by omega), this.1 0 (by omega)⟩
  have T3 : ∀ M1 : PH, frB b c M M1 → ∀ ν, mo M1 b = ν → wM n ν → ups (mov n a ν) 0 0 (min 9999 (mov n a ν 0 0 + 1)) = passH n a F H μ → ∀ (l3 : Int) (l4 : PV), pm_Run (d + 3) 122 79 [vA t, vA c, vA b, vI l3, l4] [] (GF X, M1, PTF v) K := by
    intro M1 hf ν hν hwν he l3 l4
    rw [r122_79]
    refine loopI (n 1) (fun j (M' : PH) => frB b c M M' ∧ mo M' b = itr (fun m μ => ups μ 1 m ((μ 1 m + a 1 m).tmod (n 0))) j ν ∧ wM n (itr (fun m μ => ups μ 1 m ((μ 1 m + a 1 m).tmod (n 0))) j ν)) (fun j M' => pm_Run (d + 3) 122 81 [vA t, vA c, vA b, vI (j : Int), l4] [] (GF X, M', PTF v) K) (fun j M' hj hI ih => ?_) (fun M' hI => ?_) M1 ⟨hf, hν, hwν⟩
    · obtain ⟨i1, i2, i3⟩ := hI
      obtain ⟨q1, q2, q0⟩ := hcell M' i1
      have g1 := i3.2.1 j hj
      have g2 := hwC.2.1 j hj
      have hC' := frB_C hb hc i1 hC
      have ea : M' (c + 2) j = a 1 j := hC'.2.1 j hj
      have eb : M' (b + 1) j = itr (fun m μ => ups μ 1 m ((μ 1 m + a 1 m).tmod (n 0))) j ν 1 j := (mo_1 (by omega)).trans (by rw [i2])
      rw [r122_81 hc (by omega) (by rw [q1]; omega), q1, if_neg (by omega), r122_89 hb hc, c20 (n := n) hc hb (by omega) q0 hn0 (by rw [ea, eb]; omega), push_i, r122_101 hb (by omega) (by omega), r122_102, if_neg (by omega), Int.toNat_natCast, ea, eb, Int.one_mul]
      refine ih _ ⟨frB_t i1 (fun q g1 g2 g3 => sa_n (by omega)), ?_, ?_⟩
      · rw [mo_up (show j < len 1 by show j < 3; omega), i2]; rfl
      · have := tm_b (x := itr (fun m μ => ups μ 1 m ((μ 1 m + a 1 m).tmod (n 0))) j ν 1 j + a 1 j) (y := n 0) (by omega) (by omega)
        exact wM_1 i3 hj this
    · obtain ⟨i1, i2, i3⟩ := hI
      obtain ⟨q1, q2, q0⟩ := hcell M' i1
      have e0 : M' b 0 = mov n a ν 0 0 := by
        have : mo M' b 0 0 = mov n a ν 0 0 := by rw [i2]; rfl
        exact this
      have g0 : 0 ≤ mov n a ν 0 0 ∧ mov n a ν 0 0 ≤ 9999 := i3.1
      rw [r122_81 hc (by omega) (by rw [q1]; omega), q1, if_pos (by omega), r122_108 hb (by rw [e0]; omega), e0]
      refine hK _ (frB_t i1 (fun q g1 g2 g3 => sa_n (by omega))) ?_
      have := mo_up (M := M') (b := b) (i := 0) (k := 0) (x := min 9999 (mov n a ν 0 0 + 1)) (show 0 < len 0 by decide)
      rw [Nat.add_zero] at this
      rw [this, i2, ← he]; rfl
  have T2 : ∀ M1 : PH, frB b c M M1 → ∀ ν, mo M1 b = ν → wM n ν → ups (mov n a (payA n ν)) 0 0 (min 9999 (mov n a (payA n ν) 0 0 + 1)) = passH n a F H μ → ∀ l3 : PV, pm_Run (d + 3) 122 34 [vA t, vA c, vA b, l3, PU] [] (GF X, M1, PTF v) K := by
    intro M1 hf ν hν hwν he l3
    rw [r122_34]
    refine loopI (n 2) (fun j (M' : PH) => frB b c M M' ∧ mo M' b = itr (fun h μ => itr (fun m μ => pay μ h m) (n 1) μ) j ν ∧ wM n (itr (fun h μ => itr (fun m μ => pay μ h m) (n 1) μ) j ν)) (fun j M' => ∀ l4 : PV, pm_Run (d + 3) 122 36 [vA t, vA c, vA b, vI (j : Int), l4] [] (GF X, M', PTF v) K) (fun j M' hj hI ih l4 => ?_) (fun M' hI l4 => ?_) M1 ⟨hf, hν, hwν⟩ PU
    · obtain ⟨i1, i2, i3⟩ := hI
      obtain ⟨q1, q2, q0⟩ := hcell M' i1
      rw [r122_36 hc (by omega) (by rw [q2]; omega), q2, if_neg (by omega), r122_44]
      obtain ⟨ρ, hρ⟩ : ∃ ρ, ρ = itr (fun h μ => itr (fun m μ => pay μ h m) (n 1) μ) j ν := ⟨_, rfl⟩
      rw [← hρ] at i2 i3
      refine loopI (n 1) (fun i (M' : PH) => frB b c M M' ∧ mo M' b = itr (fun m μ => pay μ j m) i ρ ∧ wM n (itr (fun m μ => pay μ j m) i ρ)) (fun i M' => pm_Run (d + 3) 122 47 [vA t, vA c, vA b, vI (j : Int), vI (i : Int)] [] (GF X, M', PTF v) K) (fun i M2 hi hI2 ih2 => ?_) (fun M2 hI2 => ?_) M' ⟨i1, i2, i3⟩
      · obtain ⟨k1, k2, k3⟩ := hI2
        obtain ⟨q1', q2', q0'⟩ := hcell M2 k1
        rw [r122_47 hc (by omega) (by rw [q1']; omega), q1', if_neg (by omega), r122_56, c55, push_i, r122_64]
        refine c124 hb k2 k3 (by omega) (by omega) (fun M3 g1 g2 => ?_)
        rw [push_u, r122_67]
        exact ih2 M3 ⟨frB_t k1 (fun q z1 z2 z3 => g1 q (by omega) (by omega)), g2, wM_pay k3 hj hi hn2 hn1⟩
      · obtain ⟨k1, k2, k3⟩ := hI2
        obtain ⟨q1', q2', q0'⟩ := hcell M2 k1
        rw [r122_47 hc (by omega) (by rw [q1']; omega), q1', if_pos (by omega), r122_73]
        exact ih M2 ⟨k1, by rw [k2, hρ]; rfl, by rw [hρ] at k3; exact k3⟩ _
    · obtain ⟨i1, i2, i3⟩ := hI
      obtain ⟨q1, q2, q0⟩ := hcell M' i1
      rw [r122_36 hc (by omega) (by rw [q2]; omega), q2, if_pos (by omega)]
      exact T3 M' i1 _ i2 i3 he _ _
  rw [en122, r122_0 hc]
  refine (c44 (w := 1) (ch_fo hc) (by omega) (hC.2.2.2.2.1 1 (by omega))).mpr ?_
  rw [push_i]
  by_cases q : F 1 = []
  · rw [if_pos q, r122_8 (by omega), if_pos rfl]
    exact T2 M frB_r μ hμ hw (by rw [passH, ernA, if_pos q]) PU
  · rw [if_neg q, r122_8 (by omega), if_neg (by omega), r122_11]
    refine loopI (n 2) (fun j (M' : PH) => frB b c M M' ∧ mo M' b = itr (fun h μ => ern a F H μ h) j μ ∧ wM n (itr (fun h μ => ern a F H μ h) j μ)) (fun j M' => pm_Run (d + 3) 122 13 [vA t, vA c, vA b, vI (j : Int), PU] [] (GF X, M', PTF v) K) (fun j M' hj hI ih => ?_) (fun M' hI => ?_) M ⟨frB_r, hμ, hw⟩
    · obtain ⟨i1, i2, i3⟩ := hI
      obtain ⟨q1, q2, q0⟩ := hcell M' i1
      rw [r122_13 hc (by omega) (by rw [q2]; omega), q2, if_neg (by omega), r122_21 ht]
      refine c123 hc ht hb (frB_C hb hc i1 hC) hwC i2 i3 hj hHb (fun hm p hp => by rw [frB_h hb hc ht i1]; exact hH hm p hp) (fun M2 g1 g2 => ?_)
      rw [push_u, r122_28]
      exact ih M2 ⟨frB_t i1 (fun q z1 z2 z3 => g1 q z1 z2 (by omega)), g2, wM_ern i3 hj hn2⟩
    · obtain ⟨i1, i2, i3⟩ := hI
      obtain ⟨q1, q2, q0⟩ := hcell M' i1
      rw [r122_13 hc (by omega) (by rw [q2]; omega), q2, if_pos (by omega)]
      exact T2 M' i1 _ i2 i3 (by rw [passH, ernA, if_neg q]) _
theorem hts_b {p : Nat} (hwC : wC n a F) : -100000 ≤ hts n F μ p ∧ hts n F μ p ≤ 100000 := by
  obtain ⟨hn0, hn1, hn2, -, -, hn5, -, hn00⟩ := hwC.1
  have h1 := tot_b (n := n) (pp := pls n F μ) hn0 hn1 (fun m p _ _ => pl_b)
  have h2 := sm_b (f := fun m => pls n F μ m p) (lo := -99) (hi := 99) (n := n 1) (fun m _ => pl_b)
  have h3 := fd_le (a := sm (fun m => sm (pls n F μ m) (n 0)) (n 1)) (b := n 0) (n := 10000) (by omega)
  unfold hts hg
  split <;> omega
theorem c121 (hc : isCh c) (ht : isTi t) (hb : isMo b) (hC : isC M c n a F) (hwC : wC n a F) (hμ : mo M b = μ) (hw : wM n μ) (hK : ∀ M' : PH, (∀ q, q ≠ c + 20 → q ≠ c + 21 → q ≠ t + 1 → q ≠ t + 2 → (q < b ∨ b + 5 < q) → M' q = M q) → mo M' b = pass n a F μ → K PU (GF X, M', PTF v)) : pm_Call (d + 5) 121 [vA t, vA c, vA b] (GF X, M, PTF v) K := by
  obtain ⟨U, hU, hU1, hU2⟩ := hC.2.2.2.2.2 1 (by omega)
  have q15 := hU2 15 (by omega)
  rw [en121, r121_0 hc]
  refine (c45 (w := 1) (u := 15) (ch_fo hc) (by omega) (by omega) hU hU1).mpr ?_
  rw [push_i]
  by_cases z : U.testBit 15 = true
  · rw [if_pos z, r121_10 (by omega), if_neg (by omega), r121_13 ht]
    refine c113 hc ht hb hC hwC hμ hw (fun M1 h1 _ h3 => ?_)
    rw [push_u, r121_19 ht]
    refine c122 hc ht hb (frC_C hc ht h1 hC) hwC ((frC_m hb hc ht h1).trans hμ) hw (H := hts n F μ) (fun p _ => hts_b hwC) (fun _ => h3) (fun M2 g1 g2 => ?_)
    rw [push_u, r121_25]
    exact hK M2 (fun q z1 z2 z3 z4 z5 => by rw [g1 q z1 z2 z5, h1 q z1 z2 z3 z4]) g2
  · have z15 : (10015 : Int) ∉ F 1 := fun w => z (q15.mpr w)
    rw [if_neg z, r121_10 (by omega), if_pos rfl, r121_19 ht]
    refine c122 hc ht hb hC hwC hμ hw (H := hts n F μ) (fun p _ => hts_b hwC) (fun w => absurd w z15) (fun M2 g1 g2 => ?_)
    rw [push_u, r121_25]
    exact hK M2 (fun q z1 z2 z3 z4 z5 => g1 q z1 z2 z5) g2
/-- the first clause that a harbor breaks, or -1 -/
def brk (n : Nat → Nat) (a : PH) (F : Nat → List Int) (μ : PH) (h : Nat) : Int := fi (fun i => decide (ev (envH a μ h (hts n F μ (a 2 h).toNat)) (F (2 + i)) = 0)) (n 4) 0
theorem c120 (hc : isCh c) (ht : isTi t) (hb : isMo b) (hC : isC M c n a F) (hwC : wC n a F) (hμ : mo M b = μ) (hw : wM n μ) {h : Nat} (hh : h < n 2) (hH : ∀ p, p < n 0 → M (t + 2) p = hts n F μ p) (hK : ∀ M' : PH, (∀ q, q ≠ c + 20 → q ≠ c + 21 → M' q = M q) → K (vI (brk n a F μ h)) (GF X, M', PTF v)) : pm_Call (d + 3) 120 [vA t, vA c, vA b, vI (h : Int)] (GF X, M, PTF v) K := by
  obtain ⟨hn0, hn1, hn2, hn3, hn4, hn5, -, hn00⟩ := hwC.1
  have hct := ct_d hc ht
  have e4 : M c 4 = (n 4 : Int) := hC.1 4 (by omega)
  have g1 := hwC.2.2.1 h hh
  have ea : M (c + 4) ((h : Int)).toNat = a 2 h := by rw [Int.toNat_natCast]; exact (hC.2.2.1 h hh).1
  rw [en120, r120_0 hc (by rw [e4]; omega), e4]
  by_cases q : n 4 = 0
  · rw [if_neg (by omega), r120_7]
    have := hK M (fun _ _ _ => rfl)
    rw [brk, q] at this
    exact this
  · rw [if_pos (by omega), r120_9 hc ht (by omega) (by omega) (by rw [ea]; omega) (by rw [ea]; omega), ea, c119 hc hb hC hμ hh hn2, push_u, r120_26, hH _ (by omega)]
    have main : ∀ k j, j + k = n 4 → ∀ M' : PH, (∀ q, q ≠ c + 20 → q ≠ c + 21 → M' q = M q) → (∀ u, isVw u = true → M' (c + 20) u = envH a μ h (hts n F μ (a 2 h).toNat) u) → (∀ M' : PH, (∀ q, q ≠ c + 20 → q ≠ c + 21 → M' q = M q) → K (vI (fi (fun i => decide (ev (envH a μ h (hts n F μ (a 2 h).toNat)) (F (2 + i)) = 0)) k j)) (GF X, M', PTF v)) → pm_Run (d + 2) 120 29 [vA t, vA c, vA b, vI (h : Int), vI (j : Int)] [] (GF X, M', PTF v) K := by
      intro k
      induction k with
      | zero =>
        intro j hj M' hf _ hk
        have e4' : M' c 4 = (n 4 : Int) := by rw [hf c (by omega) (by omega), e4]
        rw [r120_29 hc (by omega) (by rw [e4']; omega), e4', if_pos (by omega), r120_61]
        exact hk M' hf
      | succ k ih =>
        intro j hj M' hf hE hk
        have e4' : M' c 4 = (n 4 : Int) := by rw [hf c (by omega) (by omega), e4]
        have hC' : isC M' c n a F := isC_fr (fun i hi => hf _ (by omega) (by omega)) hC
        rw [r120_29 hc (by omega) (by rw [e4']; omega), e4', if_neg (by omega), r120_38 hc]
        refine (show (2 + (j : Int)) = ((2 + j : Nat) : Int) by omega) ▸ c46h (w := 2 + j) hc hC' hwC hw hh (by omega) (fun _ => hts_b hwC) hE (fun g => ?_)
        obtain ⟨ts, hts'⟩ := hwC.2.2.2.2 (2 + j) (by omega)
        have hevb := ev_r (e := envH a μ h (hts n F μ (a 2 h).toNat)) (fun u _ _ => envH_b hw hh hn2 hwC u (fun _ => hts_b hwC)) hts'
        rw [push_i, r120_49 (by omega)]
        have hf' : ∀ q, q ≠ c + 20 → q ≠ c + 21 → (pm_sa M' (c + 21) g) q = M q := fun q z1 z2 => by rw [sa_n z2, hf q z1 z2]
        by_cases z : ev (envH a μ h (hts n F μ (a 2 h).toNat)) (F (2 + j)) = 0
        · rw [if_neg (by rw [z]; simp), r120_52]
          have := hk _ hf'
          rw [fi, if_pos (by simp [z])] at this
          exact this
        · rw [if_pos z, r120_55]
          refine ih (j + 1) (by omega) _ hf' (fun u hu => by rw [sa_n (by omega)]; exact hE u hu) (fun M2 h2 => ?_)
          have := hk M2 h2
          rw [fi, if_neg (by simp [z])] at this
          exact this
    exact main (n 4) 0 (by omega) _ (fun q z1 z2 => sa_n z1) (fun u hu => by rw [sa_s]; exact thv_e hu) (fun M' h' => hK M' h')
end CHO
