/-! Bidding: heights by trials, what is wished, where it rests. -/
/-- the slots that were reckoned in this turn -/
def CA (M : PH) (n : Nat → Nat) (F : Nat → List Int) (μ : PH) (h p : Nat) : Prop := (∀ s, s < 693 → 0 ≤ M 80 s ∧ M 80 s ≤ M 74 10) ∧ ∀ m b o, m < n 1 → b ≤ 10 → o ≤ 20 → M 80 ((m * 11 + b) * 21 + o) = M 74 10 → M 78 ((m * 11 + b) * 21 + o) = pl n F μ m (bas μ h m + (b : Int)) (rvl μ h m (o : Int)) p ∧ M 79 ((m * 11 + b) * 21 + o) = sm (pl n F μ m (bas μ h m + (b : Int)) (rvl μ h m (o : Int))) (n 0)
def frD (c : Nat) (M M' : PH) : Prop := ∀ q, q ≠ c + 20 → q ≠ c + 21 → q ≠ 76 → (q < 78 ∨ 80 < q) → M' q = M q
theorem ti75 : isTi 75 := by simp [isTi]
theorem mo85 : isMo 85 := by simp [isMo, MOL]
section CB2
variable {d c b : Nat} {X : Nat × (Nat → Int)} {v : Nat → Int} {M M' : PH} {K : PV → PS → Prop} {n : Nat → Nat} {a μ : PH} {F : Nat → List Int}
theorem frD_r : frD c M M := fun _ _ _ _ _ => rfl
theorem frD_t {M2 : PH} (h : frD c M M') (h2 : frD c M' M2) : frD c M M2 := fun q h1 h3 h4 h5 => (h2 q h1 h3 h4 h5).trans (h q h1 h3 h4 h5)
theorem frD_C (hc : isCh c) (h : frD c M M') (hC : isC M c n a F) : isC M' c n a F := by
  have := ch60 hc
  exact isC_fr (fun i hi => h _ (by omega) (by omega) (by omega) (by omega)) hC
theorem frD_m (hc : isCh c) (hb : b = 3 ∨ b = 85) (h : frD c M M') : mo M' b = mo M b := by
  have : c = 9 ∨ c = 35 := hc
  exact mo_fr (fun i hi => h _ (by omega) (by omega) (by omega) (by omega))
theorem bas_b (hw : wM n μ) {h m : Nat} (hh : h < 8) (hm : m < 3) : 0 ≤ bas μ h m ∧ bas μ h m ≤ 160 := by
  have h1 := bt_b hw hm
  have h2 := hw.2.2.2.2.1 (h * 3 + m) (by omega)
  have h3 : μ 4 (h * 3 + m) ≤ bt μ m := by
    have e : sm (fun i => if i = h then 0 else μ 4 (i * 3 + m)) 8 = bt μ m - μ 4 (h * 3 + m) + 0 := sm_1 (f := fun i => μ 4 (i * 3 + m)) hh
    have g := sm_b (f := fun i => if i = h then 0 else μ 4 (i * 3 + m)) (lo := 0) (hi := 20) (n := 8) (fun i hi => by
      have := hw.2.2.2.2.1 (i * 3 + m) (by omega)
      by_cases q : i = h
      · rw [if_pos q]; omega
      · rw [if_neg q]; omega)
    omega
  unfold bas; omega
set_option maxHeartbeats 4000000 in
theorem c11 (hc : isCh c) (hv : v 3 = (c : Int)) (hb : b = 3 ∨ b = 85) (hC : isC M c n a F) (hwC : wC n a F) (hμ : mo M b = μ) (hw : wM n μ) {h : Nat} (hh : h < n 2) (h9 : M 74 9 = (h : Int)) (hT : 0 ≤ M 74 10 ∧ M 74 10 < 1000000000) {tr : Nat → Int} (htr : ∀ m, m < 3 → M 82 m = tr m ∧ 0 ≤ tr m ∧ tr m ≤ 10) (hbs : ∀ m, m < 3 → M 81 m = bas μ h m) (hCA : CA M n F μ h (a 2 h).toNat)
    (hK : ∀ M' : PH, frD c M M' → CA M' n F μ h (a 2 h).toNat → K (vI (hts n F (setb μ h tr) (a 2 h).toNat)) (GF X, M', PTF v)) : pm_Call (d + 4) 11 [vA 74, vA b] (GF X, M, PTF v) K := by
  obtain ⟨hn0, hn1, hn2, -, -, hn5, -, hn00⟩ := hwC.1
  have hmo : isMo b := by rcases hb with rfl | rfl; exact mo3; exact mo85
  have gp := hwC.2.2.1 h hh
  obtain ⟨p, hp⟩ := Int.eq_ofNat_of_zero_le gp.1
  have hcc := ch60 hc
  rw [hp, Int.toNat_natCast] at hCA hK
  obtain ⟨U, hU, hU1, hU2⟩ := hC.2.2.2.2.2 0 (by omega)
  have q20 := hU2 20 (by omega)
  obtain ⟨T0, b0⟩ : ∃ T0 : Nat, tr 0 = (T0 : Int) := Int.eq_ofNat_of_zero_le (htr 0 (by omega)).2.1
  obtain ⟨T1, b1⟩ : ∃ T0 : Nat, tr 1 = (T0 : Int) := Int.eq_ofNat_of_zero_le (htr 1 (by omega)).2.1
  obtain ⟨T2, b2⟩ : ∃ T0 : Nat, tr 2 = (T0 : Int) := Int.eq_ofNat_of_zero_le (htr 2 (by omega)).2.1
  have t0 := (htr 0 (by omega))
  have t1 := (htr 1 (by omega))
  have t2 := (htr 2 (by omega))
  have e4 : M (c + 4) (M 74 9).toNat = (p : Int) := by rw [h9, Int.toNat_natCast, (hC.2.2.1 h hh).1, hp]
  rw [en11, r11_0, c10, push_i, r11_4 hc hv (by omega) (by omega), e4, t0.1, t1.1, t2.1]
  refine (c45 (w := 0) (u := 20) (ch_fo hc) (by omega) (by omega) hU hU1).mpr ?_
  rw [push_i, r11_37]
  refine loopI (n 1) (fun j (M' : PH) => frD c M M' ∧ CA M' n F μ h p) (fun j M' => ∀ l8 l9 l10 : PV, pm_Run (d + 3) 11 42 [vA 74, vA b, vI (tr 0 + tr 1 + tr 2), vI (p : Int), vI (sm (fun m => pl n F μ m (bas μ h m + tr m) (rvl μ h m (tr 0 + tr 1 + tr 2 - tr m)) p) j), vI (sm (fun m => sm (pl n F μ m (bas μ h m + tr m) (rvl μ h m (tr 0 + tr 1 + tr 2 - tr m))) (n 0)) j), vI (if U.testBit 20 = true then 1 else 0), vI (j : Int), l8, l9, l10] [] (GF X, M', PTF v) K) (fun j M' hj hI ih l8 l9 l10 => ?_) (fun M' hI l8 l9 l10 => ?_) M ⟨frD_r, hCA⟩ PU PU PU
  · obtain ⟨i1, i2⟩ := hI
    have hC' := frD_C hc i1 hC
    have hμ' := (frD_m hc hb i1).trans hμ
    have e1 : M' c 1 = (n 1 : Int) := hC'.1 1 (by omega)
    have tj := htr j (by omega)
    obtain ⟨J, bj⟩ : ∃ T0 : Nat, tr j = (T0 : Int) := Int.eq_ofNat_of_zero_le tj.2.1
    have e82 : M' 82 j = tr j := by rw [i1 82 (by omega) (by omega) (by omega) (by omega)]; exact tj.1
    have e74 : M' 74 = M 74 := i1 74 (by omega) (by omega) (by omega) (by omega)
    have e81 : M' 81 = M 81 := i1 81 (by omega) (by omega) (by omega) (by omega)
    have hjs : tr j = tr 0 ∨ tr j = tr 1 ∨ tr j = tr 2 := by
      have : j = 0 ∨ j = 1 ∨ j = 2 := by omega
      rcases this with rfl | rfl | rfl <;> simp
    have B : ∀ (M2 : PH) (s : Nat) (x8 : Int) (x10 : PV), frD c M M2 → CA M2 n F μ h p → s < 693 → M2 78 s = pl n F μ j (bas μ h j + tr j) (rvl μ h j (tr 0 + tr 1 + tr 2 - tr j)) p → M2 79 s = sm (pl n F μ j (bas μ h j + tr j) (rvl μ h j (tr 0 + tr 1 + tr 2 - tr j))) (n 0) → pm_Run (d + 3) 11 226 [vA 74, vA b, vI (tr 0 + tr 1 + tr 2), vI (p : Int), vI (sm (fun m => pl n F μ m (bas μ h m + tr m) (rvl μ h m (tr 0 + tr 1 + tr 2 - tr m)) p) j), vI (sm (fun m => sm (pl n F μ m (bas μ h m + tr m) (rvl μ h m (tr 0 + tr 1 + tr 2 - tr m))) (n 0)) j), vI (if U.testBit 20 = true then 1 else 0), vI (j : Int), vI x8, vI (s : Int), x10] [] (GF X, M2, PTF v) K := by
      intro M2 s x8 x10 g1 g2 g3 g4 g5
      rw [r11_226 (by omega) (by omega), Int.toNat_natCast, g4, g5]
      exact ih M2 ⟨g1, g2⟩ _ _ _
    have A : ∀ o : Nat, o ≤ 20 → ((o : Int) = tr 0 + tr 1 + tr 2 - tr j ∨ (10020 : Int) ∉ F 0) → pm_Run (d + 3) 11 72 [vA 74, vA b, vI (tr 0 + tr 1 + tr 2), vI (p : Int), vI (sm (fun m => pl n F μ m (bas μ h m + tr m) (rvl μ h m (tr 0 + tr 1 + tr 2 - tr m)) p) j), vI (sm (fun m => sm (pl n F μ m (bas μ h m + tr m) (rvl μ h m (tr 0 + tr 1 + tr 2 - tr m))) (n 0)) j), vI (if U.testBit 20 = true then 1 else 0), vI (j : Int), l8, l9, l10] [vI (o : Int)] (GF X, M', PTF v) K := by
      intro o ho hq
      have es : (((j : Int) * 11 + M' 82 ((j : Int)).toNat) * 21 + (o : Int)) = (((j * 11 + J) * 21 + o : Nat) : Int) := by rw [Int.toNat_natCast, e82, bj]; omega
      have hs : (j * 11 + J) * 21 + o < 693 := by omega
      have hst := i2.1 _ hs
      rw [e74] at hst
      have hpl : ∀ q, pl n F μ j (bas μ h j + (J : Int)) (rvl μ h j (o : Int)) q = pl n F μ j (bas μ h j + tr j) (rvl μ h j (tr 0 + tr 1 + tr 2 - tr j)) q := fun q => by
        rw [bj]
        rcases hq with e | e
        · rw [e, bj]
        · exact pl_r e
      rw [r11_72 (by omega) (by omega) (by rw [es]; omega) (by rw [es]; omega) (by rw [es, Int.toNat_natCast]; omega) (by rw [e74]; omega), es, Int.toNat_natCast, e74]
      by_cases q : M' 80 ((j * 11 + J) * 21 + o) = M 74 10
      · rw [if_pos q]
        have := i2.2 j J o hj (by omega) ho (by rw [e74]; exact q)
        exact B M' _ _ _ i1 i2 hs (this.1.trans (hpl p)) (this.2.trans (sm_c (fun i _ => hpl i)))
      · have k0 := bas_b hw (h := h) (m := 0) (by omega) (by omega)
        have k1 := bas_b hw (h := h) (m := 1) (by omega) (by omega)
        have k2 := bas_b hw (h := h) (m := 2) (by omega) (by omega)
        have kj := bas_b hw (h := h) (m := j) (by omega) (by omega)
        have hjb : bas μ h j = bas μ h 0 ∨ bas μ h j = bas μ h 1 ∨ bas μ h j = bas μ h 2 := by
          have : j = 0 ∨ j = 1 ∨ j = 2 := by omega
          rcases this with rfl | rfl | rfl <;> simp
        have erv : bas μ h 0 + bas μ h 1 + bas μ h 2 - bas μ h j + (o : Int) = rvl μ h j (o : Int) := rfl
        have hrb : 0 ≤ rvl μ h j (o : Int) ∧ rvl μ h j (o : Int) ≤ 1000 := by rw [← erv]; omega
        rw [if_neg q, r11_109 hc hv (by omega) (by omega), Int.toNat_natCast, e81, hbs 0 (by omega), hbs 1 (by omega), hbs 2 (by omega), hbs j (by omega), e82, bj, erv]
        refine c114 hc ti75 hmo hC' hwC hμ' hw hj (by omega) hrb (fun M2 h1 h2 h3 => ?_)
        have f2 : M2 c 0 = (n 0 : Int) := by rw [h1 c (by omega) (by omega) (by omega)]; exact hC'.1 0 (by omega)
        rw [push_u, r11_173 (by omega) (by omega) (by omega) (by omega), show ((j : Int) * 24 + (p : Int)).toNat = j * 24 + p by omega, Int.toNat_natCast, r11_195 hc hv, c115 (n := n) hc ti75 (by rw [sa_n (by omega)]; exact f2) hn0 (by omega), push_i, r11_214 (by omega) (by omega), r11_215 (by omega) (by omega), Int.toNat_natCast]
        have ep : M2 76 (j * 24 + p) = pl n F μ j (bas μ h j + (J : Int)) (rvl μ h j (o : Int)) p := h2 p (by omega)
        have et : sm (fun q => (pm_sa M2 78 (pm_up (M2 78) ((j * 11 + J) * 21 + o) (M2 76 (j * 24 + p)))) (75 + 1) (j * 24 + q)) (n 0) = sm (pl n F μ j (bas μ h j + (J : Int)) (rvl μ h j (o : Int))) (n 0) := sm_c (fun q hq' => by rw [sa_n (by omega)]; exact h2 q hq')
        rw [et, ep]
        obtain ⟨M3, hM3⟩ : ∃ M3, M3 = pm_sa (pm_sa (pm_sa M2 78 (pm_up (M2 78) ((j * 11 + J) * 21 + o) (pl n F μ j (bas μ h j + (J : Int)) (rvl μ h j (o : Int)) p))) 79 (pm_up ((pm_sa M2 78 (pm_up (M2 78) ((j * 11 + J) * 21 + o) (pl n F μ j (bas μ h j + (J : Int)) (rvl μ h j (o : Int)) p))) 79) ((j * 11 + J) * 21 + o) (sm (pl n F μ j (bas μ h j + (J : Int)) (rvl μ h j (o : Int))) (n 0)))) 80 (pm_up ((pm_sa (pm_sa M2 78 (pm_up (M2 78) ((j * 11 + J) * 21 + o) (pl n F μ j (bas μ h j + (J : Int)) (rvl μ h j (o : Int)) p))) 79 (pm_up ((pm_sa M2 78 (pm_up (M2 78) ((j * 11 + J) * 21 + o) (pl n F μ j (bas μ h j + (J : Int)) (rvl μ h j (o : Int)) p))) 79) ((j * 11 + J) * 21 + o) (sm (pl n F μ j (bas μ h j + (J : Int)) (rvl μ h j (o : Int))) (n 0)))) 80) ((j * 11 + J) * 21 + o) ((pm_sa (pm_sa M2 78 (pm_up (M2 78) ((j * 11 + J) * 21 + o) (pl n F μ j (bas μ h j + (J : Int)) (rvl μ h j (o : Int)) p))) 79 (pm_up ((pm_sa M2 78 (pm_up (M2 78) ((j * 11 + J) * 21 + o) (pl n F μ j (bas μ h j + (J : Int)) (rvl μ h j (o : Int)) p))) 79) ((j * 11 + J) * 21 + o) (sm (pl n F μ j (bas μ h j + (J : Int)) (rvl μ h j (o : Int))) (n 0)))) 74 10)) := ⟨_, rfl⟩
        rw [← hM3]
        have fr : ∀ q, q ≠ 78 → q ≠ 79 → q ≠ 80 → M3 q = M2 q := fun q z1 z2 z3 => by rw [hM3, sa_n z3, sa_n z2, sa_n z1]
        have v78 : M3 78 = pm_up (M2 78) ((j * 11 + J) * 21 + o) (pl n F μ j (bas μ h j + (J : Int)) (rvl μ h j (o : Int)) p) := by rw [hM3, sa_n (by omega), sa_n (by omega), sa_s]
        have v79 : M3 79 = pm_up (M2 79) ((j * 11 + J) * 21 + o) (sm (pl n F μ j (bas μ h j + (J : Int)) (rvl μ h j (o : Int))) (n 0)) := by rw [hM3, sa_n (by omega), sa_s, sa_n (by omega)]
        have v80 : M3 80 = pm_up (M2 80) ((j * 11 + J) * 21 + o) (M2 74 10) := by rw [hM3, sa_s, sa_n (by omega), sa_n (by omega), sa_n (by omega), sa_n (by omega)]
        have m74 : M2 74 = M' 74 := h1 74 (by omega) (by omega) (by omega)
        have m78 : M2 78 = M' 78 := h1 78 (by omega) (by omega) (by omega)
        have m79 : M2 79 = M' 79 := h1 79 (by omega) (by omega) (by omega)
        have m80 : M2 80 = M' 80 := h1 80 (by omega) (by omega) (by omega)
        have n74 : M3 74 = M' 74 := by rw [fr 74 (by omega) (by omega) (by omega), m74]
        refine B M3 _ _ _ (frD_t i1 (fun q z1 z2 z3 z4 => by rw [fr q (by omega) (by omega) (by omega)]; exact h1 q z1 z2 z3)) ⟨fun s hs' => ?_, fun m' b' o' q1 q2 q3 q4 => ?_⟩ hs (by rw [v78, up_s]; exact hpl p) (by rw [v79, up_s]; exact sm_c (fun i _ => hpl i))
        · rw [v80, n74, m80, m74]
          by_cases z : s = (j * 11 + J) * 21 + o
          · rw [up_e z, e74]; omega
          · rw [up_n z]; exact i2.1 s hs'
        · rw [v80, n74, m80, m74] at q4
          rw [v78, v79, m78, m79]
          by_cases z : (m' * 11 + b') * 21 + o' = (j * 11 + J) * 21 + o
          · have z1 : m' = j ∧ b' = J ∧ o' = o := by omega
            obtain ⟨rfl, rfl, rfl⟩ := z1
            rw [up_s, up_s]; exact ⟨rfl, rfl⟩
          · rw [up_n z] at q4
            rw [up_n z, up_n z]; exact i2.2 m' b' o' q1 q2 q3 q4
    rw [r11_42 hc hv (by omega) (by rw [e1]; omega), e1, if_neg (by omega)]
    by_cases q : U.testBit 20 = true
    · rw [if_pos q] at A ⊢
      rw [r11_54 (by omega), if_neg (by omega), r11_59 (by omega) (by omega), Int.toNat_natCast, e82]
      obtain ⟨o, ho⟩ : ∃ o : Nat, tr 0 + tr 1 + tr 2 - tr j = (o : Int) := Int.eq_ofNat_of_zero_le (by omega)
      rw [ho]
      exact A o (by omega) (Or.inl ho.symm)
    · rw [if_neg q] at A ⊢
      rw [r11_54 (by omega), if_pos rfl, r11_71]
      exact A 0 (by omega) (Or.inr (fun z => q (q20.mpr z)))
  · obtain ⟨i1, i2⟩ := hI
    have hC' := frD_C hc i1 hC
    have e1 : M' c 1 = (n 1 : Int) := hC'.1 1 (by omega)
    have e0 : M' c 0 = (n 0 : Int) := hC'.1 0 (by omega)
    have e5 : M' c 5 = (n 5 : Int) := hC'.1 5 (by omega)
    have htb := tot_b (n := n) (pp := fun m => pl n F μ m (bas μ h m + tr m) (rvl μ h m (tr 0 + tr 1 + tr 2 - tr m))) hn0 hn1 (fun m p _ _ => pl_b)
    have := hK M' i1 i2
    rw [hts_setb (by omega) hn1 (by omega)] at this
    rw [r11_42 hc hv (by omega) (by rw [e1]; omega), e1, if_pos (by omega), r11_256 hc hv, c117 hc e0 e5 (by omega) hn0 (by omega) (by omega), push_i, r11_268]
    exact this
def frW (c : Nat) (M M' : PH) : Prop := ∀ q, q ≠ c + 20 → q ≠ c + 21 → (q < 74 ∨ 90 < q) → M' q = M q
/-- what is kept of a wish -/
def wok (M : PH) (n : Nat → Nat) (a : PH) (F : Nat → List Int) (μ : PH) (h : Nat) (H : Int) : Prop := ((wl n a F μ h H (11 ^ n 1)).1 = 31 → M 74 13 = -1) ∧ ((wl n a F μ h H (11 ^ n 1)).1 ≠ 31 → M 74 13 = (wl n a F μ h H (11 ^ n 1)).1 ∧ ∀ m, m < 3 → M 84 m = dg 11 (n 1) (wl n a F μ h H (11 ^ n 1)).2 m)
theorem pw11 {k : Nat} (h : k ≤ 3) : (11 : Nat) ^ k ≤ 1331 := Nat.pow_le_pow_right (n := 11) (by omega) h
theorem pw5 {k : Nat} (h : k ≤ 3) : (5 : Nat) ^ k ≤ 125 := Nat.pow_le_pow_right (n := 5) (by omega) h
theorem c3 (hc : isCh c) (hv : v 3 = (c : Int)) (hC : isC M c n a F) (hwC : wC n a F) (hμ : mo M 3 = μ) (hw : wM n μ) {h : Nat} (hh : h < n 2) (h9 : M 74 9 = (h : Int)) (hT : 0 ≤ M 74 10 ∧ M 74 10 < 1000000000) (h13 : M 74 13 = -1) (htr : ∀ m, m < 3 → M 82 m = 0) (hbs : ∀ m, m < 3 → M 81 m = bas μ h m) (hCA : CA M n F μ h (a 2 h).toNat) {H : Int} (hH : inR H)
    (hK : ∀ M' : PH, (∀ q, q ≠ c + 20 → q ≠ c + 21 → q ≠ 74 → q ≠ 76 → (q < 78 ∨ 80 < q) → q ≠ 82 → q ≠ 84 → M' q = M q) → (∀ j, j ≠ 13 → M' 74 j = M 74 j) → (∀ s, s < 693 → 0 ≤ M' 80 s ∧ M' 80 s ≤ M 74 10) → wok M' n a F μ h H → K PU (GF X, M', PTF v)) : pm_Call (d + 5) 3 [vA 74, vI H] (GF X, M, PTF v) K := by
  obtain ⟨hn0, hn1, hn2, -, -, hn5, -, hn00⟩ := hwC.1
  have hcc := ch60 hc
  have hpw := pw11 hn1
  have hpz : (0 : Int) ≤ ((11 ^ n 1 : Nat) : Int) := Int.natCast_nonneg _
  have e1 : M c 1 = (n 1 : Int) := hC.1 1 (by omega)
  rw [en3, r3_0]
  refine (c8 (t := 10) (n := n) hc hv e1 hn1).mpr ?_
  rw [push_i, r3_11]
  have hgo : ∀ M' : PH, (∀ q, q ≠ c + 20 → q ≠ c + 21 → q ≠ 76 → (q < 78 ∨ 80 < q) → q ≠ 82 → q ≠ 84 → M' q = M q) → isC M' c n a F ∧ mo M' 3 = μ ∧ M' 74 = M 74 ∧ M' 81 = M 81 := fun M' f => by
    have hcc' : c = 9 ∨ c = 35 := hc
    exact ⟨isC_fr (fun i hi => f _ (by omega) (by omega) (by omega) (by omega) (by omega) (by omega)) hC, (mo_fr (fun i hi => f _ (by omega) (by omega) (by omega) (by omega) (by omega) (by omega))).trans hμ, f 74 (by omega) (by omega) (by omega) (by omega) (by omega) (by omega), f 81 (by omega) (by omega) (by omega) (by omega) (by omega) (by omega)⟩
  refine loopI (11 ^ n 1) (fun i (M' : PH) => (∀ q, q ≠ c + 20 → q ≠ c + 21 → q ≠ 76 → (q < 78 ∨ 80 < q) → q ≠ 82 → q ≠ 84 → M' q = M q) ∧ (∀ m, m < 3 → M' 82 m = dg 11 (n 1) i m) ∧ CA M' n F μ h (a 2 h).toNat ∧ ((wl n a F μ h H i).1 ≠ 31 → ∀ m, m < 3 → M' 84 m = dg 11 (n 1) (wl n a F μ h H i).2 m)) (fun i M' => ∀ l6 : PV, pm_Run (d + 4) 3 16 [vA 74, vI H, vI 31, vI ((wl n a F μ h H i).1), vI ((11 ^ n 1 : Nat) : Int), vI (i : Int), l6] [] (GF X, M', PTF v) K) (fun i M' hi hI ih l6 => ?_) (fun M' hI l6 => ?_) M ⟨fun _ _ _ _ _ _ _ => rfl, fun m hm => by rw [htr m hm, dg_0], hCA, fun h => absurd rfl h⟩ PU
  · obtain ⟨i1, i2, i3, i4⟩ := hI
    obtain ⟨hC', hμ', e74, e81⟩ := hgo M' i1
    have hwb := wl_b (n := n) (a := a) (F := F) (μ := μ) (h := h) (H := H) (i := i)
    have hsb := sdg_b (B := 11) (n1 := n 1) (i := i) (by omega)
    have htb := hts_b (μ := setb μ h (dg 11 (n 1) i)) (p := (a 2 h).toNat) hwC
    -- the next trial
    have N : ∀ (M2 : PH) (x : Int) (l6 : Int), (∀ q, q ≠ c + 20 → q ≠ c + 21 → q ≠ 76 → (q < 78 ∨ 80 < q) → q ≠ 82 → q ≠ 84 → M2 q = M q) → (∀ m, m < 3 → M2 82 m = dg 11 (n 1) i m) → CA M2 n F μ h (a 2 h).toNat → x = (wl n a F μ h H (i + 1)).1 → ((wl n a F μ h H (i + 1)).1 ≠ 31 → ∀ m, m < 3 → M2 84 m = dg 11 (n 1) (wl n a F μ h H (i + 1)).2 m) → pm_Run (d + 4) 3 64 [vA 74, vI H, vI 31, vI x, vI ((11 ^ n 1 : Nat) : Int), vI (i : Int), vI l6] [] (GF X, M2, PTF v) K := by
      intro M2 x l6 f1 f2 f3 f4 f5
      obtain ⟨hC2, -, -, -⟩ := hgo M2 f1
      rw [r3_64, f4]
      refine c9 (t := 10) (i := i) (n := n) hc hv (hC2.1 1 (by omega)) hn1 (Or.inl rfl) f2 (fun g hg => ?_)
      rw [push_u, r3_70]
      refine ih _ ⟨fun q z1 z2 z3 z4 z5 z6 => by rw [sa_n z5]; exact f1 q z1 z2 z3 z4 z5 z6, fun m hm => by rw [sa_s]; exact hg m hm, ?_, fun z m hm => by rw [sa_n (by omega)]; exact f5 z m hm⟩ _
      unfold CA at f3 ⊢
      rw [sa_n (show 80 ≠ 82 by omega), sa_n (show 74 ≠ 82 by omega), sa_n (show 78 ≠ 82 by omega), sa_n (show 79 ≠ 82 by omega)]; exact f3
    have es : M' 82 0 + M' 82 1 + M' 82 2 = sdg 11 (n 1) i := by rw [i2 0 (by omega), i2 1 (by omega), i2 2 (by omega)]; rfl
    rw [r3_16 (by omega) (by omega), if_neg (by omega), r3_23, c10, push_i, es, r3_27 (by omega) (by omega)]
    by_cases q : (wl n a F μ h H i).1 ≤ sdg 11 (n 1) i
    · have ew : wl n a F μ h H (i + 1) = wl n a F μ h H i := by rw [wl, if_neg (by omega)]
      rw [if_pos q]
      exact N M' _ _ i1 i2 i3 (by rw [ew]) (by rw [ew]; exact i4)
    · rw [if_neg q, r3_35]
      refine c11 (b := 3) hc hv (Or.inl rfl) hC' hwC hμ' hw hh (by rw [e74]; exact h9) (by rw [e74]; exact hT) (tr := dg 11 (n 1) i) (fun m hm => ⟨i2 m hm, by have := dg_b (B := 11) (n1 := n 1) (i := i) (m := m) (by omega); omega, by have := dg_b (B := 11) (n1 := n 1) (i := i) (m := m) (by omega); omega⟩) (fun m hm => by rw [e81]; exact hbs m hm) i3 (fun M2 g1 g2 => ?_)
      have f1 : ∀ q, q ≠ c + 20 → q ≠ c + 21 → q ≠ 76 → (q < 78 ∨ 80 < q) → q ≠ 82 → q ≠ 84 → M2 q = M q := fun q z1 z2 z3 z4 z5 z6 => by rw [g1 q z1 z2 z3 z4]; exact i1 q z1 z2 z3 z4 z5 z6
      have f2 : ∀ m, m < 3 → M2 82 m = dg 11 (n 1) i m := fun m hm => by rw [g1 82 (by omega) (by omega) (by omega) (by omega)]; exact i2 m hm
      have f84 : M2 84 = M' 84 := g1 84 (by omega) (by omega) (by omega) (by omega)
      rw [push_i, r3_43 (by omega) hH]
      by_cases q2 : hts n F (setb μ h (dg 11 (n 1) i)) (a 2 h).toNat < H
      · have ew : wl n a F μ h H (i + 1) = wl n a F μ h H i := by rw [wl, if_neg (by unfold thh; omega)]
        rw [if_pos q2]
        exact N M2 _ _ f1 f2 g2 (by rw [ew]) (by rw [ew, f84]; exact i4)
      · have ew : wl n a F μ h H (i + 1) = (sdg 11 (n 1) i, i) := by rw [wl, if_pos (by unfold thh; omega)]
        rw [if_neg q2, r3_47]
        refine N _ _ _ (fun q z1 z2 z3 z4 z5 z6 => by rw [sa_n z6]; exact f1 q z1 z2 z3 z4 z5 z6) (fun m hm => by rw [sa_n (by omega)]; exact f2 m hm) ?_ (by rw [ew]) (fun _ m hm => ?_)
        · unfold CA at g2 ⊢
          rw [sa_n (show 80 ≠ 84 by omega), sa_n (show 74 ≠ 84 by omega), sa_n (show 78 ≠ 84 by omega), sa_n (show 79 ≠ 84 by omega)]; exact g2
        · rw [sa_s, cpn_e, cpn, if_pos hm, ew]; exact f2 m hm
  · obtain ⟨i1, i2, i3, i4⟩ := hI
    obtain ⟨hC', hμ', e74, e81⟩ := hgo M' i1
    have hwb := wl_b (n := n) (a := a) (F := F) (μ := μ) (h := h) (H := H) (i := 11 ^ n 1)
    have hst : ∀ s, s < 693 → 0 ≤ M' 80 s ∧ M' 80 s ≤ M 74 10 := fun s hs => by have := i3.1 s hs; rw [e74] at this; exact this
    rw [r3_16 (by omega) (by omega), if_pos (by omega), r3_76 (by omega) (by omega)]
    by_cases q : (wl n a F μ h H (11 ^ n 1)).1 = 31
    · rw [if_pos (by omega), r3_86]
      exact hK M' (fun q z1 z2 z0 z3 z4 z5 z6 => i1 q z1 z2 z3 z4 z5 z6) (fun j _ => by rw [e74]) hst ⟨fun _ => by rw [e74]; exact h13, fun z => absurd q z⟩
    · rw [if_neg (by omega), r3_81, r3_86]
      exact hK _ (fun q z1 z2 z0 z3 z4 z5 z6 => by rw [sa_n z0]; exact i1 q z1 z2 z3 z4 z5 z6) (fun j hj => by rw [sa_s, up_n hj, e74]) (fun s hs => by rw [sa_n (by omega)]; exact hst s hs) ⟨fun z => absurd z q, fun z => ⟨by rw [sa_s, up_s], fun m hm => by rw [sa_n (by omega)]; exact i4 z m hm⟩⟩
end CB2
