/-! The forecast: learning, and what is asked of it. -/
def frF (c : Nat) (M M' : PH) : Prop := ∀ q, q ≠ c + 20 → q ≠ c + 21 → (q < 60 ∨ 73 < q) → M' q = M q
def stc (n : Nat → Nat) (a : PH) (F : Nat → List Int) (ν : PH) : Int := sm (fun h => if hts n F ν (a 2 h).toNat < a 3 h then 1 else 0) (n 2)
section CF2
variable {d c : Nat} {X : Nat × (Nat → Int)} {v : Nat → Int} {M M' : PH} {K : PV → PS → Prop} {n : Nat → Nat} {a μ : PH} {F : Nat → List Int}
theorem ch60 (hc : isCh c) : c + 21 < 57 := by
  have : c = 9 ∨ c = 35 := hc
  omega
theorem frF_r : frF c M M := fun _ _ _ _ => rfl
theorem frF_t {M2 : PH} (h : frF c M M') (h2 : frF c M' M2) : frF c M M2 := fun q h1 h3 h4 => (h2 q h1 h3 h4).trans (h q h1 h3 h4)
theorem frF_C (hc : isCh c) (h : frF c M M') (hC : isC M c n a F) : isC M' c n a F := by
  have := ch60 hc
  exact isC_fr (fun i hi => h _ (by omega) (by omega) (by omega)) hC
theorem frF_3 (hc : isCh c) (h : frF c M M') : mo M' 3 = mo M 3 := by
  have : c = 9 ∨ c = 35 := hc
  exact mo_fr (fun i hi => h _ (by omega) (by omega) (by omega))
theorem c25 (hc : isCh c) (hv : v 2 = (c : Int)) (hC : isC M c n a F) (hwC : wC n a F) (hμ : mo M 3 = μ) (hw : wM n μ) {k A : Nat} (hI : FI M n a F μ k) (hA : (A : Int) ≤ min 48 (9999 - μ 0 0)) (hK : ∀ M' k', FI M' n a F μ k' → A < k' → k ≤ k' → frF c M M' → K PU (GF X, M', PTF v)) : pm_Call (d + 6) 25 [vA 60, vI (A : Int)] (GF X, M, PTF v) K := by
  have hcc := ch60 hc
  have hw0 := hw.1
  have main : ∀ r t, A < t + r → k ≤ t → ∀ M' : PH, FI M' n a F μ t → frF c M M' → pm_Run (d + 5) 25 14 [vA 60, vI (A : Int), vI (A : Int), vI (t : Int)] [] (GF X, M', PTF v) K := by
    intro r
    induction r with
    | zero =>
      intro t h1 h2 M' hI' hf
      have := hI'.2.2.2.2.2
      rw [r25_14 (by omega) (by omega), if_pos (by omega), r25_85]
      exact hK M' t hI' (by omega) h2 hf
    | succ r ih =>
      intro t h1 h2 M' hI' hf
      have hkb := hI'.2.2.2.2.2
      by_cases q : A < t
      · rw [r25_14 (by omega) (by omega), if_pos (by omega), r25_85]
        exact hK M' t hI' q h2 hf
      · have ht : t < 49 := by omega
        rw [r25_14 (by omega) (by omega), if_neg (by omega), r25_19 (by omega)]
        have hC' := frF_C hc hf hC
        obtain ⟨f8, f9, fp, ft, fb, -⟩ := hI'
        have B : ∀ M1 : PH, (∀ q, q ≠ c + 20 → q ≠ c + 21 → (q < 64 ∨ 69 < q) → M1 q = M' q) → mo M1 64 = ahd n a F μ t → pm_Run (d + 5) 25 52 [vA 60, vI (A : Int), vI (A : Int), vI (t : Int)] [] (GF X, M1, PTF v) K := by
          intro M1 g1 g2
          have hC1 : isC M1 c n a F := isC_fr (fun i hi => g1 _ (by omega) (by omega) (by omega)) hC'
          have hwt := wM_ahd hw hwC t
          rw [r25_52 hc hv]
          refine c113 hc ti61 mo64 hC1 hwC g2 hwt (fun M2 k1 k2 k3 => ?_)
          rw [push_u, r25_67]
          have e60 : M2 60 = M' 60 := by rw [k1 60 (by omega) (by omega) (by omega) (by omega), g1 60 (by omega) (by omega) (by omega)]
          have eq2 : ∀ q, 69 < q → M2 q = M' q := fun q hq => by rw [k1 q (by omega) (by omega) (by omega) (by omega), g1 q (by omega) (by omega) (by omega)]
          have em2 : mo M2 64 = ahd n a F μ t := (frC_m mo64 hc ti61 k1).trans g2
          refine c38 hc hv (frC_C hc ti61 k1 hC1) hwC ht em2 hwt k3 (by unfold brE at fb ⊢; rw [e60]; exact fb) (fun M3 j1 j2 j3 j4 j5 j6 j7 j8 => ?_)
          rw [push_u, r25_72, r25_79]
          refine ih (t + 1) (by omega) (by omega) _ ⟨?_, ?_, fun _ => ⟨?_, fun p hp => ?_, fun m p hm hp => ?_⟩, fun t' ht' => ⟨fun p hp => ?_, fun h hh => ?_⟩, ?_, by omega⟩ (fun q h1 h2 h3 => ?_)
          · rw [sa_s, up_n (by omega), j2 8 (by omega) (by omega) (by omega), e60, f8]
          · rw [sa_s, up_s]; rfl
          · rw [mo_n (by omega), mo_fr (M := M2) (fun i hi => j1 _ (by omega) (by omega) (by omega) (by omega)), em2]; rfl
          · rw [sa_n (by omega), j1 63 (by omega) (by omega) (by omega) (by omega)]; exact k3 p hp
          · have hwC1 := hwC.1
            rw [sa_n (by omega), j3]
            by_cases q0 : t = 0
            · rw [if_pos q0, cpn, if_pos (by omega), k2 m p hm hp, q0]; rfl
            · rw [if_neg q0, eq2 70 (by omega)]; exact (fp (by omega)).2.2 m p hm hp
          · have hwC1 := hwC.1
            rw [sa_n (by omega)]
            by_cases q0 : t' = t
            · rw [q0]; exact j4 p hp
            · rw [j5 _ (by omega), eq2 71 (by omega)]; exact (ft t' (by omega)).1 p hp
          · have hwC1 := hwC.1
            rw [sa_n (by omega), sa_n (by omega)]
            by_cases q0 : t' = t
            · rw [q0]; exact j6 h hh
            · have := j7 (t' * 8 + h) (by omega)
              rw [this.1, this.2, eq2 72 (by omega), eq2 73 (by omega)]; exact (ft t' (by omega)).2 h hh
          · unfold brE at j8 ⊢
            rw [sa_s, up_n (by omega), up_n (by omega), up_n (by omega)]; exact j8
          · rw [sa_n (by omega), j1 q h1 h2 (by omega) (by omega), k1 q h1 h2 (by omega) (by omega), g1 q h1 h2 (by omega)]; exact hf q h1 h2 h3
        by_cases q0 : t = 0
        · rw [if_neg (by omega), r25_23, c56 mo64 mo3 (by omega), push_u, r25_34]
          refine B _ (fun q _ _ hq => mcp_n (by omega)) ?_
          rw [mcp_s, frF_3 hc hf, hμ, q0]; rfl
        · rw [if_pos (by omega), r25_37 hc hv]
          obtain ⟨p1, p2, -⟩ := fp (by omega)
          refine c122 hc ti61 mo64 hC' hwC p1 (wM_ahd hw hwC (t - 1)) (H := hts n F (ahd n a F μ (t - 1))) (fun p _ => hts_b hwC) (fun _ => p2) (fun M1 g1 g2 => ?_)
          rw [push_u]
          refine B M1 (fun q h1 h2 h3 => g1 q h1 h2 (by omega)) ?_
          rw [g2, show ahd n a F μ t = ahd n a F μ ((t - 1) + 1) by rw [Nat.sub_add_cancel (by omega)]]; rfl
  rw [en25, r25_0 (by omega) (by rw [hI.1]; omega), hI.1, hI.2.1, show min (A : Int) (min 48 (9999 - μ 0 0)) = (A : Int) by omega]
  exact main (A + 1) k (by omega) (Nat.le_refl k) M hI frF_r
theorem c24 (hc : isCh c) (hv : v 2 = (c : Int)) (hC : isC M c n a F) (hwC : wC n a F) {k : Nat} (hI : FI M n a F μ k) (hw : wM n μ) {x : Int} (hx : inR x) : pm_Call (d + 1) 24 [vA 60, vI x] (GF X, M, PTF v) K ↔ K (vI (if 0 < n 0 ∧ 0 ≤ x ∧ x ≤ min 48 (9999 - μ 0 0) then 1 else 0)) (GF X, M, PTF v) := by
  have e0 : M c 0 = (n 0 : Int) := hC.1 0 (by omega)
  have hn := hwC.1.1
  have hw0 := hw.1
  rw [en24, r24_0 hc hv (by rw [e0]; omega), e0]
  by_cases q1 : n 0 = 0
  · rw [if_pos (by omega), r24_26, r24_27 (by simp), if_neg (by omega)]
  · rw [if_neg (by omega), r24_10 hx]
    by_cases q2 : x < 0
    · rw [if_pos q2, r24_26, r24_27 (by simp), if_neg (by omega)]
    · rw [if_neg q2, r24_14 hx (by rw [hI.1]; omega), hI.1]
      by_cases q3 : min 48 (9999 - μ 0 0) < x
      · rw [if_pos q3, r24_26, r24_27 (by simp), if_neg (by omega)]
      · rw [if_neg q3, r24_22, r24_27 (by simp), if_pos (by omega)]
theorem c26 {m p : Nat} (hm : m < 3) (hp : p < 24) : pm_Call (d + 1) 26 [vA 60, vI (m : Int), vI (p : Int)] (GF X, M, PTF v) K ↔ K (vI (M 70 (m * 24 + p))) (GF X, M, PTF v) := by
  rw [en26, r26_0 (by omega) (by omega), show ((m : Int) * 24 + (p : Int)).toNat = m * 24 + p by omega]
theorem c27 {p t : Nat} (hp : p < 24) (ht : t < 49) : pm_Call (d + 1) 27 [vA 60, vI (p : Int), vI (t : Int)] (GF X, M, PTF v) K ↔ K (vI (M 71 (t * 24 + p))) (GF X, M, PTF v) := by
  rw [en27, r27_0 (by omega) (by omega), show ((t : Int) * 24 + (p : Int)).toNat = t * 24 + p by omega]
theorem c28 {h t : Nat} (hp : h < 8) (ht : t < 49) : pm_Call (d + 1) 28 [vA 60, vI (h : Int), vI (t : Int)] (GF X, M, PTF v) K ↔ K (vI (M 72 (t * 8 + h))) (GF X, M, PTF v) := by
  rw [en28, r28_0 (by omega) (by omega), show ((t : Int) * 8 + (h : Int)).toNat = t * 8 + h by omega]
theorem c29 {h t : Nat} (hp : h < 8) (ht : t < 49) : pm_Call (d + 1) 29 [vA 60, vI (h : Int), vI (t : Int)] (GF X, M, PTF v) K ↔ K (vI (M 73 (t * 8 + h))) (GF X, M, PTF v) := by
  rw [en29, r29_0 (by omega) (by omega), show ((t : Int) * 8 + (h : Int)).toNat = t * 8 + h by omega]
theorem c30 (hc : isCh c) (hv : v 2 = (c : Int)) (hC : isC M c n a F) (hwC : wC n a F) {k h t : Nat} (hI : FI M n a F μ k) (hh : h < n 2) (ht : t < k) (ht49 : t < 49) : pm_Call (d + 2) 30 [vA 60, vI (h : Int), vI (t : Int)] (GF X, M, PTF v) K ↔ K (vI (if hts n F (ahd n a F μ t) (a 2 h).toNat < a 3 h then 1 else 0)) (GF X, M, PTF v) := by
  have g := hwC.2.2.1 h hh
  have hn := hwC.1
  have e4 : M (c + 4) ((h : Int)).toNat = (((a 2 h).toNat : Nat) : Int) := by rw [Int.toNat_natCast, (hC.2.2.1 h hh).1]; omega
  have e5 : M (c + 5) ((h : Int)).toNat = a 3 h := by rw [Int.toNat_natCast, (hC.2.2.1 h hh).2]
  have eh : M 71 (t * 24 + (a 2 h).toNat) = hts n F (ahd n a F μ t) (a 2 h).toNat := (hI.2.2.2.1 t ht).1 _ (by omega)
  have hb := hts_b (μ := ahd n a F μ t) (p := (a 2 h).toNat) hwC
  rw [en30, r30_0 hc hv (by omega) (by omega), e4, c27 (by omega) ht49, push_i, eh, r30_14 hc hv (by omega) (by omega) (by omega) (by rw [e5]; omega), e5]
  by_cases q : a 3 h ≤ hts n F (ahd n a F μ t) (a 2 h).toNat
  · rw [if_pos q, r30_30, r30_31 (by simp), if_neg (by omega)]
  · rw [if_neg q, r30_26, r30_31 (by simp), if_pos (by omega)]
theorem c31 (hc : isCh c) (hv : v 2 = (c : Int)) (hC : isC M c n a F) (hwC : wC n a F) {k t : Nat} (hI : FI M n a F μ k) (ht : t < k) (ht49 : t < 49) : pm_Call (d + 3) 31 [vA 60, vI (t : Int)] (GF X, M, PTF v) K ↔ K (vI (stc n a F (ahd n a F μ t))) (GF X, M, PTF v) := by
  have hn := hwC.1
  have e2 : M c 2 = (n 2 : Int) := hC.1 2 (by omega)
  rw [en31, r31_0]
  refine (loopN (fun j => pm_Run (d + 2) 31 4 [vA 60, vI (t : Int), vI (sm (fun h => if hts n F (ahd n a F μ t) (a 2 h).toNat < a 3 h then 1 else 0) j), vI (j : Int)] [] (GF X, M, PTF v) K) (n 2) (fun j hj => ?_)).trans ?_
  · rw [r31_4 hc hv (by omega) (by rw [e2]; omega), e2, if_neg (by omega), r31_15, c30 hc hv hC hwC hI hj ht ht49, push_i]
    by_cases q : hts n F (ahd n a F μ t) (a 2 j).toNat < a 3 j
    · rw [if_pos q, r31_21 (by omega), if_neg (by omega), r31_24, r31_27, sm, if_pos q]; exact Iff.rfl
    · rw [if_neg q, r31_21 (by omega), if_pos rfl, r31_27, sm, if_neg q, Int.add_zero]; exact Iff.rfl
  · rw [r31_4 hc hv (by omega) (by rw [e2]; omega), e2, if_pos (by omega), r31_33]; exact Iff.rfl
theorem stc_b (hn : n 2 ≤ 8) {ν : PH} : 0 ≤ stc n a F ν ∧ stc n a F ν ≤ 8 := by
  have := sm_b (f := fun h => if hts n F ν (a 2 h).toNat < a 3 h then 1 else 0) (lo := 0) (hi := 1) (n := n 2) (fun i hi => by split <;> omega)
  unfold stc; omega
/-- the last hour ahead -/
def lst (μ : PH) : Nat := (min 48 (9999 - μ 0 0)).toNat
theorem lst_i (hw : wM n μ) : min 48 (9999 - μ 0 0) = (lst μ : Int) ∧ lst μ ≤ 48 := by
  have := hw.1
  unfold lst; omega
theorem c32 (hc : isCh c) (hv : v 2 = (c : Int)) (hC : isC M c n a F) (hwC : wC n a F) (hμ : mo M 3 = μ) (hw : wM n μ) {k A : Nat} (hI : FI M n a F μ k) (hA : A ≤ lst μ) (hK : ∀ M' k', FI M' n a F μ k' → frF c M M' → K (vI (fi (fun t => decide (0 < stc n a F (ahd n a F μ t))) (lst μ + 1 - A) A)) (GF X, M', PTF v)) : pm_Call (d + 7) 32 [vA 60, vI (A : Int)] (GF X, M, PTF v) K := by
  obtain ⟨hL, hL48⟩ := lst_i hw
  have hn := hwC.1
  have main : ∀ r t, t + r = lst μ + 1 → ∀ (M' : PH) k, FI M' n a F μ k → frF c M M' → (∀ M' k', FI M' n a F μ k' → frF c M M' → K (vI (fi (fun t => decide (0 < stc n a F (ahd n a F μ t))) r t)) (GF X, M', PTF v)) → pm_Run (d + 6) 32 2 [vA 60, vI (A : Int), vI (t : Int)] [] (GF X, M', PTF v) K := by
    intro r
    induction r with
    | zero =>
      intro t ht M' k hI' hf hk
      rw [r32_2 (by omega) (by rw [hI'.1]; omega), hI'.1, if_pos (by omega), r32_31]
      exact hk M' k hI' hf
    | succ r ih =>
      intro t ht M' k hI' hf hk
      rw [r32_2 (by omega) (by rw [hI'.1]; omega), hI'.1, if_neg (by omega), r32_10]
      refine c25 hc hv (frF_C hc hf hC) hwC ((frF_3 hc hf).trans hμ) hw hI' (by omega) (fun M2 k2 hI2 hk2 _ hf2 => ?_)
      have hb := stc_b (a := a) (F := F) (ν := ahd n a F μ t) (n := n) hn.2.2.1
      have hf' := frF_t hf hf2
      rw [push_u, r32_15, c31 hc hv (frF_C hc hf' hC) hwC hI2 (by omega) (by omega), push_i, r32_20 (by omega)]
      by_cases q : stc n a F (ahd n a F μ t) ≤ 0
      · rw [if_pos q, r32_25]
        refine ih (t + 1) (by omega) M2 k2 hI2 hf' (fun M3 k3 h3 f3 => ?_)
        have := hk M3 k3 h3 f3
        rw [fi, if_neg (by simp; omega)] at this
        exact this
      · rw [if_neg q, r32_23]
        have := hk M2 k2 hI2 hf'
        rw [fi, if_pos (by simp; omega)] at this
        exact this
  rw [en32, r32_0]
  exact main (lst μ + 1 - A) A (by omega) M k hI frF_r hK
theorem bro_le {k k' : Nat} (h : k ≤ k') (hb : bro n a F μ k ≠ -1) : bro n a F μ k' = bro n a F μ k := by
  unfold bro at hb ⊢
  obtain ⟨j, e, h1, h2, h3, h4⟩ := fi_s hb
  rw [e]
  exact fi_1 h1 (by omega) h3 h4
theorem c33 (hc : isCh c) (hv : v 2 = (c : Int)) (hC : isC M c n a F) (hwC : wC n a F) (hμ : mo M 3 = μ) (hw : wM n μ) {k : Nat} (hI : FI M n a F μ k) (hK : ∀ M' k', FI M' n a F μ k' → frF c M M' → brE M' n a F μ (lst μ + 1) → K (vI (if bro n a F μ (lst μ + 1) = -1 then 0 else 1)) (GF X, M', PTF v)) : pm_Call (d + 7) 33 [vA 60] (GF X, M, PTF v) K := by
  obtain ⟨hL, hL48⟩ := lst_i hw
  have fin : ∀ (M' : PH) k t, FI M' n a F μ k → frF c M M' → bro n a F μ (lst μ + 1) = bro n a F μ k → pm_Run (d + 6) 33 29 [vA 60, vI t] [] (GF X, M', PTF v) K := by
    intro M' k t hI' hf he
    have hb := bro_r (n := n) (a := a) (F := F) (μ := μ) (k := k)
    have hk' := hI'.2.2.2.2.2
    have h10 : M' 60 10 = bro n a F μ k := hI'.2.2.2.2.1.1
    have hE : brE M' n a F μ (lst μ + 1) := by have := hI'.2.2.2.2.1; unfold brE at this ⊢; rw [he]; exact this
    have := hK M' k hI' hf hE
    rw [r33_29 (by rw [h10]; omega), h10]
    rw [he] at this
    by_cases q : bro n a F μ k = -1
    · rw [if_pos q, r33_41, r33_42 (by simp)]; rw [if_pos q] at this; exact this
    · rw [if_neg q, r33_37, r33_42 (by simp)]; rw [if_neg q] at this; exact this
  have main : ∀ r t, t + r = lst μ + 1 → ∀ (M' : PH) k, FI M' n a F μ k → frF c M M' → t ≤ k → pm_Run (d + 6) 33 2 [vA 60, vI (t : Int)] [] (GF X, M', PTF v) K := by
    intro r
    induction r with
    | zero =>
      intro t ht M' k hI' hf hk
      have hk' := hI'.2.2.2.2.2
      rw [r33_2 (by omega) (by rw [hI'.1]; omega), hI'.1, if_pos (by omega)]
      exact fin M' k _ hI' hf (by rw [show lst μ + 1 = k by omega])
    | succ r ih =>
      intro t ht M' k hI' hf hk
      have hk' := hI'.2.2.2.2.2
      have hb := bro_r (n := n) (a := a) (F := F) (μ := μ) (k := k)
      have h10 : M' 60 10 = bro n a F μ k := hI'.2.2.2.2.1.1
      rw [r33_2 (by omega) (by rw [hI'.1]; omega), hI'.1, if_neg (by omega), r33_10 (by rw [h10]; omega), h10]
      by_cases q : bro n a F μ k = -1
      · rw [if_neg (by simp [q]), r33_18]
        refine c25 hc hv (frF_C hc hf hC) hwC ((frF_3 hc hf).trans hμ) hw hI' (by omega) (fun M2 k2 hI2 hk2 _ hf2 => ?_)
        rw [push_u, r33_23]
        exact ih (t + 1) (by omega) M2 k2 hI2 (frF_t hf hf2) (by omega)
      · rw [if_pos q]
        exact fin M' k _ hI' hf (bro_le (by omega) q)
  rw [en33, r33_0]
  exact main (lst μ + 1) 0 (by omega) M k hI frF_r (by omega)
end CF2
