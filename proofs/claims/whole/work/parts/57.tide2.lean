/-! The class's tide: heights. -/
def frC (c t : Nat) (M M' : PH) : Prop := ∀ q, q ≠ c + 20 → q ≠ c + 21 → q ≠ t + 1 → q ≠ t + 2 → M' q = M q
section CT2
variable {d b c t m : Nat} {X : Nat × (Nat → Int)} {v : Nat → Int} {M M' : PH} {K : PV → PS → Prop} {n : Nat → Nat} {a μ : PH} {F : Nat → List Int}
theorem frC_C (hc : isCh c) (ht : isTi t) (h : frC c t M M') (hC : isC M c n a F) : isC M' c n a F := by
  have := ct_d hc ht
  exact isC_fr (fun i hi => h _ (by omega) (by omega) (by omega) (by omega)) hC
theorem frC_m (hb : isMo b) (hc : isCh c) (ht : isTi t) (h : frC c t M M') : mo M' b = mo M b := by
  have h1 := mo_cv hb hc
  have h2 := mo_ti hb ht
  exact mo_fr (fun i hi => h _ (by omega) (by omega) (by omega) (by omega))
theorem frC_t {M2 : PH} (h : frC c t M M') (h2 : frC c t M' M2) : frC c t M M2 := fun q h1 h3 h4 h5 => (h2 q h1 h3 h4 h5).trans (h q h1 h3 h4 h5)
theorem frC_r : frC c t M M := fun _ _ _ _ _ => rfl
theorem pl_b {paid rival : Int} {p : Nat} : -99 ≤ pl n F μ m paid rival p ∧ pl n F μ m paid rival p ≤ 99 := wi_b (by omega)
theorem c114 (hc : isCh c) (ht : isTi t) (hb : isMo b) (hC : isC M c n a F) (hwC : wC n a F) (hμ : mo M b = μ) (hw : wM n μ) (hm : m < n 1) {paid rival : Int} (hp : 0 ≤ paid ∧ paid ≤ 1000) (hr : 0 ≤ rival ∧ rival ≤ 1000)
    (hK : ∀ M' : PH, (∀ q, q ≠ c + 20 → q ≠ c + 21 → q ≠ t + 1 → M' q = M q) → (∀ p, p < n 0 → M' (t + 1) (m * 24 + p) = pl n F μ m paid rival p) → (∀ k, k < m * 24 ∨ m * 24 + 24 ≤ k → M' (t + 1) k = M (t + 1) k) → K PU (GF X, M', PTF v)) : pm_Call (d + 3) 114 [vA t, vA c, vA b, vI (m : Int), vI paid, vI rival] (GF X, M, PTF v) K := by
  have hct := ct_d hc ht
  have hbc := mo_cv hb hc
  have hm3 : m < 3 := by have := hwC.1; omega
  have hn6 : n 6 ≤ 999 := hwC.1.2.2.2.2.2.2.1
  have hpm := hw.2.1 m hm
  have hn24 : n 0 ≤ 24 := hwC.1.1
  obtain ⟨fr, hfr⟩ := Int.eq_ofNat_of_zero_le hpm.1
  rw [en114, r114_0, c118 hc hb hC hμ hm3 hw hn6, push_u]
  have hC1 : isC (pm_sa M (c + 20) (tmv (M (c + 20)) n μ m paid rival)) c n a F := isC_fr (fun i hi => sa_n (by omega)) hC
  have hl := fun (most : Nat) (bp vr : Int) => c114l (d := d) (v := v) (X := X) (K := K) (m := m) (μ := μ) (most := most) (bp := bp) (vr := vr) hc ht hb hC1 hwC hw hm hp hr hfr
  have hT : ∀ u, u ≠ 18 → u ≠ 22 → (pm_sa M (c + 20) (tmv (M (c + 20)) n μ m paid rival)) (c + 20) u = tmv ((pm_sa M (c + 20) (tmv (M (c + 20)) n μ m paid rival)) (c + 20)) n μ m paid rival u := by
    intro u h1 h2
    rw [sa_s]
    by_cases g1 : u = 15
    · subst g1; rfl
    by_cases g2 : u = 7
    · subst g2; rfl
    by_cases g3 : u = 6
    · subst g3; rfl
    by_cases g4 : u = 16
    · subst g4; rfl
    by_cases g5 : u = 17
    · subst g5; rfl
    by_cases g6 : u = 4
    · subst g6; rfl
    by_cases g7 : u = 19
    · subst g7; rfl
    by_cases g8 : u = 20
    · subst g8; rfl
    by_cases g9 : u = 21
    · subst g9; rfl
    unfold tmv
    simp only [up_n g1, up_n g2, up_n g3, up_n g4, up_n g5, up_n g6, up_n g7, up_n g8, up_n g9]
  have hK1 : ∀ M' : PH, (∀ q, q ≠ c + 20 → q ≠ c + 21 → q ≠ t + 1 → M' q = (pm_sa M (c + 20) (tmv (M (c + 20)) n μ m paid rival)) q) → (∀ p, p < n 0 → M' (t + 1) (m * 24 + p) = pl n F μ m paid rival p) → (∀ k, k < m * 24 ∨ m * 24 + 24 ≤ k → M' (t + 1) k = (pm_sa M (c + 20) (tmv (M (c + 20)) n μ m paid rival)) (t + 1) k) → K PU (GF X, M', PTF v) := fun M' h1 h2 h3 => hK M' (fun q g1 g2 g3 => by rw [h1 q g1 g2 g3, sa_n g1]) h2 (fun k hk => by rw [h3 k hk, sa_n (by omega)])
  have e1 : (pm_sa M (c + 20) (tmv (M (c + 20)) n μ m paid rival)) (b + 1) ((m : Int)).toNat = (fr : Int) := by rw [Int.toNat_natCast, sa_n (by omega), ← hfr, ← hμ]; exact mo_1 hm3
  have e0 : (pm_sa M (c + 20) (tmv (M (c + 20)) n μ m paid rival)) c 0 = (n 0 : Int) := hC1.1 0 (by omega)
  generalize pm_sa M (c + 20) (tmv (M (c + 20)) n μ m paid rival) = M1 at hC1 hl hT hK1 e1 e0 ⊢
  obtain ⟨U, hU, hU1, hU2⟩ := hC1.2.2.2.2.2 0 (by omega)
  have q22 := hU2 22 (by omega)
  have q18 := hU2 18 (by omega)
  rw [r114_10 hc]
  refine (c45 (w := 0) (u := 22) (ch_fo hc) (by omega) (by omega) hU hU1).mpr ?_
  rw [push_i]
  by_cases z1 : U.testBit 22 = true
  · rw [if_pos z1, r114_24 (by omega), if_pos (by omega), r114_42, r114_47 hb (by omega) (by omega) (by omega), if_neg (by omega), r114_71 hc, r114_86, e1, e0]
    have := hl (n 0 - 1) 1 1 (Or.inl ⟨rfl, rfl, by omega⟩) hT hK1
    rw [show ((n 0 : Int) - 1) = ((n 0 - 1 : Nat) : Int) by omega]
    exact this
  · have z22 : (10022 : Int) ∉ F 0 := fun z => z1 (q22.mpr z)
    rw [if_neg z1, r114_24 (by omega), if_neg (by omega), r114_31 hc]
    refine (c45 (w := 0) (u := 18) (ch_fo hc) (by omega) (by omega) hU hU1).mpr ?_
    rw [push_i]
    have e2 : (n 0 : Int).tdiv 2 = ((n 0 / 2 : Nat) : Int) := by rw [Int.tdiv_eq_ediv_of_nonneg (by omega)]; omega
    by_cases z2 : U.testBit 18 = true
    · rw [if_pos z2, r114_39 (by omega), if_neg (by omega), r114_42, r114_47 hb (by omega) (by omega) (by omega), if_pos (by omega), r114_80 hc (by rw [e0]; omega), r114_86, e1, e0, e2]
      exact hl (n 0 / 2) 0 1 (Or.inr ⟨rfl, rfl, z22, Or.inl rfl⟩) hT hK1
    · have z18 : (10018 : Int) ∉ F 0 := fun z => z2 (q18.mpr z)
      rw [if_neg z2, r114_39 (by omega), if_pos (by omega), r114_46, r114_47 hb (by omega) (by omega) (by omega), if_pos (by omega), r114_80 hc (by rw [e0]; omega), r114_86, e1, e0, e2]
      exact hl (n 0 / 2) 0 0 (Or.inr ⟨rfl, rfl, z22, Or.inr ⟨rfl, z18⟩⟩) hT hK1
theorem c115 (hc : isCh c) (ht : isTi t) (e0 : M c 0 = (n 0 : Int)) (h24 : n 0 ≤ 24) (hm : m < 3) : pm_Call (d + 1) 115 [vA t, vA c, vI (m : Int)] (GF X, M, PTF v) K ↔ K (vI (sm (fun p => M (t + 1) (m * 24 + p)) (n 0))) (GF X, M, PTF v) := by
  rw [en115, r115_0]
  refine (loopN (fun j => pm_Run d 115 5 [vA t, vA c, vI (m : Int), vI (sm (fun p => M (t + 1) (m * 24 + p)) j), vI (j : Int)] [] (GF X, M, PTF v) K) (n 0) (fun j hj => ?_)).trans ?_
  · rw [r115_5 hc (by omega) (by rw [e0]; omega), e0, if_neg (by omega), r115_14 ht (by omega) (by omega), show ((m : Int) * 24 + (j : Int)).toNat = m * 24 + j by omega]
    exact Iff.rfl
  · rw [r115_5 hc (by omega) (by rw [e0]; omega), e0, if_pos (by omega), r115_35]
theorem c117 (hc : isCh c) (e0 : M c 0 = (n 0 : Int)) (e5 : M c 5 = (n 5 : Int)) (h0 : 0 < n 0) (h24 : n 0 ≤ 24) {p : Nat} (hp : p < 24) {x tot : Int} (ht : -100000 ≤ tot ∧ tot ≤ 100000) : pm_Call (d + 1) 117 [vA c, vI (p : Int), vI x, vI tot] (GF X, M, PTF v) K ↔ K (vI (n 5 + x - tot.fdiv (n 0) - (if (p : Int) < tot - tot.fdiv (n 0) * n 0 then 1 else 0))) (GF X, M, PTF v) := by
  have h1 := Int.fmod_nonneg_of_pos tot (b := n 0) (by omega)
  have h2 := Int.fmod_lt_of_pos tot (b := n 0) (by omega)
  have h3 : tot - tot.fdiv (n 0) * (n 0) = tot.fmod (n 0) := by rw [Int.fdiv_mul_self]; omega
  rw [en117, r117_0 hc (by rw [e0]; omega), e0, if_pos (by omega), r117_12 hc (by omega) (by rw [e0]; omega) (by rw [e0]; omega) (by omega) (by rw [e0, h3]; omega), e0, e5, h3]
  by_cases q : tot.fmod (n 0) ≤ (p : Int)
  · rw [if_pos q, r117_52, r117_53, if_neg (by omega)]
  · rw [if_neg q, r117_48, r117_53, if_pos (by omega)]
theorem hg_c {pp pp' : Nat → Nat → Int} (h : ∀ m p, m < n 1 → p < n 0 → pp m p = pp' m p) {p : Nat} (hp : p < n 0) : hg n pp p = hg n pp' p := by
  have e1 : sm (fun m => sm (pp m) (n 0)) (n 1) = sm (fun m => sm (pp' m) (n 0)) (n 1) := sm_c (fun m hm => sm_c (fun p hp => h m p hm hp))
  have e2 : sm (fun m => pp m p) (n 1) = sm (fun m => pp' m p) (n 1) := sm_c (fun m hm => h m p hm hp)
  unfold hg
  rw [e1, e2]
theorem tot_b {pp : Nat → Nat → Int} (hn0 : n 0 ≤ 24) (hn1 : n 1 ≤ 3) (h : ∀ m p, m < n 1 → p < n 0 → -99 ≤ pp m p ∧ pp m p ≤ 99) : -10000 ≤ sm (fun m => sm (pp m) (n 0)) (n 1) ∧ sm (fun m => sm (pp m) (n 0)) (n 1) ≤ 10000 := by
  have h1 : ∀ m, m < n 1 → -2376 ≤ sm (pp m) (n 0) ∧ sm (pp m) (n 0) ≤ 2376 := fun m hm => by
    have := sm_b (f := pp m) (n := n 0) (fun p hp => h m p hm hp)
    omega
  have := sm_b (f := fun m => sm (pp m) (n 0)) (n := n 1) h1
  omega
theorem c116 (hc : isCh c) (ht : isTi t) (hC : isC M c n a F) (hwC : wC n a F) {pp : Nat → Nat → Int} (hp : ∀ m p, m < n 1 → p < n 0 → M (t + 1) (m * 24 + p) = pp m p) (hpb : ∀ m p, m < n 1 → p < n 0 → -99 ≤ pp m p ∧ pp m p ≤ 99) (hK : ∀ g : Nat → Int, (∀ p, p < n 0 → g p = hg n pp p) → K PU (GF X, pm_sa M (t + 2) g, PTF v)) : pm_Call (d + 2) 116 [vA t, vA c] (GF X, M, PTF v) K := by
  have hct := ct_d hc ht
  obtain ⟨hn0, hn1, -, -, -, hn5, -, hn00⟩ := hwC.1
  have e0 : M c 0 = (n 0 : Int) := hC.1 0 (by omega)
  have e1 : M c 1 = (n 1 : Int) := hC.1 1 (by omega)
  have e5 : M c 5 = (n 5 : Int) := hC.1 5 (by omega)
  have htb := tot_b hn0 hn1 hpb
  rw [en116, r116_0]
  have k1 := loopN (fun j => pm_Run (d + 1) 116 4 [vA t, vA c, vI (sm (fun m => sm (pp m) (n 0)) j), vI (j : Int), PU, PU] [] (GF X, M, PTF v) K) (n 1) (fun j hj => by
    rw [r116_4 hc (by omega) (by rw [e1]; omega), e1, if_neg (by omega), r116_12 ht, c115 hc ht e0 hn0 (by omega), push_i, r116_19, sm_c (fun p hp' => hp j p hj hp')]
    exact Iff.rfl)
  refine k1.mpr ?_
  rw [r116_4 hc (by omega) (by rw [e1]; omega), e1, if_pos (by omega), r116_27]
  refine loopI (n 0) (fun j (g : Nat → Int) => ∀ p, p < j → g p = hg n pp p) (fun j g => ∀ l4 l5, pm_Run (d + 1) 116 29 [vA t, vA c, vI (sm (fun m => sm (pp m) (n 0)) (n 1)), vI (j : Int), l4, l5] [] (GF X, pm_sa M (t + 2) g, PTF v) K) (fun j g hj hI ih l4 l5 => ?_) (fun g hI l4 l5 => ?_) (M (t + 2)) (fun p hp' => absurd hp' (by omega)) PU PU |> fun z => by rw [sa_id rfl] at z; exact z
  · have e0' : (pm_sa M (t + 2) g) c 0 = (n 0 : Int) := by rw [sa_n (by omega), e0]
    have e1' : (pm_sa M (t + 2) g) c 1 = (n 1 : Int) := by rw [sa_n (by omega), e1]
    have e5' : (pm_sa M (t + 2) g) c 5 = (n 5 : Int) := by rw [sa_n (by omega), e5]
    rw [r116_29 hc (by omega) (by rw [e0']; omega), e0', if_neg (by omega), r116_37]
    have k2 := loopN (fun i => pm_Run (d + 1) 116 43 [vA t, vA c, vI (sm (fun m => sm (pp m) (n 0)) (n 1)), vI (j : Int), vI (sm (fun m => pp m j) i), vI (i : Int)] [] (GF X, pm_sa M (t + 2) g, PTF v) K) (n 1) (fun i hi => by
      rw [r116_43 hc (by omega) (by rw [e1']; omega), e1', if_neg (by omega), r116_52 ht (by omega) (by omega), show ((i : Int) * 24 + (j : Int)).toNat = i * 24 + j by omega, sa_n (by omega), hp i j hi hj]
      exact Iff.rfl)
    refine k2.mpr ?_
    rw [r116_43 hc (by omega) (by rw [e1']; omega), e1', if_pos (by omega), r116_75 ht, c117 hc e0' e5' (by omega) hn0 (by omega) (by omega), push_i, r116_88 ht (by omega) (by omega), r116_89, sa_s, sa_sa, Int.toNat_natCast]
    refine ih _ (fun p hp' => ?_) _ _
    by_cases q : p = j
    · rw [up_e q, q]; rfl
    · rw [up_n q]; exact hI p (by omega)
  · have e0' : (pm_sa M (t + 2) g) c 0 = (n 0 : Int) := by rw [sa_n (by omega), e0]
    rw [r116_29 hc (by omega) (by rw [e0']; omega), e0', if_pos (by omega), r116_95]
    exact hK g hI
theorem c113 (hc : isCh c) (ht : isTi t) (hb : isMo b) (hC : isC M c n a F) (hwC : wC n a F) (hμ : mo M b = μ) (hw : wM n μ) (hK : ∀ M' : PH, frC c t M M' → (∀ m p, m < n 1 → p < n 0 → M' (t + 1) (m * 24 + p) = pls n F μ m p) → (∀ p, p < n 0 → M' (t + 2) p = hts n F μ p) → K PU (GF X, M', PTF v)) : pm_Call (d + 4) 113 [vA t, vA c, vA b] (GF X, M, PTF v) K := by
  have hct := ct_d hc ht
  obtain ⟨hn0, hn1, -, -, -, hn5, -, hn00⟩ := hwC.1
  have hba := ba_b hw
  rw [en113, r113_0 hb, c62 hb, push_i, r113_4, ba_m, hμ]
  refine loopI (n 1) (fun j (M' : PH) => frC c t M M' ∧ (∀ m p, m < j → p < n 0 → M' (t + 1) (m * 24 + p) = pls n F μ m p)) (fun j M' => ∀ l5, pm_Run (d + 3) 113 8 [vA t, vA c, vA b, vI (ba μ), vI (j : Int), l5] [] (GF X, M', PTF v) K) (fun j M' hj hI ih l5 => ?_) (fun M' hI l5 => ?_) M ⟨frC_r, fun m p hm => absurd hm (by omega)⟩ PU
  · have hC' := frC_C hc ht hI.1 hC
    have hμ' := (frC_m hb hc ht hI.1).trans hμ
    have e1 : M' c 1 = (n 1 : Int) := hC'.1 1 (by omega)
    have hbt := bt_b hw (m := j) (by omega)
    have hrb : bt μ j ≤ ba μ := by
      have e : ba μ = bt μ 0 + bt μ 1 + bt μ 2 := by simp [ba, bt, sm]; omega
      have b0 := bt_b hw (m := 0) (by omega)
      have b1 := bt_b hw (m := 1) (by omega)
      have b2 := bt_b hw (m := 2) (by omega)
      have : j = 0 ∨ j = 1 ∨ j = 2 := by omega
      rcases this with rfl | rfl | rfl <;> omega
    rw [r113_8 hc (by omega) (by rw [e1]; omega), e1, if_neg (by omega), r113_17 hb, c58 hb (by omega), push_i, r113_23 ht, bt_m (by omega), hμ']
    refine c114 hc ht hb hC' hwC hμ' hw hj (by omega) (by omega) (fun M2 h1 h2 h3 => ?_)
    rw [push_u, r113_39]
    refine ih M2 ⟨frC_t hI.1 (fun q g1 g2 g3 _ => h1 q g1 g2 g3), fun m p hm hp => ?_⟩ _
    by_cases q : m = j
    · subst q; exact h2 p hp
    · rw [h3 _ (by omega)]; exact hI.2 m p (by omega) hp
  · have hC' := frC_C hc ht hI.1 hC
    have e1 : M' c 1 = (n 1 : Int) := hC'.1 1 (by omega)
    rw [r113_8 hc (by omega) (by rw [e1]; omega), e1, if_pos (by omega), r113_45 ht]
    refine c116 hc ht hC' hwC hI.2 (fun m p _ _ => pl_b) (fun g hg' => ?_)
    rw [push_u, r113_50]
    refine hK _ (frC_t hI.1 (fun q g1 g2 g3 g4 => sa_n g4)) (fun m p hm hp => by rw [sa_n (by omega)]; exact hI.2 m p hm hp) (fun p hp => by rw [sa_s]; exact hg' p hp)
end CT2
