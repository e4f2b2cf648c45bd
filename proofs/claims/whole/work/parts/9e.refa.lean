/-! The reference: an hour goes by; hours ahead. -/
theorem ups0 {μ : PH} {i k : Nat} {x : Int} (h : i ≠ 0) : ups μ i k x 0 0 = μ 0 0 := ups_n (by omega)
theorem pay1_0 {μ : PH} {h k : Nat} : pay1 μ h k 0 0 = μ 0 0 := by unfold pay1; split <;> exact ups0 (by omega)
theorem pay2_0 {μ : PH} {h k : Nat} : pay2 μ h k 0 0 = μ 0 0 := by
  unfold pay2; split
  · rfl
  · split
    · rfl
    · rw [ups0 (by omega), ups0 (by omega)]
theorem itr_0 {f : Nat → PH → PH} (h : ∀ i ν, f i ν 0 0 = ν 0 0) : ∀ {k : Nat} {μ : PH}, itr f k μ 0 0 = μ 0 0
  | 0, _ => rfl
  | k + 1, μ => by rw [itr, h, itr_0 h]
theorem itr_c {α : Type} {f g : Nat → α → α} : ∀ {k : Nat} {x : α}, (∀ i, i < k → f i (itr f i x) = g i (itr f i x)) → itr f k x = itr g k x
  | 0, _, _ => rfl
  | k + 1, x, h => by
    have e := itr_c (k := k) (x := x) (fun i hi => h i (by omega))
    rw [itr, itr, h k (by omega), e]
section RFa
variable {d b w : Nat} {X : Nat × (Nat → Int)} {v : Nat → Int} {M M' M2 : PH} {K : PV → PS → Prop} {n : Nat → Nat} {a μ : PH} {F : Nat → List Int}
theorem passH0 {H : Nat → Int} : mov n a (payA n (ernA n a F H μ)) 0 0 = μ 0 0 := by
  rw [mov, itr_0 (fun i ν => ups0 (by omega)), payA, itr_0 (fun i ν => itr_0 (fun j ν => by rw [pay, pay2_0, pay1_0])), ernA]
  split
  · rfl
  · exact itr_0 (fun i ν => by rw [ern]; exact ups0 (by omega))
theorem pass_0 : pass n a F μ 0 0 = min 9999 (μ 0 0 + 1) := by rw [pass, ups_s, passH0]
theorem ahd_0 (hw : wM n μ) : ∀ t, ahd n a F μ t 0 0 = min 9999 (μ 0 0 + (t : Int))
  | 0 => by have := hw.1; show μ 0 0 = _; omega
  | t + 1 => by rw [ahd, pass_0, ahd_0 hw t]; omega
theorem ernA_i (hw : wM n μ) (h8 : n 2 ≤ 8) {H : Nat → Int} : ernA n a F H μ = itr (fun h μ => ern a F H μ h) (n 2) μ := by
  rw [ernA]
  split
  · rename_i q
    have : ∀ k, k ≤ n 2 → itr (fun h μ => ern a F H μ h) k μ = μ := by
      intro k
      induction k with
      | zero => intro _; rfl
      | succ k ih =>
        intro hk
        rw [itr, ih (by omega), ern, q]
        have := hw.2.2.2.1 k (by omega)
        refine ups_e ?_
        show min 9999 (μ 3 k + wi 0 0 99) = μ 3 k
        rw [show wi 0 0 99 = 0 from rfl]; omega
    rw [this (n 2) (Nat.le_refl _)]
  · rfl
theorem c256 (hn1 : n 1 ≤ 3) (hn2 : n 2 ≤ 8) (hM : RM M n w μ) (hw : wM n μ) {h m : Nat} (hh : h < n 2) (hm : m < n 1) (hK : ∀ M', fw w M M' → M' 277 = M 277 → RM M' n w (pay μ h m) → K PU (GF X, M', PTF v)) : pm_Call (d + 1) 256 [vA 234, vI (w : Int), vI (h : Int), vI (m : Int)] (GF X, M, PTF v) K := by
  have i1 : (8 * (w : Int) + (h : Int)).toNat = 8 * w + h := by omega
  have i2 : (24 * (w : Int) + 3 * (h : Int) + (m : Int)).toNat = 24 * w + 3 * h + m := by omega
  have w22 := hM.1
  have s2 : ∀ M1, fw w M M1 → M1 277 = M 277 → RM M1 n w (pay1 μ h (h * 3 + m)) → pm_Run d 256 106 [vA 234, vI (w : Int), vI (h : Int), vI (m : Int), vI (24 * (w : Int) + 3 * (h : Int) + (m : Int)), vI (8 * (w : Int) + (h : Int))] [] (GF X, M1, PTF v) K := by
    intro M1 f1 h1 r1
    have hw1 := wM_pay1 hw hh hm hn2 hn1
    have b3 := hw1.2.2.2.1 h (by omega)
    have b5 := hw1.2.2.2.2.1 (h * 3 + m) (by omega)
    have e3 := r1.2.2.2.1 h hh
    have e5 := (r1.2.2.2.2 h m hh hm).2
    rw [r256_106 (by omega) (by omega) (by omega) (by omega) (by rw [i1]; omega) (by rw [i2]; omega), i1, i2, e3, e5]
    by_cases q : pay1 μ h (h * 3 + m) 5 (h * 3 + m) ≤ pay1 μ h (h * 3 + m) 3 h
    · rw [if_pos q, r256_124 (by omega) (by omega) (by omega) (by omega), r256_141 (by omega) (by omega), i1, i2, e3, e5]
      refine hK _ (fw_t f1 (fw_t (fw_3 (o := h) (by omega)) (fw_5 (h := h) (o := m) (by omega) (by omega)))) h1 ?_
      have := RM_5 (RM_3 (k := h) (x := pay1 μ h (h * 3 + m) 3 h - pay1 μ h (h * 3 + m) 5 (h * 3 + m)) r1) hn1 (k := h) (o := m) (by omega) (x := 0)
      rw [pay, pay2]
      by_cases q0 : pay1 μ h (h * 3 + m) 5 (h * 3 + m) ≤ 0
      · rw [if_pos q0]
        have e0 : pay1 μ h (h * 3 + m) 5 (h * 3 + m) = 0 := by omega
        rw [e0, ups_e (μ := ups (pay1 μ h (h * 3 + m)) 3 h _) (by rw [ups_n (by omega), e0]), ups_e (by omega)] at this
        rw [e0]; exact this
      · rw [if_neg q0, if_neg (by omega)]; exact this
    · rw [if_neg q, r256_123]
      refine hK M1 f1 h1 ?_
      rw [pay, pay2, if_neg (by omega), if_pos (by omega)]; exact r1
  have b3 := hw.2.2.2.1 h (by omega)
  have b5 := hw.2.2.2.2.1 (h * 3 + m) (by omega)
  have e3 := hM.2.2.2.1 h hh
  obtain ⟨e4, e5⟩ := hM.2.2.2.2 h m hh hm
  rw [en256, r256_0 (by omega) (by omega) (by omega) (by omega) (by rw [i1]; omega) (by rw [i2]; omega), i1, i2, e3, e4]
  by_cases q : μ 3 h < μ 4 (h * 3 + m)
  · rw [if_pos q, r256_57 (by omega) (by omega) (by rw [i2]; omega), i2, e4, e5]
    have e1 : pay1 μ h (h * 3 + m) = ups μ 5 (h * 3 + m) (min 9999 (μ 5 (h * 3 + m) + μ 4 (h * 3 + m))) := by rw [pay1, if_pos q]
    have f1 : ∀ x : Int, fw w M (pm_sa M 275 (pm_up (M 275) (24 * w + 3 * h + m) x)) := fun x => fw_5 (by omega) (by omega)
    by_cases q2 : μ 5 (h * 3 + m) + μ 4 (h * 3 + m) ≤ 9999
    · rw [if_pos q2, r256_90 (by omega) (by omega), r256_105 (by omega) (by omega), i2, e4, e5]
      refine s2 _ (f1 _) rfl ?_
      rw [e1, show min 9999 (μ 5 (h * 3 + m) + μ 4 (h * 3 + m)) = μ 5 (h * 3 + m) + μ 4 (h * 3 + m) by omega]
      exact RM_5 hM hn1 (by omega)
    · rw [if_neg q2, r256_84, r256_105 (by omega) (by omega), i2]
      refine s2 _ (f1 _) rfl ?_
      rw [e1, show min 9999 (μ 5 (h * 3 + m) + μ 4 (h * 3 + m)) = 9999 by omega]
      exact RM_5 hM hn1 (by omega)
  · rw [if_neg q, r256_37 (by omega) (by omega) (by omega) (by omega), i1, i2, e3, e4]
    refine s2 _ (fw_3 (by omega)) rfl ?_
    rw [pay1, if_neg q]
    exact RM_3 hM
theorem l257a (hS : RS M b n a F) (hM : RM M n w μ) (hw : wM n μ) {H : Nat → Int} (hH : ∀ p, p < n 0 → M 277 p = H p) (hHb : ∀ p, p < n 0 → -100000 ≤ H p ∧ H p ≤ 100000) (hK : ∀ M' l3, fw w M M' → RM M' n w (ernA n a F H μ) → pm_Run (d + 5) 257 70 [vA 234, vI (w : Int), vI (n 2 : Int), l3] [] (GF X, M', PTF v) K) : pm_Run (d + 5) 257 7 [vA 234, vI (w : Int), vI 0, PU] [] (GF X, M, PTF v) K := by
  have hn := hS.2.2.1
  have w22 := hM.1
  have main : ∀ k j, j + k = n 2 → ∀ Mx l3, fw w M Mx → (∀ p, p < n 0 → Mx 277 p = H p) → RM Mx n w (itr (fun h μ => ern a F H μ h) j μ) → pm_Run (d + 5) 257 7 [vA 234, vI (w : Int), vI (j : Int), l3] [] (GF X, Mx, PTF v) K := by
    intro k
    induction k with
    | zero =>
      intro j hj Mx l3 fx hx rx
      have hSx := RS_w fx hS
      obtain ⟨⟨hb, e13⟩, ⟨-, -, e2, -⟩, -⟩ := hSx.1
      have en : Mx 241 (Mx 234 13).toNat = (n 2 : Int) := by rw [e13, Int.toNat_natCast, e2]
      rw [r257_7 (by omega) (by omega) (by omega) (by rw [en]; omega), en, if_pos (by omega), show j = n 2 by omega]
      refine hK Mx l3 fx ?_
      rw [ernA_i hw (by omega), show n 2 = j by omega]; exact rx
    | succ k ih =>
      intro j hj Mx l3 fx hx rx
      have hSx := RS_w fx hS
      obtain ⟨⟨hb, e13⟩, ⟨-, -, e2, -⟩, -⟩ := hSx.1
      have en : Mx 241 (Mx 234 13).toNat = (n 2 : Int) := by rw [e13, Int.toNat_natCast, e2]
      have i1 : (8 * (w : Int) + (j : Int)).toNat = 8 * w + j := by omega
      have hwx : wM n (itr (fun h μ => ern a F H μ h) j μ) := wM_itr (fun i ν hi hν => wM_ern hν (by omega) (by omega)) hw
      have e3 := rx.2.2.2.1 j (by omega)
      have b3 := hwx.2.2.2.1 j (by omega)
      have ha := hS.2.2.2.2.1 j (by omega)
      rw [r257_7 (by omega) (by omega) (by omega) (by rw [en]; omega), en, if_neg (by omega), r257_20 (by omega) (by omega), i1, e3]
      refine c253 hSx rx hwx (by omega) (hx (a 2 j).toNat (by omega)) (hHb _ (by omega)) (fun My fy => ?_)
      generalize hE : wi 0 (ev (envH a (itr (fun h μ => ern a F H μ h) j μ) j (H (a 2 j).toNat)) (F 1)) 99 = E
      have hEb : 0 ≤ E ∧ E ≤ 99 := by rw [← hE]; exact wi_b (by omega)
      have st : ∀ x l3 : Int, x = min 9999 (itr (fun h μ => ern a F H μ h) j μ 3 j + E) → pm_Run (d + 5) 257 63 [vA 234, vI (w : Int), vI (j : Int), vI l3] [vI x, vI (8 * (w : Int) + (j : Int)), vA 273] (GF X, My, PTF v) K := by
        intro x l3 hx2
        rw [r257_63 (by omega) (by omega), r257_64, i1]
        refine ih (j + 1) (by omega) _ (vI l3) (fw_t fx (fw_t (fh_w (fk_h fy)) (fw_3 (o := j) (by omega)))) (fun p hp => ?_) ?_
        · rw [sa_n (by omega), fy.1 277 (by omega) (by omega)]; exact hx p hp
        · have := RM_3 (k := j) (x := x) (RM_h (fk_h fy) rx)
          rw [itr, ern, hE, ← hx2]; exact this
      rw [push_i, r257_37 (by omega)]
      by_cases q : itr (fun h μ => ern a F H μ h) j μ 3 j + E ≤ 9999
      · rw [if_pos q, r257_62]; exact st _ _ (by omega)
      · rw [if_neg q, r257_56]; exact st _ _ (by omega)
  exact main (n 2) 0 (by omega) M PU fw_r hH hM
theorem l257c (hS : RS M b n a F) (hM : RM M n w μ) (hw : wM n μ) {h : Nat} (hh : h < n 2) (hK : ∀ M', fw w M M' → RM M' n w (itr (fun m μ => pay μ h m) (n 1) μ) → pm_Run (d + 5) 257 113 [vA 234, vI (w : Int), vI (h : Int), vI (n 1 : Int)] [] (GF X, M', PTF v) K) : pm_Run (d + 5) 257 87 [vA 234, vI (w : Int), vI (h : Int), vI 0] [] (GF X, M, PTF v) K := by
  have hn := hS.2.2.1
  have main : ∀ k j, j + k = n 1 → ∀ Mx, fw w M Mx → RM Mx n w (itr (fun m μ => pay μ h m) j μ) → pm_Run (d + 5) 257 87 [vA 234, vI (w : Int), vI (h : Int), vI (j : Int)] [] (GF X, Mx, PTF v) K := by
    intro k
    induction k with
    | zero =>
      intro j hj Mx fx rx
      obtain ⟨⟨hb, e13⟩, ⟨-, e1, -⟩, -⟩ := (RS_w fx hS).1
      have en : Mx 237 (Mx 234 13).toNat = (n 1 : Int) := by rw [e13, Int.toNat_natCast, e1]
      rw [r257_87 (by omega) (by omega) (by omega) (by rw [en]; omega), en, if_pos (by omega), show j = n 1 by omega]
      refine hK Mx fx ?_
      rw [show n 1 = j by omega]; exact rx
    | succ k ih =>
      intro j hj Mx fx rx
      obtain ⟨⟨hb, e13⟩, ⟨-, e1, -⟩, -⟩ := (RS_w fx hS).1
      have en : Mx 237 (Mx 234 13).toNat = (n 1 : Int) := by rw [e13, Int.toNat_natCast, e1]
      have hwx : wM n (itr (fun m μ => pay μ h m) j μ) := wM_itr (fun i ν hi hν => wM_pay hν hh (by omega) (by omega) (by omega)) hw
      rw [r257_87 (by omega) (by omega) (by omega) (by rw [en]; omega), en, if_neg (by omega), r257_100]
      refine c256 (by omega) (by omega) rx hwx hh (by omega) (fun My fy _ ry => ?_)
      rw [push_u, r257_107]
      exact ih (j + 1) (by omega) My (fw_t fx fy) ry
  exact main (n 1) 0 (by omega) M fw_r hM
theorem l257b (hS : RS M b n a F) (hM : RM M n w μ) (hw : wM n μ) {l3 : PV} (hK : ∀ M' l3, fw w M M' → RM M' n w (payA n μ) → pm_Run (d + 5) 257 119 [vA 234, vI (w : Int), vI (n 2 : Int), l3] [] (GF X, M', PTF v) K) : pm_Run (d + 5) 257 72 [vA 234, vI (w : Int), vI 0, l3] [] (GF X, M, PTF v) K := by
  have hn := hS.2.2.1
  have main : ∀ k j, j + k = n 2 → ∀ Mx l3, fw w M Mx → RM Mx n w (itr (fun h μ => itr (fun m μ => pay μ h m) (n 1) μ) j μ) → pm_Run (d + 5) 257 72 [vA 234, vI (w : Int), vI (j : Int), l3] [] (GF X, Mx, PTF v) K := by
    intro k
    induction k with
    | zero =>
      intro j hj Mx l3 fx rx
      obtain ⟨⟨hb, e13⟩, ⟨-, -, e2, -⟩, -⟩ := (RS_w fx hS).1
      have en : Mx 241 (Mx 234 13).toNat = (n 2 : Int) := by rw [e13, Int.toNat_natCast, e2]
      rw [r257_72 (by omega) (by omega) (by omega) (by rw [en]; omega), en, if_pos (by omega), show j = n 2 by omega]
      refine hK Mx l3 fx ?_
      rw [payA, show n 2 = j by omega]; exact rx
    | succ k ih =>
      intro j hj Mx l3 fx rx
      have hSx := RS_w fx hS
      obtain ⟨⟨hb, e13⟩, ⟨-, -, e2, -⟩, -⟩ := hSx.1
      have en : Mx 241 (Mx 234 13).toNat = (n 2 : Int) := by rw [e13, Int.toNat_natCast, e2]
      have hwx : wM n (itr (fun h μ => itr (fun m μ => pay μ h m) (n 1) μ) j μ) := wM_itr (fun i ν hi hν => wM_itr (fun i2 ν2 hi2 hν2 => wM_pay hν2 (by omega) hi2 (by omega) (by omega)) hν) hw
      rw [r257_72 (by omega) (by omega) (by omega) (by rw [en]; omega), en, if_neg (by omega), r257_85]
      refine l257c hSx rx hwx (by omega) (fun My fy ry => ?_)
      rw [r257_113]
      exact ih (j + 1) (by omega) My _ (fw_t fx fy) ry
  exact main (n 2) 0 (by omega) M l3 fw_r hM
theorem l257d (hS : RS M b n a F) (hM : RM M n w μ) (hw : wM n μ) (h0 : 0 < n 0) {l3 : PV} (hK : ∀ M' l3, fw w M M' → RM M' n w (mov n a μ) → pm_Run (d + 5) 257 184 [vA 234, vI (w : Int), vI (n 1 : Int), l3] [] (GF X, M', PTF v) K) : pm_Run (d + 5) 257 121 [vA 234, vI (w : Int), vI 0, l3] [] (GF X, M, PTF v) K := by
  have hn := hS.2.2.1
  have w22 := hM.1
  have main : ∀ k j, j + k = n 1 → ∀ Mx l3, fw w M Mx → RM Mx n w (itr (fun m μ => ups μ 1 m ((μ 1 m + a 1 m).tmod (n 0))) j μ) → pm_Run (d + 5) 257 121 [vA 234, vI (w : Int), vI (j : Int), l3] [] (GF X, Mx, PTF v) K := by
    intro k
    induction k with
    | zero =>
      intro j hj Mx l3 fx rx
      obtain ⟨⟨hb, e13⟩, ⟨-, e1, -⟩, -⟩ := (RS_w fx hS).1
      have en : Mx 237 (Mx 234 13).toNat = (n 1 : Int) := by rw [e13, Int.toNat_natCast, e1]
      rw [r257_121 (by omega) (by omega) (by omega) (by rw [en]; omega), en, if_pos (by omega), show j = n 1 by omega]
      refine hK Mx l3 fx ?_
      rw [mov, show n 1 = j by omega]; exact rx
    | succ k ih =>
      intro j hj Mx l3 fx rx
      have hSx := RS_w fx hS
      obtain ⟨⟨hb, e13⟩, ⟨e0, e1, -⟩, eg, -⟩ := hSx.1
      have en : Mx 237 (Mx 234 13).toNat = (n 1 : Int) := by rw [e13, Int.toNat_natCast, e1]
      have en0 : Mx 236 (Mx 234 13).toNat = (n 0 : Int) := by rw [e13, Int.toNat_natCast, e0]
      have hwx : wM n (itr (fun m μ => ups μ 1 m ((μ 1 m + a 1 m).tmod (n 0))) j μ) := wM_itr (fun i ν hi hν => by
        have g1 := hS.2.2.2.1 i (by omega)
        have g2 := hν.2.1 i (by omega)
        have := tm_b (x := ν 1 i + a 1 i) (y := (n 0 : Int)) (by omega) (by omega)
        exact wM_1 hν (by omega) this) hw
      have i1 : (3 * (w : Int) + (j : Int)).toNat = 3 * w + j := by omega
      have i2 : (3 * Mx 234 13 + (j : Int)).toNat = 3 * b + j := by omega
      have m1 := (rx.2.2.1 j (by omega)).1
      have m2 := eg j (by omega)
      have g1 := hS.2.2.2.1 j (by omega)
      have g2 := hwx.2.1 j (by omega)
      rw [r257_121 (by omega) (by omega) (by omega) (by rw [en]; omega), en, if_neg (by omega), r257_134 (by omega) (by omega) (by omega) (by omega) (by omega) (by omega) (by rw [i1, i2]; omega) (by rw [en0]; omega) (by rw [en0]; omega), r257_178, i1, i2, m1, m2, en0]
      exact ih (j + 1) (by omega) _ l3 (fw_t fx (fw_1 (o := j) (by omega))) (RM_1 rx)
  exact main (n 1) 0 (by omega) M l3 fw_r hM
theorem c257 (hS : RS M b n a F) (hM : RM M n w μ) (hw : wM n μ) (h0 : 0 < n 0) (hK : ∀ M', fw w M M' → (μ 0 0 < 9999 → RM M' n w (pass n a F μ)) → (∃ ν, wN n ν ∧ RM M' n w ν) → K PU (GF X, M', PTF v)) : pm_Call (d + 7) 257 [vA 234, vI (w : Int)] (GF X, M, PTF v) K := by
  have hn := hS.2.2.1
  have w22 := hM.1
  rw [en257, r257_0]
  refine c255 hS hM (wN_i hw) h0 (fun M1 f1 h1 => ?_)
  have hS1 := RS_w (w := w) (fh_w f1) hS
  rw [push_u, r257_5]
  refine l257a (d := d + 1) (H := hts n F μ) hS1 (RM_h f1 hM) hw h1 (fun p _ => hts_b hS.2.2) (fun M2 l2 f2 r2 => ?_)
  have hS2 := RS_w f2 hS1
  have hw2 : wM n (ernA n a F (hts n F μ) μ) := wM_ernA hw (by omega)
  rw [r257_70]
  refine l257b hS2 r2 hw2 (fun M3 l3 f3 r3 => ?_)
  have hS3 := RS_w f3 hS2
  have hw3 := wM_payA hw2 (by omega) (by omega)
  rw [r257_119]
  refine l257d hS3 r3 hw3 h0 (fun M4 l4 f4 r4 => ?_)
  rw [r257_184 (by omega) (by omega), Int.toNat_natCast, r4.2.1]
  have e0 := passH0 (n := n) (a := a) (F := F) (μ := μ) (H := hts n F μ)
  have hw4 := wM_mov (a := a) hw3 hS.2.2
  refine hK _ (fw_t (fh_w f1) (fw_t f2 (fw_t f3 (fw_t f4 fw_0)))) (fun h9 => ?_) ⟨ups (mov n a (payA n (ernA n a F (hts n F μ) μ))) 0 0 (mov n a (payA n (ernA n a F (hts n F μ) μ)) 0 0 + 1), ⟨?_, hw4.2⟩, RM_0 r4⟩
  rotate_left
  · rw [ups_s]; have := hw.1; omega
  rw [pass, show min 9999 (mov n a (payA n (ernA n a F (hts n F μ) μ)) 0 0 + 1) = mov n a (payA n (ernA n a F (hts n F μ) μ)) 0 0 + 1 by omega]
  exact RM_0 r4
theorem c259 (hS : RS M b n a F) (h : M 270 0 = μ 0 0) (hw : wM n μ) {x : Int} (hx : inR x) : pm_Call (d + 2) 259 [vA 234, vI x] (GF X, M, PTF v) K ↔ K (vI (if isT n μ x = true then 1 else 0)) (GF X, M, PTF v) := by
  have hl := lst_i hw
  have ei : isT n μ x = true ↔ (0 < n 0 ∧ 0 ≤ x ∧ x ≤ (lst μ : Int)) := by rw [isT]; simp
  rw [en259, r259_0, c226 hS.1 hS.2.2, push_i, r259_4 i01]
  by_cases q : 0 < n 0
  · rw [if_pos (c := decide _ = true) (by simpa using q), if_neg (by omega), r259_7, c258 h hw, push_i, r259_13, c179 hx (by decide) (by omega), push_i, r259_16 i01]
    by_cases q2 : 0 ≤ x ∧ x ≤ (lst μ : Int)
    · rw [if_pos (c := decide _ = true) (by simpa using q2), if_neg (by omega), r259_19, r259_24 (by simp), if_pos (ei.mpr ⟨q, q2⟩)]
    · rw [if_neg (c := decide _ = true) (by simpa using q2), if_pos rfl, r259_23, r259_24 (by simp), if_neg (fun z => q2 (ei.mp z).2)]
  · rw [if_neg (c := decide _ = true) (by simpa using q), if_pos rfl, r259_23, r259_24 (by simp), if_neg (fun z => q (ei.mp z).1)]
theorem c260 (hS : RS M b n a F) (hM : RM M n 0 μ) (hw : wM n μ) (h0 : 0 < n 0) {t : Nat} (ht : t ≤ lst μ) (hK : ∀ M', fw 1 M M' → RM M' n 1 (ahd n a F μ t) → (∀ p, p < n 0 → M' 277 p = hts n F (ahd n a F μ t) p) → K PU (GF X, M', PTF v)) : pm_Call (d + 8) 260 [vA 234, vI (t : Int)] (GF X, M, PTF v) K := by
  have hn := hS.2.2.1
  have hl := lst_i hw
  have main : ∀ k j, j + k = t → ∀ Mx, fw 1 M Mx → RM Mx n 1 (ahd n a F μ j) → pm_Run (d + 7) 260 8 [vA 234, vI (t : Int), vI (j : Int)] [] (GF X, Mx, PTF v) K := by
    intro k
    induction k with
    | zero =>
      intro j hj Mx fx rx
      rw [r260_8 (by omega) (by omega), if_pos (by omega), r260_24]
      refine c255 (w := 1) (RS_w fx hS) rx (wN_i (wM_ahd hw hS.2.2 j)) h0 (fun My fy hy => ?_)
      rw [push_u, r260_29]
      rw [show j = t by omega] at rx hy
      exact hK My (fw_t fx (fh_w fy)) (RM_h fy rx) hy
    | succ k ih =>
      intro j hj Mx fx rx
      rw [r260_8 (by omega) (by omega), if_neg (by omega), r260_13]
      refine c257 (w := 1) (RS_w fx hS) rx (wM_ahd hw hS.2.2 j) h0 (fun My fy ry _ => ?_)
      rw [push_u, r260_18]
      exact ih (j + 1) (by omega) My (fw_t fx fy) (ry (by rw [ahd_0 hw]; omega))
  rw [en260, r260_0]
  refine (c232 (t := 1) (s := 0) (by omega) (by omega) (by omega)).mpr ?_
  rw [push_u, r260_6]
  exact main t 0 (by omega) _ lcp_w (lcp_R (by omega) (by omega) (by omega) hM)
end RFa
