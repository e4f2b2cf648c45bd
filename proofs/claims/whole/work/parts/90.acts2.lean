/-! The class's acts: bids, gifts, hours, undoing. -/
section AC2
variable {d c : Nat} {X : Nat × (Nat → Int)} {v : Nat → Int} {M M' : PH} {K : PV → PS → Prop} {n : Nat → Nat} {a μ μ' : PH} {F : Nat → List Int} {B B' : Nat → Int} {N N' : Nat} {rf rf' : Nat → Int} {sd sd' : Int} {A A' : Nat} {P P' : Nat → PH} {R : Nat} {sp sh : Nat → Int} {pi : PB2} {fe : Int × Int} {T T' : Int}
theorem paI_c (h : paI M n A P) (hw : wM n μ) (hP : PA M' (min 20 (A + 1)) (pcons μ P)) : paI M' n (min 20 (A + 1)) (pcons μ P) := ⟨hP, fun k hk => by
  cases k with
  | zero => exact hw
  | succ k => exact h.2 k (by omega)⟩
/-- a moment is put down as past, then changed -/
theorem IC_1 {M1 : PH} (hT : T ≤ T') (h : IC M v n a F μ B N rf sd A P R sp sh pi fe T) (f1 : ∀ q, q ≠ 103 → (q < 105 ∨ 224 < q) → M1 q = M q) (hP : PA M1 (min 20 (A + 1)) (pcons μ P)) (f2 : ∀ q, (q < 3 ∨ 8 < q) → M' q = M1 q) (hm : mo M' 3 = μ') (hw : wM n μ') : IC0 M' v n a F μ' B N rf sd (min 20 (A + 1)) (pcons μ P) R sp sh pi fe T' ∧ frR M M' := by
  have h3' := h.2.2.1.2
  have hpa := h.2.2.2.2.2.2.2.2.1
  have htp := h.2.2.2.1
  refine IC_0 hT h (fun c _ _ q z0 _ _ _ _ z3 z4 => (f2 q z3).trans (f1 q (by omega) (by omega))) ?_ hm hw ?_
  · exact tpI_f ((f2 0 (by omega)).trans (f1 0 (by omega) (by omega))) ((f2 1 (by omega)).trans (f1 1 (by omega) (by omega))) htp
  · exact paI_c hpa h3' (PA_f (fun q h1 h2 => f2 q (by omega)) hP)
theorem a146 (h : IC M v n a F μ B N rf sd A P R sp sh pi fe T) (hT : T + 1 ≤ T') {x y z : Int} (hx : inR x) (hy : inR y) (hz : inR z) (hK0 : ¬ (isIx (n 2) x = true ∧ isIx (n 1) y = true ∧ 0 ≤ z ∧ z ≤ 20) → ∀ M' v', IC M' v' n a F μ B N (pm_up rf 2 (rf 2 + 1)) sd A P R sp sh pi fe T' → frR M M' → K (vI (-1)) (GF X, M', PTF v')) (hK1 : isIx (n 2) x = true ∧ isIx (n 1) y = true ∧ 0 ≤ z ∧ z ≤ 20 → ∀ M' v', IC M' v' n a F (ups μ 4 (x.toNat * 3 + y.toNat) z) B N rf sd (min 20 (A + 1)) (pcons μ P) R sp sh pi fe T' → frR M M' → K (vI (μ 4 (x.toNat * 3 + y.toNat))) (GF X, M', PTF v')) : pm_Call (d + 4) 146 [vA 0, vI x, vI y, vI z] (GF X, M, PTF v) K := by
  have hI := h
  obtain ⟨⟨c, c1, c2, c3, c4, c5, c6, c7, c8⟩, h2, ⟨h3, h3'⟩, ⟨t1, t2, t3, t4, t5⟩, h5, h6, h7, h8, ⟨p1, p2⟩, ⟨i1, i2⟩, h11, h12⟩ := h
  have hn8 := h2.1.2.2.1
  have hn3 := h2.1.2.1
  have bad : ¬ (isIx (n 2) x = true ∧ isIx (n 1) y = true ∧ 0 ≤ z ∧ z ≤ 20) → pm_Run (d + 3) 146 26 [vA 0, vI x, vI y, vI z, PU, PU] [] (GF X, M, PTF v) K := by
    intro q
    rw [r146_26]
    refine c164 (j := 2) hI hT (by omega) (fun M' k1 k2 => ?_)
    rw [push_i, r146_31]
    exact hK0 q M' v k1 k2
  rw [en146, r146_0, c170 c1 c2 (c7.1 2 (by omega)) hn8 hx, push_i, r146_5 i01]
  by_cases q : isIx (n 2) x = true
  · rw [if_pos q, if_neg (by omega), r146_8, c169 c1 c2 (c7.1 1 (by omega)) hn3 hy, push_i, r146_13 i01]
    by_cases q1 : isIx (n 1) y = true
    · rw [if_pos q1, if_neg (by omega), r146_16 hz]
      by_cases q2 : z < 0
      · rw [if_pos q2]; exact bad (by omega)
      · rw [if_neg q2, r146_20 hz]
        by_cases q3 : z ≤ 20
        · obtain ⟨j, rfl, hj⟩ := ixN q
          obtain ⟨m, rfl, hm⟩ := ixN q1
          have e : ((j : Int) * 3 + (m : Int)).toNat = j * 3 + m := by omega
          have e7 : M 7 (j * 3 + m) = μ 4 (j * 3 + m) := by rw [← h3]; exact mo_4 (b := 3) (by omega)
          rw [if_pos q3, r146_32, c55, push_i, r146_37 (by omega) (by omega)]
          refine c101 p1 h3 (fun M1 f1 hP => ?_)
          rw [push_u, r146_62 (by omega) (by omega), r146_73, e, e7]
          have hm1 : mo M1 3 = μ := (mo_fr (fun i hi => f1 _ (by omega) (by omega))).trans h3
          have hm2 : mo (pm_sa M1 7 (pm_up (M1 7) (j * 3 + m) z)) 3 = ups μ 4 (j * 3 + m) z := by
            rw [← hm1]; exact mo_up (b := 3) (i := 4) (show j * 3 + m < 24 by omega)
          obtain ⟨g1, g2⟩ := IC_1 (T' := T') (by omega) hI f1 hP (fun q hq => sa_n (by omega)) hm2 (wM_4 h3' hj hm (by omega) (by omega))
          refine c167 g1 (fun M' v' k1 k2 _ => ?_)
          rw [push_u, r146_77]
          have := hK1 ⟨q, q1, by omega, q3⟩ M' v'
          rw [Int.toNat_natCast, Int.toNat_natCast] at this
          exact this k1 (frR_t g2 k2)
        · rw [if_neg q3]; exact bad (by omega)
    · rw [if_neg q1, if_pos rfl]; exact bad (fun w => q1 w.2.1)
  · rw [if_neg q, if_pos rfl]; exact bad (fun w => q w.1)
def givOk (n : Nat → Nat) (μ : PH) (x y z : Int) : Prop := isIx (n 2) x = true ∧ isIx (n 2) y = true ∧ x ≠ y ∧ 1 ≤ z ∧ z ≤ μ 3 x.toNat ∧ z ≤ 9999 - μ 3 y.toNat
def givM (μ : PH) (i j : Nat) (z : Int) : PH := ups (ups μ 3 i (μ 3 i - z)) 3 j (μ 3 j + z)
theorem a147 (h : IC M v n a F μ B N rf sd A P R sp sh pi fe T) (hT : T + 1 ≤ T') {x y z : Int} (hx : inR x) (hy : inR y) (hz : inR z) (hK0 : ¬ givOk n μ x y z → ∀ M' v', IC M' v' n a F μ B N (pm_up rf 2 (rf 2 + 1)) sd A P R sp sh pi fe T' → frR M M' → K (vI 0) (GF X, M', PTF v')) (hK1 : givOk n μ x y z → ∀ M' v', IC M' v' n a F (givM μ x.toNat y.toNat z) B N rf sd (min 20 (A + 1)) (pcons μ P) R sp sh pi fe T' → frR M M' → K (vI 1) (GF X, M', PTF v')) : pm_Call (d + 4) 147 [vA 0, vI x, vI y, vI z] (GF X, M, PTF v) K := by
  have hI := h
  obtain ⟨⟨c, c1, c2, c3, c4, c5, c6, c7, c8⟩, h2, ⟨h3, h3'⟩, ⟨t1, t2, t3, t4, t5⟩, h5, h6, h7, h8, ⟨p1, p2⟩, ⟨i1, i2⟩, h11, h12⟩ := h
  have hn8 := h2.1.2.2.1
  have bad : ¬ givOk n μ x y z → pm_Run (d + 3) 147 56 [vA 0, vI x, vI y, vI z] [] (GF X, M, PTF v) K := by
    intro q
    rw [r147_56]
    refine c164 (j := 2) hI hT (by omega) (fun M' k1 k2 => ?_)
    rw [push_i, r147_61 (by decide), if_pos rfl, r147_69, r147_70 (by simp)]
    exact hK0 q M' v k1 k2
  rw [en147, r147_0, c170 c1 c2 (c7.1 2 (by omega)) hn8 hx, push_i, r147_5 i01]
  by_cases q : isIx (n 2) x = true
  · rw [if_pos q, if_neg (by omega), r147_8, c170 c1 c2 (c7.1 2 (by omega)) hn8 hy, push_i, r147_13 i01]
    by_cases q1 : isIx (n 2) y = true
    · rw [if_pos q1, if_neg (by omega), r147_16 hx hy]
      by_cases q2 : x = y
      · rw [if_pos q2]; exact bad (fun w => w.2.2.1 q2)
      · rw [if_neg q2, r147_21 hz]
        by_cases q3 : z < 1
        · rw [if_pos q3]; exact bad (fun w => by have := w.2.2.2.1; omega)
        · obtain ⟨i, rfl, hi⟩ := ixN q
          obtain ⟨j, rfl, hj⟩ := ixN q1
          have ei : M 6 i = μ 3 i := by rw [← h3]; exact mo_3 (b := 3) (by omega)
          have ej : M 6 j = μ 3 j := by rw [← h3]; exact mo_3 (b := 3) (by omega)
          have bi := h3'.2.2.2.1 i (by omega)
          have bj := h3'.2.2.2.1 j (by omega)
          rw [if_neg q3, r147_26 (by omega) (by omega) hz (by rw [Int.toNat_natCast, ei]; omega), Int.toNat_natCast, ei]
          by_cases q4 : μ 3 i < z
          · rw [if_pos q4]; exact bad (fun w => by have := w.2.2.2.2.1; rw [Int.toNat_natCast] at this; omega)
          · rw [if_neg q4, r147_39 (by omega) (by omega) hz (by rw [Int.toNat_natCast, ej]; omega), Int.toNat_natCast, ej]
            by_cases q5 : z ≤ 9999 - μ 3 j
            · rw [if_pos q5, r147_71]
              refine c101 p1 h3 (fun M1 f1 hP => ?_)
              rw [push_u, r147_82 (by omega) (by omega), r147_95 (by omega) (by omega), r147_108, Int.toNat_natCast, Int.toNat_natCast]
              have hm1 : mo M1 3 = μ := (mo_fr (fun i hi => f1 _ (by omega) (by omega))).trans h3
              have f6 : M1 6 = M 6 := f1 6 (by omega) (by omega)
              have hm2 : mo (pm_sa M1 6 (pm_up (M1 6) i (M1 6 i - z))) 3 = ups μ 3 i (μ 3 i - z) := by
                rw [f6, ei, ← f6, ← hm1]
                exact mo_up (b := 3) (i := 3) (show i < 8 by omega)
              generalize hM2 : pm_sa M1 6 (pm_up (M1 6) i (M1 6 i - z)) = M2 at hm2 ⊢
              have e2 : M2 6 j = μ 3 j := by
                rw [← hM2, sa_s, up_n (by omega), f6]; exact ej
              have hm3 : mo (pm_sa M2 6 (pm_up (M2 6) j (M2 6 j + z))) 3 = givM μ i j z := by
                rw [e2, givM, ← hm2]
                exact mo_up (b := 3) (i := 3) (show j < 8 by omega)
              have hw1 : wM n (ups μ 3 i (μ 3 i - z)) := wM_3 h3' hi (by omega)
              obtain ⟨g1, g2⟩ := IC_1 (T' := T') (by omega) hI f1 hP (fun q hq => by rw [sa_n (by omega), ← hM2, sa_n (by omega)]) hm3 (wM_3 hw1 hj (by omega))
              refine c167 g1 (fun M' v' k1 k2 _ => ?_)
              rw [push_u, r147_112]
              have := hK1 ⟨q, q1, q2, by omega, by rw [Int.toNat_natCast]; omega, by rw [Int.toNat_natCast]; exact q5⟩ M' v'
              rw [Int.toNat_natCast, Int.toNat_natCast] at this
              exact this k1 (frR_t g2 k2)
            · rw [if_neg q5]; exact bad (fun w => by have := w.2.2.2.2.2; rw [Int.toNat_natCast] at this; omega)
    · rw [if_neg q1, if_pos rfl]; exact bad (fun w => q1 w.2.1)
  · rw [if_neg q, if_pos rfl]; exact bad (fun w => q w.1)
theorem a148 (h : IC M v n a F μ B N rf sd A P R sp sh pi fe T) (hT : T + 1 ≤ T') {x z : Int} (hx : inR x) (hz : inR z) (hK0 : ¬ (isIx (n 1) x = true ∧ 0 ≤ z ∧ z ≤ 9) → ∀ M' v', IC M' v' n a F μ B N (pm_up rf 2 (rf 2 + 1)) sd A P R sp sh pi fe T' → frR M M' → K (vI (-1)) (GF X, M', PTF v')) (hK1 : isIx (n 1) x = true ∧ 0 ≤ z ∧ z ≤ 9 → ∀ M' v', IC M' v' n a F (ups μ 2 x.toNat z) B N rf sd (min 20 (A + 1)) (pcons μ P) R sp sh pi fe T' → frR M M' → K (vI (μ 2 x.toNat)) (GF X, M', PTF v')) : pm_Call (d + 4) 148 [vA 0, vI x, vI z] (GF X, M, PTF v) K := by
  have hI := h
  obtain ⟨⟨c, c1, c2, c3, c4, c5, c6, c7, c8⟩, h2, ⟨h3, h3'⟩, ⟨t1, t2, t3, t4, t5⟩, h5, h6, h7, h8, ⟨p1, p2⟩, ⟨i1, i2⟩, h11, h12⟩ := h
  have hn3 := h2.1.2.1
  have bad : ¬ (isIx (n 1) x = true ∧ 0 ≤ z ∧ z ≤ 9) → pm_Run (d + 3) 148 18 [vA 0, vI x, vI z, PU] [] (GF X, M, PTF v) K := by
    intro q
    rw [r148_18]
    refine c164 (j := 2) hI hT (by omega) (fun M' k1 k2 => ?_)
    rw [push_i, r148_23]
    exact hK0 q M' v k1 k2
  rw [en148, r148_0, c169 c1 c2 (c7.1 1 (by omega)) hn3 hx, push_i, r148_5 i01]
  by_cases q : isIx (n 1) x = true
  · rw [if_pos q, if_neg (by omega), r148_8 hz]
    by_cases q2 : z < 0
    · rw [if_pos q2]; exact bad (by omega)
    · rw [if_neg q2, r148_12 hz]
      by_cases q3 : z ≤ 9
      · obtain ⟨m, rfl, hm⟩ := ixN q
        have e5 : M 5 m = μ 2 m := by rw [← h3]; exact mo_2 (b := 3) (by omega)
        rw [if_pos q3, r148_24 (by omega) (by omega)]
        refine c101 p1 h3 (fun M1 f1 hP => ?_)
        rw [push_u, r148_45 (by omega) (by omega), r148_55, Int.toNat_natCast, e5]
        have hm1 : mo M1 3 = μ := (mo_fr (fun i hi => f1 _ (by omega) (by omega))).trans h3
        have hm2 : mo (pm_sa M1 5 (pm_up (M1 5) m z)) 3 = ups μ 2 m z := by
          rw [← hm1]; exact mo_up (b := 3) (i := 2) (show m < 3 by omega)
        obtain ⟨g1, g2⟩ := IC_1 (T' := T') (by omega) hI f1 hP (fun q hq => sa_n (by omega)) hm2 (wM_2 h3' hm (by omega))
        refine c167 g1 (fun M' v' k1 k2 _ => ?_)
        rw [push_u, r148_59]
        have := hK1 ⟨q, by omega, q3⟩ M' v'
        rw [Int.toNat_natCast] at this
        exact this k1 (frR_t g2 k2)
      · rw [if_neg q3]; exact bad (by omega)
  · rw [if_neg q, if_pos rfl]; exact bad (fun w => q w.1)
theorem a151 (h : IC M v n a F μ B N rf sd A P R sp sh pi fe T) (hT : T + 1 ≤ T') (hK0 : A = 0 → ∀ M' v', IC M' v' n a F μ B N (pm_up rf 4 (rf 4 + 1)) sd A P R sp sh pi fe T' → frR M M' → K (vI 0) (GF X, M', PTF v')) (hK1 : 0 < A → ∀ M' v', IC M' v' n a F (P 0) B N rf sd (A - 1) (fun k => P (k + 1)) R sp sh pi fe T' → frR M M' → K (vI 1) (GF X, M', PTF v')) : pm_Call (d + 4) 151 [vA 0] (GF X, M, PTF v) K := by
  have hI := h
  obtain ⟨⟨c, c1, c2, c3, c4, c5, c6, c7, c8⟩, h2, ⟨h3, h3'⟩, h4, h5, h6, h7, h8, ⟨p1, p2⟩, ⟨i1, i2⟩, h11, h12⟩ := h
  obtain ⟨xx, -, pb, -, pa, -⟩ := id p1
  rw [en151, r151_0 (by rw [pa]; omega), pa]
  by_cases q : A = 0
  · rw [if_neg (by omega), r151_10]
    refine c164 (j := 4) hI hT (by omega) (fun M' k1 k2 => ?_)
    rw [push_i, r151_15 (by decide), if_pos rfl, r151_23, r151_24 (by simp)]
    exact hK0 q M' v k1 k2
  · obtain ⟨A1, rfl⟩ : ∃ A1, A = A1 + 1 := ⟨A - 1, by omega⟩
    rw [if_pos (by omega), r151_25]
    refine c102 p1 (fun M1 f1 hm hP => ?_)
    rw [push_u, r151_36]
    obtain ⟨g1, g2⟩ := IC_0 (T' := T') (by omega) hI (fun c _ _ q _ _ _ _ _ z3 z4 => f1 q (by omega) z3) (tpI_f (f1 0 (by omega) (by omega)) (f1 1 (by omega) (by omega)) h4) hm (p2 0 (by omega)) ⟨hP, fun k hk => p2 (k + 1) (by omega)⟩
    refine c167 g1 (fun M' v' k1 k2 _ => ?_)
    rw [push_u, r151_40]
    exact hK1 (by omega) M' v' k1 (frR_t g2 k2)
def hrOk (n : Nat → Nat) (μ : PH) (x w : Int) : Bool := decide (0 < n 0 ∧ 1 ≤ x ∧ x ≤ w ∧ x ≤ 9999 - μ 0 0)
theorem hrOk_i {x w : Int} : hrOk n μ x w = true ↔ 0 < n 0 ∧ 1 ≤ x ∧ x ≤ w ∧ x ≤ 9999 - μ 0 0 := by simp [hrOk]
theorem c174 (h : IC M v n a F μ B N rf sd A P R sp sh pi fe T) {x w : Int} (hx : inR x) (hw : inR w) : pm_Call (d + 2) 174 [vA 0, vI x, vI w] (GF X, M, PTF v) K ↔ K (vI (if hrOk n μ x w = true then 1 else 0)) (GF X, M, PTF v) := by
  obtain ⟨⟨c, c1, c2, c3, c4, c5, c6, c7, c8⟩, h2, ⟨h3, h3'⟩, -⟩ := h
  have hn24 := h2.1.1
  have e0 : M 3 0 = μ 0 0 := by rw [← h3]; rfl
  have b0 := h3'.1
  have bad : ¬ (0 < n 0 ∧ 1 ≤ x ∧ x ≤ w ∧ x ≤ 9999 - μ 0 0) → (pm_Run (d + 1) 174 36 [vA 0, vI x, vI w] [] (GF X, M, PTF v) K ↔ K (vI (if hrOk n μ x w = true then 1 else 0)) (GF X, M, PTF v)) := by
    intro q
    rw [r174_36, r174_37 (by simp), if_neg (fun u => q (hrOk_i.mp u))]
  rw [en174, r174_0, c168 c1 c2 (c7.1 0 (by omega)) hn24, push_i, r174_4 i01]
  by_cases q : 0 < n 0
  · rw [if_pos (c := decide _ = true) (by simpa using q), if_neg (by omega), r174_7 hx]
    by_cases q1 : x < 1
    · rw [if_pos q1]; exact bad (by omega)
    · rw [if_neg q1, r174_12 hx hw]
      by_cases q2 : w < x
      · rw [if_pos q2]; exact bad (by omega)
      · rw [if_neg q2, r174_17 hx (by rw [e0]; omega), e0]
        by_cases q3 : 9999 - μ 0 0 < x
        · rw [if_pos q3]; exact bad (by omega)
        · rw [if_neg q3, r174_32, r174_37 (by simp), if_pos (hrOk_i.mpr (by omega))]
  · rw [if_neg (c := decide _ = true) (by simpa using q), if_pos rfl]; exact bad (by omega)
theorem ti57 : isTi 57 := by simp [isTi]
theorem a149 (h : IC M v n a F μ B N rf sd A P R sp sh pi fe T) (hT : T + 1 ≤ T') {x : Int} (hx : inR x) (hK0 : hrOk n μ x 200 = false → ∀ M' v', IC M' v' n a F μ B N (pm_up rf 3 (rf 3 + 1)) sd A P R sp sh pi fe T' → frR M M' → K (vI (-1)) (GF X, M', PTF v')) (hK1 : hrOk n μ x 200 = true → ∀ M' v', IC M' v' n a F (ahd n a F μ x.toNat) B N rf sd (min 20 (A + 1)) (pcons μ P) R sp sh pi fe T' → frR M M' → K (vI (ahd n a F μ x.toNat 0 0)) (GF X, M', PTF v')) : pm_Call (d + 7) 149 [vA 0, vI x] (GF X, M, PTF v) K := by
  have hI := h
  obtain ⟨⟨c, c1, c2, c3, c4, c5, c6, c7, c8⟩, h2, ⟨h3, h3'⟩, h4, h5, h6, h7, h8, ⟨p1, p2⟩, ⟨i1, i2⟩, h11, h12⟩ := h
  have hcc : c = 9 ∨ c = 35 := c1
  rw [en149, r149_0, c174 hI hx (by decide), push_i, r149_8 i01]
  by_cases q : hrOk n μ x 200 = true
  · have q' := hrOk_i.mp q
    obtain ⟨k, rfl⟩ := Int.eq_ofNat_of_zero_le (show 0 ≤ x by omega)
    rw [if_pos q, if_pos (by omega), r149_17]
    refine c101 p1 h3 (fun M1 f1 hP => ?_)
    rw [push_u, r149_28]
    have hm1 : mo M1 3 = μ := (mo_fr (fun i hi => f1 _ (by omega) (by omega))).trans h3
    refine loopI k (fun j (M' : PH) => (∀ q, q ≠ c + 20 → q ≠ c + 21 → q ≠ 58 → q ≠ 59 → (q < 3 ∨ 8 < q) → M' q = M1 q) ∧ mo M' 3 = ahd n a F μ j) (fun j M' => pm_Run (d + 6) 149 30 [vA 0, vI (k : Int), vI (j : Int)] [] (GF X, M', PTF v) K) (fun j M' hj hJ ih => ?_) (fun M' hJ => ?_) M1 ⟨fun _ _ _ _ _ _ => rfl, hm1⟩
    · obtain ⟨g1, g2⟩ := hJ
      have hC' : isC M' c n a F := isC_fr (fun i hi => (g1 _ (by omega) (by omega) (by omega) (by omega) (by omega)).trans (f1 _ (by omega) (by omega))) c7
      rw [r149_30 (by omega) (by omega), if_neg (by omega), r149_35 c1 c2]
      refine c121 c1 ti57 mo3 hC' h2 g2 (wM_ahd h3' h2 j) (fun M2 k1 k2 => ?_)
      rw [push_u, r149_50]
      exact ih M2 ⟨fun q z1 z2 z3 z4 z5 => (k1 q z1 z2 z3 z4 (by omega)).trans (g1 q z1 z2 z3 z4 z5), k2⟩
    · obtain ⟨g1, g2⟩ := hJ
      rw [r149_30 (by omega) (by omega), if_pos (by omega), r149_56]
      obtain ⟨u1, u2⟩ := IC_0 (M' := M') (T' := T') (by omega) hI (fun c' y1 y2 q _ z1 z2 z3 z4 z5 z6 => by
        have : c' = c := by omega
        subst this
        exact (g1 q z1 z2 z3 z4 z5).trans (f1 q (by omega) (by omega))) (tpI_f ((g1 0 (by omega) (by omega) (by omega) (by omega) (by omega)).trans (f1 0 (by omega) (by omega))) ((g1 1 (by omega) (by omega) (by omega) (by omega) (by omega)).trans (f1 1 (by omega) (by omega))) h4) g2 (wM_ahd h3' h2 k) (paI_c ⟨p1, p2⟩ h3' (PA_f (fun q h1 h2 => g1 q (by omega) (by omega) (by omega) (by omega) (by omega)) hP))
      refine c167 u1 (fun M3 v' k1 k2 _ => ?_)
      have e0 : M3 3 0 = ahd n a F μ k 0 0 := by rw [← k1.2.2.1.1]; rfl
      rw [push_u, r149_60, e0]
      exact hK1 q M3 v' k1 (frR_t u2 k2)
  · rw [if_neg q, if_neg (by simp), r149_11]
    refine c164 (j := 3) hI hT (by omega) (fun M' k1 k2 => ?_)
    rw [push_i, r149_16]
    exact hK0 (by simpa using q) M' v k1 k2
end AC2
