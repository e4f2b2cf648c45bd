/-! The class's queries, the rest of them. -/
def qWsh (n : Nat → Nat) (a : PH) (F : Nat → List Int) (μ : PH) (x y z : Int) : Int := if isIx (n 2) x = true ∧ (-999 ≤ y ∧ y ≤ 999) ∧ (z = -1 ∨ isIx (n 1) z = true) then (if (wl n a F μ x.toNat y (11 ^ n 1)).1 = 31 then -1 else if z = -1 then (wl n a F μ x.toNat y (11 ^ n 1)).1 else dg 11 (n 1) (wl n a F μ x.toNat y (11 ^ n 1)).2 z.toNat) else -1
def qRst (n : Nat → Nat) (a : PH) (F : Nat → List Int) (μ : PH) (x : Int) : Int := if 0 < n 0 ∧ -1 ≤ x then (if x = -1 then (rst n a F 12 1 μ).1 else if isIx (n 2) (x.tdiv 10) = true ∧ isIx (n 1) (x.tmod 10) = true then (rst n a F 12 1 μ).2 4 ((x.tdiv 10).toNat * 3 + (x.tmod 10).toNat) else -1) else -1
def isX (n : Nat → Nat) (x y z : Int) : Bool := decide (isIx (n 2) x = true ∧ isIx (n 2) y = true ∧ 0 ≤ z ∧ z ≤ 99)
theorem isX_i {n : Nat → Nat} {x y z : Int} : isX n x y z = true ↔ isIx (n 2) x = true ∧ isIx (n 2) y = true ∧ 0 ≤ z ∧ z ≤ 99 := by simp [isX]
def qAcr (n : Nat → Nat) (a : PH) (F : Nat → List Int) (μ : PH) (x y z : Int) : Int := if isX n x y z = true then fi (fun t => rch (n 0) (flo n a F μ z) (a 2 x.toNat).toNat t (a 2 y.toNat).toNat) (lst μ + 1) 0 else -1
def qLat (n : Nat → Nat) (a : PH) (F : Nat → List Int) (μ : PH) (x y z : Int) : Int := if isX n x y z = true then (if fi (fun s => gd (n 0) (flo n a F μ z) (a 2 y.toNat).toNat (lst μ) (s + 1) (a 2 x.toNat).toNat) (lst μ + 1) 0 = -1 then -1 else lst μ - fi (fun s => gd (n 0) (flo n a F μ z) (a 2 y.toNat).toNat (lst μ) (s + 1) (a 2 x.toNat).toNat) (lst μ + 1) 0) else -1
def mtT (n : Nat → Nat) (a μ : PH) : Int := if n 1 = 0 then -1 else fi (meeT n a μ) (n 0) 0
def qMee (n : Nat → Nat) (a μ : PH) (x : Int) : Int := if mtT n a μ = -1 then -1 else if x = 0 then μ 0 0 + mtT n a μ else if x = 1 then (μ 1 0 + mtT n a μ * a 1 0).tmod (n 0) else -1
def JD (n : Nat → Nat) (F : Nat → List Int) (μ : PH) (R : Nat) (sp sh : Nat → Int) : Nat × Nat × Nat := jd (xpl n F μ R sp sh) (2 ^ n 2 - 1) (2 ^ n 2)
def qPay (n : Nat → Nat) (F : Nat → List Int) (μ : PH) (R : Nat) (sp sh : Nat → Int) (x : Int) : Int := if R = 0 then -1 else if x = 0 then ((JD n F μ R sp sh).1 : Int) else if x = 1 then (if (JD n F μ R sp sh).1 = 0 then 0 else ((JD n F μ R sp sh).2.1 : Int)) else if x = 2 then ((JD n F μ R sp sh).2.2 : Int) else -1
def qOct (pi : PB2) (x : Int) : Int := if isIx pi.1 x = true then pi.2 x.toNat else -1
section PUB3
variable {d c : Nat} {X : Nat × (Nat → Int)} {v : Nat → Int} {M M' : PH} {K : PV → PS → Prop} {n : Nat → Nat} {a μ : PH} {F : Nat → List Int} {B : Nat → Int} {N : Nat} {rf : Nat → Int} {sd : Int} {A : Nat} {P : Nat → PH} {R : Nat} {sp sh : Nat → Int} {pi : PB2} {fe : Int × Int} {T T' : Int}
theorem q153 (h : IC M v n a F μ B N rf sd A P R sp sh pi fe T) (hT : T + 100 ≤ T') (hT9 : T < 800000000) {x y z : Int} (hx : inR x) (hy : inR y) (hz : inR z) (hK : ∀ M', IC M' v n a F μ B N rf sd A P R sp sh pi fe T' → frR M M' → K (vI (qWsh n a F μ x y z)) (GF X, M', PTF v)) : pm_Call (d + 8) 153 [vA 0, vI x, vI y, vI z] (GF X, M, PTF v) K := by
  have hI := h
  obtain ⟨⟨c, c1, u2, c3, c4, c5, c6, c7, c8⟩, h2, ⟨h3, h3'⟩, ⟨t1, t2, t3, t4, t5⟩, h5, ⟨k, h6⟩, h7, h8, ⟨p1, p2⟩, ⟨i1, i2⟩, h11, h12⟩ := h
  have kk := hK M (IC_T (by omega) hI) frR_r
  have hn8 := h2.1.2.2.1
  have hn3 := h2.1.2.1
  have bad : ¬ (isIx (n 2) x = true ∧ (-999 ≤ y ∧ y ≤ 999) ∧ (z = -1 ∨ isIx (n 1) z = true)) → pm_Run (d + 7) 153 35 [vA 0, vI x, vI y, vI z] [] (GF X, M, PTF v) K := by
    intro q
    unfold qWsh at kk
    rw [if_neg q] at kk
    rw [r153_35]; exact kk
  rw [en153, r153_0, c170 c1 u2 (c7.1 2 (by omega)) hn8 hx, push_i, r153_5 i01]
  by_cases q : isIx (n 2) x = true
  · obtain ⟨j, rfl, hj⟩ := ixN q
    rw [if_pos q, if_neg (by omega), r153_8 hy]
    by_cases q1 : y < -999
    · rw [if_pos q1]; exact bad (by omega)
    · rw [if_neg q1, r153_15 hy]
      by_cases q2 : 999 < y
      · rw [if_pos q2]; exact bad (by omega)
      · rw [if_neg q2, r153_22 hz]
        have good : (z = -1 ∨ isIx (n 1) z = true) → pm_Run (d + 7) 153 37 [vA 0, vI (j : Int), vI y, vI z] [] (GF X, M, PTF v) K := by
          intro q3
          rw [r153_37]
          refine c2 c1 c5 c7 h2 h3 h3' h7 (by omega) hj hy (fun M' hf hB hw => ?_)
          obtain ⟨hI', hr⟩ := IC_W (T' := T') (by omega) hI c1 u2 hf (BI_f (fun _ _ _ => rfl) (by omega) hB)
          have kk' := hK M' hI' hr
          unfold qWsh at kk'
          rw [if_pos ⟨q, by omega, q3⟩, Int.toNat_natCast] at kk'
          rw [push_i, r153_46 (by split <;> omega)]
          by_cases q4 : (wl n a F μ j y (11 ^ n 1)).1 = 31
          · rw [if_pos q4] at kk'
            rw [if_pos q4, if_neg (by simp), r153_49]; exact kk'
          · rw [if_neg q4] at kk'
            obtain ⟨w1, w2⟩ := hw.2 q4
            rw [if_neg q4, if_pos (by omega), r153_51 hz]
            by_cases q5 : z = -1
            · rw [if_pos q5] at kk'
              rw [if_neg (by simpa using q5), r153_56, r153_75, w1]; exact kk'
            · rw [if_neg q5] at kk'
              obtain ⟨m, rfl, hm⟩ := ixN (q3.resolve_left q5)
              rw [if_pos q5, r153_66 (by omega) (by omega), r153_75, Int.toNat_natCast, w2 m (by omega)]
              exact kk'
        by_cases q3 : z = -1
        · rw [if_pos q3]; exact good (Or.inl q3)
        · rw [if_neg q3, r153_27, c169 c1 u2 (c7.1 1 (by omega)) hn3 hz, push_i, r153_32 i01]
          by_cases q4 : isIx (n 1) z = true
          · rw [if_pos q4, if_pos (by omega)]; exact good (Or.inr q4)
          · rw [if_neg q4, if_neg (by simp)]; exact bad (fun w => w.2.2.elim q3 q4)
  · rw [if_neg q, if_pos rfl]; exact bad (fun w => q w.1)
theorem q154 (h : IC M v n a F μ B N rf sd A P R sp sh pi fe T) (hT : T + 100 ≤ T') (hT9 : T < 800000000) {x : Int} (hx : inR x) (hK : ∀ M', IC M' v n a F μ B N rf sd A P R sp sh pi fe T' → frR M M' → K (vI (qRst n a F μ x)) (GF X, M', PTF v)) : pm_Call (d + 8) 154 [vA 0, vI x] (GF X, M, PTF v) K := by
  have hI := h
  obtain ⟨⟨c, c1, c2, c3, u4, c5, c6, c7, c8⟩, h2, ⟨h3, h3'⟩, ⟨t1, t2, t3, t4, t5⟩, h5, ⟨k, h6⟩, h7, h8, ⟨p1, p2⟩, ⟨i1, i2⟩, h11, h12⟩ := h
  have kk := hK M (IC_T (by omega) hI) frR_r
  have hn8 := h2.1.2.2.1
  have hn3 := h2.1.2.1
  have hn24 := h2.1.1
  have hr1 : inR (x.tdiv 10) := by
    have h1 := Int.tmod_def x 10
    have h2 := Int.tmod_lt_of_pos x (show (0 : Int) < 10 by omega)
    have h3 := Int.lt_tmod_of_pos x (show (0 : Int) < 10 by omega)
    omega
  have hr2 : inR (x.tmod 10) := by
    have h2 := Int.tmod_lt_of_pos x (show (0 : Int) < 10 by omega)
    have h3 := Int.lt_tmod_of_pos x (show (0 : Int) < 10 by omega)
    omega
  unfold qRst at kk
  rw [en154, r154_0, c168 c1 c2 (c7.1 0 (by omega)) hn24, push_i, r154_4 i01]
  by_cases q : 0 < n 0
  · rw [if_pos (c := decide _ = true) (by simpa using q), if_neg (by omega), r154_7 hx]
    by_cases q1 : -1 ≤ x
    · rw [if_pos ⟨q, q1⟩] at kk
      rw [if_pos q1, r154_14 hx]
      by_cases q2 : x = -1
      · rw [if_neg (by simpa using q2), r154_19]
        refine c4 c1 c5 c7 h2 h3 h3' h7 hT9 (fun M' hf hB e16 e85 => ?_)
        obtain ⟨hI', hr⟩ := IC_W (T' := T') (by omega) hI c1 c2 hf (BI_f (fun _ _ _ => rfl) (by omega) hB)
        have kk' := hK M' hI' hr
        unfold qRst at kk'
        rw [if_pos ⟨q, q1⟩, if_pos q2] at kk'
        rw [push_u, r154_26, e16]; exact kk'
      · rw [if_neg q2] at kk
        rw [if_pos q2, r154_34 hx, c170 c1 c2 (c7.1 2 (by omega)) hn8 hr1, push_i, r154_42 i01]
        by_cases q3 : isIx (n 2) (x.tdiv 10) = true
        · rw [if_pos q3, if_neg (by omega), r154_45 hx, c169 c1 c2 (c7.1 1 (by omega)) hn3 hr2, push_i, r154_53 i01]
          by_cases q4 : isIx (n 1) (x.tmod 10) = true
          · obtain ⟨j, ej, hj⟩ := ixN q3
            obtain ⟨m, em, hm⟩ := ixN q4
            rw [if_pos q4, if_pos (by omega), r154_58]
            refine c4 c1 c5 c7 h2 h3 h3' h7 hT9 (fun M' hf hB e16 e85 => ?_)
            obtain ⟨hI', hr⟩ := IC_W (T' := T') (by omega) hI c1 c2 hf (BI_f (fun _ _ _ => rfl) (by omega) hB)
            have kk' := hK M' hI' hr
            unfold qRst at kk'
            rw [if_pos ⟨q, q1⟩, if_neg q2, if_pos ⟨q3, q4⟩, ej, em, Int.toNat_natCast, Int.toNat_natCast, ← e85] at kk'
            have e : ((j : Int) * 3 + (m : Int)).toNat = j * 3 + m := by omega
            rw [push_u, r154_65 hx, c55, push_i, ej, em, r154_86 (by omega) (by omega), e, show M' 89 (j * 3 + m) = mo M' 85 4 (j * 3 + m) from mo_4 (b := 85) (by omega)]
            exact kk'
          · rw [if_neg (fun w => q4 w.2)] at kk
            rw [if_neg q4, if_neg (by simp), r154_56]; exact kk
        · rw [if_neg (fun w => q3 w.1)] at kk
          rw [if_neg q3, if_pos rfl, r154_56]; exact kk
    · rw [if_neg (fun w => q1 w.2)] at kk
      rw [if_neg q1, r154_12]; exact kk
  · rw [if_neg (fun w => q w.1)] at kk
    rw [if_neg (c := decide _ = true) (by simpa using q), if_pos rfl, r154_12]; exact kk
theorem c173 (hc : isCh c) (hv : v 0 = (c : Int)) (e0 : M c 2 = (n 2 : Int)) (h24 : n 2 ≤ 8) {x y z : Int} (hx : inR x) (hy : inR y) (hz : inR z) : pm_Call (d + 2) 173 [vA 0, vI x, vI y, vI z] (GF X, M, PTF v) K ↔ K (vI (if isX n x y z = true then 1 else 0)) (GF X, M, PTF v) := by
  have bad : ¬ (isIx (n 2) x = true ∧ isIx (n 2) y = true ∧ 0 ≤ z ∧ z ≤ 99) → (pm_Run (d + 1) 173 30 [vA 0, vI x, vI y, vI z] [] (GF X, M, PTF v) K ↔ K (vI (if isX n x y z = true then 1 else 0)) (GF X, M, PTF v)) := by
    intro q
    rw [r173_30, r173_31 (by simp), if_neg (fun w => q (isX_i.mp w))]
  rw [en173, r173_0, c170 hc hv e0 h24 hx, push_i, r173_5 i01]
  by_cases q : isIx (n 2) x = true
  · rw [if_pos q, if_neg (by omega), r173_8, c170 hc hv e0 h24 hy, push_i, r173_13 i01]
    by_cases q1 : isIx (n 2) y = true
    · rw [if_pos q1, if_neg (by omega), r173_16 hz]
      by_cases q2 : z < 0
      · rw [if_pos q2]; exact bad (by omega)
      · rw [if_neg q2, r173_20 hz]
        by_cases q3 : 99 < z
        · rw [if_pos q3]; exact bad (by omega)
        · rw [if_neg q3, r173_26, r173_31 (by simp), if_pos (isX_i.mpr ⟨q, q1, by omega, by omega⟩)]
    · rw [if_neg q1, if_pos rfl]; exact bad (fun w => q1 w.2.1)
  · rw [if_neg q, if_pos rfl]; exact bad (fun w => q w.1)
theorem q155 (h : IC M v n a F μ B N rf sd A P R sp sh pi fe T) (hT : T ≤ T') {x y z : Int} (hx : inR x) (hy : inR y) (hz : inR z) (hK : ∀ M', IC M' v n a F μ B N rf sd A P R sp sh pi fe T' → frR M M' → K (vI (qAcr n a F μ x y z)) (GF X, M', PTF v)) : pm_Call (d + 8) 155 [vA 0, vI x, vI y, vI z] (GF X, M, PTF v) K := by
  have hI := h
  obtain ⟨⟨c, c1, c2, c3, c4, c5, c6, c7, c8⟩, h2, ⟨h3, h3'⟩, ⟨t1, t2, t3, t4, t5⟩, h5, ⟨k, h6⟩, h7, h8, ⟨p1, p2⟩, ⟨i1, i2⟩, h11, h12⟩ := h
  have kk := hK M (IC_T (by omega) hI) frR_r
  have hn8 := h2.1.2.2.1
  unfold qAcr at kk
  rw [en155, r155_0, c173 c1 c2 (c7.1 2 (by omega)) hn8 hx hy hz, push_i, r155_7 i01]
  by_cases q : isX n x y z = true
  · obtain ⟨q1, q2, q3, q4⟩ := isX_i.mp q
    obtain ⟨i, rfl, hi⟩ := ixN q1
    obtain ⟨j, rfl, hj⟩ := ixN q2
    obtain ⟨f, ef⟩ := Int.eq_ofNat_of_zero_le (h2.2.2.1 i hi).1
    obtain ⟨g, eg⟩ := Int.eq_ofNat_of_zero_le (h2.2.2.1 j hj).1
    have bf := (h2.2.2.1 i hi).2.1
    have bg := (h2.2.2.1 j hj).2.1
    rw [if_pos q, if_neg (by omega), r155_10 c1 c2 (by omega) (by omega) (by omega) (by omega), Int.toNat_natCast, Int.toNat_natCast, (c7.2.2.1 i hi).1, (c7.2.2.1 j hj).1, ef, eg]
    refine c34 c1 c4 c7 h2 h3 h3' h6 (by omega) (by omega) hz (fun M' k' hF hf => ?_)
    obtain ⟨hI', hr⟩ := IC_F hT hI c1 c2 hf hF
    have kk' := hK M' hI' hr
    unfold qAcr at kk'
    rw [if_pos q, Int.toNat_natCast, Int.toNat_natCast, ef, eg, Int.toNat_natCast, Int.toNat_natCast] at kk'
    rw [push_i, r155_36, r155_40]; exact kk'
  · rw [if_neg q] at kk
    rw [if_neg q, if_pos rfl, r155_39, r155_40]; exact kk
theorem q156 (h : IC M v n a F μ B N rf sd A P R sp sh pi fe T) (hT : T ≤ T') {x y z : Int} (hx : inR x) (hy : inR y) (hz : inR z) (hK : ∀ M', IC M' v n a F μ B N rf sd A P R sp sh pi fe T' → frR M M' → K (vI (qLat n a F μ x y z)) (GF X, M', PTF v)) : pm_Call (d + 8) 156 [vA 0, vI x, vI y, vI z] (GF X, M, PTF v) K := by
  have hI := h
  obtain ⟨⟨c, c1, c2, c3, c4, c5, c6, c7, c8⟩, h2, ⟨h3, h3'⟩, ⟨t1, t2, t3, t4, t5⟩, h5, ⟨k, h6⟩, h7, h8, ⟨p1, p2⟩, ⟨i1, i2⟩, h11, h12⟩ := h
  have kk := hK M (IC_T (by omega) hI) frR_r
  have hn8 := h2.1.2.2.1
  unfold qLat at kk
  rw [en156, r156_0, c173 c1 c2 (c7.1 2 (by omega)) hn8 hx hy hz, push_i, r156_7 i01]
  by_cases q : isX n x y z = true
  · obtain ⟨q1, q2, q3, q4⟩ := isX_i.mp q
    obtain ⟨i, rfl, hi⟩ := ixN q1
    obtain ⟨j, rfl, hj⟩ := ixN q2
    obtain ⟨f, ef⟩ := Int.eq_ofNat_of_zero_le (h2.2.2.1 i hi).1
    obtain ⟨g, eg⟩ := Int.eq_ofNat_of_zero_le (h2.2.2.1 j hj).1
    have bf := (h2.2.2.1 i hi).2.1
    have bg := (h2.2.2.1 j hj).2.1
    rw [if_pos q, if_neg (by omega), r156_10 c1 c2 (by omega) (by omega) (by omega) (by omega), Int.toNat_natCast, Int.toNat_natCast, (c7.2.2.1 i hi).1, (c7.2.2.1 j hj).1, ef, eg]
    refine c35 c1 c4 c7 h2 h3 h3' h6 (by omega) (by omega) hz (fun M' k' hF hf => ?_)
    obtain ⟨hI', hr⟩ := IC_F hT hI c1 c2 hf hF
    have kk' := hK M' hI' hr
    unfold qLat at kk'
    rw [if_pos q, Int.toNat_natCast, Int.toNat_natCast, ef, eg, Int.toNat_natCast, Int.toNat_natCast] at kk'
    rw [push_i, r156_36, r156_40]; exact kk'
  · rw [if_neg q] at kk
    rw [if_neg q, if_pos rfl, r156_39, r156_40]; exact kk
theorem q157 (h : IC M v n a F μ B N rf sd A P R sp sh pi fe T) {x : Int} (hx : inR x) : pm_Call (d + 3) 157 [vA 0, vI x] (GF X, M, PTF v) K ↔ K (vI (qMee n a μ x)) (GF X, M, PTF v) := by
  obtain ⟨⟨c, c1, c2, c3, c4, c5, c6, c7, c8⟩, h2, ⟨h3, h3'⟩, ⟨t1, t2, t3, t4, t5⟩, h5, ⟨k, h6⟩, h7, h8, ⟨p1, p2⟩, ⟨i1, i2⟩, h11, h12⟩ := h
  have hn24 := h2.1.1
  have em : mtT n a μ = if n 1 = 0 then -1 else fi (meeT n a μ) (n 0) 0 := rfl
  rw [en157, r157_0 c1 c2, c21 c1 c7 h2 h3 h3', push_i, ← em]
  have hb : -1 ≤ mtT n a μ ∧ mtT n a μ ≤ 24 := by
    rw [em]
    split
    · omega
    · have := fi_b (p := meeT n a μ) (k := n 0) (i := 0)
      omega
  unfold qMee
  rw [r157_11 (by omega)]
  by_cases q : mtT n a μ = -1
  · rw [if_neg (by simpa using q), r157_17, if_pos q]
  · rw [if_pos q, r157_19 hx, if_neg q]
    by_cases q1 : x = 0
    · rw [if_neg (by simpa using q1), r157_23, show M 3 0 = μ 0 0 by rw [← h3]; rfl, if_pos q1]
    · rw [if_pos q1, r157_33 hx, if_neg q1]
      by_cases q2 : x = 1
      · have hn1 : n 1 ≠ 0 := fun w => q (by rw [em, if_pos w])
        have hn0 : n 0 ≠ 0 := fun w => hn1 (h2.1.2.2.2.2.2.2.2 w).1
        have e1 : M (3 + 1) 0 = μ 1 0 := by rw [← h3]; exact mo_1 (by omega)
        have e2 := c7.2.1 0 (by omega)
        have b1 := h3'.2.1 0 (by omega)
        have b2 := h2.2.1 0 (by omega)
        have u1 : mtT n a μ * a 1 0 ≤ 24 * 23 := Int.mul_le_mul (by omega) (by omega) (by omega) (by omega)
        have u2 : 0 ≤ mtT n a μ * a 1 0 := Int.mul_nonneg (by omega) (by omega)
        rw [if_neg (by simpa using q2), r157_38 c1 c2, if_pos q2]
        refine (c20 (m := 0) c1 mo3 (by omega) (c7.1 0 (by omega)) hn24 (by rw [e1, e2]; omega)).trans ?_
        rw [push_i, r157_51, r157_55, e1, e2, if_neg hn0]
      · rw [if_pos q2, r157_54, r157_55, if_neg q2]
theorem q159 (h : IC M v n a F μ B N rf sd A P R sp sh pi fe T) (hT : T ≤ T') {x : Int} (hx : inR x) (hK : ∀ M', IC M' v n a F μ B N rf sd A P R sp sh pi fe T' → frR M M' → K (vI (qPay n F μ R sp sh x)) (GF X, M', PTF v)) : pm_Call (d + 8) 159 [vA 0, vI x] (GF X, M, PTF v) K := by
  have hI := h
  obtain ⟨⟨c, c1, c2, c3, c4, c5, c6, c7, c8⟩, h2, ⟨h3, h3'⟩, ⟨t1, t2, t3, t4, t5⟩, h5, ⟨k, h6⟩, h7, h8, ⟨p1, p2⟩, ⟨i1, i2⟩, h11, h12⟩ := h
  have kk := hK M (IC_T (by omega) hI) frR_r
  obtain ⟨⟨r1, r2, -⟩, -⟩ := id h8
  unfold qPay at kk
  have bad : ¬ (R ≠ 0 ∧ 0 ≤ x ∧ x ≤ 2) → pm_Run (d + 7) 159 19 [vA 0, vI x] [] (GF X, M, PTF v) K := by
    intro q
    rw [r159_19]
    by_cases q1 : R = 0
    · rw [if_pos q1] at kk; exact kk
    · rw [if_neg q1, if_neg (by omega), if_neg (by omega), if_neg (by omega)] at kk; exact kk
  rw [en159, r159_0 (by rw [r2]; omega), r2]
  by_cases q : R = 0
  · rw [if_pos (by omega)]; exact bad (by omega)
  · rw [if_neg (by omega), r159_10 hx]
    by_cases q1 : x < 0
    · rw [if_pos q1]; exact bad (by omega)
    · rw [if_neg q1, r159_14 hx]
      by_cases q2 : x ≤ 2
      · rw [if_pos q2, r159_21]
        refine c129 c1 c6 c7 h2 h3 h3' h8 (fun M' hf hW hj => ?_)
        obtain ⟨hI', hr⟩ := IC_X hT hI c1 c2 hf hW
        have kk' := hK M' hI' hr
        unfold qPay JD at kk'
        obtain ⟨j1, j2, j3⟩ := hj
        rw [if_neg q] at kk'
        rw [push_u, r159_28 hx]
        have hx' : x = 0 ∨ x = 1 ∨ x = 2 := by omega
        rcases hx' with rfl | rfl | rfl
        · rw [if_neg (by simp), r159_32, j1]; exact kk'
        · rw [if_pos (by omega), r159_40 hx, if_neg (by simp), r159_45, r159_62, j2]; exact kk'
        · rw [if_pos (by omega), r159_40 hx, if_pos (by omega), r159_55, r159_62, j3]; exact kk'
      · rw [if_neg q2]; exact bad (by omega)
theorem img_l (h2 : wC n a F) : (img n μ).1 ≤ 97 := by
  have hn2 := h2.1.2.2.1
  have hn1 := h2.1.2.1
  have := im2_l (n := n) (μ := μ) (k := n 2)
  have hb22 : n 2 * (2 + 3 * n 1) ≤ 8 * 11 := Nat.mul_le_mul hn2 (by omega)
  rw [img, pt_l]; omega
theorem IC_P {pi' : PB2} (hT : T ≤ T') (h : IC M v n a F μ B N rf sd A P R sp sh pi fe T) (hf : frP M M') (hP : isP M' pi') (h97 : pi'.1 ≤ 97) : IC M' v n a F μ B N rf sd A P R sp sh pi' fe T' ∧ frR M M' := by
  refine ⟨?_, fun q hq => hf.1 q (by omega) (by omega)⟩
  obtain ⟨⟨c, c1, c2, c3, c4, c5, c6, c7, c8⟩, h2, ⟨h3, h3'⟩, ⟨t1, t2, t3, t4, t5⟩, h5, ⟨k, h6⟩, h7, h8, ⟨p1, p2⟩, ⟨i1, i2⟩, h11, h12⟩ := h
  have hcc : c = 9 ∨ c = 35 := c1
  have hq : ∀ q, q < 225 → M' q = M q := fun q hq => hf.1 q (by omega) (by omega)
  refine ⟨⟨c, c1, c2, c3, c4, c5, c6, isC_fr (fun i hi => hq _ (by omega)) c7, ?_⟩, h2, ⟨(mo_fr (fun i hi => hq _ (by omega))).trans h3, h3'⟩, ⟨TP_f t1 (hq 1 (by omega)), t2, by rw [hq 0 (by omega)]; exact t3, by rw [hq 0 (by omega)]; exact t4, t5⟩, fun k hk => ?_, ⟨k, FI_f (fun q h1 h2 => hq _ (by omega)) h6⟩, BI_f (fun q h1 h2 => hq _ (by omega)) hT h7, WI_f (hq _ (by omega)) (hq _ (by omega)) (hq _ (by omega)) h8, ⟨PA_f (fun q h1 h2 => hq _ (by omega)) p1, p2⟩, ⟨hP, h97⟩, by rw [hq 31 (by omega)]; exact h11, fun w hw => by rw [hq 33 (by omega)]; exact h12 w hw⟩
  · unfold nmI at *
    rw [hq _ (by omega), hq _ (by omega)]; exact c8
  · rw [hq 2 (by omega)]
    have := h5 k hk
    exact ⟨this.1, this.2.1, by omega⟩
theorem q160 (h : IC M v n a F μ B N rf sd A P R sp sh pi fe T) (hT : T ≤ T') (hK : ∀ M', IC M' v n a F μ B N rf sd A P R sp sh (img n μ) fe T' → frR M M' → K (vI ((img n μ).1 : Nat)) (GF X, M', PTF v)) : pm_Call (d + 8) 160 [vA 0] (GF X, M, PTF v) K := by
  have hI := h
  obtain ⟨⟨c, c1, c2, c3, c4, c5, c6, c7, c8⟩, h2, ⟨h3, h3'⟩, -⟩ := h
  rw [en160, r160_0 c1 c2]
  refine c104 c1 c7 h2 h3 h3' (fun M' hf hP => ?_)
  obtain ⟨hI', hr⟩ := IC_P hT hI hf hP (img_l h2)
  rw [push_u, r160_15, hP.1]
  exact hK M' hI' hr
theorem q161 (h : IC M v n a F μ B N rf sd A P R sp sh pi fe T) {x : Int} (hx : inR x) : pm_Call (d + 1) 161 [vA 0, vI x] (GF X, M, PTF v) K ↔ K (vI (qOct pi x)) (GF X, M, PTF v) := by
  obtain ⟨-, -, -, -, -, -, -, -, -, ⟨⟨i1, i3⟩, i2⟩, -⟩ := h
  unfold qOct
  rw [en161, r161_0 hx]
  by_cases q : x < 0
  · rw [if_pos q, r161_31, r161_32, if_neg (by rw [isIx_i]; omega)]
  · rw [if_neg q, r161_4 hx (by rw [i1]; omega), i1]
    by_cases q2 : (pi.1 : Int) ≤ x
    · rw [if_pos q2, r161_31, r161_32, if_neg (by rw [isIx_i]; omega)]
    · have hb := i3 x.toNat (by omega)
      rw [if_neg q2, r161_15 (by omega) (by omega), r161_32, hb.1, b8_a hb.2, if_pos (by rw [isIx_i]; omega)]
end PUB3
