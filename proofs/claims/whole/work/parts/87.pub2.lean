/-! The class's queries. -/
def ltr (x : Int) (k : Nat) : Int := ((x.toNat / 2 ^ (25 - 5 * k)) % 32 : Nat)
def qLet (n : Nat → Nat) (a : PH) (kd w k : Int) : Int := if isIx 6 k = true then (if kd = 0 ∧ isIx (n 1) w = true then ltr (a 7 w.toNat) k.toNat else if kd = 1 ∧ isIx (n 2) w = true then ltr (a 8 w.toNat) k.toNat else -1) else -1
def qMoon (n : Nat → Nat) (a μ : PH) (x f : Int) : Int := if isIx (n 1) x = true then (if f = 0 then μ 1 x.toNat else if f = 1 then a 1 x.toNat else if f = 2 then μ 2 x.toNat else if f = 3 then bt μ x.toNat else if f = 4 then dt μ x.toNat else if f = 5 then (if dt μ x.toNat < (n 6 : Int) then 0 else 1) else -1) else -1
def strd (n : Nat → Nat) (a : PH) (F : Nat → List Int) (ν : PH) (h : Nat) : Int := if hts n F ν (a 2 h).toNat < a 3 h then 1 else 0
def qHarb (n : Nat → Nat) (a : PH) (F : Nat → List Int) (μ : PH) (x f : Int) : Int := if isIx (n 2) x = true then (if f = 0 then a 2 x.toNat else if f = 1 then μ 3 x.toNat else if f = 2 then a 3 x.toNat else if f = 3 then bb μ x.toNat else if f = 4 then db μ x.toNat else if f = 5 then strd n a F μ x.toNat else if f = 6 then owB n a x.toNat else if f = 7 then owT n a x.toNat 0 else if f = 8 then (if (fls n a μ 9).testBit x.toNat = true then 1 else 0) else if f = 9 then max 0 (owB n a x.toNat - μ 3 x.toNat - owT n a x.toNat 0) else -1) else -1
def qBids (n : Nat → Nat) (μ : PH) (x y f : Int) : Int := if isIx (n 2) x = true ∧ isIx (n 1) y = true then (if f = 0 then μ 4 (x.toNat * 3 + y.toNat) else if f = 1 then μ 5 (x.toNat * 3 + y.toNat) else -1) else -1
def qPull (n : Nat → Nat) (F : Nat → List Int) (μ : PH) (x y : Int) : Int := if isIx (n 1) x = true ∧ isIx (n 0) y = true then pls n F μ x.toNat y.toNat else -1000000000
def isT (n : Nat → Nat) (μ : PH) (t : Int) : Bool := decide (0 < n 0 ∧ 0 ≤ t ∧ t ≤ (lst μ : Int))
theorem isT_i {n : Nat → Nat} {μ : PH} {t : Int} : isT n μ t = true ↔ 0 < n 0 ∧ 0 ≤ t ∧ t ≤ (lst μ : Int) := by simp [isT]
def qHgt (n : Nat → Nat) (a : PH) (F : Nat → List Int) (μ : PH) (x t : Int) : Int := if isIx (n 0) x = true ∧ isT n μ t = true then hts n F (ahd n a F μ t.toNat) x.toNat else -1000000000
def qAhd (n : Nat → Nat) (a : PH) (F : Nat → List Int) (μ : PH) (x t f : Int) : Int := if isIx (n 2) x = true ∧ isT n μ t = true then (if f = 0 then ahd n a F μ t.toNat 3 x.toNat else if f = 1 then strd n a F (ahd n a F μ t.toNat) x.toNat else if f = 2 then db (ahd n a F μ t.toNat) x.toNat else -1) else -1
def qStr (n : Nat → Nat) (a : PH) (F : Nat → List Int) (μ : PH) (t f : Int) : Int := if isT n μ t = true then (if f = 0 then stc n a F (ahd n a F μ t.toNat) else if f = 1 then fi (fun s => decide (0 < stc n a F (ahd n a F μ s))) (lst μ + 1 - t.toNat) t.toNat else -1) else -1
def qBrk (n : Nat → Nat) (a : PH) (F : Nat → List Int) (μ : PH) (f : Int) : Int := if bro n a F μ (lst μ + 1) = -1 then -1 else if f = 0 then bro n a F μ (lst μ + 1) else if f = 1 then brh n a F (ahd n a F μ (bro n a F μ (lst μ + 1)).toNat) (n 2) else if f = 2 then brk n a F (ahd n a F μ (bro n a F μ (lst μ + 1)).toNat) (brh n a F (ahd n a F μ (bro n a F μ (lst μ + 1)).toNat) (n 2)).toNat else -1
theorem andK31 {x : Nat} : x &&& 31 = x % 32 := Nat.and_two_pow_sub_one_eq_mod x 5
section PUB2
variable {d c : Nat} {X : Nat × (Nat → Int)} {v : Nat → Int} {M M' : PH} {K : PV → PS → Prop} {n : Nat → Nat} {a μ : PH} {F : Nat → List Int} {B : Nat → Int} {N : Nat} {rf : Nat → Int} {sd : Int} {A : Nat} {P : Nat → PH} {R : Nat} {sp sh : Nat → Int} {pi : PB2} {fe : Int × Int} {T T' : Int}
theorem c49 {x : Int} {k : Nat} (h0 : 0 ≤ x) (h1 : x < 1073741824) (hk : k < 6) : pm_Call (d + 1) 49 [vI x, vI (k : Int)] (GF X, M, PTF v) K ↔ K (vI (ltr x k)) (GF X, M, PTF v) := by
  obtain ⟨y, rfl⟩ := Int.eq_ofNat_of_zero_le h0
  have e : ((25 : Int) - 5 * (k : Int)) = ((25 - 5 * k : Nat) : Int) := by omega
  have hb : y >>> (25 - 5 * k) < 2147483648 := by
    rw [Nat.shiftRight_eq_div_pow]
    exact Nat.lt_of_le_of_lt (Nat.div_le_self _ _) (by omega)
  rw [en49, r49_0, e, pm_shrN (by omega) (by omega)]
  rw [show (31 : Int) = ((31 : Nat) : Int) from rfl, pm_andN hb (by omega), andK31, Nat.shiftRight_eq_div_pow]
  exact Iff.rfl
theorem q137 (h : IC M v n a F μ B N rf sd A P R sp sh pi fe T) {x y z : Int} (hx : inR x) (hy : inR y) (hz : inR z) : pm_Call (d + 2) 137 [vA 0, vI x, vI y, vI z] (GF X, M, PTF v) K ↔ K (vI (qLet n a x y z)) (GF X, M, PTF v) := by
  obtain ⟨⟨c, c1, c2, c3, c4, c5, c6, c7, c8⟩, h2, ⟨h3, h3'⟩, ⟨t1, t2, t3, t4, t5⟩, h5, h6, h7, h8, ⟨p1, p2⟩, ⟨i1, i2⟩, h11, h12⟩ := h
  unfold qLet
  rw [en137, r137_0 hz]
  by_cases q : isIx 6 z = true
  · obtain ⟨k, rfl, hk⟩ := ixN q
    rw [if_neg (by omega), r137_4 hz, if_pos (by omega), r137_12 hx, if_pos q]
    have tail : (pm_Run (d + 1) 137 38 [vA 0, vI x, vI y, vI (k : Int)] [] (GF X, M, PTF v) K ↔ K (vI (if x = 1 ∧ isIx (n 2) y = true then ltr (a 8 y.toNat) (k : Int).toNat else -1)) (GF X, M, PTF v)) := by
      rw [r137_38 hx]
      by_cases q1 : x = 1
      · rw [if_neg (by simpa using q1), r137_43, c170 c1 c2 (c7.1 2 (by omega)) h2.1.2.2.1 hy, push_i, r137_48 i01]
        by_cases q2 : isIx (n 2) y = true
        · obtain ⟨j, rfl, hj⟩ := ixN q2
          have h8 := h2.1.2.2.1
          rw [if_pos q2, if_neg (by omega), r137_51 c1 c2 (by omega) (by omega), Int.toNat_natCast, (c8.2 j hj).1, c49 (c8.2 j hj).2.1 (c8.2 j hj).2.2 hk, push_i, r137_64, if_pos ⟨q1, q2⟩, Int.toNat_natCast]
        · rw [if_neg q2, if_pos rfl, r137_65, if_neg (fun w => q2 w.2)]
      · rw [if_pos q1, r137_65, if_neg (fun w => q1 w.1)]
    by_cases q1 : x = 0
    · rw [if_neg (by simpa using q1), r137_16, c169 c1 c2 (c7.1 1 (by omega)) h2.1.2.1 hy, push_i, r137_21 i01]
      by_cases q2 : isIx (n 1) y = true
      · obtain ⟨j, rfl, hj⟩ := ixN q2
        have h8 := h2.1.2.1
        rw [if_pos q2, if_neg (by omega), r137_24 c1 c2 (by omega) (by omega), Int.toNat_natCast, (c8.1 j hj).1, c49 (c8.1 j hj).2.1 (c8.1 j hj).2.2 hk, push_i, r137_37, if_pos ⟨q1, q2⟩, Int.toNat_natCast]
      · rw [if_neg q2, if_pos rfl, tail, if_neg (c := x = 0 ∧ _) (fun w => q2 w.2)]
    · rw [if_pos q1, tail, if_neg (c := x = 0 ∧ _) (fun w => q1 w.1)]
  · rw [if_neg q]
    by_cases q0 : z < 0
    · rw [if_pos q0, r137_10]
    · rw [if_neg q0, r137_4 hz, if_neg (c := z < 6) (fun w => q (isIx_i.mpr ⟨by omega, w⟩)), r137_10]
theorem q138 (h : IC M v n a F μ B N rf sd A P R sp sh pi fe T) {x y : Int} (hx : inR x) (hy : inR y) : pm_Call (d + 3) 138 [vA 0, vI x, vI y] (GF X, M, PTF v) K ↔ K (vI (qMoon n a μ x y)) (GF X, M, PTF v) := by
  obtain ⟨⟨c, c1, c2, c3, c4, c5, c6, c7, c8⟩, h2, ⟨h3, h3'⟩, ⟨t1, t2, t3, t4, t5⟩, h5, h6, h7, h8, ⟨p1, p2⟩, ⟨i1, i2⟩, h11, h12⟩ := h
  have hn3 := h2.1.2.1
  unfold qMoon
  rw [en138, r138_0, c169 c1 c2 (c7.1 1 (by omega)) hn3 hx, push_i, r138_5 i01]
  by_cases q : isIx (n 1) x = true
  · obtain ⟨m, rfl, hm⟩ := ixN q
    rw [if_pos q, if_pos (by omega), r138_10 hy, if_pos q, Int.toNat_natCast]
    have s4 : sm (fun h => M (3 + 4) (h * 3 + m)) 8 = bt μ m := sm_c (fun i hi => by rw [← h3]; exact mo_4 (by omega))
    have s5 : sm (fun h => M (3 + 5) (h * 3 + m)) 8 = dt μ m := sm_c (fun i hi => by rw [← h3]; exact mo_5 (by omega))
    have hd := dt_b h3' (m := m) (by omega)
    by_cases q2 : 0 ≤ y ∧ y < 6
    · have hx' : y = 0 ∨ y = 1 ∨ y = 2 ∨ y = 3 ∨ y = 4 ∨ y = 5 := by omega
      rcases hx' with rfl | rfl | rfl | rfl | rfl | rfl
      · change pm_Run _ 138 48 _ _ _ _ ↔ _
        rw [r138_48 (by omega) (by omega), Int.toNat_natCast, show M 4 m = μ 1 m by rw [← h3]; exact mo_1 (b := 3) (by omega)]; exact Iff.rfl
      · change pm_Run _ 138 58 _ _ _ _ ↔ _
        rw [r138_58 c1 c2 (by omega) (by omega), Int.toNat_natCast, c7.2.1 m hm]; exact Iff.rfl
      · change pm_Run _ 138 68 _ _ _ _ ↔ _
        rw [r138_68 (by omega) (by omega), Int.toNat_natCast, show M 5 m = μ 2 m by rw [← h3]; exact mo_2 (b := 3) (by omega)]; exact Iff.rfl
      · change pm_Run _ 138 78 _ _ _ _ ↔ _
        rw [r138_78, c58 mo3 (by omega), push_i, r138_86, s4]; exact Iff.rfl
      · change pm_Run _ 138 87 _ _ _ _ ↔ _
        rw [r138_87, c59 mo3 (by omega), push_i, r138_95, s5]; exact Iff.rfl
      · change pm_Run _ 138 96 _ _ _ _ ↔ _
        have e6 := c7.1 6 (by omega)
        have h999 := h2.1.2.2.2.2.2.2.1
        rw [r138_96, c59 mo3 (by omega), push_i, s5, r138_104 c1 c2 (by omega) (by rw [e6]; omega), e6]
        by_cases q6 : dt μ m < (n 6 : Int)
        · rw [if_pos q6, r138_118, r138_119]; simp [if_pos q6]
        · rw [if_neg q6, r138_114, r138_119]; simp [if_neg q6]
    · rw [tgN (by simpa using q2), r138_120, if_neg (by omega), if_neg (by omega), if_neg (by omega), if_neg (by omega), if_neg (by omega), if_neg (by omega)]
  · rw [if_neg q, if_neg (by simp), r138_8, if_neg q]
theorem q140 (h : IC M v n a F μ B N rf sd A P R sp sh pi fe T) {x y z : Int} (hx : inR x) (hy : inR y) (hz : inR z) : pm_Call (d + 2) 140 [vA 0, vI x, vI y, vI z] (GF X, M, PTF v) K ↔ K (vI (qBids n μ x y z)) (GF X, M, PTF v) := by
  obtain ⟨⟨c, c1, c2, c3, c4, c5, c6, c7, c8⟩, h2, ⟨h3, h3'⟩, ⟨t1, t2, t3, t4, t5⟩, h5, h6, h7, h8, ⟨p1, p2⟩, ⟨i1, i2⟩, h11, h12⟩ := h
  have hn3 := h2.1.2.1
  have hn8 := h2.1.2.2.1
  unfold qBids
  rw [en140, r140_0, c170 c1 c2 (c7.1 2 (by omega)) hn8 hx, push_i, r140_5 i01]
  by_cases q : isIx (n 2) x = true
  · rw [if_pos q, if_neg (by omega), r140_8, c169 c1 c2 (c7.1 1 (by omega)) hn3 hy, push_i, r140_13 i01]
    by_cases q1 : isIx (n 1) y = true
    · obtain ⟨j, rfl, hj⟩ := ixN q
      obtain ⟨m, rfl, hm⟩ := ixN q1
      have e : ((j : Int) * 3 + (m : Int)).toNat = j * 3 + m := by omega
      rw [if_pos q1, if_pos (by omega), r140_18, c55, push_i, r140_23 hz, if_pos (c := isIx (n 2) (j : Int) = true ∧ _) ⟨q, q1⟩, Int.toNat_natCast, Int.toNat_natCast]
      by_cases q2 : z = 0
      · rw [if_neg (c := z ≠ 0) (by simpa using q2), r140_29 (by omega) (by omega), e, show M 7 (j * 3 + m) = μ 4 (j * 3 + m) by rw [← h3]; exact mo_4 (b := 3) (by omega), if_pos q2]
      · rw [if_pos q2, r140_40 hz, if_neg q2]
        by_cases q3 : z = 1
        · rw [if_neg (by simpa using q3), r140_45 (by omega) (by omega), r140_59, e, show M 8 (j * 3 + m) = μ 5 (j * 3 + m) by rw [← h3]; exact mo_5 (b := 3) (by omega), if_pos q3]
        · rw [if_pos q3, r140_58, r140_59, if_neg q3]
    · rw [if_neg q1, if_neg (by simp), r140_16, if_neg (fun w => q1 w.2)]
  · rw [if_neg q, if_pos rfl, r140_16, if_neg (fun w => q w.1)]
theorem frR_r : frR M M := fun _ _ => rfl
theorem c172 (h : IC M v n a F μ B N rf sd A P R sp sh pi fe T) (hT : T ≤ T') {j : Nat} (hj : j < n 2) (hK : ∀ M', IC M' v n a F μ B N rf sd A P R sp sh pi fe T' → frR M M' → K (vI (strd n a F μ j)) (GF X, M', PTF v)) : pm_Call (d + 8) 172 [vA 0, vI (j : Int)] (GF X, M, PTF v) K := by
  have hI := h
  obtain ⟨⟨c, c1, c2, c3, c4, c5, c6, c7, c8⟩, h2, ⟨h3, h3'⟩, ⟨t1, t2, t3, t4, t5⟩, h5, ⟨k, h6⟩, h7, h8, ⟨p1, p2⟩, ⟨i1, i2⟩, h11, h12⟩ := h
  have hl := lst_i h3'
  rw [en172, r172_0]
  refine c25 (A := 0) c1 c4 c7 h2 h3 h3' h6 (by omega) (fun M' k' hF hk _ hf => ?_)
  obtain ⟨hI', hr⟩ := IC_F hT hI c1 c2 hf hF
  have hcc : c = 9 ∨ c = 35 := c1
  have hC' : isC M' c n a F := isC_fr (fun i hi => hf _ (by omega) (by omega) (by omega)) c7
  rw [push_u, r172_8]
  refine (c30 (t := 0) c1 c4 hC' h2 hF hj hk (by omega)).mpr ?_
  rw [push_i, r172_17 (by split <;> simp)]
  exact hK M' hI' hr
theorem q139 (h : IC M v n a F μ B N rf sd A P R sp sh pi fe T) (hT : T ≤ T') {x y : Int} (hx : inR x) (hy : inR y) (hK : ∀ M', IC M' v n a F μ B N rf sd A P R sp sh pi fe T' → frR M M' → K (vI (qHarb n a F μ x y)) (GF X, M', PTF v)) : pm_Call (d + 10) 139 [vA 0, vI x, vI y] (GF X, M, PTF v) K := by
  have hI := h
  obtain ⟨⟨c, c1, c2, c3, c4, c5, c6, c7, c8⟩, h2, ⟨h3, h3'⟩, ⟨t1, t2, t3, t4, t5⟩, h5, h6, h7, h8, ⟨p1, p2⟩, ⟨i1, i2⟩, h11, h12⟩ := h
  have hn8 := h2.1.2.2.1
  have kk := hK M (IC_T hT hI) frR_r
  unfold qHarb at kk
  rw [en139, r139_0, c170 c1 c2 (c7.1 2 (by omega)) hn8 hx, push_i, r139_5 i01]
  by_cases q : isIx (n 2) x = true
  · obtain ⟨m, rfl, hm⟩ := ixN q
    rw [if_pos q, if_pos (by omega), r139_10 hy]
    rw [if_pos q, Int.toNat_natCast] at kk
    have s4 : sm (fun j => M (3 + 4) (m * 3 + j)) 3 = bb μ m := sm_c (fun i hi => by rw [← h3]; exact mo_4 (by omega))
    have s5 : sm (fun j => M (3 + 5) (m * 3 + j)) 3 = db μ m := sm_c (fun i hi => by rw [← h3]; exact mo_5 (by omega))
    have ob := owB_b h2 (h := m)
    have ot := owT_b h2 (h := m) (U := 0)
    have e6 : M 6 m = μ 3 m := by rw [← h3]; exact mo_3 (b := 3) (by omega)
    have b6 := h3'.2.2.2.1 m (by omega)
    by_cases q2 : 0 ≤ y ∧ y < 10
    · have hx' : y = 0 ∨ y = 1 ∨ y = 2 ∨ y = 3 ∨ y = 4 ∨ y = 5 ∨ y = 6 ∨ y = 7 ∨ y = 8 ∨ y = 9 := by omega
      rcases hx' with rfl | rfl | rfl | rfl | rfl | rfl | rfl | rfl | rfl | rfl
      · change pm_Run _ 139 64 _ _ _ _
        rw [r139_64 c1 c2 (by omega) (by omega), Int.toNat_natCast, (c7.2.2.1 m hm).1]; exact kk
      · change pm_Run _ 139 74 _ _ _ _
        rw [r139_74 (by omega) (by omega), Int.toNat_natCast, e6]; exact kk
      · change pm_Run _ 139 84 _ _ _ _
        rw [r139_84 c1 c2 (by omega) (by omega), Int.toNat_natCast, (c7.2.2.1 m hm).2]; exact kk
      · change pm_Run _ 139 94 _ _ _ _
        rw [r139_94, c60 mo3 (by omega), push_i, r139_102, s4]; exact kk
      · change pm_Run _ 139 103 _ _ _ _
        rw [r139_103, c61 mo3 (by omega), push_i, r139_111, s5]; exact kk
      · change pm_Run _ 139 112 _ _ _ _
        rw [r139_112]
        refine c172 hI hT hm (fun M' hI' hr => ?_)
        have kk' := hK M' hI' hr
        unfold qHarb at kk'
        rw [if_pos q, Int.toNat_natCast] at kk'
        unfold strd at kk' ⊢
        rw [push_i, r139_117 (by split <;> omega)]
        by_cases q3 : hts n F μ (a 2 m).toNat < a 3 m
        · rw [if_pos q3, if_neg (by omega), r139_120, r139_125]; simpa [q3] using kk'
        · rw [if_neg q3, if_pos rfl, r139_124, r139_125]; simpa [q3] using kk'
      · change pm_Run _ 139 126 _ _ _ _
        rw [r139_126 c1 c2, c17 c1 c7 h2 (by omega), push_i, r139_134]; exact kk
      · change pm_Run _ 139 135 _ _ _ _
        rw [r139_135 c1 c2]
        refine (c18 (U := 0) c1 c7 h2 (by omega) (by omega)).mpr ?_
        rw [push_i, r139_144]; exact kk
      · change pm_Run _ 139 145 _ _ _ _
        rw [r139_145 c1 c2, c19 c1 c7 h2 h3 h3', push_i, r139_159, bi_bit (by have := fls_b (a := a) (μ := μ) hn8 (k := 9); omega) (by omega)]
        exact kk
      · change pm_Run _ 139 164 _ _ _ _
        rw [r139_164 c1 c2, c17 c1 c7 h2 (by omega), push_i, r139_173 c1 c2 (by omega) (by omega)]
        refine (c18 (U := 0) c1 c7 h2 (by omega) (by omega)).mpr ?_
        rw [push_i, Int.toNat_natCast, e6, r139_192 (by omega) (by omega)]
        exact kk
    · rw [tgN (by simpa using q2), r139_197]
      rw [if_neg (by omega), if_neg (by omega), if_neg (by omega), if_neg (by omega), if_neg (by omega), if_neg (by omega), if_neg (by omega), if_neg (by omega), if_neg (by omega), if_neg (by omega)] at kk
      exact kk
  · rw [if_neg q] at kk
    rw [if_neg q, if_neg (by simp), r139_8]
    exact kk
theorem q141 (h : IC M v n a F μ B N rf sd A P R sp sh pi fe T) (hT : T ≤ T') {x y : Int} (hx : inR x) (hy : inR y) (hK : ∀ M', IC M' v n a F μ B N rf sd A P R sp sh pi fe T' → frR M M' → K (vI (qPull n F μ x y)) (GF X, M', PTF v)) : pm_Call (d + 8) 141 [vA 0, vI x, vI y] (GF X, M, PTF v) K := by
  have hI := h
  obtain ⟨⟨c, c1, c2, c3, c4, c5, c6, c7, c8⟩, h2, ⟨h3, h3'⟩, ⟨t1, t2, t3, t4, t5⟩, h5, ⟨k, h6⟩, h7, h8, ⟨p1, p2⟩, ⟨i1, i2⟩, h11, h12⟩ := h
  have hl := lst_i h3'
  have kk := hK M (IC_T hT hI) frR_r
  have hn24 := h2.1.1
  have hn3 := h2.1.2.1
  unfold qPull at kk
  rw [en141, r141_0, c169 c1 c2 (c7.1 1 (by omega)) hn3 hx, push_i, r141_5 i01]
  by_cases q : isIx (n 1) x = true
  · rw [if_pos q, if_neg (by omega), r141_8, c171 c1 c2 (c7.1 0 (by omega)) hn24 hy, push_i, r141_13 i01]
    by_cases q1 : isIx (n 0) y = true
    · obtain ⟨j, rfl, hj⟩ := ixN q
      obtain ⟨m, rfl, hm⟩ := ixN q1
      rw [if_pos q1, if_pos (by omega), r141_19]
      refine c25 (A := 0) c1 c4 c7 h2 h3 h3' h6 (by omega) (fun M' k' hF hk _ hf => ?_)
      obtain ⟨hI', hr⟩ := IC_F hT hI c1 c2 hf hF
      have kk' := hK M' hI' hr
      unfold qPull at kk'
      rw [if_pos ⟨q, q1⟩, Int.toNat_natCast, Int.toNat_natCast] at kk'
      rw [push_u, r141_27, c26 (by omega) (by omega), push_i, r141_36, (hF.2.2.1 (by omega)).2.2 j m hj hm]
      exact kk'
    · rw [if_neg (fun w => q1 w.2)] at kk
      rw [if_neg q1, if_neg (by simp), r141_16]; exact kk
  · rw [if_neg (fun w => q w.1)] at kk
    rw [if_neg q, if_pos rfl, r141_16]; exact kk
theorem c24' (h : IC M v n a F μ B N rf sd A P R sp sh pi fe T) {x : Int} (hx : inR x) : pm_Call (d + 1) 24 [vA 60, vI x] (GF X, M, PTF v) K ↔ K (vI (if isT n μ x = true then 1 else 0)) (GF X, M, PTF v) := by
  obtain ⟨⟨c, c1, c2, c3, c4, c5, c6, c7, c8⟩, h2, ⟨h3, h3'⟩, ⟨t1, t2, t3, t4, t5⟩, h5, ⟨k, h6⟩, -⟩ := h
  rw [c24 c1 c4 c7 h2 h6 h3' hx, (lst_i h3').1]
  by_cases q : isT n μ x = true
  · rw [if_pos q, if_pos (isT_i.mp q)]
  · rw [if_neg q, if_neg (fun w => q (isT_i.mpr w))]
theorem q142 (h : IC M v n a F μ B N rf sd A P R sp sh pi fe T) (hT : T ≤ T') {x y : Int} (hx : inR x) (hy : inR y) (hK : ∀ M', IC M' v n a F μ B N rf sd A P R sp sh pi fe T' → frR M M' → K (vI (qHgt n a F μ x y)) (GF X, M', PTF v)) : pm_Call (d + 8) 142 [vA 0, vI x, vI y] (GF X, M, PTF v) K := by
  have hI := h
  obtain ⟨⟨c, c1, c2, c3, c4, c5, c6, c7, c8⟩, h2, ⟨h3, h3'⟩, ⟨t1, t2, t3, t4, t5⟩, h5, ⟨k, h6⟩, h7, h8, ⟨p1, p2⟩, ⟨i1, i2⟩, h11, h12⟩ := h
  have hl := lst_i h3'
  have kk := hK M (IC_T hT hI) frR_r
  have hn24 := h2.1.1
  unfold qHgt at kk
  rw [en142, r142_0, c171 c1 c2 (c7.1 0 (by omega)) hn24 hx, push_i, r142_5 i01]
  by_cases q : isIx (n 0) x = true
  · rw [if_pos q, if_neg (by omega), r142_8, c24' hI hy, push_i, r142_16 i01]
    by_cases q1 : isT n μ y = true
    · obtain ⟨j, rfl, hj⟩ := ixN q
      have q1' := isT_i.mp q1
      obtain ⟨t, rfl⟩ := Int.eq_ofNat_of_zero_le q1'.2.1
      rw [if_pos q1, if_pos (by omega), r142_22]
      refine c25 (A := t) c1 c4 c7 h2 h3 h3' h6 (by omega) (fun M' k' hF hk _ hf => ?_)
      obtain ⟨hI', hr⟩ := IC_F hT hI c1 c2 hf hF
      have kk' := hK M' hI' hr
      unfold qHgt at kk'
      rw [if_pos ⟨q, q1⟩, Int.toNat_natCast, Int.toNat_natCast] at kk'
      rw [push_u, r142_30, c27 (by omega) (by omega), push_i, r142_39, (hF.2.2.2.1 t hk).1 j hj]
      exact kk'
    · rw [if_neg (fun w => q1 w.2)] at kk
      rw [if_neg q1, if_neg (by simp), r142_19]; exact kk
  · rw [if_neg (fun w => q w.1)] at kk
    rw [if_neg q, if_pos rfl, r142_19]; exact kk
theorem q143 (h : IC M v n a F μ B N rf sd A P R sp sh pi fe T) (hT : T ≤ T') {x y z : Int} (hx : inR x) (hy : inR y) (hz : inR z) (hK : ∀ M', IC M' v n a F μ B N rf sd A P R sp sh pi fe T' → frR M M' → K (vI (qAhd n a F μ x y z)) (GF X, M', PTF v)) : pm_Call (d + 8) 143 [vA 0, vI x, vI y, vI z] (GF X, M, PTF v) K := by
  have hI := h
  obtain ⟨⟨c, c1, c2, c3, c4, c5, c6, c7, c8⟩, h2, ⟨h3, h3'⟩, ⟨t1, t2, t3, t4, t5⟩, h5, ⟨k, h6⟩, h7, h8, ⟨p1, p2⟩, ⟨i1, i2⟩, h11, h12⟩ := h
  have hl := lst_i h3'
  have kk := hK M (IC_T hT hI) frR_r
  have hn8 := h2.1.2.2.1
  unfold qAhd at kk
  rw [en143, r143_0, c170 c1 c2 (c7.1 2 (by omega)) hn8 hx, push_i, r143_5 i01]
  by_cases q : isIx (n 2) x = true
  · rw [if_pos q, if_neg (by omega), r143_8, c24' hI hy, push_i, r143_16 i01]
    by_cases q1 : isT n μ y = true
    · obtain ⟨j, rfl, hj⟩ := ixN q
      have q1' := isT_i.mp q1
      obtain ⟨t, rfl⟩ := Int.eq_ofNat_of_zero_le q1'.2.1
      rw [if_pos q1, if_pos (by omega), r143_21]
      refine c25 (A := t) c1 c4 c7 h2 h3 h3' h6 (by omega) (fun M' k' hF hk _ hf => ?_)
      obtain ⟨hI', hr⟩ := IC_F hT hI c1 c2 hf hF
      have kk' := hK M' hI' hr
      unfold qAhd at kk'
      rw [if_pos ⟨q, q1⟩, Int.toNat_natCast, Int.toNat_natCast] at kk'
      have hcc : c = 9 ∨ c = 35 := c1
      have hC' : isC M' c n a F := isC_fr (fun i hi => hf _ (by omega) (by omega) (by omega)) c7
      rw [push_u, r143_29 hz]
      have hb := (hF.2.2.2.1 t hk).2 j hj
      by_cases q2 : 0 ≤ z ∧ z < 3
      · have hx' : z = 0 ∨ z = 1 ∨ z = 2 := by omega
        rcases hx' with rfl | rfl | rfl
        · change pm_Run _ 143 56 _ _ _ _
          rw [r143_56, c28 (by omega) (by omega), push_i, r143_65, hb.1]; exact kk'
        · change pm_Run _ 143 66 _ _ _ _
          unfold strd at kk'
          rw [r143_66, c30 c1 c4 hC' h2 hF hj hk (by omega), push_i, r143_75 (by split <;> omega)]
          by_cases q3 : hts n F (ahd n a F μ t) (a 2 j).toNat < a 3 j
          · rw [if_pos q3, if_neg (by omega), r143_78, r143_83]; simpa [q3] using kk'
          · rw [if_neg q3, if_pos rfl, r143_82, r143_83]; simpa [q3] using kk'
        · change pm_Run _ 143 84 _ _ _ _
          rw [r143_84, c29 (by omega) (by omega), push_i, r143_93, hb.2]; exact kk'
      · rw [tgN (by simpa using q2), r143_94]
        rw [if_neg (by omega), if_neg (by omega), if_neg (by omega)] at kk'
        exact kk'
    · rw [if_neg (fun w => q1 w.2)] at kk
      rw [if_neg q1, if_neg (by simp), r143_19]; exact kk
  · rw [if_neg (fun w => q w.1)] at kk
    rw [if_neg q, if_pos rfl, r143_19]; exact kk
theorem q144 (h : IC M v n a F μ B N rf sd A P R sp sh pi fe T) (hT : T ≤ T') {x : Int} (hx : inR x) (hK : ∀ M', IC M' v n a F μ B N rf sd A P R sp sh pi fe T' → frR M M' → K (vI (qBrk n a F μ x)) (GF X, M', PTF v)) : pm_Call (d + 8) 144 [vA 0, vI x] (GF X, M, PTF v) K := by
  have hI := h
  obtain ⟨⟨c, c1, c2, c3, c4, c5, c6, c7, c8⟩, h2, ⟨h3, h3'⟩, ⟨t1, t2, t3, t4, t5⟩, h5, ⟨k, h6⟩, h7, h8, ⟨p1, p2⟩, ⟨i1, i2⟩, h11, h12⟩ := h
  have kk := hK M (IC_T hT hI) frR_r
  unfold qBrk at kk
  rw [en144, r144_0 hx]
  have bad : ¬ (0 ≤ x ∧ x ≤ 2) → pm_Run (d + 7) 144 19 [vA 0, vI x] [] (GF X, M, PTF v) K := by
    intro q
    rw [r144_19]
    by_cases q1 : bro n a F μ (lst μ + 1) = -1
    · rw [if_pos q1] at kk; exact kk
    · rw [if_neg q1, if_neg (by omega), if_neg (by omega), if_neg (by omega)] at kk; exact kk
  by_cases q : x < 0
  · rw [if_pos q]; exact bad (by omega)
  · rw [if_neg q, r144_4 hx]
    by_cases q2 : 2 < x
    · rw [if_pos q2]; exact bad (by omega)
    · rw [if_neg q2, r144_9]
      refine c33 c1 c4 c7 h2 h3 h3' h6 (fun M' k' hF hf hE => ?_)
      obtain ⟨hI', hr⟩ := IC_F hT hI c1 c2 hf hF
      have kk' := hK M' hI' hr
      unfold qBrk at kk'
      rw [push_i, r144_16 (by split <;> omega)]
      by_cases q1 : bro n a F μ (lst μ + 1) = -1
      · rw [if_pos q1] at kk'
        rw [if_pos q1, if_neg (by simp), r144_19]; exact kk'
      · rw [if_neg q1] at kk'
        rw [if_neg q1, if_pos (by omega), r144_21 hx]
        obtain ⟨E1, -, E2⟩ := hE
        obtain ⟨E2, E3⟩ := E2 q1
        have hx' : x = 0 ∨ x = 1 ∨ x = 2 := by omega
        rcases hx' with rfl | rfl | rfl
        · rw [if_neg (by simp), r144_25, E1]; exact kk'
        · rw [if_pos (by omega), r144_33 hx, if_neg (by simp), r144_38, r144_55, E2]; exact kk'
        · rw [if_pos (by omega), r144_33 hx, if_pos (by omega), r144_48, r144_55, E3]; exact kk'
theorem q145 (h : IC M v n a F μ B N rf sd A P R sp sh pi fe T) (hT : T ≤ T') {x y : Int} (hx : inR x) (hy : inR y) (hK : ∀ M', IC M' v n a F μ B N rf sd A P R sp sh pi fe T' → frR M M' → K (vI (qStr n a F μ x y)) (GF X, M', PTF v)) : pm_Call (d + 8) 145 [vA 0, vI x, vI y] (GF X, M, PTF v) K := by
  have hI := h
  obtain ⟨⟨c, c1, c2, c3, c4, c5, c6, c7, c8⟩, h2, ⟨h3, h3'⟩, ⟨t1, t2, t3, t4, t5⟩, h5, ⟨k, h6⟩, h7, h8, ⟨p1, p2⟩, ⟨i1, i2⟩, h11, h12⟩ := h
  have hl := lst_i h3'
  have kk := hK M (IC_T hT hI) frR_r
  unfold qStr at kk
  rw [en145, r145_0, c24' hI hx, push_i, r145_8 i01]
  by_cases q1 : isT n μ x = true
  · have q1' := isT_i.mp q1
    obtain ⟨t, rfl⟩ := Int.eq_ofNat_of_zero_le q1'.2.1
    rw [if_pos q1] at kk
    rw [if_pos q1, if_pos (by omega), r145_13 hy]
    by_cases q2 : y = 0
    · rw [if_neg (by simpa using q2), r145_17]
      refine c25 (A := t) c1 c4 c7 h2 h3 h3' h6 (by omega) (fun M' k' hF hk _ hf => ?_)
      obtain ⟨hI', hr⟩ := IC_F hT hI c1 c2 hf hF
      have kk' := hK M' hI' hr
      unfold qStr at kk'
      rw [if_pos q1, if_pos q2, Int.toNat_natCast] at kk'
      have hcc : c = 9 ∨ c = 35 := c1
      have hC' : isC M' c n a F := isC_fr (fun i hi => hf _ (by omega) (by omega) (by omega)) c7
      rw [push_u, r145_25, c31 c1 c4 hC' h2 hF hk (by omega), push_i, r145_33]
      exact kk'
    · rw [if_pos q2, r145_34 hy]
      by_cases q3 : y = 1
      · rw [if_neg (by simpa using q3), r145_39]
        refine c32 (A := t) c1 c4 c7 h2 h3 h3' h6 (by omega) (fun M' k' hF hf => ?_)
        obtain ⟨hI', hr⟩ := IC_F hT hI c1 c2 hf hF
        have kk' := hK M' hI' hr
        unfold qStr at kk'
        rw [if_pos q1, if_neg q2, if_pos q3, Int.toNat_natCast] at kk'
        rw [push_i, r145_47, r145_51]; exact kk'
      · rw [if_neg q2, if_neg q3] at kk
        rw [if_pos q3, r145_50, r145_51]; exact kk
  · rw [if_neg q1] at kk
    rw [if_neg q1, if_neg (by simp), r145_11]; exact kk
end PUB2
