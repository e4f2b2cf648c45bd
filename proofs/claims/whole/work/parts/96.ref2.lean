/-! The reference's arithmetic. -/
theorem cm_r {x y : Int} : inR (pm_cm x y) := by unfold pm_cm; split <;> (try split) <;> omega
theorem cm_l {x y : Int} : 0 ≤ pm_cm x y ↔ y ≤ x := by unfold pm_cm; split <;> (try split) <;> omega
theorem cm_g {x y : Int} : pm_cm x y ≤ 0 ↔ x ≤ y := by unfold pm_cm; split <;> (try split) <;> omega
theorem cm_e {x y : Int} : pm_cm x y = 0 ↔ x = y := by unfold pm_cm; split <;> (try split) <;> omega
theorem fd_t {a b : Int} (hb : b ≠ 0) : a.fdiv b = if a.tmod b = 0 then a.tdiv b else if (if a < 0 then (1 : Int) else 0) = (if b < 0 then 1 else 0) then a.tdiv b else a.tdiv b - 1 := by
  rw [Int.fdiv_eq_tdiv]
  by_cases q : a.tmod b = 0
  · rw [if_pos q, if_pos (Int.dvd_iff_tmod_eq_zero.mpr q)]; omega
  · rw [if_neg q, if_neg (fun h => q (Int.dvd_iff_tmod_eq_zero.mp h))]
    by_cases qa : a < 0
    · rw [if_neg (by omega), if_pos qa]
      by_cases qb : b < 0
      · rw [if_neg (by omega), if_pos qb, if_pos rfl, Int.sign_eq_neg_one_of_neg qb]; omega
      · rw [if_pos (by omega), if_neg qb, if_neg (by omega), Int.sign_eq_one_of_pos (by omega)]
    · rw [if_pos (by omega), if_neg qa]
      by_cases qb : b < 0
      · rw [if_neg (by omega), if_pos qb, if_neg (by omega)]
      · rw [if_pos (by omega), if_neg qb, if_pos rfl]; omega
section RF2
variable {d b w : Nat} {X : Nat × (Nat → Int)} {v : Nat → Int} {M M' : PH} {K : PV → PS → Prop} {n : Nat → Nat} {a μ : PH} {F : Nat → List Int}
theorem c245 {x : Int} (h : inL x) : pm_Call (d + 1) 245 [vL x] (GF X, M, PTF v) K ↔ K (vL (cl x)) (GF X, M, PTF v) := by
  rw [en245, r245_0 h cm_r]
  by_cases q : 1000000 < x
  · rw [if_neg (by rw [cm_g]; omega), r245_8, r245_29, cl, if_pos q]
  · rw [if_pos (by rw [cm_g]; omega), r245_14 h cm_r]
    by_cases q2 : x < -1000000
    · rw [if_neg (by rw [cm_l]; omega), r245_22, r245_29, cl, if_neg q, if_pos q2]
    · rw [if_pos (by rw [cm_l]; omega), r245_28, r245_29, cl, if_neg q, if_neg q2]
theorem c246 {x y : Int} (hx' : -1000000000000 ≤ x ∧ x ≤ 1000000000000) (hy : inL y) : pm_Call (d + 1) 246 [vL x, vL y] (GF X, M, PTF v) K ↔ K (vL (if y = 0 then 0 else x.fdiv y)) (GF X, M, PTF v) := by
  have hx : inL x := by omega
  rw [en246, r246_0 hy cm_r]
  by_cases q : y = 0
  · rw [if_neg (by rw [ne_eq, cm_e]; simpa using q), r246_6, if_pos q]
  · have hm : inL (x.tmod y) := by
      have h1 := Int.natAbs_tmod x y
      have h2 := Nat.mod_le x.natAbs y.natAbs
      omega
    rw [if_pos (by rw [ne_eq, cm_e]; exact q), r246_8 hx hy q hm cm_r, if_neg q, fd_t q]
    by_cases qm : x.tmod y = 0
    · rw [if_pos (by rw [cm_e]; exact qm), r246_53, r246_55, if_pos qm]
    · rw [if_neg (by rw [cm_e]; exact qm), r246_21 hx cm_r, if_neg qm]
      by_cases qa : x < 0
      · rw [if_neg (by rw [cm_l]; omega), r246_27, r246_32 hy cm_r, if_pos qa]
        by_cases qb : y < 0
        · rw [if_neg (by rw [cm_l]; omega), r246_38, r246_43 (by omega) (by omega), if_pos rfl, r246_53, r246_55, if_pos qb, if_pos rfl]
        · rw [if_pos (by rw [cm_l]; omega), r246_42, r246_43 (by omega) (by omega), if_neg (by omega), r246_46, r246_55, if_neg qb, if_neg (by omega)]
      · rw [if_pos (by rw [cm_l]; omega), r246_31, r246_32 hy cm_r, if_neg qa]
        by_cases qb : y < 0
        · rw [if_neg (by rw [cm_l]; omega), r246_38, r246_43 (by omega) (by omega), if_neg (by omega), r246_46, r246_55, if_pos qb, if_neg (by omega)]
        · rw [if_pos (by rw [cm_l]; omega), r246_42, r246_43 (by omega) (by omega), if_pos rfl, r246_53, r246_55, if_neg qb, if_pos rfl]
/-- the reference's number of a code that joins two -/
def srt (c : Int) : Int := if c = 43 then 10 else if c = 45 then 11 else if c = 42 then 12 else if c = 47 then 13 else if c = 37 then 14 else if c = 27 then 15 else if c = 28 then 16 else if c = 60 then 17 else if c = 62 then 18 else if c = 61 then 19 else if c = 24 then 20 else 21
theorem b01 : ∀ x, x = 0 ∨ x = (1 : Int) → ∀ y, y = 0 ∨ y = (1 : Int) → pm_land x y = pm_and x y ∧ pm_lor x y = pm_or x y ∧ cl (pm_and x y) = pm_and x y ∧ cl (pm_or x y) = pm_or x y := by
  rintro x (rfl | rfl) y (rfl | rfl) <;> decide +kernel
theorem c247 {c x y : Int} (hc : isAr (c + 20000) = true ∨ isCm (c + 20000) = true ∨ (isBo (c + 20000) = true ∧ (x = 0 ∨ x = 1) ∧ (y = 0 ∨ y = 1))) (hx : -1000000 ≤ x ∧ x ≤ 1000000) (hy : -1000000 ≤ y ∧ y ≤ 1000000) : pm_Call (d + 2) 247 [vI (srt c), vL x, vL y] (GF X, M, PTF v) K ↔ K (vL (jn c x y)) (GF X, M, PTF v) := by
  have hfd := fd_le (a := x) (b := y) (n := 1000000) (by omega)
  have hm : -1000000000000 ≤ x * y ∧ x * y ≤ 1000000000000 := by
    have e1 : (x * y).natAbs = x.natAbs * y.natAbs := Int.natAbs_mul x y
    have e2 : x.natAbs * y.natAbs ≤ 1000000 * 1000000 := Nat.mul_le_mul (by omega) (by omega)
    omega
  have hc' : c = 43 ∨ c = 45 ∨ c = 42 ∨ c = 47 ∨ c = 37 ∨ c = 27 ∨ c = 28 ∨ c = 60 ∨ c = 62 ∨ c = 61 ∨ ((c = 23 ∨ c = 24) ∧ (x = 0 ∨ x = 1) ∧ (y = 0 ∨ y = 1)) := by
    rcases hc with h | h | ⟨h, h1, h2⟩
    · have := isAr_c h; omega
    · have := isCm_c h; omega
    · have := isBo_c h; omega
  rw [en247]
  rcases hc' with rfl | rfl | rfl | rfl | rfl | rfl | rfl | rfl | rfl | rfl | ⟨hc2, h1, h2⟩
  · rw [show srt 43 = 10 from rfl, r247_0 (by omega)]
    change pm_Run _ 247 60 _ _ _ _ ↔ _
    rw [r247_60, c245 (by omega), push_l, r247_66]; rfl
  · rw [show srt 45 = 11 from rfl, r247_0 (by omega)]
    change pm_Run _ 247 67 _ _ _ _ ↔ _
    rw [r247_67, c245 (by omega), push_l, r247_73]; rfl
  · rw [show srt 42 = 12 from rfl, r247_0 (by omega)]
    change pm_Run _ 247 74 _ _ _ _ ↔ _
    rw [r247_74, c245 (by omega), push_l, r247_80]; rfl
  · rw [show srt 47 = 13 from rfl, r247_0 (by omega)]
    change pm_Run _ 247 81 _ _ _ _ ↔ _
    rw [r247_81, c246 (by omega) (by omega), push_l, r247_86, c245 (by split <;> omega), push_l, r247_89]; rfl
  · rw [show srt 37 = 14 from rfl, r247_0 (by omega)]
    change pm_Run _ 247 90 _ _ _ _ ↔ _
    rw [r247_90 (by omega) cm_r]
    by_cases q : y = 0
    · rw [if_neg (by rw [ne_eq, cm_e]; simpa using q), r247_96, r247_112, q]; rfl
    · have hf := Int.fmod_def x y
      have hfm : -1000000 ≤ x.fmod y ∧ x.fmod y ≤ 1000000 := by
        by_cases hp : 0 < y
        · have g1 := Int.fmod_nonneg_of_pos x hp
          have g2 := Int.fmod_lt_of_pos x hp
          omega
        · have e := Int.neg_fmod_neg (-x) (-y)
          have g1 := Int.fmod_nonneg_of_pos (-x) (show 0 < -y by omega)
          have g2 := Int.fmod_lt_of_pos (-x) (show 0 < -y by omega)
          rw [Int.neg_neg, Int.neg_neg] at e
          omega
      rw [if_pos (by rw [ne_eq, cm_e]; exact q), r247_100, c246 (by omega) (by omega), if_neg q, push_l, r247_107, c245 (by omega), push_l, r247_112, ← hf]
      simp [jn, raw, q]
  · rw [show srt 27 = 15 from rfl, r247_0 (by omega)]
    change pm_Run _ 247 113 _ _ _ _ ↔ _
    rw [r247_113 (by omega) (by omega) cm_r]
    have e : jn 27 x y = min x y := by
      show cl (min x y) = _
      exact cl_id (by omega)
    rw [e]
    by_cases q : x < y
    · rw [if_neg (by rw [cm_l]; omega), r247_119, r247_124, Int.min_eq_left (by omega)]
    · rw [if_pos (by rw [cm_l]; omega), r247_123, r247_124, Int.min_eq_right (by omega)]
  · rw [show srt 28 = 16 from rfl, r247_0 (by omega)]
    change pm_Run _ 247 125 _ _ _ _ ↔ _
    rw [r247_125 (by omega) (by omega) cm_r]
    have e : jn 28 x y = max x y := by
      show cl (max x y) = _
      exact cl_id (by omega)
    rw [e]
    by_cases q : x ≤ y
    · rw [if_pos (by rw [cm_g]; exact q), r247_135, r247_136, Int.max_eq_right q]
    · rw [if_neg (by rw [cm_g]; exact q), r247_131, r247_136, Int.max_eq_left (by omega)]
  · rw [show srt 60 = 17 from rfl, r247_0 (by omega)]
    change pm_Run _ 247 137 _ _ _ _ ↔ _
    rw [r247_137 (by omega) (by omega) cm_r]
    have e : jn 60 x y = if x < y then 1 else 0 := by
      show cl (if x < y then 1 else 0) = _
      exact cl_id (by split <;> omega)
    rw [e]
    by_cases q : x < y
    · rw [if_neg (by rw [cm_l]; omega), r247_143, r247_148, if_pos q]
    · rw [if_pos (by rw [cm_l]; omega), r247_147, r247_148, if_neg q]
  · rw [show srt 62 = 18 from rfl, r247_0 (by omega)]
    change pm_Run _ 247 149 _ _ _ _ ↔ _
    rw [r247_149 (by omega) (by omega) cm_r]
    have e : jn 62 x y = if y < x then 1 else 0 := by
      show cl (if y < x then 1 else 0) = _
      exact cl_id (by split <;> omega)
    rw [e]
    by_cases q : y < x
    · rw [if_neg (by rw [cm_g]; omega), r247_155, r247_160, if_pos q]
    · rw [if_pos (by rw [cm_g]; omega), r247_159, r247_160, if_neg q]
  · rw [show srt 61 = 19 from rfl, r247_0 (by omega)]
    change pm_Run _ 247 161 _ _ _ _ ↔ _
    rw [r247_161 (by omega) (by omega) cm_r]
    have e : jn 61 x y = if x = y then 1 else 0 := by
      show cl (if x = y then 1 else 0) = _
      exact cl_id (by split <;> omega)
    rw [e]
    by_cases q : x = y
    · rw [if_neg (by rw [ne_eq, cm_e]; simpa using q), r247_167, r247_172, if_pos q]
    · rw [if_pos (by rw [ne_eq, cm_e]; exact q), r247_171, r247_172, if_neg q]
  · have g := b01 x h1 y h2
    rcases hc2 with rfl | rfl
    · rw [show srt 23 = 21 from rfl, r247_0 (by omega)]
      change pm_Run _ 247 177 _ _ _ _ ↔ _
      rw [r247_177, g.2.1, ← g.2.2.2]; rfl
    · rw [show srt 24 = 20 from rfl, r247_0 (by omega)]
      change pm_Run _ 247 173 _ _ _ _ ↔ _
      rw [r247_173, g.1, ← g.2.2.1]; rfl
theorem c248 {x : Int} (hx : inR x) : pm_Call (d + 1) 248 [vI x] (GF X, M, PTF v) K ↔ K (vI (if x < 10 ∨ 30 ≤ x then 1 else 0)) (GF X, M, PTF v) := by
  rw [en248, r248_0 hx]
  by_cases q : x < 10
  · rw [if_pos q, r248_12, r248_17 (by simp), if_pos (Or.inl q)]
  · rw [if_neg q, r248_6 hx]
    by_cases q2 : x < 30
    · rw [if_pos q2, r248_16, r248_17 (by simp), if_neg (by omega)]
    · rw [if_neg q2, r248_12, r248_17 (by simp), if_pos (by omega)]
theorem c250 {x lo hi : Int} (hx : inL x) (h1 : inR lo) (h2 : inR hi) : pm_Call (d + 1) 250 [vL x, vI lo, vI hi] (GF X, M, PTF v) K ↔ K (vI (wi lo x hi)) (GF X, M, PTF v) := by
  rw [en250, r250_0 h1 hx (by omega) cm_r, wi]
  by_cases q : x < lo
  · rw [if_neg (by rw [cm_l]; omega), r250_7, r250_24, if_pos q]
  · rw [if_pos (by rw [cm_l]; omega), r250_11 h2 hx (by omega) cm_r, if_neg q]
    by_cases q2 : hi < x
    · rw [if_neg (by rw [cm_g]; omega), r250_18, r250_24, if_pos q2]
    · rw [if_pos (by rw [cm_g]; omega), r250_22, r250_24, if_neg q2]
theorem c242 (hR : RC M b n a) (hwC : wC n a F) {x : Int} {p : Nat} (hx : 0 ≤ x ∧ x < (n 0 : Int)) (hp : p < n 0) : pm_Call (d + 1) 242 [vA 234, vI x, vI (p : Int)] (GF X, M, PTF v) K ↔ K (vI (fa (n 0) x p)) (GF X, M, PTF v) := by
  obtain ⟨⟨hb, e13⟩, ⟨e0, -⟩, -⟩ := hR
  have hn := hwC.1
  have en : M 236 (M 234 13).toNat = (n 0 : Int) := by rw [e13, Int.toNat_natCast, e0]
  rw [en242, r242_0 (by omega) (by omega), fa]
  by_cases q : x < (p : Int)
  · rw [if_neg (by omega), r242_5, r242_14 (by omega) (by omega) (by omega) (by rw [en]; omega), en, if_pos q]
    by_cases q2 : (p : Int) - x < (n 0 : Int) - ((p : Int) - x)
    · rw [if_neg (by omega), r242_30, r242_45, if_pos q2]
    · rw [if_pos (by omega), r242_34 (by omega) (by omega), r242_45, en, if_neg q2]
  · rw [if_pos (by omega), r242_11, r242_14 (by omega) (by omega) (by omega) (by rw [en]; omega), en, if_neg q]
    by_cases q2 : x - (p : Int) < (n 0 : Int) - (x - (p : Int))
    · rw [if_neg (by omega), r242_30, r242_45, if_pos q2]
    · rw [if_pos (by omega), r242_34 (by omega) (by omega), r242_45, en, if_neg q2]
end RF2
