/-! The class's formulas: what a reckoning answers. -/
/-- the formula w of f is l -/
def isFw (M : PH) (f w : Nat) (l : List Int) : Prop := ∃ i : Nat, M (f + 2) w = (i : Int) ∧ M (f + 3) w = ((i + l.length : Nat) : Int) ∧ i + l.length ≤ 1600 ∧ ∀ j (h : j < l.length), M (f + 1) (i + j) = l[j]
def stk (g : Nat → Int) : List Int → Prop
  | [] => True
  | x :: r => g r.length = x ∧ stk g r
theorem stk_u {g : Nat → Int} {k : Nat} {x : Int} : ∀ {l : List Int}, l.length ≤ k → (stk (pm_up g k x) l ↔ stk g l)
  | [], _ => Iff.rfl
  | y :: r, h => by
    have h1 : r.length < k := h
    show (pm_up g k x r.length = y ∧ stk (pm_up g k x) r) ↔ (g r.length = y ∧ stk g r)
    rw [up_n (by omega), stk_u (by omega)]
theorem stk_p {g : Nat → Int} {x : Int} {l : List Int} (h : stk g l) : stk (pm_up g l.length x) (x :: l) := ⟨up_s, (stk_u (Nat.le_refl _)).mpr h⟩
section CFO
variable {d f w : Nat} {X : Nat × (Nat → Int)} {v : Nat → Int} {M : PH} {K : PV → PS → Prop}
theorem c47t {x l0 l1 l2 : Int} (h : inL x) : pm_Run d 47 327 [vI l0, vI l1, vI l2, vL x, PU] [] (GF X, M, PTF v) K ↔ K (vI (cl x)) (GF X, M, PTF v) := by
  by_cases h1 : 1000000 < x
  · have e1 : pm_cm x 1000000 = 1 := by rw [pm_cm, if_neg (by omega), if_pos (by omega)]
    rw [r47_327 h (by rw [e1]; omega), e1, if_neg (by omega), r47_335, cl, if_pos h1]
  · have e1 : ¬ (0 < pm_cm x 1000000) ∧ inR (pm_cm x 1000000) := by unfold pm_cm; split <;> (try split) <;> omega
    rw [r47_327 h e1.2, if_pos (by omega)]
    by_cases h2 : x < -1000000
    · have e2 : pm_cm x (-1000000) = -1 := by rw [pm_cm, if_pos h2]
      rw [r47_338 h (by rw [e2]; omega), e2, if_neg (by omega), r47_346, r47_353, cl, if_neg h1, if_pos h2]
    · have e2 : 0 ≤ pm_cm x (-1000000) ∧ inR (pm_cm x (-1000000)) := by rw [pm_cm, if_neg h2]; split <;> omega
      rw [r47_338 h e2.2, if_pos e2.1, r47_351, r47_353, cl, if_neg h1, if_neg h2]
theorem c47 {w a b : Int} (hw : isAr (w + 20000) = true ∨ isCm (w + 20000) = true ∨ isBo (w + 20000) = true) (ha : -1000000 ≤ a ∧ a ≤ 1000000) (hb : -1000000 ≤ b ∧ b ≤ 1000000) : pm_Call (d + 1) 47 [vI w, vI a, vI b] (GF X, M, PTF v) K ↔ K (vI (jn w a b)) (GF X, M, PTF v) := by
  have hw' : w = 43 ∨ w = 45 ∨ w = 42 ∨ w = 47 ∨ w = 37 ∨ w = 27 ∨ w = 28 ∨ w = 60 ∨ w = 62 ∨ w = 61 ∨ w = 23 ∨ w = 24 := by
    rcases hw with h | h | h
    · have := isAr_c h; omega
    · have := isCm_c h; omega
    · have := isBo_c h; omega
  rw [en47, r47_0 (by omega)]
  have hfd := fd_le (a := a) (b := b) (n := 1000000) (by omega)
  have hm : -1000000000000 ≤ a * b ∧ a * b ≤ 1000000000000 := by
    have e1 : (a * b).natAbs = a.natAbs * b.natAbs := Int.natAbs_mul a b
    have e2 : a.natAbs * b.natAbs ≤ 1000000 * 1000000 := Nat.mul_le_mul (by omega) (by omega)
    omega
  rcases hw' with rfl | rfl | rfl | rfl | rfl | rfl | rfl | rfl | rfl | rfl | rfl | rfl
  · change pm_Run d 47 176 _ _ _ _ ↔ _
    rw [r47_176 (by omega), c47t (by omega)]; rfl
  · change pm_Run d 47 184 _ _ _ _ ↔ _
    rw [r47_184 (by omega), c47t (by omega)]; rfl
  · change pm_Run d 47 192 _ _ _ _ ↔ _
    rw [r47_192 (by omega) (by omega), c47t (by omega)]; rfl
  · change pm_Run d 47 201 _ _ _ _ ↔ _
    rw [r47_201 (by omega)]
    by_cases h : b = 0
    · subst h
      rw [if_neg (by simp), r47_205, r47_215, c47t (by omega)]; rfl
    · rw [if_pos h, r47_209 (by omega) (by omega) h (by omega), r47_215, c47t (by omega)]
      simp [jn, raw, h]
  · change pm_Run d 47 219 _ _ _ _ ↔ _
    rw [r47_219 (by omega)]
    by_cases h : b = 0
    · subst h
      rw [if_neg (by simp), r47_223, r47_233, c47t (by omega)]; rfl
    · have hfm : -1000000 ≤ a.fmod b ∧ a.fmod b ≤ 1000000 := by
        by_cases hp : 0 < b
        · have h1 := Int.fmod_nonneg_of_pos a hp
          have h2 := Int.fmod_lt_of_pos a hp
          omega
        · have h1 := Int.fmod_nonneg_of_pos (-a) (show 0 < -b by omega)
          have h2 := Int.fmod_lt_of_pos (-a) (show 0 < -b by omega)
          have h3 : (-a).fmod (-b) = -(a.fmod b) := by rw [Int.fmod_def, Int.fmod_def, Int.neg_fdiv_neg, Int.neg_mul]; omega
          omega
      rw [if_pos h, r47_227 (by omega) (by omega) h (by omega), r47_233, c47t (by omega)]
      simp [jn, raw, h]
  · change pm_Run d 47 295 _ _ _ _ ↔ _
    rw [r47_295 (by omega) (by omega)]
    by_cases h : b ≤ a
    · rw [if_pos h, r47_305 (by omega), r47_307, c47t (by omega)]
      simp [jn, raw, Int.min_def]
      rw [show (if a ≤ b then a else b) = b by split <;> omega]
    · rw [if_neg h, r47_300 (by omega), r47_307, c47t (by omega)]
      simp [jn, raw, Int.min_def]
      rw [show (if a ≤ b then a else b) = a by split <;> omega]
  · change pm_Run d 47 311 _ _ _ _ ↔ _
    rw [r47_311 (by omega) (by omega)]
    by_cases h : a ≤ b
    · rw [if_pos h, r47_321 (by omega), r47_323, c47t (by omega)]
      simp [jn, raw, Int.max_def, h]
    · rw [if_neg h, r47_316 (by omega), r47_323, c47t (by omega)]
      simp [jn, raw, Int.max_def, h]
  · change pm_Run d 47 237 _ _ _ _ ↔ _
    rw [r47_237 (by omega) (by omega)]
    by_cases h : b ≤ a
    · rw [if_pos h, r47_246, r47_247, c47t (by omega)]
      simp [jn, raw, show ¬ a < b by omega]
    · rw [if_neg h, r47_242, r47_247, c47t (by omega)]
      simp [jn, raw, show a < b by omega]
  · change pm_Run d 47 251 _ _ _ _ ↔ _
    rw [r47_251 (by omega) (by omega)]
    by_cases h : a ≤ b
    · rw [if_pos h, r47_260, r47_261, c47t (by omega)]
      simp [jn, raw, show ¬ b < a by omega]
    · rw [if_neg h, r47_256, r47_261, c47t (by omega)]
      simp [jn, raw, show b < a by omega]
  · change pm_Run d 47 265 _ _ _ _ ↔ _
    rw [r47_265 (by omega) (by omega)]
    by_cases h : a = b
    · rw [if_neg (by simp [h]), r47_270, r47_275, c47t (by omega)]
      simp [jn, raw, h]
    · rw [if_pos h, r47_274, r47_275, c47t (by omega)]
      simp [jn, raw, h]
  · change pm_Run d 47 279 _ _ _ _ ↔ _
    have := bi_or (a := a) (b := b)
    rw [r47_279 (by omega), c47t (by omega)]; rfl
  · change pm_Run d 47 287 _ _ _ _ ↔ _
    have := bi_and (a := a) (b := b)
    rw [r47_287 (by omega), c47t (by omega)]; rfl
/-- the loop over the codes -/
theorem c46l (hf : isFo f) (hw : w < 8) {E : Nat} (hE : M (f + 3) w = (E : Int)) (hE2 : E ≤ 1600) {ts' : List Bool} {R : Int} (hK : ∀ g, K (vI R) (GF X, pm_sa M (f + 6) g, PTF v)) : ∀ (rest : List Int) (i : Nat) (xs : List Int) (ts : List Bool) (g : Nat → Int) (l4 : PV), (∀ u, isVw u = true → ((10000 + u : Nat) : Int) ∈ rest → -1000000 ≤ M (f + 5) u ∧ M (f + 5) u ≤ 1000000) → i + rest.length = E → (∀ j (h : j < rest.length), M (f + 1) (i + j) = rest[j]) → rest.foldl ty1 (some ts) = some ts' → okS ts xs → xs.length ≤ 64 → stk g xs → (rest.foldl (ev1 (M (f + 5))) xs).headD 0 = R → pm_Run (d + 1) 46 9 [vA f, vI (w : Int), vI (xs.length : Int), vI (i : Int), l4] [] (GF X, pm_sa M (f + 6) g, PTF v) K := by
  have hfn : f = 24 ∨ f = 50 := hf
  intro rest
  induction rest with
  | nil =>
    intro i xs ts g l4 _ hi _ _ _ hl hg hR
    rw [List.length_nil] at hi
    have e3 : (pm_sa M (f + 6) g) (f + 3) w = (E : Int) := by rw [sa_n (by omega)]; exact hE
    rw [r46_9 hf (by omega) (by omega) (by omega) (by rw [Int.toNat_natCast, e3]; omega), Int.toNat_natCast, e3, if_pos (by omega), r46_189 (by omega)]
    match xs, hl, hg, hR with
    | [], _, _, hR =>
      rw [if_pos (by simp), r46_204, r46_205, show (0 : Int) = R from hR]
      exact hK g
    | x :: r, hl, hg, hR =>
      have hl' : r.length < 64 := hl
      rw [if_neg (by rw [List.length_cons]; omega), r46_193 hf (by rw [List.length_cons]; omega) (by rw [List.length_cons]; omega), r46_205, sa_s, show (((x :: r).length : Int) - 1).toNat = r.length by rw [List.length_cons]; omega, hg.1, show x = R from hR]
      exact hK g
  | cons c rest ih =>
    intro i xs ts g l4 he hi hc ht hs hl hg hR
    have he' : ∀ u, isVw u = true → ((10000 + u : Nat) : Int) ∈ rest → -1000000 ≤ M (f + 5) u ∧ M (f + 5) u ≤ 1000000 := fun u hu hm => he u hu (List.mem_cons_of_mem _ hm)
    rw [List.length_cons] at hi
    have e3 : (pm_sa M (f + 6) g) (f + 3) w = (E : Int) := by rw [sa_n (by omega)]; exact hE
    have e1 : (pm_sa M (f + 6) g) (f + 1) i = c := by rw [sa_n (by omega)]; exact hc 0 (by simp)
    have hc' : ∀ j (h : j < rest.length), M (f + 1) (i + 1 + j) = rest[j] := fun j h => by
      have := hc (j + 1) (by simp; omega)
      rw [show i + 1 + j = i + (j + 1) by omega]
      exact this
    rw [List.foldl_cons] at ht hR
    cases hx : ty1 (some ts) c with
    | none => rw [hx, ty1_n] at ht; cases ht
    | some ts1 =>
      rw [hx] at ht
      have hs1 := okS_s (fun u hu hm => he u hu (by rw [hm]; exact List.mem_cons_self)) hx hs
      have hls := okS_l hs
      have cR : inR c := by
        rcases ty1_c hx with ⟨h1, -⟩ | ⟨h1, -⟩ | ⟨h1, -⟩ | ⟨h1, -⟩ | ⟨h1, -⟩ | ⟨h1, -⟩
        · have := isNu_c h1; omega
        · omega
        · omega
        · have := isAr_c h1; omega
        · have := isCm_c h1; omega
        · have := isBo_c h1; omega
      rw [r46_9 hf (by omega) (by omega) (by omega) (by rw [Int.toNat_natCast, e3]; omega), Int.toNat_natCast, e3, if_neg (by omega), r46_19 hf (by omega) (by omega) (by rw [Int.toNat_natCast, e1]; exact cR), Int.toNat_natCast, e1]
      have two : (isAr c = true ∨ isCm c = true ∨ isBo c = true) → (∃ y x r t1 t2 tr, xs = y :: x :: r ∧ ts = t1 :: t2 :: tr) → pm_Run (d + 1) 46 144 [vA f, vI (w : Int), vI (xs.length : Int), vI (i : Int), vI c] [] (GF X, pm_sa M (f + 6) g, PTF v) K := by
        rintro hk ⟨y, x, r, t1, t2, tr, rfl, rfl⟩
        have hb1 : -1000000 ≤ y ∧ y ≤ 1000000 := by have := hs.1; split at this <;> omega
        have hb2 : -1000000 ≤ x ∧ x ≤ 1000000 := by have := hs.2.1; split at this <;> omega
        have hl2 : ((y :: x :: r).length : Int) = (r.length : Int) + 2 := by simp; omega
        have hl3 : r.length + 2 ≤ 64 := hl
        have n1 : c ≠ 20026 ∧ c ≠ 20025 ∧ ¬ c < 20000 := by
          rcases hk with h | h | h
          · have := isAr_c h; omega
          · have := isCm_c h; omega
          · have := isBo_c h; omega
        have e4 : ev1 (M (f + 5)) (y :: x :: r) c = jn (c - 20000) x y :: r := by rw [ev1, if_neg n1.2.2, if_neg n1.1, if_neg n1.2.1]; rfl
        rw [hl2, r46_144 (by omega), if_neg (by omega), r46_149 hf (by omega) (by omega) (by omega) (by omega), sa_s, show ((r.length : Int) + 2 + (-1) - 1).toNat = r.length by omega, show ((r.length : Int) + 2 + (-1)).toNat = r.length + 1 by omega, hg.2.1, show g (r.length + 1) = y from hg.1, c47 (by rw [show c - 20000 + 20000 = c by omega]; exact hk) hb2 hb1, push_i, r46_182 hf (by omega) (by omega), r46_183, sa_s, sa_sa, show ((r.length : Int) + 2 + (-1) - 1).toNat = r.length by omega]
        rw [e4] at hs1 hR
        have := ih (i + 1) (jn (c - 20000) x y :: r) ts1 (pm_up g r.length (jn (c - 20000) x y)) (vI c) he' (by omega) hc' ht hs1 (by simp; omega) (stk_p hg.2.2) hR
        rw [show ((r.length : Int) + 2 + (-1)) = (((jn (c - 20000) x y :: r).length : Nat) : Int) by simp; omega]
        exact this
      rcases ty1_c hx with ⟨h1, h2, rfl⟩ | ⟨h1, h2, rfl⟩ | ⟨h1, r, rfl, rfl⟩ | ⟨h1, r, rfl, rfl⟩ | ⟨h1, r, rfl, rfl⟩ | ⟨h1, r, rfl, rfl⟩
      · have h3 : c < 20000 := by have := isNu_c h1; omega
        rw [if_neg (by omega), r46_35 hf (by omega), if_neg (by omega), r46_44 hf cR]
        have e4 : ev1 (M (f + 5)) xs c = (if c < 10000 then c else M (f + 5) (c - 10000).toNat) :: xs := by rw [ev1, if_pos h3]
        rw [e4] at hs1 hR
        have := ih (i + 1) _ _ (pm_up g xs.length (if c < 10000 then c else M (f + 5) (c - 10000).toNat)) (vI c) he' (by omega) hc' ht hs1 (by simp; omega) (stk_p hg) hR
        by_cases h4 : c < 10000
        · rw [if_neg (by omega), r46_57, r46_73 hf (by omega) (by omega), r46_74, r46_183, sa_s, sa_sa, Int.toNat_natCast]
          rw [if_pos h4] at this
          exact this
        · have h5 := isNu_c h1
          rw [if_pos (by omega), r46_62 hf (by omega) (by omega), r46_73 hf (by omega) (by omega), r46_74, r46_183, sa_s, sa_sa, Int.toNat_natCast, sa_n (by omega)]
          rw [if_neg h4] at this
          exact this
      · subst h1
        rw [if_pos (by omega), r46_80 (by omega), if_neg (by simp), r46_88 hf (by omega), if_neg (by omega), r46_97 hf (by omega) (by omega), r46_104, r46_183, sa_s, sa_sa, Int.toNat_natCast]
        exact ih (i + 1) _ _ (pm_up g xs.length 1) (vI 20026) he' (by omega) hc' ht hs1 (by show xs.length + 1 ≤ 64; omega) (stk_p hg) hR
      · subst h1
        match xs, hs, hl, hg, hR, hs1 with
        | x :: xs, hs, hl, hg, hR, hs1 =>
          have hl2 : ((x :: xs).length : Int) = (xs.length : Int) + 1 := by simp
          have hl3 : xs.length + 1 ≤ 64 := hl
          rw [if_pos (by omega), hl2, r46_80 (by omega), if_pos (by omega), r46_110 (by omega), if_neg (by simp), r46_118 (by omega), if_neg (by omega), r46_123 hf (by omega) (by omega), r46_183, sa_s, sa_sa, show ((xs.length : Int) + 1 - 1).toNat = xs.length by omega, hg.1]
          exact ih (i + 1) ((1 - x) :: xs) _ (pm_up g xs.length (1 - x)) (vI 20025) he' (by omega) hc' ht hs1 hl (stk_p hg.2) hR
      all_goals
        rw [if_pos (by first | (have := isAr_c h1; omega) | (have := isCm_c h1; omega) | (have := isBo_c h1; omega)), r46_80 cR, if_pos (by first | (have := isAr_c h1; omega) | (have := isCm_c h1; omega) | (have := isBo_c h1; omega)), r46_110 cR, if_pos (by first | (have := isAr_c h1; omega) | (have := isCm_c h1; omega) | (have := isBo_c h1; omega))]
        match xs, hs, two with
        | y :: x :: xs, hs, two => exact two (by simp [h1]) ⟨y, x, xs, _, _, r, rfl, rfl⟩
theorem c46 (hf : isFo f) (hw : w < 8) {l : List Int} (hF : isFw M f w l) {ts : List Bool} (ht : ty l = some ts) (he : ∀ u, isVw u = true → ((10000 + u : Nat) : Int) ∈ l → -1000000 ≤ M (f + 5) u ∧ M (f + 5) u ≤ 1000000) (hK : ∀ g, K (vI (ev (M (f + 5)) l)) (GF X, pm_sa M (f + 6) g, PTF v)) : pm_Call (d + 2) 46 [vA f, vI (w : Int)] (GF X, M, PTF v) K := by
  obtain ⟨i, h1, h2, h3, h4⟩ := hF
  rw [en46, r46_0 hf (by omega) (by omega), Int.toNat_natCast, h1]
  have := c46l (d := d) (K := K) (X := X) (v := v) hf hw h2 h3 hK l i [] [] (M (f + 6)) PU he rfl h4 ht trivial (by simp) trivial rfl
  rw [sa_id rfl] at this
  exact this
theorem c45 (hf : isFo f) {w u : Nat} (hw : w < 8) (hu : u < 29) {U : Nat} (hU : U < 2147483648) (h : M (f + 4) w = (U : Int)) : pm_Call (d + 1) 45 [vA f, vI (w : Int), vI (u : Int)] (GF X, M, PTF v) K ↔ K (vI (if U.testBit u then 1 else 0)) (GF X, M, PTF v) := by
  have e := bi_bit (a := U) (k := u) hU (by omega)
  have e2 : inR (pm_and (pm_shr (M (f + 4) ((w : Int)).toNat) (u : Int)) 1) := bi_and
  rw [en45, r45_0 hf (by omega) (by omega) e2, Int.toNat_natCast, h, e]
  by_cases q : U.testBit u
  · rw [if_pos q, if_neg (by simp), r45_14, r45_19 (by simp)]
  · rw [if_neg q, if_pos (by simp), r45_18, r45_19 (by simp)]
theorem c44 (hf : isFo f) (hw : w < 8) {l : List Int} (hF : isFw M f w l) : pm_Call (d + 1) 44 [vA f, vI (w : Int)] (GF X, M, PTF v) K ↔ K (vI (if l = [] then 0 else 1)) (GF X, M, PTF v) := by
  obtain ⟨i, h1, h2, h3, h4⟩ := hF
  rw [en44, r44_0 hf (by omega) (by omega) (by rw [Int.toNat_natCast, h2]; omega) (by rw [Int.toNat_natCast, h1]; omega), Int.toNat_natCast, h1, h2]
  by_cases q : l = []
  · subst q
    rw [if_pos (by simp), if_pos rfl, r44_19, r44_20 (by simp)]
  · have : 0 < l.length := List.length_pos_iff.mpr q
    rw [if_neg (by omega), if_neg q, r44_15, r44_20 (by simp)]
theorem c177 {x lo hi : Int} (hx : inR x) (hl : inR lo) (hh : inR hi) : pm_Call (d + 1) 177 [vI lo, vI x, vI hi] (GF X, M, PTF v) K ↔ K (vI (wi lo x hi)) (GF X, M, PTF v) := by
  rw [en177, r177_0 hx hl]
  by_cases h : lo ≤ x
  · rw [if_pos h, r177_7 hx hh]
    by_cases h2 : x ≤ hi
    · rw [if_pos h2, r177_16, r177_17, wi, if_neg (by omega), if_neg (by omega)]
    · rw [if_neg h2, r177_12, r177_17, wi, if_neg (by omega), if_pos (by omega)]
  · rw [if_neg h, r177_5, wi, if_pos (by omega)]
end CFO
