/-! The class as a whole: what holds between calls. -/
def nmI (M : PH) (c : Nat) (n : Nat → Nat) (a : PH) : Prop := (∀ m, m < n 1 → M (c + 1) m = a 7 m ∧ 0 ≤ a 7 m ∧ a 7 m < 1073741824) ∧ ∀ h, h < n 2 → M (c + 3) h = a 8 h ∧ 0 ≤ a 8 h ∧ a 8 h < 1073741824
def chI (M : PH) (v : Nat → Int) (n : Nat → Nat) (a : PH) (F : Nat → List Int) : Prop := ∃ c : Nat, isCh c ∧ v 0 = (c : Int) ∧ v 1 = ((44 - c : Nat) : Int) ∧ v 2 = (c : Int) ∧ v 3 = (c : Int) ∧ v 4 = (c : Int) ∧ isC M c n a F ∧ nmI M c n a
def tpI (M : PH) (B : Nat → Int) (N : Nat) (sd : Int) : Prop := TP M B ∧ N ≤ 1600 ∧ M 0 11 = (N : Int) ∧ M 0 12 = sd ∧ 0 ≤ sd ∧ sd < 2147483648
def rfI (M : PH) (rf : Nat → Int) (T : Int) : Prop := ∀ k, k < 6 → M 2 k = rf k ∧ 0 ≤ rf k ∧ rf k ≤ T
def paI (M : PH) (n : Nat → Nat) (A : Nat) (P : Nat → PH) : Prop := PA M A P ∧ ∀ k, k < A → wM n (P k)
/-- chart, moment, tape, refusals, seed, past, seen, image, fault -/
def IC (M : PH) (v : Nat → Int) (n : Nat → Nat) (a : PH) (F : Nat → List Int) (μ : PH) (B : Nat → Int) (N : Nat) (rf : Nat → Int) (sd : Int) (A : Nat) (P : Nat → PH) (R : Nat) (sp sh : Nat → Int) (pi : PB2) (fe : Int × Int) (T : Int) : Prop := chI M v n a F ∧ wC n a F ∧ (mo M 3 = μ ∧ wM n μ) ∧ tpI M B N sd ∧ rfI M rf T ∧ (∃ k, FI M n a F μ k) ∧ BI M n a F μ T ∧ WI M n F μ R sp sh ∧ paI M n A P ∧ (isP M pi ∧ pi.1 ≤ 97) ∧ (M 31 3 = fe.1 ∧ M 31 4 = fe.2) ∧ KY M
def frR (M M' : PH) : Prop := ∀ q, 234 ≤ q → M' q = M q
section PUB
variable {d c : Nat} {X : Nat × (Nat → Int)} {v : Nat → Int} {M M' : PH} {K : PV → PS → Prop} {n : Nat → Nat} {a μ : PH} {F : Nat → List Int} {B : Nat → Int} {N : Nat} {rf : Nat → Int} {sd : Int} {A : Nat} {P : Nat → PH} {R : Nat} {sp sh : Nat → Int} {pi : PB2} {fe : Int × Int} {T T' : Int}
theorem FI_f (h : ∀ q, 60 ≤ q → q ≤ 73 → M' q = M q) {k : Nat} (hF : FI M n a F μ k) : FI M' n a F μ k := by
  unfold FI brE at *
  rw [h 60 (by omega) (by omega), h 63 (by omega) (by omega), h 70 (by omega) (by omega), h 71 (by omega) (by omega), h 72 (by omega) (by omega), h 73 (by omega) (by omega), mo_fr (M := M) (fun i hi => h _ (by omega) (by omega))]
  exact hF
theorem BI_f (h : ∀ q, 74 ≤ q → q ≤ 90 → M' q = M q) (hT : T ≤ T') (hB : BI M n a F μ T) : BI M' n a F μ T' := by
  unfold BI stI wsI rsI wok at *
  rw [h 74 (by omega) (by omega), h 80 (by omega) (by omega), h 84 (by omega) (by omega), mo_fr (M := M) (fun i hi => h _ (by omega) (by omega))]
  exact ⟨⟨⟨hB.1.1.1, by have := hB.1.1.2; omega⟩, hB.1.2⟩, hB.2⟩
theorem WI_f (h91 : M' 91 = M 91) (h101 : M' 101 = M 101) (h102 : M' 102 = M 102) (hW : WI M n F μ R sp sh) : WI M' n F μ R sp sh := by
  unfold WI rwI jok at *
  rw [h91, h101, h102]; exact hW
theorem PA_f (h : ∀ q, 103 ≤ q → q ≤ 224 → M' q = M q) (hP : PA M A P) : PA M' A P := by
  obtain ⟨x, hx, h1, h2, h3, h4⟩ := hP
  refine ⟨x, hx, h1, by rw [h 103 (by omega) (by omega)]; exact h2, by rw [h 103 (by omega) (by omega)]; exact h3, fun k hk => ?_⟩
  have : (x + 19 - k) % 20 < 20 := Nat.mod_lt _ (by omega)
  rw [mo_fr (M := M) (fun i hi => h _ (by omega) (by omega))]; exact h4 k hk
theorem IC_re (hT : T ≤ T') (h : IC M v n a F μ B N rf sd A P R sp sh pi fe T) (k1 : ∀ c, isCh c → v 0 = (c : Int) → ∀ q, (c ≤ q ∧ q ≤ c + 8) ∨ (c + 16 ≤ q ∧ q ≤ c + 19) → M' q = M q) (k2 : ∀ q, q ≤ 8 → M' q = M q) (k31 : M' 31 = M 31) (k33 : M' 33 = M 33) (kP : ∀ q, 103 ≤ q → q ≤ 224 → M' q = M q) (kI : M' 225 2 = M 225 2 ∧ M' 226 = M 226) (hF : ∃ k, FI M' n a F μ k) (hB : BI M' n a F μ T') (hW : WI M' n F μ R sp sh) : IC M' v n a F μ B N rf sd A P R sp sh pi fe T' := by
  obtain ⟨⟨c, c1, c2, c3, c4, c5, c6, c7, c8⟩, h2, ⟨h3, h3'⟩, ⟨t1, t2, t3, t4, t5⟩, h5, h6, h7, h8, ⟨p1, p2⟩, ⟨i1, i2⟩, h11, h12⟩ := h
  have hcc : c = 9 ∨ c = 35 := c1
  refine ⟨⟨c, c1, c2, c3, c4, c5, c6, isC_fr (fun i hi => k1 c c1 c2 _ (by omega)) c7, ?_⟩, h2, ⟨(mo_fr (fun i hi => k2 _ (by omega))).trans h3, h3'⟩, ⟨TP_f t1 (k2 1 (by omega)), t2, by rw [k2 0 (by omega)]; exact t3, by rw [k2 0 (by omega)]; exact t4, t5⟩, fun k hk => ?_, hF, hB, hW, ⟨PA_f kP p1, p2⟩, ⟨?_, i2⟩, by rw [k31]; exact h11, fun w hw => by rw [k33]; exact h12 w hw⟩
  · unfold nmI at *
    rw [k1 c c1 c2 (c + 1) (by omega), k1 c c1 c2 (c + 3) (by omega)]; exact c8
  · rw [k2 2 (by omega)]
    have := h5 k hk
    exact ⟨this.1, this.2.1, by omega⟩
  · unfold isP at *
    rw [kI.1, kI.2]; exact i1
theorem IC_T (hT : T ≤ T') (h : IC M v n a F μ B N rf sd A P R sp sh pi fe T) : IC M v n a F μ B N rf sd A P R sp sh pi fe T' := IC_re hT h (fun _ _ _ _ _ => rfl) (fun _ _ => rfl) rfl rfl (fun _ _ _ => rfl) ⟨rfl, rfl⟩ h.2.2.2.2.2.1 (BI_f (fun _ _ _ => rfl) hT h.2.2.2.2.2.2.1) h.2.2.2.2.2.2.2.1
/-- only the forecast has changed -/
theorem IC_F (hT : T ≤ T') (h : IC M v n a F μ B N rf sd A P R sp sh pi fe T) {c : Nat} (hc : isCh c) (hv : v 0 = (c : Int)) (hf : frF c M M') {k : Nat} (hF : FI M' n a F μ k) : IC M' v n a F μ B N rf sd A P R sp sh pi fe T' ∧ frR M M' := by
  have hcc : c = 9 ∨ c = 35 := hc
  refine ⟨IC_re hT h (fun c' h1 h2 q hq => ?_) (fun q hq => hf q (by omega) (by omega) (by omega)) (hf 31 (by omega) (by omega) (by omega)) (hf 33 (by omega) (by omega) (by omega)) (fun q h1 h2 => hf q (by omega) (by omega) (by omega)) ⟨by rw [hf 225 (by omega) (by omega) (by omega)], hf 226 (by omega) (by omega) (by omega)⟩ ⟨k, hF⟩ (BI_f (fun q h1 h2 => hf q (by omega) (by omega) (by omega)) hT h.2.2.2.2.2.2.1) (WI_f (hf 91 (by omega) (by omega) (by omega)) (hf 101 (by omega) (by omega) (by omega)) (hf 102 (by omega) (by omega) (by omega)) h.2.2.2.2.2.2.2.1), fun q hq => hf q (by omega) (by omega) (by omega)⟩
  have : c' = c := by omega
  subst this
  exact hf q (by omega) (by omega) (by omega)
theorem IC_W (hT : T ≤ T') (h : IC M v n a F μ B N rf sd A P R sp sh pi fe T) {c : Nat} (hc : isCh c) (hv : v 0 = (c : Int)) (hf : frW c M M') (hB : BI M' n a F μ T') : IC M' v n a F μ B N rf sd A P R sp sh pi fe T' ∧ frR M M' := by
  have hcc : c = 9 ∨ c = 35 := hc
  obtain ⟨k, hk⟩ := h.2.2.2.2.2.1
  refine ⟨IC_re hT h (fun c' h1 h2 q hq => ?_) (fun q hq => hf q (by omega) (by omega) (by omega)) (hf 31 (by omega) (by omega) (by omega)) (hf 33 (by omega) (by omega) (by omega)) (fun q h1 h2 => hf q (by omega) (by omega) (by omega)) ⟨by rw [hf 225 (by omega) (by omega) (by omega)], hf 226 (by omega) (by omega) (by omega)⟩ ⟨k, FI_f (fun q h1 h2 => hf q (by omega) (by omega) (by omega)) hk⟩ hB (WI_f (hf 91 (by omega) (by omega) (by omega)) (hf 101 (by omega) (by omega) (by omega)) (hf 102 (by omega) (by omega) (by omega)) h.2.2.2.2.2.2.2.1), fun q hq => hf q (by omega) (by omega) (by omega)⟩
  have : c' = c := by omega
  subst this
  exact hf q (by omega) (by omega) (by omega)
theorem IC_X (hT : T ≤ T') (h : IC M v n a F μ B N rf sd A P R sp sh pi fe T) {c : Nat} (hc : isCh c) (hv : v 0 = (c : Int)) (hf : ∀ q, q ≠ 91 → q ≠ c + 20 → q ≠ c + 21 → (q < 93 ∨ 100 < q) → M' q = M q) (hW : WI M' n F μ R sp sh) : IC M' v n a F μ B N rf sd A P R sp sh pi fe T' ∧ frR M M' := by
  have hcc : c = 9 ∨ c = 35 := hc
  obtain ⟨k, hk⟩ := h.2.2.2.2.2.1
  refine ⟨IC_re hT h (fun c' h1 h2 q hq => ?_) (fun q hq => hf q (by omega) (by omega) (by omega) (by omega)) (hf 31 (by omega) (by omega) (by omega) (by omega)) (hf 33 (by omega) (by omega) (by omega) (by omega)) (fun q h1 h2 => hf q (by omega) (by omega) (by omega) (by omega)) ⟨by rw [hf 225 (by omega) (by omega) (by omega) (by omega)], hf 226 (by omega) (by omega) (by omega) (by omega)⟩ ⟨k, FI_f (fun q h1 h2 => hf q (by omega) (by omega) (by omega) (by omega)) hk⟩ (BI_f (fun q h1 h2 => hf q (by omega) (by omega) (by omega) (by omega)) hT h.2.2.2.2.2.2.1) hW, fun q hq => hf q (by omega) (by omega) (by omega) (by omega)⟩
  have : c' = c := by omega
  subst this
  exact hf q (by omega) (by omega) (by omega) (by omega)
theorem c168 (hc : isCh c) (hv : v 0 = (c : Int)) (e0 : M c 0 = (n 0 : Int)) (h24 : n 0 ≤ 24) : pm_Call (d + 1) 168 [vA 0] (GF X, M, PTF v) K ↔ K (vI (if decide (0 < n 0) = true then 1 else 0)) (GF X, M, PTF v) := by
  rw [en168, r168_0 hc hv (by rw [e0]; omega), e0]
  by_cases q : 0 < n 0
  · rw [if_neg (by omega), r168_10, r168_15 (by simp), if_pos (by simpa using q)]
  · rw [if_pos (by omega), r168_14, r168_15 (by simp), if_neg (by simpa using q)]
def isIx (k : Nat) (x : Int) : Bool := decide (0 ≤ x) && decide (x < (k : Int))
theorem isIx_i {k : Nat} {x : Int} : isIx k x = true ↔ 0 ≤ x ∧ x < (k : Int) := by simp [isIx]
theorem c169 (hc : isCh c) (hv : v 0 = (c : Int)) (e0 : M c 1 = (n 1 : Int)) (h24 : n 1 ≤ 3) {x : Int} (hx : inR x) : pm_Call (d + 1) 169 [vA 0, vI x] (GF X, M, PTF v) K ↔ K (vI (if isIx (n 1) x = true then 1 else 0)) (GF X, M, PTF v) := by
  rw [en169, r169_0 hx]
  by_cases q : x < 0
  · rw [if_pos q, r169_19, r169_20 (by simp), if_neg (by rw [isIx_i]; omega)]
  · rw [if_neg q, r169_4 hc hv hx (by rw [e0]; omega), e0]
    by_cases q2 : (n 1 : Int) ≤ x
    · rw [if_pos q2, r169_19, r169_20 (by simp), if_neg (by rw [isIx_i]; omega)]
    · rw [if_neg q2, r169_15, r169_20 (by simp), if_pos (by rw [isIx_i]; omega)]
theorem c170 (hc : isCh c) (hv : v 0 = (c : Int)) (e0 : M c 2 = (n 2 : Int)) (h24 : n 2 ≤ 8) {x : Int} (hx : inR x) : pm_Call (d + 1) 170 [vA 0, vI x] (GF X, M, PTF v) K ↔ K (vI (if isIx (n 2) x = true then 1 else 0)) (GF X, M, PTF v) := by
  rw [en170, r170_0 hx]
  by_cases q : x < 0
  · rw [if_pos q, r170_19, r170_20 (by simp), if_neg (by rw [isIx_i]; omega)]
  · rw [if_neg q, r170_4 hc hv hx (by rw [e0]; omega), e0]
    by_cases q2 : (n 2 : Int) ≤ x
    · rw [if_pos q2, r170_19, r170_20 (by simp), if_neg (by rw [isIx_i]; omega)]
    · rw [if_neg q2, r170_15, r170_20 (by simp), if_pos (by rw [isIx_i]; omega)]
theorem c171 (hc : isCh c) (hv : v 0 = (c : Int)) (e0 : M c 0 = (n 0 : Int)) (h24 : n 0 ≤ 24) {x : Int} (hx : inR x) : pm_Call (d + 1) 171 [vA 0, vI x] (GF X, M, PTF v) K ↔ K (vI (if isIx (n 0) x = true then 1 else 0)) (GF X, M, PTF v) := by
  rw [en171, r171_0 hx]
  by_cases q : x < 0
  · rw [if_pos q, r171_19, r171_20 (by simp), if_neg (by rw [isIx_i]; omega)]
  · rw [if_neg q, r171_4 hc hv hx (by rw [e0]; omega), e0]
    by_cases q2 : (n 0 : Int) ≤ x
    · rw [if_pos q2, r171_19, r171_20 (by simp), if_neg (by rw [isIx_i]; omega)]
    · rw [if_neg q2, r171_15, r171_20 (by simp), if_pos (by rw [isIx_i]; omega)]
theorem ixN {k : Nat} {x : Int} (h : isIx k x = true) : ∃ j : Nat, x = (j : Int) ∧ j < k := by
  have := isIx_i.mp h
  obtain ⟨j, hj⟩ := Int.eq_ofNat_of_zero_le this.1
  exact ⟨j, hj, by omega⟩
theorem i01 {b : Bool} : inR (if b = true then (1 : Int) else 0) := by have := if01 (x := b); omega
theorem q163 (h : IC M v n a F μ B N rf sd A P R sp sh pi fe T) {x : Int} (hx : inR x) : pm_Call (d + 1) 163 [vA 0, vI x] (GF X, M, PTF v) K ↔ K (vI (if isIx 6 x = true then rf x.toNat else -1)) (GF X, M, PTF v) := by
  have h5 := h.2.2.2.2.1
  rw [en163, r163_0 hx]
  by_cases q : x < 0
  · rw [if_pos q, r163_22, r163_23, if_neg (by rw [isIx_i]; omega)]
  · rw [if_neg q, r163_4 hx]
    by_cases q2 : 6 ≤ x
    · rw [if_pos q2, r163_22, r163_23, if_neg (by rw [isIx_i]; omega)]
    · rw [if_neg q2, r163_13 (by omega) (by omega), r163_23, (h5 x.toNat (by omega)).1, if_pos (by rw [isIx_i]; omega)]
theorem q135 (h : IC M v n a F μ B N rf sd A P R sp sh pi fe T) {x : Int} (hx : inR x) : pm_Call (d + 1) 135 [vA 0, vI x] (GF X, M, PTF v) K ↔ K (vI (if x = 0 then fe.1 else if x = 1 then fe.2 else -1)) (GF X, M, PTF v) := by
  obtain ⟨e3, e4⟩ := h.2.2.2.2.2.2.2.2.2.2.1
  rw [en135, r135_0 hx]
  by_cases q : x = 0
  · rw [if_neg (by simpa using q), r135_4, e3, if_pos q]
  · rw [if_pos q, r135_12 hx, if_neg q]
    by_cases q1 : x = 1
    · rw [if_neg (by simpa using q1), r135_17, r135_28, e4, if_pos q1]
    · rw [if_pos q1, r135_27, r135_28, if_neg q1]
theorem tgN {lo : Int} {t : List Nat} {dt : Nat} {x : Int} (h : ¬ (lo ≤ x ∧ x < lo + t.length)) : pm_tg lo t dt x = dt := by
  unfold pm_tg
  rw [if_pos (by omega)]
/-- the numbers of a sea -/
def qHas (n : Nat → Nat) (μ : PH) (A : Nat) (sd x : Int) : Int := if isIx 7 x = true then (n x.toNat : Int) else if x = 7 then μ 0 0 else if x = 8 then sm (μ 3) 8 else if x = 9 then sm (μ 5) 24 else if x = 10 then (A : Int) else if x = 11 then sd else -1
theorem q136 (h : IC M v n a F μ B N rf sd A P R sp sh pi fe T) {x : Int} (hx : inR x) : pm_Call (d + 3) 136 [vA 0, vI x] (GF X, M, PTF v) K ↔ K (vI (qHas n μ A sd x)) (GF X, M, PTF v) := by
  obtain ⟨⟨c, c1, c2, c3, c4, c5, c6, c7, c8⟩, h2, ⟨h3, h3'⟩, ⟨t1, t2, t3, t4, t5⟩, h5, h6, h7, h8, ⟨p1, p2⟩, ⟨i1, i2⟩, h11, h12⟩ := h
  obtain ⟨xx, -, -, -, pa, -⟩ := p1
  have s3 : sm (M (3 + 3)) 8 = sm (μ 3) 8 := sm_c (fun i hi => by rw [← h3]; exact mo_3 hi)
  have s5 : sm (M (3 + 5)) 24 = sm (μ 5) 24 := sm_c (fun i hi => by rw [← h3]; exact mo_5 hi)
  have e30 : M 3 0 = μ 0 0 := by rw [← h3]; rfl
  rw [en136, r136_0 hx]
  by_cases q : 0 ≤ x ∧ x < 12
  · have hx' : x = 0 ∨ x = 1 ∨ x = 2 ∨ x = 3 ∨ x = 4 ∨ x = 5 ∨ x = 6 ∨ x = 7 ∨ x = 8 ∨ x = 9 ∨ x = 10 ∨ x = 11 := by omega
    rcases hx' with rfl | rfl | rfl | rfl | rfl | rfl | rfl | rfl | rfl | rfl | rfl | rfl
    · change pm_Run _ 136 64 _ _ _ _ ↔ _
      rw [r136_64 c1 c2, c7.1 0 (by omega)]; exact Iff.rfl
    · change pm_Run _ 136 72 _ _ _ _ ↔ _
      rw [r136_72 c1 c2, c7.1 1 (by omega)]; exact Iff.rfl
    · change pm_Run _ 136 80 _ _ _ _ ↔ _
      rw [r136_80 c1 c2, c7.1 2 (by omega)]; exact Iff.rfl
    · change pm_Run _ 136 88 _ _ _ _ ↔ _
      rw [r136_88 c1 c2, c7.1 3 (by omega)]; exact Iff.rfl
    · change pm_Run _ 136 96 _ _ _ _ ↔ _
      rw [r136_96 c1 c2, c7.1 4 (by omega)]; exact Iff.rfl
    · change pm_Run _ 136 104 _ _ _ _ ↔ _
      rw [r136_104 c1 c2, c7.1 5 (by omega)]; exact Iff.rfl
    · change pm_Run _ 136 112 _ _ _ _ ↔ _
      rw [r136_112 c1 c2, c7.1 6 (by omega)]; exact Iff.rfl
    · change pm_Run _ 136 120 _ _ _ _ ↔ _
      rw [r136_120, e30]; exact Iff.rfl
    · change pm_Run _ 136 128 _ _ _ _ ↔ _
      rw [r136_128, c63 mo3, push_i, r136_135, s3]; exact Iff.rfl
    · change pm_Run _ 136 136 _ _ _ _ ↔ _
      rw [r136_136, c64 mo3, push_i, r136_143, s5]; exact Iff.rfl
    · change pm_Run _ 136 144 _ _ _ _ ↔ _
      rw [r136_144, pa]; exact Iff.rfl
    · change pm_Run _ 136 152 _ _ _ _ ↔ _
      rw [r136_152, t4]; exact Iff.rfl
  · rw [tgN (by simpa using q), r136_157, qHas, if_neg (by rw [isIx_i]; omega), if_neg (by omega), if_neg (by omega), if_neg (by omega), if_neg (by omega), if_neg (by omega)]
end PUB
