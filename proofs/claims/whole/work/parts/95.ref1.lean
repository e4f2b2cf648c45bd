/-! The reference: its sea, its layers, what is summed. -/
/-- the live bank's numbers -/
def RC (M : PH) (b : Nat) (n : Nat → Nat) (a : PH) : Prop := (b < 2 ∧ M 234 13 = (b : Int)) ∧ (M 236 b = (n 0 : Int) ∧ M 237 b = (n 1 : Int) ∧ M 241 b = (n 2 : Int) ∧ M 246 b = (n 3 : Int) ∧ M 250 b = (n 4 : Int) ∧ M 257 b = (n 5 : Int) ∧ M 258 b = (n 6 : Int)) ∧ (∀ m, m < n 1 → M 239 (3 * b + m) = a 1 m) ∧ (∀ h, h < n 2 → M 242 (8 * b + h) = a 2 h ∧ M 244 (8 * b + h) = a 3 h) ∧ ∀ k, k < n 3 → M 247 (16 * b + k) = a 4 k ∧ M 248 (16 * b + k) = a 5 k ∧ M 249 (16 * b + k) = a 6 k
/-- a layer's moment -/
def RM (M : PH) (n : Nat → Nat) (w : Nat) (μ : PH) : Prop := w < 22 ∧ M 270 w = μ 0 0 ∧ (∀ m, m < n 1 → M 271 (3 * w + m) = μ 1 m ∧ M 272 (3 * w + m) = μ 2 m) ∧ (∀ h, h < n 2 → M 273 (8 * w + h) = μ 3 h) ∧ ∀ h m, h < n 2 → m < n 1 → M 274 (24 * w + 3 * h + m) = μ 4 (h * 3 + m) ∧ M 275 (24 * w + 3 * h + m) = μ 5 (h * 3 + m)
/-- a moment's bounds, the hour past the last among them -/
def wN (n : Nat → Nat) (μ : PH) : Prop := (0 ≤ μ 0 0 ∧ μ 0 0 ≤ 10000) ∧ (∀ m, m < n 1 → 0 ≤ μ 1 m ∧ μ 1 m < n 0) ∧ (∀ m, m < 3 → 0 ≤ μ 2 m ∧ μ 2 m ≤ 9) ∧ (∀ h, h < 8 → 0 ≤ μ 3 h ∧ μ 3 h ≤ 9999) ∧ (∀ k, k < 24 → 0 ≤ μ 4 k ∧ μ 4 k ≤ 20 ∧ 0 ≤ μ 5 k ∧ μ 5 k ≤ 9999) ∧ (∀ m, n 1 ≤ m → μ 1 m = 0 ∧ μ 2 m = 0) ∧ (∀ h, n 2 ≤ h → μ 3 h = 0) ∧ (∀ h m, m < 3 → n 2 ≤ h ∨ n 1 ≤ m → μ 4 (h * 3 + m) = 0 ∧ μ 5 (h * 3 + m) = 0)
section RF1
variable {d b w : Nat} {X : Nat × (Nat → Int)} {v : Nat → Int} {M M' : PH} {K : PV → PS → Prop} {n : Nat → Nat} {a μ : PH} {F : Nat → List Int}
theorem c179 {x y z : Int} (hx : inR x) (hy : inR y) (hz : inR z) : pm_Call (d + 1) 179 [vI x, vI y, vI z] (GF X, M, PTF v) K ↔ K (vI (if decide (y ≤ x ∧ x ≤ z) = true then 1 else 0)) (GF X, M, PTF v) := by
  rw [en179, r179_0 hx hy]
  by_cases q : x < y
  · rw [if_pos q, r179_14, r179_15 (by simp), if_neg (by simp; omega)]
  · rw [if_neg q, r179_5 hx hz]
    by_cases q2 : z < x
    · rw [if_pos q2, r179_14, r179_15 (by simp), if_neg (by simp; omega)]
    · rw [if_neg q2, r179_10, r179_15 (by simp), if_pos (by simp; omega)]
theorem c226 (hR : RC M b n a) (hwC : wC n a F) : pm_Call (d + 1) 226 [vA 234] (GF X, M, PTF v) K ↔ K (vI (if decide (0 < n 0) = true then 1 else 0)) (GF X, M, PTF v) := by
  obtain ⟨⟨hb, e13⟩, ⟨e0, e1, e2, -⟩, -⟩ := hR
  have hn := hwC.1
  have en : M 236 (M 234 13).toNat = (n 0 : Int) := by rw [e13, Int.toNat_natCast, e0]
  rw [en226, r226_0 (by omega) (by omega) (by rw [en]; omega), en]
  by_cases q : 0 < n 0
  · rw [if_neg (by omega), r226_12, r226_17 (by simp), if_pos (by simpa using q)]
  · rw [if_pos (by omega), r226_16, r226_17 (by simp), if_neg (by simpa using q)]
theorem c227 (hR : RC M b n a) (hwC : wC n a F) {x : Int} (hx : inR x) : pm_Call (d + 1) 227 [vA 234, vI x] (GF X, M, PTF v) K ↔ K (vI (if isIx (n 0) x = true then 1 else 0)) (GF X, M, PTF v) := by
  obtain ⟨⟨hb, e13⟩, ⟨e0, e1, e2, -⟩, -⟩ := hR
  have hn := hwC.1
  have en : M 236 (M 234 13).toNat = (n 0 : Int) := by rw [e13, Int.toNat_natCast, e0]
  rw [en227, r227_0 hx]
  by_cases q : x < 0
  · rw [if_pos q, r227_21, r227_22 (by simp), if_neg (by rw [isIx_i]; omega)]
  · rw [if_neg q, r227_4 (by omega) (by omega) hx (by rw [en]; omega), en]
    by_cases q2 : (n 0 : Int) ≤ x
    · rw [if_pos q2, r227_21, r227_22 (by simp), if_neg (by rw [isIx_i]; omega)]
    · rw [if_neg q2, r227_17, r227_22 (by simp), if_pos (by rw [isIx_i]; omega)]
theorem c228 (hR : RC M b n a) (hwC : wC n a F) {x : Int} (hx : inR x) : pm_Call (d + 1) 228 [vA 234, vI x] (GF X, M, PTF v) K ↔ K (vI (if isIx (n 1) x = true then 1 else 0)) (GF X, M, PTF v) := by
  obtain ⟨⟨hb, e13⟩, ⟨e0, e1, e2, -⟩, -⟩ := hR
  have hn := hwC.1
  have en : M 237 (M 234 13).toNat = (n 1 : Int) := by rw [e13, Int.toNat_natCast, e1]
  rw [en228, r228_0 hx]
  by_cases q : x < 0
  · rw [if_pos q, r228_21, r228_22 (by simp), if_neg (by rw [isIx_i]; omega)]
  · rw [if_neg q, r228_4 (by omega) (by omega) hx (by rw [en]; omega), en]
    by_cases q2 : (n 1 : Int) ≤ x
    · rw [if_pos q2, r228_21, r228_22 (by simp), if_neg (by rw [isIx_i]; omega)]
    · rw [if_neg q2, r228_17, r228_22 (by simp), if_pos (by rw [isIx_i]; omega)]
theorem c229 (hR : RC M b n a) (hwC : wC n a F) {x : Int} (hx : inR x) : pm_Call (d + 1) 229 [vA 234, vI x] (GF X, M, PTF v) K ↔ K (vI (if isIx (n 2) x = true then 1 else 0)) (GF X, M, PTF v) := by
  obtain ⟨⟨hb, e13⟩, ⟨e0, e1, e2, -⟩, -⟩ := hR
  have hn := hwC.1
  have en : M 241 (M 234 13).toNat = (n 2 : Int) := by rw [e13, Int.toNat_natCast, e2]
  rw [en229, r229_0 hx]
  by_cases q : x < 0
  · rw [if_pos q, r229_21, r229_22 (by simp), if_neg (by rw [isIx_i]; omega)]
  · rw [if_neg q, r229_4 (by omega) (by omega) hx (by rw [en]; omega), en]
    by_cases q2 : (n 2 : Int) ≤ x
    · rw [if_pos q2, r229_21, r229_22 (by simp), if_neg (by rw [isIx_i]; omega)]
    · rw [if_neg q2, r229_17, r229_22 (by simp), if_pos (by rw [isIx_i]; omega)]
theorem c230 (hR : RC M b n a) (hwC : wC n a F) {h : Nat} (hh : h < n 2) : pm_Call (d + 1) 230 [vA 234, vI (h : Int)] (GF X, M, PTF v) K ↔ K (vI (a 2 h)) (GF X, M, PTF v) := by
  obtain ⟨⟨hb, e13⟩, -, -, eh, -⟩ := hR
  have hn := hwC.1
  rw [en230, r230_0 (by omega) (by omega), e13, show (8 * (b : Int) + (h : Int)).toNat = 8 * b + h by omega, (eh h hh).1]
theorem c231 (hR : RC M b n a) (hwC : wC n a F) {h : Nat} (hh : h < n 2) : pm_Call (d + 1) 231 [vA 234, vI (h : Int)] (GF X, M, PTF v) K ↔ K (vI (a 3 h)) (GF X, M, PTF v) := by
  obtain ⟨⟨hb, e13⟩, -, -, eh, -⟩ := hR
  have hn := hwC.1
  rw [en231, r231_0 (by omega) (by omega), e13, show (8 * (b : Int) + (h : Int)).toNat = 8 * b + h by omega, (eh h hh).2]
theorem wN_i (h : wM n μ) : wN n μ := ⟨⟨h.1.1, by have := h.1.2; omega⟩, h.2⟩
theorem wN_z (h : wN n μ) : wM n (ups μ 0 0 0) := ⟨by rw [ups_s]; omega, h.2⟩
theorem bt_bN (h : wN n μ) {m : Nat} (hm : m < 3) : 0 ≤ bt μ m ∧ bt μ m ≤ 160 := bt_b (wN_z h) hm
theorem dt_bN (h : wN n μ) {m : Nat} (hm : m < 3) : 0 ≤ dt μ m ∧ dt μ m ≤ 79992 := dt_b (wN_z h) hm
theorem bb_bN (h : wN n μ) {k : Nat} (hm : k < 8) : 0 ≤ bb μ k ∧ bb μ k ≤ 60 := bb_b (wN_z h) hm
theorem db_bN (h : wN n μ) {k : Nat} (hm : k < 8) : 0 ≤ db μ k ∧ db μ k ≤ 29997 := db_b (wN_z h) hm
theorem ba_bN (h : wN n μ) : 0 ≤ ba μ ∧ ba μ ≤ 480 := by have := ba_b (μ := ups μ 0 0 0) (wN_z h); exact this
theorem bt_n (hw : wN n μ) (hwC : wC n a F) {m : Nat} (hm : m < 3) : sm (fun h => μ 4 (h * 3 + m)) (n 2) = bt μ m := (sm_z hwC.1.2.2.1 (fun i h1 _ => (hw.2.2.2.2.2.2.2 i m hm (Or.inl h1)).1)).symm
theorem dt_n (hw : wN n μ) (hwC : wC n a F) {m : Nat} (hm : m < 3) : sm (fun h => μ 5 (h * 3 + m)) (n 2) = dt μ m := (sm_z hwC.1.2.2.1 (fun i h1 _ => (hw.2.2.2.2.2.2.2 i m hm (Or.inl h1)).2)).symm
theorem bb_n (hw : wN n μ) (hwC : wC n a F) {h : Nat} : sm (fun m => μ 4 (h * 3 + m)) (n 1) = bb μ h := (sm_z hwC.1.2.1 (fun i h1 h2 => (hw.2.2.2.2.2.2.2 h i h2 (Or.inr h1)).1)).symm
theorem db_n (hw : wN n μ) (hwC : wC n a F) {h : Nat} : sm (fun m => μ 5 (h * 3 + m)) (n 1) = db μ h := (sm_z hwC.1.2.1 (fun i h1 h2 => (hw.2.2.2.2.2.2.2 h i h2 (Or.inr h1)).2)).symm
theorem c237 (hR : RC M b n a) (hwC : wC n a F) (hM : RM M n w μ) (hw : wN n μ) {m : Nat} (hm : m < n 1) : pm_Call (d + 1) 237 [vA 234, vI (w : Int), vI (m : Int)] (GF X, M, PTF v) K ↔ K (vI (bt μ m)) (GF X, M, PTF v) := by
  obtain ⟨⟨hb, e13⟩, ⟨e0, e1, e2, -⟩, -⟩ := hR
  obtain ⟨hw22, -, -, -, hk⟩ := hM
  have hn := hwC.1
  have en : M 241 (M 234 13).toNat = (n 2 : Int) := by rw [e13, Int.toNat_natCast, e2]
  rw [en237, r237_0, ← bt_n hw hwC (by omega)]
  refine (loopN (fun j => pm_Run d 237 5 [vA 234, vI (w : Int), vI (m : Int), vI (sm (fun h => μ 4 (h * 3 + m)) j), vI (j : Int)] [] (GF X, M, PTF v) K) (n 2) (fun j hj => ?_)).trans ?_
  · rw [r237_5 (by omega) (by omega) (by omega) (by rw [en]; omega), en, if_neg (by omega), r237_19 (by omega) (by omega), show (24 * (w : Int) + 3 * (j : Int) + (m : Int)).toNat = 24 * w + 3 * j + m by omega, (hk j m hj hm).1]
    exact Iff.rfl
  · rw [r237_5 (by omega) (by omega) (by omega) (by rw [en]; omega), en, if_pos (by omega), r237_44]
theorem c238 (hR : RC M b n a) (hwC : wC n a F) (hM : RM M n w μ) (hw : wN n μ) {m : Nat} (hm : m < n 1) : pm_Call (d + 1) 238 [vA 234, vI (w : Int), vI (m : Int)] (GF X, M, PTF v) K ↔ K (vI (dt μ m)) (GF X, M, PTF v) := by
  obtain ⟨⟨hb, e13⟩, ⟨e0, e1, e2, -⟩, -⟩ := hR
  obtain ⟨hw22, -, -, -, hk⟩ := hM
  have hn := hwC.1
  have en : M 241 (M 234 13).toNat = (n 2 : Int) := by rw [e13, Int.toNat_natCast, e2]
  rw [en238, r238_0, ← dt_n hw hwC (by omega)]
  refine (loopN (fun j => pm_Run d 238 5 [vA 234, vI (w : Int), vI (m : Int), vI (sm (fun h => μ 5 (h * 3 + m)) j), vI (j : Int)] [] (GF X, M, PTF v) K) (n 2) (fun j hj => ?_)).trans ?_
  · rw [r238_5 (by omega) (by omega) (by omega) (by rw [en]; omega), en, if_neg (by omega), r238_19 (by omega) (by omega), show (24 * (w : Int) + 3 * (j : Int) + (m : Int)).toNat = 24 * w + 3 * j + m by omega, (hk j m hj hm).2]
    exact Iff.rfl
  · rw [r238_5 (by omega) (by omega) (by omega) (by rw [en]; omega), en, if_pos (by omega), r238_44]
theorem c239 (hR : RC M b n a) (hwC : wC n a F) (hM : RM M n w μ) (hw : wN n μ) {h : Nat} (hh : h < n 2) : pm_Call (d + 1) 239 [vA 234, vI (w : Int), vI (h : Int)] (GF X, M, PTF v) K ↔ K (vI (bb μ h)) (GF X, M, PTF v) := by
  obtain ⟨⟨hb, e13⟩, ⟨e0, e1, e2, -⟩, -⟩ := hR
  obtain ⟨hw22, -, -, -, hk⟩ := hM
  have hn := hwC.1
  have en : M 237 (M 234 13).toNat = (n 1 : Int) := by rw [e13, Int.toNat_natCast, e1]
  rw [en239, r239_0, ← bb_n hw hwC]
  refine (loopN (fun j => pm_Run d 239 5 [vA 234, vI (w : Int), vI (h : Int), vI (sm (fun m => μ 4 (h * 3 + m)) j), vI (j : Int)] [] (GF X, M, PTF v) K) (n 1) (fun j hj => ?_)).trans ?_
  · rw [r239_5 (by omega) (by omega) (by omega) (by rw [en]; omega), en, if_neg (by omega), r239_19 (by omega) (by omega), show (24 * (w : Int) + 3 * (h : Int) + (j : Int)).toNat = 24 * w + 3 * h + j by omega, (hk h j hh hj).1]
    exact Iff.rfl
  · rw [r239_5 (by omega) (by omega) (by omega) (by rw [en]; omega), en, if_pos (by omega), r239_44]
theorem c240 (hR : RC M b n a) (hwC : wC n a F) (hM : RM M n w μ) (hw : wN n μ) {h : Nat} (hh : h < n 2) : pm_Call (d + 1) 240 [vA 234, vI (w : Int), vI (h : Int)] (GF X, M, PTF v) K ↔ K (vI (db μ h)) (GF X, M, PTF v) := by
  obtain ⟨⟨hb, e13⟩, ⟨e0, e1, e2, -⟩, -⟩ := hR
  obtain ⟨hw22, -, -, -, hk⟩ := hM
  have hn := hwC.1
  have en : M 237 (M 234 13).toNat = (n 1 : Int) := by rw [e13, Int.toNat_natCast, e1]
  rw [en240, r240_0, ← db_n hw hwC]
  refine (loopN (fun j => pm_Run d 240 5 [vA 234, vI (w : Int), vI (h : Int), vI (sm (fun m => μ 5 (h * 3 + m)) j), vI (j : Int)] [] (GF X, M, PTF v) K) (n 1) (fun j hj => ?_)).trans ?_
  · rw [r240_5 (by omega) (by omega) (by omega) (by rw [en]; omega), en, if_neg (by omega), r240_19 (by omega) (by omega), show (24 * (w : Int) + 3 * (h : Int) + (j : Int)).toNat = 24 * w + 3 * h + j by omega, (hk h j hh hj).2]
    exact Iff.rfl
  · rw [r240_5 (by omega) (by omega) (by omega) (by rw [en]; omega), en, if_pos (by omega), r240_44]
theorem c243 (hR : RC M b n a) (hwC : wC n a F) (hM : RM M n w μ) (hw : wN n μ) {m : Nat} (hm : m < n 1) : pm_Call (d + 2) 243 [vA 234, vI (w : Int), vI (m : Int)] (GF X, M, PTF v) K ↔ K (vI (if dt μ m < (n 6 : Int) then 0 else 1)) (GF X, M, PTF v) := by
  have hn := hwC.1
  have hd := dt_bN hw (m := m) (by omega)
  rw [en243, r243_0, c238 hR hwC hM hw hm, push_i]
  obtain ⟨⟨hb, e13⟩, ⟨e0, e1, e2, e3, e4, e5, e6⟩, -⟩ := hR
  have en : M 258 (M 234 13).toNat = (n 6 : Int) := by rw [e13, Int.toNat_natCast, e6]
  rw [r243_6 (by omega) (by omega) (by omega) (by rw [en]; omega), en]
  by_cases q : dt μ m < (n 6 : Int)
  · rw [if_pos q, r243_22, r243_23 (by simp), if_pos q]
  · rw [if_neg q, r243_18, r243_23 (by simp), if_neg q]
theorem c264 (hR : RC M b n a) (hwC : wC n a F) {h : Nat} (hh : h < 8) : pm_Call (d + 1) 264 [vA 234, vI (h : Int)] (GF X, M, PTF v) K ↔ K (vI (owB n a h)) (GF X, M, PTF v) := by
  obtain ⟨⟨hb, e13⟩, ⟨e0, e1, e2, e3, -⟩, -, -, ek⟩ := hR
  have hn := hwC.1
  have en : M 246 (M 234 13).toNat = (n 3 : Int) := by rw [e13, Int.toNat_natCast, e3]
  rw [en264, r264_0]
  refine (loopN (fun j => pm_Run d 264 4 [vA 234, vI (h : Int), vI (sm (fun i => if a 4 i = (h : Int) then a 6 i else 0) j), vI (j : Int)] [] (GF X, M, PTF v) K) (n 3) (fun j hj => ?_)).trans ?_
  · have g := hwC.2.2.2.1 j hj
    have ix : (16 * M 234 13 + (j : Int)).toNat = 16 * b + j := by rw [e13]; omega
    rw [r264_4 (by omega) (by omega) (by omega) (by rw [en]; omega), en, if_neg (by omega), r264_17 (by omega) (by omega) (by rw [ix, (ek j hj).1]; omega) (by omega), ix, (ek j hj).1, sm]
    by_cases q : a 4 j = (h : Int)
    · rw [if_neg (by simp [q]), r264_36 (by omega) (by omega), ix, (ek j hj).2.2, r264_54, if_pos q]; exact Iff.rfl
    · rw [if_pos q, r264_53, r264_54, if_neg q]; exact Iff.rfl
  · rw [r264_4 (by omega) (by omega) (by omega) (by rw [en]; omega), en, if_pos (by omega), r264_62]; exact Iff.rfl
theorem c265 (hR : RC M b n a) (hwC : wC n a F) {h U : Nat} (hh : h < 8) (hU : U < 2147483648) : pm_Call (d + 1) 265 [vA 234, vI (h : Int), vI (U : Int)] (GF X, M, PTF v) K ↔ K (vI (owT n a h U)) (GF X, M, PTF v) := by
  obtain ⟨⟨hb, e13⟩, ⟨e0, e1, e2, e3, -⟩, -, -, ek⟩ := hR
  have hn := hwC.1
  have en : M 246 (M 234 13).toNat = (n 3 : Int) := by rw [e13, Int.toNat_natCast, e3]
  rw [en265, r265_0]
  have main : ∀ k j, j + k = n 3 → ∀ l5 : PV, (pm_Run d 265 5 [vA 234, vI (h : Int), vI (U : Int), vI (sm (fun i => if a 5 i = (h : Int) ∧ U.testBit (a 4 i).toNat = false then a 6 i else 0) j), vI (j : Int), l5] [] (GF X, M, PTF v) K ↔ K (vI (owT n a h U)) (GF X, M, PTF v)) := by
    intro k
    induction k with
    | zero =>
      intro j hj l5
      rw [r265_5 (by omega) (by omega) (by omega) (by rw [en]; omega), en, if_pos (by omega), r265_76, show j = n 3 by omega]; exact Iff.rfl
    | succ k ih =>
      intro j hj l5
      have hj' : j < n 3 := by omega
      have g := hwC.2.2.2.1 j hj'
      have ix : (16 * M 234 13 + (j : Int)).toNat = 16 * b + j := by rw [e13]; omega
      have e4 : M 247 (16 * b + j) = (((a 4 j).toNat : Nat) : Int) := by rw [(ek j hj').1]; omega
      have nx := ih (j + 1) (by omega)
      rw [r265_5 (by omega) (by omega) (by omega) (by rw [en]; omega), en, if_neg (by omega), r265_19 (by omega) (by omega) (by rw [ix, (ek j hj').2.1]; omega) (by omega), ix, (ek j hj').2.1]
      rw [sm] at nx
      by_cases q : a 5 j = (h : Int)
      · rw [if_neg (by simp [q]), r265_43 (by omega) (by omega) bi_and, ix, e4, bi_bit hU (by omega)]
        by_cases z : U.testBit (a 4 j).toNat = true
        · rw [if_neg (by rw [z]; simp)] at nx
          rw [if_pos z, if_pos (by omega), r265_67, r265_68]; exact nx _
        · rw [if_pos ⟨q, by simpa using z⟩] at nx
          rw [if_neg z, if_neg (by simp), r265_57 (by omega) (by omega), ix, (ek j hj').2.2, r265_68]; exact nx _
      · rw [if_neg (fun z => q z.1)] at nx
        rw [if_pos q, r265_67, r265_68]; exact nx _
  exact main (n 3) 0 (by omega) PU
end RF1
