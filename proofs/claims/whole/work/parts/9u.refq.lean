/-! Words: the class's numbers, the reference's. -/
theorem bl_c : ∀ k : Nat, k < 64 → ((Int32.ofInt (k : Int)).toInt64 &&& 63).toBitVec.smod 64 = BitVec.ofNat 64 k := by decide +kernel
theorem pm_lorN {a b : Nat} (ha : a < 9223372036854775808) (hb : b < 9223372036854775808) : pm_lor (a : Int) (b : Int) = ((a ||| b : Nat) : Int) := by
  have hl : a ||| b < 2 ^ 63 := Nat.or_lt_two_pow (by omega) (by omega)
  rw [pm_lor, bl_t, Int64.toBitVec_or, bl_o, bl_o, ← BitVec.ofNat_or, bl_v (by omega)]
theorem pm_lshrN {a k : Nat} (ha : a < 9223372036854775808) (hk : k < 64) : pm_lshr (a : Int) (k : Int) = ((a >>> k : Nat) : Int) := by
  have hl : a >>> k ≤ a := by rw [Nat.shiftRight_eq_div_pow]; exact Nat.div_le_self _ _
  rw [pm_lshr, bl_t, Int64.toBitVec_shiftRight, bl_c k hk, bl_o]
  rw [BitVec.sshiftRight_eq', BitVec.toNat_ofNat, Nat.mod_eq_of_lt (show k < 2 ^ 64 by omega)]
  rw [BitVec.toInt_sshiftRight, bl_v ha, Int.shiftRight_eq_div_pow, Nat.shiftRight_eq_div_pow]
  simp
theorem pm_lshlN {a k : Nat} (hk : k < 64) (ha : a * 2 ^ k < 9223372036854775808) : pm_lshl (a : Int) (k : Int) = ((a * 2 ^ k : Nat) : Int) := by
  rw [pm_lshl, bl_t, Int64.toBitVec_shiftLeft, bl_c k hk, bl_o]
  rw [BitVec.shiftLeft_eq', BitVec.toNat_ofNat, Nat.mod_eq_of_lt (show k < 2 ^ 64 by omega)]
  rw [show (BitVec.ofNat 64 a) <<< k = BitVec.ofNat 64 (a * 2 ^ k) from BitVec.eq_of_toNat_eq (by rw [BitVec.toNat_shiftLeft, BitVec.toNat_ofNat, BitVec.toNat_ofNat, Nat.shiftLeft_eq, Nat.mod_mul_mod])]
  exact bl_v ha
theorem w8 {w x : Nat} (hw : w < 1099511627776) (hx : x < 256) : pm_lor (pm_lshl (w : Int) 8) (x : Int) = ((256 * w + x : Nat) : Int) := by
  have h1 := pm_lshlN (a := w) (k := 8) (by omega) (by omega)
  rw [show pm_lshl (w : Int) 8 = ((w * 2 ^ 8 : Nat) : Int) from h1, pm_lorN (by omega) (by omega), ← Nat.shiftLeft_eq, ← Nat.shiftLeft_add_eq_or_of_lt (show x < 2 ^ 8 by omega), Nat.shiftLeft_eq]
  omega
theorem lt_e {x : Nat} : ltN x 0 = x / 33554432 % 32 ∧ ltN x 1 = x / 1048576 % 32 ∧ ltN x 2 = x / 32768 % 32 ∧ ltN x 3 = x / 1024 % 32 ∧ ltN x 4 = x / 32 % 32 ∧ ltN x 5 = x / 1 % 32 := ⟨rfl, rfl, rfl, rfl, rfl, rfl⟩
theorem lt_u {x y : Nat} (hx : x < 1073741824) (hy : y < 1073741824) (h : ∀ i, i < 6 → ltN x i = ltN y i) : x = y := by
  obtain ⟨a0, a1, a2, a3, a4, a5⟩ := lt_e (x := x)
  obtain ⟨b0, b1, b2, b3, b4, b5⟩ := lt_e (x := y)
  have h0 := h 0 (by omega)
  have h1 := h 1 (by omega)
  have h2 := h 2 (by omega)
  have h3 := h 3 (by omega)
  have h4 := h 4 (by omega)
  have h5 := h 5 (by omega)
  rw [a0, b0] at h0
  rw [a1, b1] at h1
  rw [a2, b2] at h2
  rw [a3, b3] at h3
  rw [a4, b4] at h4
  rw [a5, b5] at h5
  omega
theorem bw_s {x i : Nat} (h : 1 ≤ ltN x i) : bwk x (i + 1) = 256 * bwk x i + (ltN x i + 96) := by rw [bwk, if_neg (by omega)]
theorem bw_z {x k : Nat} (h : ∀ i, k ≤ i → i < 6 → ltN x i = 0) : ∀ {j : Nat}, k ≤ j → j ≤ 6 → bwk x j = bwk x k
  | 0, h1, _ => by rw [show k = 0 by omega]
  | j + 1, h1, h2 => by
    by_cases q : k = j + 1
    · rw [q]
    · rw [bwk, if_pos (h j (by omega) (by omega))]; exact bw_z h (by omega) (by omega)
theorem bw_i {x y : Nat} : ∀ {k l : Nat}, (∀ i, i < k → 1 ≤ ltN x i ∧ ltN x i ≤ 26) → (∀ i, i < l → 1 ≤ ltN y i ∧ ltN y i ≤ 26) → bwk x k = bwk y l → k = l ∧ ∀ i, i < k → ltN x i = ltN y i
  | 0, 0, _, _, _ => ⟨rfl, fun i hi => by omega⟩
  | 0, l + 1, _, h2, e => by
    have := bw_s (h2 l (by omega)).1
    have e0 : bwk x 0 = 0 := rfl
    omega
  | k + 1, 0, h1, _, e => by
    have := bw_s (h1 k (by omega)).1
    have e0 : bwk y 0 = 0 := rfl
    omega
  | k + 1, l + 1, h1, h2, e => by
    have g1 := h1 k (by omega)
    have g2 := h2 l (by omega)
    rw [bw_s g1.1, bw_s g2.1] at e
    obtain ⟨r1, r2⟩ := bw_i (k := k) (l := l) (fun i hi => h1 i (by omega)) (fun i hi => h2 i (by omega)) (by omega)
    subst r1
    refine ⟨rfl, fun i hi => ?_⟩
    by_cases q : i = k
    · subst q; omega
    · exact r2 i (by omega)
theorem nm_inj {x y : Int} (hx : nmOk x) (hy : nmOk y) (e : bwk x.toNat 6 = bwk y.toNat 6) : x = y := by
  obtain ⟨bx, k, k6, hk, hkz⟩ := hx
  obtain ⟨by', l, l6, hl, hlz⟩ := hy
  rw [bw_z hkz k6 (Nat.le_refl _), bw_z hlz l6 (Nat.le_refl _)] at e
  obtain ⟨r1, r2⟩ := bw_i hk hl e
  subst r1
  have := lt_u (x := x.toNat) (y := y.toNat) (by omega) (by omega) (fun i hi => by
    by_cases q : i < k
    · exact r2 i q
    · rw [hkz i (by omega) hi, hlz i (by omega) hi])
  omega
theorem bw_b {x : Nat} : ∀ {k : Nat}, (∀ i, i < 6 → ltN x i ≤ 31) → k ≤ 6 → bwk x k < 256 ^ k
  | 0, _, _ => by simp [bwk]
  | k + 1, h, hk => by
    have := bw_b (k := k) h (by omega)
    have h2 := h k (by omega)
    rw [bwk, Nat.pow_succ]
    split <;> omega
theorem lt31 {x i : Nat} : ltN x i ≤ 31 := by have := Nat.mod_lt (x / 2 ^ (25 - 5 * i)) (show 0 < 32 by omega); unfold ltN; omega
theorem bw_l {x : Nat} : bwk x 6 < 281474976710656 := by
  have := bw_b (x := x) (k := 6) (fun i _ => lt31) (by omega)
  have e : (256 : Nat) ^ 6 = 281474976710656 := rfl
  omega
/-- the reference's words, in the class's order -/
def WKEYS : List Nat := [7562593, 1836019566, 24948, 1735353715, 127978976601458, 114767740170098, 483006772069, 431198598248, 1885436275, 1870095731, 109317142704997, 1886743660, 435426586227, 465558725996, 1937075307, 114784769370228, 1885432164, 6583653, 6709618, 495891278707, 491395637612, 1752135026, 482854658917, 28530, 6385252, 7237492, 6384748, 7170414, 7168376]
def KLEN : List Nat := [3, 4, 2, 4, 6, 6, 5, 5, 4, 4, 6, 4, 5, 5, 4, 6, 4, 3, 3, 5, 5, 4, 5, 2, 3, 3, 3, 3, 3]
theorem key_w : ∀ w, w < 29 → bwk (KEYS.getD w 0).toNat 6 = WKEYS.getD w 0 := by decide +kernel
theorem key_l : ∀ w, w < 29 → KLEN.getD w 0 ≤ 6 ∧ (∀ i, i < KLEN.getD w 0 → 1 ≤ ltN (KEYS.getD w 0).toNat i ∧ ltN (KEYS.getD w 0).toNat i ≤ 26) ∧ ∀ i, i < 6 → KLEN.getD w 0 ≤ i → ltN (KEYS.getD w 0).toNat i = 0 := by decide +kernel
theorem key_n {w : Nat} (hw : w < 29) : nmOk (KEYS.getD w 0) := by
  obtain ⟨h1, h2, h3⟩ := key_l w hw
  exact ⟨keys_b w hw, KLEN.getD w 0, h1, h2, fun i a b => h3 i b a⟩
theorem key_o : ∀ w, w < 29 → ownw (KEYS.getD w 0) = (w : Int) := by decide +kernel
theorem own_w {x : Int} (hx : nmOk x) {w : Nat} (hw : w < 29) : bwk x.toNat 6 = WKEYS.getD w 0 ↔ ownw x = (w : Int) := by
  constructor
  · intro e
    rw [← key_w w hw] at e
    rw [nm_inj hx (key_n hw) e]; exact key_o w hw
  · intro e
    obtain ⟨j, h1, -, -, h4, -⟩ := fi_s (p := fun w => decide (KEYS.getD w 0 = x)) (k := 29) (i := 0) (by
      have e' : fi (fun w => decide (KEYS.getD w 0 = x)) 29 0 = (w : Int) := e
      rw [e']; omega)
    have e' : fi (fun w => decide (KEYS.getD w 0 = x)) 29 0 = (w : Int) := e
    rw [e'] at h1
    have : j = w := by omega
    subst this
    have h5 : KEYS.getD j 0 = x := by simpa using h4
    rw [← h5]; exact key_w j hw
/-- the letters as the reference holds them -/
def ww (B : Nat → Int) (i : Nat) : Nat → Nat
  | 0 => 0
  | k + 1 => 256 * ww B i k + (B (i + k)).toNat
theorem dig {c0 c1 c2 c3 c4 c5 x : Nat} (h0 : c0 < 32) (h1 : c1 < 32) (h2 : c2 < 32) (h3 : c3 < 32) (h4 : c4 < 32) (h5 : c5 < 32) (hx : x = c0 * 33554432 + c1 * 1048576 + c2 * 32768 + c3 * 1024 + c4 * 32 + c5) : ltN x 0 = c0 ∧ ltN x 1 = c1 ∧ ltN x 2 = c2 ∧ ltN x 3 = c3 ∧ ltN x 4 = c4 ∧ ltN x 5 = c5 := by
  obtain ⟨a0, a1, a2, a3, a4, a5⟩ := lt_e (x := x)
  rw [a0, a1, a2, a3, a4, a5]
  refine ⟨?_, ?_, ?_, ?_, ?_, ?_⟩ <;> omega
theorem wv_d {B : Nat → Int} {i k : Nat} (hk : k ≤ 6) (h : ∀ j, j < k → isLt (B (i + j)) = true) : ∀ j, j < 6 → ltN (wv B i k) j = if j < k then (B (i + j) - 96).toNat else 0 := by
  have hb : ∀ j, j < k → (B (i + j) - 96).toNat < 32 := fun j hj => by have := isLt_i.mp (h j hj); omega
  have key : ∀ j, j < 6 → (if j < k then (B (i + j) - 96).toNat else 0) < 32 := fun j hj => by
    by_cases q : j < k
    · rw [if_pos q]; exact hb j q
    · rw [if_neg q]; omega
  have hx : wv B i k = (if 0 < k then (B (i + 0) - 96).toNat else 0) * 33554432 + (if 1 < k then (B (i + 1) - 96).toNat else 0) * 1048576 + (if 2 < k then (B (i + 2) - 96).toNat else 0) * 32768 + (if 3 < k then (B (i + 3) - 96).toNat else 0) * 1024 + (if 4 < k then (B (i + 4) - 96).toNat else 0) * 32 + (if 5 < k then (B (i + 5) - 96).toNat else 0) := by
    have : k = 0 ∨ k = 1 ∨ k = 2 ∨ k = 3 ∨ k = 4 ∨ k = 5 ∨ k = 6 := by omega
    rcases this with rfl | rfl | rfl | rfl | rfl | rfl | rfl <;> simp [wv]
  obtain ⟨d0, d1, d2, d3, d4, d5⟩ := dig (key 0 (by omega)) (key 1 (by omega)) (key 2 (by omega)) (key 3 (by omega)) (key 4 (by omega)) (key 5 (by omega)) hx
  intro j hj
  have : j = 0 ∨ j = 1 ∨ j = 2 ∨ j = 3 ∨ j = 4 ∨ j = 5 := by omega
  rcases this with rfl | rfl | rfl | rfl | rfl | rfl
  · exact d0
  · exact d1
  · exact d2
  · exact d3
  · exact d4
  · exact d5
theorem wv_n {B : Nat → Int} {i k : Nat} (hk : k ≤ 6) (h : ∀ j, j < k → isLt (B (i + j)) = true) : nmOk (wv B i k : Nat) ∧ bwk (wv B i k) 6 = ww B i k := by
  have hd := wv_d hk h
  have hl : ∀ j, j < k → 1 ≤ ltN (wv B i k) j ∧ ltN (wv B i k) j ≤ 26 := fun j hj => by
    have := isLt_i.mp (h j hj)
    rw [hd j (by omega), if_pos hj]; omega
  have hz : ∀ j, k ≤ j → j < 6 → ltN (wv B i k) j = 0 := fun j h1 h2 => by rw [hd j h2, if_neg (by omega)]
  have hb := wv_b hk h
  refine ⟨⟨by omega, k, hk, fun j hj => by rw [Int.toNat_natCast]; exact hl j hj, fun j h1 h2 => by rw [Int.toNat_natCast]; exact hz j h1 h2⟩, ?_⟩
  rw [bw_z hz hk (Nat.le_refl _)]
  have key : ∀ j, j ≤ k → bwk (wv B i k) j = ww B i j := by
    intro j
    induction j with
    | zero => intro _; rfl
    | succ j ih =>
      intro hj
      have := isLt_i.mp (h j (by omega))
      rw [bw_s (hl j (by omega)).1, ih (by omega), hd j (by omega), if_pos (by omega), ww]; omega
  exact key k (Nat.le_refl _)
