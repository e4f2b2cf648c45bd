/-! Images. -/
/-- bytes that were written: how many, which -/
abbrev PB2 : Type := Nat × (Nat → Int)
def pt (p : PB2) (x : Int) : PB2 := (p.1 + 1, pm_up p.2 p.1 (x % 256))
def pt2 (p : PB2) (x : Int) : PB2 := pt (pt p (x / 256)) x
def chk (f : Nat → Int) : Nat → Int
  | 0 => 89
  | k + 1 => (5 * chk f k + f k).tmod 251
def im0 (μ : PH) : PB2 := pt2 (0, fun _ => 0) (μ 0 0)
def im1 (μ : PH) (k : Nat) : PB2 := itr (fun m p => pt (pt p (μ 1 m)) (μ 2 m)) k (im0 μ)
def imP (μ : PH) (h k : Nat) (p : PB2) : PB2 := itr (fun m p => pt2 (pt p (μ 4 (h * 3 + m))) (μ 5 (h * 3 + m))) k (pt2 p (μ 3 h))
def im2 (n : Nat → Nat) (μ : PH) (k : Nat) : PB2 := itr (fun h p => imP μ h (n 1) p) k (im1 μ (n 1))
def img (n : Nat → Nat) (μ : PH) : PB2 := pt (im2 n μ (n 2)) (chk (im2 n μ (n 2)).2 (im2 n μ (n 2)).1)
theorem pt_l {p : PB2} {x : Int} : (pt p x).1 = p.1 + 1 := rfl
theorem pt2_l {p : PB2} {x : Int} : (pt2 p x).1 = p.1 + 2 := rfl
theorem im1_l {μ : PH} : ∀ {k : Nat}, (im1 μ k).1 = 2 + 2 * k
  | 0 => rfl
  | k + 1 => by
    show (pt (pt (im1 μ k) (μ 1 k)) (μ 2 k)).1 = _
    rw [pt_l, pt_l, im1_l]; omega
theorem imP_l {μ : PH} {h : Nat} {p : PB2} : ∀ {k : Nat}, (imP μ h k p).1 = p.1 + 2 + 3 * k
  | 0 => rfl
  | k + 1 => by
    show (pt2 (pt (imP μ h k p) (μ 4 (h * 3 + k))) (μ 5 (h * 3 + k))).1 = _
    rw [pt2_l, pt_l, imP_l]; omega
theorem im2_l {n : Nat → Nat} {μ : PH} : ∀ {k : Nat}, (im2 n μ k).1 = 2 + 2 * n 1 + k * (2 + 3 * n 1)
  | 0 => by show (im1 μ (n 1)).1 = _; rw [im1_l]; omega
  | k + 1 => by
    show (imP μ k (n 1) (im2 n μ k)).1 = _
    rw [imP_l, im2_l, Nat.add_mul]; omega
theorem chk_b {f : Nat → Int} : ∀ {k : Nat}, (∀ i, i < k → 0 ≤ f i ∧ f i ≤ 255) → 0 ≤ chk f k ∧ chk f k ≤ 250
  | 0, _ => by simp [chk]
  | k + 1, h => by
    have h1 := chk_b (k := k) (fun i hi => h i (by omega))
    have h2 := h k (by omega)
    have := tm_b (x := 5 * chk f k + f k) (y := 251) (by omega) (by omega)
    rw [chk]; omega
theorem chk_c {f g : Nat → Int} : ∀ {k : Nat}, (∀ i, i < k → f i = g i) → chk f k = chk g k
  | 0, _ => rfl
  | k + 1, h => by rw [chk, chk, chk_c (fun i hi => h i (by omega)), h k (by omega)]
def isP (M : PH) (p : PB2) : Prop := M 225 2 = (p.1 : Int) ∧ ∀ i, i < p.1 → M 226 i = pm_b8 (p.2 i) ∧ 0 ≤ p.2 i ∧ p.2 i ≤ 255
def frP (M M' : PH) : Prop := (∀ q, q ≠ 225 → q ≠ 226 → M' q = M q) ∧ ∀ j, j ≠ 2 → M' 225 j = M 225 j
theorem frP_r {M : PH} : frP M M := ⟨fun _ _ _ => rfl, fun _ _ => rfl⟩
theorem frP_t {M M' M2 : PH} (h : frP M M') (h2 : frP M' M2) : frP M M2 := ⟨fun q z1 z2 => (h2.1 q z1 z2).trans (h.1 q z1 z2), fun j z => (h2.2 j z).trans (h.2 j z)⟩
section CPI
variable {d c b : Nat} {X : Nat × (Nat → Int)} {v : Nat → Int} {M M' : PH} {K : PV → PS → Prop} {n : Nat → Nat} {a μ : PH} {F : Nat → List Int} {p : PB2} {B : Nat → Int}
theorem b8_m {x : Int} : pm_b8 (pm_b8 x) = pm_b8 (x % 256) := by
  unfold pm_b8
  rw [Int.bmod_bmod]
  exact (Int.emod_bmod x 256).symm
theorem c107 (hp : isP M p) (hl : p.1 < 97) {x : Int} (hK : ∀ M' : PH, frP M M' → isP M' (pt p x) → K PU (GF X, M', PTF v)) : pm_Call (d + 1) 107 [vA 225, vI x] (GF X, M, PTF v) K := by
  obtain ⟨h1, h2⟩ := hp
  have hx := Int.emod_nonneg x (show (256 : Int) ≠ 0 by omega)
  have hx2 := Int.emod_lt_of_pos x (show (0 : Int) < 256 by omega)
  rw [en107, r107_0 (by omega), if_neg (by omega), r107_12 (by omega) (by omega), r107_23, r107_33, h1, Int.toNat_natCast, sa_n (show 225 ≠ 226 by omega), h1, b8_m]
  refine hK _ ⟨fun q z1 z2 => by rw [sa_n z1, sa_n z2], fun j z => by rw [sa_s, up_n z]⟩ ⟨by rw [sa_s, up_s]; show _ = ((p.1 + 1 : Nat) : Int); omega, fun i hi => ?_⟩
  have hi' : i < p.1 + 1 := hi
  rw [sa_n (by omega), sa_s]
  show _ = pm_b8 (pm_up p.2 p.1 (x % 256) i) ∧ 0 ≤ pm_up p.2 p.1 (x % 256) i ∧ pm_up p.2 p.1 (x % 256) i ≤ 255
  by_cases z : i = p.1
  · rw [up_e z, up_e z]; exact ⟨rfl, by omega, by omega⟩
  · rw [up_n z, up_n z]; exact h2 i (by omega)
theorem c108 (hp : isP M p) (hl : p.1 + 1 < 97) {x : Int} (hx : 0 ≤ x ∧ x ≤ 9999) (hK : ∀ M' : PH, frP M M' → isP M' (pt2 p x) → K PU (GF X, M', PTF v)) : pm_Call (d + 2) 108 [vA 225, vI x] (GF X, M, PTF v) K := by
  obtain ⟨k, rfl⟩ := Int.eq_ofNat_of_zero_le hx.1
  have e : pm_shr (k : Int) 8 = (k : Int) / 256 := by
    have := pm_shrN (a := k) (k := 8) (by omega) (by omega)
    rw [Nat.shiftRight_eq_div_pow] at this
    rw [show pm_shr (k : Int) 8 = ((k / 2 ^ 8 : Nat) : Int) from this]; omega
  rw [en108, r108_0, e]
  refine c107 hp (by omega) (fun M2 f1 f2 => ?_)
  rw [push_u, r108_8]
  refine c107 f2 (by rw [pt_l]; omega) (fun M3 g1 g2 => ?_)
  rw [push_u, r108_13]
  exact hK M3 (frP_t f1 g1) g2
theorem c106 {r nr : Nat} (hr : r < 283 ∧ SHF r = (101, nr)) {f : Nat → Int} {s : Nat} (hs : s ≤ nr) (hf : ∀ i, i < s → M r i = pm_b8 (f i) ∧ 0 ≤ f i ∧ f i ≤ 255) : pm_Call (d + 1) 106 [vA r, vI (s : Int)] (GF X, M, PTF v) K ↔ K (vI (chk f s)) (GF X, M, PTF v) := by
  have hn := shf_le hr
  rw [en106, r106_0 (nr := nr)]
  refine (loopN (fun j => pm_Run d 106 5 [vA r, vI (s : Int), vI (chk f j), vI (j : Int)] [] (GF X, M, PTF v) K) s (fun j hj => ?_)).trans ?_
  · have g := hf j hj
    have cb := chk_b (f := f) (k := j) (fun i hi => (hf i (by omega)).2)
    have e : pm_and (M r ((j : Int)).toNat) 255 = f j := by rw [Int.toNat_natCast, g.1, b8_a g.2]
    rw [r106_5 (nr := nr) (by omega) (by omega), if_neg (by omega), r106_10 hr (by omega) (by omega), if_neg (by omega), r106_16 hr (by omega) (by omega) (by rw [e]; omega), e]
    exact Iff.rfl
  · rw [r106_5 (nr := nr) (by omega) (by omega), if_pos (by omega), r106_38 (nr := nr)]
theorem c104 (hc : isCh c) (hC : isC M c n a F) (hwC : wC n a F) (hμ : mo M 3 = μ) (hw : wM n μ) (hK : ∀ M' : PH, frP M M' → isP M' (img n μ) → K PU (GF X, M', PTF v)) : pm_Call (d + 3) 104 [vA 225, vA c, vA 3] (GF X, M, PTF v) K := by
  obtain ⟨hn0, hn1, hn2, -, -, hn5, -, hn00⟩ := hwC.1
  have hcc := ch60 hc
  have hcc' : c = 9 ∨ c = 35 := hc
  have G : ∀ M' : PH, frP M M' → isC M' c n a F ∧ ∀ i k, k < len i → M' (3 + i) k = μ i k := fun M' h => by
    have h1 : mo M' 3 = μ := (mo_fr (fun i hi => h.1 _ (by omega) (by omega))).trans hμ
    exact ⟨isC_fr (fun i hi => h.1 _ (by omega) (by omega)) hC, fun i k hk => by rw [mo_i (M := M') (b := 3) hk, h1]⟩
  have hb22 : n 2 * (2 + 3 * n 1) ≤ 8 * 11 := Nat.mul_le_mul hn2 (by omega)
  rw [en104, r104_0, r104_5 mo3]
  have f0 : frP M (pm_sa M 225 (pm_up (M 225) 2 0)) := ⟨fun q z1 _ => sa_n z1, fun j z => by rw [sa_s, up_n z]⟩
  have e0 : (pm_sa M 225 (pm_up (M 225) 2 0)) 3 0 = μ 0 0 := (G _ f0).2 0 0 (by decide)
  rw [e0]
  refine c108 (p := (0, fun _ => 0)) ⟨by rw [sa_s, up_s]; rfl, fun i hi => absurd hi (Nat.not_lt_zero i)⟩ (by show 0 + 1 < 97; omega) hw.1 (fun M1 g1 g2 => ?_)
  rw [push_u, r104_13]
  refine loopI (n 1) (fun j (M' : PH) => frP M M' ∧ isP M' (im1 μ j)) (fun j M' => pm_Run (d + 2) 104 15 [vA 225, vA c, vA 3, vI (j : Int), PU] [] (GF X, M', PTF v) K) (fun j M' hj hI ih => ?_) (fun M' hI => ?_) M1 ⟨frP_t f0 g1, g2⟩
  · obtain ⟨i1, i2⟩ := hI
    obtain ⟨hC', hm'⟩ := G M' i1
    have l1 := im1_l (μ := μ) (k := j)
    rw [r104_15 hc (by omega) (by rw [hC'.1 1 (by omega)]; omega), hC'.1 1 (by omega), if_neg (by omega), r104_23 mo3 (by omega) (by omega), Int.toNat_natCast, hm' 1 j (show j < 3 by omega)]
    refine c107 i2 (by omega) (fun M2 k1 k2 => ?_)
    obtain ⟨hC2, hm2⟩ := G M2 (frP_t i1 k1)
    rw [push_u, r104_33 mo3 (by omega) (by omega), Int.toNat_natCast, hm2 2 j (show j < 3 by omega)]
    refine c107 k2 (by rw [pt_l]; omega) (fun M3 j1 j2 => ?_)
    rw [push_u, r104_43]
    exact ih M3 ⟨frP_t (frP_t i1 k1) j1, j2⟩
  · obtain ⟨i1, i2⟩ := hI
    obtain ⟨hC', hm'⟩ := G M' i1
    rw [r104_15 hc (by omega) (by rw [hC'.1 1 (by omega)]; omega), hC'.1 1 (by omega), if_pos (by omega), r104_49]
    refine loopI (n 2) (fun j (M' : PH) => frP M M' ∧ isP M' (im2 n μ j)) (fun j M' => ∀ l4 : PV, pm_Run (d + 2) 104 51 [vA 225, vA c, vA 3, vI (j : Int), l4] [] (GF X, M', PTF v) K) (fun j M' hj hI ih l4 => ?_) (fun M' hI l4 => ?_) M' ⟨i1, i2⟩ PU
    · obtain ⟨i1, i2⟩ := hI
      obtain ⟨hC', hm'⟩ := G M' i1
      have l2 := im2_l (n := n) (μ := μ) (k := j)
      have lj : j * (2 + 3 * n 1) + (2 + 3 * n 1) ≤ n 2 * (2 + 3 * n 1) := by
        have := Nat.mul_le_mul_right (2 + 3 * n 1) (show j + 1 ≤ n 2 by omega)
        rw [Nat.add_mul, Nat.one_mul] at this; exact this
      have g3 := hw.2.2.2.1 j (by omega)
      rw [r104_51 hc (by omega) (by rw [hC'.1 2 (by omega)]; omega), hC'.1 2 (by omega), if_neg (by omega), r104_59 mo3 (by omega) (by omega), Int.toNat_natCast, hm' 3 j (show j < 8 by omega)]
      refine c108 i2 (by omega) g3 (fun M2 k1 k2 => ?_)
      rw [push_u, r104_69]
      refine loopI (n 1) (fun i (M' : PH) => frP M M' ∧ isP M' (imP μ j i (im2 n μ j))) (fun i M' => pm_Run (d + 2) 104 72 [vA 225, vA c, vA 3, vI (j : Int), vI (i : Int)] [] (GF X, M', PTF v) K) (fun i M3 hi hI2 ih2 => ?_) (fun M3 hI2 => ?_) M2 ⟨frP_t i1 k1, k2⟩
      · obtain ⟨j1, j2⟩ := hI2
        obtain ⟨hC3, hm3⟩ := G M3 j1
        have l3 := imP_l (μ := μ) (h := j) (p := im2 n μ j) (k := i)
        have g4 := hw.2.2.2.2.1 (j * 3 + i) (by omega)
        rw [r104_72 hc (by omega) (by rw [hC3.1 1 (by omega)]; omega), hC3.1 1 (by omega), if_neg (by omega), r104_81 mo3, c55, push_i, r104_92 mo3 (by omega) (by omega), show ((j : Int) * 3 + (i : Int)).toNat = j * 3 + i by omega, hm3 4 (j * 3 + i) (show j * 3 + i < 24 by omega)]
        refine c107 j2 (by omega) (fun M4 m1 m2 => ?_)
        obtain ⟨hC4, hm4⟩ := G M4 (frP_t j1 m1)
        rw [push_u, r104_96 mo3, c55, push_i, r104_107 mo3 (by omega) (by omega), show ((j : Int) * 3 + (i : Int)).toNat = j * 3 + i by omega, hm4 5 (j * 3 + i) (show j * 3 + i < 24 by omega)]
        refine c108 m2 (by rw [pt_l]; omega) (by omega) (fun M5 o1 o2 => ?_)
        rw [push_u, r104_111]
        exact ih2 M5 ⟨frP_t (frP_t j1 m1) o1, o2⟩
      · obtain ⟨j1, j2⟩ := hI2
        obtain ⟨hC3, hm3⟩ := G M3 j1
        rw [r104_72 hc (by omega) (by rw [hC3.1 1 (by omega)]; omega), hC3.1 1 (by omega), if_pos (by omega), r104_117]
        exact ih M3 ⟨j1, j2⟩ _
    · obtain ⟨i1, i2⟩ := hI
      obtain ⟨hC', hm'⟩ := G M' i1
      have l2 := im2_l (n := n) (μ := μ) (k := n 2)
      have r226 : 226 < 283 ∧ SHF 226 = (101, 97) := by decide +kernel
      rw [r104_51 hc (by omega) (by rw [hC'.1 2 (by omega)]; omega), hC'.1 2 (by omega), if_pos (by omega), r104_123, i2.1, c106 (f := (im2 n μ (n 2)).2) r226 (by omega) i2.2, push_i, r104_135]
      refine c107 i2 (by omega) (fun M2 k1 k2 => ?_)
      rw [push_u, r104_138]
      exact hK M2 (frP_t i1 k1) k2
end CPI
