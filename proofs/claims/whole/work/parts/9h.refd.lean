/-! The reference: what holds between calls; what is kept and undone. -/
def RU (M : PH) (n : Nat → Nat) (A : Nat) (P : Nat → PH) : Prop := ∃ x : Nat, x < 20 ∧ A ≤ 20 ∧ M 234 60 = (x : Int) ∧ M 234 61 = (A : Int) ∧ ∀ k, k < A → RM M n (2 + (x + (A - 1 - k)) % 20) (P k)
def RG (M : PH) (R : Nat) (sp sh : Nat → Int) : Prop := M 234 71 = (R : Int) ∧ ∀ k, k < R → M 280 k = sp k ∧ M 281 k = sh k
def RI (M : PH) (pi : PB2) : Prop := M 234 75 = (pi.1 : Int) ∧ ∀ i, i < pi.1 → M 282 i = pi.2 i
def ltN (x k : Nat) : Nat := x / 2 ^ (25 - 5 * k) % 32
/-- the reference's word of the class's -/
def bwk (x : Nat) : Nat → Nat
  | 0 => 0
  | k + 1 => if ltN x k = 0 then bwk x k else 256 * bwk x k + (ltN x k + 96)
def nmOk (x : Int) : Prop := (0 ≤ x ∧ x < 1073741824) ∧ ∃ k, k ≤ 6 ∧ (∀ i, i < k → 1 ≤ ltN x.toNat i ∧ ltN x.toNat i ≤ 26) ∧ ∀ i, k ≤ i → i < 6 → ltN x.toNat i = 0
def RN (M : PH) (b : Nat) (n : Nat → Nat) (a : PH) : Prop := (∀ m, m < n 1 → M 261 (3 * b + m) = (bwk (a 7 m).toNat 6 : Int) ∧ nmOk (a 7 m)) ∧ ∀ h, h < n 2 → M 262 (8 * b + h) = (bwk (a 8 h).toNat 6 : Int) ∧ nmOk (a 8 h)
def RRf (M : PH) (rf : Nat → Int) : Prop := ∀ k, k < 6 → M 269 k = rf k
def IR (M : PH) (b : Nat) (n : Nat → Nat) (a : PH) (F : Nat → List Int) (μ : PH) (B : Nat → Int) (N : Nat) (rf : Nat → Int) (sd : Int) (A : Nat) (P : Nat → PH) (R : Nat) (sp sh : Nat → Int) (pi : PB2) (fe : Int × Int) : Prop := RS M b n a F ∧ RM M n 0 μ ∧ RTp M B N ∧ RRf M rf ∧ M 234 62 = sd ∧ RU M n A P ∧ RG M R sp sh ∧ RI M pi ∧ (M 234 10 = fe.1 ∧ M 234 11 = fe.2) ∧ RN M b n a
def frS (M M' : PH) : Prop := ∀ q, q < 234 → M' q = M q
section RFd
variable {d b w : Nat} {X : Nat × (Nat → Int)} {v : Nat → Int} {M M' M2 : PH} {K : PV → PS → Prop} {n : Nat → Nat} {a μ μ' : PH} {F : Nat → List Int} {B : Nat → Int} {N : Nat} {rf : Nat → Int} {sd sd' : Int} {A A' : Nat} {P P' : Nat → PH} {R : Nat} {sp sh : Nat → Int} {pi : PB2} {fe : Int × Int}
/-- moment, past and seed are others -/
theorem IR_re (h : IR M b n a F μ B N rf sd A P R sp sh pi fe) (k1 : ∀ q, 235 ≤ q → q < 270 ∨ 279 < q → M' q = M q) (k2 : ∀ j, j ≠ 60 → j ≠ 61 → j ≠ 62 → j < 64 ∨ 67 < j → M' 234 j = M 234 j) (hsd : M' 234 62 = sd') (hM : RM M' n 0 μ') (hU : RU M' n A' P') : IR M' b n a F μ' B N rf sd' A' P' R sp sh pi fe := by
  obtain ⟨h1, -, ⟨t1, t2, t3⟩, h4, -, -, ⟨g1, g2⟩, ⟨i1, i2⟩, ⟨f1, f2⟩, n1, n2⟩ := h
  refine ⟨RS_f (fun q z1 z2 => k1 q (by omega) (by omega)) (k2 13 (by omega) (by omega) (by omega) (by omega)) h1, hM, ⟨?_, t2, ?_⟩, ?_, hsd, hU, ⟨?_, ?_⟩, ⟨?_, ?_⟩, ⟨?_, ?_⟩, ?_, ?_⟩
  · rw [k1 235 (by omega) (by omega)]; exact t1
  · rw [k2 1 (by omega) (by omega) (by omega) (by omega)]; exact t3
  · unfold RRf at *; rw [k1 269 (by omega) (by omega)]; exact h4
  · rw [k2 71 (by omega) (by omega) (by omega) (by omega)]; exact g1
  · rw [k1 280 (by omega) (by omega), k1 281 (by omega) (by omega)]; exact g2
  · rw [k2 75 (by omega) (by omega) (by omega) (by omega)]; exact i1
  · rw [k1 282 (by omega) (by omega)]; exact i2
  · rw [k2 10 (by omega) (by omega) (by omega) (by omega)]; exact f1
  · rw [k2 11 (by omega) (by omega) (by omega) (by omega)]; exact f2
  · rw [k1 261 (by omega) (by omega)]; exact n1
  · rw [k1 262 (by omega) (by omega)]; exact n2
theorem RU_w (hf : fw w M M') (hw2 : w < 2) (h3 : n 1 ≤ 3) (h8 : n 2 ≤ 8) (h : RU M n A P) : RU M' n A P := by
  obtain ⟨x, x1, x2, x3, x4, x5⟩ := h
  exact ⟨x, x1, x2, (hf.2.1 60 (by omega)).trans x3, (hf.2.1 61 (by omega)).trans x4, fun k hk => RM_w hf (by omega) h3 h8 (x5 k hk)⟩
/-- a question leaves all as it was -/
theorem IR_q (hf : fw 1 M M') (h : IR M b n a F μ B N rf sd A P R sp sh pi fe) : IR M' b n a F μ B N rf sd A P R sp sh pi fe := by
  have hn := h.1.2.2.1
  exact IR_re h (fun q z1 z2 => hf.1 q (by omega) (by omega)) (fun j _ _ _ z => hf.2.1 j z) ((hf.2.1 62 (by omega)).trans h.2.2.2.2.1) (RM_w hf (by omega) (by omega) (by omega) h.2.1) (RU_w hf (by omega) (by omega) (by omega) h.2.2.2.2.2.1)
theorem fw_S (hf : fw w M M') : frS M M' := fun q hq => hf.1 q (by omega) (by omega)
theorem IR_rf (h : IR M b n a F μ B N rf sd A P R sp sh pi fe) {j : Nat} : IR (pm_sa M 269 (pm_up (M 269) j (M 269 j + 1))) b n a F μ B N (pm_up rf j (rf j + 1)) sd A P R sp sh pi fe := by
  obtain ⟨h1, h2, ⟨t1, t2, t3⟩, h4, h5, ⟨x, x1, x2, x3, x4, x5⟩, ⟨g1, g2⟩, ⟨i1, i2⟩, ⟨f1, f2⟩, n1, n2⟩ := h
  refine ⟨RS_f (fun q z1 z2 => sa_n (by omega)) rfl h1, RM_f (fun q z1 z2 => sa_n (by omega)) h2, ⟨t1, t2, t3⟩, fun k hk => ?_, h5, ⟨x, x1, x2, x3, x4, fun k hk => RM_f (fun q z1 z2 => sa_n (by omega)) (x5 k hk)⟩, ⟨g1, g2⟩, ⟨i1, i2⟩, ⟨f1, f2⟩, n1, n2⟩
  rw [sa_s]
  by_cases q : k = j
  · subst q; rw [up_s, up_s, h4 k hk]
  · rw [up_n q, up_n q, h4 k hk]
theorem frS_rf {g : Nat → Int} {q : Nat} (h : 234 ≤ q) : frS M (pm_sa M q g) := fun q hq => sa_n (by omega)
theorem frS_t (h : frS M M') (h2 : frS M' M2) : frS M M2 := fun q hq => (h2 q hq).trans (h q hq)
theorem tm20 {x k : Nat} : ((x : Int) + (k : Int)).tmod 20 = (((x + k) % 20 : Nat) : Int) := by rw [← Int.natCast_add]; rfl
theorem c234 {x k : Nat} (hx : x < 20) (hk : k ≤ 20) (e : M 234 60 = (x : Int)) : pm_Call (d + 1) 234 [vA 234, vI (k : Int)] (GF X, M, PTF v) K ↔ K (vI ((2 + (x + k) % 20 : Nat) : Int)) (GF X, M, PTF v) := by
  rw [en234, r234_0 (by omega), e, tm20, show (2 + (((x + k) % 20 : Nat) : Int)) = ((2 + (x + k) % 20 : Nat) : Int) by omega]
theorem c235 (hU : RU M n A P) (hM : RM M n 0 μ) (h3 : n 1 ≤ 3) (h8 : n 2 ≤ 8) (hK : ∀ M', (∀ q, q ≠ 234 → q < 270 ∨ 275 < q → M' q = M q) → (∀ j, j ≠ 60 → j ≠ 61 → M' 234 j = M 234 j) → RM M' n 0 μ → RU M' n (min 20 (A + 1)) (pcons μ P) → K PU (GF X, M', PTF v)) : pm_Call (d + 2) 235 [vA 234] (GF X, M, PTF v) K := by
  obtain ⟨x, x1, x2, x3, x4, x5⟩ := hU
  have st : ∀ (M0 : PH) (y Y : Nat), y < 20 → Y < 20 → M0 234 60 = (y : Int) → M0 234 61 = (Y : Int) → (∀ q, q ≠ 234 → M0 q = M q) → (∀ j, j ≠ 60 → j ≠ 61 → M0 234 j = M 234 j) → (∀ k, k < Y → RM M0 n (2 + (y + (Y - 1 - k)) % 20) (P k)) → Y + 1 = min 20 (A + 1) → pm_Run (d + 1) 235 32 [vA 234] [] (GF X, M0, PTF v) K := by
    intro M0 y Y y1 y2 y3 y4 y5 y6 y7 y8
    rw [r235_32, y4, c234 y1 (by omega) y3, push_i, r235_41]
    refine (c232 (t := 2 + (y + Y) % 20) (s := 0) (by omega) (by omega) (by omega)).mpr ?_
    have hM0 : RM M0 n 0 μ := RM_f (fun q z1 z2 => y5 q (by omega)) hM
    have fl := lcp_w (M := M0) (t := 2 + (y + Y) % 20) (s := 0)
    rw [push_u, r235_45]
    refine hK _ (fun q z1 z2 => ?_) (fun j z1 z2 => ?_) ?_ ?_
    · rw [sa_n z1]
      by_cases q7 : q ≤ 277 ∧ 276 ≤ q
      · have : q = 276 ∨ q = 277 := by omega
        rcases this with rfl | rfl
        · exact y5 276 (by omega)
        · exact y5 277 (by omega)
      · rw [fl.1 q z1 (by omega)]; exact y5 q z1
    · rw [sa_s, up_n z2]; exact y6 j z1 z2
    · exact RM_f (fun q z1 z2 => sa_n (by omega)) (RM_w fl (by omega) h3 h8 hM0)
    · rw [← y8]
      refine ⟨y, y1, by omega, ?_, ?_, fun k hk => ?_⟩
      · rw [sa_s, up_n (by omega)]; exact y3
      · rw [sa_s, up_s, show lcp M0 (2 + (y + Y) % 20) 0 234 61 = M0 234 61 from rfl, y4]; omega
      · refine RM_f (M := lcp M0 (2 + (y + Y) % 20) 0) (fun q z1 z2 => sa_n (by omega)) ?_
        cases k with
        | zero =>
          rw [show y + (Y + 1 - 1 - 0) = y + Y by omega]
          exact lcp_R (by omega) h3 h8 hM0
        | succ k =>
          rw [show y + (Y + 1 - 1 - (k + 1)) = y + (Y - 1 - k) by omega]
          exact RM_w fl (by omega) h3 h8 (y7 k (by omega))
  rw [en235, r235_0 (by omega)]
  by_cases q : A = 20
  · rw [if_neg (by omega), r235_9 (by omega), r235_22]
    have e1 : (M 234 60 + 1).tmod 20 = (((x + 1) % 20 : Nat) : Int) := by rw [x3]; exact tm20 (x := x) (k := 1)
    refine st _ ((x + 1) % 20) 19 (by omega) (by omega) ?_ ?_ (fun q z => by rw [sa_n z, sa_n z]) (fun j z1 z2 => by rw [sa_s, up_n z2, sa_s, up_n z1]) (fun k hk => ?_) (by omega)
    · rw [sa_s, up_n (by omega), sa_s, up_s, e1]
    · rw [sa_s, up_s, sa_s, up_n (by omega), x4]; omega
    · rw [show 2 + ((x + 1) % 20 + (19 - 1 - k)) % 20 = 2 + (x + (A - 1 - k)) % 20 by omega]
      exact RM_f (fun q z1 z2 => by rw [sa_n (by omega), sa_n (by omega)]) (x5 k (by omega))
  · rw [if_pos (by omega)]
    exact st M x A x1 (by omega) x3 x4 (fun _ _ => rfl) (fun _ _ _ => rfl) x5 (by omega)
theorem s236 (h : IR M b n a F μ B N rf sd A P R sp sh pi fe) (hK0 : A = 0 → ∀ M', IR M' b n a F μ B N (pm_up rf 4 (rf 4 + 1)) sd A P R sp sh pi fe → frS M M' → K (vI 0) (GF X, M', PTF v)) (hK1 : 0 < A → ∀ M', IR M' b n a F (P 0) B N rf sd (A - 1) (fun k => P (k + 1)) R sp sh pi fe → frS M M' → K (vI 1) (GF X, M', PTF v)) : pm_Call (d + 2) 236 [vA 234] (GF X, M, PTF v) K := by
  have hn := h.1.2.2.1
  obtain ⟨x, x1, x2, x3, x4, x5⟩ := h.2.2.2.2.2.1
  rw [en236, r236_0 (by omega)]
  by_cases q : A = 0
  · rw [if_neg (by omega), r236_7]
    refine (c224 (j := 4) (by omega)).mpr ?_
    rw [push_i, r236_12 (by omega), if_pos (by omega), r236_19, r236_20 (by simp)]
    exact hK0 q _ (IR_rf h) (frS_rf (by omega))
  · rw [if_pos (by omega), r236_21, r236_31]
    have e61 : (pm_sa M 234 (pm_up (M 234) 61 (M 234 61 - 1))) 234 61 = ((A - 1 : Nat) : Int) := by rw [sa_s, up_s, x4]; omega
    have e60 : (pm_sa M 234 (pm_up (M 234) 61 (M 234 61 - 1))) 234 60 = (x : Int) := by rw [sa_s, up_n (by omega)]; exact x3
    rw [e61, c234 x1 (by omega) e60, push_i, r236_41]
    refine (c232 (t := 0) (s := 2 + (x + (A - 1)) % 20) (by omega) (by omega) (by omega)).mpr ?_
    have fl := lcp_w (M := pm_sa M 234 (pm_up (M 234) 61 (M 234 61 - 1))) (t := 0) (s := 2 + (x + (A - 1)) % 20)
    have x0 := x5 0 (by omega)
    rw [show A - 1 - 0 = A - 1 by omega] at x0
    have rs : ∀ {u : Nat} {ν : PH}, RM M n u ν → RM (pm_sa M 234 (pm_up (M 234) 61 (M 234 61 - 1))) n u ν := fun hr => RM_f (fun q z1 z2 => sa_n (by omega)) hr
    rw [push_u, r236_44]
    refine hK1 (by omega) _ (IR_re h (fun q z1 z2 => ?_) (fun j z1 z2 z3 z4 => ?_) ?_ (lcp_R (by omega) (by omega) (by omega) (rs x0)) ⟨x, x1, by omega, e60, e61, fun k hk => ?_⟩) (fun q hq => ?_)
    · rw [fl.1 q (by omega) (by omega), sa_n (by omega)]
    · rw [fl.2.1 j z4, sa_s, up_n z2]
    · rw [fl.2.1 62 (by omega), sa_s, up_n (by omega)]; exact h.2.2.2.2.1
    · have := x5 (k + 1) (by omega)
      rw [show A - 1 - 1 - k = A - 1 - (k + 1) by omega]
      exact RM_w fl (by omega) (by omega) (by omega) (rs this)
    · rw [fl.1 q (by omega) (by omega), sa_n (by omega)]
theorem s277 (h : IR M b n a F μ B N rf sd A P R sp sh pi fe) {x y z : Int} (hx : inR x) (hy : inR y) (hz : inR z) (hK0 : ¬ (isIx (n 2) x = true ∧ isIx (n 1) y = true ∧ 0 ≤ z ∧ z ≤ 20) → ∀ M', IR M' b n a F μ B N (pm_up rf 2 (rf 2 + 1)) sd A P R sp sh pi fe → frS M M' → K (vI (-1)) (GF X, M', PTF v)) (hK1 : isIx (n 2) x = true ∧ isIx (n 1) y = true ∧ 0 ≤ z ∧ z ≤ 20 → ∀ M', IR M' b n a F (ups μ 4 (x.toNat * 3 + y.toNat) z) B N rf sd (min 20 (A + 1)) (pcons μ P) R sp sh pi fe → frS M M' → K (vI (μ 4 (x.toNat * 3 + y.toNat))) (GF X, M', PTF v)) : pm_Call (d + 4) 277 [vA 234, vI x, vI y, vI z] (GF X, M, PTF v) K := by
  have hS := h.1
  have hn := hS.2.2.1
  have bad : ¬ (isIx (n 2) x = true ∧ isIx (n 1) y = true ∧ 0 ≤ z ∧ z ≤ 20) → pm_Run (d + 3) 277 26 [vA 234, vI x, vI y, vI z, PU] [] (GF X, M, PTF v) K := by
    intro q
    rw [r277_26]
    refine (c224 (j := 2) (by omega)).mpr ?_
    rw [push_i, r277_31]
    exact hK0 q _ (IR_rf h) (frS_rf (by omega))
  by_cases q : isIx (n 2) x = true
  · by_cases q1 : isIx (n 1) y = true
    · by_cases q2 : 0 ≤ z ∧ z ≤ 20
      · have k1 := hK1 ⟨q, q1, q2⟩
        have q' := q
        have q1' := q1
        obtain ⟨i, rfl, hi⟩ := ixN q
        obtain ⟨m, rfl, hm⟩ := ixN q1
        rw [Int.toNat_natCast, Int.toNat_natCast] at k1
        rw [en277, r277_0, c229t hS hx q', push_i, r277_5 (by omega), if_neg (by omega), r277_8, c228t hS hy q1', push_i, r277_13 (by omega), if_neg (by omega), r277_16, c179t hz (by omega) (by omega) q2, push_i, r277_23 (by omega), if_pos (by omega), r277_32]
        refine c235 h.2.2.2.2.2.1 h.2.1 (by omega) (by omega) (fun M1 f1 g1 r1 u1 => ?_)
        have ix : (3 * (i : Int) + (m : Int)).toNat = 24 * 0 + 3 * i + m := by omega
        rw [push_u, r277_36 (by omega) (by omega), r277_59, ix, (r1.2.2.2.2 i m hi hm).1]
        have f2 : fw 0 M1 (pm_sa M1 274 (pm_up (M1 274) (24 * 0 + 3 * i + m) z)) := fw_4 (by omega) (by omega)
        refine k1 _ (IR_re h (fun q z1 z2 => ?_) (fun j z1 z2 z3 z4 => ?_) ?_ (RM_4 r1 (by omega) (by omega)) (RU_w f2 (by omega) (by omega) (by omega) u1)) (fun q hq => ?_)
        · rw [sa_n (by omega)]; exact f1 q (by omega) (by omega)
        · exact g1 j z1 z2
        · exact (g1 62 (by omega) (by omega)).trans h.2.2.2.2.1
        · rw [sa_n (by omega)]; exact f1 q (by omega) (by omega)
      · rw [en277, r277_0, c229t hS hx q, push_i, r277_5 (by omega), if_neg (by omega), r277_8, c228t hS hy q1, push_i, r277_13 (by omega), if_neg (by omega), r277_16, c179f hz (by omega) (by omega) q2, push_i, r277_23 (by omega), if_neg (by simp)]
        exact bad (fun z => q2 z.2.2)
    · rw [en277, r277_0, c229t hS hx q, push_i, r277_5 (by omega), if_neg (by omega), r277_8, c228f hS hy q1, push_i, r277_13 (by omega), if_pos (by omega)]
      exact bad (fun z => q1 z.2.1)
  · rw [en277, r277_0, c229f hS hx q, push_i, r277_5 (by omega), if_pos (by omega)]
    exact bad (fun z => q z.1)
theorem s279 (h : IR M b n a F μ B N rf sd A P R sp sh pi fe) {x z : Int} (hx : inR x) (hz : inR z) (hK0 : ¬ (isIx (n 1) x = true ∧ 0 ≤ z ∧ z ≤ 9) → ∀ M', IR M' b n a F μ B N (pm_up rf 2 (rf 2 + 1)) sd A P R sp sh pi fe → frS M M' → K (vI (-1)) (GF X, M', PTF v)) (hK1 : isIx (n 1) x = true ∧ 0 ≤ z ∧ z ≤ 9 → ∀ M', IR M' b n a F (ups μ 2 x.toNat z) B N rf sd (min 20 (A + 1)) (pcons μ P) R sp sh pi fe → frS M M' → K (vI (μ 2 x.toNat)) (GF X, M', PTF v)) : pm_Call (d + 4) 279 [vA 234, vI x, vI z] (GF X, M, PTF v) K := by
  have hS := h.1
  have hn := hS.2.2.1
  have bad : ¬ (isIx (n 1) x = true ∧ 0 ≤ z ∧ z ≤ 9) → pm_Run (d + 3) 279 18 [vA 234, vI x, vI z, PU] [] (GF X, M, PTF v) K := by
    intro q
    rw [r279_18]
    refine (c224 (j := 2) (by omega)).mpr ?_
    rw [push_i, r279_23]
    exact hK0 q _ (IR_rf h) (frS_rf (by omega))
  by_cases q1 : isIx (n 1) x = true
  · by_cases q2 : 0 ≤ z ∧ z ≤ 9
    · have k1 := hK1 ⟨q1, q2⟩
      have q1' := q1
      obtain ⟨m, rfl, hm⟩ := ixN q1
      rw [Int.toNat_natCast] at k1
      rw [en279, r279_0, c228t hS hx q1', push_i, r279_5 (by omega), if_neg (by omega), r279_8, c179t hz (by omega) (by omega) q2, push_i, r279_15 (by omega), if_pos (by omega), r279_24]
      refine c235 h.2.2.2.2.2.1 h.2.1 (by omega) (by omega) (fun M1 f1 g1 r1 u1 => ?_)
      have ix : ((m : Int)).toNat = 3 * 0 + m := by omega
      rw [push_u, r279_28 (by omega) (by omega), r279_42, ix, (r1.2.2.1 m hm).2]
      have f2 : fw 0 M1 (pm_sa M1 272 (pm_up (M1 272) (3 * 0 + m) z)) := fw_2 (by omega)
      refine k1 _ (IR_re h (fun q z1 z2 => ?_) (fun j z1 z2 z3 z4 => ?_) ?_ (RM_2 r1) (RU_w f2 (by omega) (by omega) (by omega) u1)) (fun q hq => ?_)
      · rw [sa_n (by omega)]; exact f1 q (by omega) (by omega)
      · exact g1 j z1 z2
      · exact (g1 62 (by omega) (by omega)).trans h.2.2.2.2.1
      · rw [sa_n (by omega)]; exact f1 q (by omega) (by omega)
    · rw [en279, r279_0, c228t hS hx q1, push_i, r279_5 (by omega), if_neg (by omega), r279_8, c179f hz (by omega) (by omega) q2, push_i, r279_15 (by omega), if_neg (by simp)]
      exact bad (fun z => q2 z.2)
  · rw [en279, r279_0, c228f hS hx q1, push_i, r279_5 (by omega), if_pos (by omega)]
    exact bad (fun z => q1 z.1)
theorem s278 (h : IR M b n a F μ B N rf sd A P R sp sh pi fe) (hw : wM n μ) {x y z : Int} (hx : inR x) (hy : inR y) (hz : inR z) (hK0 : ¬ givOk n μ x y z → ∀ M', IR M' b n a F μ B N (pm_up rf 2 (rf 2 + 1)) sd A P R sp sh pi fe → frS M M' → K (vI 0) (GF X, M', PTF v)) (hK1 : givOk n μ x y z → ∀ M', IR M' b n a F (givM μ x.toNat y.toNat z) B N rf sd (min 20 (A + 1)) (pcons μ P) R sp sh pi fe → frS M M' → K (vI 1) (GF X, M', PTF v)) : pm_Call (d + 4) 278 [vA 234, vI x, vI y, vI z] (GF X, M, PTF v) K := by
  have hS := h.1
  have hn := hS.2.2.1
  have bad : ¬ givOk n μ x y z → pm_Run (d + 3) 278 53 [vA 234, vI x, vI y, vI z, PU] [] (GF X, M, PTF v) K := by
    intro q
    rw [r278_53, r278_54 (by omega), if_neg (by simp), r278_61]
    refine (c224 (j := 2) (by omega)).mpr ?_
    rw [push_i, r278_66 (by omega), if_pos (by omega), r278_73, r278_74 (by simp)]
    exact hK0 q _ (IR_rf h) (frS_rf (by omega))
  by_cases q : isIx (n 2) x = true
  · by_cases q1 : isIx (n 2) y = true
    · have q' := q
      have q1' := q1
      obtain ⟨i, rfl, hi⟩ := ixN q
      obtain ⟨j, rfl, hj⟩ := ixN q1
      have ei := h.2.1.2.2.2.1 i hi
      have ej := h.2.1.2.2.2.1 j hj
      rw [show 8 * 0 + i = i by omega] at ei
      rw [show 8 * 0 + j = j by omega] at ej
      have bi := hw.2.2.2.1 i (by omega)
      have bj := hw.2.2.2.1 j (by omega)
      rw [en278, r278_0, c229t hS hx q', push_i, r278_5 (by omega), if_neg (by omega), r278_8, c229t hS hy q1', push_i, r278_13 (by omega), if_neg (by omega), r278_16 (by omega) (by omega)]
      by_cases g1 : (i : Int) = (j : Int)
      · rw [if_pos g1]; exact bad (fun z => z.2.2.1 g1)
      · rw [if_neg g1, r278_21 hz]
        by_cases g2 : z ≤ 0
        · rw [if_pos g2]; exact bad (fun z => by have := z.2.2.2.1; omega)
        · rw [if_neg g2, r278_25 (by omega) (by omega) (by rw [Int.toNat_natCast, ei]; omega) hz, Int.toNat_natCast, ei]
          by_cases g3 : μ 3 i < z
          · rw [if_pos g3]; exact bad (fun z => by have := z.2.2.2.2.1; rw [Int.toNat_natCast] at this; omega)
          · rw [if_neg g3, r278_35 (by omega) (by omega) (by rw [Int.toNat_natCast, ej]; omega) (by omega), Int.toNat_natCast, ej]
            by_cases g4 : 9999 - z < μ 3 j
            · rw [if_pos g4]; exact bad (fun z => by have := z.2.2.2.2.2; rw [Int.toNat_natCast] at this; omega)
            · have k1 := hK1 ⟨q', q1', g1, by omega, by rw [Int.toNat_natCast]; omega, by rw [Int.toNat_natCast]; omega⟩
              rw [Int.toNat_natCast, Int.toNat_natCast] at k1
              rw [if_neg g4, r278_49, r278_54 (by omega), if_pos (by omega), r278_75]
              refine c235 h.2.2.2.2.2.1 h.2.1 (by omega) (by omega) (fun M1 f1 gg1 r1 u1 => ?_)
              have ixi : ((i : Int)).toNat = 8 * 0 + i := by omega
              have ixj : ((j : Int)).toNat = 8 * 0 + j := by omega
              rw [push_u, r278_79 (by omega) (by omega), r278_89 (by omega) (by omega), r278_99, ixi, ixj, sa_s, up_n (by omega), r1.2.2.2.1 i hi, r1.2.2.2.1 j hj]
              have f2 : fw 0 M1 (pm_sa M1 273 (pm_up (M1 273) (8 * 0 + i) (μ 3 i - z))) := fw_3 (by omega)
              have r2 := RM_3 (k := i) (x := μ 3 i - z) r1
              have f3 : fw 0 (pm_sa M1 273 (pm_up (M1 273) (8 * 0 + i) (μ 3 i - z))) (pm_sa (pm_sa M1 273 (pm_up (M1 273) (8 * 0 + i) (μ 3 i - z))) 273 (pm_up ((pm_sa M1 273 (pm_up (M1 273) (8 * 0 + i) (μ 3 i - z))) 273) (8 * 0 + j) (μ 3 j + z))) := fw_3 (by omega)
              have r3 := RM_3 (k := j) (x := μ 3 j + z) r2
              rw [sa_s] at f3 r3
              refine k1 _ (IR_re h (fun q z1 z2 => ?_) (fun j z1 z2 z3 z4 => ?_) ?_ r3 (RU_w (fw_t f2 f3) (by omega) (by omega) (by omega) u1)) (fun q hq => ?_)
              · rw [sa_n (by omega), sa_n (by omega)]; exact f1 q (by omega) (by omega)
              · exact gg1 j z1 z2
              · exact (gg1 62 (by omega) (by omega)).trans h.2.2.2.2.1
              · rw [sa_n (by omega), sa_n (by omega)]; exact f1 q (by omega) (by omega)
    · rw [en278, r278_0, c229t hS hx q, push_i, r278_5 (by omega), if_neg (by omega), r278_8, c229f hS hy q1, push_i, r278_13 (by omega), if_pos (by omega)]
      exact bad (fun z => q1 z.2.1)
  · rw [en278, r278_0, c229f hS hx q, push_i, r278_5 (by omega), if_pos (by omega)]
    exact bad (fun z => q z.1)
end RFd
