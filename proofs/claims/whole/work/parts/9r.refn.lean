/-! The reference: what is seen; payers. -/
section RFn
variable {d b w : Nat} {X : Nat × (Nat → Int)} {v : Nat → Int} {M M' M2 : PH} {K : PV → PS → Prop} {n : Nat → Nat} {a μ ν : PH} {F : Nat → List Int} {B : Nat → Int} {N : Nat} {rf : Nat → Int} {sd : Int} {A : Nat} {P : Nat → PH} {R R' : Nat} {sp sh sp' sh' : Nat → Int} {pi pi' : PB2} {fe : Int × Int}
/-- what was seen is other -/
theorem IR_sn (h : IR M b n a F μ B N rf sd A P R sp sh pi fe) (k1 : ∀ q, q ≠ 234 → q ≠ 280 → q ≠ 281 → M' q = M q) (k2 : ∀ j, j ≠ 71 → M' 234 j = M 234 j) (hg : RG M' R' sp' sh') : IR M' b n a F μ B N rf sd A P R' sp' sh' pi fe := by
  obtain ⟨h1, h2, ⟨t1, t2, t3⟩, h4, h5, h6, -, ⟨i1, i2⟩, ⟨f1, f2⟩, n1, n2⟩ := h
  refine ⟨RS_f (fun q z1 z2 => k1 q (by omega) (by omega) (by omega)) (k2 13 (by omega)) h1, RM_f (fun q z1 z2 => k1 q (by omega) (by omega) (by omega)) h2, ⟨?_, t2, (k2 1 (by omega)).trans t3⟩, ?_, (k2 62 (by omega)).trans h5, RU_f (fun q z1 z2 => k1 q (by omega) (by omega) (by omega)) ⟨k2 60 (by omega), k2 61 (by omega)⟩ h6, hg, ⟨(k2 75 (by omega)).trans i1, ?_⟩, ⟨(k2 10 (by omega)).trans f1, (k2 11 (by omega)).trans f2⟩, ?_, ?_⟩
  · rw [k1 235 (by omega) (by omega) (by omega)]; exact t1
  · unfold RRf at *; rw [k1 269 (by omega) (by omega) (by omega)]; exact h4
  · rw [k1 282 (by omega) (by omega) (by omega)]; exact i2
  · rw [k1 261 (by omega) (by omega) (by omega)]; exact n1
  · rw [k1 262 (by omega) (by omega) (by omega)]; exact n2
theorem s297 (h : IR M b n a F μ B N rf sd A P R sp sh pi fe) (hB : BB B) (hK0 : ¬ seeOk B N (n 0) → ∀ M', IR M' b n a F μ B 0 (pm_up rf 5 (rf 5 + 1)) sd A P R sp sh pi fe → frS M M' → K (vI (-1)) (GF X, M', PTF v)) (hK1 : seeOk B N (n 0) → ∀ M', IR M' b n a F μ B 0 rf sd A P (N / 3) (fun k => B (3 * k)) (fun k => B (3 * k + 1) * 256 + B (3 * k + 2) - 1000) pi fe → frS M M' → K (vI ((N / 3 : Nat) : Int)) (GF X, M', PTF v)) : pm_Call (d + 2) 297 [vA 234] (GF X, M, PTF v) K := by
  have hS := h.1
  have hn := hS.2.2.1
  obtain ⟨t1, t2, t3⟩ := h.2.2.1
  generalize hM1 : pm_sa M 234 (pm_up (M 234) 1 0) = M1
  have h1 : IR M1 b n a F μ B 0 rf sd A P R sp sh pi fe := by
    rw [← hM1]
    exact IR_tp h (fun q z1 z2 => sa_n z1) (fun j z => by rw [sa_s, up_n z]) ⟨fun k hk => by omega, by omega, by rw [sa_s, up_s]; rfl⟩
  have fS : frS M M1 := by rw [← hM1]; exact frS_rf (by omega)
  have hS1 := h1.1
  have e235 : ∀ k, k < N → M1 235 k = B k := fun k hk => by rw [← hM1, sa_n (by omega)]; exact t1 k hk
  have tm : ((N : Int)).tmod 3 = ((N % 3 : Nat) : Int) := (Int.ofNat_tmod N 3).symm
  have td : ((N : Int)).tdiv 3 = ((N / 3 : Nat) : Int) := (Int.ofNat_tdiv N 3).symm
  have bad : ¬ seeOk B N (n 0) → ∀ l3 : Int, pm_Run (d + 1) 297 60 [vA 234, vI (N : Int), vI 0, vI l3] [] (GF X, M1, PTF v) K := by
    intro q l3
    rw [r297_60 (by omega), if_neg (by simp), r297_64]
    refine (c224 (j := 5) (by omega)).mpr ?_
    rw [push_i, r297_69]
    exact hK0 q _ (IR_rf h1) (frS_t fS (frS_rf (by omega)))
  have bad2 : ¬ (3 ≤ N ∧ N ≤ 60 ∧ N % 3 = 0) → pm_Run (d + 1) 297 30 [vA 234, vI (N : Int), PU, PU] [] (GF X, M1, PTF v) K := by
    intro q
    rw [r297_30, r297_31, r297_34 (by omega) (by omega)]
    by_cases z : N = 0
    · rw [if_pos (by omega)]; exact bad (fun g => q g.1) 0
    · rw [if_neg (by omega), r297_39 (by omega), if_pos rfl]; exact bad (fun g => q g.1) 0
  rw [en297, r297_0, hM1, t3, r297_10 (by omega)]
  by_cases q1 : N = 0
  · rw [if_pos (by omega)]; exact bad2 (by omega)
  · rw [if_neg (by omega), r297_14 (by omega) (by rw [tm]; omega), tm]
    by_cases q2 : N % 3 = 0
    · rw [if_neg (by simp; omega), r297_20 (by omega)]
      by_cases q3 : 60 < N
      · rw [if_pos (by omega)]; exact bad2 (by omega)
      · rw [if_neg (by omega), r297_26, r297_31]
        have main : ∀ k j, j + k = N / 3 → al (fun i => decide (B (3 * i) < (n 0 : Int))) j = true → pm_Run (d + 1) 297 34 [vA 234, vI (N : Int), vI 1, vI ((3 * j : Nat) : Int)] [] (GF X, M1, PTF v) K := by
          intro k
          induction k with
          | zero =>
            intro j hj ha
            have ok : seeOk B N (n 0) := ⟨by omega, by rw [show N / 3 = j by omega]; exact ha⟩
            rw [r297_34 (by omega) (by omega), if_pos (by omega), r297_60 (by omega), if_pos (by omega), r297_70 (by omega), td, r297_77]
            have lp : ∀ k2 i, i + k2 = N / 3 → ∀ Mx, (∀ q, q ≠ 234 → q ≠ 280 → q ≠ 281 → Mx q = M1 q) → (∀ j, j ≠ 71 → Mx 234 j = M1 234 j) → Mx 234 71 = ((N / 3 : Nat) : Int) → (∀ k, k < i → Mx 280 k = B (3 * k) ∧ Mx 281 k = B (3 * k + 1) * 256 + B (3 * k + 2) - 1000) → pm_Run (d + 1) 297 79 [vA 234, vI (N : Int), vI 1, vI (i : Int)] [] (GF X, Mx, PTF v) K := by
              intro k2
              induction k2 with
              | zero =>
                intro i hi Mx fx gx e71 hx
                rw [r297_79 (by omega) (by rw [e71]; omega), e71, if_pos (by omega), r297_141, e71]
                exact hK1 ok Mx (IR_sn h1 fx gx ⟨e71, fun k hk => hx k (by omega)⟩) (frS_t fS (fun q hq => fx q (by omega) (by omega) (by omega)))
              | succ k2 ih2 =>
                intro i hi Mx fx gx e71 hx
                have e0 : Mx 235 (3 * (i : Int)).toNat = B (3 * i) := by rw [fx 235 (by omega) (by omega) (by omega), show (3 * (i : Int)).toNat = 3 * i by omega]; exact e235 _ (by omega)
                have e1 : Mx 235 (3 * (i : Int) + 1).toNat = B (3 * i + 1) := by rw [fx 235 (by omega) (by omega) (by omega), show (3 * (i : Int) + 1).toNat = 3 * i + 1 by omega]; exact e235 _ (by omega)
                have e2 : Mx 235 (3 * (i : Int) + 2).toNat = B (3 * i + 2) := by rw [fx 235 (by omega) (by omega) (by omega), show (3 * (i : Int) + 2).toNat = 3 * i + 2 by omega]; exact e235 _ (by omega)
                rw [r297_79 (by omega) (by rw [e71]; omega), e71, if_neg (by omega), r297_87 (by omega) (by omega) (by omega) (by omega), r297_101 (by omega) (by omega) (by omega) (by omega) (by omega) (by omega), r297_135, sa_n (a := 280) (b := 235) (by omega), e0, e1, e2, b8_2 (hB _ (by omega)) (hB _ (by omega)), Int.toNat_natCast]
                refine ih2 (i + 1) (by omega) _ (fun q z1 z2 z3 => by rw [sa_n z3, sa_n z2]; exact fx q z1 z2 z3) (fun j z => by rw [sa_n (by omega), sa_n (by omega)]; exact gx j z) (by rw [sa_n (by omega), sa_n (by omega)]; exact e71) (fun k hk => ?_)
                rw [sa_n (a := 281) (b := 280) (by omega), sa_s, sa_s, sa_n (a := 280) (b := 281) (by omega)]
                by_cases q : k = i
                · subst q; rw [up_s, up_s]; exact ⟨rfl, rfl⟩
                · rw [up_n q, up_n q]; exact hx k (by omega)
            exact lp (N / 3) 0 (by omega) _ (fun q z1 _ _ => sa_n z1) (fun j z => by rw [sa_s, up_n z]) (by rw [sa_s, up_s]) (fun k hk => by omega)
          | succ k ih =>
            intro j hj ha
            have bj := hB (3 * j) (by omega)
            rw [r297_34 (by omega) (by omega), if_neg (by omega), r297_39 (by omega), if_neg (by omega), r297_43 (by omega) (by omega), Int.toNat_natCast, e235 _ (by omega)]
            by_cases z : B (3 * j) < (n 0 : Int)
            · rw [c227t hS1 (by omega) (isIx_i.mpr ⟨bj.1, z⟩), push_i, r297_53]
              have := ih (j + 1) (by omega) (by rw [al, ha, decide_eq_true z]; rfl)
              rw [show ((3 * (j + 1) : Nat) : Int) = ((3 * j : Nat) : Int) + 3 by omega] at this; exact this
            · rw [c227f hS1 (by omega) (fun g => z (isIx_i.mp g).2), push_i, r297_53]
              have no : ¬ seeOk B N (n 0) := fun g => by
                have := al_i g.2 j (by omega)
                simp at this; omega
              rw [r297_34 (by omega) (by omega)]
              by_cases z3 : (N : Int) ≤ ((3 * j : Nat) : Int) + 3
              · rw [if_pos z3]; exact bad no _
              · rw [if_neg z3, r297_39 (by omega), if_pos rfl]; exact bad no _
        exact main (N / 3) 0 (by omega) rfl
    · rw [if_pos (by omega)]; exact bad2 (by omega)
theorem c298 (hn0 : n 0 ≤ 24) (hR : R ≤ 20) (hG : RG M R sp sh) (hH : ∀ p, p < n 0 → M 277 p = hts n F ν p) (hwC : wC n a F) (hs : ∀ k, k < R → 0 ≤ sp k ∧ sp k < n 0 ∧ inR (sh k)) : pm_Call (d + 1) 298 [vA 234] (GF X, M, PTF v) K ↔ K (vI (if al (fun k => decide (hts n F ν (sp k).toNat = sh k)) R = true then 1 else 0)) (GF X, M, PTF v) := by
  have main : ∀ k j, j + k = R → al (fun k => decide (hts n F ν (sp k).toNat = sh k)) j = true → (pm_Run d 298 2 [vA 234, vI (j : Int)] [] (GF X, M, PTF v) K ↔ K (vI (if al (fun k => decide (hts n F ν (sp k).toNat = sh k)) R = true then 1 else 0)) (GF X, M, PTF v)) := by
    intro k
    induction k with
    | zero =>
      intro j hj ha
      rw [r298_2 (by omega) (by rw [hG.1]; omega), hG.1, if_pos (by omega), r298_38, if_pos (by rw [show R = j by omega]; exact ha)]
    | succ k ih =>
      intro j hj ha
      obtain ⟨g1, g2⟩ := hG.2 j (by omega)
      obtain ⟨s1, s2, s3⟩ := hs j (by omega)
      have e := hH (sp j).toNat (by omega)
      have hb := hts_b (μ := ν) (p := (sp j).toNat) hwC
      rw [r298_2 (by omega) (by rw [hG.1]; omega), hG.1, if_neg (by omega), r298_10 (by omega) (by omega) (by rw [Int.toNat_natCast, g1]; omega) (by rw [Int.toNat_natCast, g1]; omega) (by rw [Int.toNat_natCast, g1, e]; omega) (by rw [Int.toNat_natCast, g2]; exact s3), Int.toNat_natCast, g1, g2, e]
      by_cases q : hts n F ν (sp j).toNat = sh j
      · rw [if_pos q, r298_32]
        exact ih (j + 1) (by omega) (by rw [al, ha, decide_eq_true q]; rfl)
      · rw [if_neg q, r298_30, if_neg (fun z => q (by have := al_i z j (by omega); simpa using this))]
  rw [en298, r298_0]
  exact main R 0 (by omega) rfl
theorem msk_s {j set : Nat} (hb : set.testBit j = true) : msk μ (j + 1) set = msk μ j set := by
  unfold msk
  congr 1
  funext k
  by_cases q : k / 3 < j
  · have e : (k / 3 < j + 1 ∧ set.testBit (k / 3) = false) ↔ (k / 3 < j ∧ set.testBit (k / 3) = false) := ⟨fun z => ⟨q, z.2⟩, fun z => ⟨by omega, z.2⟩⟩
    simp only [e]
  · have n1 : ¬ (k / 3 < j + 1 ∧ set.testBit (k / 3) = false) := fun z => by
      have : k / 3 = j := by have := z.1; omega
      rw [this, hb] at z
      exact absurd z.2 (by simp)
    have n2 : ¬ (k / 3 < j ∧ set.testBit (k / 3) = false) := fun z => q z.1
    rw [if_neg n1, if_neg n2]
theorem msk_z {j set n1 : Nat} (hb : set.testBit j = false) : setb (msk μ j set) j (dg 1 n1 0) = msk μ (j + 1) set := by
  unfold setb msk
  rw [sa_sa, sa_s]
  congr 1
  funext k
  unfold pm_cp
  by_cases q : j * 3 ≤ k ∧ k < j * 3 + 3
  · have : k / 3 = j := by omega
    rw [if_pos q, dg_0, if_pos ⟨by omega, by rw [this]; exact hb⟩]
  · rw [if_neg q]
    by_cases q2 : k / 3 < j
    · have e : (k / 3 < j + 1 ∧ set.testBit (k / 3) = false) ↔ (k / 3 < j ∧ set.testBit (k / 3) = false) := ⟨fun z => ⟨q2, z.2⟩, fun z => ⟨by omega, z.2⟩⟩
      simp only [e]
    · have n1 : ¬ (k / 3 < j + 1 ∧ set.testBit (k / 3) = false) := fun z => by have := z.1; omega
      have n2 : ¬ (k / 3 < j ∧ set.testBit (k / 3) = false) := fun z => q2 z.1
      show (if k / 3 < j ∧ set.testBit (k / 3) = false then 0 else μ 4 k) = if k / 3 < j + 1 ∧ set.testBit (k / 3) = false then 0 else μ 4 k
      rw [if_neg n1, if_neg n2]
theorem msk_0 {set : Nat} : msk μ 0 set = μ := by
  unfold msk
  exact sa_id (by funext k; rw [if_neg (fun z => by have := z.1; omega)])
theorem c299 (hS : RS M b n a F) (hM : RM M n 0 μ) (hw : wM n μ) (hR : R ≤ 20) (hG : RG M R sp sh) (hs : ∀ k, k < R → 0 ≤ sp k ∧ sp k < n 0 ∧ inR (sh k)) {x : Int} (hx : inR x) (hK : ∀ M', fq M M' → K (vI (qPay n F μ R sp sh x)) (GF X, M', PTF v)) : pm_Call (d + 7) 299 [vA 234, vI x] (GF X, M, PTF v) K := by
  have hwC := hS.2.2
  have hn := hwC.1
  have hn8 : n 2 ≤ 8 := by omega
  have k0 := hK M fq_r
  rw [en299, r299_0 (by rw [hG.1]; omega), hG.1]
  by_cases q0 : R = 0
  · rw [qPay, if_pos q0] at k0
    rw [if_pos (by omega), r299_16]; exact k0
  · rw [qPay, if_neg q0] at k0
    rw [if_neg (by omega), r299_7]
    by_cases q1 : 0 ≤ x ∧ x ≤ 2
    · have h0 : 0 < n 0 := by have := hs 0 (by omega); omega
      obtain ⟨⟨hb, e13⟩, ⟨-, -, e2, -⟩, -⟩ := id hS.1
      have en : M 241 (M 234 13).toNat = (n 2 : Int) := by rw [e13, Int.toNat_natCast, e2]
      have pe : 2 ^ n 2 ≤ 256 := Nat.pow_le_pow_right (n := 2) (by omega) hn8
      have pp : 0 < 2 ^ n 2 := Nat.two_pow_pos _
      rw [c179t hx (by omega) (by omega) q1, push_i, r299_13 (by omega), if_pos (by omega), r299_18 (by omega) (by omega), en, shl1 (by omega)]
      generalize hJ : jd (xpl n F μ R sp sh) (2 ^ n 2 - 1) = J
      have jb : ∀ s, s ≤ 256 → (J s).1 ≤ s ∧ (J s).2.1 < 256 ∧ (J s).2.2 < 256 := fun s hs => by rw [← hJ]; exact jd_b (by omega) hs
      have main : ∀ k j, j + k = 2 ^ n 2 → ∀ (Mx : PH) (l6 : PV), fq M Mx → pm_Run (d + 6) 299 40 [vA 234, vI x, vI ((J j).1 : Int), vI ((J j).2.1 : Int), vI ((J j).2.2 : Int), vI (j : Int), l6] [] (GF X, Mx, PTF v) K := by
        intro k
        induction k with
        | zero =>
          intro j hj Mx l6 fx
          have hSx := RS_q fx hS
          obtain ⟨⟨-, e13x⟩, ⟨-, -, e2x, -⟩, -⟩ := id hSx.1
          have enx : Mx 241 (Mx 234 13).toNat = (n 2 : Int) := by rw [e13x, Int.toNat_natCast, e2x]
          have kk := hK Mx fx
          rw [qPay, if_neg q0] at kk
          have eJ : JD n F μ R sp sh = J j := by rw [JD, hJ, show j = 2 ^ n 2 by omega]
          rw [eJ] at kk
          have bj := jb j (by omega)
          rw [r299_40 (by omega) (by omega) (by omega) (by rw [enx, shl1 (by omega)]; omega), enx, shl1 (by omega), if_pos (by omega), r299_141 hx]
          have x3 : x = 0 ∨ x = 1 ∨ x = 2 := by omega
          rcases x3 with rfl | rfl | rfl
          · rw [if_neg (by simp), r299_145, r299_168]; exact kk
          · rw [if_pos (by omega), r299_149 (by omega), if_neg (by simp), r299_154 (by omega)]
            rw [if_neg (by omega), if_pos rfl] at kk
            by_cases z : (J j).1 = 0
            · rw [if_pos z] at kk
              rw [if_neg (by simp; omega), r299_158, r299_168]; exact kk
            · rw [if_neg z] at kk
              rw [if_pos (by omega), r299_162, r299_168]; exact kk
          · rw [if_pos (by omega), r299_149 (by omega), if_pos (by omega), r299_166, r299_168]; exact kk
        | succ k ih =>
          intro j hj Mx l6 fx
          have hSx := RS_q fx hS
          obtain ⟨⟨-, e13x⟩, ⟨-, -, e2x, -⟩, -⟩ := id hSx.1
          have enx : Mx 241 (Mx 234 13).toNat = (n 2 : Int) := by rw [e13x, Int.toNat_natCast, e2x]
          have bj := jb j (by omega)
          have r0 := RM_q fx (w := 0) (by omega) (by omega) (by omega) hM
          rw [r299_40 (by omega) (by omega) (by omega) (by rw [enx, shl1 (by omega)]; omega), enx, shl1 (by omega), if_neg (by omega), r299_56]
          refine (c232 (t := 1) (s := 0) (by omega) (by omega) (by omega)).mpr ?_
          rw [push_u, r299_62]
          have inner : ∀ k2 h, h + k2 = n 2 → ∀ My, fq M My → RM My n 1 (msk μ h j) → pm_Run (d + 6) 299 65 [vA 234, vI x, vI ((J j).1 : Int), vI ((J j).2.1 : Int), vI ((J j).2.2 : Int), vI (j : Int), vI (h : Int)] [] (GF X, My, PTF v) K := by
            intro k2
            induction k2 with
            | zero =>
              intro h hh My fy ry
              have hSy := RS_q fy hS
              obtain ⟨⟨-, e13y⟩, ⟨-, -, e2y, -⟩, -⟩ := id hSy.1
              have eny : My 241 (My 234 13).toNat = (n 2 : Int) := by rw [e13y, Int.toNat_natCast, e2y]
              rw [r299_65 (by omega) (by omega) (by omega) (by rw [eny]; omega), eny, if_pos (by omega), r299_105]
              rw [show h = n 2 by omega] at ry ⊢
              refine c255 (w := 1) hSy ry (wN_i (wM_msk hw)) h0 (fun Mz fz hz => ?_)
              have f3 := fq_t fy (fw_q (fh_w fz))
              have hGz : RG Mz R sp sh := ⟨(f3.2.1 71 (by omega)).trans hG.1, fun k hk => by rw [f3.1 280 (by omega) (by omega), f3.1 281 (by omega) (by omega)]; exact hG.2 k hk⟩
              have ex : al (fun k => decide (hts n F (msk μ (n 2) j) (sp k).toNat = sh k)) R = xpl n F μ R sp sh j := rfl
              rw [push_u, r299_110, c298 (by omega) hR hGz hz hwC hs, ex, push_i, r299_114 i01]
              have nx := ih (j + 1) (by omega) Mz (vI (n 2 : Int)) f3
              have eJ : J (j + 1) = if xpl n F μ R sp sh j = true then ((J j).1 + 1, (J j).2.1 &&& j, (J j).2.2 ||| j) else J j := by rw [← hJ]; rfl
              rw [eJ] at nx
              by_cases z : xpl n F μ R sp sh j = true
              · rw [if_pos z] at nx
                rw [if_pos z, if_pos (by omega), r299_120, r299_135, pm_andN (by omega) (by omega), pm_orN (by omega) (by omega)]; exact nx
              · rw [if_neg z] at nx
                rw [if_neg z, if_neg (by simp), r299_117, r299_135]; exact nx
            | succ k2 ih2 =>
              intro h hh My fy ry
              have hSy := RS_q fy hS
              obtain ⟨⟨-, e13y⟩, ⟨-, -, e2y, -⟩, -⟩ := id hSy.1
              have eny : My 241 (My 234 13).toNat = (n 2 : Int) := by rw [e13y, Int.toNat_natCast, e2y]
              rw [r299_65 (by omega) (by omega) (by omega) (by rw [eny]; omega), eny, if_neg (by omega), r299_79 bi_and, bi_bit (by omega) (by omega)]
              by_cases z : j.testBit h = true
              · rw [if_pos z, if_pos (by omega), r299_99]
                exact ih2 (h + 1) (by omega) My fy (by rw [msk_s z]; exact ry)
              · have z' : j.testBit h = false := by simpa using z
                rw [if_neg z, if_neg (by simp), r299_89]
                refine c284 (w := 1) (C := 1) (row := 0) hSy ry (by omega) (by omega) (by omega) (by omega) (fun Mz fz _ _ rz => ?_)
                rw [push_i, r299_98, r299_99]
                rw [msk_z z'] at rz
                exact ih2 (h + 1) (by omega) Mz (fq_t fy (fw_q fz)) rz
          exact inner (n 2) 0 (by omega) _ (fq_t fx (fw_q lcp_w)) (by rw [msk_0]; exact lcp_R (by omega) (by omega) (by omega) r0)
      have := main (2 ^ n 2) 0 (by omega) M PU fq_r
      have eJ : J 0 = (0, 2 ^ n 2 - 1, 0) := by rw [← hJ]; rfl
      rw [eJ] at this
      rw [show ((2 ^ n 2 : Nat) : Int) - 1 = ((2 ^ n 2 - 1 : Nat) : Int) by omega]
      exact this
    · rw [if_neg (by omega), if_neg (by omega), if_neg (by omega)] at k0
      rw [c179f hx (by omega) (by omega) q1, push_i, r299_13 (by omega), if_neg (by simp), r299_16]; exact k0
end RFn
