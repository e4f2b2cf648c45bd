/-! The reference: hours, storms, the seed, the tape. -/
section RFe
variable {d b w : Nat} {X : Nat × (Nat → Int)} {v : Nat → Int} {M M' M2 : PH} {K : PV → PS → Prop} {n : Nat → Nat} {a μ μ' : PH} {F : Nat → List Int} {B : Nat → Int} {N : Nat} {rf : Nat → Int} {sd sd' : Int} {A A' : Nat} {P P' : Nat → PH} {R : Nat} {sp sh : Nat → Int} {pi : PB2} {fe : Int × Int}
theorem s280 (h : IR M b n a F μ B N rf sd A P R sp sh pi fe) (hw : wM n μ) {x : Int} (hx : inR x) (hK0 : hrOk n μ x 200 = false → ∀ M', IR M' b n a F μ B N (pm_up rf 3 (rf 3 + 1)) sd A P R sp sh pi fe → frS M M' → K (vI (-1)) (GF X, M', PTF v)) (hK1 : hrOk n μ x 200 = true → ∀ M', IR M' b n a F (ahd n a F μ x.toNat) B N rf sd (min 20 (A + 1)) (pcons μ P) R sp sh pi fe → frS M M' → K (vI (ahd n a F μ x.toNat 0 0)) (GF X, M', PTF v)) : pm_Call (d + 8) 280 [vA 234, vI x] (GF X, M, PTF v) K := by
  have hS := h.1
  have hwC := hS.2.2
  have hn := hwC.1
  have h0 := hw.1
  have e270 := h.2.1.2.1
  have bad : ¬ hrOk n μ x 200 = true → pm_Run (d + 7) 280 32 [vA 234, vI x, PU] [] (GF X, M, PTF v) K := by
    intro q
    rw [r280_32]
    refine (c224 (j := 3) (by omega)).mpr ?_
    rw [push_i, r280_37]
    exact hK0 (by simpa using q) _ (IR_rf h) (frS_rf (by omega))
  by_cases q0 : 0 < n 0
  · by_cases q1 : 1 ≤ x ∧ x ≤ 200
    · rw [en280, r280_0, c226t hS q0, push_i, r280_4 (by omega), if_neg (by omega), r280_7, c179t hx (by omega) (by omega) q1, push_i, r280_15 (by omega), if_neg (by omega), r280_18 (by rw [e270]; omega), e270]
      by_cases q2 : μ 0 0 + x ≤ 9999
      · have k1 := hK1 (hrOk_i.mpr ⟨q0, q1.1, q1.2, by omega⟩)
        obtain ⟨t, rfl⟩ := Int.eq_ofNat_of_zero_le (show 0 ≤ x by omega)
        rw [if_pos q2, r280_38]
        change pm_Call _ _ _ _ _
        refine c235 h.2.2.2.2.2.1 h.2.1 (by omega) (by omega) (fun M1 f1 g1 r1 u1 => ?_)
        have hS1 : RS M1 b n a F := RS_f (fun q z1 z2 => f1 q (by omega) (by omega)) (g1 13 (by omega) (by omega)) hS
        have main : ∀ k j, j + k = t → ∀ Mx, fw 0 M1 Mx → RM Mx n 0 (ahd n a F μ j) → pm_Run (d + 7) 280 44 [vA 234, vI (t : Int), vI (j : Int)] [] (GF X, Mx, PTF v) K := by
          intro k
          induction k with
          | zero =>
            intro j hj Mx fx rx
            rw [r280_44 (by omega) (by omega), if_pos (by omega), r280_60, rx.2.1]
            rw [Int.toNat_natCast, show t = j by omega] at k1
            refine k1 Mx (IR_re h (fun q z1 z2 => ?_) (fun j z1 z2 z3 z4 => ?_) ?_ rx (RU_w fx (by omega) (by omega) (by omega) u1)) (fun q hq => ?_)
            · by_cases z : q = 278 ∨ q = 279
              · rw [fx.1 q (by omega) (by omega)]; exact f1 q (by omega) (by omega)
              · rw [fx.1 q (by omega) (by omega)]; exact f1 q (by omega) (by omega)
            · exact (fx.2.1 j z4).trans (g1 j z1 z2)
            · exact ((fx.2.1 62 (by omega)).trans (g1 62 (by omega) (by omega))).trans h.2.2.2.2.1
            · rw [fx.1 q (by omega) (by omega)]; exact f1 q (by omega) (by omega)
          | succ k ih =>
            intro j hj Mx fx rx
            rw [r280_44 (by omega) (by omega), if_neg (by omega), r280_49]
            refine c257 (w := 0) (RS_w fx hS1) rx (wM_ahd hw hwC j) q0 (fun My fy ry _ => ?_)
            rw [push_u, r280_54]
            exact ih (j + 1) (by omega) My (fw_t fx fy) (ry (by rw [ahd_0 hw]; omega))
        rw [push_u, r280_42]
        exact main t 0 (by omega) M1 fw_r r1
      · rw [if_neg q2]
        exact bad (fun z => by have := hrOk_i.mp z; omega)
    · rw [en280, r280_0, c226t hS q0, push_i, r280_4 (by omega), if_neg (by omega), r280_7, c179f hx (by omega) (by omega) q1, push_i, r280_15 (by omega), if_pos (by omega)]
      exact bad (fun z => by have := hrOk_i.mp z; omega)
  · rw [en280, r280_0, c226f hS q0, push_i, r280_4 (by omega), if_pos (by omega)]
    exact bad (fun z => by have := hrOk_i.mp z; omega)
theorem c281 (hs : 0 ≤ sd ∧ sd < 2147483648) (e : M 234 62 = sd) {k : Nat} (hk : 0 < k) (hk2 : k ≤ 10) : pm_Call (d + 1) 281 [vA 234, vI (k : Int)] (GF X, M, PTF v) K ↔ K (vI (drw sd k)) (GF X, pm_sa M 234 (pm_up (M 234) 62 (lcg sd)), PTF v) := by
  have lb := lcg_b (sd := sd)
  have el : (1103515245 * sd + 12345).tmod 2147483648 = lcg sd := by rw [lcg, Int.tmod_eq_emod_of_nonneg (by omega)]
  have e12 : (pm_sa M 234 (pm_up (M 234) 62 (lcg sd))) 234 62 = lcg sd := by rw [sa_s, up_s]
  have ed : (lcg sd).tdiv 64 = lcg sd / 64 := Int.tdiv_eq_ediv_of_nonneg lb.1
  have em : (lcg sd / 64).tmod (k : Int) = drw sd k := Int.tmod_eq_emod_of_nonneg (by omega)
  rw [en281, r281_0 (by rw [e]; omega), e, el, r281_20 (by rw [e12]; omega) (by omega) (by rw [e12, ed]; omega) (by omega) (by omega), e12, ed, em]
theorem pass_h (hw : wM n μ) : ∀ k, (sto n a F (μ, sd) k).1 0 0 = min 9999 (μ 0 0 + (k : Int))
  | 0 => by have := hw.1; show μ 0 0 = _; omega
  | k + 1 => by
    have := pass_h hw k
    have e : (st1 n (sto n a F (μ, sd) k)).1 0 0 = (sto n a F (μ, sd) k).1 0 0 := by
      unfold st1; split
      · rfl
      · rfl
    show pass n a F (st1 n (sto n a F (μ, sd) k)).1 0 0 = _
    rw [pass_0, e, this]; omega
theorem s282 (h : IR M b n a F μ B N rf sd A P R sp sh pi fe) (hw : wM n μ) (hs : 0 ≤ sd ∧ sd < 2147483648) {x : Int} (hx : inR x) (hK0 : hrOk n μ x 100 = false → ∀ M', IR M' b n a F μ B N (pm_up rf 3 (rf 3 + 1)) sd A P R sp sh pi fe → frS M M' → K (vI (-1)) (GF X, M', PTF v)) (hK1 : hrOk n μ x 100 = true → ∀ M', IR M' b n a F (sto n a F (μ, sd) x.toNat).1 B N rf (sto n a F (μ, sd) x.toNat).2 (min 20 (A + 1)) (pcons μ P) R sp sh pi fe → frS M M' → K (vI ((sto n a F (μ, sd) x.toNat).1 0 0)) (GF X, M', PTF v)) : pm_Call (d + 8) 282 [vA 234, vI x] (GF X, M, PTF v) K := by
  have hS := h.1
  have hwC := hS.2.2
  have hn := hwC.1
  have h0 := hw.1
  have e270 := h.2.1.2.1
  have bad : ¬ hrOk n μ x 100 = true → pm_Run (d + 7) 282 31 [vA 234, vI x, PU, PU] [] (GF X, M, PTF v) K := by
    intro q
    rw [r282_31]
    refine (c224 (j := 3) (by omega)).mpr ?_
    rw [push_i, r282_36]
    exact hK0 (by simpa using q) _ (IR_rf h) (frS_rf (by omega))
  by_cases q0 : 0 < n 0
  · by_cases q1 : 1 ≤ x ∧ x ≤ 100
    · rw [en282, r282_0, c226t hS q0, push_i, r282_4 (by omega), if_neg (by omega), r282_7, c179t hx (by omega) (by omega) q1, push_i, r282_14 (by omega), if_neg (by omega), r282_17 (by rw [e270]; omega), e270]
      by_cases q2 : μ 0 0 + x ≤ 9999
      · have k1 := hK1 (hrOk_i.mpr ⟨q0, q1.1, q1.2, by omega⟩)
        obtain ⟨t, rfl⟩ := Int.eq_ofNat_of_zero_le (show 0 ≤ x by omega)
        rw [if_pos q2, r282_37]
        refine c235 h.2.2.2.2.2.1 h.2.1 (by omega) (by omega) (fun M1 f1 g1 r1 u1 => ?_)
        have main : ∀ k j, j + k = t → ∀ Mx l3, (∀ q, q ≠ 234 → q < 270 ∨ 277 < q → Mx q = M q) → (∀ j, j ≠ 60 → j ≠ 61 → j ≠ 62 → j < 64 ∨ 67 < j → Mx 234 j = M 234 j) → Mx 234 62 = (sto n a F (μ, sd) j).2 → RM Mx n 0 (sto n a F (μ, sd) j).1 → RU Mx n (min 20 (A + 1)) (pcons μ P) → pm_Run (d + 7) 282 43 [vA 234, vI (t : Int), vI (j : Int), l3] [] (GF X, Mx, PTF v) K := by
          intro k
          induction k with
          | zero =>
            intro j hj Mx l3 fx gx sx rx ux
            rw [r282_43 (by omega) (by omega), if_pos (by omega), r282_97, rx.2.1]
            rw [Int.toNat_natCast, show t = j by omega] at k1
            exact k1 Mx (IR_re h (fun q z1 z2 => fx q (by omega) (by omega)) gx sx rx ux) (fun q hq => fx q (by omega) (by omega))
          | succ k ih =>
            intro j hj Mx l3 fx gx sx rx ux
            have hSx : RS Mx b n a F := RS_f (fun q z1 z2 => fx q (by omega) (by omega)) (gx 13 (by omega) (by omega) (by omega) (by omega)) hS
            obtain ⟨⟨hb, e13⟩, ⟨-, e1, -⟩, -⟩ := id hSx.1
            have en : Mx 237 (Mx 234 13).toNat = (n 1 : Int) := by rw [e13, Int.toNat_natCast, e1]
            obtain ⟨ws, ss⟩ := sto_w (a := a) (F := F) hw hwC hs j
            have hh := pass_h (n := n) (a := a) (F := F) (sd := sd) hw j
            obtain ⟨w1, s1⟩ := st1_w (sd := (sto n a F (μ, sd) j).2) ws (by omega) ss
            have hh1 : (st1 n (sto n a F (μ, sd) j)).1 0 0 = (sto n a F (μ, sd) j).1 0 0 := by
              unfold st1; split
              · rfl
              · rfl
            have fin : ∀ My l3, (∀ q, q ≠ 234 → q < 270 ∨ 277 < q → My q = M q) → (∀ j, j ≠ 60 → j ≠ 61 → j ≠ 62 → j < 64 ∨ 67 < j → My 234 j = M 234 j) → My 234 62 = (st1 n (sto n a F (μ, sd) j)).2 → RM My n 0 (st1 n (sto n a F (μ, sd) j)).1 → RU My n (min 20 (A + 1)) (pcons μ P) → pm_Run (d + 7) 282 86 [vA 234, vI (t : Int), vI (j : Int), l3] [] (GF X, My, PTF v) K := by
              intro My l3 fy gy sy ry uy
              have hSy : RS My b n a F := RS_f (fun q z1 z2 => fy q (by omega) (by omega)) (gy 13 (by omega) (by omega) (by omega) (by omega)) hS
              rw [r282_86]
              refine c257 (w := 0) hSy ry w1 q0 (fun Mz fz rz _ => ?_)
              rw [push_u, r282_91]
              exact ih (j + 1) (by omega) Mz _ (fun q z1 z2 => (fz.1 q z1 z2).trans (fy q z1 z2)) (fun j z1 z2 z3 z4 => (fz.2.1 j z4).trans (gy j z1 z2 z3 z4)) ((fz.2.1 62 (by omega)).trans sy) (rz (by rw [hh1, hh]; omega)) (RU_w fz (by omega) (by omega) (by omega) uy)
            rw [r282_43 (by omega) (by omega), if_neg (by omega), r282_48 (by omega) (by omega) (by rw [en]; omega), en]
            by_cases q3 : n 1 = 0
            · have e : st1 n (sto n a F (μ, sd) j) = sto n a F (μ, sd) j := by rw [st1, if_pos q3]
              rw [if_pos (by omega)]
              exact fin Mx l3 fx gx (by rw [e]; exact sx) (by rw [e]; exact rx) ux
            · have e : st1 n (sto n a F (μ, sd) j) = (ups (sto n a F (μ, sd) j).1 2 (drw (sto n a F (μ, sd) j).2 (n 1)).toNat (drw (lcg (sto n a F (μ, sd) j).2) 10), lcg (lcg (sto n a F (μ, sd) j).2)) := by rw [st1, if_neg q3]
              have b1 := drw_b (sd := (sto n a F (μ, sd) j).2) (k := n 1) (by omega)
              have sx2 : (pm_sa Mx 234 (pm_up (Mx 234) 62 (lcg (sto n a F (μ, sd) j).2))) 234 62 = lcg (sto n a F (μ, sd) j).2 := by rw [sa_s, up_s]
              rw [if_neg (by omega), r282_60 (by omega) (by omega), en, c281 ss sx (by omega) (by omega), push_i, r282_73]
              refine (c281 (k := 10) lcg_b sx2 (by omega) (by omega)).mpr ?_
              rw [push_i, r282_85 (by omega) (by omega), sa_s, sa_sa]
              generalize hD : drw (sto n a F (μ, sd) j).2 (n 1) = D at b1 e
              obtain ⟨m, rfl⟩ := Int.eq_ofNat_of_zero_le b1.1
              rw [Int.toNat_natCast] at e ⊢
              have rr : RM (pm_sa Mx 234 (pm_up (pm_up (Mx 234) 62 (lcg (sto n a F (μ, sd) j).2)) 62 (lcg (lcg (sto n a F (μ, sd) j).2)))) n 0 (sto n a F (μ, sd) j).1 := RM_f (fun q z1 z2 => sa_n (by omega)) rx
              have r2 := RM_2 (k := m) (x := drw (lcg (sto n a F (μ, sd) j).2) 10) rr
              have f2 : fw 0 (pm_sa Mx 234 (pm_up (pm_up (Mx 234) 62 (lcg (sto n a F (μ, sd) j).2)) 62 (lcg (lcg (sto n a F (μ, sd) j).2)))) _ := fw_2 (o := m) (by omega) (x := drw (lcg (sto n a F (μ, sd) j).2) 10)
              rw [show 3 * 0 + m = m by omega] at r2 f2
              refine fin _ _ (fun q z1 z2 => ?_) (fun j z1 z2 z3 z4 => ?_) ?_ ?_ ?_
              · rw [sa_n (by omega), sa_n z1]; exact fx q z1 z2
              · rw [sa_n (by omega), sa_s, up_n z3, up_n z3]; exact gx j z1 z2 z3 z4
              · rw [sa_n (by omega), sa_s, up_s, e]
              · rw [e]; exact r2
              · refine RU_w f2 (by omega) (by omega) (by omega) ?_
                obtain ⟨x, x1, x2, x3, x4, x5⟩ := ux
                exact ⟨x, x1, x2, by rw [sa_s, up_n (by omega), up_n (by omega)]; exact x3, by rw [sa_s, up_n (by omega), up_n (by omega)]; exact x4, fun k hk => RM_f (fun q z1 z2 => sa_n (by omega)) (x5 k hk)⟩
        rw [push_u, r282_41]
        exact main t 0 (by omega) M1 PU (fun q z1 z2 => f1 q z1 (by omega)) (fun j z1 z2 z3 z4 => g1 j z1 z2) ((g1 62 (by omega) (by omega)).trans h.2.2.2.2.1) r1 u1
      · rw [if_neg q2]
        exact bad (fun z => by have := hrOk_i.mp z; omega)
    · rw [en282, r282_0, c226t hS q0, push_i, r282_4 (by omega), if_neg (by omega), r282_7, c179f hx (by omega) (by omega) q1, push_i, r282_14 (by omega), if_pos (by omega)]
      exact bad (fun z => by have := hrOk_i.mp z; omega)
  · rw [en282, r282_0, c226f hS q0, push_i, r282_4 (by omega), if_pos (by omega)]
    exact bad (fun z => by have := hrOk_i.mp z; omega)
theorem RU_f (k1 : ∀ q, 270 ≤ q → q ≤ 275 → M' q = M q) (k2 : M' 234 60 = M 234 60 ∧ M' 234 61 = M 234 61) (h : RU M n A P) : RU M' n A P := by
  obtain ⟨x, x1, x2, x3, x4, x5⟩ := h
  exact ⟨x, x1, x2, k2.1.trans x3, k2.2.trans x4, fun k hk => RM_f k1 (x5 k hk)⟩
/-- the tape is another -/
theorem IR_tp (h : IR M b n a F μ B N rf sd A P R sp sh pi fe) {B' : Nat → Int} {N' : Nat} (k1 : ∀ q, q ≠ 234 → q ≠ 235 → M' q = M q) (k2 : ∀ j, j ≠ 1 → M' 234 j = M 234 j) (ht : RTp M' B' N') : IR M' b n a F μ B' N' rf sd A P R sp sh pi fe := by
  obtain ⟨h1, h2, -, h4, h5, h6, ⟨g1, g2⟩, ⟨i1, i2⟩, ⟨f1, f2⟩, n1, n2⟩ := h
  refine ⟨RS_f (fun q z1 z2 => k1 q (by omega) (by omega)) (k2 13 (by omega)) h1, RM_f (fun q z1 z2 => k1 q (by omega) (by omega)) h2, ht, ?_, (k2 62 (by omega)).trans h5, RU_f (fun q z1 z2 => k1 q (by omega) (by omega)) ⟨k2 60 (by omega), k2 61 (by omega)⟩ h6, ⟨?_, ?_⟩, ⟨?_, ?_⟩, ⟨?_, ?_⟩, ?_, ?_⟩
  · unfold RRf at *; rw [k1 269 (by omega) (by omega)]; exact h4
  · rw [k2 71 (by omega)]; exact g1
  · rw [k1 280 (by omega) (by omega), k1 281 (by omega) (by omega)]; exact g2
  · rw [k2 75 (by omega)]; exact i1
  · rw [k1 282 (by omega) (by omega)]; exact i2
  · rw [k2 10 (by omega)]; exact f1
  · rw [k2 11 (by omega)]; exact f2
  · rw [k1 261 (by omega) (by omega)]; exact n1
  · rw [k1 262 (by omega) (by omega)]; exact n2
theorem s283 (h : IR M b n a F μ B N rf sd A P R sp sh pi fe) {x : Int} (hx : inR x) (hK0 : x < 0 → ∀ M', IR M' b n a F μ B N (pm_up rf 5 (rf 5 + 1)) sd A P R sp sh pi fe → frS M M' → K (vI 0) (GF X, M', PTF v)) (hK1 : 0 ≤ x → ∀ M', IR M' b n a F μ B N rf x A P R sp sh pi fe → frS M M' → K (vI 1) (GF X, M', PTF v)) : pm_Call (d + 2) 283 [vA 234, vI x] (GF X, M, PTF v) K := by
  rw [en283, r283_0 hx]
  by_cases q : 0 ≤ x
  · rw [if_pos q, r283_18 hx, r283_24]
    refine hK1 q _ (IR_re h (fun q z1 z2 => sa_n (by omega)) (fun j z1 z2 z3 z4 => by rw [sa_s, up_n z3]) (by rw [sa_s, up_s]) (RM_f (fun q z1 z2 => sa_n (by omega)) h.2.1) (RU_f (fun q z1 z2 => sa_n (by omega)) ⟨by rw [sa_s, up_n (by omega)], by rw [sa_s, up_n (by omega)]⟩ h.2.2.2.2.2.1)) (frS_rf (by omega))
  · rw [if_neg q, r283_4]
    refine (c224 (j := 5) (by omega)).mpr ?_
    rw [push_i, r283_9 (by omega), if_pos (by omega), r283_16, r283_17 (by simp)]
    exact hK0 (by omega) _ (IR_rf h) (frS_rf (by omega))
theorem s181 (h : IR M b n a F μ B N rf sd A P R sp sh pi fe) {x1 x2 x3 x4 x5 : Int} (hK0 : 1600 < N + 20 → ∀ M', IR M' b n a F μ B N (pm_up rf 0 (rf 0 + 1)) sd A P R sp sh pi fe → frS M M' → K (vI (-1)) (GF X, M', PTF v)) (hK1 : N + 20 ≤ 1600 → ∀ M', IR M' b n a F μ (put5 B N x1 x2 x3 x4 x5) (N + 20) rf sd A P R sp sh pi fe → frS M M' → K (vI ((N + 20 : Nat) : Int)) (GF X, M', PTF v)) : pm_Call (d + 2) 181 [vA 234, vI x1, vI x2, vI x3, vI x4, vI x5] (GF X, M, PTF v) K :=
  c181 h.2.2.1 (fun q => hK0 q _ (IR_rf h) (frS_rf (by omega))) (fun q M1 t1 f1 g1 => hK1 q M1 (IR_tp h f1 g1 t1) (fun q hq => f1 q (by omega) (by omega)))
theorem s182 (h : IR M b n a F μ B N rf sd A P R sp sh pi fe) {x : Int} (hx : inR x) (hK0 : ¬ (0 ≤ x ∧ x ≤ (N : Int)) → ∀ M', IR M' b n a F μ B N (pm_up rf 0 (rf 0 + 1)) sd A P R sp sh pi fe → frS M M' → K (vI 0) (GF X, M', PTF v)) (hK1 : 0 ≤ x ∧ x ≤ (N : Int) → ∀ M', IR M' b n a F μ B x.toNat rf sd A P R sp sh pi fe → frS M M' → K (vI 1) (GF X, M', PTF v)) : pm_Call (d + 2) 182 [vA 234, vI x] (GF X, M, PTF v) K :=
  c182 h.2.2.1 hx (fun q => hK0 q _ (IR_rf h) (frS_rf (by omega))) (fun q t1 => hK1 q _ (IR_tp h (fun q z1 z2 => sa_n z1) (fun j z => by rw [sa_s, up_n z]) t1) (frS_rf (by omega)))
theorem s223 (h : IR M b n a F μ B N rf sd A P R sp sh pi fe) {x : Int} (hx : inR x) : pm_Call (d + 1) 223 [vA 234, vI x] (GF X, M, PTF v) K ↔ K (vI (if x = 0 then fe.1 else if x = 1 then fe.2 else -1)) (GF X, M, PTF v) := by
  obtain ⟨e3, e4⟩ := h.2.2.2.2.2.2.2.2.1
  rw [en223, r223_0 hx]
  by_cases q : x = 0
  · rw [if_neg (by simpa using q), r223_4, r223_24, e3, if_pos q]
  · rw [if_pos q, r223_11 hx, if_neg q]
    by_cases q1 : x = 1
    · rw [if_neg (by simpa using q1), r223_16, r223_24, e4, if_pos q1]
    · rw [if_pos q1, r223_23, r223_24, if_neg q1]
end RFe
