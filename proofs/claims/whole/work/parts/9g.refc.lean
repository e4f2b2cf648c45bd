/-! The reference: who fails, the first break, harbors. -/
theorem sm_lt {f g : Nat → Int} : ∀ {k : Nat}, (∀ i, i < k → f i ≤ g i) → sm f k ≤ sm g k ∧ ((∃ i, i < k ∧ f i < g i) → sm f k < sm g k)
  | 0, _ => ⟨by simp [sm], fun ⟨i, h, _⟩ => by omega⟩
  | k + 1, h => by
    obtain ⟨h1, h2⟩ := sm_lt (k := k) (fun i hi => h i (by omega))
    have h3 := h k (by omega)
    refine ⟨by rw [sm, sm]; omega, fun ⟨i, hi, hl⟩ => ?_⟩
    rw [sm, sm]
    by_cases q : i = k
    · subst q; omega
    · have := h2 ⟨i, by omega, hl⟩; omega
def cnt (U : Nat) : Int := sm (fun i => if U.testBit i = true then 1 else 0) 8
theorem cnt_b {U : Nat} : 0 ≤ cnt U ∧ cnt U ≤ 8 := by
  have := sm_b (f := fun i => if U.testBit i = true then 1 else 0) (lo := 0) (hi := 1) (n := 8) (fun i _ => by
    show 0 ≤ (if U.testBit i = true then (1 : Int) else 0) ∧ (if U.testBit i = true then (1 : Int) else 0) ≤ 1
    split <;> omega)
  unfold cnt; omega
theorem cnt_l {U V : Nat} (hU : U < 256) (hV : V < 256) (h : ∀ i, U.testBit i = true → V.testBit i = true) (hn : V ≠ U) : cnt U < cnt V := by
  refine (sm_lt (fun i _ => ?_)).2 ?_
  · show (if U.testBit i = true then (1 : Int) else 0) ≤ (if V.testBit i = true then (1 : Int) else 0)
    by_cases q : U.testBit i = true
    · rw [if_pos q, if_pos (h i q)]; omega
    · rw [if_neg q]; split <;> omega
  · refine Classical.byContradiction fun hc => hn ?_
    apply Nat.eq_of_testBit_eq
    intro i
    by_cases q8 : i < 8
    · by_cases q : U.testBit i = true
      · rw [q, h i q]
      · by_cases q2 : V.testBit i = true
        · exact absurd ⟨i, q8, by show (if U.testBit i = true then (1 : Int) else 0) < (if V.testBit i = true then (1 : Int) else 0); rw [if_neg q, if_pos q2]; omega⟩ hc
        · have e1 : U.testBit i = false := by simpa using q
          have e2 : V.testBit i = false := by simpa using q2
          rw [e1, e2]
    · have hp : 256 ≤ 2 ^ i := Nat.le_trans (by decide) (Nat.pow_le_pow_right (n := 2) (by omega) (show 8 ≤ i by omega))
      rw [Nat.testBit_lt_two_pow (by omega), Nat.testBit_lt_two_pow (by omega)]
section RFc
variable {d b w : Nat} {X : Nat × (Nat → Int)} {v : Nat → Int} {M M' M2 : PH} {K : PV → PS → Prop} {n : Nat → Nat} {a μ : PH} {F : Nat → List Int} {A : Nat} {sd : Int}
theorem fl1_m {U : Nat} : ∀ {h i : Nat}, U.testBit i = true → (fl1 n a μ U h).testBit i = true
  | 0, _, z => z
  | h + 1, i, z => by
    have := fl1_m (h := h) z
    rw [fl1]
    split
    · rw [Nat.testBit_or, this, Bool.true_or]
    · exact this
theorem c266 (hS : RS M b n a F) (hM : RM M n 0 μ) (hw : wM n μ) : pm_Call (d + 2) 266 [vA 234] (GF X, M, PTF v) K ↔ K (vI (fls n a μ 9 : Nat)) (GF X, M, PTF v) := by
  have hwC := hS.2.2
  have hn := hwC.1
  obtain ⟨⟨hb, e13⟩, ⟨-, -, e2, -⟩, -⟩ := id hS.1
  have en : M 241 (M 234 13).toNat = (n 2 : Int) := by rw [e13, Int.toNat_natCast, e2]
  have hn8 : n 2 ≤ 8 := by omega
  have main : ∀ k r : Nat, r + k = 9 → (r : Int) ≤ cnt (fls n a μ r) → ∀ l3 l4 : PV, (pm_Run (d + 1) 266 4 [vA 234, vI (fls n a μ r : Nat), vI 1, l3, l4] [] (GF X, M, PTF v) K ↔ K (vI (fls n a μ 9 : Nat)) (GF X, M, PTF v)) := by
    intro k
    induction k with
    | zero =>
      intro r hr hc l3 l4
      have := cnt_b (U := fls n a μ r)
      omega
    | succ k ih =>
      intro r hr hc l3 l4
      have b1 := fls_b (a := a) (μ := μ) hn8 (k := r)
      have b2 := fls_b (a := a) (μ := μ) hn8 (k := r + 1)
      rw [r266_4 (by omega), if_neg (by omega), r266_8]
      refine (loopN (fun h => pm_Run (d + 1) 266 13 [vA 234, vI (fls n a μ r : Nat), vI 1, vI (fl1 n a μ (fls n a μ r) h : Nat), vI (h : Int)] [] (GF X, M, PTF v) K) (n 2) (fun h hh => ?_)).trans ?_
      · have b3 := fl1_b (a := a) (μ := μ) (n := n) b1 (h := h) (by omega)
        have t1 := owT_b hwC (h := h) (U := fls n a μ r)
        have t2 := owB_b hwC (h := h)
        have t3 := hw.2.2.2.1 h (by omega)
        have e6 := hM.2.2.2.1 h hh
        rw [show 8 * 0 + h = h by omega] at e6
        rw [r266_13 (by omega) (by omega) (by omega) (by rw [en]; omega), en, if_neg (by omega), r266_27 (by omega) (by omega), c265 hS.1 hwC (by omega) (by omega), push_i, r266_42, c264 hS.1 hwC (by omega), push_i, Int.toNat_natCast, e6, r266_49 (by omega) (by omega), fl1]
        by_cases q : μ 3 h + owT n a h (fls n a μ r) < owB n a h
        · rw [if_neg (by omega), r266_52, r266_60, shl1 (by omega), pm_orN (by omega) (by have := pw_lt (show h ≤ 24 by omega); omega), if_pos q]; exact Iff.rfl
        · rw [if_pos (by omega), r266_59, r266_60, show (0 : Int) = ((0 : Nat) : Int) from rfl, pm_orN (by omega) (by omega), Nat.or_zero, if_neg q]; exact Iff.rfl
      · have e : fl1 n a μ (fls n a μ r) (n 2) = fls n a μ (r + 1) := rfl
        rw [r266_13 (by omega) (by omega) (by omega) (by rw [en]; omega), en, if_pos (by omega), e, r266_68 (by omega) (by omega)]
        by_cases q : fls n a μ (r + 1) = fls n a μ r
        · rw [if_pos (by omega), r266_77, r266_78, r266_4 (by omega), if_pos rfl, r266_84, q, ← fls_f q (9 - r), show r + (9 - r) = 9 by omega]
        · have hcl := cnt_l b1 b2 (fun i z => fl1_m z) q
          rw [if_neg (by omega), r266_73, r266_78]
          exact ih (r + 1) (by omega) (by omega) _ _
  rw [en266, r266_0]
  exact main 9 0 (by omega) cnt_b.1 PU PU
theorem c267 (hS : RS M b n a F) (hM : RM M n 0 μ) (hw : wM n μ) {h : Nat} (hh : h < n 2) : pm_Call (d + 2) 267 [vA 234, vI (h : Int)] (GF X, M, PTF v) K ↔ K (vI (max 0 (owB n a h - μ 3 h - owT n a h 0))) (GF X, M, PTF v) := by
  have hwC := hS.2.2
  have hn := hwC.1
  have t1 := owT_b hwC (h := h) (U := 0)
  have t2 := owB_b hwC (h := h)
  have t3 := hw.2.2.2.1 h (by omega)
  have e6 := hM.2.2.2.1 h hh
  rw [show 8 * 0 + h = h by omega] at e6
  rw [en267, r267_0, c264 hS.1 hwC (by omega), push_i, r267_5 (by omega) (by omega), Int.toNat_natCast, e6]
  refine (c265 (U := 0) hS.1 hwC (by omega) (by omega)).trans ?_
  rw [push_i, r267_18 (by omega)]
  by_cases q : 0 ≤ owB n a h - μ 3 h - owT n a h 0
  · rw [if_pos q, r267_28, r267_29, Int.max_eq_right q]
  · rw [if_neg q, r267_24, r267_29, Int.max_eq_left (by omega)]
theorem c269 (hS : RS M b n a F) (hM : RM M n 0 μ) (hw : wM n μ) {x y : Int} (hx : inR x) (hy : inR y) (hK : ∀ M', fw 1 M M' → K (vI (qHarb n a F μ x y)) (GF X, M', PTF v)) : pm_Call (d + 7) 269 [vA 234, vI x, vI y] (GF X, M, PTF v) K := by
  have hwC := hS.2.2
  have hn := hwC.1
  have hR := hS.1
  by_cases q : isIx (n 2) x = true
  · rw [qHarb, if_pos q] at hK
    have k0 := hK M fw_r
    obtain ⟨h, rfl, hh⟩ := ixN q
    have ha := hwC.2.2.1 h hh
    rw [Int.toNat_natCast] at hK k0
    rw [en269, r269_0, c229t hS hx q, push_i, r269_5 (by omega), if_pos (by omega), r269_10 hy]
    by_cases q2 : 0 ≤ y ∧ y < 10
    · have hx' : y = 0 ∨ y = 1 ∨ y = 2 ∨ y = 3 ∨ y = 4 ∨ y = 5 ∨ y = 6 ∨ y = 7 ∨ y = 8 ∨ y = 9 := by omega
      rcases hx' with rfl | rfl | rfl | rfl | rfl | rfl | rfl | rfl | rfl | rfl
      · change pm_Run _ 269 64 _ _ _ _
        rw [r269_64, c230 hR hwC hh, push_i, r269_69]; exact k0
      · change pm_Run _ 269 70 _ _ _ _
        have e6 := hM.2.2.2.1 h hh
        rw [show 8 * 0 + h = h by omega] at e6
        rw [r269_70 (by omega) (by omega), Int.toNat_natCast, e6]; exact k0
      · change pm_Run _ 269 77 _ _ _ _
        rw [r269_77, c231 hR hwC hh, push_i, r269_82]; exact k0
      · change pm_Run _ 269 83 _ _ _ _
        rw [r269_83]
        refine (c239 (w := 0) hR hwC hM (wN_i hw) hh).mpr ?_
        rw [push_i, r269_89]; exact k0
      · change pm_Run _ 269 90 _ _ _ _
        rw [r269_90]
        refine (c240 (w := 0) hR hwC hM (wN_i hw) hh).mpr ?_
        rw [push_i, r269_96]; exact k0
      · change pm_Run _ 269 97 _ _ _ _
        rw [r269_97]
        refine c255 (w := 0) hS hM (wN_i hw) (by omega) (fun M1 f1 h1 => ?_)
        have k1 := hK M1 (fh_w f1)
        have e01 := str01 (n := n) (a := a) (F := F) (ν := μ) (h := h)
        rw [push_u, r269_102, c268 (RS_w (w := 1) (fh_w f1) hS) h1 hh, push_i, r269_107 (by omega)]
        have k2 : K (vI (strd n a F μ h)) (GF X, M1, PTF v) := k1
        rcases e01 with e | e
        · rw [e] at k2 ⊢; rw [if_pos rfl, r269_114, r269_115]; exact k2
        · rw [e] at k2 ⊢; rw [if_neg (by omega), r269_110, r269_115]; exact k2
      · change pm_Run _ 269 116 _ _ _ _
        rw [r269_116, c264 hR hwC (by omega), push_i, r269_121]; exact k0
      · change pm_Run _ 269 122 _ _ _ _
        rw [r269_122]
        refine (c265 (U := 0) hR hwC (by omega) (by omega)).mpr ?_
        rw [push_i, r269_128]; exact k0
      · change pm_Run _ 269 129 _ _ _ _
        have b1 := fls_b (n := n) (a := a) (μ := μ) (by omega) (k := 9)
        rw [r269_129, c266 hS hM hw, push_i, r269_133, bi_bit (by omega) (by omega)]; exact k0
      · change pm_Run _ 269 138 _ _ _ _
        rw [r269_138, c267 hS hM hw hh, push_i, r269_143]; exact k0
    · rw [tgN (by simp; omega), r269_144]
      rw [if_neg (by omega), if_neg (by omega), if_neg (by omega), if_neg (by omega), if_neg (by omega), if_neg (by omega), if_neg (by omega), if_neg (by omega), if_neg (by omega), if_neg (by omega)] at k0
      exact k0
  · rw [show qHarb n a F μ x y = -1 by rw [qHarb, if_neg q]] at hK
    rw [en269, r269_0, c229f hS hx q, push_i, r269_5 (by omega), if_neg (by simp), r269_8]
    exact hK M fw_r
theorem l274a (hS : RS M b n a F) {ν : PH} (hM : RM M n 1 ν) (hw : wM n ν) (hH : ∀ p, p < n 0 → M 277 p = hts n F ν p) {x t : Int} {h : Nat} (hh : h < n 2) (hK0 : brk n a F ν h = -1 → ∀ M' (l4 : Int), fk M M' → pm_Run (d + 5) 274 108 [vA 234, vI x, vI t, vI (h : Int), vI l4] [] (GF X, M', PTF v) K) (hK1 : ∀ c : Nat, brk n a F ν h = (c : Int) → ∀ M', fk M M' → pm_Run (d + 5) 274 82 [vA 234, vI x, vI t, vI (h : Int), vI (c : Int)] [] (GF X, M', PTF v) K) : pm_Run (d + 5) 274 57 [vA 234, vI x, vI t, vI (h : Int), vI 0] [] (GF X, M, PTF v) K := by
  have hn := hS.2.2.1
  have ha := hS.2.2.2.2.1 h hh
  have main : ∀ k j, j + k = n 4 → ∀ Mx, fk M Mx → brk n a F ν h = fi (fun i => decide (ev (envH a ν h (hts n F ν (a 2 h).toNat)) (F (2 + i)) = 0)) k j → pm_Run (d + 5) 274 57 [vA 234, vI x, vI t, vI (h : Int), vI (j : Int)] [] (GF X, Mx, PTF v) K := by
    intro k
    induction k with
    | zero =>
      intro j hj Mx fx he
      obtain ⟨⟨hb, e13⟩, ⟨-, -, -, -, e4, -⟩, -⟩ := (RS_w (w := 1) (fh_w (fk_h fx)) hS).1
      have en : Mx 250 (Mx 234 13).toNat = (n 4 : Int) := by rw [e13, Int.toNat_natCast, e4]
      rw [r274_57 (by omega) (by omega) (by omega) (by rw [en]; omega), en, if_pos (by omega)]
      exact hK0 he Mx _ fx
    | succ k ih =>
      intro j hj Mx fx he
      have hSx := RS_w (w := 1) (fh_w (fk_h fx)) hS
      obtain ⟨⟨hb, e13⟩, ⟨-, -, -, -, e4, -⟩, -⟩ := hSx.1
      have en : Mx 250 (Mx 234 13).toNat = (n 4 : Int) := by rw [e13, Int.toNat_natCast, e4]
      rw [r274_57 (by omega) (by omega) (by omega) (by rw [en]; omega), en, if_neg (by omega), r274_71]
      refine c254 (w := 1) hSx (RM_h (fk_h fx) hM) hw hh (by omega) (x := hts n F ν (a 2 h).toNat) (by rw [fx.1 277 (by omega) (by omega)]; exact hH _ (by omega)) (hts_b hS.2.2) (fun My fy => ?_)
      rw [fi] at he
      by_cases q : ev (envH a ν h (hts n F ν (a 2 h).toNat)) (F (2 + j)) = 0
      · rw [if_pos (by simpa using q)] at he
        rw [if_pos q, push_i, r274_79 (by omega), if_neg (by omega)]
        exact hK1 j he My (fk_t fx fy)
      · rw [if_neg (by simpa using q)] at he
        rw [if_neg q, push_i, r274_79 (by omega), if_pos rfl, r274_102]
        exact ih (j + 1) (by omega) My (fk_t fx fy) he
  exact main (n 4) 0 (by omega) M fk_r rfl
theorem l274b (hS : RS M b n a F) {ν : PH} (hM : RM M n 1 ν) (hw : wM n ν) (hH : ∀ p, p < n 0 → M 277 p = hts n F ν p) {x t : Int} {l4 : PV} (hK0 : brh n a F ν (n 2) = -1 → ∀ M' (l3 : Int) l4, fk M M' → pm_Run (d + 5) 274 114 [vA 234, vI x, vI t, vI l3, l4] [] (GF X, M', PTF v) K) (hK1 : ∀ h c : Nat, brh n a F ν (n 2) = (h : Int) → brk n a F ν h = (c : Int) → ∀ M', fk M M' → pm_Run (d + 5) 274 82 [vA 234, vI x, vI t, vI (h : Int), vI (c : Int)] [] (GF X, M', PTF v) K) : pm_Run (d + 5) 274 41 [vA 234, vI x, vI t, vI 0, l4] [] (GF X, M, PTF v) K := by
  have hn := hS.2.2.1
  have main : ∀ k j, j + k = n 2 → ∀ Mx l4, fk M Mx → brh n a F ν (n 2) = fi (fun h => decide (brk n a F ν h ≠ -1)) k j → pm_Run (d + 5) 274 41 [vA 234, vI x, vI t, vI (j : Int), l4] [] (GF X, Mx, PTF v) K := by
    intro k
    induction k with
    | zero =>
      intro j hj Mx l4 fx he
      obtain ⟨⟨hb, e13⟩, ⟨-, -, e2, -⟩, -⟩ := (RS_w (w := 1) (fh_w (fk_h fx)) hS).1
      have en : Mx 241 (Mx 234 13).toNat = (n 2 : Int) := by rw [e13, Int.toNat_natCast, e2]
      rw [r274_41 (by omega) (by omega) (by omega) (by rw [en]; omega), en, if_pos (by omega)]
      exact hK0 he Mx _ _ fx
    | succ k ih =>
      intro j hj Mx l4 fx he
      have hSx := RS_w (w := 1) (fh_w (fk_h fx)) hS
      obtain ⟨⟨hb, e13⟩, ⟨-, -, e2, -⟩, -⟩ := hSx.1
      have en : Mx 241 (Mx 234 13).toNat = (n 2 : Int) := by rw [e13, Int.toNat_natCast, e2]
      rw [r274_41 (by omega) (by omega) (by omega) (by rw [en]; omega), en, if_neg (by omega), r274_54]
      rw [fi] at he
      refine l274a hSx (RM_h (fk_h fx) hM) hw (fun p hp => by rw [fx.1 277 (by omega) (by omega)]; exact hH p hp) (by omega) (fun z My l4 fy => ?_) (fun c z My fy => ?_)
      · rw [if_neg (by simpa using z)] at he
        rw [r274_108]
        exact ih (j + 1) (by omega) My _ (fk_t fx fy) he
      · rw [if_pos (by rw [z]; simp <;> omega)] at he
        exact hK1 j c he z My (fk_t fx fy)
  exact main (n 2) 0 (by omega) M l4 fk_r rfl
theorem c274 (hS : RS M b n a F) (hM : RM M n 0 μ) (hw : wM n μ) {x : Int} (hx : inR x) (hK : ∀ M', fw 1 M M' → K (vI (qBrk n a F μ x)) (GF X, M', PTF v)) : pm_Call (d + 8) 274 [vA 234, vI x] (GF X, M, PTF v) K := by
  have hwC := hS.2.2
  have hn := hwC.1
  have hl := lst_i hw
  by_cases q : 0 ≤ x ∧ x ≤ 2
  · by_cases q0 : 0 < n 0
    · rw [en274, r274_0, c179t hx (by omega) (by omega) q, push_i, r274_6 (by omega), if_neg (by omega), r274_9, c226t hS q0, push_i, r274_13 (by omega), if_pos (by omega), r274_18]
      refine (c232 (t := 1) (s := 0) (by omega) (by omega) (by omega)).mpr ?_
      rw [push_u, r274_24]
      have main : ∀ k j, j + k = lst μ + 1 → ∀ Mx l3 l4, fw 1 M Mx → (j ≤ lst μ → RM Mx n 1 (ahd n a F μ j)) → bro n a F μ (lst μ + 1) = fi (fun t => decide (brh n a F (ahd n a F μ t) (n 2) ≠ -1)) k j → pm_Run (d + 7) 274 26 [vA 234, vI x, vI (j : Int), l3, l4] [] (GF X, Mx, PTF v) K := by
        intro k
        induction k with
        | zero =>
          intro j hj Mx l3 l4 fx rx he
          have h270 : Mx 270 0 = μ 0 0 := (fx.2.2.1 0 (by omega)).trans hM.2.1
          rw [r274_26, c258 h270 hw, push_i, r274_31 (by omega) (by omega), if_pos (by omega), r274_125]
          have k1 := hK Mx fx
          rw [qBrk, if_pos (by rw [he]; rfl)] at k1; exact k1
        | succ k ih =>
          intro j hj Mx l3 l4 fx rx he
          have h270 : Mx 270 0 = μ 0 0 := (fx.2.2.1 0 (by omega)).trans hM.2.1
          have hSx := RS_w fx hS
          have rx := rx (by omega)
          have hwj := wM_ahd (a := a) (F := F) hw hwC j
          rw [r274_26, c258 h270 hw, push_i, r274_31 (by omega) (by omega), if_neg (by omega), r274_34]
          refine c255 (w := 1) hSx rx (wN_i hwj) q0 (fun My fy hy => ?_)
          rw [push_u, r274_39]
          rw [fi] at he
          refine l274b (d := d + 2) (RS_w (w := 1) (fh_w fy) hSx) (RM_h fy rx) hwj hy (fun z Mz l3 l4 fz => ?_) (fun h c z1 z2 Mz fz => ?_)
          · rw [if_neg (by simpa using z)] at he
            have rz := RM_h (fk_h fz) (RM_h fy rx)
            rw [r274_114]
            refine c257 (w := 1) (RS_w (w := 1) (fh_w (fh_t fy (fk_h fz))) hSx) rz hwj q0 (fun Mu fu ru _ => ?_)
            rw [push_u, r274_119]
            exact ih (j + 1) (by omega) Mu _ _ (fw_t fx (fw_t (fh_w (fh_t fy (fk_h fz))) fu)) (fun z => ru (by rw [ahd_0 hw]; omega)) he
          · rw [if_pos (by rw [z1]; simp <;> omega)] at he
            have k1 := hK Mz (fw_t fx (fh_w (fh_t fy (fk_h fz))))
            rw [qBrk, if_neg (by rw [he]; omega), he, Int.toNat_natCast, z1, Int.toNat_natCast, z2] at k1
            rw [r274_82 hx]
            have x3 : x = 0 ∨ x = 1 ∨ x = 2 := by omega
            rcases x3 with rfl | rfl | rfl
            · rw [if_neg (by simp), r274_86, r274_101]; exact k1
            · rw [if_pos (by omega), r274_90 (by omega), if_neg (by simp), r274_95, r274_101]; exact k1
            · rw [if_pos (by omega), r274_90 (by omega), if_pos (by omega), r274_99, r274_101]; exact k1
      exact main (lst μ + 1) 0 (by omega) _ _ _ lcp_w (fun _ => lcp_R (by omega) (by omega) (by omega) hM) rfl
    · rw [en274, r274_0, c179t hx (by omega) (by omega) q, push_i, r274_6 (by omega), if_neg (by omega), r274_9, c226f hS q0, push_i, r274_13 (by omega), if_neg (by simp), r274_16]
      have k1 := hK M fw_r
      have n2 : n 2 = 0 := (hn.2.2.2.2.2.2.2 (by omega)).2
      have e : bro n a F μ (lst μ + 1) = -1 := fi_0 (fun j _ _ => by rw [brh, n2]; rfl)
      rw [qBrk, if_pos e] at k1; exact k1
  · rw [en274, r274_0, c179f hx (by omega) (by omega) q, push_i, r274_6 (by omega), if_pos (by omega), r274_16]
    have k1 := hK M fw_r
    have e : qBrk n a F μ x = -1 := by
      rw [qBrk]
      split
      · rfl
      · rw [if_neg (by omega), if_neg (by omega), if_neg (by omega)]
    rw [e] at k1; exact k1
end RFc
