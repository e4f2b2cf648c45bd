/-! The reference: an image comes on. -/
theorem hat_s {n : Nat → Nat} {h : Nat} : hat n (h + 1) = hat n h + (2 + 3 * n 1) := by unfold hat; rw [Nat.mul_succ]; omega
theorem hat_m {n : Nat → Nat} {h : Nat} : ∀ {k : Nat}, h ≤ k → hat n h ≤ hat n k
  | 0, hk => by rw [show h = 0 by omega]; exact Nat.le_refl _
  | k + 1, hk => by
    by_cases q : h = k + 1
    · rw [q]; exact Nat.le_refl _
    · have := hat_m (n := n) (h := h) (k := k) (by omega); rw [hat_s]; omega
theorem hat_i {n : Nat → Nat} {h : Nat} : (2 + 2 * (n 1 : Int)) + (2 + 3 * (n 1 : Int)) * (h : Int) = (hat n h : Int) := by
  unfold hat
  simp only [Int.natCast_add, Int.natCast_mul]
  rfl
theorem hat_b {n : Nat → Nat} {h : Nat} (h1 : n 1 ≤ 3) (h2 : h ≤ 8) : hat n h ≤ 96 := by
  have : (2 + 3 * n 1) * h ≤ 11 * 8 := Nat.mul_le_mul (by omega) h2
  unfold hat; omega
/-- what of an image is told in the layer that is tried -/
def DC (M : PH) (n : Nat → Nat) (B : Nat → Int) (j p h m : Nat) : Prop := M 270 1 = two B 0 ∧ (∀ o, o < j → M 271 (3 * 1 + o) = B (2 + 2 * o) ∧ M 272 (3 * 1 + o) = B (3 + 2 * o)) ∧ (∀ i, i < p → M 273 (8 * 1 + i) = two B (hat n i)) ∧ ∀ i o, (i < h ∨ (i = h ∧ o < m)) → o < n 1 → M 274 (24 * 1 + 3 * i + o) = B (bat n i o) ∧ M 275 (24 * 1 + 3 * i + o) = two B (bat n i o + 1)
section RFp
variable {d b w : Nat} {X : Nat × (Nat → Int)} {v : Nat → Int} {M M' M2 : PH} {K : PV → PS → Prop} {n : Nat → Nat} {a μ ν : PH} {F : Nat → List Int} {B : Nat → Int} {N : Nat} {rf : Nat → Int} {sd : Int} {A : Nat} {P : Nat → PH} {R R' : Nat} {sp sh sp' sh' : Nat → Int} {pi pi' p : PB2} {fe : Int × Int}
theorem c304 (hB : BB B) {i : Nat} (hi : i + 1 < 1600) (e1 : M 235 i = B i) (e2 : M 235 (i + 1) = B (i + 1)) : pm_Call (d + 1) 304 [vA 234, vI (i : Int)] (GF X, M, PTF v) K ↔ K (vI (two B i)) (GF X, M, PTF v) := by
  rw [en304, r304_0 (by omega) (by omega) (by omega) (by omega), Int.toNat_natCast, show ((i : Int) + 1).toNat = i + 1 by omega, e1, e2, b8_2 (hB i (by omega)) (hB (i + 1) (by omega))]; exact Iff.rfl
theorem twb (hB : BB B) {i : Nat} (hi : i + 1 < 1600) : 0 ≤ two B i ∧ two B i ≤ 65535 := by
  have h1 := hB i (by omega)
  have h2 := hB (i + 1) (by omega)
  unfold two; omega
theorem c305 (hS : RS M b n a F) (hM : RM M n 0 μ) (hB : BB B) (hN : N ≤ 1600) (hT : ∀ k, k < N → M 235 k = B k) (hK0 : ¬ (0 < n 0 ∧ onOk n B N) → ∀ M', fw 1 M M' → K (vI 0) (GF X, M', PTF v)) (hK1 : 0 < n 0 ∧ onOk n B N → ∀ M', fw 1 M M' → RM M' n 1 (dcd n B) → K (vI 1) (GF X, M', PTF v)) : pm_Call (d + 2) 305 [vA 234, vI (N : Int)] (GF X, M, PTF v) K := by
  have hn := hS.2.2.1
  obtain ⟨⟨hb, e13⟩, ⟨-, e1, e2, -⟩, -⟩ := id hS.1
  have en1 : M 237 (M 234 13).toNat = (n 1 : Int) := by rw [e13, Int.toNat_natCast, e1]
  have en2 : M 241 (M 234 13).toNat = (n 2 : Int) := by rw [e13, Int.toNat_natCast, e2]
  have hhb := hat_b (n := n) (h := n 2) (by omega) (by omega)
  rw [en305, r305_0 (by omega) (by omega), en1]
  by_cases q0 : 0 < n 0
  · rw [c226t hS q0, push_i, r305_32 (by omega), if_neg (by omega), r305_35 (by omega) (by omega) (by omega) (by rw [en2, hat_i]; omega), en2, hat_i]
    by_cases q1 : N = hat n (n 2) + 1
    · have t0 := twb hB (i := 0) (by omega)
      have h2l : 2 ≤ hat n (n 2) := by unfold hat; omega
      rw [if_neg (by simp; omega), r305_54]
      refine (c304 (i := 0) hB (by omega) (hT 0 (by omega)) (hT 1 (by omega))).mpr ?_
      rw [push_i, r305_59 (by omega)]
      by_cases q2 : two B 0 ≤ 9999
      · rw [if_pos q2, r305_67]
        refine (loopN (fun j => pm_Run (d + 1) 305 74 [vA 234, vI (N : Int), vI (2 + 2 * (n 1 : Int)), vI (2 + 3 * (n 1 : Int)), vI (chk B j), vI (j : Int), PU, PU, PU] [] (GF X, M, PTF v) K) (N - 1) (fun j hj => ?_)).mpr ?_
        · have cb := chk_b (f := B) (k := j) (fun i hi => hB i (by omega))
          have bj := hB j (by omega)
          rw [r305_74 (by omega) (by omega), if_neg (by omega), r305_82 (by omega) (by omega) (by rw [Int.toNat_natCast, hT j (by omega)]; omega), Int.toNat_natCast, hT j (by omega)]; exact Iff.rfl
        · have cb := chk_b (f := B) (k := N - 1) (fun i hi => hB i (by omega))
          have bj := hB (N - 1) (by omega)
          have ix : ((N : Int) - 1).toNat = N - 1 := by omega
          rw [r305_74 (by omega) (by omega), if_pos (by omega), r305_106 (by omega) (by omega) (by rw [ix, hT _ (by omega)]; omega) (by omega), ix, hT _ (by omega)]
          by_cases q3 : B (N - 1) = chk B (N - 1)
          · rw [if_pos q3, r305_121]
            refine (c232 (t := 1) (s := 0) (by omega) (by omega) (by omega)).mpr ?_
            have fl := lcp_w (M := M) (t := 1) (s := 0)
            have tT : ∀ Mx, fw 1 M Mx → ∀ k, k < N → Mx 235 k = B k := fun Mx fx k hk => by rw [fx.1 235 (by omega) (by omega)]; exact hT k hk
            rw [push_u, r305_127]
            refine (c304 (i := 0) hB (by omega) (tT _ fl 0 (by omega)) (tT _ fl 1 (by omega))).mpr ?_
            rw [push_i, r305_137 (by omega) (by omega), r305_138]
            -- the harbors
            have lh : ∀ k h, h + k = n 2 → ∀ Mx l6 l7 l8, fw 1 M Mx → DC Mx n B (n 1) h h 0 → al (okM n B) (n 1) = true → al (okH n B) h = true → pm_Run (d + 1) 305 240 [vA 234, vI (N : Int), vI (2 + 2 * (n 1 : Int)), vI (2 + 3 * (n 1 : Int)), vI (chk B (N - 1)), vI (h : Int), l6, l7, l8] [] (GF X, Mx, PTF v) K := by
              intro k
              induction k with
              | zero =>
                intro h hh Mx l6 l7 l8 fx dx am ah
                obtain ⟨⟨-, e13x⟩, ⟨-, -, e2x, -⟩, -⟩ := (RS_w fx hS).1
                have enx : Mx 241 (Mx 234 13).toNat = (n 2 : Int) := by rw [e13x, Int.toNat_natCast, e2x]
                rw [r305_240 (by omega) (by omega) (by omega) (by rw [enx]; omega), enx, if_pos (by omega), r305_405]
                rw [show h = n 2 by omega] at dx ah
                refine hK1 ⟨q0, q1, q3, by rw [okB, decide_eq_true q2, am, ah]; rfl⟩ Mx fx ?_
                obtain ⟨d0, d1, d2, d3⟩ := dx
                refine ⟨by omega, d0, fun m hm => ?_, fun i hi => ?_, fun i m hi hm => ?_⟩
                · have := d1 m hm
                  show _ = (if m < n 1 then B (2 + 2 * m) else 0) ∧ _ = (if m < n 1 then B (3 + 2 * m) else 0)
                  rw [if_pos hm, if_pos hm]; exact this
                · show _ = (if i < n 2 then two B (hat n i) else 0)
                  rw [if_pos hi]; exact d2 i hi
                · have := d3 i m (Or.inl hi) hm
                  have c1 : i * 3 + m < 3 * n 2 ∧ (i * 3 + m) % 3 < n 1 := by omega
                  show _ = (if i * 3 + m < 3 * n 2 ∧ (i * 3 + m) % 3 < n 1 then B (bat n ((i * 3 + m) / 3) ((i * 3 + m) % 3)) else 0) ∧ _ = (if i * 3 + m < 3 * n 2 ∧ (i * 3 + m) % 3 < n 1 then two B (bat n ((i * 3 + m) / 3) ((i * 3 + m) % 3) + 1) else 0)
                  rw [if_pos c1, if_pos c1, show (i * 3 + m) / 3 = i by omega, show (i * 3 + m) % 3 = m by omega]; exact this
              | succ k ih =>
                intro h hh Mx l6 l7 l8 fx dx am ah
                obtain ⟨⟨-, e13x⟩, ⟨-, -, e2x, -⟩, -⟩ := (RS_w fx hS).1
                have enx : Mx 241 (Mx 234 13).toNat = (n 2 : Int) := by rw [e13x, Int.toNat_natCast, e2x]
                have hm1 := hat_m (n := n) (h := h + 1) (k := n 2) (by omega)
                rw [hat_s] at hm1
                have tb := twb hB (i := hat n h) (by omega)
                rw [r305_240 (by omega) (by omega) (by omega) (by rw [enx]; omega), enx, if_neg (by omega), r305_254, hat_i]
                refine (c304 (i := hat n h) hB (by omega) (tT _ fx _ (by omega)) (tT _ fx _ (by omega))).mpr ?_
                rw [push_i, r305_277 (by omega) (by omega), r305_278, show (8 + (h : Int)).toNat = 8 * 1 + h by omega]
                have f2 : fw 1 M (pm_sa Mx 273 (pm_up (Mx 273) (8 * 1 + h) (two B (hat n h)))) := fw_t fx (fw_3 (by omega))
                refine (c304 (i := hat n h) hB (by omega) (tT _ f2 _ (by omega)) (tT _ f2 _ (by omega))).mpr ?_
                rw [push_i, r305_284 (by omega)]
                by_cases q4 : two B (hat n h) ≤ 9999
                · rw [if_pos q4, r305_292]
                  have dx2 : DC (pm_sa Mx 273 (pm_up (Mx 273) (8 * 1 + h) (two B (hat n h)))) n B (n 1) (h + 1) h 0 := by
                    obtain ⟨d0, d1, d2, d3⟩ := dx
                    refine ⟨d0, d1, fun i hi => ?_, d3⟩
                    rw [sa_s]
                    by_cases q : i = h
                    · subst q; rw [up_s]
                    · rw [up_n (by omega)]; exact d2 i (by omega)
                  have lb : ∀ k2 m, m + k2 = n 1 → ∀ My l8, fw 1 M My → DC My n B (n 1) (h + 1) h m → al (okP n B h) m = true → pm_Run (d + 1) 305 295 [vA 234, vI (N : Int), vI (2 + 2 * (n 1 : Int)), vI (2 + 3 * (n 1 : Int)), vI (chk B (N - 1)), vI (h : Int), vI (hat n h : Int), vI (m : Int), l8] [] (GF X, My, PTF v) K := by
                    intro k2
                    induction k2 with
                    | zero =>
                      intro m hm My l8 fy dy ap
                      obtain ⟨⟨-, e13y⟩, ⟨-, e1y, -⟩, -⟩ := (RS_w fy hS).1
                      have eny : My 237 (My 234 13).toNat = (n 1 : Int) := by rw [e13y, Int.toNat_natCast, e1y]
                      rw [r305_295 (by omega) (by omega) (by omega) (by rw [eny]; omega), eny, if_pos (by omega), r305_399]
                      rw [show m = n 1 by omega] at dy ap
                      refine ih (h + 1) (by omega) My _ _ _ fy ?_ am (by rw [al, ah, okH, decide_eq_true q4, ap]; rfl)
                      obtain ⟨d0, d1, d2, d3⟩ := dy
                      exact ⟨d0, d1, d2, fun i o z ho => d3 i o (by omega) ho⟩
                    | succ k2 ih2 =>
                      intro m hm My l8 fy dy ap
                      obtain ⟨⟨-, e13y⟩, ⟨-, e1y, -⟩, -⟩ := (RS_w fy hS).1
                      have eny : My 237 (My 234 13).toNat = (n 1 : Int) := by rw [e13y, Int.toNat_natCast, e1y]
                      have eb : (hat n h : Int) + 2 + 3 * (m : Int) = (bat n h m : Int) := by unfold bat; omega
                      have ebl : bat n h m = hat n h + 2 + 3 * m := rfl
                      have tbb := twb hB (i := bat n h m + 1) (by omega)
                      have bbb := hB (bat n h m) (by omega)
                      have i1 : (24 + 3 * (h : Int) + (m : Int)).toNat = 24 * 1 + 3 * h + m := by omega
                      rw [r305_295 (by omega) (by omega) (by omega) (by rw [eny]; omega), eny, if_neg (by omega), r305_309 (by omega) (by omega) (by omega) (by omega), i1, eb, Int.toNat_natCast, tT _ fy _ (by omega), r305_342]
                      have f3 : fw 1 M (pm_sa My 274 (pm_up (My 274) (24 * 1 + 3 * h + m) (B (bat n h m)))) := fw_t fy (fw_4 (by omega) (by omega))
                      rw [show (bat n h m : Int) + 1 = ((bat n h m + 1 : Nat) : Int) by omega]
                      refine (c304 (i := bat n h m + 1) hB (by omega) (tT _ f3 _ (by omega)) (tT _ f3 _ (by omega))).mpr ?_
                      rw [push_i, r305_364 (by omega) (by omega), i1]
                      have f4 := fw_t f3 (fw_5 (w := 1) (h := h) (o := m) (x := two B (bat n h m + 1)) (by omega) (by omega))
                      rw [r305_365 (by omega) (by omega) (by rw [Int.toNat_natCast, tT _ f4 _ (by omega)]; omega), Int.toNat_natCast, tT _ f4 _ (by omega)]
                      have no : ¬ (decide (B (bat n h m) ≤ 20) && decide (two B (bat n h m + 1) ≤ 9999)) = true → ¬ (0 < n 0 ∧ onOk n B N) := fun z1 z2 => by
                        have z3 := z2.2.2.2
                        rw [okB, Bool.and_eq_true] at z3
                        have z4 := al_i z3.2 h (by omega)
                        rw [okH, Bool.and_eq_true] at z4
                        exact z1 (al_i z4.2 m (by omega))
                      by_cases q5 : 20 < B (bat n h m)
                      · rw [if_pos q5, r305_391]
                        exact hK0 (no (by simp; omega)) _ f4
                      · rw [if_neg q5, r305_377]
                        rw [show (bat n h m : Int) + 1 = ((bat n h m + 1 : Nat) : Int) by omega]
                        refine (c304 (i := bat n h m + 1) hB (by omega) (tT _ f4 _ (by omega)) (tT _ f4 _ (by omega))).mpr ?_
                        rw [push_i, r305_385 (by omega)]
                        by_cases q6 : two B (bat n h m + 1) ≤ 9999
                        · rw [if_pos q6, r305_393]
                          refine ih2 (m + 1) (by omega) _ _ f4 ?_ (by rw [al, ap, okP, decide_eq_true (by omega), decide_eq_true q6]; rfl)
                          obtain ⟨d0, d1, d2, d3⟩ := dy
                          refine ⟨d0, d1, d2, fun i o z ho => ?_⟩
                          rw [sa_n (a := 275) (b := 274) (by omega), sa_s, sa_s, sa_n (a := 274) (b := 275) (by omega)]
                          by_cases q : i = h ∧ o = m
                          · obtain ⟨rfl, rfl⟩ := q; rw [up_s, up_s]; exact ⟨rfl, rfl⟩
                          · rw [up_n (by omega), up_n (by omega)]; exact d3 i o (by omega) ho
                        · rw [if_neg q6, r305_391]
                          exact hK0 (no (by simp; omega)) _ f4
                  exact lb (n 1) 0 (by omega) _ _ f2 dx2 rfl
                · rw [if_neg q4, r305_290]
                  refine hK0 (fun z => ?_) _ f2
                  have z3 := z.2.2.2
                  rw [okB, Bool.and_eq_true] at z3
                  have z4 := al_i z3.2 h (by omega)
                  rw [okH, Bool.and_eq_true] at z4
                  have := z4.1
                  simp at this; omega
            -- the moons
            have lm : ∀ k j, j + k = n 1 → ∀ Mx, fw 1 M Mx → DC Mx n B j 0 0 0 → al (okM n B) j = true → pm_Run (d + 1) 305 141 [vA 234, vI (N : Int), vI (2 + 2 * (n 1 : Int)), vI (2 + 3 * (n 1 : Int)), vI (chk B (N - 1)), vI (j : Int), PU, PU, PU] [] (GF X, Mx, PTF v) K := by
              intro k
              induction k with
              | zero =>
                intro j hj Mx fx dx am
                obtain ⟨⟨-, e13x⟩, ⟨-, e1x, -⟩, -⟩ := (RS_w fx hS).1
                have enx : Mx 237 (Mx 234 13).toNat = (n 1 : Int) := by rw [e13x, Int.toNat_natCast, e1x]
                rw [r305_141 (by omega) (by omega) (by omega) (by rw [enx]; omega), enx, if_pos (by omega), r305_237]
                rw [show j = n 1 by omega] at dx am
                exact lh (n 2) 0 (by omega) Mx PU PU PU fx dx am rfl
              | succ k ih =>
                intro j hj Mx fx dx am
                obtain ⟨⟨-, e13x⟩, ⟨-, e1x, -⟩, -⟩ := (RS_w fx hS).1
                have enx : Mx 237 (Mx 234 13).toNat = (n 1 : Int) := by rw [e13x, Int.toNat_natCast, e1x]
                have hh0 : 2 + 2 * n 1 ≤ hat n (n 2) := by unfold hat; omega
                have i1 : (3 + (j : Int)).toNat = 3 * 1 + j := by omega
                have i2 : (2 + 2 * (j : Int)).toNat = 2 + 2 * j := by omega
                have i3 : (3 + 2 * (j : Int)).toNat = 3 + 2 * j := by omega
                have b2 := hB (2 + 2 * j) (by omega)
                have b3 := hB (3 + 2 * j) (by omega)
                have f1 : fw 1 M (pm_sa Mx 271 (pm_up (Mx 271) (3 * 1 + j) (B (2 + 2 * j)))) := fw_t fx (fw_1 (by omega))
                have f2 := fw_t f1 (fw_2 (w := 1) (o := j) (x := B (3 + 2 * j)) (by omega))
                rw [r305_141 (by omega) (by omega) (by omega) (by rw [enx]; omega), enx, if_neg (by omega), r305_155 (by omega) (by omega) (by omega) (by omega), i1, i2, tT _ fx _ (by omega), r305_175 (by omega) (by omega) (by omega) (by omega), i1, i3, tT _ f1 _ (by omega), r305_195 (by omega) (by omega), i2, tT _ f2 _ (by omega)]
                have hS2 := RS_w f2 hS
                have no : ¬ (decide (B (2 + 2 * j) ≤ (n 0 : Int) - 1) && decide (B (3 + 2 * j) ≤ 9)) = true → ¬ (0 < n 0 ∧ onOk n B N) := fun z1 z2 => by
                  have z3 := z2.2.2.2
                  rw [okB, Bool.and_eq_true, Bool.and_eq_true] at z3
                  exact z1 (al_i z3.1.2 j (by omega))
                by_cases q4 : B (2 + 2 * j) < (n 0 : Int)
                · rw [c227t hS2 (by omega) (isIx_i.mpr ⟨b2.1, q4⟩), push_i, r305_210 (by omega), if_neg (by omega), r305_213 (by omega) (by omega) (by rw [i3, tT _ f2 _ (by omega)]; omega), i3, tT _ f2 _ (by omega)]
                  by_cases q5 : B (3 + 2 * j) ≤ 9
                  · rw [if_pos q5, r305_231]
                    refine ih (j + 1) (by omega) _ f2 ?_ (by rw [al, am, okM, decide_eq_true (by omega), decide_eq_true q5]; rfl)
                    obtain ⟨d0, d1, d2, d3⟩ := dx
                    refine ⟨d0, fun o ho => ?_, d2, d3⟩
                    rw [sa_n (a := 272) (b := 271) (by omega), sa_s, sa_s, sa_n (a := 271) (b := 272) (by omega)]
                    by_cases q : o = j
                    · subst q; rw [up_s, up_s]; exact ⟨rfl, rfl⟩
                    · rw [up_n (by omega), up_n (by omega)]; exact d1 o (by omega)
                  · rw [if_neg q5, r305_229]
                    exact hK0 (no (by simp; omega)) _ f2
                · rw [c227f hS2 (by omega) (fun z => q4 (isIx_i.mp z).2), push_i, r305_210 (by omega), if_pos rfl, r305_229]
                  exact hK0 (no (by simp; omega)) _ f2
            refine lm (n 1) 0 (by omega) _ (fw_t fl fw_0) ⟨by rw [sa_s]; exact up_s, fun o ho => by omega, fun i hi => by omega, fun i o z _ => by omega⟩ rfl
          · rw [if_neg q3, r305_119]
            exact hK0 (fun z => q3 z.2.2.1) M fw_r
      · rw [if_neg q2, r305_65]
        refine hK0 (fun z => ?_) M fw_r
        have z3 := z.2.2.2
        rw [okB, Bool.and_eq_true, Bool.and_eq_true] at z3
        have := z3.1.1
        simp at this; omega
    · rw [if_pos (by omega), r305_65]
      exact hK0 (fun z => q1 z.2.1) M fw_r
  · rw [c226f hS q0, push_i, r305_32 (by omega), if_pos rfl, r305_65]
    exact hK0 (fun z => q0 z.1) M fw_r
theorem s306 (h : IR M b n a F μ B N rf sd A P R sp sh pi fe) (hB : BB B) (hK0 : ¬ (0 < n 0 ∧ onOk n B N) → ∀ M', IR M' b n a F μ B 0 (pm_up rf 5 (rf 5 + 1)) sd A P R sp sh pi fe → frS M M' → K (vI 0) (GF X, M', PTF v)) (hK1 : 0 < n 0 ∧ onOk n B N → ∀ M', IR M' b n a F (dcd n B) B 0 rf sd 0 P R sp sh pi fe → frS M M' → K (vI 1) (GF X, M', PTF v)) : pm_Call (d + 3) 306 [vA 234] (GF X, M, PTF v) K := by
  have hn := h.1.2.2.1
  obtain ⟨t1, t2, t3⟩ := h.2.2.1
  generalize hM1 : pm_sa M 234 (pm_up (M 234) 1 0) = M1
  have h1 : IR M1 b n a F μ B 0 rf sd A P R sp sh pi fe := by
    rw [← hM1]
    exact IR_tp h (fun q z1 z2 => sa_n z1) (fun j z => by rw [sa_s, up_n z]) ⟨fun k hk => by omega, by omega, by rw [sa_s, up_s]; rfl⟩
  have fS : frS M M1 := by rw [← hM1]; exact frS_rf (by omega)
  have e235 : ∀ k, k < N → M1 235 k = B k := fun k hk => by rw [← hM1, sa_n (by omega)]; exact t1 k hk
  rw [en306, r306_0, hM1, t3, r306_10]
  refine c305 h1.1 h1.2.1 hB t2 e235 (fun q M2 f2 => ?_) (fun q M2 f2 r2 => ?_)
  · rw [push_i, r306_15 (by omega), if_neg (by simp), r306_18]
    refine (c224 (j := 5) (by omega)).mpr ?_
    rw [push_i, r306_23 (by omega), if_pos (by omega), r306_30, r306_31 (by simp)]
    exact hK0 q _ (IR_rf (IR_q f2 h1)) (frS_t fS (frS_t (fw_S f2) (frS_rf (by omega))))
  · rw [push_i, r306_15 (by omega), if_pos (by omega), r306_32]
    refine (c232 (t := 0) (s := 1) (by omega) (by omega) (by omega)).mpr ?_
    have fl := lcp_w (M := M2) (t := 0) (s := 1)
    have h2 := IR_q f2 h1
    obtain ⟨x, x1, x2, x3, x4, x5⟩ := h2.2.2.2.2.2.1
    rw [push_u, r306_38, r306_43]
    refine hK1 q _ (IR_re h2 (fun q z1 z2 => ?_) (fun j z1 z2 z3 z4 => ?_) ?_ (RM_f (M := lcp M2 0 1) (fun q z1 z2 => sa_n (by omega)) (lcp_R (by omega) (by omega) (by omega) r2)) ⟨x, x1, by omega, ?_, ?_, fun k hk => by omega⟩) (frS_t fS (frS_t (fw_S f2) (frS_t (fw_S fl) (frS_rf (by omega)))))
    · rw [sa_n (by omega)]; exact fl.1 q (by omega) (by omega)
    · rw [sa_s, up_n z2]; exact fl.2.1 j z4
    · rw [sa_s, up_n (by omega)]; exact (fl.2.1 62 (by omega)).trans h2.2.2.2.2.1
    · rw [sa_s, up_n (by omega)]; exact (fl.2.1 60 (by omega)).trans x3
    · rw [sa_s, up_s]; rfl
end RFp
