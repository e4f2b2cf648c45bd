/-! The reference: the rest; hours ahead looked at. -/
section RFj
variable {d b w : Nat} {X : Nat × (Nat → Int)} {v : Nat → Int} {M M' M2 : PH} {K : PV → PS → Prop} {n : Nat → Nat} {a μ ν : PH} {F : Nat → List Int}
theorem wM_rnd (hw : wM n ν) : ∀ k, k ≤ n 2 → wM n (rnd n a F ν k).1
  | 0, _ => hw
  | k + 1, hk => wM_tks (wM_rnd hw k (by omega)) (by omega)
theorem c291 (hS : RS M b n a F) (hM : RM M n 0 μ) (hw : wM n μ) {x : Int} (hx : inR x) (hK : ∀ M', fq M M' → K (vI (qRst n a F μ x)) (GF X, M', PTF v)) : pm_Call (d + 9) 291 [vA 234, vI x] (GF X, M, PTF v) K := by
  have hwC := hS.2.2
  have hn := hwC.1
  have bad : qRst n a F μ x = -1 → pm_Run (d + 8) 291 38 [vA 234, vI x, PU, PU, PU] [] (GF X, M, PTF v) K := by
    intro q
    rw [r291_38]
    have := hK M fq_r
    rw [q] at this; exact this
  have good : 0 < n 0 → (x = -1 ∨ (0 ≤ x ∧ isIx (n 2) (x.tdiv 10) = true ∧ isIx (n 1) (x.tmod 10) = true)) → pm_Run (d + 8) 291 40 [vA 234, vI x, PU, PU, PU] [] (GF X, M, PTF v) K := by
    intro q0 q1
    have fin : ∀ (Mx : PH) (l2 l3 : Int) (l4 : PV) (R : Int) (ν : PH), fq M Mx → RM Mx n 1 ν → rst n a F 12 1 μ = (R, ν) → (l3 = 0 ∨ l3 = 1) → (l3 = 0 → l2 = R) → (l3 = 1 → R = 13) → pm_Run (d + 8) 291 110 [vA 234, vI x, vI l2, vI l3, l4] [] (GF X, Mx, PTF v) K := by
      intro Mx l2 l3 l4 R ν fx rx er h3 h4 h5
      have kk := hK Mx fx
      rw [qRst, if_pos ⟨q0, by omega⟩, er] at kk
      rw [r291_110 hx]
      by_cases z : x = -1
      · rw [if_pos z] at kk
        rw [if_neg (by simpa using z), r291_115 (by omega)]
        rcases h3 with h3 | h3
        · rw [if_pos h3, r291_124, r291_147, h4 h3]; exact kk
        · rw [if_neg (by omega), r291_119, r291_147]
          rw [h5 h3] at kk; exact kk
      · obtain ⟨g0, g1, g2⟩ := q1.resolve_left z
        rw [if_neg z, if_pos ⟨g1, g2⟩] at kk
        obtain ⟨i, ei, hi⟩ := ixN g1
        obtain ⟨m, em, hm⟩ := ixN g2
        rw [ei, em, Int.toNat_natCast, Int.toNat_natCast] at kk
        rw [if_pos z, r291_128 hx (by rw [ei, em]; omega) (by rw [ei, em]; omega), r291_147, ei, em, show (24 + 3 * (i : Int) + (m : Int)).toNat = 24 * 1 + 3 * i + m by omega, (rx.2.2.2.2 i m hi hm).1]; exact kk
    have main : ∀ k r : Nat, r + k = 13 → 1 ≤ r → ∀ (Mx : PH) (l4 : PV) (ν : PH), fq M Mx → RM Mx n 1 ν → wM n ν → rst n a F 12 1 μ = rst n a F k r ν → pm_Run (d + 8) 291 50 [vA 234, vI x, vI ((r : Int) - 1), vI 1, l4] [] (GF X, Mx, PTF v) K := by
      intro k
      induction k with
      | zero =>
        intro r hr r1 Mx l4 ν fx rx wx he
        rw [r291_50 (by omega), if_neg (by omega), r291_54 (by omega), if_pos (by omega)]
        exact fin Mx _ 1 l4 13 ν fx rx he (Or.inr rfl) (fun z => by omega) (fun _ => rfl)
      | succ k ih =>
        intro r hr r1 Mx l4 ν fx rx wx he
        have hl : ∀ k2 j, j + k2 = n 2 → ∀ My, fq M My → RM My n 1 (rnd n a F ν j).1 → pm_Run (d + 8) 291 68 [vA 234, vI x, vI (r : Int), vI (if (rnd n a F ν j).2 = true then 1 else 0), vI (j : Int)] [] (GF X, My, PTF v) K := by
          intro k2
          induction k2 with
          | zero =>
            intro j hj My fy ry
            have hSy := RS_q fy hS
            obtain ⟨⟨hb, e13⟩, ⟨-, -, e2, -⟩, -⟩ := id hSy.1
            have en : My 241 (My 234 13).toNat = (n 2 : Int) := by rw [e13, Int.toNat_natCast, e2]
            rw [r291_68 (by omega) (by omega) (by omega) (by rw [en]; omega), en, if_pos (by omega), r291_107]
            rw [show j = n 2 by omega] at ry ⊢
            by_cases q : (rnd n a F ν (n 2)).2 = true
            · rw [show rst n a F (k + 1) r ν = rst n a F k (r + 1) (rnd n a F ν (n 2)).1 by rw [rst, if_pos q]] at he
              rw [if_pos q]
              have := ih (r + 1) (by omega) (by omega) My (vI (n 2 : Int)) (rnd n a F ν (n 2)).1 fy ry (wM_rnd wx _ (Nat.le_refl _)) he
              rw [show ((r + 1 : Nat) : Int) - 1 = (r : Int) by omega] at this; exact this
            · rw [show rst n a F (k + 1) r ν = ((r : Int), (rnd n a F ν (n 2)).1) by rw [rst, if_neg q]] at he
              rw [if_neg q, r291_50 (by omega), if_pos rfl]
              exact fin My _ 0 _ _ _ fy ry he (Or.inl rfl) (fun _ => rfl) (fun z => by omega)
          | succ k2 ih2 =>
            intro j hj My fy ry
            have hSy := RS_q fy hS
            obtain ⟨⟨hb, e13⟩, ⟨-, -, e2, -⟩, -⟩ := id hSy.1
            have en : My 241 (My 234 13).toNat = (n 2 : Int) := by rw [e13, Int.toNat_natCast, e2]
            rw [r291_68 (by omega) (by omega) (by omega) (by rw [en]; omega), en, if_neg (by omega), r291_82]
            refine c290 hSy ry (wM_rnd wx j (by omega)) (by omega) (fun Mz fz rz => ?_)
            have nx := ih2 (j + 1) (by omega) Mz (fq_t fy fz) rz
            rw [show (rnd n a F ν (j + 1)).2 = ((rnd n a F ν j).2 || mvs n a F (rnd n a F ν j).1 j) from rfl] at nx
            rw [push_i, r291_88 i01]
            by_cases q : mvs n a F (rnd n a F ν j).1 j = true
            · rw [if_pos q, if_pos (by omega), r291_95, r291_100]
              rw [q, Bool.or_true, if_pos rfl] at nx; exact nx
            · rw [if_neg q, if_neg (by simp), r291_91 i01]
              have q' : mvs n a F (rnd n a F ν j).1 j = false := by simpa using q
              rw [q', Bool.or_false] at nx
              by_cases q2 : (rnd n a F ν j).2 = true
              · rw [if_pos q2] at nx
                rw [if_pos q2, if_neg (by omega), r291_95, r291_100]; exact nx
              · rw [if_neg q2] at nx
                rw [if_neg q2, if_pos rfl, r291_99, r291_100]; exact nx
        rw [r291_50 (by omega), if_neg (by omega), r291_54 (by omega), if_neg (by omega), r291_60, show (r : Int) - 1 + 1 = (r : Int) by omega]
        exact hl (n 2) 0 (by omega) Mx fx rx
    rw [r291_40]
    refine (c232 (t := 1) (s := 0) (by omega) (by omega) (by omega)).mpr ?_
    rw [push_u, r291_46]
    exact main 12 1 (by omega) (by omega) _ PU μ (fw_q lcp_w) (lcp_R (by omega) (by omega) (by omega) hM) hw rfl
  by_cases q0 : 0 < n 0
  · by_cases z : x = -1
    · rw [en291, r291_0, c226t hS q0, push_i, r291_4 (by omega), if_neg (by omega), r291_7 hx, if_pos z]
      exact good q0 (Or.inl z)
    · by_cases z2 : x < 0
      · rw [en291, r291_0, c226t hS q0, push_i, r291_4 (by omega), if_neg (by omega), r291_7 hx, if_neg z, r291_12 hx, if_pos z2]
        exact bad (by rw [qRst, if_neg (fun h => by have := h.2; omega)])
      · have eq : qRst n a F μ x = if isIx (n 2) (x.tdiv 10) = true ∧ isIx (n 1) (x.tmod 10) = true then (rst n a F 12 1 μ).2 4 ((x.tdiv 10).toNat * 3 + (x.tmod 10).toNat) else -1 := by rw [qRst, if_pos ⟨q0, by omega⟩, if_neg z]
        have td : inR (x.tdiv 10) := by rw [Int.tdiv_eq_ediv_of_nonneg (by omega)]; omega
        have tm : inR (x.tmod 10) := by rw [Int.tmod_eq_emod_of_nonneg (by omega)]; omega
        by_cases g1 : isIx (n 2) (x.tdiv 10) = true
        · by_cases g2 : isIx (n 1) (x.tmod 10) = true
          · rw [en291, r291_0, c226t hS q0, push_i, r291_4 (by omega), if_neg (by omega), r291_7 hx, if_neg z, r291_12 hx, if_neg z2, r291_16 hx, c229t hS td g1, push_i, r291_24 (by omega), if_neg (by omega), r291_27 hx, c228t hS tm g2, push_i, r291_35 (by omega), if_pos (by omega)]
            exact good q0 (Or.inr ⟨by omega, g1, g2⟩)
          · rw [en291, r291_0, c226t hS q0, push_i, r291_4 (by omega), if_neg (by omega), r291_7 hx, if_neg z, r291_12 hx, if_neg z2, r291_16 hx, c229t hS td g1, push_i, r291_24 (by omega), if_neg (by omega), r291_27 hx, c228f hS tm g2, push_i, r291_35 (by omega), if_neg (by simp)]
            exact bad (by rw [eq, if_neg (fun h => g2 h.2)])
        · rw [en291, r291_0, c226t hS q0, push_i, r291_4 (by omega), if_neg (by omega), r291_7 hx, if_neg z, r291_12 hx, if_neg z2, r291_16 hx, c229f hS td g1, push_i, r291_24 (by omega), if_pos (by omega)]
          exact bad (by rw [eq, if_neg (fun h => g1 h.1)])
  · rw [en291, r291_0, c226f hS q0, push_i, r291_4 (by omega), if_pos (by omega)]
    exact bad (by rw [qRst, if_neg (fun h => q0 h.1)])
theorem c292 (hS : RS M b n a F) (hM : RM M n 0 μ) (hw : wM n μ) (h0 : 0 < n 0) (hK : ∀ M', fq M M' → (∀ t p, t ≤ lst μ → p < n 0 → M' 279 (24 * t + p) = hts n F (ahd n a F μ t) p) → K PU (GF X, M', PTF v)) : pm_Call (d + 8) 292 [vA 234] (GF X, M, PTF v) K := by
  have hwC := hS.2.2
  have hn := hwC.1
  have hl := lst_i hw
  have main : ∀ k j, j + k = lst μ + 1 → ∀ (Mx : PH) (l2 : PV), fq M Mx → (j ≤ lst μ → RM Mx n 1 (ahd n a F μ j)) → (∀ t p, t < j → p < n 0 → Mx 279 (24 * t + p) = hts n F (ahd n a F μ t) p) → pm_Run (d + 7) 292 8 [vA 234, vI (j : Int), l2] [] (GF X, Mx, PTF v) K := by
    intro k
    induction k with
    | zero =>
      intro j hj Mx l2 fx rx hx
      have h270 : Mx 270 0 = μ 0 0 := (fx.2.2.1 0 (by omega)).trans hM.2.1
      rw [r292_8, c258 h270 hw, push_i, r292_13 (by omega) (by omega), if_pos (by omega), r292_70]
      exact hK Mx fx (fun t p ht hp => hx t p (by omega) hp)
    | succ k ih =>
      intro j hj Mx l2 fx rx hx
      have h270 : Mx 270 0 = μ 0 0 := (fx.2.2.1 0 (by omega)).trans hM.2.1
      have hSx := RS_q fx hS
      have rx := rx (by omega)
      have hwj := wM_ahd (a := a) (F := F) hw hwC j
      rw [r292_8, c258 h270 hw, push_i, r292_13 (by omega) (by omega), if_neg (by omega), r292_16]
      refine c255 (w := 1) hSx rx (wN_i hwj) h0 (fun My fy hy => ?_)
      have f2 := fq_t fx (fw_q (fh_w fy))
      have e9 : My 279 = Mx 279 := fy.1 279 (by omega) (by omega) (by omega)
      have ry := RM_h fy rx
      have inner : ∀ k2 p, p + k2 = n 0 → ∀ Mz, (∀ q, q ≠ 279 → Mz q = My q) → (∀ i, i < 24 * j ∨ 24 * j + n 0 ≤ i → Mz 279 i = My 279 i) → (∀ p', p' < p → Mz 279 (24 * j + p') = hts n F (ahd n a F μ j) p') → pm_Run (d + 7) 292 23 [vA 234, vI (j : Int), vI (p : Int)] [] (GF X, Mz, PTF v) K := by
        intro k2
        induction k2 with
        | zero =>
          intro p hp Mz fz gz hz
          have f3 : fq M Mz := fq_t f2 (fq_8 (fun q _ z => fz q z))
          have hSz := RS_q f3 hS
          obtain ⟨⟨hb, e13⟩, ⟨e0, -⟩, -⟩ := id hSz.1
          have en : Mz 236 (Mz 234 13).toNat = (n 0 : Int) := by rw [e13, Int.toNat_natCast, e0]
          have rz : RM Mz n 1 (ahd n a F μ j) := RM_f (fun q z1 z2 => fz q (by omega)) ry
          rw [r292_23 (by omega) (by omega) (by omega) (by rw [en]; omega), en, if_pos (by omega), r292_59]
          refine c257 (w := 1) hSz rz hwj h0 (fun Mu fu ru _ => ?_)
          rw [push_u, r292_64]
          refine ih (j + 1) (by omega) Mu _ (fq_t f3 (fw_q fu)) (fun z => ru (by rw [ahd_0 hw]; omega)) (fun t p' ht hp' => ?_)
          rw [fu.1 279 (by omega) (by omega)]
          by_cases q : t = j
          · subst q; exact hz p' (by omega)
          · rw [gz _ (by omega), e9]; exact hx t p' (by omega) hp'
        | succ k2 ih2 =>
          intro p hp Mz fz gz hz
          have f3 : fq M Mz := fq_t f2 (fq_8 (fun q _ z => fz q z))
          have hSz := RS_q f3 hS
          obtain ⟨⟨hb, e13⟩, ⟨e0, -⟩, -⟩ := id hSz.1
          have en : Mz 236 (Mz 234 13).toNat = (n 0 : Int) := by rw [e13, Int.toNat_natCast, e0]
          have ix : (24 * (j : Int) + (p : Int)).toNat = 24 * j + p := by omega
          rw [r292_23 (by omega) (by omega) (by omega) (by rw [en]; omega), en, if_neg (by omega), r292_36 (by omega) (by omega) (by omega) (by omega), r292_53, ix, Int.toNat_natCast, fz 277 (by omega), hy p (by omega)]
          refine ih2 (p + 1) (by omega) _ (fun q z => by rw [sa_n z]; exact fz q z) (fun i hi => by rw [sa_s, up_n (by omega)]; exact gz i hi) (fun p' hp' => ?_)
          rw [sa_s]
          by_cases q : p' = p
          · subst q; rw [up_s]
          · rw [up_n (by omega)]; exact hz p' (by omega)
      rw [push_u, r292_21]
      exact inner (n 0) 0 (by omega) My (fun _ _ => rfl) (fun _ _ => rfl) (fun p' hp' => by omega)
  rw [en292, r292_0]
  refine (c232 (t := 1) (s := 0) (by omega) (by omega) (by omega)).mpr ?_
  rw [push_u, r292_6]
  exact main (lst μ + 1) 0 (by omega) _ PU (fw_q lcp_w) (fun _ => lcp_R (by omega) (by omega) (by omega) hM) (fun t p ht => by omega)
end RFj
