/-! The reference: there, across, latest. -/
section RFl
variable {d b w : Nat} {X : Nat × (Nat → Int)} {v : Nat → Int} {M M' M2 : PH} {K : PV → PS → Prop} {n : Nat → Nat} {a μ ν : PH} {F : Nat → List Int}
theorem c293 (hS : RS M b n a F) (h270 : M 270 0 = μ 0 0) (hw : wM n μ) (h0 : 0 < n 0) (hH : ∀ t p, t ≤ lst μ → p < n 0 → M 279 (24 * t + p) = hts n F (ahd n a F μ t) p) {f to s : Nat} (hf : f < n 0) (hto : to < n 0) (hs : s ≤ lst μ) {D : Int} (hD : inR D) : pm_Call (d + 2) 293 [vA 234, vI (f : Int), vI (to : Int), vI D, vI (s : Int)] (GF X, M, PTF v) K ↔ K (vI (ther (n 0) (flo n a F μ D) f to (lst μ) s)) (GF X, M, PTF v) := by
  have hwC := hS.2.2
  have hn := hwC.1
  have hl := lst_i hw
  obtain ⟨⟨hb, e13⟩, ⟨e0, -⟩, -⟩ := id hS.1
  have en : M 236 (M 234 13).toNat = (n 0 : Int) := by rw [e13, Int.toNat_natCast, e0]
  generalize hg : (fun t => flo n a F μ D (s + t)) = g
  have main : ∀ k j, j + k = lst μ + 1 - s → ∀ (U : Nat) (l8 l9 l10 : PV), (0 < k → isB U (n 0) (rch (n 0) g f j)) → ther (n 0) (flo n a F μ D) f to (lst μ) s = fi (fun k => rch (n 0) g f (k - s) to) k (s + j) → (pm_Run (d + 1) 293 38 [vA 234, vI (f : Int), vI (to : Int), vI D, vI (s : Int), vI (U : Int), vI (n 0 : Int), vI ((s + j : Nat) : Int), l8, l9, l10] [] (GF X, M, PTF v) K ↔ K (vI (ther (n 0) (flo n a F μ D) f to (lst μ) s)) (GF X, M, PTF v)) := by
    intro k
    induction k with
    | zero =>
      intro j hj U l8 l9 l10 _ he
      rw [r293_38, c258 h270 hw, push_i, r293_44 (by omega) (by omega), if_pos (by omega), r293_188, he]; exact Iff.rfl
    | succ k ih =>
      intro j hj U l8 l9 l10 hU he
      have hU := hU (by omega)
      have ub := isB_lt hU (by omega)
      have bit : ∀ p, p < n 0 → pm_and (pm_shr (U : Int) ((p : Nat) : Int)) 1 = if rch (n 0) g f j p = true then 1 else 0 := fun p hp => by rw [bi_bit (by omega) (by omega), hU.2 p hp]
      rw [r293_38, c258 h270 hw, push_i, r293_44 (by omega) (by omega), if_neg (by omega), r293_47 bi_and, bit to hto]
      rw [fi, show s + j - s = j by omega] at he
      by_cases q : rch (n 0) g f j to = true
      · rw [if_pos q] at he
        rw [if_pos q, if_neg (by simp), r293_57, he]
      · rw [if_neg q] at he
        rw [if_neg q, if_pos (by omega), r293_60]
        by_cases qL : s + j = lst μ
        · rw [r293_66 (by omega) (by omega), if_neg (by omega), r293_73, c258 h270 hw, push_i, r293_79 (by omega) (by omega), if_pos (by omega), r293_178]
          have := ih (j + 1) (by omega) 0 (vI 0) (vI 0) l10 (fun z => by omega) he
          rw [show ((s + (j + 1) : Nat) : Int) = ((s + j : Nat) : Int) + 1 by omega] at this
          exact this
        · have inner : ∀ k2 p, p + k2 = n 0 → ∀ (V : Nat) (l10 : PV), isB V p (fun p => spr (n 0) (rch (n 0) g f j) p && g (j + 1) p) → (pm_Run (d + 1) 293 66 [vA 234, vI (f : Int), vI (to : Int), vI D, vI (s : Int), vI (U : Int), vI (n 0 : Int), vI ((s + j : Nat) : Int), vI (V : Int), vI (p : Int), l10] [] (GF X, M, PTF v) K ↔ K (vI (ther (n 0) (flo n a F μ D) f to (lst μ) s)) (GF X, M, PTF v)) := by
            intro k2
            induction k2 with
            | zero =>
              intro p hp V l10 hV
              rw [r293_66 (by omega) (by omega), if_pos (by omega), r293_178]
              rw [show p = n 0 by omega] at hV
              have := ih (j + 1) (by omega) V (vI (V : Int)) (vI (p : Int)) l10 (fun _ => hV) he
              rw [show ((s + (j + 1) : Nat) : Int) = ((s + j : Nat) : Int) + 1 by omega] at this
              exact this
            | succ k2 ih2 =>
              intro p hp V l10 hV
              have vb := isB_lt hV (by omega)
              have hp' : p < n 0 := by omega
              obtain ⟨ts1, ts2⟩ := tmS hp'
              have n1 : (if p + 1 = n 0 then 0 else p + 1) < n 0 := by split <;> omega
              have n2 : (if p = 0 then n 0 - 1 else p - 1) < n 0 := by split <;> omega
              have near : pm_Run (d + 1) 293 82 [vA 234, vI (f : Int), vI (to : Int), vI D, vI (s : Int), vI (U : Int), vI (n 0 : Int), vI ((s + j : Nat) : Int), vI (V : Int), vI (p : Int), l10] [] (GF X, M, PTF v) K ↔ pm_Run (d + 1) 293 133 [vA 234, vI (f : Int), vI (to : Int), vI D, vI (s : Int), vI (U : Int), vI (n 0 : Int), vI ((s + j : Nat) : Int), vI (V : Int), vI (p : Int), l10] [vI (if spr (n 0) (rch (n 0) g f j) p = true then 1 else 0)] (GF X, M, PTF v) K := by
                rw [r293_82 bi_and, bit p hp']
                by_cases z1 : rch (n 0) g f j p = true
                · have : spr (n 0) (rch (n 0) g f j) p = true := by unfold spr; rw [z1]; rfl
                  rw [if_pos z1, if_pos rfl, r293_128, if_pos this]
                · rw [if_neg z1, if_neg (by omega), r293_93 (by omega) (by omega) (by omega) bi_and, ts1, bit _ n1]
                  by_cases z2 : rch (n 0) g f j (if p + 1 = n 0 then 0 else p + 1) = true
                  · have : spr (n 0) (rch (n 0) g f j) p = true := by unfold spr; rw [z2]; simp
                    rw [if_pos z2, if_pos rfl, r293_128, if_pos this]
                  · rw [if_neg z2, if_neg (by omega), r293_109 (by omega) (by omega) (by omega) bi_and, ts2, bit _ n2]
                    by_cases z3 : rch (n 0) g f j (if p = 0 then n 0 - 1 else p - 1) = true
                    · have : spr (n 0) (rch (n 0) g f j) p = true := by unfold spr; rw [z3]; simp
                      rw [if_pos z3, if_neg (by simp), r293_128, if_pos this]
                    · have : ¬ spr (n 0) (rch (n 0) g f j) p = true := by
                        unfold spr
                        rw [Bool.or_eq_true, Bool.or_eq_true]
                        rintro (h | h | h)
                        · exact z1 h
                        · exact z2 h
                        · exact z3 h
                      rw [if_neg z3, if_pos (by omega), r293_132, if_neg this]
              rw [r293_66 (by omega) (by omega), if_neg (by omega), r293_73, c258 h270 hw, push_i, r293_79 (by omega) (by omega), if_neg (by omega), near, r293_133 i01]
              have no : (spr (n 0) (rch (n 0) g f j) p && g (j + 1) p) = false → ∀ l10 : Int, (pm_Run (d + 1) 293 168 [vA 234, vI (f : Int), vI (to : Int), vI D, vI (s : Int), vI (U : Int), vI (n 0 : Int), vI ((s + j : Nat) : Int), vI (V : Int), vI (p : Int), vI l10] [vI (V : Int)] (GF X, M, PTF v) K ↔ K (vI (ther (n 0) (flo n a F μ D) f to (lst μ) s)) (GF X, M, PTF v)) := by
                intro z l10
                rw [r293_168, r293_169, show (0 : Int) = ((0 : Nat) : Int) from rfl, pm_orN (by omega) (by omega), Nat.or_zero]
                exact ih2 (p + 1) (by omega) V _ (isB_n hV z)
              by_cases z : spr (n 0) (rch (n 0) g f j) p = true
              · have eH := hH (s + (j + 1)) p (by omega) hp'
                have hb2 := hts_b (μ := ahd n a F μ (s + (j + 1))) (p := p) hwC
                have ix : (24 * (((s + j : Nat) : Int) + 1) + (p : Int)).toNat = 24 * (s + (j + 1)) + p := by omega
                have eg : g (j + 1) p = decide (D ≤ hts n F (ahd n a F μ (s + (j + 1))) p) := by rw [← hg]; rfl
                rw [if_pos z, if_neg (by omega), r293_142 (by omega) (by omega) (by rw [ix, eH]; omega) hD, ix, eH]
                by_cases z2 : hts n F (ahd n a F μ (s + (j + 1))) p < D
                · rw [if_pos z2]
                  exact no (by rw [eg, decide_eq_false (by omega), Bool.and_false]) _
                · rw [if_neg z2, r293_161, r293_169, shl1 (by omega), pm_orN (by omega) (by have := pw_lt (show p ≤ 24 by omega); omega)]
                  exact ih2 (p + 1) (by omega) _ _ (isB_s hV (by rw [z, eg, decide_eq_true (by omega)]; rfl))
              · rw [if_neg z, if_pos rfl]
                exact no (by rw [show spr (n 0) (rch (n 0) g f j) p = false by simpa using z]; rfl) _
          exact inner (n 0) 0 (by omega) 0 l10 ⟨by simp, fun p hp => by omega⟩
  have eH := hH s f hs hf
  have hb2 := hts_b (μ := ahd n a F μ s) (p := f) hwC
  have ix : (24 * (s : Int) + (f : Int)).toNat = 24 * s + f := by omega
  have g0 : g 0 f = decide (D ≤ hts n F (ahd n a F μ s) f) := by rw [← hg]; rfl
  rw [en293, r293_0 (by omega) (by omega) (by rw [ix, eH]; omega) hD, ix, eH]
  by_cases q : D ≤ hts n F (ahd n a F μ s) f
  · rw [if_pos q, r293_18 (by omega) (by omega), en, shl1 (by omega)]
    have := main (lst μ + 1 - s) 0 (by omega) (2 ^ f) PU PU PU (fun _ => isB_c (isB_1 hf) (fun p hp => by
      show decide (p = f) = (decide (p = f) && g 0 p)
      by_cases z : p = f
      · subst z; rw [g0, decide_eq_true q, Bool.and_true]
      · rw [decide_eq_false z]; rfl)) (by rw [ther, hg]; rfl)
    exact this
  · rw [if_neg q, r293_16]
    have : ther (n 0) (flo n a F μ D) f to (lst μ) s = -1 := by
      rw [ther, hg]
      refine fi_0 (fun k h1 h2 => ?_)
      have := rch_e (N := n 0) (f := f) (t := 0) (fl := g) (fun p hp => by
        show (decide (p = f) && g 0 p) = false
        by_cases z : p = f
        · subst z; rw [g0, decide_eq_false q, Bool.and_false]
        · rw [decide_eq_false z]; rfl) (k - s) to hto
      rw [Nat.zero_add] at this; exact this
    rw [this]
theorem isX_t {x y z : Int} : isX n x y z = true ↔ (isIx (n 2) x = true ∧ isIx (n 2) y = true ∧ 0 ≤ z ∧ z ≤ 99) := by rw [isX]; simp
theorem c294 (hS : RS M b n a F) (hM : RM M n 0 μ) (hw : wM n μ) {x y z : Int} (hx : inR x) (hy : inR y) (hz : inR z) (hK : ∀ M', fq M M' → K (vI (qAcr n a F μ x y z)) (GF X, M', PTF v)) : pm_Call (d + 9) 294 [vA 234, vI x, vI y, vI z] (GF X, M, PTF v) K := by
  have hwC := hS.2.2
  have hn := hwC.1
  have bad : ¬ isX n x y z = true → pm_Run (d + 8) 294 26 [vA 234, vI x, vI y, vI z] [] (GF X, M, PTF v) K := by
    intro q
    rw [r294_26]
    have := hK M fq_r
    rw [qAcr, if_neg q] at this; exact this
  by_cases q : isIx (n 2) x = true
  · by_cases q1 : isIx (n 2) y = true
    · by_cases q2 : 0 ≤ z ∧ z ≤ 99
      · have kk := hK
        rw [qAcr, if_pos (isX_t.mpr ⟨q, q1, q2⟩)] at kk
        have q' := q
        have q1' := q1
        obtain ⟨i, rfl, hi⟩ := ixN q
        obtain ⟨j, rfl, hj⟩ := ixN q1
        rw [Int.toNat_natCast, Int.toNat_natCast] at kk
        have ai := hwC.2.2.1 i hi
        have aj := hwC.2.2.1 j hj
        rw [en294, r294_0, c229t hS hx q', push_i, r294_5 (by omega), if_neg (by omega), r294_8, c229t hS hy q1', push_i, r294_13 (by omega), if_neg (by omega), r294_16, c179t hz (by omega) (by omega) q2, push_i, r294_23 (by omega), if_pos (by omega), r294_28]
        refine c292 hS hM hw (by omega) (fun M1 f1 h1 => ?_)
        have hS1 := RS_q f1 hS
        have h270 : M1 270 0 = μ 0 0 := (f1.2.2.1 0 (by omega)).trans hM.2.1
        rw [push_u, r294_32, c230 hS1.1 hwC hi, push_i, r294_38, c230 hS1.1 hwC hj, push_i, r294_43]
        rw [show a 2 i = (((a 2 i).toNat : Nat) : Int) by omega, show a 2 j = (((a 2 j).toNat : Nat) : Int) by omega]
        refine (c293 (s := 0) hS1 h270 hw (by omega) h1 (by omega) (by omega) (by omega) hz).mpr ?_
        rw [push_i, r294_48]
        have e : ther (n 0) (flo n a F μ z) (a 2 i).toNat (a 2 j).toNat (lst μ) 0 = fi (fun t => rch (n 0) (flo n a F μ z) (a 2 i).toNat t (a 2 j).toNat) (lst μ + 1) 0 := by
          unfold ther
          simp only [Nat.zero_add, Nat.sub_zero]
        rw [e]; exact kk M1 f1
      · rw [en294, r294_0, c229t hS hx q, push_i, r294_5 (by omega), if_neg (by omega), r294_8, c229t hS hy q1, push_i, r294_13 (by omega), if_neg (by omega), r294_16, c179f hz (by omega) (by omega) q2, push_i, r294_23 (by omega), if_neg (by simp)]
        exact bad (fun h => q2 (isX_t.mp h).2.2)
    · rw [en294, r294_0, c229t hS hx q, push_i, r294_5 (by omega), if_neg (by omega), r294_8, c229f hS hy q1, push_i, r294_13 (by omega), if_pos (by omega)]
      exact bad (fun h => q1 (isX_t.mp h).2.1)
  · rw [en294, r294_0, c229f hS hx q, push_i, r294_5 (by omega), if_pos (by omega)]
    exact bad (fun h => q (isX_t.mp h).1)
theorem c295 (hS : RS M b n a F) (hM : RM M n 0 μ) (hw : wM n μ) {x y z : Int} (hx : inR x) (hy : inR y) (hz : inR z) (hK : ∀ M', fq M M' → K (vI (qLat n a F μ x y z)) (GF X, M', PTF v)) : pm_Call (d + 9) 295 [vA 234, vI x, vI y, vI z] (GF X, M, PTF v) K := by
  have hwC := hS.2.2
  have hn := hwC.1
  have hl := lst_i hw
  have bad : ¬ isX n x y z = true → pm_Run (d + 8) 295 26 [vA 234, vI x, vI y, vI z, PU] [] (GF X, M, PTF v) K := by
    intro q
    rw [r295_26]
    have := hK M fq_r
    rw [qLat, if_neg q] at this; exact this
  by_cases q : isIx (n 2) x = true
  · by_cases q1 : isIx (n 2) y = true
    · by_cases q2 : 0 ≤ z ∧ z ≤ 99
      · have kk := hK
        rw [qLat, if_pos (isX_t.mpr ⟨q, q1, q2⟩)] at kk
        have q' := q
        have q1' := q1
        obtain ⟨i, rfl, hi⟩ := ixN q
        obtain ⟨j, rfl, hj⟩ := ixN q1
        rw [Int.toNat_natCast, Int.toNat_natCast] at kk
        have ai := hwC.2.2.1 i hi
        have aj := hwC.2.2.1 j hj
        rw [en295, r295_0, c229t hS hx q', push_i, r295_5 (by omega), if_neg (by omega), r295_8, c229t hS hy q1', push_i, r295_13 (by omega), if_neg (by omega), r295_16, c179t hz (by omega) (by omega) q2, push_i, r295_23 (by omega), if_pos (by omega), r295_28]
        refine c292 hS hM hw (by omega) (fun M1 f1 h1 => ?_)
        have hS1 := RS_q f1 hS
        have h270 : M1 270 0 = μ 0 0 := (f1.2.2.1 0 (by omega)).trans hM.2.1
        have kk := kk M1 f1
        generalize hG : (fun s => gd (n 0) (flo n a F μ z) (a 2 j).toNat (lst μ) (s + 1) (a 2 i).toNat) = G at kk
        have main : ∀ k s, s + k = lst μ + 1 → fi G (lst μ + 1) 0 = fi G k s → pm_Run (d + 8) 295 38 [vA 234, vI (i : Int), vI (j : Int), vI z, vI ((lst μ : Int) - (s : Int))] [] (GF X, M1, PTF v) K := by
          intro k
          induction k with
          | zero =>
            intro s hs he
            rw [r295_38 (by omega), if_pos (by omega), r295_73]
            rw [if_pos (by rw [he]; rfl)] at kk; exact kk
          | succ k ih =>
            intro s hs he
            rw [r295_38 (by omega), if_neg (by omega), r295_43, c230 hS1.1 hwC hi, push_i, r295_49, c230 hS1.1 hwC hj, push_i, r295_54]
            rw [show a 2 i = (((a 2 i).toNat : Nat) : Int) by omega, show a 2 j = (((a 2 j).toNat : Nat) : Int) by omega, show (lst μ : Int) - (s : Int) = ((lst μ - s : Nat) : Int) by omega]
            refine (c293 (s := lst μ - s) hS1 h270 hw (by omega) h1 (by omega) (by omega) (by omega) hz).mpr ?_
            have tn := ther_n (N := n 0) (L := lst μ) (to := (a 2 j).toNat) (f := (a 2 i).toNat) (s := s) (fl := flo n a F μ z) (by omega) (by omega) (by omega)
            have eG : G s = gd (n 0) (flo n a F μ z) (a 2 j).toNat (lst μ) (s + 1) (a 2 i).toNat := by rw [← hG]
            rw [← eG] at tn
            have tb : inR (ther (n 0) (flo n a F μ z) (a 2 i).toNat (a 2 j).toNat (lst μ) (lst μ - s)) := by
              by_cases h : ther (n 0) (flo n a F μ z) (a 2 i).toNat (a 2 j).toNat (lst μ) (lst μ - s) = -1
              · rw [h]; omega
              · obtain ⟨j', h1, h2, h3, -⟩ := fi_s h
                have h1' : ther (n 0) (flo n a F μ z) (a 2 i).toNat (a 2 j).toNat (lst μ) (lst μ - s) = (j' : Int) := h1
                rw [h1']; omega
            rw [show fi G (k + 1) s = if G s = true then (s : Int) else fi G k (s + 1) from rfl] at he
            rw [push_i, r295_60 tb]
            by_cases g : G s = true
            · rw [if_pos g] at he
              rw [if_neg (tn.mpr g), r295_64]
              rw [if_neg (by rw [he]; omega), he] at kk
              rw [show ((lst μ - s : Nat) : Int) = (lst μ : Int) - (s : Int) by omega]; exact kk
            · rw [if_neg g] at he
              rw [if_pos (Classical.byContradiction (fun h => g (tn.mp h))), r295_67]
              have := ih (s + 1) (by omega) he
              rw [show ((lst μ - s : Nat) : Int) + (-1) = (lst μ : Int) - ((s + 1 : Nat) : Int) by omega]; exact this
        rw [push_u, r295_32, c258 h270 hw, push_i, r295_36]
        have := main (lst μ + 1) 0 (by omega) rfl
        rw [show (lst μ : Int) - ((0 : Nat) : Int) = (lst μ : Int) by omega] at this; exact this
      · rw [en295, r295_0, c229t hS hx q, push_i, r295_5 (by omega), if_neg (by omega), r295_8, c229t hS hy q1, push_i, r295_13 (by omega), if_neg (by omega), r295_16, c179f hz (by omega) (by omega) q2, push_i, r295_23 (by omega), if_neg (by simp)]
        exact bad (fun h => q2 (isX_t.mp h).2.2)
    · rw [en295, r295_0, c229t hS hx q, push_i, r295_5 (by omega), if_neg (by omega), r295_8, c229f hS hy q1, push_i, r295_13 (by omega), if_pos (by omega)]
      exact bad (fun h => q1 (isX_t.mp h).2.1)
  · rw [en295, r295_0, c229f hS hx q, push_i, r295_5 (by omega), if_pos (by omega)]
    exact bad (fun h => q (isX_t.mp h).1)
end RFl
