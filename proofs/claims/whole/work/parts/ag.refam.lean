/-! The reference's reader of statements: harboring. -/
section RFam
variable {d b w bk D : Nat} {X : Nat × (Nat → Int)} {v : Nat → Int} {M M' M2 : PH} {K : PV → PS → Prop} {B : Nat → Int} {N : Nat} {κ : KP} {e : Int × Int} {o op : Nat} {l S S0 Q : List Int} {s : ST} {n : Nat → Nat} {a : PH} {z : CZ} {P : Nat → Nat → Prop}
theorem sNl_k {lo hi : Int} {x : KP × Nat × List Int} (h : sNl B N lo hi s = .inr x) : s = .inr x ∧ (tok B N x.1).1 = 2 := by
  unfold sNl at h
  by_cases q : kd B N s = 2
  · rw [if_pos q] at h
    obtain ⟨y, rfl⟩ := kd_x q (by decide)
    by_cases q2 : lo ≤ vl B N (.inr y) ∧ vl B N (.inr y) ≤ hi
    · rw [if_pos q2] at h
      injection h with h
      subst h
      exact ⟨rfl, q⟩
    · rw [if_neg q2, sG_i] at h; cases h
  · rw [if_neg q] at h
    cases s <;> cases h
theorem OK_2 (h : OK M B N κ) (hk : (tok B N κ).1 = 2) : CL M := by
  rcases h.2.2.1.2.2 with z | z | z | z | z | z
  · omega
  · omega
  · exact z.2.2.1
  all_goals omega
theorem t213 (hT : TX M B N) (h : OK M B N κ) (hc : CL M) (hk : (tok B N κ).1 = 1) (hd : CDR M bk l) (hZ : BZ M bk l z) (hK : ∀ M', QS2 M' bk B N (gHarb B N κ l z) → fB bk M M' → K PU (GF X, M', PTF v)) : pm_Call (d + 5) 213 [vA 234] (GF X, M, PTF v) K := by
  obtain ⟨⟨e42, hb⟩, -, ⟨e41, b2⟩, -⟩ := id hZ.2.2.1
  have ix : (M 234 42).toNat = bk := by omega
  have b0 := hZ.1.1.1
  have go : ∀ f : Int, (f = if z.1 2 < 8 then 0 else 1) → pm_Run (d + 4) 213 20 [vA 234, PU, PU, PU] [vI f, vA 234] (GF X, M, PTF v) K := fun f hf => by
    rw [r213_20]
    refine c207 (d := d + 1) hT h hc hk (by split at hf <;> omega) (fun f0 M1 o1 g1 => ?_) (fun f1 M1 l1 g1 => ?_)
    · have h3 : z.1 2 < 8 := by split at hf <;> omega
      rw [gHarb, if_pos h3] at hK
      have Z1 := BZ_4 hZ g1
      have hT1 := TX_B hT (fB_4 (bk := bk) g1)
      have f42 : M1 234 42 = (bk : Int) := (g1.2 42 (by omega) (by omega)).trans e42
      have f41 : M1 241 bk = (z.1 2 : Int) := by rw [g1.1 241 (by omega)]; exact e41
      have ix1 : (M1 234 42).toNat = bk := by omega
      rw [push_i, r213_23 (by omega), if_pos (by omega), r213_27 (by omega) (by omega), ix1, f42, f41]
      have p0 : PRS M1 bk B N (sA B N (toS κ l)) := ⟨o1, CDR_f hd g1⟩
      let P : Nat → Nat → Prop := fun q k => (((242 ≤ q ∧ q ≤ 244) ∨ q = 262) ∧ k = 8 * bk + z.1 2) ∨ (q = 245 ∧ 24 * bk + 3 * z.1 2 ≤ k ∧ k < 24 * bk + 3 * z.1 2 + 3)
      have hP1 : ∀ q k, P q k → ¬ US z bk q k := fun q k hp hu => by
        have hp : (((242 ≤ q ∧ q ≤ 244) ∨ q = 262) ∧ k = 8 * bk + z.1 2) ∨ (q = 245 ∧ 24 * bk + 3 * z.1 2 ≤ k ∧ k < 24 * bk + 3 * z.1 2 + 3) := hp
        unfold US at hu; omega
      have hP2 : ∀ q k, P q k → 236 ≤ q ∧ q ≤ 262 ∧ wd q * bk ≤ k ∧ k < wd q * bk + wd q := fun q k hp => by
        have hp : (((242 ≤ q ∧ q ≤ 244) ∨ q = 262) ∧ k = 8 * bk + z.1 2) ∨ (q = 245 ∧ 24 * bk + 3 * z.1 2 ≤ k ∧ k < 24 * bk + 3 * z.1 2 + 3) := hp
        rcases hp with hp | hp
        · have : wd q = 8 := by unfold wd; rw [if_neg (by omega), if_pos (by omega)]
          rw [this]; omega
        · have : wd q = 24 := by unfold wd; rw [if_neg (by omega), if_neg (by omega), if_pos (by omega)]
          rw [this]; omega
      generalize hsl : (8 * (bk : Int)) + (z.1 2 : Int) = sl0
      have s1 : sl0.toNat = 8 * bk + z.1 2 := by omega
      have s2 : 0 ≤ sl0 := by omega
      have s3 : sl0 < 16 := by omega
      refine t209 (d := d + 1) hT1 p0 Z1.2.2.1 (fun M2 r p2 g2 hr => ?_)
      rw [push_l, r213_54 s2 s3, s1]
      have t2 : tc P M1 M2 := tc_4 g2
      have t3 : tc P M1 (pm_sa M2 262 (pm_up (M2 262) (8 * bk + z.1 2) r)) := tc_t t2 (tc_q (by omega) (Or.inl ⟨by omega, rfl⟩))
      have p3 : PRS (pm_sa M2 262 (pm_up (M2 262) (8 * bk + z.1 2) r)) bk B N (mS1 B N z (toS κ l)) := PRS_i p2 (sa_n (by omega)) (sa_n (by omega)) (sa_n (by omega))
      have v3 : (pm_sa M2 262 (pm_up (M2 262) (8 * bk + z.1 2) r)) 262 (8 * bk + z.1 2) = r := by rw [sa_s, up_s]
      generalize pm_sa M2 262 (pm_up (M2 262) (8 * bk + z.1 2) r) = M3 at t3 p3 v3
      rw [r213_55]
      refine t208 (d := d + 1) (k := 2) (TX_B hT1 (fB_tc t3 hP2)) p3 (by omega) (fun M4 p4 g4 => ?_)
      have t4 := tc_t t3 (tc_4 g4)
      have Z4 := BZ_tc Z1 t4 hP1
      have i4 : M4 234 42 = (bk : Int) := Z4.2.2.1.1.1
      have i4' : (M4 234 42).toNat = bk := by omega
      have v4 : M4 262 (8 * bk + z.1 2) = r := by rw [g4.1 262 (by omega)]; exact v3
      rw [push_u, r213_62 (by omega) (by omega), i4', Z4.2.1.1]
      refine t195 (d := d + 1) (TX_B hT1 (fB_tc t4 hP2)) p4 (lo := 0) (hi := (z.1 0 : Int) - 1) (by omega) (by omega) (fun M5 y5 p5 g5 b5 h5 => ?_)
      have t5 := tc_t t4 (tc_4 g5)
      have Z5 := BZ_tc Z1 t5 hP1
      have F5 : fB bk M M5 := fB_t (fB_4 g1) (fB_tc t5 hP2)
      have v5 : M5 262 (8 * bk + z.1 2) = r := by rw [g5.1 262 (by omega)]; exact v4
      have es3 := sFr_l (B := B) (N := N) (n := z.1) (a := z.2.1) (s := mS2 B N z (toS κ l))
      rw [push_i, r213_78]
      -- a fault at the planet
      have bad : ∀ (M' : PH) (e : Int × Int) (i : Int), FL M' e → fB bk M M' → hS3 B N z (toS κ l) = .inl e → pm_Run (d + 4) 213 134 [vA 234, vI sl0, vI y5, vI i] [] (GF X, M', PTF v) K := fun M' e i hfl hfb he => by
        have q1 := hfl.1
        have q2 := hfl.2.1
        rw [r213_134 (by omega), if_neg (by omega), r213_141]
        refine hK M' ?_ hfb
        have : hS7 B N z (toS κ l) = .inl e := by
          show sN B N 0 99 (sWd B N 7 (sN B N 0 999 (sWd B N 6 (hS3 B N z (toS κ l))))) = _
          rw [he]; rfl
        rw [this]; exact hfl
      have p5 : PRS M5 bk B N (sNl B N 0 ((z.1 0 : Int) - 1) (mS2 B N z (toS κ l))) := p5
      have h5 : ∀ x, sNl B N 0 ((z.1 0 : Int) - 1) (mS2 B N z (toS κ l)) = .inr x → y5 = vl B N (mS2 B N z (toS κ l)) := h5
      revert p5 h5 es3
      cases hs5 : sNl B N 0 ((z.1 0 : Int) - 1) (mS2 B N z (toS κ l)) with
      | inl e =>
        intro es3 p5 h5
        have p5 : FL M5 e := p5
        have i5 : M5 234 42 = (bk : Int) := Z5.2.2.1.1.1
        have i5' : (M5 234 42).toNat = bk := by omega
        have i41 := Z5.2.2.1.2.2.1.1
        have q1 := p5.1
        have q2 := p5.2.1
        rw [r213_81 (by omega) (by omega) (by omega) (by rw [i5']; omega), i5']
        by_cases q3 : M5 241 bk ≤ 0
        · rw [if_pos q3]; exact bad M5 e _ p5 F5 es3
        · rw [if_neg q3, r213_94 (by omega), if_pos (by omega)]; exact bad M5 e _ p5 F5 es3
      | inr x2 =>
        intro es3 p5 h5
        obtain ⟨hm2, k2⟩ := sNl_k hs5
        have o5 : OK M5 B N x2.1 := p5.1
        have c5 := OK_2 o5 k2
        have r12 : inR (M5 234 12) := by have : M5 234 12 = -1 := c5; omega
        have ey : y5 = vl B N (mS2 B N z (toS κ l)) := h5 x2 rfl
        have es3 : hS3 B N z (toS κ l) = (if fi (fun k => decide (z.2.1 2 k = y5)) (z.1 2) 0 ≠ -1 then sG B N 4 (.inr x2) else sA B N (.inr x2)) := by rw [ey]; exact es3
        refine l213 (d := d) (κ := x2.1) o5 c5 Z5 (by omega) (z.1 2) 0 (by omega) (fun hfi i' => ?_) (fun hfi i' => ?_)
        · have h8 := o5.1
          rw [if_neg (by simp [hfi])] at es3
          rw [r213_134 (by omega), if_pos (by omega), r213_142]
          refine t187 (TX_B hT F5) o5 (by omega) (by omega) (fun M6 o6 g6 => ?_)
          rw [push_u, r213_146 s2 s3, s1]
          have p6 : PRS M6 bk B N (hS3 B N z (toS κ l)) := by rw [es3]; exact ⟨o6, CDR_f p5.2 g6⟩
          have t7 : tc P M1 (pm_sa M6 242 (pm_up (M6 242) (8 * bk + z.1 2) y5)) := tc_t (tc_t t5 (tc_4 g6)) (tc_q (by omega) (Or.inl ⟨by omega, rfl⟩))
          have p7 : PRS (pm_sa M6 242 (pm_up (M6 242) (8 * bk + z.1 2) y5)) bk B N (hS3 B N z (toS κ l)) := PRS_i p6 (sa_n (by omega)) (sa_n (by omega)) (sa_n (by omega))
          have v7 : (pm_sa M6 242 (pm_up (M6 242) (8 * bk + z.1 2) y5)) 242 (8 * bk + z.1 2) = y5 ∧ (pm_sa M6 242 (pm_up (M6 242) (8 * bk + z.1 2) y5)) 262 (8 * bk + z.1 2) = r := ⟨by rw [sa_s, up_s], by rw [sa_n (by omega), g6.1 262 (by omega)]; exact v5⟩
          generalize pm_sa M6 242 (pm_up (M6 242) (8 * bk + z.1 2) y5) = M7 at t7 p7 v7
          rw [r213_153]
          refine t208 (d := d + 1) (k := 6) (TX_B hT1 (fB_tc t7 hP2)) p7 (by omega) (fun M8 p8 g8 => ?_)
          have t8 := tc_t t7 (tc_4 g8)
          rw [push_u, r213_160]
          refine t196 (d := d) (TX_B hT1 (fB_tc t8 hP2)) p8 (lo := 0) (hi := 999) (by omega) (by omega) (fun M9 y9 p9 g9 b9 h9 => ?_)
          rw [push_i, r213_173 s2 s3, s1]
          have t10 : tc P M1 (pm_sa M9 243 (pm_up (M9 243) (8 * bk + z.1 2) y9)) := tc_t (tc_t t8 (tc_4 g9)) (tc_q (by omega) (Or.inl ⟨by omega, rfl⟩))
          have p10 : PRS (pm_sa M9 243 (pm_up (M9 243) (8 * bk + z.1 2) y9)) bk B N (hS5 B N z (toS κ l)) := PRS_i p9 (sa_n (by omega)) (sa_n (by omega)) (sa_n (by omega))
          have v10 : (pm_sa M9 243 (pm_up (M9 243) (8 * bk + z.1 2) y9)) 243 (8 * bk + z.1 2) = y9 ∧ (pm_sa M9 243 (pm_up (M9 243) (8 * bk + z.1 2) y9)) 242 (8 * bk + z.1 2) = y5 ∧ (pm_sa M9 243 (pm_up (M9 243) (8 * bk + z.1 2) y9)) 262 (8 * bk + z.1 2) = r := ⟨by rw [sa_s, up_s], by rw [sa_n (by omega), g9.1 242 (by omega), g8.1 242 (by omega)]; exact v7.1, by rw [sa_n (by omega), g9.1 262 (by omega), g8.1 262 (by omega)]; exact v7.2⟩
          generalize pm_sa M9 243 (pm_up (M9 243) (8 * bk + z.1 2) y9) = M10 at t10 p10 v10
          rw [r213_174]
          refine t208 (d := d + 1) (k := 7) (TX_B hT1 (fB_tc t10 hP2)) p10 (by omega) (fun M11 p11 g11 => ?_)
          have t11 := tc_t t10 (tc_4 g11)
          rw [push_u, r213_181]
          refine t196 (d := d) (TX_B hT1 (fB_tc t11 hP2)) p11 (lo := 0) (hi := 99) (by omega) (by omega) (fun M12 y12 p12 g12 b12 h12 => ?_)
          rw [push_i, r213_193 s2 s3, s1]
          have t13 : tc P M1 (pm_sa M12 244 (pm_up (M12 244) (8 * bk + z.1 2) y12)) := tc_t (tc_t t11 (tc_4 g12)) (tc_q (by omega) (Or.inl ⟨by omega, rfl⟩))
          have p13 : PRS (pm_sa M12 244 (pm_up (M12 244) (8 * bk + z.1 2) y12)) bk B N (hS7 B N z (toS κ l)) := PRS_i p12 (sa_n (by omega)) (sa_n (by omega)) (sa_n (by omega))
          have v13 : (pm_sa M12 244 (pm_up (M12 244) (8 * bk + z.1 2) y12)) 244 (8 * bk + z.1 2) = y12 ∧ (pm_sa M12 244 (pm_up (M12 244) (8 * bk + z.1 2) y12)) 243 (8 * bk + z.1 2) = y9 ∧ (pm_sa M12 244 (pm_up (M12 244) (8 * bk + z.1 2) y12)) 242 (8 * bk + z.1 2) = y5 ∧ (pm_sa M12 244 (pm_up (M12 244) (8 * bk + z.1 2) y12)) 262 (8 * bk + z.1 2) = r := ⟨by rw [sa_s, up_s], by rw [sa_n (by omega), g12.1 243 (by omega), g11.1 243 (by omega)]; exact v10.1, by rw [sa_n (by omega), g12.1 242 (by omega), g11.1 242 (by omega)]; exact v10.2.1, by rw [sa_n (by omega), g12.1 262 (by omega), g11.1 262 (by omega)]; exact v10.2.2⟩
          generalize pm_sa M12 244 (pm_up (M12 244) (8 * bk + z.1 2) y12) = M13 at t13 p13 v13
          have ds : ∀ m : Nat, m < 3 → 0 ≤ (3 * sl0) + (m : Int) ∧ (3 * sl0) + (m : Int) < 48 ∧ ((3 * sl0) + (m : Int)).toNat = 24 * bk + (3 * z.1 2 + m) := fun m hm => by omega
          have d0 := ds 0 (by omega)
          have d1 := ds 1 (by omega)
          have d2 := ds 2 (by omega)
          rw [show ((0 : Nat) : Int) = 0 from rfl] at d0
          rw [show ((1 : Nat) : Int) = 1 from rfl] at d1
          rw [show ((2 : Nat) : Int) = 2 from rfl] at d2
          rw [r213_194, r213_196 (by omega), if_neg (by omega), r213_201 d0.1 d0.2.1, d0.2.2, r213_212, show (0 : Int) + 1 = 1 from rfl, r213_196 (by omega), if_neg (by omega), r213_201 d1.1 d1.2.1, d1.2.2, r213_212, show (1 : Int) + 1 = 2 from rfl, r213_196 (by omega), if_neg (by omega), r213_201 d2.1 d2.2.1, d2.2.2, r213_212, show (2 : Int) + 1 = 3 from rfl, r213_196 (by omega), if_pos (by omega), sa_s, sa_sa, sa_s, sa_sa]
          generalize hM14 : pm_sa M13 245 (pm_up (pm_up (pm_up (M13 245) (24 * bk + (3 * z.1 2 + 0)) 0) (24 * bk + (3 * z.1 2 + 1)) 0) (24 * bk + (3 * z.1 2 + 2)) 0) = M14
          have e14 : ∀ q, q ≠ 245 → M14 q = M13 q := fun q hq => by rw [← hM14, sa_n hq]
          have z14 : ∀ m, m < 3 → M14 245 (24 * bk + (3 * z.1 2 + m)) = 0 := fun m hm => by
            rw [← hM14, sa_s]
            by_cases m2 : m = 2
            · subst m2; rw [up_s]
            · rw [up_n (by omega)]
              by_cases m1 : m = 1
              · subst m1; rw [up_s]
              · have : m = 0 := by omega
                subst this
                rw [up_n (by omega), up_s]
          have t14 : tc P M1 M14 := tc_t t13 ⟨fun q z1 k z2 => by
            by_cases q5 : q = 245
            · subst q5
              have z2 : ¬ ((((242 ≤ 245 ∧ 245 ≤ 244) ∨ 245 = 262) ∧ k = 8 * bk + z.1 2) ∨ (245 = 245 ∧ 24 * bk + 3 * z.1 2 ≤ k ∧ k < 24 * bk + 3 * z.1 2 + 3)) := z2
              rw [← hM14, sa_s, up_n (by omega), up_n (by omega), up_n (by omega)]
            · rw [e14 q q5], fun j _ _ => by rw [e14 234 (by omega)]⟩
          have p14 : PRS M14 bk B N (hS7 B N z (toS κ l)) := PRS_i p13 (e14 _ (by omega)) (e14 _ (by omega)) (e14 _ (by omega))
          have F14 : fB bk M M14 := fB_t (fB_4 g1) (fB_tc t14 hP2)
          have Z14 := BZ_tc Z1 t14 hP1
          obtain ⟨r8, hbad, hgood⟩ := PRS_8 p14
          rw [r213_218 r8]
          by_cases q8 : M14 234 8 = 0
          · obtain ⟨x7, hx7⟩ := hgood q8
            have i14 : M14 234 42 = (bk : Int) := Z14.2.2.1.1.1
            have i14' : (M14 234 42).toNat = bk := by omega
            rw [if_neg (by simp [q8]), r213_225 (by omega) (by omega), i14', Z14.2.2.1.2.2.1.1, r213_238]
            have hx7' : sN B N 0 99 (hS6 B N z (toS κ l)) = .inr x7 := hx7
            obtain ⟨x6, hx6, -, -, -, z7⟩ := sN_e hx7'
            obtain ⟨x5, hx5, -, z6⟩ := sWd_e (show sWd B N 7 (hS5 B N z (toS κ l)) = .inr x6 from hx6)
            have hx5' : sN B N 0 999 (hS4 B N z (toS κ l)) = .inr x5 := hx5
            have hm2' : sWd B N 2 (mS1 B N z (toS κ l)) = .inr x2 := hm2
            obtain ⟨x1, hx1, -, -⟩ := sWd_e hm2'
            have hx1' : sNew B N (knw z.1 z.2.1) (sA B N (toS κ l)) = .inr x1 := hx1
            have gp := gHarb_p (l := l) (z := z) (x := (x7.1, x7.2.2, zHarb z (vl B N (sA B N (toS κ l))) (vl B N (mS2 B N z (toS κ l))) (vl B N (hS4 B N z (toS κ l))) (vl B N (hS6 B N z (toS κ l))))) hT.1 hT.2.1 h.2.2.2.1 (by rw [gHarb, if_pos h3, hx7]; rfl)
            have l7 : x7.2.2 = l := gp.2.1
            refine hK _ ?_ (fB_t F14 (fB_q (by omega) (by show 1 * bk ≤ bk ∧ bk < 1 * bk + 1; omega)))
            rw [hx7]
            refine Or.inl ⟨OK_u (by rw [hx7] at p14; exact p14.1) (fun j _ => by rw [sa_n (by omega)]), CDR_u (by rw [hx7] at p14; exact p14.2) (by rw [sa_n (by omega)]) (by rw [sa_n (by omega)]) (sa_n (by omega)) (sa_n (by omega)), ?_⟩
            show BZ _ bk x7.2.2 _
            rw [l7]
            refine BZ_harb Z14 h3 (by rw [e14 262 (by omega), v13.2.2.2]; exact (hr x1 hx1').1) (hr x1 hx1').2 (by rw [e14 242 (by omega), v13.2.2.1]; exact ey) (by rw [← ey]; omega) (by rw [e14 243 (by omega), v13.2.1]; exact h9 x5 hx5') (by rw [e14 244 (by omega), v13.1]; exact h12 x7 hx7') z14
          · obtain ⟨e, he, hf⟩ := hbad q8
            rw [if_pos q8, r213_238]
            refine hK _ ?_ F14
            rw [he]; exact hf
        · rw [if_pos hfi, sG_i] at es3
          exact bad _ _ i' (FL_89 (by omega) r12) (fB_t F5 (fB_4 f4_89)) es3
    · have h3 : ¬ z.1 2 < 8 := by split at hf <;> omega
      rw [push_i, r213_23 (by omega), if_neg (by simp), r213_26]
      refine hK M1 ?_ (fB_4 g1)
      rw [gHarb, if_neg h3]; exact l1
  rw [en213, r213_0 (by omega) (by omega) (by rw [ix, e41]; omega), ix, e41]
  by_cases q : z.1 2 < 8
  · rw [if_pos (by omega), r213_19]
    exact go 0 (by rw [if_pos q])
  · rw [if_neg (by omega), r213_15]
    exact go 1 (by rw [if_neg q])
end RFam
