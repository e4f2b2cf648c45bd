/-! The reference's reader of statements: moons. -/
section RFak
variable {d b w bk D : Nat} {X : Nat × (Nat → Int)} {v : Nat → Int} {M M' M2 : PH} {K : PV → PS → Prop} {B : Nat → Int} {N : Nat} {κ : KP} {e : Int × Int} {o op : Nat} {l S S0 Q : List Int} {s : ST} {n : Nat → Nat} {a : PH} {z : CZ} {P : Nat → Nat → Prop}
theorem PRS_i (h : PRS M bk B N s) (e8 : M' 234 = M 234) (e9 : M' 259 = M 259) (e0 : M' 260 = M 260) : PRS M' bk B N s := by
  match s, h with
  | .inl e, h =>
    show M' 234 8 = _ ∧ _ ∧ M' 234 9 = _ ∧ inR (M' 234 12)
    rw [e8]; exact h
  | .inr x, h => exact ⟨OK_u h.1 (fun j _ => by rw [e8]), CDR_u h.2 (by rw [e8]) (by rw [e8]) e9 e0⟩
theorem PRS_8 (h : PRS M bk B N s) : inR (M 234 8) ∧ (M 234 8 ≠ 0 → ∃ e, s = .inl e ∧ FL M e) ∧ (M 234 8 = 0 → ∃ x, s = .inr x) := by
  match s, h with
  | .inl e, h =>
    have h : FL M e := h
    have h1 := h.1
    have h2 := h.2.1
    exact ⟨by omega, fun _ => ⟨e, rfl, h⟩, fun z => by omega⟩
  | .inr x, h =>
    have h1 : M 234 8 = 0 := h.1.1
    exact ⟨by omega, fun z => absurd h1 z, fun _ => ⟨x, rfl⟩⟩
/-- mooning -/
theorem t212 (hT : TX M B N) (h : OK M B N κ) (hc : CL M) (hk : (tok B N κ).1 = 1) (hd : CDR M bk l) (hZ : BZ M bk l z) (hK : ∀ M', QS2 M' bk B N (gMoon B N κ l z) → fB bk M M' → K PU (GF X, M', PTF v)) : pm_Call (d + 5) 212 [vA 234] (GF X, M, PTF v) K := by
  obtain ⟨⟨e42, hb⟩, ⟨e37, b1⟩, -, -⟩ := id hZ.2.2.1
  have ix : (M 234 42).toNat = bk := by omega
  have b0 := hZ.1.1.1
  have e36 := hZ.2.1.1
  have go : ∀ f : Int, (f = if z.1 1 < 3 then 0 else 1) → pm_Run (d + 4) 212 19 [vA 234, PU] [vI f, vA 234] (GF X, M, PTF v) K := fun f hf => by
    rw [r212_19]
    refine c207 (d := d + 1) hT h hc hk (by split at hf <;> omega) (fun f0 M1 o1 g1 => ?_) (fun f1 M1 l1 g1 => ?_)
    · have h3 : z.1 1 < 3 := by split at hf <;> omega
      rw [gMoon, if_pos h3] at hK
      have Z1 := BZ_4 hZ g1
      have hT1 := TX_B hT (fB_4 (bk := bk) g1)
      have f42 : M1 234 42 = (bk : Int) := (g1.2 42 (by omega) (by omega)).trans e42
      have f37 : M1 237 bk = (z.1 1 : Int) := by rw [g1.1 237 (by omega)]; exact e37
      have ix1 : (M1 234 42).toNat = bk := by omega
      rw [push_i, r212_22 (by omega), if_pos (by omega), r212_26 (by omega) (by omega), ix1, f42, f37]
      have p0 : PRS M1 bk B N (sA B N (toS κ l)) := ⟨o1, CDR_f hd g1⟩
      let P : Nat → Nat → Prop := fun q k => ((238 ≤ q ∧ q ≤ 240) ∨ q = 261) ∧ k = 3 * bk + z.1 1
      have hP1 : ∀ q k, P q k → ¬ US z bk q k := fun q k hp hu => by
        have hp : ((238 ≤ q ∧ q ≤ 240) ∨ q = 261) ∧ k = 3 * bk + z.1 1 := hp
        unfold US at hu; omega
      have hP2 : ∀ q k, P q k → 236 ≤ q ∧ q ≤ 262 ∧ wd q * bk ≤ k ∧ k < wd q * bk + wd q := fun q k hp => by
        have hp : ((238 ≤ q ∧ q ≤ 240) ∨ q = 261) ∧ k = 3 * bk + z.1 1 := hp
        have : wd q = 3 := by unfold wd; rw [if_pos (by omega)]
        rw [this]; omega
      have sl : ∀ i : Int, i = 3 * (bk : Int) + (z.1 1 : Int) → i.toNat = 3 * bk + z.1 1 ∧ 0 ≤ i ∧ i < 6 := fun i hi => by omega
      generalize hsl : (3 * (bk : Int)) + (z.1 1 : Int) = sl0
      obtain ⟨s1, s2, s3⟩ := sl sl0 hsl.symm
      refine t209 (d := d + 1) hT1 p0 Z1.2.2.1 (fun M2 r p2 g2 hr => ?_)
      rw [push_l, r212_52 s2 s3, s1]
      have t2 : tc P M1 M2 := tc_4 g2
      have t3 : tc P M1 (pm_sa M2 261 (pm_up (M2 261) (3 * bk + z.1 1) r)) := tc_t t2 (tc_q (by omega) ⟨by omega, rfl⟩)
      have p3 : PRS (pm_sa M2 261 (pm_up (M2 261) (3 * bk + z.1 1) r)) bk B N (mS1 B N z (toS κ l)) := PRS_i p2 (sa_n (by omega)) (sa_n (by omega)) (sa_n (by omega))
      have v3 : (pm_sa M2 261 (pm_up (M2 261) (3 * bk + z.1 1) r)) 261 (3 * bk + z.1 1) = r := by rw [sa_s, up_s]
      generalize pm_sa M2 261 (pm_up (M2 261) (3 * bk + z.1 1) r) = M3 at t3 p3 v3
      rw [r212_53]
      refine t208 (d := d + 1) (k := 2) (TX_B hT1 (fB_tc t3 hP2)) p3 (by omega) (fun M4 p4 g4 => ?_)
      have t4 := tc_t t3 (tc_4 g4)
      have Z4 := BZ_tc Z1 t4 hP1
      have i4 : M4 234 42 = (bk : Int) := Z4.2.2.1.1.1
      have i4' : (M4 234 42).toNat = bk := by omega
      have v4 : M4 261 (3 * bk + z.1 1) = r := by rw [g4.1 261 (by omega)]; exact v3
      rw [push_u, r212_60 (by omega) (by omega), i4', Z4.2.1.1]
      refine t196 (d := d) (TX_B hT1 (fB_tc t4 hP2)) p4 (lo := 0) (hi := (z.1 0 : Int) - 1) (by omega) (by omega) (fun M5 y5 p5 g5 b5 h5 => ?_)
      rw [push_i, r212_81 s2 s3, s1]
      have t6 : tc P M1 (pm_sa M5 238 (pm_up (M5 238) (3 * bk + z.1 1) y5)) := tc_t (tc_t t4 (tc_4 g5)) (tc_q (by omega) ⟨by omega, rfl⟩)
      have p6 : PRS (pm_sa M5 238 (pm_up (M5 238) (3 * bk + z.1 1) y5)) bk B N (mS3 B N z (toS κ l)) := PRS_i p5 (sa_n (by omega)) (sa_n (by omega)) (sa_n (by omega))
      have v6 : (pm_sa M5 238 (pm_up (M5 238) (3 * bk + z.1 1) y5)) 238 (3 * bk + z.1 1) = y5 ∧ (pm_sa M5 238 (pm_up (M5 238) (3 * bk + z.1 1) y5)) 261 (3 * bk + z.1 1) = r := ⟨by rw [sa_s, up_s], by rw [sa_n (by omega), g5.1 261 (by omega)]; exact v4⟩
      generalize pm_sa M5 238 (pm_up (M5 238) (3 * bk + z.1 1) y5) = M6 at t6 p6 v6
      rw [r212_82]
      refine t208 (d := d + 1) (k := 3) (TX_B hT1 (fB_tc t6 hP2)) p6 (by omega) (fun M7 p7 g7 => ?_)
      have t7 := tc_t t6 (tc_4 g7)
      rw [push_u, r212_89]
      refine t196 (d := d) (TX_B hT1 (fB_tc t7 hP2)) p7 (lo := 0) (hi := 23) (by omega) (by omega) (fun M8 y8 p8 g8 b8 h8 => ?_)
      rw [push_i, r212_101 s2 s3, s1]
      have t9 : tc P M1 (pm_sa M8 239 (pm_up (M8 239) (3 * bk + z.1 1) y8)) := tc_t (tc_t t7 (tc_4 g8)) (tc_q (by omega) ⟨by omega, rfl⟩)
      have p9 : PRS (pm_sa M8 239 (pm_up (M8 239) (3 * bk + z.1 1) y8)) bk B N (mS5 B N z (toS κ l)) := PRS_i p8 (sa_n (by omega)) (sa_n (by omega)) (sa_n (by omega))
      have v9 : (pm_sa M8 239 (pm_up (M8 239) (3 * bk + z.1 1) y8)) 239 (3 * bk + z.1 1) = y8 ∧ (pm_sa M8 239 (pm_up (M8 239) (3 * bk + z.1 1) y8)) 238 (3 * bk + z.1 1) = y5 ∧ (pm_sa M8 239 (pm_up (M8 239) (3 * bk + z.1 1) y8)) 261 (3 * bk + z.1 1) = r := ⟨by rw [sa_s, up_s], by rw [sa_n (by omega), g8.1 238 (by omega), g7.1 238 (by omega)]; exact v6.1, by rw [sa_n (by omega), g8.1 261 (by omega), g7.1 261 (by omega)]; exact v6.2⟩
      generalize pm_sa M8 239 (pm_up (M8 239) (3 * bk + z.1 1) y8) = M9 at t9 p9 v9
      rw [r212_102]
      refine t208 (d := d + 1) (k := 4) (TX_B hT1 (fB_tc t9 hP2)) p9 (by omega) (fun M10 p10 g10 => ?_)
      have t10 := tc_t t9 (tc_4 g10)
      rw [push_u, r212_109]
      refine t196 (d := d) (TX_B hT1 (fB_tc t10 hP2)) p10 (lo := 0) (hi := 9) (by omega) (by omega) (fun M11 y11 p11 g11 b11 h11 => ?_)
      rw [push_i, r212_121 s2 s3, s1]
      have t12 : tc P M1 (pm_sa M11 240 (pm_up (M11 240) (3 * bk + z.1 1) y11)) := tc_t (tc_t t10 (tc_4 g11)) (tc_q (by omega) ⟨by omega, rfl⟩)
      have p12 : PRS (pm_sa M11 240 (pm_up (M11 240) (3 * bk + z.1 1) y11)) bk B N (mS7 B N z (toS κ l)) := PRS_i p11 (sa_n (by omega)) (sa_n (by omega)) (sa_n (by omega))
      have v12 : (pm_sa M11 240 (pm_up (M11 240) (3 * bk + z.1 1) y11)) 240 (3 * bk + z.1 1) = y11 ∧ (pm_sa M11 240 (pm_up (M11 240) (3 * bk + z.1 1) y11)) 239 (3 * bk + z.1 1) = y8 ∧ (pm_sa M11 240 (pm_up (M11 240) (3 * bk + z.1 1) y11)) 238 (3 * bk + z.1 1) = y5 ∧ (pm_sa M11 240 (pm_up (M11 240) (3 * bk + z.1 1) y11)) 261 (3 * bk + z.1 1) = r := ⟨by rw [sa_s, up_s], by rw [sa_n (by omega), g11.1 239 (by omega), g10.1 239 (by omega)]; exact v9.1, by rw [sa_n (by omega), g11.1 238 (by omega), g10.1 238 (by omega)]; exact v9.2.1, by rw [sa_n (by omega), g11.1 261 (by omega), g10.1 261 (by omega)]; exact v9.2.2⟩
      generalize pm_sa M11 240 (pm_up (M11 240) (3 * bk + z.1 1) y11) = M12 at t12 p12 v12
      have F12 : fB bk M M12 := fB_t (fB_4 g1) (fB_tc t12 hP2)
      have Z12 := BZ_tc Z1 t12 hP1
      obtain ⟨r8, hbad, hgood⟩ := PRS_8 p12
      rw [r212_122 r8]
      by_cases q8 : M12 234 8 = 0
      · obtain ⟨x7, hx7⟩ := hgood q8
        have i12 : M12 234 42 = (bk : Int) := Z12.2.2.1.1.1
        have i12' : (M12 234 42).toNat = bk := by omega
        rw [if_neg (by simp [q8]), r212_129 (by omega) (by omega), i12', Z12.2.2.1.2.1.1, r212_142]
        have hx7' : sN B N 0 9 (mS6 B N z (toS κ l)) = .inr x7 := hx7
        obtain ⟨x6, hx6, -, -, -, z7⟩ := sN_e hx7'
        obtain ⟨x5, hx5, -, z6⟩ := sWd_e (show sWd B N 4 (mS5 B N z (toS κ l)) = .inr x6 from hx6)
        have hx5' : sN B N 0 23 (mS4 B N z (toS κ l)) = .inr x5 := hx5
        obtain ⟨x4, hx4, -, -, -, z5⟩ := sN_e hx5'
        obtain ⟨x3, hx3, -, z4⟩ := sWd_e (show sWd B N 3 (mS3 B N z (toS κ l)) = .inr x4 from hx4)
        have hx3' : sN B N 0 ((z.1 0 : Int) - 1) (mS2 B N z (toS κ l)) = .inr x3 := hx3
        obtain ⟨x2, hx2, -, -, -, z3⟩ := sN_e hx3'
        obtain ⟨x1, hx1, -, z2⟩ := sWd_e (show sWd B N 2 (mS1 B N z (toS κ l)) = .inr x2 from hx2)
        have hx1' : sNew B N (knw z.1 z.2.1) (sA B N (toS κ l)) = .inr x1 := hx1
        obtain ⟨x0, hx0, -, -, z1⟩ := sNew_e hx1'
        have l7 : x7.2.2 = l := by
          rw [z7, z6, z5, z4, z3, z2, z1]
          have : x0 = (adv B N κ, 0, l) := by
            have q : sA B N (toS κ l) = .inr (adv B N κ, 0, l) := rfl
            rw [q] at hx0; injection hx0 with hx0; exact hx0.symm
          rw [this]
        refine hK _ ?_ (fB_t F12 (fB_q (by omega) (by show 1 * bk ≤ bk ∧ bk < 1 * bk + 1; omega)))
        rw [hx7]
        refine Or.inl ⟨OK_u (by rw [hx7] at p12; exact p12.1) (fun j _ => by rw [sa_n (by omega)]), CDR_u (by rw [hx7] at p12; exact p12.2) (by rw [sa_n (by omega)]) (by rw [sa_n (by omega)]) (sa_n (by omega)) (sa_n (by omega)), ?_⟩
        show BZ _ bk x7.2.2 _
        rw [l7]
        exact BZ_moon Z12 h3 (by rw [v12.2.2.2]; exact (hr x1 hx1').1) (hr x1 hx1').2 (by rw [v12.2.2.1]; exact h5 x3 hx3') (by rw [v12.2.1]; exact h8 x5 hx5') (by rw [v12.1]; exact h11 x7 hx7')
      · obtain ⟨e, he, hf⟩ := hbad q8
        rw [if_pos q8, r212_142]
        refine hK _ ?_ F12
        rw [he]; exact hf
    · have h3 : ¬ z.1 1 < 3 := by split at hf <;> omega
      rw [push_i, r212_22 (by omega), if_neg (by simp), r212_25]
      refine hK M1 ?_ (fB_4 g1)
      rw [gMoon, if_neg h3]; exact l1
  rw [en212, r212_0 (by omega) (by omega) (by rw [ix, e37]; omega), ix, e37]
  by_cases q : z.1 1 < 3
  · rw [if_pos (by omega), r212_18]
    exact go 0 (by rw [if_pos q])
  · rw [if_neg (by omega), r212_14]
    exact go 1 (by rw [if_neg q])
end RFak
