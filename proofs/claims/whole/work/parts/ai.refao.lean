/-! The reference's reader of statements: owing. -/
section RFao
variable {d b w bk D : Nat} {X : Nat × (Nat → Int)} {v : Nat → Int} {M M' M2 : PH} {K : PV → PS → Prop} {B : Nat → Int} {N : Nat} {κ : KP} {e : Int × Int} {o op : Nat} {l S S0 Q : List Int} {s : ST} {n : Nat → Nat} {a : PH} {z : CZ} {P : Nat → Nat → Prop}
theorem t215 (hT : TX M B N) (h : OK M B N κ) (hc : CL M) (hk : (tok B N κ).1 = 1) (hd : CDR M bk l) (hZ : BZ M bk l z) (hK : ∀ M', QS2 M' bk B N (gOwes B N κ l z) → fB bk M M' → K PU (GF X, M', PTF v)) : pm_Call (d + 5) 215 [vA 234] (GF X, M, PTF v) K := by
  obtain ⟨e42, hb⟩ := hZ.2.2.1.1
  have ix : (M 234 42).toNat = bk := by omega
  have b0 := hZ.1.1
  have e46 := hZ.2.1.2.1
  have go : ∀ f : Int, (f = if z.1 3 < 16 then 0 else 1) → pm_Run (d + 4) 215 20 [vA 234, PU] [vI f, vA 234] (GF X, M, PTF v) K := fun f hf => by
    rw [r215_20]
    refine c207 (d := d + 1) hT h hc hk (by split at hf <;> omega) (fun f0 M1 o1 g1 => ?_) (fun f1 M1 l1 g1 => ?_)
    · have h3 : z.1 3 < 16 := by split at hf <;> omega
      rw [gOwes, if_pos h3] at hK
      have Z1 := BZ_4 hZ g1
      have F1 : fB bk M M1 := fB_4 g1
      have hT1 := TX_B hT F1
      have f42 : M1 234 42 = (bk : Int) := (g1.2 42 (by omega) (by omega)).trans e42
      have f46 : M1 246 bk = (z.1 3 : Int) := by rw [g1.1 246 (by omega)]; exact e46
      have ix1 : (M1 234 42).toNat = bk := by omega
      rw [push_i, r215_23 (by omega), if_pos (by omega), r215_27 (by omega) (by omega), ix1, f42, f46]
      have p0 : PRS M1 bk B N (sA B N (toS κ l)) := ⟨o1, CDR_f hd g1⟩
      let P : Nat → Nat → Prop := fun q k => (247 ≤ q ∧ q ≤ 249) ∧ k = 16 * bk + z.1 3
      have hP1 : ∀ q k, P q k → ¬ US z bk q k := fun q k hp hu => by
        have hp : (247 ≤ q ∧ q ≤ 249) ∧ k = 16 * bk + z.1 3 := hp
        unfold US at hu; omega
      have hP2 : ∀ q k, P q k → 236 ≤ q ∧ q ≤ 262 ∧ wd q * bk ≤ k ∧ k < wd q * bk + wd q := fun q k hp => by
        have hp : (247 ≤ q ∧ q ≤ 249) ∧ k = 16 * bk + z.1 3 := hp
        have : wd q = 16 := by unfold wd; rw [if_neg (by omega), if_neg (by omega), if_neg (by omega), if_pos (by omega)]
        rw [this]; omega
      generalize hsl : (16 * (bk : Int)) + (z.1 3 : Int) = sl0
      have s1 : sl0.toNat = 16 * bk + z.1 3 := by omega
      have s2 : 0 ≤ sl0 := by omega
      have s3 : sl0 < 32 := by omega
      refine t211 (d := d) hT1 p0 Z1.2.2.1 (Or.inr rfl) (fun M2 r2 p2 g2 b2 h2 => ?_)
      rw [← sHn_1] at p2 h2
      rw [push_i, r215_55 s2 s3, s1]
      have t3 : tc P M1 (pm_sa M2 247 (pm_up (M2 247) (16 * bk + z.1 3) r2)) := tc_t (tc_4 g2) (tc_q (by omega) ⟨by omega, rfl⟩)
      have p3 : PRS (pm_sa M2 247 (pm_up (M2 247) (16 * bk + z.1 3) r2)) bk B N (sHn B N z (-1) (sA B N (toS κ l))) := PRS_i p2 (sa_n (by omega)) (sa_n (by omega)) (sa_n (by omega))
      have v3 : (pm_sa M2 247 (pm_up (M2 247) (16 * bk + z.1 3) r2)) 247 (16 * bk + z.1 3) = r2 := by rw [sa_s, up_s]
      generalize pm_sa M2 247 (pm_up (M2 247) (16 * bk + z.1 3) r2) = M3 at t3 p3 v3
      have Z3 := BZ_tc Z1 t3 hP1
      generalize hs1 : sHn B N z (-1) (sA B N (toS κ l)) = st1 at p3 h2 hK
      rw [r215_56]
      refine t210 (d := d + 1) (TX_B hT1 (fB_tc t3 hP2)) p3 Z3.2.2.1 (Or.inr rfl) (fun M4 r4 p4 g4 b4 h4 => ?_)
      rw [push_i, r215_66 s2 s3, s1]
      have t5 : tc P M1 (pm_sa M4 248 (pm_up (M4 248) (16 * bk + z.1 3) r4)) := tc_t (tc_t t3 (tc_4 g4)) (tc_q (by omega) ⟨by omega, rfl⟩)
      have p5 : PRS (pm_sa M4 248 (pm_up (M4 248) (16 * bk + z.1 3) r4)) bk B N (sKl B N (decide (nix z.1 z.2.1 1 (vl B N st1) ≠ -1)) st1) := PRS_i p4 (sa_n (by omega)) (sa_n (by omega)) (sa_n (by omega))
      have v5 : (pm_sa M4 248 (pm_up (M4 248) (16 * bk + z.1 3) r4)) 248 (16 * bk + z.1 3) = r4 ∧ (pm_sa M4 248 (pm_up (M4 248) (16 * bk + z.1 3) r4)) 247 (16 * bk + z.1 3) = r2 := ⟨by rw [sa_s, up_s], by rw [sa_n (by omega), g4.1 247 (by omega)]; exact v3⟩
      generalize pm_sa M4 248 (pm_up (M4 248) (16 * bk + z.1 3) r4) = M5 at t5 p5 v5
      have F5 : fB bk M M5 := fB_t F1 (fB_tc t5 hP2)
      have es := sHn_l (B := B) (N := N) (z := z) (s := st1) (o := hOf B N z (sA B N (toS κ l)))
      have bad : ∀ (M' : PH) (e : Int × Int), FL M' e → fB bk M M' → sHn B N z (hOf B N z (sA B N (toS κ l))) st1 = .inl e → pm_Run (d + 4) 215 98 [vA 234, vI sl0] [] (GF X, M', PTF v) K := fun M' e hfl hfb he => by
        have q1 := hfl.1
        have q2 := hfl.2.1
        rw [r215_98 (by omega), if_neg (by omega), r215_105]
        refine hK M' ?_ hfb
        rw [he]; exact hfl
      revert p5 h4 es
      cases hs5 : sKl B N (decide (nix z.1 z.2.1 1 (vl B N st1) ≠ -1)) st1 with
      | inl e =>
        intro h4 p5 es
        have p5 : FL M5 e := p5
        have q1 := p5.1
        have q2 := p5.2.1
        rw [r215_67 (by omega), if_pos (by omega)]
        exact bad M5 e p5 F5 es
      | inr x =>
        intro h4 p5 es
        obtain ⟨hx, kx, -⟩ := sKl_k hs5
        have o5 : OK M5 B N x.1 := p5.1
        have h8 := o5.1
        obtain ⟨-, c5, -, -, -⟩ := OK_w o5 kx
        have r12 : inR (M5 234 12) := by have : M5 234 12 = -1 := c5; omega
        have e4 : r4 = nix z.1 z.2.1 1 (vl B N st1) := h4 x rfl
        have e2 : r2 = nix z.1 z.2.1 1 (vl B N (sA B N (toS κ l))) := h2 x hx
        have eo : hOf B N z (sA B N (toS κ l)) = r2 := by rw [e2]; rfl
        have es : sHn B N z (hOf B N z (sA B N (toS κ l))) st1 = (if r4 = r2 then sG B N 3 (.inr x) else sA B N (.inr x)) := by rw [es, ← e4, eo]
        rw [r215_67 (by omega), if_neg (by omega), r215_74 s2 s3 (by rw [s1, v5.2]; omega) (by rw [s1, v5.1]; omega), s1, v5.1, v5.2]
        by_cases q : r4 = r2
        · rw [if_neg (by simp [q]), r215_89, c183o h8, push_u, o5.2.2.1.2.1]
          rw [if_pos q, sG_i] at es
          exact bad _ _ (FL_89 (by omega) r12) (fB_t F5 (fB_4 f4_89)) es
        · rw [if_neg q] at es
          rw [if_pos (fun z => q z.symm), r215_98 (by omega), if_pos (by omega), r215_106]
          refine t187 (TX_B hT F5) o5 (by omega) (by omega) (fun M6 o6 g6 => ?_)
          have t6 := tc_t t5 (tc_4 g6)
          have p6 : PRS M6 bk B N (sHn B N z (hOf B N z (sA B N (toS κ l))) st1) := by rw [es]; exact ⟨o6, CDR_f p5.2 g6⟩
          rw [push_u, r215_110]
          refine t196 (d := d) (TX_B hT1 (fB_tc t6 hP2)) p6 (lo := 1) (hi := 999) (by omega) (by omega) (fun M7 y7 p7 g7 b7 h7 => ?_)
          rw [push_i, r215_123 s2 s3, s1]
          have t8 : tc P M1 (pm_sa M7 249 (pm_up (M7 249) (16 * bk + z.1 3) y7)) := tc_t (tc_t t6 (tc_4 g7)) (tc_q (by omega) ⟨by omega, rfl⟩)
          have p8 : PRS (pm_sa M7 249 (pm_up (M7 249) (16 * bk + z.1 3) y7)) bk B N (sN B N 1 999 (sHn B N z (hOf B N z (sA B N (toS κ l))) st1)) := PRS_i p7 (sa_n (by omega)) (sa_n (by omega)) (sa_n (by omega))
          have v8 : (pm_sa M7 249 (pm_up (M7 249) (16 * bk + z.1 3) y7)) 249 (16 * bk + z.1 3) = y7 ∧ (pm_sa M7 249 (pm_up (M7 249) (16 * bk + z.1 3) y7)) 248 (16 * bk + z.1 3) = r4 ∧ (pm_sa M7 249 (pm_up (M7 249) (16 * bk + z.1 3) y7)) 247 (16 * bk + z.1 3) = r2 := ⟨by rw [sa_s, up_s], by rw [sa_n (by omega), g7.1 248 (by omega), g6.1 248 (by omega)]; exact v5.1, by rw [sa_n (by omega), g7.1 247 (by omega), g6.1 247 (by omega)]; exact v5.2⟩
          generalize pm_sa M7 249 (pm_up (M7 249) (16 * bk + z.1 3) y7) = M8 at t8 p8 v8
          have F8 : fB bk M M8 := fB_t F1 (fB_tc t8 hP2)
          have Z8 := BZ_tc Z1 t8 hP1
          obtain ⟨r8, hbad, hgood⟩ := PRS_8 p8
          rw [r215_124 r8]
          by_cases q8 : M8 234 8 = 0
          · obtain ⟨x8, hx8⟩ := hgood q8
            have i8 : M8 234 42 = (bk : Int) := Z8.2.2.1.1.1
            have i8' : (M8 234 42).toNat = bk := by omega
            rw [if_neg (by simp [q8]), r215_131 (by omega) (by omega), i8', Z8.2.1.2.1, r215_144]
            have gp := gOwes_p (l := l) (z := z) (x := (x8.1, x8.2.2, zOwes z (hOf B N z (sA B N (toS κ l))) (hOf B N z (sHn B N z (-1) (sA B N (toS κ l)))) (vl B N (sHn B N z (hOf B N z (sA B N (toS κ l))) (sHn B N z (-1) (sA B N (toS κ l))))))) hT.1 hT.2.1 h.2.2.2.1 (by rw [gOwes, if_pos h3, hs1, hx8]; rfl)
            have l8 : x8.2.2 = l := gp.2.1
            refine hK _ ?_ (fB_t F8 (fB_q (by omega) (by show 1 * bk ≤ bk ∧ bk < 1 * bk + 1; omega)))
            rw [hx8]
            refine Or.inl ⟨OK_u (by rw [hx8] at p8; exact p8.1) (fun j _ => by rw [sa_n (by omega)]), CDR_u (by rw [hx8] at p8; exact p8.2) (by rw [sa_n (by omega)]) (by rw [sa_n (by omega)]) (sa_n (by omega)) (sa_n (by omega)), ?_⟩
            show BZ _ bk x8.2.2 _
            rw [l8]
            refine BZ_owes Z8 h3 (by rw [v8.2.2]; exact eo.symm) (by rw [v8.2.1]; exact e4) (by rw [v8.1]; exact h7 x8 hx8)
          · obtain ⟨e, he, hf⟩ := hbad q8
            rw [if_pos q8, r215_144]
            refine hK _ ?_ F8
            rw [he]; exact hf
    · have h3 : ¬ z.1 3 < 16 := by split at hf <;> omega
      rw [push_i, r215_23 (by omega), if_neg (by simp), r215_26]
      refine hK M1 ?_ (fB_4 g1)
      rw [gOwes, if_neg h3]; exact l1
  rw [en215, r215_0 (by omega) (by omega) (by rw [ix, e46]; omega), ix, e46]
  by_cases q : z.1 3 < 16
  · rw [if_pos (by omega), r215_19]
    exact go 0 (by rw [if_pos q])
  · rw [if_neg (by omega), r215_15]
    exact go 1 (by rw [if_neg q])
end RFao
