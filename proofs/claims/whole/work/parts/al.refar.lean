/-! The reference's reader of statements: clauses. -/
section RFar
variable {d b w bk D : Nat} {X : Nat × (Nat → Int)} {v : Nat → Int} {M M' M2 : PH} {K : PV → PS → Prop} {B : Nat → Int} {N : Nat} {κ : KP} {o op : Nat} {l e S S0 Q : List Int} {s : ST} {n : Nat → Nat} {a : PH} {z : CZ} {P : Nat → Nat → Prop}
/-- clausing -/
theorem t216 (hT : TX M B N) (h : OK M B N κ) (hc : CL M) (hk : (tok B N κ).1 = 1) (hl : l.length ≤ κ.1) (hd : CDR M bk l) (hZ : BZ M bk l z) (hK : ∀ M', QS2 M' bk B N (gForm B N κ l z 10) → fB bk M M' → K PU (GF X, M', PTF v)) : pm_Call (d + 8) 216 [vA 234] (GF X, M, PTF v) K := by
  obtain ⟨e42, hb⟩ := hZ.2.2.1.1
  have ix : (M 234 42).toNat = bk := by omega
  have hκ := h.2.2.2.1
  have ad := adv_p hT.1 hT.2.1 hκ (by omega)
  have e50 := hZ.2.1.2.2.1
  have b4 := hZ.1.1.2.2
  have go : ∀ f : Int, (f = if z.1 4 < 6 then 0 else 1) → pm_Run (d + 7) 216 20 [vA 234, PU] [vI f, vA 234] (GF X, M, PTF v) K := fun f hf => by
    rw [r216_20]
    refine c207 (d := d + 4) hT h hc hk (by split at hf <;> omega) (fun f0 M1 o1 g1 => ?_) (fun f1 M1 l1 g1 => ?_)
    · have h3 : z.1 4 < 6 := by split at hf <;> omega
      have hr : rmf z 10 = true := by
        show decide (z.1 4 < 6) = true
        simpa using h3
      have Z1 := BZ_4 hZ g1
      have F1 : fB bk M M1 := fB_4 g1
      have f42 : M1 234 42 = (bk : Int) := (g1.2 42 (by omega) (by omega)).trans e42
      have f50 : M1 250 bk = (z.1 4 : Int) := by rw [g1.1 250 (by omega)]; exact e50
      have ix1 : (M1 234 42).toNat = bk := by omega
      have d1 : CDR M1 bk l := CDR_f hd g1
      have p0 : PRS M1 bk B N (sA B N (toS κ l)) := ⟨o1, d1⟩
      have s0 : ((6 * (bk : Int)) + (z.1 4 : Int)).toNat = 6 * bk + z.1 4 := by omega
      rw [push_i, r216_23 (by omega), if_pos (by omega), r216_27 (by omega) (by omega) (by rw [ix1, f42, f50]; omega) (by rw [ix1, f42, f50]; omega), ix1, f42, f50, s0, d1.2.2.1]
      generalize hsl : (6 * (bk : Int)) + (z.1 4 : Int) = sl0
      have s1 : sl0.toNat = 6 * bk + z.1 4 := by omega
      have w51 : wd 251 * bk ≤ 6 * bk + z.1 4 ∧ 6 * bk + z.1 4 < wd 251 * bk + wd 251 := by show 6 * bk ≤ _ ∧ _ < 6 * bk + 6; omega
      have w52 : wd 252 * bk ≤ 6 * bk + z.1 4 ∧ 6 * bk + z.1 4 < wd 252 * bk + wd 252 := by show 6 * bk ≤ _ ∧ _ < 6 * bk + 6; omega
      have F2 : fB bk M (pm_sa M1 251 (pm_up (M1 251) (6 * bk + z.1 4) (l.length : Int))) := fB_t F1 (fB_q (by omega) w51)
      have p2 : PRS (pm_sa M1 251 (pm_up (M1 251) (6 * bk + z.1 4) (l.length : Int))) bk B N (sA B N (toS κ l)) := PRS_i p0 (sa_n (by omega)) (sa_n (by omega)) (sa_n (by omega))
      have v2 : (pm_sa M1 251 (pm_up (M1 251) (6 * bk + z.1 4) (l.length : Int))) 251 (6 * bk + z.1 4) = (l.length : Int) := by rw [sa_s, up_s]
      have Z2 : BZ (pm_sa M1 251 (pm_up (M1 251) (6 * bk + z.1 4) (l.length : Int))) bk l z := BZ_u Z1 (by rw [sa_n (by omega)]) (fun q k hu => by
        by_cases q1 : q = 251
        · subst q1
          rw [sa_s, up_n (by unfold US at hu; omega)]
        · rw [sa_n q1])
      generalize pm_sa M1 251 (pm_up (M1 251) (6 * bk + z.1 4) (l.length : Int)) = M2 at F2 p2 v2 Z2
      rw [r216_55]
      refine t206 (d := d) (w := 10) (TX_B hT F2) p2 (fun κ' o' l' hs => ?_) rfl (fun M3 p3 g3 => ?_)
      · have hs : (Sum.inr (adv B N κ, 0, l) : ST) = .inr (κ', o', l') := hs
        injection hs with hs
        injection hs with a1 a2
        injection a2 with a2 a3
        subst a1; subst a2; subst a3
        exact ⟨rfl, by omega⟩
      · have Z3 := BZ_A Z2 g3
        have v3 : M3 251 (6 * bk + z.1 4) = (l.length : Int) := by rw [g3.1 251 (by omega) (by omega) (by omega) (by omega)]; exact v2
        have F3 : fB bk M M3 := fB_t F2 (fB_A g3)
        rw [push_u, r216_60 (by omega) (by omega), s1]
        have F4 : fB bk M (pm_sa M3 252 (pm_up (M3 252) (6 * bk + z.1 4) (M3 234 41))) := fB_t F3 (fB_q (by omega) w52)
        have s4 : ∀ q, q ≠ 252 → (pm_sa M3 252 (pm_up (M3 252) (6 * bk + z.1 4) (M3 234 41))) q = M3 q := fun q hq => sa_n hq
        have v4 : (pm_sa M3 252 (pm_up (M3 252) (6 * bk + z.1 4) (M3 234 41))) 252 (6 * bk + z.1 4) = M3 234 41 := by rw [sa_s, up_s]
        have Z4 : BZ (pm_sa M3 252 (pm_up (M3 252) (6 * bk + z.1 4) (M3 234 41))) bk l z := BZ_u Z3 (by rw [sa_n (by omega)]) (fun q k hu => by
          by_cases q1 : q = 252
          · subst q1
            rw [sa_s, up_n (by unfold US at hu; omega)]
          · rw [sa_n q1])
        generalize pm_sa M3 252 (pm_up (M3 252) (6 * bk + z.1 4) (M3 234 41)) = M4 at F4 s4 v4 Z4
        have e8 : M4 234 8 = M3 234 8 := by rw [s4 234 (by omega)]
        have bad : ∀ y : Int × Int, FL M3 y → QS2 M4 bk B N (gForm B N κ l z 10) → pm_Run (d + 7) 216 70 [vA 234, vI sl0] [] (GF X, M4, PTF v) K := fun y hy hq => by
          have q1 := hy.1
          have q2 := hy.2.1
          rw [r216_70 (by omega), if_pos (by omega), r216_90]
          exact hK _ hq F4
        rcases p3 with p3 | ⟨x, hx, k4, f4'⟩
        · revert p3
          cases hs : gFm B N 10 (sA B N (toS κ l)) with
          | inl y =>
            intro p3
            have p3 : FL M3 y := p3
            refine bad y p3 ?_
            rw [gForm_e hr hs]
            show FL _ _
            unfold FL
            rw [s4 234 (by omega)]; exact p3
          | inr x =>
            intro p3
            have p3 : OK M3 B N x.1 ∧ CDR M3 bk x.2.2 := p3
            have h8 := p3.1.1
            have eg := gForm_x hr hs
            obtain ⟨-, -, e, y1, y2, y3, y4⟩ := gForm_p hT.1 hT.2.1 hκ hl eg
            have y1 : x.2.2 = l ++ e := y1
            have y2 : zForm z (whf z 10) (x.2.2.drop l.length) (decide ((10 : Int) = 10)) = zForm z (2 + z.1 4) e true := y2
            have i4 : M4 234 42 = (bk : Int) := Z4.2.2.1.1.1
            have i4' : (M4 234 42).toNat = bk := by omega
            rw [r216_70 (by omega), if_neg (by omega), r216_77 (by omega) (by omega), i4', Z4.2.1.2.2.1, r216_90]
            refine hK _ ?_ (fB_t F4 (fB_q (by omega) (by show 1 * bk ≤ bk ∧ bk < 1 * bk + 1; omega)))
            rw [eg, y2]
            refine Or.inl ⟨OK_u p3.1 (fun j _ => by rw [sa_n (by omega), s4 234 (by omega)]), CDR_u p3.2 (by rw [sa_n (by omega), s4 234 (by omega)]) (by rw [sa_n (by omega), s4 234 (by omega)]) (by rw [sa_n (by omega), s4 259 (by omega)]) (by rw [sa_n (by omega), s4 260 (by omega)]), ?_⟩
            show BZ _ bk x.2.2 _
            rw [y1]
            exact BZ_claus Z4 h3 y3 y4 (by rw [s4 251 (by omega)]; exact v3) (by rw [v4, p3.2.2.2.1, y1])
        · refine bad _ f4' ?_
          rw [gForm_x hr hx]
          refine Or.inr ⟨k4, ?_⟩
          unfold FL
          rw [s4 234 (by omega)]; exact f4'
    · have h3 : ¬ z.1 4 < 6 := by split at hf <;> omega
      rw [push_i, r216_23 (by omega), if_neg (by simp), r216_26]
      refine hK M1 ?_ (fB_4 g1)
      rw [gForm, if_neg (show ¬ rmf z 10 = true from fun q => h3 (by
        have q : decide (z.1 4 < 6) = true := q
        simpa using q))]
      exact l1
  rw [en216, r216_0 (by omega) (by omega) (by rw [ix, e50]; omega), ix, e50]
  by_cases q : z.1 4 < 6
  · rw [if_pos (by omega), r216_19]
    exact go 0 (by rw [if_pos q])
  · rw [if_neg (by omega), r216_15]
    exact go 1 (by rw [if_neg q])
end RFar
