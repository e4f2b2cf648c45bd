/-! The reference's reader of statements: pulling, earning, clausing. -/
section RFaq
variable {d b w bk D : Nat} {X : Nat × (Nat → Int)} {v : Nat → Int} {M M' M2 : PH} {K : PV → PS → Prop} {B : Nat → Int} {N : Nat} {κ : KP} {o op : Nat} {l e S S0 Q : List Int} {s : ST} {n : Nat → Nat} {a : PH} {z : CZ} {P : Nat → Nat → Prop}
theorem gForm_x {w : Int} {x : KP × Nat × List Int} (hr : rmf z w = true) (h : gFm B N w (sA B N (toS κ l)) = .inr x) : gForm B N κ l z w = .inr (x.1, x.2.2, zForm z (whf z w) (x.2.2.drop l.length) (decide (w = 10))) := by
  rw [gForm, if_pos hr, h]; rfl
theorem gForm_e {w : Int} {y : Int × Int} (hr : rmf z w = true) (h : gFm B N w (sA B N (toS κ l)) = .inl y) : gForm B N κ l z w = .inl y := by
  rw [gForm, if_pos hr, h]; rfl
/-- pulling -/
theorem t217 (hT : TX M B N) (h : OK M B N κ) (hc : CL M) (hk : (tok B N κ).1 = 1) (hl : l.length ≤ κ.1) (hd : CDR M bk l) (hZ : BZ M bk l z) (hK : ∀ M', QS2 M' bk B N (gForm B N κ l z 11) → fB bk M M' → K PU (GF X, M', PTF v)) : pm_Call (d + 8) 217 [vA 234] (GF X, M, PTF v) K := by
  obtain ⟨e42, hb⟩ := hZ.2.2.1.1
  have ix : (M 234 42).toNat = bk := by omega
  have hκ := h.2.2.2.1
  have ad := adv_p hT.1 hT.2.1 hκ (by omega)
  have go : ∀ f : Int, (f = if z.2.2.1 0 = [] then 0 else 1) → pm_Run (d + 7) 217 19 [vA 234] [vI f, vA 234] (GF X, M, PTF v) K := fun f hf => by
    rw [r217_19]
    refine c207 (d := d + 4) hT h hc hk (by split at hf <;> omega) (fun f0 M1 o1 g1 => ?_) (fun f1 M1 l1 g1 => ?_)
    · have h3 : z.2.2.1 0 = [] := by
        by_cases q : z.2.2.1 0 = []
        · exact q
        · rw [if_neg q] at hf; omega
      have hr : rmf z 11 = true := by
        show decide (z.2.2.1 0 = []) = true
        simpa using h3
      have F1 : fB bk M M1 := fB_4 g1
      have f42 : M1 234 42 = (bk : Int) := (g1.2 42 (by omega) (by omega)).trans e42
      have ix1 : (M1 234 42).toNat = bk := by omega
      have d1 : CDR M1 bk l := CDR_f hd g1
      have p0 : PRS M1 bk B N (sA B N (toS κ l)) := ⟨o1, d1⟩
      rw [push_i, r217_22 (by omega), if_pos (by omega), r217_26 (by omega) (by omega), ix1, d1.2.2.1]
      have F2 : fB bk M (pm_sa M1 253 (pm_up (M1 253) bk (l.length : Int))) := fB_t F1 (fB_q (by omega) (by show 1 * bk ≤ bk ∧ bk < 1 * bk + 1; omega))
      have p2 : PRS (pm_sa M1 253 (pm_up (M1 253) bk (l.length : Int))) bk B N (sA B N (toS κ l)) := PRS_i p0 (sa_n (by omega)) (sa_n (by omega)) (sa_n (by omega))
      have v2 : (pm_sa M1 253 (pm_up (M1 253) bk (l.length : Int))) 253 bk = (l.length : Int) := by rw [sa_s, up_s]
      have u2 : ∀ q, q ≠ 234 → q ≠ 253 → (pm_sa M1 253 (pm_up (M1 253) bk (l.length : Int))) q = M q := fun q z1 z2 => by rw [sa_n z2]; exact g1.1 q z1
      have w2 : (pm_sa M1 253 (pm_up (M1 253) bk (l.length : Int))) 234 42 = (bk : Int) := by rw [sa_n (by omega)]; exact f42
      generalize pm_sa M1 253 (pm_up (M1 253) bk (l.length : Int)) = M2 at F2 p2 v2 u2 w2
      rw [r217_39]
      refine t206 (d := d) (w := 11) (TX_B hT F2) p2 (fun κ' o' l' hs => ?_) rfl (fun M3 p3 g3 => ?_)
      · have hs : (Sum.inr (adv B N κ, 0, l) : ST) = .inr (κ', o', l') := hs
        injection hs with hs
        injection hs with a1 a2
        injection a2 with a2 a3
        subst a1; subst a2; subst a3
        exact ⟨rfl, by omega⟩
      · have i3 : M3 234 42 = (bk : Int) := (g3.2.1 42 (by omega) (by omega) (by omega) (by omega) (by omega) (by omega) (by omega)).trans w2
        have ix3 : (M3 234 42).toNat = bk := by omega
        have F3 : fB bk M M3 := fB_t F2 (fB_A g3)
        have F4 : ∀ x : Int, fB bk M (pm_sa M3 254 (pm_up (M3 254) bk x)) := fun x => fB_t F3 (fB_q (by omega) (by show 1 * bk ≤ bk ∧ bk < 1 * bk + 1; omega))
        rw [push_u, r217_44 (by omega) (by omega), ix3]
        refine hK _ ?_ (F4 _)
        rcases p3 with p3 | ⟨x, hx, k4, f4'⟩
        · revert p3
          cases hs : gFm B N 11 (sA B N (toS κ l)) with
          | inl y =>
            intro p3
            have p3 : FL M3 y := p3
            rw [gForm_e hr hs]
            show FL _ _
            unfold FL
            rw [sa_n (by omega)]; exact p3
          | inr x =>
            intro p3
            have p3 : OK M3 B N x.1 ∧ CDR M3 bk x.2.2 := p3
            have eg := gForm_x hr hs
            obtain ⟨-, -, e, y1, y2, y3, y4⟩ := gForm_p hT.1 hT.2.1 hκ hl eg
            have y1 : x.2.2 = l ++ e := y1
            have y2 : zForm z (whf z 11) (x.2.2.drop l.length) (decide ((11 : Int) = 10)) = zForm z 0 e false := y2
            rw [eg, y2]
            refine Or.inl ⟨OK_u p3.1 (fun j _ => by rw [sa_n (by omega)]), CDR_u p3.2 (by rw [sa_n (by omega)]) (by rw [sa_n (by omega)]) (sa_n (by omega)) (sa_n (by omega)), ?_⟩
            show BZ _ bk x.2.2 _
            rw [y1]
            refine BZ_one (i := 0) (f := 253) hZ (by simp) y3 y4 (by rw [sa_n (by omega)]; exact i3.trans e42.symm) (fun q k z1 z2 hu => ?_) ?_ ?_
            · have hq : 236 ≤ q ∧ q ≤ 262 ∧ q ≠ 259 ∧ q ≠ 260 := by unfold US at hu; omega
              rw [sa_n (by omega), g3.1 q (by omega) (by omega) (by omega) (by omega), u2 q (by omega) (by omega)]
            · rw [sa_n (by omega), g3.1 253 (by omega) (by omega) (by omega) (by omega)]; exact v2
            · rw [sa_s, up_s, p3.2.2.2.1, y1]
        · rw [gForm_x hr hx]
          refine Or.inr ⟨k4, ?_⟩
          unfold FL
          rw [sa_n (by omega)]; exact f4'
    · have h3 : ¬ z.2.2.1 0 = [] := by
        intro q
        rw [if_pos q] at hf; omega
      rw [push_i, r217_22 (by omega), if_neg (by simp), r217_25]
      refine hK M1 ?_ (fB_4 g1)
      rw [gForm, if_neg (show ¬ rmf z 11 = true from fun q => h3 (by
        have q : decide (z.2.2.1 0 = []) = true := q
        simpa using q))]
      exact l1
  have b5 := hZ.2.2.2.2
  by_cases q : z.2.2.1 0 = []
  · have e5 : M 253 bk = -1 := b5.1 q
    rw [en217, r217_0 (by omega) (by omega) (by rw [ix, e5]; omega), ix, e5, if_pos rfl, r217_18]
    exact go 0 (by rw [if_pos q])
  · obtain ⟨-, -, pre, post, x1, x2, -⟩ := b5.2.1 q
    have lp : pre.length ≤ 1600 := by
      have := hd.2.2.2.1
      rw [x1, List.length_append, List.length_append] at this; omega
    rw [en217, r217_0 (by omega) (by omega) (by rw [ix, x2]; omega), ix, x2, if_neg (by omega), r217_14]
    exact go 1 (by rw [if_neg q])
/-- earning -/
theorem t218 (hT : TX M B N) (h : OK M B N κ) (hc : CL M) (hk : (tok B N κ).1 = 1) (hl : l.length ≤ κ.1) (hd : CDR M bk l) (hZ : BZ M bk l z) (hK : ∀ M', QS2 M' bk B N (gForm B N κ l z 12) → fB bk M M' → K PU (GF X, M', PTF v)) : pm_Call (d + 8) 218 [vA 234] (GF X, M, PTF v) K := by
  obtain ⟨e42, hb⟩ := hZ.2.2.1.1
  have ix : (M 234 42).toNat = bk := by omega
  have hκ := h.2.2.2.1
  have ad := adv_p hT.1 hT.2.1 hκ (by omega)
  have go : ∀ f : Int, (f = if z.2.2.1 1 = [] then 0 else 1) → pm_Run (d + 7) 218 19 [vA 234] [vI f, vA 234] (GF X, M, PTF v) K := fun f hf => by
    rw [r218_19]
    refine c207 (d := d + 4) hT h hc hk (by split at hf <;> omega) (fun f0 M1 o1 g1 => ?_) (fun f1 M1 l1 g1 => ?_)
    · have h3 : z.2.2.1 1 = [] := by
        by_cases q : z.2.2.1 1 = []
        · exact q
        · rw [if_neg q] at hf; omega
      have hr : rmf z 12 = true := by
        show decide (z.2.2.1 1 = []) = true
        simpa using h3
      have F1 : fB bk M M1 := fB_4 g1
      have f42 : M1 234 42 = (bk : Int) := (g1.2 42 (by omega) (by omega)).trans e42
      have ix1 : (M1 234 42).toNat = bk := by omega
      have d1 : CDR M1 bk l := CDR_f hd g1
      have p0 : PRS M1 bk B N (sA B N (toS κ l)) := ⟨o1, d1⟩
      rw [push_i, r218_22 (by omega), if_pos (by omega), r218_26 (by omega) (by omega), ix1, d1.2.2.1]
      have F2 : fB bk M (pm_sa M1 255 (pm_up (M1 255) bk (l.length : Int))) := fB_t F1 (fB_q (by omega) (by show 1 * bk ≤ bk ∧ bk < 1 * bk + 1; omega))
      have p2 : PRS (pm_sa M1 255 (pm_up (M1 255) bk (l.length : Int))) bk B N (sA B N (toS κ l)) := PRS_i p0 (sa_n (by omega)) (sa_n (by omega)) (sa_n (by omega))
      have v2 : (pm_sa M1 255 (pm_up (M1 255) bk (l.length : Int))) 255 bk = (l.length : Int) := by rw [sa_s, up_s]
      have u2 : ∀ q, q ≠ 234 → q ≠ 255 → (pm_sa M1 255 (pm_up (M1 255) bk (l.length : Int))) q = M q := fun q z1 z2 => by rw [sa_n z2]; exact g1.1 q z1
      have w2 : (pm_sa M1 255 (pm_up (M1 255) bk (l.length : Int))) 234 42 = (bk : Int) := by rw [sa_n (by omega)]; exact f42
      generalize pm_sa M1 255 (pm_up (M1 255) bk (l.length : Int)) = M2 at F2 p2 v2 u2 w2
      rw [r218_39]
      refine t206 (d := d) (w := 12) (TX_B hT F2) p2 (fun κ' o' l' hs => ?_) rfl (fun M3 p3 g3 => ?_)
      · have hs : (Sum.inr (adv B N κ, 0, l) : ST) = .inr (κ', o', l') := hs
        injection hs with hs
        injection hs with a1 a2
        injection a2 with a2 a3
        subst a1; subst a2; subst a3
        exact ⟨rfl, by omega⟩
      · have i3 : M3 234 42 = (bk : Int) := (g3.2.1 42 (by omega) (by omega) (by omega) (by omega) (by omega) (by omega) (by omega)).trans w2
        have ix3 : (M3 234 42).toNat = bk := by omega
        have F3 : fB bk M M3 := fB_t F2 (fB_A g3)
        have F4 : ∀ x : Int, fB bk M (pm_sa M3 256 (pm_up (M3 256) bk x)) := fun x => fB_t F3 (fB_q (by omega) (by show 1 * bk ≤ bk ∧ bk < 1 * bk + 1; omega))
        rw [push_u, r218_44 (by omega) (by omega), ix3]
        refine hK _ ?_ (F4 _)
        rcases p3 with p3 | ⟨x, hx, k4, f4'⟩
        · revert p3
          cases hs : gFm B N 12 (sA B N (toS κ l)) with
          | inl y =>
            intro p3
            have p3 : FL M3 y := p3
            rw [gForm_e hr hs]
            show FL _ _
            unfold FL
            rw [sa_n (by omega)]; exact p3
          | inr x =>
            intro p3
            have p3 : OK M3 B N x.1 ∧ CDR M3 bk x.2.2 := p3
            have eg := gForm_x hr hs
            obtain ⟨-, -, e, y1, y2, y3, y4⟩ := gForm_p hT.1 hT.2.1 hκ hl eg
            have y1 : x.2.2 = l ++ e := y1
            have y2 : zForm z (whf z 12) (x.2.2.drop l.length) (decide ((12 : Int) = 10)) = zForm z 1 e false := y2
            rw [eg, y2]
            refine Or.inl ⟨OK_u p3.1 (fun j _ => by rw [sa_n (by omega)]), CDR_u p3.2 (by rw [sa_n (by omega)]) (by rw [sa_n (by omega)]) (sa_n (by omega)) (sa_n (by omega)), ?_⟩
            show BZ _ bk x.2.2 _
            rw [y1]
            refine BZ_one (i := 1) (f := 255) hZ (by simp) y3 y4 (by rw [sa_n (by omega)]; exact i3.trans e42.symm) (fun q k z1 z2 hu => ?_) ?_ ?_
            · have hq : 236 ≤ q ∧ q ≤ 262 ∧ q ≠ 259 ∧ q ≠ 260 := by unfold US at hu; omega
              rw [sa_n (by omega), g3.1 q (by omega) (by omega) (by omega) (by omega), u2 q (by omega) (by omega)]
            · rw [sa_n (by omega), g3.1 255 (by omega) (by omega) (by omega) (by omega)]; exact v2
            · rw [sa_s, up_s, p3.2.2.2.1, y1]
        · rw [gForm_x hr hx]
          refine Or.inr ⟨k4, ?_⟩
          unfold FL
          rw [sa_n (by omega)]; exact f4'
    · have h3 : ¬ z.2.2.1 1 = [] := by
        intro q
        rw [if_pos q] at hf; omega
      rw [push_i, r218_22 (by omega), if_neg (by simp), r218_25]
      refine hK M1 ?_ (fB_4 g1)
      rw [gForm, if_neg (show ¬ rmf z 12 = true from fun q => h3 (by
        have q : decide (z.2.2.1 1 = []) = true := q
        simpa using q))]
      exact l1
  have b5 := hZ.2.2.2.2
  by_cases q : z.2.2.1 1 = []
  · have e5 : M 255 bk = -1 := b5.2.2.1 q
    rw [en218, r218_0 (by omega) (by omega) (by rw [ix, e5]; omega), ix, e5, if_pos rfl, r218_18]
    exact go 0 (by rw [if_pos q])
  · obtain ⟨-, -, pre, post, x1, x2, -⟩ := b5.2.2.2.1 q
    have lp : pre.length ≤ 1600 := by
      have := hd.2.2.2.1
      rw [x1, List.length_append, List.length_append] at this; omega
    rw [en218, r218_0 (by omega) (by omega) (by rw [ix, x2]; omega), ix, x2, if_neg (by omega), r218_14]
    exact go 1 (by rw [if_neg q])
end RFaq
