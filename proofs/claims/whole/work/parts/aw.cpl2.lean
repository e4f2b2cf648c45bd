/-! Both sides: end, seed, sea. -/
section CPL3
variable {d : Nat} {X : Nat × (Nat → Int)} {v : Nat → Int} {M : PH} {K : PV → PV → PS → Prop} {T : Int}
theorem CP_i {b : Nat} {n : Nat → Nat} {a : PH} {F : Nat → List Int} {μ : PH} {B : Nat → Int} {N : Nat} {rf : Nat → Int} {sd : Int} {A : Nat} {P : Nat → PH} {R : Nat} {sp sh : Nat → Int} {pi : PB2} {fe : Int × Int} (h : IC M v n a F μ B N rf sd A P R sp sh pi fe T) (h2 : IR M b n a F μ B N rf sd A P R sp sh pi fe) : CP M v T := ⟨b, n, a, F, μ, B, N, rf, sd, A, P, R, sp, sh, pi, fe, h, h2⟩
theorem p_end (h : CP M v T) {x : Int} (hx : inR x) (hK : ∀ M' v' (y : Int), CP M' v' (T + 100) → K (vI y) (vI y) (GF X, M', PTF v')) {Q : PV → PS → Prop} (hQ : ∀ (y9 : Int) M1 v1, pm_Call (d + 60) 182 [vA 234, vI x] (GF X, M1, PTF v1) (fun r' S' => K (vI y9) r' S') → Q (vI y9) (GF X, M1, PTF v1)) : pm_Call (d + 60) 133 [vA 0, vI x] (GF X, M, PTF v) Q := by
  obtain ⟨b, n, a, F, μ, B, N, rf, sd, A, P, R, sp, sh, pi, fe, hI, hR⟩ := h
  refine a133 (d := d + 58) (T' := T + 100) hI (by omega) hx (fun q M1 i1 f1 => ?_) (fun q M1 i1 f1 => ?_)
  · refine hQ _ _ _ ?_
    exact s182 (d := d + 58) (IR_R hR f1) hx (fun _ M2 r2 f2 => hK M2 v _ (CP_i (IC_S i1 f2 (Int.le_refl _)) r2)) (fun z => absurd z q)
  · refine hQ _ _ _ ?_
    exact s182 (d := d + 58) (IR_R hR f1) hx (fun z => absurd q z) (fun _ M2 r2 f2 => hK M2 v _ (CP_i (IC_S i1 f2 (Int.le_refl _)) r2))
theorem p_seed (h : CP M v T) {x : Int} (hx : inR x) (hK : ∀ M' v' (y : Int), CP M' v' (T + 100) → K (vI y) (vI y) (GF X, M', PTF v')) {Q : PV → PS → Prop} (hQ : ∀ (y9 : Int) M1 v1, pm_Call (d + 60) 283 [vA 234, vI x] (GF X, M1, PTF v1) (fun r' S' => K (vI y9) r' S') → Q (vI y9) (GF X, M1, PTF v1)) : pm_Call (d + 60) 152 [vA 0, vI x] (GF X, M, PTF v) Q := by
  obtain ⟨b, n, a, F, μ, B, N, rf, sd, A, P, R, sp, sh, pi, fe, hI, hR⟩ := h
  refine a152 (d := d + 58) (T' := T + 100) hI (by omega) hx (fun q M1 i1 f1 => ?_) (fun q M1 i1 f1 => ?_)
  · refine hQ _ _ _ ?_
    exact s283 (d := d + 58) (IR_R hR f1) hx (fun _ M2 r2 f2 => hK M2 v _ (CP_i (IC_S i1 f2 (Int.le_refl _)) r2)) (fun z => by omega)
  · refine hQ _ _ _ ?_
    exact s283 (d := d + 58) (IR_R hR f1) hx (fun z => by omega) (fun _ M2 r2 f2 => hK M2 v _ (CP_i (IC_S i1 f2 (Int.le_refl _)) r2))
theorem p_sea (h : CP M v T) (hK : ∀ M' v' (y : Int), CP M' v' (T + 100) → K (vI y) (vI y) (GF X, M', PTF v')) {Q : PV → PS → Prop} (hQ : ∀ (y9 : Int) M1 v1, pm_Call (d + 60) 222 [vA 234] (GF X, M1, PTF v1) (fun r' S' => K (vI y9) r' S') → Q (vI y9) (GF X, M1, PTF v1)) : pm_Call (d + 60) 134 [vA 0] (GF X, M, PTF v) Q := by
  obtain ⟨b, n, a, F, μ, B, N, rf, sd, A, P, R, sp, sh, pi, fe, hI, hR⟩ := h
  have hB := TP_BB hI.2.2.2.1.1
  refine a134 (d := d + 15) (T' := T + 100) hI (by omega) (fun e he M1 v1 i1 f1 => ?_) (fun k l z hk M1 v1 i1 f1 => ?_)
  · refine hQ _ _ _ ?_
    exact s222 (d := d + 50) (IR_R hR f1) hB (fun k l z q => by rw [he] at q; cases q) (fun e' he' M2 r2 f2 => by
      rw [he] at he'
      injection he' with he'
      subst he'
      exact hK M2 v1 _ (CP_i (IC_S i1 f2 (Int.le_refl _)) r2)) (fun k l z q => by rw [he] at q; cases q)
  · refine hQ _ _ _ ?_
    exact s222 (d := d + 50) (IR_R hR f1) hB (fun k' l' z' q => by
      rw [hk] at q
      injection q with q
      injection q with q1 q2
      injection q2 with q2 q3
      subst q3
      exact i1.2.1) (fun e' he' => by rw [hk] at he'; cases he') (fun k' l' z' q M2 r2 f2 => by
      rw [hk] at q
      injection q with q
      injection q with q1 q2
      injection q2 with q2 q3
      subst q1; subst q3
      exact hK M2 v1 _ (CP_i (IC_S i1 f2 (Int.le_refl _)) r2))
theorem p_undo (h : CP M v T) (hK : ∀ M' v' (y : Int), CP M' v' (T + 100) → K (vI y) (vI y) (GF X, M', PTF v')) {Q : PV → PS → Prop} (hQ : ∀ (y9 : Int) M1 v1, pm_Call (d + 60) 236 [vA 234] (GF X, M1, PTF v1) (fun r' S' => K (vI y9) r' S') → Q (vI y9) (GF X, M1, PTF v1)) : pm_Call (d + 60) 151 [vA 0] (GF X, M, PTF v) Q := by
  obtain ⟨b, n, a, F, μ, B, N, rf, sd, A, P, R, sp, sh, pi, fe, hI, hR⟩ := h
  refine a151 (d := d + 56) (T' := T + 100) hI (by omega) (fun q M1 v1 i1 f1 => ?_) (fun q M1 v1 i1 f1 => ?_)
  · refine hQ _ _ _ ?_
    exact s236 (d := d + 58) (IR_R hR f1) (fun _ M2 r2 f2 => hK M2 v1 _ (CP_i (IC_S i1 f2 (Int.le_refl _)) r2)) (fun z => by omega)
  · refine hQ _ _ _ ?_
    exact s236 (d := d + 58) (IR_R hR f1) (fun z => by omega) (fun _ M2 r2 f2 => hK M2 v1 _ (CP_i (IC_S i1 f2 (Int.le_refl _)) r2))
theorem p_see (h : CP M v T) (hK : ∀ M' v' (y : Int), CP M' v' (T + 100) → K (vI y) (vI y) (GF X, M', PTF v')) {Q : PV → PS → Prop} (hQ : ∀ (y9 : Int) M1 v1, pm_Call (d + 60) 297 [vA 234] (GF X, M1, PTF v1) (fun r' S' => K (vI y9) r' S') → Q (vI y9) (GF X, M1, PTF v1)) : pm_Call (d + 60) 158 [vA 0] (GF X, M, PTF v) Q := by
  obtain ⟨b, n, a, F, μ, B, N, rf, sd, A, P, R, sp, sh, pi, fe, hI, hR⟩ := h
  refine a158 (d := d + 57) (T' := T + 100) hI (by omega) (fun q M1 v1 i1 f1 => ?_) (fun q M1 v1 i1 f1 => ?_)
  · refine hQ _ _ _ ?_
    exact s297 (d := d + 58) (IR_R hR f1) (TP_BB hI.2.2.2.1.1) (fun _ M2 r2 f2 => hK M2 v1 _ (CP_i (IC_S i1 f2 (Int.le_refl _)) r2)) (fun z => absurd z q)
  · refine hQ _ _ _ ?_
    exact s297 (d := d + 58) (IR_R hR f1) (TP_BB hI.2.2.2.1.1) (fun z => absurd q z) (fun _ M2 r2 f2 => hK M2 v1 _ (CP_i (IC_S i1 f2 (Int.le_refl _)) r2))
theorem p_on (h : CP M v T) (hK : ∀ M' v' (y : Int), CP M' v' (T + 100) → K (vI y) (vI y) (GF X, M', PTF v')) {Q : PV → PS → Prop} (hQ : ∀ (y9 : Int) M1 v1, pm_Call (d + 60) 306 [vA 234] (GF X, M1, PTF v1) (fun r' S' => K (vI y9) r' S') → Q (vI y9) (GF X, M1, PTF v1)) : pm_Call (d + 60) 162 [vA 0] (GF X, M, PTF v) Q := by
  obtain ⟨b, n, a, F, μ, B, N, rf, sd, A, P, R, sp, sh, pi, fe, hI, hR⟩ := h
  refine a162 (d := d + 55) (T' := T + 100) hI (by omega) (fun q M1 v1 i1 f1 => ?_) (fun q M1 v1 i1 f1 => ?_)
  · refine hQ _ _ _ ?_
    exact s306 (d := d + 57) (IR_R hR f1) (TP_BB hI.2.2.2.1.1) (fun _ M2 r2 f2 => hK M2 v1 _ (CP_i (IC_S i1 f2 (Int.le_refl _)) r2)) (fun z => absurd z q)
  · refine hQ _ _ _ ?_
    exact s306 (d := d + 57) (IR_R hR f1) (TP_BB hI.2.2.2.1.1) (fun z => absurd q z) (fun _ M2 r2 f2 => hK M2 v1 _ (CP_i (IC_S i1 f2 (Int.le_refl _)) r2))
end CPL3
