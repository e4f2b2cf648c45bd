/-! Both sides: the other calls. -/
section CPL4
variable {d : Nat} {X : Nat × (Nat → Int)} {v : Nat → Int} {M : PH} {K : PV → PV → PS → Prop} {T : Int}
theorem p_fault (h : CP M v T) {x : Int} (hx : inR x) (hK : ∀ M' v' (y : Int), CP M' v' (T + 100) → K (vI y) (vI y) (GF X, M', PTF v')) {Q : PV → PS → Prop} (hQ : ∀ (y9 : Int) M1 v1, pm_Call (d + 60) 223 [vA 234, vI x] (GF X, M1, PTF v1) (fun r' S' => K (vI y9) r' S') → Q (vI y9) (GF X, M1, PTF v1)) : pm_Call (d + 60) 135 [vA 0, vI x] (GF X, M, PTF v) Q := by
  obtain ⟨b, n, a, F, μ, B, N, rf, sd, A, P, R, sp, sh, pi, fe, hI, hR⟩ := h
  have hw := hI.2.2.1.2
  have hI2 := IC_S (T' := T + 100) hI (M' := M) (fun _ _ => rfl) (by omega)
  refine (q135 (d := d + 59) hI hx).mpr ?_
  refine hQ _ _ _ ?_
  refine (s223 (d := d + 59) hR hx).mpr ?_
  exact hK M v _ (CP_i hI2 hR)
theorem p_letter (h : CP M v T) {x y z : Int} (hx : inR x) (hy : inR y) (hz : inR z) (hK : ∀ M' v' (y : Int), CP M' v' (T + 100) → K (vI y) (vI y) (GF X, M', PTF v')) {Q : PV → PS → Prop} (hQ : ∀ (y9 : Int) M1 v1, pm_Call (d + 60) 262 [vA 234, vI x, vI y, vI z] (GF X, M1, PTF v1) (fun r' S' => K (vI y9) r' S') → Q (vI y9) (GF X, M1, PTF v1)) : pm_Call (d + 60) 137 [vA 0, vI x, vI y, vI z] (GF X, M, PTF v) Q := by
  obtain ⟨b, n, a, F, μ, B, N, rf, sd, A, P, R, sp, sh, pi, fe, hI, hR⟩ := h
  have hw := hI.2.2.1.2
  have hI2 := IC_S (T' := T + 100) hI (M' := M) (fun _ _ => rfl) (by omega)
  refine (q137 (d := d + 58) hI hx hy hz).mpr ?_
  refine hQ _ _ _ ?_
  refine (s262 (d := d + 58) hR.1 hR.2.2.2.2.2.2.2.2.2 hx hy hz).mpr ?_
  exact hK M v _ (CP_i hI2 hR)
theorem p_moon (h : CP M v T) {x y : Int} (hx : inR x) (hy : inR y) (hK : ∀ M' v' (y : Int), CP M' v' (T + 100) → K (vI y) (vI y) (GF X, M', PTF v')) {Q : PV → PS → Prop} (hQ : ∀ (y9 : Int) M1 v1, pm_Call (d + 60) 263 [vA 234, vI x, vI y] (GF X, M1, PTF v1) (fun r' S' => K (vI y9) r' S') → Q (vI y9) (GF X, M1, PTF v1)) : pm_Call (d + 60) 138 [vA 0, vI x, vI y] (GF X, M, PTF v) Q := by
  obtain ⟨b, n, a, F, μ, B, N, rf, sd, A, P, R, sp, sh, pi, fe, hI, hR⟩ := h
  have hw := hI.2.2.1.2
  have hI2 := IC_S (T' := T + 100) hI (M' := M) (fun _ _ => rfl) (by omega)
  refine (q138 (d := d + 57) hI hx hy).mpr ?_
  refine hQ _ _ _ ?_
  refine (c263 (d := d + 57) hR.1 hR.2.1 hw hx hy).mpr ?_
  exact hK M v _ (CP_i hI2 hR)
theorem p_harbor (h : CP M v T) {x y : Int} (hx : inR x) (hy : inR y) (hK : ∀ M' v' (y : Int), CP M' v' (T + 100) → K (vI y) (vI y) (GF X, M', PTF v')) {Q : PV → PS → Prop} (hQ : ∀ (y9 : Int) M1 v1, pm_Call (d + 60) 269 [vA 234, vI x, vI y] (GF X, M1, PTF v1) (fun r' S' => K (vI y9) r' S') → Q (vI y9) (GF X, M1, PTF v1)) : pm_Call (d + 60) 139 [vA 0, vI x, vI y] (GF X, M, PTF v) Q := by
  obtain ⟨b, n, a, F, μ, B, N, rf, sd, A, P, R, sp, sh, pi, fe, hI, hR⟩ := h
  have hw := hI.2.2.1.2
  refine q139 (d := d + 50) (T' := T + 100) hI (by omega) hx hy (fun M1 i1 f1 => ?_)
  have hR1 := IR_R hR f1
  refine hQ _ _ _ ?_
  refine c269 (d := d + 53) hR1.1 hR1.2.1 hw hx hy (fun M2 f2 => ?_)
  exact hK M2 v _ (CP_i (IC_S i1 (fw_S f2) (Int.le_refl _)) (IR_q f2 hR1))
theorem p_bids (h : CP M v T) {x y z : Int} (hx : inR x) (hy : inR y) (hz : inR z) (hK : ∀ M' v' (y : Int), CP M' v' (T + 100) → K (vI y) (vI y) (GF X, M', PTF v')) {Q : PV → PS → Prop} (hQ : ∀ (y9 : Int) M1 v1, pm_Call (d + 60) 270 [vA 234, vI x, vI y, vI z] (GF X, M1, PTF v1) (fun r' S' => K (vI y9) r' S') → Q (vI y9) (GF X, M1, PTF v1)) : pm_Call (d + 60) 140 [vA 0, vI x, vI y, vI z] (GF X, M, PTF v) Q := by
  obtain ⟨b, n, a, F, μ, B, N, rf, sd, A, P, R, sp, sh, pi, fe, hI, hR⟩ := h
  have hw := hI.2.2.1.2
  have hI2 := IC_S (T' := T + 100) hI (M' := M) (fun _ _ => rfl) (by omega)
  refine (q140 (d := d + 58) hI hx hy hz).mpr ?_
  refine hQ _ _ _ ?_
  refine (c270 (d := d + 58) hR.1 hR.2.1 hx hy hz).mpr ?_
  exact hK M v _ (CP_i hI2 hR)
theorem p_pull (h : CP M v T) {x y : Int} (hx : inR x) (hy : inR y) (hK : ∀ M' v' (y : Int), CP M' v' (T + 100) → K (vI y) (vI y) (GF X, M', PTF v')) {Q : PV → PS → Prop} (hQ : ∀ (y9 : Int) M1 v1, pm_Call (d + 60) 271 [vA 234, vI x, vI y] (GF X, M1, PTF v1) (fun r' S' => K (vI y9) r' S') → Q (vI y9) (GF X, M1, PTF v1)) : pm_Call (d + 60) 141 [vA 0, vI x, vI y] (GF X, M, PTF v) Q := by
  obtain ⟨b, n, a, F, μ, B, N, rf, sd, A, P, R, sp, sh, pi, fe, hI, hR⟩ := h
  have hw := hI.2.2.1.2
  refine q141 (d := d + 52) (T' := T + 100) hI (by omega) hx hy (fun M1 i1 f1 => ?_)
  have hR1 := IR_R hR f1
  refine hQ _ _ _ ?_
  refine c271 (d := d + 54) hR1.1 hR1.2.1 hw hx hy (fun M2 f2 => ?_)
  exact hK M2 v _ (CP_i (IC_S i1 (fw_S f2) (Int.le_refl _)) (IR_q f2 hR1))
theorem p_height (h : CP M v T) {x y : Int} (hx : inR x) (hy : inR y) (hK : ∀ M' v' (y : Int), CP M' v' (T + 100) → K (vI y) (vI y) (GF X, M', PTF v')) {Q : PV → PS → Prop} (hQ : ∀ (y9 : Int) M1 v1, pm_Call (d + 60) 272 [vA 234, vI x, vI y] (GF X, M1, PTF v1) (fun r' S' => K (vI y9) r' S') → Q (vI y9) (GF X, M1, PTF v1)) : pm_Call (d + 60) 142 [vA 0, vI x, vI y] (GF X, M, PTF v) Q := by
  obtain ⟨b, n, a, F, μ, B, N, rf, sd, A, P, R, sp, sh, pi, fe, hI, hR⟩ := h
  have hw := hI.2.2.1.2
  refine q142 (d := d + 52) (T' := T + 100) hI (by omega) hx hy (fun M1 i1 f1 => ?_)
  have hR1 := IR_R hR f1
  refine hQ _ _ _ ?_
  refine c272 (d := d + 51) hR1.1 hR1.2.1 hw hx hy (fun M2 f2 => ?_)
  exact hK M2 v _ (CP_i (IC_S i1 (fw_S f2) (Int.le_refl _)) (IR_q f2 hR1))
theorem p_ahead (h : CP M v T) {x y z : Int} (hx : inR x) (hy : inR y) (hz : inR z) (hK : ∀ M' v' (y : Int), CP M' v' (T + 100) → K (vI y) (vI y) (GF X, M', PTF v')) {Q : PV → PS → Prop} (hQ : ∀ (y9 : Int) M1 v1, pm_Call (d + 60) 273 [vA 234, vI x, vI y, vI z] (GF X, M1, PTF v1) (fun r' S' => K (vI y9) r' S') → Q (vI y9) (GF X, M1, PTF v1)) : pm_Call (d + 60) 143 [vA 0, vI x, vI y, vI z] (GF X, M, PTF v) Q := by
  obtain ⟨b, n, a, F, μ, B, N, rf, sd, A, P, R, sp, sh, pi, fe, hI, hR⟩ := h
  have hw := hI.2.2.1.2
  refine q143 (d := d + 52) (T' := T + 100) hI (by omega) hx hy hz (fun M1 i1 f1 => ?_)
  have hR1 := IR_R hR f1
  refine hQ _ _ _ ?_
  refine c273 (d := d + 51) hR1.1 hR1.2.1 hw hx hy hz (fun M2 f2 => ?_)
  exact hK M2 v _ (CP_i (IC_S i1 (fw_S f2) (Int.le_refl _)) (IR_q f2 hR1))
theorem p_broken (h : CP M v T) {x : Int} (hx : inR x) (hK : ∀ M' v' (y : Int), CP M' v' (T + 100) → K (vI y) (vI y) (GF X, M', PTF v')) {Q : PV → PS → Prop} (hQ : ∀ (y9 : Int) M1 v1, pm_Call (d + 60) 274 [vA 234, vI x] (GF X, M1, PTF v1) (fun r' S' => K (vI y9) r' S') → Q (vI y9) (GF X, M1, PTF v1)) : pm_Call (d + 60) 144 [vA 0, vI x] (GF X, M, PTF v) Q := by
  obtain ⟨b, n, a, F, μ, B, N, rf, sd, A, P, R, sp, sh, pi, fe, hI, hR⟩ := h
  have hw := hI.2.2.1.2
  refine q144 (d := d + 52) (T' := T + 100) hI (by omega) hx (fun M1 i1 f1 => ?_)
  have hR1 := IR_R hR f1
  refine hQ _ _ _ ?_
  refine c274 (d := d + 52) hR1.1 hR1.2.1 hw hx (fun M2 f2 => ?_)
  exact hK M2 v _ (CP_i (IC_S i1 (fw_S f2) (Int.le_refl _)) (IR_q f2 hR1))
theorem p_stranded (h : CP M v T) {x y : Int} (hx : inR x) (hy : inR y) (hK : ∀ M' v' (y : Int), CP M' v' (T + 100) → K (vI y) (vI y) (GF X, M', PTF v')) {Q : PV → PS → Prop} (hQ : ∀ (y9 : Int) M1 v1, pm_Call (d + 60) 276 [vA 234, vI x, vI y] (GF X, M1, PTF v1) (fun r' S' => K (vI y9) r' S') → Q (vI y9) (GF X, M1, PTF v1)) : pm_Call (d + 60) 145 [vA 0, vI x, vI y] (GF X, M, PTF v) Q := by
  obtain ⟨b, n, a, F, μ, B, N, rf, sd, A, P, R, sp, sh, pi, fe, hI, hR⟩ := h
  have hw := hI.2.2.1.2
  refine q145 (d := d + 52) (T' := T + 100) hI (by omega) hx hy (fun M1 i1 f1 => ?_)
  have hR1 := IR_R hR f1
  refine hQ _ _ _ ?_
  refine c276 (d := d + 51) hR1.1 hR1.2.1 hw hx hy (fun M2 f2 => ?_)
  exact hK M2 v _ (CP_i (IC_S i1 (fw_S f2) (Int.le_refl _)) (IR_q f2 hR1))
theorem p_wished (h : CP M v T) (hT9 : T < 800000000) {x y z : Int} (hx : inR x) (hy : inR y) (hz : inR z) (hK : ∀ M' v' (y : Int), CP M' v' (T + 100) → K (vI y) (vI y) (GF X, M', PTF v')) {Q : PV → PS → Prop} (hQ : ∀ (y9 : Int) M1 v1, pm_Call (d + 60) 287 [vA 234, vI x, vI y, vI z] (GF X, M1, PTF v1) (fun r' S' => K (vI y9) r' S') → Q (vI y9) (GF X, M1, PTF v1)) : pm_Call (d + 60) 153 [vA 0, vI x, vI y, vI z] (GF X, M, PTF v) Q := by
  obtain ⟨b, n, a, F, μ, B, N, rf, sd, A, P, R, sp, sh, pi, fe, hI, hR⟩ := h
  have hw := hI.2.2.1.2
  refine q153 (d := d + 52) (T' := T + 100) hI (by omega) hT9 hx hy hz (fun M1 i1 f1 => ?_)
  have hR1 := IR_R hR f1
  refine hQ _ _ _ ?_
  refine c287 (d := d + 52) hR1.1 hR1.2.1 hw hx hy hz (fun M2 f2 => ?_)
  exact hK M2 v _ (CP_i (IC_S i1 (fq_S f2) (Int.le_refl _)) (IR_qq f2 hR1))
theorem p_rest (h : CP M v T) (hT9 : T < 800000000) {x : Int} (hx : inR x) (hK : ∀ M' v' (y : Int), CP M' v' (T + 100) → K (vI y) (vI y) (GF X, M', PTF v')) {Q : PV → PS → Prop} (hQ : ∀ (y9 : Int) M1 v1, pm_Call (d + 60) 291 [vA 234, vI x] (GF X, M1, PTF v1) (fun r' S' => K (vI y9) r' S') → Q (vI y9) (GF X, M1, PTF v1)) : pm_Call (d + 60) 154 [vA 0, vI x] (GF X, M, PTF v) Q := by
  obtain ⟨b, n, a, F, μ, B, N, rf, sd, A, P, R, sp, sh, pi, fe, hI, hR⟩ := h
  have hw := hI.2.2.1.2
  refine q154 (d := d + 52) (T' := T + 100) hI (by omega) hT9 hx (fun M1 i1 f1 => ?_)
  have hR1 := IR_R hR f1
  refine hQ _ _ _ ?_
  refine c291 (d := d + 51) hR1.1 hR1.2.1 hw hx (fun M2 f2 => ?_)
  exact hK M2 v _ (CP_i (IC_S i1 (fq_S f2) (Int.le_refl _)) (IR_qq f2 hR1))
theorem p_across (h : CP M v T) {x y z : Int} (hx : inR x) (hy : inR y) (hz : inR z) (hK : ∀ M' v' (y : Int), CP M' v' (T + 100) → K (vI y) (vI y) (GF X, M', PTF v')) {Q : PV → PS → Prop} (hQ : ∀ (y9 : Int) M1 v1, pm_Call (d + 60) 294 [vA 234, vI x, vI y, vI z] (GF X, M1, PTF v1) (fun r' S' => K (vI y9) r' S') → Q (vI y9) (GF X, M1, PTF v1)) : pm_Call (d + 60) 155 [vA 0, vI x, vI y, vI z] (GF X, M, PTF v) Q := by
  obtain ⟨b, n, a, F, μ, B, N, rf, sd, A, P, R, sp, sh, pi, fe, hI, hR⟩ := h
  have hw := hI.2.2.1.2
  refine q155 (d := d + 52) (T' := T + 100) hI (by omega) hx hy hz (fun M1 i1 f1 => ?_)
  have hR1 := IR_R hR f1
  refine hQ _ _ _ ?_
  refine c294 (d := d + 51) hR1.1 hR1.2.1 hw hx hy hz (fun M2 f2 => ?_)
  exact hK M2 v _ (CP_i (IC_S i1 (fq_S f2) (Int.le_refl _)) (IR_qq f2 hR1))
theorem p_latest (h : CP M v T) {x y z : Int} (hx : inR x) (hy : inR y) (hz : inR z) (hK : ∀ M' v' (y : Int), CP M' v' (T + 100) → K (vI y) (vI y) (GF X, M', PTF v')) {Q : PV → PS → Prop} (hQ : ∀ (y9 : Int) M1 v1, pm_Call (d + 60) 295 [vA 234, vI x, vI y, vI z] (GF X, M1, PTF v1) (fun r' S' => K (vI y9) r' S') → Q (vI y9) (GF X, M1, PTF v1)) : pm_Call (d + 60) 156 [vA 0, vI x, vI y, vI z] (GF X, M, PTF v) Q := by
  obtain ⟨b, n, a, F, μ, B, N, rf, sd, A, P, R, sp, sh, pi, fe, hI, hR⟩ := h
  have hw := hI.2.2.1.2
  refine q156 (d := d + 52) (T' := T + 100) hI (by omega) hx hy hz (fun M1 i1 f1 => ?_)
  have hR1 := IR_R hR f1
  refine hQ _ _ _ ?_
  refine c295 (d := d + 51) hR1.1 hR1.2.1 hw hx hy hz (fun M2 f2 => ?_)
  exact hK M2 v _ (CP_i (IC_S i1 (fq_S f2) (Int.le_refl _)) (IR_qq f2 hR1))
theorem p_meet (h : CP M v T) {x : Int} (hx : inR x) (hK : ∀ M' v' (y : Int), CP M' v' (T + 100) → K (vI y) (vI y) (GF X, M', PTF v')) {Q : PV → PS → Prop} (hQ : ∀ (y9 : Int) M1 v1, pm_Call (d + 60) 296 [vA 234, vI x] (GF X, M1, PTF v1) (fun r' S' => K (vI y9) r' S') → Q (vI y9) (GF X, M1, PTF v1)) : pm_Call (d + 60) 157 [vA 0, vI x] (GF X, M, PTF v) Q := by
  obtain ⟨b, n, a, F, μ, B, N, rf, sd, A, P, R, sp, sh, pi, fe, hI, hR⟩ := h
  have hw := hI.2.2.1.2
  have hI2 := IC_S (T' := T + 100) hI (M' := M) (fun _ _ => rfl) (by omega)
  refine (q157 (d := d + 57) hI hx).mpr ?_
  refine hQ _ _ _ ?_
  refine (c296 (d := d + 58) hR.1 hR.2.1 hw hx).mpr ?_
  exact hK M v _ (CP_i hI2 hR)
theorem p_payers (h : CP M v T) {x : Int} (hx : inR x) (hK : ∀ M' v' (y : Int), CP M' v' (T + 100) → K (vI y) (vI y) (GF X, M', PTF v')) {Q : PV → PS → Prop} (hQ : ∀ (y9 : Int) M1 v1, pm_Call (d + 60) 299 [vA 234, vI x] (GF X, M1, PTF v1) (fun r' S' => K (vI y9) r' S') → Q (vI y9) (GF X, M1, PTF v1)) : pm_Call (d + 60) 159 [vA 0, vI x] (GF X, M, PTF v) Q := by
  obtain ⟨b, n, a, F, μ, B, N, rf, sd, A, P, R, sp, sh, pi, fe, hI, hR⟩ := h
  have hw := hI.2.2.1.2
  have hrw := hI.2.2.2.2.2.2.2.1.1
  refine q159 (d := d + 52) (T' := T + 100) hI (by omega) hx (fun M1 i1 f1 => ?_)
  have hR1 := IR_R hR f1
  refine hQ _ _ _ ?_
  refine c299 (d := d + 53) hR1.1 hR1.2.1 hw hrw.1 hR1.2.2.2.2.2.2.1 (fun k hk => (hrw.2.2 k hk).2.2) hx (fun M2 f2 => ?_)
  exact hK M2 v _ (CP_i (IC_S i1 (fq_S f2) (Int.le_refl _)) (IR_qq f2 hR1))
theorem p_octet (h : CP M v T) {x : Int} (hx : inR x) (hK : ∀ M' v' (y : Int), CP M' v' (T + 100) → K (vI y) (vI y) (GF X, M', PTF v')) {Q : PV → PS → Prop} (hQ : ∀ (y9 : Int) M1 v1, pm_Call (d + 60) 303 [vA 234, vI x] (GF X, M1, PTF v1) (fun r' S' => K (vI y9) r' S') → Q (vI y9) (GF X, M1, PTF v1)) : pm_Call (d + 60) 161 [vA 0, vI x] (GF X, M, PTF v) Q := by
  obtain ⟨b, n, a, F, μ, B, N, rf, sd, A, P, R, sp, sh, pi, fe, hI, hR⟩ := h
  have hw := hI.2.2.1.2
  have hI2 := IC_S (T' := T + 100) hI (M' := M) (fun _ _ => rfl) (by omega)
  refine (q161 (d := d + 59) hI hx).mpr ?_
  refine hQ _ _ _ ?_
  refine (c303 (d := d + 58) hR.2.2.2.2.2.2.2.1 hI.2.2.2.2.2.2.2.2.2.1.2 hx).mpr ?_
  exact hK M v _ (CP_i hI2 hR)
theorem p_status (h : CP M v T) {x : Int} (hx : inR x) (hK : ∀ M' v' (y : Int), CP M' v' (T + 100) → K (vI y) (vI y) (GF X, M', PTF v')) {Q : PV → PS → Prop} (hQ : ∀ (y9 : Int) M1 v1, pm_Call (d + 60) 225 [vA 234, vI x] (GF X, M1, PTF v1) (fun r' S' => K (vI y9) r' S') → Q (vI y9) (GF X, M1, PTF v1)) : pm_Call (d + 60) 163 [vA 0, vI x] (GF X, M, PTF v) Q := by
  obtain ⟨b, n, a, F, μ, B, N, rf, sd, A, P, R, sp, sh, pi, fe, hI, hR⟩ := h
  have hw := hI.2.2.1.2
  have hI2 := IC_S (T' := T + 100) hI (M' := M) (fun _ _ => rfl) (by omega)
  refine (q163 (d := d + 59) hI hx).mpr ?_
  refine hQ _ _ _ ?_
  refine (c225 (d := d + 58) hR.2.2.2.1 hx).mpr ?_
  exact hK M v _ (CP_i hI2 hR)
theorem p_image (h : CP M v T) (hK : ∀ M' v' (y : Int), CP M' v' (T + 100) → K (vI y) (vI y) (GF X, M', PTF v')) {Q : PV → PS → Prop} (hQ : ∀ (y9 : Int) M1 v1, pm_Call (d + 60) 302 [vA 234] (GF X, M1, PTF v1) (fun r' S' => K (vI y9) r' S') → Q (vI y9) (GF X, M1, PTF v1)) : pm_Call (d + 60) 160 [vA 0] (GF X, M, PTF v) Q := by
  obtain ⟨b, n, a, F, μ, B, N, rf, sd, A, P, R, sp, sh, pi, fe, hI, hR⟩ := h
  refine q160 (d := d + 52) (T' := T + 100) hI (by omega) (fun M1 i1 f1 => ?_)
  refine hQ _ _ _ ?_
  exact s302 (d := d + 57) (IR_R hR f1) hI.2.2.1.2 (fun M2 r2 f2 => hK M2 v _ (CP_i (IC_S i1 f2 (Int.le_refl _)) r2))
theorem p_bid (h : CP M v T) {x y z : Int} (hx : inR x) (hy : inR y) (hz : inR z) (hK : ∀ M' v' (y : Int), CP M' v' (T + 100) → K (vI y) (vI y) (GF X, M', PTF v')) {Q : PV → PS → Prop} (hQ : ∀ (y9 : Int) M1 v1, pm_Call (d + 60) 277 [vA 234, vI x, vI y, vI z] (GF X, M1, PTF v1) (fun r' S' => K (vI y9) r' S') → Q (vI y9) (GF X, M1, PTF v1)) : pm_Call (d + 60) 146 [vA 0, vI x, vI y, vI z] (GF X, M, PTF v) Q := by
  obtain ⟨b, n, a, F, μ, B, N, rf, sd, A, P, R, sp, sh, pi, fe, hI, hR⟩ := h
  refine a146 (d := d + 56) (T' := T + 100) hI (by omega) hx hy hz (fun q M1 v1 i1 f1 => ?_) (fun q M1 v1 i1 f1 => ?_)
  · refine hQ _ _ _ ?_
    exact s277 (d := d + 56) (IR_R hR f1) hx hy hz (fun _ M2 r2 f2 => hK M2 v1 _ (CP_i (IC_S i1 f2 (Int.le_refl _)) r2)) (fun z => absurd z q)
  · refine hQ _ _ _ ?_
    exact s277 (d := d + 56) (IR_R hR f1) hx hy hz (fun z => absurd q z) (fun _ M2 r2 f2 => hK M2 v1 _ (CP_i (IC_S i1 f2 (Int.le_refl _)) r2))
theorem p_give (h : CP M v T) {x y z : Int} (hx : inR x) (hy : inR y) (hz : inR z) (hK : ∀ M' v' (y : Int), CP M' v' (T + 100) → K (vI y) (vI y) (GF X, M', PTF v')) {Q : PV → PS → Prop} (hQ : ∀ (y9 : Int) M1 v1, pm_Call (d + 60) 278 [vA 234, vI x, vI y, vI z] (GF X, M1, PTF v1) (fun r' S' => K (vI y9) r' S') → Q (vI y9) (GF X, M1, PTF v1)) : pm_Call (d + 60) 147 [vA 0, vI x, vI y, vI z] (GF X, M, PTF v) Q := by
  obtain ⟨b, n, a, F, μ, B, N, rf, sd, A, P, R, sp, sh, pi, fe, hI, hR⟩ := h
  refine a147 (d := d + 56) (T' := T + 100) hI (by omega) hx hy hz (fun q M1 v1 i1 f1 => ?_) (fun q M1 v1 i1 f1 => ?_)
  · refine hQ _ _ _ ?_
    exact s278 (d := d + 56) (IR_R hR f1) hI.2.2.1.2 hx hy hz (fun _ M2 r2 f2 => hK M2 v1 _ (CP_i (IC_S i1 f2 (Int.le_refl _)) r2)) (fun z => absurd z q)
  · refine hQ _ _ _ ?_
    exact s278 (d := d + 56) (IR_R hR f1) hI.2.2.1.2 hx hy hz (fun z => absurd q z) (fun _ M2 r2 f2 => hK M2 v1 _ (CP_i (IC_S i1 f2 (Int.le_refl _)) r2))
theorem p_soothe (h : CP M v T) {x z : Int} (hx : inR x) (hz : inR z) (hK : ∀ M' v' (y : Int), CP M' v' (T + 100) → K (vI y) (vI y) (GF X, M', PTF v')) {Q : PV → PS → Prop} (hQ : ∀ (y9 : Int) M1 v1, pm_Call (d + 60) 279 [vA 234, vI x, vI z] (GF X, M1, PTF v1) (fun r' S' => K (vI y9) r' S') → Q (vI y9) (GF X, M1, PTF v1)) : pm_Call (d + 60) 148 [vA 0, vI x, vI z] (GF X, M, PTF v) Q := by
  obtain ⟨b, n, a, F, μ, B, N, rf, sd, A, P, R, sp, sh, pi, fe, hI, hR⟩ := h
  refine a148 (d := d + 56) (T' := T + 100) hI (by omega) hx hz (fun q M1 v1 i1 f1 => ?_) (fun q M1 v1 i1 f1 => ?_)
  · refine hQ _ _ _ ?_
    exact s279 (d := d + 56) (IR_R hR f1) hx hz (fun _ M2 r2 f2 => hK M2 v1 _ (CP_i (IC_S i1 f2 (Int.le_refl _)) r2)) (fun z => absurd z q)
  · refine hQ _ _ _ ?_
    exact s279 (d := d + 56) (IR_R hR f1) hx hz (fun z => absurd q z) (fun _ M2 r2 f2 => hK M2 v1 _ (CP_i (IC_S i1 f2 (Int.le_refl _)) r2))
theorem p_hours (h : CP M v T) {x : Int} (hx : inR x) (hK : ∀ M' v' (y : Int), CP M' v' (T + 100) → K (vI y) (vI y) (GF X, M', PTF v')) {Q : PV → PS → Prop} (hQ : ∀ (y9 : Int) M1 v1, pm_Call (d + 60) 280 [vA 234, vI x] (GF X, M1, PTF v1) (fun r' S' => K (vI y9) r' S') → Q (vI y9) (GF X, M1, PTF v1)) : pm_Call (d + 60) 149 [vA 0, vI x] (GF X, M, PTF v) Q := by
  obtain ⟨b, n, a, F, μ, B, N, rf, sd, A, P, R, sp, sh, pi, fe, hI, hR⟩ := h
  refine a149 (d := d + 53) (T' := T + 100) hI (by omega) hx (fun q M1 v1 i1 f1 => ?_) (fun q M1 v1 i1 f1 => ?_)
  · refine hQ _ _ _ ?_
    exact s280 (d := d + 52) (IR_R hR f1) hI.2.2.1.2 hx (fun _ M2 r2 f2 => hK M2 v1 _ (CP_i (IC_S i1 f2 (Int.le_refl _)) r2)) (fun z => by rw [q] at z; cases z)
  · refine hQ _ _ _ ?_
    exact s280 (d := d + 52) (IR_R hR f1) hI.2.2.1.2 hx (fun z => by rw [q] at z; cases z) (fun _ M2 r2 f2 => hK M2 v1 _ (CP_i (IC_S i1 f2 (Int.le_refl _)) r2))
theorem p_storms (h : CP M v T) {x : Int} (hx : inR x) (hK : ∀ M' v' (y : Int), CP M' v' (T + 100) → K (vI y) (vI y) (GF X, M', PTF v')) {Q : PV → PS → Prop} (hQ : ∀ (y9 : Int) M1 v1, pm_Call (d + 60) 282 [vA 234, vI x] (GF X, M1, PTF v1) (fun r' S' => K (vI y9) r' S') → Q (vI y9) (GF X, M1, PTF v1)) : pm_Call (d + 60) 150 [vA 0, vI x] (GF X, M, PTF v) Q := by
  obtain ⟨b, n, a, F, μ, B, N, rf, sd, A, P, R, sp, sh, pi, fe, hI, hR⟩ := h
  have hsd : 0 ≤ sd ∧ sd < 2147483648 := hI.2.2.2.1.2.2.2.2
  refine a150 (d := d + 53) (T' := T + 100) hI (by omega) hx (fun q M1 v1 i1 f1 => ?_) (fun q M1 v1 i1 f1 => ?_)
  · refine hQ _ _ _ ?_
    exact s282 (d := d + 52) (IR_R hR f1) hI.2.2.1.2 hsd hx (fun _ M2 r2 f2 => hK M2 v1 _ (CP_i (IC_S i1 f2 (Int.le_refl _)) r2)) (fun z => by rw [q] at z; cases z)
  · refine hQ _ _ _ ?_
    exact s282 (d := d + 52) (IR_R hR f1) hI.2.2.1.2 hsd hx (fun z => by rw [q] at z; cases z) (fun _ M2 r2 f2 => hK M2 v1 _ (CP_i (IC_S i1 f2 (Int.le_refl _)) r2))
theorem p_feed (h : CP M v T) {x1 x2 x3 x4 x5 : Int} (hK : ∀ M' v' (y : Int), CP M' v' (T + 100) → K (vI y) (vI y) (GF X, M', PTF v')) {Q : PV → PS → Prop} (hQ : ∀ (y9 : Int) M1 v1, pm_Call (d + 60) 181 [vA 234, vI x1, vI x2, vI x3, vI x4, vI x5] (GF X, M1, PTF v1) (fun r' S' => K (vI y9) r' S') → Q (vI y9) (GF X, M1, PTF v1)) : pm_Call (d + 60) 132 [vA 0, vI x1, vI x2, vI x3, vI x4, vI x5] (GF X, M, PTF v) Q := by
  obtain ⟨b, n, a, F, μ, B, N, rf, sd, A, P, R, sp, sh, pi, fe, hI, hR⟩ := h
  refine a132 (d := d + 58) (T' := T + 100) hI (by omega) (fun q M1 i1 f1 => ?_) (fun q M1 i1 f1 => ?_)
  · refine hQ _ _ _ ?_
    exact s181 (d := d + 58) (IR_R hR f1) (fun _ M2 r2 f2 => hK M2 v _ (CP_i (IC_S i1 f2 (Int.le_refl _)) r2)) (fun z => by omega)
  · refine hQ _ _ _ ?_
    exact s181 (d := d + 58) (IR_R hR f1) (fun z => by omega) (fun _ M2 r2 f2 => hK M2 v _ (CP_i (IC_S i1 f2 (Int.le_refl _)) r2))
end CPL4
