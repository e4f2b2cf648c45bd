/-! Both sides in one state. -/
def CP (M : PH) (v : Nat → Int) (T : Int) : Prop := ∃ (b : Nat) (n : Nat → Nat) (a : PH) (F : Nat → List Int) (μ : PH) (B : Nat → Int) (N : Nat) (rf : Nat → Int) (sd : Int) (A : Nat) (P : Nat → PH) (R : Nat) (sp sh : Nat → Int) (pi : PB2) (fe : Int × Int), IC M v n a F μ B N rf sd A P R sp sh pi fe T ∧ IR M b n a F μ B N rf sd A P R sp sh pi fe
section CPL2
variable {d : Nat} {X : Nat × (Nat → Int)} {v : Nat → Int} {M : PH} {K : PV → PV → PS → Prop} {T : Int}
theorem p_has (h : CP M v T) {x : Int} (hx : inR x) (hK : ∀ M' v' (y : Int), CP M' v' (T + 100) → K (vI y) (vI y) (GF X, M', PTF v')) {Q : PV → PS → Prop} (hQ : ∀ (y9 : Int) M1 v1, pm_Call (d + 60) 261 [vA 234, vI x] (GF X, M1, PTF v1) (fun r' S' => K (vI y9) r' S') → Q (vI y9) (GF X, M1, PTF v1)) : pm_Call (d + 60) 136 [vA 0, vI x] (GF X, M, PTF v) Q := by
  obtain ⟨b, n, a, F, μ, B, N, rf, sd, A, P, R, sp, sh, pi, fe, hI, hR⟩ := h
  have hI2 := IC_S (T' := T + 100) hI (M' := M) (fun _ _ => rfl) (by omega)
  refine (q136 (d := d + 57) hI hx).mpr ?_
  have hA : M 234 61 = (A : Int) := by
    obtain ⟨-, -, -, -, -, ⟨y, -, -, -, u4, -⟩, -⟩ := hR
    exact u4
  refine hQ _ _ _ ?_
  refine (c261 (d := d + 58) hR.1 hR.2.1 hI.2.2.1.2 hA hR.2.2.2.2.1 hx).mpr ?_
  exact hK M v _ ⟨b, n, a, F, μ, B, N, rf, sd, A, P, R, sp, sh, pi, fe, hI2, hR⟩
end CPL2
