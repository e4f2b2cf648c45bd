/-! Each side keeps its state while the other runs. -/
section CPL0
variable {b : Nat} {M M' : PH} {B : Nat → Int} {N : Nat} {n : Nat → Nat} {a : PH} {F : Nat → List Int} {μ : PH} {rf : Nat → Int} {sd : Int} {A : Nat} {P : Nat → PH} {R : Nat} {sp sh : Nat → Int} {pi : PB2} {fe : Int × Int}
theorem IR_R (h : IR M b n a F μ B N rf sd A P R sp sh pi fe) (hf : frR M M') : IR M' b n a F μ B N rf sd A P R sp sh pi fe := by
  obtain ⟨hS, hM, hT, hR, h62, hU, hG, hI, hF, hN⟩ := h
  have e : ∀ q, 234 ≤ q → M' q = M q := hf
  have wc := hS.2.2.1
  refine ⟨RS_b hS (by rw [e 234 (by omega)]) (fun q z1 z2 k z3 => by rw [e q (by omega)]), RM_v hM (fun q z1 z2 => e q (by omega)), ?_, ?_, by rw [e 234 (by omega)]; exact h62, ?_, ?_, ?_, by rw [e 234 (by omega)]; exact hF, RN_b hN ⟨wc.2.1, wc.2.2.1⟩ (fun q z1 z2 k z3 => by rw [e q (by omega)])⟩
  · unfold RTp at *
    rw [e 235 (by omega), e 234 (by omega)]; exact hT
  · unfold RRf at *
    rw [e 269 (by omega)]; exact hR
  · obtain ⟨x, u1, u2, u3, u4, u5⟩ := hU
    exact ⟨x, u1, u2, by rw [e 234 (by omega)]; exact u3, by rw [e 234 (by omega)]; exact u4, fun k hk => RM_v (u5 k hk) (fun q z1 z2 => e q (by omega))⟩
  · unfold RG at *
    rw [e 234 (by omega), e 280 (by omega), e 281 (by omega)]; exact hG
  · unfold RI at *
    rw [e 234 (by omega), e 282 (by omega)]; exact hI
end CPL0
section CPL1
variable {M M' : PH} {v : Nat → Int} {B : Nat → Int} {N : Nat} {n : Nat → Nat} {a : PH} {F : Nat → List Int} {μ : PH} {rf : Nat → Int} {sd : Int} {A : Nat} {P : Nat → PH} {R : Nat} {sp sh : Nat → Int} {pi : PB2} {fe : Int × Int} {T T' : Int}
theorem IC_S (h : IC M v n a F μ B N rf sd A P R sp sh pi fe T) (hf : frS M M') (hT : T ≤ T') : IC M' v n a F μ B N rf sd A P R sp sh pi fe T' := by
  obtain ⟨⟨c, c1, c2, c3, c4, c5, c6, c7, c8⟩, hw, h3, h4, h5, ⟨k, h6⟩, h7, h8, h9, h10, h11, h12⟩ := h
  have e : ∀ q, q < 234 → M' q = M q := hf
  have hc : c = 9 ∨ c = 35 := c1
  have hm : mo M' 3 = mo M 3 := mo_fr (fun i hi => e _ (by omega))
  refine ⟨⟨c, c1, c2, c3, c4, c5, c6, isC_fr (fun i hi => e _ (by omega)) c7, ?_⟩, hw, by rw [hm]; exact h3, tpI_f (e 0 (by omega)) (e 1 (by omega)) h4, rfI_f hT (e 2 (by omega)) h5, ⟨k, FI_f (fun q z1 z2 => e q (by omega)) h6⟩, BI_f (fun q z1 z2 => e q (by omega)) hT h7, WI_f (e 91 (by omega)) (e 101 (by omega)) (e 102 (by omega)) h8, ⟨PA_f (fun q z1 z2 => e q (by omega)) h9.1, h9.2⟩, ?_, ?_, ?_⟩
  · unfold nmI at *
    rw [e (c + 1) (by omega), e (c + 3) (by omega)]; exact c8
  · unfold isP at *
    rw [e 225 (by omega), e 226 (by omega)]; exact h10
  · rw [e 31 (by omega)]; exact h11
  · unfold KY at *
    rw [e 33 (by omega)]; exact h12
end CPL1
