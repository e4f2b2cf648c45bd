/-! Each side keeps its state while the other runs. -/
section CPL0
variable {b : Nat} {M M' : PH} {B : Nat → Int} {N : Nat} {n : Nat → Nat} {a : PH} {F : Nat → List Int} {μ : PH} {rf : Nat → Int} {sd : Int} {A : Nat} {P : Nat → PH} {R : Nat} {sp sh : Nat → Int} {pi : PB2} {fe : Int × Int}
theorem IR_R (h : IR M b n a F μ B N rf sd A P R sp sh pi fe) (hf : frR M M') : IR M' b n a F μ B N rf sd A P R sp sh pi fe := by
  obtain ⟨hS, hM, hT, hR, h62, hU, hG, hI, hF, hN⟩ := h
  have e : ∀ q, 234 ≤ q → M' q = M q := hf
  have wc := hS.2.2.1
  refine ⟨RS_b hS (by rw [e 234 (by omega)]) (fun q z1 z2 k z3 => by rw [e q (by omega)]), RM_v hM (fun q z1 z2 => e q (by omega)), ?_, ?_, by rw [e 234 (by omega)]; exact h62, ?_, ?_, ?_, by rw [e 234 (by omega)]; exact hF, RN_b hN ⟨wc.2.1, wc.2.2.1⟩ (fun q z1 z2 k z3 => by rw [e q (by omega)])⟩
  · unfold RTp at *
    rw [e 235 (by omega), e 234 (by omega)]; exact hT
  · unfold RRf at *
    rw [e 269 (by omega)]; exact hR
  · obtain ⟨x, u1, u2, u3, u4, u5⟩ := hU
    exact ⟨x, u1, u2, by rw [e 234 (by omega)]; exact u3, by rw [e 234 (by omega)]; exact u4, fun k hk => RM_v (u5 k hk) (fun q z1 z2 => e q (by omega))⟩
  · unfold RG at *
    rw [e 234 (by omega), e 280 (by omega), e 281 (by omega)]; exact hG
  · unfold RI at *
    rw [e 234 (by omega), e 282 (by omega)]; exact hI
end CPL0
