/-! The reference's reader of formulas: operands. -/
def K59 (d : Nat) (tb : Int) (K : PV → PS → Prop) : PV → PS → Prop := fun r s => pm_Run (d + 6) 206 59 [vA 234, vI tb, vI 1] (pm_push r [vA 234]) s K
section RFy
variable {d b w bk D : Nat} {X : Nat × (Nat → Int)} {v : Nat → Int} {M M' M2 : PH} {K : PV → PS → Prop} {B : Nat → Int} {N : Nat} {κ : KP} {e : Int × Int} {o op : Nat} {l S : List Int} {s : ST} {kn ph bg tb : Int} {bs : Nat}
theorem k59 {r : Int} (hr : r = 0 ∨ r = 1) (h : AS M bk B N κ op l S D) (hK : ∀ M', AS M' bk B N κ op l S D → M' 234 52 = r → (∀ q, q ≠ 234 → M' q = M q) → (∀ j, j ≠ 52 → M' 234 j = M 234 j) → fA bk (D + 1) M M' → pm_Run (d + 6) 206 43 [vA 234, vI tb, vI 1] [] (GF X, M', PTF v) K) : K59 d tb K (vI r) (GF X, M, PTF v) := by
  unfold K59
  rw [push_i]
  refine lh_59 hr h.1.1 (hK _ (AS_j h (by omega)) (by rw [sa_s, up_s]) (fun q z => sa_n z) (fun j z => by rw [sa_s, up_n z]) (fA_j (by omega)))
theorem k59f {r : Int} (hr : r = 0 ∨ r = 1) (h : FL M e) (hK : ∀ M', FL M' e → fA bk D M M' → K PU (GF X, M', PTF v)) : K59 d tb K (vI r) (GF X, M, PTF v) := by
  unfold K59
  rw [push_i]
  exact lh_59f hr h (hK _ (FL_u h (fun j z => by rw [sa_s, up_n (by omega)])) (fA_j (by omega)))
/-- an operand is begun -/
theorem l204s (hT : TX M B N) (hA : AS M bk B N κ op l S D) (hF : TF M D kn ph bg bs) (h52 : M 234 52 = 0) (hbg : bg = 0 ∨ bg = 1) (hkn : inR kn) (hbad : (tok B N κ).1 = 4 → ∀ M', FL M' (1, ((tok B N κ).2.2.1 : Int)) → fA bk D M M' → K PU (GF X, M', PTF v)) (hgo : CL M → pm_Run (d + 5) 204 46 [vA 234, vI (D : Int), PU, PU] [vI (if (isTs kn && decide (bg = 1)) = true then 1 else 0)] (GF X, M, PTF v) (K59 d tb K)) : pm_Run (d + 6) 206 43 [vA 234, vI tb, vI 1] [] (GF X, M, PTF v) K := by
  obtain ⟨a1, a2, a3, ⟨a4, a4'⟩, a5⟩ := id hA
  have ix : (M 234 48 - 1).toNat = D := by omega
  refine lh_o h52 ?_
  show pm_Call (d + 6) 204 [vA 234] (GF X, M, PTF v) (K59 d tb K)
  rw [en204, r204_0]
  refine c186 hT a1 (fun hc => ?_) (fun h4 M1 f1 h3 ff => ?_)
  · have hgo := hgo hc
    rw [push_u, r204_4 (by rw [a1.1]; omega), a1.1, if_pos (by omega), r204_13 (by omega) (by omega), ix, hF.1, c203 hkn, push_i, r204_29 i01, show (M 234 48 - 1) = (D : Int) by omega]
    by_cases q : isTs kn = true
    · rw [if_pos q, if_neg (by omega), r204_32 (by omega) (by omega) (by rw [Int.toNat_natCast, hF.2.2.1]; omega), Int.toNat_natCast, hF.2.2.1]
      rcases hbg with hb | hb
      · rw [q, hb] at hgo
        rw [if_pos hb, r204_45]; exact hgo
      · rw [q, hb] at hgo
        rw [if_neg (by omega), r204_41]; exact hgo
    · rw [show isTs kn = false by simpa using q] at hgo
      rw [if_neg q, if_pos rfl, r204_45]; exact hgo
  · have h8 := f1.1
    have h9 := f1.2.1
    rw [push_u, r204_4 (by omega), if_neg (by omega), r204_11]
    exact k59f (bk := bk) (D := D) (by simp) f1 (fun M2 f2 g2 => hbad h4 M2 f2 (fA_t (f4_A ff) g2))
/-- a value is put down -/
theorem l204v (hT : TX M B N) (hA : AS M bk B N κ op l S D) (hl : l.length < 1600) {c : Int} {l2 : Int} (hk : (tok B N κ).1 = 1 ∨ (tok B N κ).1 = 2) (hc : c < 10000 → M 234 6 = c) (hcn : sor c ≠ -1 ∧ inR (sor c)) (hK : ∀ M', AS M' bk B N (adv B N κ) op (l ++ [c]) S D → M' 234 52 = 1 → fA bk (D + 1) M M' → pm_Run (d + 6) 206 43 [vA 234, vI tb, vI 1] [] (GF X, M', PTF v) K) : pm_Run (d + 5) 204 450 [vA 234, vI (D : Int), vI l2, PU] [vI (sor c)] (GF X, M, PTF v) (K59 d tb K) := by
  obtain ⟨a1, a2, a3, a4, a5⟩ := id hA
  rw [r204_450 hcn.2, if_pos hcn.1, r204_465 (by rw [a1.1]; omega), a1.1, if_pos (by omega), r204_474]
  refine c197 a2 hl hc (fun M1 g1 g2 g3 g4 => ?_)
  have ok1 : OK M1 B N κ := OK_u a1 (fun j z => g3 j (by omega))
  have A1 : AS M1 bk B N κ op (l ++ [c]) S D := ⟨ok1, g1, by rw [g3 49 (by omega)]; exact a3, by rw [g3 48 (by omega)]; exact a4, OPS_u a5 (g3 51 (by omega)) (g2 268 (by omega) (by omega) (by omega))⟩
  have F1 : fA bk (D + 1) M M1 := ⟨fun q z1 z2 z3 _ => g2 q z1 z2 z3, fun j z1 z2 z3 z4 z5 z6 z7 => g3 j z3, g4, fun k _ => by rw [g2 263 (by omega) (by omega) (by omega), g2 264 (by omega) (by omega) (by omega), g2 265 (by omega) (by omega) (by omega), g2 266 (by omega) (by omega) (by omega), g2 267 (by omega) (by omega) (by omega)]; exact ⟨rfl, rfl, rfl, rfl, rfl⟩⟩
  rw [push_u, r204_483]
  refine t187 (TX_A hT F1) ok1 (by omega) (by omega) (fun M2 o2 f2 => ?_)
  rw [push_u, r204_487]
  refine k59 (by simp) (AS_4 A1 f2 o2) (fun M3 h1 h2 h3 h4 h5 => hK M3 h1 h2 (fA_t F1 (fA_t (f4_A f2) h5)))
/-- neither a part nor a word that says a value: a fault -/
theorem l204w (hA : AS M bk B N κ op l S D) (hc : CL M) {l2 : Int} (hK : ∀ M', FL M' (1, ((tok B N κ).2.2.1 : Int)) → fA bk (D + 1) M M' → K PU (GF X, M', PTF v)) : pm_Run (d + 5) 204 450 [vA 234, vI (D : Int), vI l2, PU] [vI (-1)] (GF X, M, PTF v) (K59 d tb K) := by
  have a1 := hA.1
  have hf := FL_89 (M := M) (k := 1) (p := ((tok B N κ).2.1 : Int)) (by omega) (by have : M 234 12 = -1 := hc; omega)
  have h8 : (pm_sa M 234 (pm_up (pm_up (M 234) 8 1) 9 ((tok B N κ).2.1 : Int))) 234 8 = 1 := hf.1
  rw [r204_450 (by omega), if_neg (by simp), r204_456, c183o a1.1, push_u, a1.2.2.1.2.1, r204_465 (by rw [h8]; omega), h8, if_neg (by omega), r204_472]
  refine k59f (bk := bk) (D := D + 1) (by simp) hf (fun M2 f2 g2 => hK M2 ?_ (fA_t (f4_A f4_89) g2))
  rw [OK_c a1 hc]; exact f2
theorem wsr_s {k : Nat} (h : isVw k = true) : sor ((10000 + k : Nat) : Int) = wsr (k : Int) ∧ sor ((10000 + k : Nat) : Int) ≠ -1 ∧ inR (sor ((10000 + k : Nat) : Int)) := by
  have := vw_c h
  have h2 : k = 4 ∨ k = 6 ∨ k = 7 ∨ k = 15 ∨ k = 16 ∨ k = 17 ∨ k = 18 ∨ k = 19 ∨ k = 20 ∨ k = 21 ∨ k = 22 := by omega
  rcases h2 with rfl | rfl | rfl | rfl | rfl | rfl | rfl | rfl | rfl | rfl | rfl <;> decide +kernel
/-- words that say a value, one after the other -/
theorem l204k (hA : AS M bk B N κ op l S D) (hc : CL M) (h2 : (tok B N κ).1 ≠ 2) {l2 : Int} (hK1 : ∀ k : Nat, isVw k = true → isW B N (k : Int) (.inr (κ, op, l)) = true → pm_Run (d + 5) 204 450 [vA 234, vI (D : Int), vI l2, PU] [vI (wsr (k : Int))] (GF X, M, PTF v) (K59 d tb K)) (hK0 : (∀ k : Nat, isVw k = true → ¬ isW B N (k : Int) (.inr (κ, op, l)) = true) → pm_Run (d + 5) 204 450 [vA 234, vI (D : Int), vI l2, PU] [vI (-1)] (GF X, M, PTF v) (K59 d tb K)) : pm_Run (d + 5) 204 277 [vA 234, vI (D : Int), vI l2, PU] [] (GF X, M, PTF v) (K59 d tb K) := by
  have a1 := hA.1
  have hk := a1.2.2.1.2.2
  have n3 : M 234 3 ≠ 2 := fun z => by rcases hk with h | h | h | h | h | h <;> first | omega | (have : M 234 12 = -1 := hc; omega)
  have r3 : inR (M 234 3) := by rcases hk with h | h | h | h | h | h <;> omega
  rw [r204_277 r3, if_pos n3]
  rw [r204_289]
  refine (c189 (k := 15) (o := op) (l := l) a1 hc (by omega)).mpr ?_
  rw [push_i, r204_296 i01]
  by_cases q15 : isW B N ((15 : Nat) : Int) (.inr (κ, op, l)) = true
  · rw [if_pos q15, if_neg (by omega), r204_299]; exact hK1 15 rfl q15
  · rw [if_neg q15, if_pos rfl]
    rw [r204_303]
    refine (c189 (k := 7) (o := op) (l := l) a1 hc (by omega)).mpr ?_
    rw [push_i, r204_310 i01]
    by_cases q7 : isW B N ((7 : Nat) : Int) (.inr (κ, op, l)) = true
    · rw [if_pos q7, if_neg (by omega), r204_313]; exact hK1 7 rfl q7
    · rw [if_neg q7, if_pos rfl]
      rw [r204_317]
      refine (c189 (k := 6) (o := op) (l := l) a1 hc (by omega)).mpr ?_
      rw [push_i, r204_324 i01]
      by_cases q6 : isW B N ((6 : Nat) : Int) (.inr (κ, op, l)) = true
      · rw [if_pos q6, if_neg (by omega), r204_327]; exact hK1 6 rfl q6
      · rw [if_neg q6, if_pos rfl]
        rw [r204_331]
        refine (c189 (k := 16) (o := op) (l := l) a1 hc (by omega)).mpr ?_
        rw [push_i, r204_338 i01]
        by_cases q16 : isW B N ((16 : Nat) : Int) (.inr (κ, op, l)) = true
        · rw [if_pos q16, if_neg (by omega), r204_341]; exact hK1 16 rfl q16
        · rw [if_neg q16, if_pos rfl]
          rw [r204_345]
          refine (c189 (k := 17) (o := op) (l := l) a1 hc (by omega)).mpr ?_
          rw [push_i, r204_352 i01]
          by_cases q17 : isW B N ((17 : Nat) : Int) (.inr (κ, op, l)) = true
          · rw [if_pos q17, if_neg (by omega), r204_355]; exact hK1 17 rfl q17
          · rw [if_neg q17, if_pos rfl]
            rw [r204_359]
            refine (c189 (k := 18) (o := op) (l := l) a1 hc (by omega)).mpr ?_
            rw [push_i, r204_366 i01]
            by_cases q18 : isW B N ((18 : Nat) : Int) (.inr (κ, op, l)) = true
            · rw [if_pos q18, if_neg (by omega), r204_369]; exact hK1 18 rfl q18
            · rw [if_neg q18, if_pos rfl]
              rw [r204_374]
              refine (c189 (k := 4) (o := op) (l := l) a1 hc (by omega)).mpr ?_
              rw [push_i, r204_381 i01]
              by_cases q4 : isW B N ((4 : Nat) : Int) (.inr (κ, op, l)) = true
              · rw [if_pos q4, if_neg (by omega), r204_384]; exact hK1 4 rfl q4
              · rw [if_neg q4, if_pos rfl]
                rw [r204_389]
                refine (c189 (k := 19) (o := op) (l := l) a1 hc (by omega)).mpr ?_
                rw [push_i, r204_396 i01]
                by_cases q19 : isW B N ((19 : Nat) : Int) (.inr (κ, op, l)) = true
                · rw [if_pos q19, if_neg (by omega), r204_399]; exact hK1 19 rfl q19
                · rw [if_neg q19, if_pos rfl]
                  rw [r204_404]
                  refine (c189 (k := 20) (o := op) (l := l) a1 hc (by omega)).mpr ?_
                  rw [push_i, r204_411 i01]
                  by_cases q20 : isW B N ((20 : Nat) : Int) (.inr (κ, op, l)) = true
                  · rw [if_pos q20, if_neg (by omega), r204_414]; exact hK1 20 rfl q20
                  · rw [if_neg q20, if_pos rfl]
                    rw [r204_419]
                    refine (c189 (k := 21) (o := op) (l := l) a1 hc (by omega)).mpr ?_
                    rw [push_i, r204_426 i01]
                    by_cases q21 : isW B N ((21 : Nat) : Int) (.inr (κ, op, l)) = true
                    · rw [if_pos q21, if_neg (by omega), r204_429]; exact hK1 21 rfl q21
                    · rw [if_neg q21, if_pos rfl]
                      rw [r204_434]
                      refine (c189 (k := 22) (o := op) (l := l) a1 hc (by omega)).mpr ?_
                      rw [push_i, r204_441 i01]
                      by_cases q22 : isW B N ((22 : Nat) : Int) (.inr (κ, op, l)) = true
                      · rw [if_pos q22, if_neg (by omega), r204_444]; exact hK1 22 rfl q22
                      · rw [if_neg q22, if_pos rfl]
                        rw [r204_449]
                        refine hK0 (fun k hv hw => ?_)
                        have := vw_c hv
                        have h2 : k = 4 ∨ k = 6 ∨ k = 7 ∨ k = 15 ∨ k = 16 ∨ k = 17 ∨ k = 18 ∨ k = 19 ∨ k = 20 ∨ k = 21 ∨ k = 22 := by omega
                        rcases h2 with rfl | rfl | rfl | rfl | rfl | rfl | rfl | rfl | rfl | rfl | rfl
                        · exact q4 hw
                        · exact q6 hw
                        · exact q7 hw
                        · exact q15 hw
                        · exact q16 hw
                        · exact q17 hw
                        · exact q18 hw
                        · exact q19 hw
                        · exact q20 hw
                        · exact q21 hw
                        · exact q22 hw
end RFy
