/-! Acts that are past. -/
def pcons (μ : PH) (P : Nat → PH) : Nat → PH
  | 0 => μ
  | k + 1 => P k
def PA (M : PH) (A : Nat) (P : Nat → PH) : Prop := ∃ x : Nat, x < 20 ∧ A ≤ 20 ∧ M 103 1 = (x : Int) ∧ M 103 2 = (A : Int) ∧ ∀ k, k < A → mo M (105 + 6 * ((x + 19 - k) % 20)) = P k
theorem rg_p : ∀ i, i < 20 → PTS 104 i = ((105 + 6 * i : Nat) : Int) := by decide +kernel
theorem rg_m : ∀ i, i < 20 → isMo (105 + 6 * i) := by
  have : ∀ i, i < 20 → (105 + 6 * i) ∈ MOL := by decide +kernel
  exact this
section CPA
variable {d c b : Nat} {X : Nat × (Nat → Int)} {v : Nat → Int} {M M' : PH} {K : PV → PS → Prop} {n : Nat → Nat} {a μ : PH} {A : Nat} {P : Nat → PH}
theorem rg_t {x : Nat} (hx : x < 20) : PTF v 104 x = ((105 + 6 * x : Nat) : Int) := by
  rw [ptf_s (by omega)]; exact rg_p x hx
theorem rem20 {x : Nat} (hx : x < 1000) : pm_rem (x : Int) 20 = ((x % 20 : Nat) : Int) := by
  unfold pm_rem
  rw [pm_sgN (by omega), pm_sgid (by omega) (by omega)]
  exact (Int.ofNat_tmod x 20).symm
theorem c100 : pm_Call (d + 1) 100 [vA 103] (GF X, M, PTF v) K ↔ K PU (GF X, pm_sa M 103 (pm_up (M 103) 2 0), PTF v) := by rw [en100, r100_0]
theorem c101 (hP : PA M A P) (hμ : mo M 3 = μ) (hK : ∀ M' : PH, (∀ q, q ≠ 103 → (q < 105 ∨ 224 < q) → M' q = M q) → PA M' (min 20 (A + 1)) (pcons μ P) → K PU (GF X, M', PTF v)) : pm_Call (d + 2) 101 [vA 103, vA 3] (GF X, M, PTF v) K := by
  obtain ⟨x, hx, hA, h1, h2, h3⟩ := hP
  have o103 : pm_ob (GF X) ((103 : Nat) : Int) 7 := ob_i (n := 3) (by decide +kernel)
  have e0 : PTF v ((103 : Nat) : Int).toNat 0 = ((104 : Nat) : Int) := ptf_l (by decide +kernel)
  have ex : M ((103 : Nat) : Int).toNat 1 = (x : Int) := h1
  have eT : PTF v (PTF v ((103 : Nat) : Int).toNat 0).toNat (pm_sg (M ((103 : Nat) : Int).toNat 1)).toNat = ((105 + 6 * x : Nat) : Int) := by rw [e0, ex, pm_sgN (by omega), Int.toNat_natCast, Int.toNat_natCast, rg_t hx]
  have hm := rg_m x hx
  have hc := c56 (d := d) (X := X) (v := v) (M := M) (K := fun r S1 => pm_Run (d + 1) 101 13 [vA 103, vA 3] (pm_push r []) S1 K) hm mo3 (by omega)
  rw [en101, b101_0 o103 (by rw [e0, ex]; exact ar_i (n := 20) (by decide +kernel) (by omega) (by omega) (by omega)) (by rw [eT]; omega) (by rw [eT]; exact ob_i (n := 6) (mos0 hm)), eT]
  refine hc.mpr ?_
  rw [push_u, b101_13 o103, b101_41]
  simp only [Int.toNat_natCast, sa_s, sa_sa]
  have e1 : mcp M (105 + 6 * x) 3 103 = M 103 := mcp_n (by omega)
  rw [e1, up_n (by omega), h1, h2, show (x : Int) + 1 = ((x + 1 : Nat) : Int) by omega, rem20 (by omega), pm_mnR (by omega) (by omega), show min 20 ((A : Int) + 1) = ((min 20 (A + 1) : Nat) : Int) by omega]
  refine hK _ (fun q z1 z2 => by rw [sa_n z1, mcp_n (by omega)]) ⟨(x + 1) % 20, Nat.mod_lt _ (by omega), by omega, by rw [sa_s, up_n (by omega), up_s], by rw [sa_s, up_s], fun k hk => ?_⟩
  rw [mo_n (by omega)]
  match k, hk with
  | 0, _ =>
    rw [show ((x + 1) % 20 + 19 - 0) % 20 = x by omega, mcp_s]; exact hμ
  | k + 1, hk =>
    rw [show ((x + 1) % 20 + 19 - (k + 1)) % 20 = (x + 19 - k) % 20 by omega, mo_fr (M := M) (fun i hi => mcp_n (by omega))]
    exact h3 k (by omega)
theorem c102 (hP : PA M (A + 1) P) (hK : ∀ M' : PH, (∀ q, q ≠ 103 → (q < 3 ∨ 8 < q) → M' q = M q) → mo M' 3 = P 0 → PA M' A (fun k => P (k + 1)) → K PU (GF X, M', PTF v)) : pm_Call (d + 2) 102 [vA 103, vA 3] (GF X, M, PTF v) K := by
  obtain ⟨x, hx, hA, h1, h2, h3⟩ := hP
  have o103 : pm_ob (GF X) ((103 : Nat) : Int) 7 := ob_i (n := 3) (by decide +kernel)
  have o3 : pm_ob (GF X) ((3 : Nat) : Int) 5 := ob_i (n := 6) (by decide +kernel)
  rw [en102, b102_0 o103]
  simp only [Int.toNat_natCast]
  have e2 : pm_sg (M 103 2) = ((A + 1 : Nat) : Int) := by rw [h2, pm_sgN (by omega)]
  rw [if_neg (by omega), b102_7 o103]
  simp only [Int.toNat_natCast, sa_s, sa_sa]
  rw [up_n (by omega), h1, h2, show ((x : Int) + 20 - 1) = ((x + 19 : Nat) : Int) by omega, rem20 (by omega), show ((A + 1 : Nat) : Int) - 1 = (A : Int) by omega]
  obtain ⟨M1, hM1⟩ : ∃ M1, M1 = pm_sa M 103 (pm_up (pm_up (M 103) 1 (((x + 19) % 20 : Nat) : Int)) 2 (A : Int)) := ⟨_, rfl⟩
  rw [← hM1]
  have hy : (x + 19) % 20 < 20 := Nat.mod_lt _ (by omega)
  have g1 : M1 103 1 = (((x + 19) % 20 : Nat) : Int) := by rw [hM1, sa_s, up_n (by omega), up_s]
  have g2 : M1 103 2 = (A : Int) := by rw [hM1, sa_s, up_s]
  have g3 : ∀ q, q ≠ 103 → M1 q = M q := fun q hq => by rw [hM1, sa_n hq]
  have e0 : PTF v ((103 : Nat) : Int).toNat 0 = ((104 : Nat) : Int) := ptf_l (by decide +kernel)
  have ex : M1 ((103 : Nat) : Int).toNat 1 = (((x + 19) % 20 : Nat) : Int) := g1
  have eT : PTF v (PTF v ((103 : Nat) : Int).toNat 0).toNat (pm_sg (M1 ((103 : Nat) : Int).toNat 1)).toNat = ((105 + 6 * ((x + 19) % 20) : Nat) : Int) := by rw [e0, ex, pm_sgN (by omega), Int.toNat_natCast, Int.toNat_natCast, rg_t hy]
  have hm := rg_m _ hy
  have hc := c56 (d := d) (X := X) (v := v) (M := M1) (K := fun r S1 => pm_Run (d + 1) 102 46 [vA 103, vA 3] (pm_push r []) S1 K) mo3 hm (by omega)
  rw [b102_33 o103 (by rw [e0, ex]; exact ar_i (n := 20) (by decide +kernel) (by omega) (by omega) (by omega)) (by rw [eT]; omega) o3, eT]
  refine hc.mpr ?_
  rw [push_u, b102_46]
  have em : ∀ b, b ≠ 103 → b + 1 ≠ 103 → b + 2 ≠ 103 → b + 3 ≠ 103 → b + 4 ≠ 103 → b + 5 ≠ 103 → mo M1 b = mo M b := fun b z0 z1 z2 z3 z4 z5 => mo_fr (fun i hi => g3 _ (by omega))
  refine hK _ (fun q z1 z2 => by rw [mcp_n (by omega)]; exact g3 q z1) ?_ ⟨(x + 19) % 20, hy, by omega, by rw [mcp_n (by omega)]; exact g1, by rw [mcp_n (by omega)]; exact g2, fun k hk => ?_⟩
  · rw [mcp_s, em _ (by omega) (by omega) (by omega) (by omega) (by omega) (by omega)]
    exact h3 0 (by omega)
  · rw [mo_fr (M := M1) (fun i hi => mcp_n (by omega)), em _ (by omega) (by omega) (by omega) (by omega) (by omega) (by omega), show ((x + 19) % 20 + 19 - k) % 20 = (x + 19 - (k + 1)) % 20 by omega]
    exact h3 (k + 1) (by omega)
end CPA
