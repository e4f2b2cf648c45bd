/-! The reference's reader: the loop over statements. -/
section RFau
variable {d b w bk D : Nat} {X : Nat × (Nat → Int)} {v : Nat → Int} {M M' M2 : PH} {K : PV → PS → Prop} {B : Nat → Int} {N : Nat} {κ : KP} {o op : Nat} {l S S0 Q : List Int} {e : Int × Int} {s : S2} {n : Nat → Nat} {a : PH} {z : CZ} {P : Nat → Nat → Prop}
theorem OK_k0 (h : OK M B N κ) : inR (M 234 3) ∧ (M 234 3 = 0 ↔ (tok B N κ).1 = 0) := by
  rcases h.2.2.1.2.2 with q | q | q | q | q | q <;> (refine ⟨by omega, ?_⟩; constructor <;> intro <;> omega)
theorem l222 (hT : TX M B N) : ∀ (k m : Nat) (M1 : PH) (s : S2), k + m = 81 → 1 ≤ m → m ≤ 80 → fB bk M M1 → QS3 M1 bk B N (fnS B N m s) → (∀ x, s2S B N 59 s = .inr x → x.2.1.length ≤ x.1.1 ∧ 0 < x.2.2.1 0) → (∀ e, gLp B N k m (s2S B N 59 s) = .inl e → ∀ M' (i : Int), FL M' e → fB bk M M' → pm_Run (d + 9) 222 188 [vA 234, vI i] [] (GF X, M', PTF v) K) → (∀ c l z, gLp B N k m (s2S B N 59 s) = .inr (c, l, z) → ∀ M', M' 234 8 = 0 → M' 234 9 = -1 → CDR M' bk l → BZ M' bk l z → fB bk M M' → pm_Run (d + 9) 222 188 [vA 234, vI (c : Int)] [] (GF X, M', PTF v) K) → pm_Run (d + 9) 222 159 [vA 234, vI (m : Int)] [] (GF X, M1, PTF v) K
  | 0, m, M1, s, hk, hm, hm8, hF, hQ, hI, hE, hG => by omega
  | k + 1, m, M1, s, hk, hm, hm8, hF, hQ, hI, hE, hG => by
    have fl : ∀ y : Int × Int, FL M1 y → gLp B N (k + 1) m (s2S B N 59 s) = .inl y → pm_Run (d + 9) 222 159 [vA 234, vI (m : Int)] [] (GF X, M1, PTF v) K := fun y hy he => by
      have f1 := hy.1
      have f2 := hy.2.1
      rw [r222_159 (by omega), if_pos (by omega)]
      exact hE y he M1 _ hy hF
    unfold fnS at hQ
    revert hQ hI hE hG fl
    cases hs : s2S B N 59 s with
    | inl y => intro hQ hI hE hG fl; exact fl y hQ rfl
    | inr x =>
      intro hQ hI hE hG fl
      have ht : QS3 M1 bk B N (if m = 80 ∧ (tok B N x.1).1 ≠ 0 then .inl (6, ((tok B N x.1).2.1 : Int)) else .inr x) := hQ
      have eL : gLp B N (k + 1) m (.inr x) = if (tok B N x.1).1 = 0 then .inr (m, x.2) else if m = 80 then .inl (6, ((tok B N x.1).2.1 : Int)) else gLp B N k (m + 1) (s2S B N 59 (gStm B N x.1 x.2.1 x.2.2 (decide (m = 0)))) := by rw [gLp]
      rw [eL] at hE hG fl
      by_cases q8 : m = 80 ∧ (tok B N x.1).1 ≠ 0
      · rw [if_pos q8] at ht
        exact fl _ ht (by rw [if_neg q8.2, if_pos q8.1])
      · rw [if_neg q8] at ht
        obtain ⟨o1, d1, z1⟩ : OK M1 B N x.1 ∧ CDR M1 bk x.2.1 ∧ BZ M1 bk x.2.1 x.2.2 := ht
        have h8 := o1.1
        obtain ⟨r3, k0⟩ := OK_k0 o1
        rw [r222_159 (by omega), if_neg (by omega), r222_166 r3]
        by_cases q0 : (tok B N x.1).1 = 0
        · rw [if_pos q0] at hG
          rw [if_pos (k0.mpr q0)]
          exact hG m x.2.1 x.2.2 rfl M1 h8 o1.2.1 d1 z1 hF
        · have m80 : m ≠ 80 := fun z => q8 ⟨z, q0⟩
          rw [if_neg q0, if_neg m80, show decide (m = 0) = false by simp; omega] at hE hG
          obtain ⟨il, iz⟩ := hI x rfl
          rw [if_neg (fun z => q0 (k0.mp z)), r222_173]
          refine t220 (d := d) (TX_B hT hF) o1 il d1 z1 (fun M2 q2 g2 => ?_)
          rw [push_u, r222_177, show (m : Int) + 1 = ((m + 1 : Nat) : Int) by omega]
          refine t221 (d := d + 5) (TX_B hT (fB_t hF g2)) q2 (by omega) (fun M3 q3 g3 => ?_)
          rw [push_u, r222_185]
          refine l222 hT k (m + 1) M3 _ (by omega) (by omega) (by omega) (fB_t hF (fB_t g2 g3)) q3 (fun y hy => ?_) hE hG
          obtain ⟨w, hw, qw, hyw⟩ := s2S_e hy
          obtain ⟨p1, p2⟩ := gStm_p hT.1 hT.2.1 o1.2.2.2.1 il (fun _ => iz) hw
          rw [hw] at q2
          have k3 := (isS_k (κ := w.1) (o := 0) (l := w.2.1) qw).1
          rcases q2 with q2 | q2
          · have ad := adv_p hT.1 hT.2.1 q2.1.2.2.2.1 (by omega)
            rw [hyw]
            exact ⟨by show w.2.1.length ≤ (adv B N w.1).1; omega, p2⟩
          · omega
end RFau
