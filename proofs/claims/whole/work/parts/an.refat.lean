/-! The reference's reader of statements: the end of a statement. -/
def fnS (B : Nat → Int) (N n : Nat) (s : S2) : S2 := match s2S B N 59 s with
  | .inl e => .inl e
  | .inr x => if n = 80 ∧ (tok B N x.1).1 ≠ 0 then .inl (6, ((tok B N x.1).2.1 : Int)) else .inr x
def QS3 (M : PH) (bk : Nat) (B : Nat → Int) (N : Nat) (s : S2) : Prop := match s with
  | .inl e => FL M e
  | .inr x => OK M B N x.1 ∧ CDR M bk x.2.1 ∧ BZ M bk x.2.1 x.2.2
section RFat
variable {d b w bk D : Nat} {X : Nat × (Nat → Int)} {v : Nat → Int} {M M' M2 : PH} {K : PV → PS → Prop} {B : Nat → Int} {N : Nat} {κ : KP} {o op : Nat} {l S S0 Q : List Int} {e : Int × Int} {s : S2} {n : Nat → Nat} {a : PH} {z : CZ} {P : Nat → Nat → Prop}
theorem t190f (hf : FL M e) (hk : TKR (M 234) B N κ) {y : Int} (hy : inR y) (hK : K PU (GF X, M, PTF v)) : pm_Call (d + 3) 190 [vA 234, vI y] (GF X, M, PTF v) K := by
  have f1 := hf.1
  have f2 := hf.2.1
  rw [en190, r190_0, c186f hf, push_u, r190_4]
  obtain ⟨r, hr, hi⟩ := c188t (d := d + 1) (X := X) (v := v) (K := fun r9 S1 => pm_Run (d + 2) 190 9 [vA 234, vI y] (pm_push r9 []) S1 K) hk hy
  refine hi.mpr ?_
  show pm_Run (d + 2) 190 9 [vA 234, vI y] (pm_push (vI r) []) _ K
  rw [push_i, r190_9 (by omega)]
  have go : pm_Run (d + 2) 190 21 [vA 234, vI y] [] (GF X, M, PTF v) K := by
    rw [r190_21 (by omega), if_pos (by omega), r190_32]; exact hK
  by_cases q : r = 0
  · rw [if_neg (by simp [q]), r190_12, c183f hf, push_u]; exact go
  · rw [if_pos q]; exact go
theorem tok_1 : (tok B N κ).2.1 = sk B N κ.1 := by
  unfold tok tk
  split
  · rfl
  · split
    · rfl
    · split <;> rfl
theorem tok_0 : (tok B N κ).1 = 0 ↔ N ≤ sk B N κ.1 := by
  unfold tok tk
  by_cases q : N ≤ sk B N κ.1
  · rw [if_pos q]; exact ⟨fun _ => q, fun _ => rfl⟩
  · rw [if_neg q]
    refine ⟨fun h => ?_, fun h => absurd h q⟩
    exfalso
    revert h
    split
    · show ¬ (if _ then (4 : Int) else 1) = 0
      split <;> omega
    · split
      · show ¬ (if _ then (4 : Int) else 2) = 0
        split <;> omega
      · show ¬ (if _ then (3 : Int) else 4) = 0
        split <;> omega
theorem OK_5 (hT : TX M B N) (h : OK M B N κ) (hc : CL M) : 0 ≤ M 234 5 ∧ M 234 5 ≤ (N : Int) ∧ ((tok B N κ).1 = 3 → M 234 5 = ((adv B N κ).1 : Int)) := by
  have hκ := h.2.2.2.1
  have hc : M 234 12 = -1 := hc
  rcases h.2.2.1.2.2 with q | q | q | q | q | q
  · omega
  · have ad := adv_p hT.1 hT.2.1 hκ (by omega)
    have e5 : M 234 5 = ((adv B N κ).1 : Int) := q.2.2.2.2.2.2.1
    omega
  · have ad := adv_p hT.1 hT.2.1 hκ (by omega)
    have e5 : M 234 5 = ((adv B N κ).1 : Int) := q.2.2.2.2.2
    omega
  · have ad := adv_p hT.1 hT.2.1 hκ (by omega)
    have e5 : M 234 5 = ((adv B N κ).1 : Int) := q.2.2.2.2.2.2
    omega
  · omega
  · have := q.2.2; omega
/-- blanks are skipped -/
theorem l221 (hT : TX M B N) (h2 : M 234 2 = (N : Int)) {m : Int} : ∀ (k i : Nat), i + k = N → pm_Run d 221 53 [vA 234, vI m, vI (sk B N i : Int)] [] (GF X, M, PTF v) K → pm_Run d 221 17 [vA 234, vI m, vI (i : Int)] [] (GF X, M, PTF v) K
  | 0, i, hi, hK => by
    have hN := hT.2.1
    have hs : sk B N i = i := sk_e (fun z => by have := z.1; omega)
    rw [hs] at hK
    rw [r221_17 (by omega) (by omega), if_pos (by omega)]; exact hK
  | k + 1, i, hi, hK => by
    have hN := hT.2.1
    have bi := hT.1 i (by omega)
    have eT := hT.2.2 i (by omega)
    rw [r221_17 (by omega) (by omega), if_neg (by omega), r221_25 (by omega) (by omega) (by rw [Int.toNat_natCast, eT]; omega), Int.toNat_natCast, eT]
    by_cases q1 : B i = 32
    · rw [if_pos q1, r221_47]
      exact l221 hT h2 k (i + 1) (by omega) (by rw [sk_s (by omega) (isBl_i.mpr (Or.inr q1))]; exact hK)
    · rw [if_neg q1, r221_36 (by omega) (by omega) (by rw [Int.toNat_natCast, eT]; omega), Int.toNat_natCast, eT]
      by_cases q2 : B i = 10
      · rw [if_neg (by simpa using q2), r221_47]
        exact l221 hT h2 k (i + 1) (by omega) (by rw [sk_s (by omega) (isBl_i.mpr (Or.inl q2))]; exact hK)
      · have hs : sk B N i = i := sk_e (fun z => by have := isBl_i.mp z.2; omega)
        rw [hs] at hK
        rw [if_pos q2]; exact hK
/-- finishes -/
theorem t221 (hT : TX M B N) (h : QS2 M bk B N s) {m : Nat} (hm : m ≤ 80) (hK : ∀ M', QS3 M' bk B N (fnS B N m s) → fB bk M M' → K PU (GF X, M', PTF v)) : pm_Call (d + 4) 221 [vA 234, vI (m : Int)] (GF X, M, PTF v) K := by
  rw [en221, r221_0]
  have bad : ∀ y : Int × Int, FL M y → fnS B N m s = .inl y → pm_Call (d + 3) 186 [vA 234] (GF X, M, PTF v) (fun r9 S1 => pm_Run (d + 3) 221 4 [vA 234, vI (m : Int), PU] (pm_push r9 []) S1 K) := fun y hy he => by
    have f1 := hy.1
    have f2 := hy.2.1
    rw [c186f hy, push_u, r221_4 (by omega), if_neg (by omega), r221_11]
    exact hK M (by rw [he]; exact hy) fB_r
  match s, h, hK, bad with
  | .inl y, h, hK, bad => exact bad y h rfl
  | .inr x, h, hK, bad =>
    have nS : ¬ isS B N 59 (.inr (x.1, 0, x.2.1)) = true → fnS B N m (.inr x) = .inl (1, ((tok B N x.1).2.2.1 : Int)) := fun q => by
      have : s2S B N 59 (.inr x) = .inl (1, ((tok B N x.1).2.2.1 : Int)) := by
        show sb (sSg B N 59 (.inr (x.1, 0, x.2.1))) _ = _
        rw [sSg, if_neg q]; rfl
      rw [fnS, this]
    rcases h with ⟨h1, h2, h3⟩ | ⟨k4, hf⟩
    · refine c186 (d := d + 1) hT h1 (fun hc => ?_) (fun h4 M' hf h3 hff => ?_)
      · have h8 := h1.1
        have r12 : inR (M 234 12) := by have : M 234 12 = -1 := hc; omega
        obtain ⟨b5, b5', e5⟩ := OK_5 hT h1 hc
        obtain ⟨i, hi⟩ : ∃ i : Nat, M 234 5 = (i : Int) := ⟨(M 234 5).toNat, by omega⟩
        have hN := hT.2.1
        have skp := sk_p (B := B) (N := N) (i := i) (by omega)
        rw [push_u, r221_4 (by omega), if_pos (by omega), r221_12, hi]
        refine l221 hT h1.2.2.1.1 (N - i) i (by omega) ?_
        rw [r221_53, c188 (d := d + 2) (o := 0) (l := x.2.1) h1 hc (by rfl) (by omega), push_i, r221_59 i01]
        -- the sign must stand there
        have fin : (isS B N 59 (.inr (x.1, 0, x.2.1)) = true → ¬ (m = 80 ∧ (tok B N (adv B N x.1)).1 ≠ 0)) → pm_Run (d + 3) 221 83 [vA 234, vI (m : Int), vI (sk B N i : Int)] [] (GF X, M, PTF v) K := fun hq => by
          rw [r221_83]
          have p0 : PRS M bk B N (.inr (x.1, 0, x.2.1)) := ⟨h1, h2⟩
          refine t190 (d := d) hT p0 (by rfl) (by omega) (fun M1 p1 g1 => ?_)
          rw [push_u, r221_89]
          refine hK M1 ?_ (fB_4 g1)
          by_cases q : isS B N 59 (.inr (x.1, 0, x.2.1)) = true
          · have es : s2S B N 59 (.inr x) = .inr (adv B N x.1, x.2.1, x.2.2) := by
              show sb (sSg B N 59 (.inr (x.1, 0, x.2.1))) _ = _
              rw [sSg, if_pos q]; rfl
            have ef : fnS B N m (.inr x) = .inr (adv B N x.1, x.2.1, x.2.2) := by
              rw [fnS, es]
              exact if_neg (hq q)
            rw [sSg, if_pos q] at p1
            have p1 : OK M1 B N (adv B N x.1) ∧ CDR M1 bk x.2.1 := p1
            rw [ef]
            exact ⟨p1.1, p1.2, BZ_4 h3 g1⟩
          · rw [nS q]
            rw [sSg, if_neg q] at p1
            exact p1
        by_cases q : isS B N 59 (.inr (x.1, 0, x.2.1)) = true
        · have k3 := (isS_k q).1
          have ei : i = (adv B N x.1).1 := by have := e5 k3; omega
          have t1 := tok_1 (B := B) (N := N) (κ := adv B N x.1)
          have t0 := tok_0 (B := B) (N := N) (κ := adv B N x.1)
          rw [← ei] at t1 t0
          rw [if_pos q, if_neg (by omega), r221_62 (by omega)]
          by_cases q8 : m = 80
          · rw [if_neg (by omega), r221_68 (by omega) (by rw [h1.2.2.1.1]; omega), h1.2.2.1.1]
            by_cases q9 : N ≤ sk B N i
            · rw [if_pos (by omega)]
              exact fin (fun _ hh => hh.2 (t0.mpr q9))
            · rw [if_neg (by omega), r221_76, c183o h8, push_u, r221_83]
              have es : s2S B N 59 (.inr x) = .inr (adv B N x.1, x.2.1, x.2.2) := by
                show sb (sSg B N 59 (.inr (x.1, 0, x.2.1))) _ = _
                rw [sSg, if_pos q]; rfl
              have ef : fnS B N m (.inr x) = .inl (6, (sk B N i : Int)) := by
                rw [fnS, es]
                show (if _ then _ else _ : S2) = _
                rw [if_pos ⟨q8, fun z => q9 (t0.mp z)⟩, t1]
              refine t190f (d := d) (κ := x.1) (FL_89 (k := 6) (by omega) r12) (TKR_c h1.2.2.1 (fun j hj => by rw [sa_s, up_n (by omega), up_n (by omega)])) (by omega) ?_
              rw [push_u, r221_89]
              refine hK _ ?_ (fB_4 f4_89)
              rw [ef]
              exact FL_89 (by omega) r12
          · rw [if_pos (by omega)]
            exact fin (fun _ hh => q8 hh.1)
        · rw [if_neg q, if_pos rfl]
          exact fin (fun hh => absurd hh q)
      · have f1 := hf.1
        have f2 := hf.2.1
        rw [push_u, r221_4 (by omega), if_neg (by omega), r221_11]
        exact hK M' (by rw [nS (fun z => by have := (isS_k z).1; omega)]; exact hf) (fB_4 hff)
    · exact bad _ hf (nS (fun z => by have := (isS_k z).1; omega))
end RFat
