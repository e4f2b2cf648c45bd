/-! The reference's reader of statements: harbours. -/
section RFal
variable {d b w bk D : Nat} {X : Nat × (Nat → Int)} {v : Nat → Int} {M M' M2 : PH} {K : PV → PS → Prop} {B : Nat → Int} {N : Nat} {κ : KP} {e : Int × Int} {o op : Nat} {l S S0 Q : List Int} {s : ST} {n : Nat → Nat} {a : PH} {z : CZ} {P : Nat → Nat → Prop}
/-- one more harbour -/
theorem BZ_harb {nm pl pu de : Int} (h : BZ M bk l z) (h3 : z.1 2 < 8) (e1 : M 262 (8 * bk + z.1 2) = (bwk nm.toNat 6 : Int)) (en : nmOk nm) (e2 : M 242 (8 * bk + z.1 2) = pl) (ep : inR pl) (e3 : M 243 (8 * bk + z.1 2) = pu) (e4 : M 244 (8 * bk + z.1 2) = de) (e5 : ∀ m, m < 3 → M 245 (24 * bk + (3 * z.1 2 + m)) = 0) : BZ (pm_sa M 241 (pm_up (M 241) bk ((z.1 2 : Int) + 1))) bk l (zHarb z nm pl pu de) := by
  obtain ⟨⟨w1, w2, w3, w4, w5⟩, ⟨c0, c3, c4, c5, c6⟩, ⟨n0, n1, n2, n3, n4⟩, ⟨v1, v2, v3⟩, f1, f2, f3, f4, f5⟩ := h
  have u1 : (zHarb z nm pl pu de).1 2 = z.1 2 + 1 := (upn_s : upn z.1 2 (z.1 2 + 1) 2 = z.1 2 + 1)
  have u0 : ∀ j, j ≠ 2 → (zHarb z nm pl pu de).1 j = z.1 j := fun j hj => (upn_n hj : upn z.1 2 (z.1 2 + 1) j = z.1 j)
  have a0 : ∀ i k, (i ≠ 8 ∧ i ≠ 2 ∧ i ≠ 3) ∨ k ≠ z.1 2 → (zHarb z nm pl pu de).2.1 i k = z.2.1 i k := fun i k h1 => by
    show ups (ups (ups z.2.1 8 (z.1 2) nm) 2 (z.1 2) pl) 3 (z.1 2) de i k = _
    rw [ups_n (by omega), ups_n (by omega), ups_n (by omega)]
  have m0 : ∀ i k, i ≠ 3 ∨ k ≠ z.1 2 → (zHarb z nm pl pu de).2.2.2 i k = z.2.2.2 i k := fun i k h1 => by
    show ups z.2.2.2 3 (z.1 2) pu i k = _
    rw [ups_n h1]
  have a8 : (zHarb z nm pl pu de).2.1 8 (z.1 2) = nm := by
    show ups (ups (ups z.2.1 8 (z.1 2) nm) 2 (z.1 2) pl) 3 (z.1 2) de 8 (z.1 2) = _
    rw [ups_n (by omega), ups_n (by omega), ups_s]
  have a2 : (zHarb z nm pl pu de).2.1 2 (z.1 2) = pl := by
    show ups (ups (ups z.2.1 8 (z.1 2) nm) 2 (z.1 2) pl) 3 (z.1 2) de 2 (z.1 2) = _
    rw [ups_n (by omega), ups_s]
  have a3 : (zHarb z nm pl pu de).2.1 3 (z.1 2) = de := by
    show ups (ups (ups z.2.1 8 (z.1 2) nm) 2 (z.1 2) pl) 3 (z.1 2) de 3 (z.1 2) = _
    rw [ups_s]
  have m3 : (zHarb z nm pl pu de).2.2.2 3 (z.1 2) = pu := by
    show ups z.2.2.2 3 (z.1 2) pu 3 (z.1 2) = _
    rw [ups_s]
  have eF : (zHarb z nm pl pu de).2.2.1 = z.2.2.1 := rfl
  refine ⟨⟨?_, ?_, fun k => ?_, fun i m hm hi => ?_, fun i hi => ?_⟩, ⟨?_, ?_, ?_, ?_, ?_⟩, ⟨n0, ⟨?_, ?_⟩, ⟨?_, ?_⟩, fun m hm => ?_, fun i hi => ?_⟩, ⟨fun m hm => ?_, fun i hi => ?_, fun k hk => ?_⟩, ?_⟩
  · rw [u0 0 (by omega), u0 3 (by omega), u0 4 (by omega)]; exact w1
  · rw [m0 0 0 (by omega)]; exact w2
  · rw [m0 5 k (by omega)]; exact w3 k
  · rw [u1] at hi
    rw [m0 4 _ (by omega)]; exact w4 i m hm (by omega)
  · rw [u1] at hi
    by_cases q : i = z.1 2
    · rw [q, a2]; exact ep
    · rw [a0 2 i (by omega)]; exact w5 i (by omega)
  · rw [u0 0 (by omega)]; exact c0
  · rw [u0 3 (by omega)]; exact c3
  · rw [u0 4 (by omega)]; exact c4
  · rw [u0 5 (by omega)]; exact c5
  · rw [u0 6 (by omega)]; exact c6
  · rw [u0 1 (by omega)]; exact n1.1
  · rw [u0 1 (by omega)]; exact n1.2
  · rw [sa_s, up_s, u1]; omega
  · rw [u1]; omega
  · rw [u0 1 (by omega)] at hm
    rw [a0 7 m (by omega)]; exact n3 m hm
  · rw [u1] at hi
    by_cases q : i = z.1 2
    · rw [q, a8]; exact ⟨e1, en⟩
    · rw [a0 8 i (by omega)]; exact n4 i (by omega)
  · rw [u0 1 (by omega)] at hm
    rw [a0 1 m (by omega), m0 1 m (by omega), m0 2 m (by omega)]; exact v1 m hm
  · rw [u1] at hi
    by_cases q : i = z.1 2
    · rw [q, a2, a3, m3]
      refine ⟨e2, e3, e4, fun m hm => ?_⟩
      rw [m0 4 _ (by omega), w4 _ m hm (by omega)]; exact e5 m hm
    · rw [a0 2 i (by omega), a0 3 i (by omega), m0 3 i (by omega)]
      refine ⟨(v2 i (by omega)).1, (v2 i (by omega)).2.1, (v2 i (by omega)).2.2.1, fun m hm => ?_⟩
      rw [m0 4 _ (by omega)]; exact (v2 i (by omega)).2.2.2 m hm
  · rw [u0 3 (by omega)] at hk
    rw [a0 4 k (by omega), a0 5 k (by omega), a0 6 k (by omega)]; exact v3 k hk
  · unfold BF
    rw [eF, u0 4 (by omega)]
    exact ⟨f1, f2, f3, f4, f5⟩
/-- is the planet taken? -/
theorem l213 (h1 : OK M B N κ) (hc : CL M) (hZ : BZ M bk l z) {y l1 : Int} (hy : inR y) : ∀ (r i : Nat), i + r = z.1 2 → (fi (fun k => decide (z.2.1 2 k = y)) r i = -1 → ∀ i' : Int, pm_Run (d + 4) 213 134 [vA 234, vI l1, vI y, vI i'] [] (GF X, M, PTF v) K) → (fi (fun k => decide (z.2.1 2 k = y)) r i ≠ -1 → ∀ i' : Int, pm_Run (d + 4) 213 134 [vA 234, vI l1, vI y, vI i'] [] (GF X, (pm_sa M 234 (pm_up (pm_up (M 234) 8 4) 9 ((tok B N κ).2.1 : Int))), PTF v) K) → pm_Run (d + 4) 213 81 [vA 234, vI l1, vI y, vI (i : Int)] [] (GF X, M, PTF v) K
  | 0, i, hi, hA, _ => by
    obtain ⟨⟨e42, hb⟩, -, ⟨e41, b2⟩, -⟩ := id hZ.2.2.1
    have ix : (M 234 42).toNat = bk := by omega
    rw [r213_81 (by omega) (by omega) (by omega) (by rw [ix]; omega), ix, if_pos (by omega)]
    exact hA rfl _
  | r + 1, i, hi, hA, hB => by
    obtain ⟨⟨e42, hb⟩, -, ⟨e41, b2⟩, -⟩ := id hZ.2.2.1
    have ix : (M 234 42).toNat = bk := by omega
    have h8 := h1.1
    have r12 : inR (M 234 12) := by have : M 234 12 = -1 := hc; omega
    have ei := (hZ.2.2.2.1.2.1 i (by omega)).1
    have ri := hZ.1.2.2.2.2 i (by omega)
    have sl : ((8 * (M 234 42)) + (i : Int)).toNat = 8 * bk + i := by omega
    rw [r213_81 (by omega) (by omega) (by omega) (by rw [ix]; omega), ix, if_neg (by omega), r213_94 (by omega), if_neg (by omega), r213_101 (by omega) (by omega) (by rw [sl, ei]; exact ri) hy, sl, ei]
    rw [fi] at hA hB
    by_cases q : z.2.1 2 i = y
    · have nq : (if decide (z.2.1 2 i = y) = true then ((i : Nat) : Int) else fi (fun k => decide (z.2.1 2 k = y)) r (i + 1)) ≠ -1 := by rw [if_pos (by simpa using q)]; omega
      rw [if_neg (by simp [q]), r213_119, c183o h8, push_u, h1.2.2.1.2.1, r213_128]
      have hb := hB nq
      have f8 : (pm_sa M 234 (pm_up (pm_up (M 234) 8 4) 9 ((tok B N κ).2.1 : Int))) 234 8 = 4 := by rw [sa_s, up_n (by omega), up_s]
      have f42 : (pm_sa M 234 (pm_up (pm_up (M 234) 8 4) 9 ((tok B N κ).2.1 : Int))) 234 42 = (bk : Int) := by rw [sa_s, up_n (by omega), up_n (by omega)]; exact e42
      have f41 : (pm_sa M 234 (pm_up (pm_up (M 234) 8 4) 9 ((tok B N κ).2.1 : Int))) 241 bk = (z.1 2 : Int) := by rw [sa_n (by omega)]; exact e41
      generalize pm_sa M 234 (pm_up (pm_up (M 234) 8 4) 9 ((tok B N κ).2.1 : Int)) = Mf at hb f8 f42 f41
      have ixf : (Mf 234 42).toNat = bk := by omega
      rw [r213_81 (by omega) (by omega) (by omega) (by rw [ixf]; omega), ixf]
      by_cases q2 : Mf 241 bk ≤ (i : Int) + 1
      · rw [if_pos q2]; exact hb _
      · rw [if_neg q2, r213_94 (by omega), if_pos (by omega)]; exact hb _
    · rw [if_pos q, r213_128, show (i : Int) + 1 = ((i + 1 : Nat) : Int) by omega]
      rw [if_neg (by simpa using q)] at hA hB
      exact l213 h1 hc hZ hy r (i + 1) (by omega) hA hB
theorem sFr_l : sFr B N n a s = (match sNl B N 0 ((n 0 : Int) - 1) s with | .inl e => .inl e | .inr x => if fi (fun k => decide (a 2 k = vl B N s)) (n 2) 0 ≠ -1 then sG B N 4 (.inr x) else sA B N (.inr x)) := by
  unfold sFr sN sNl
  by_cases q : kd B N s = 2
  · obtain ⟨x, rfl⟩ := kd_x q (by decide)
    rw [if_pos q, if_pos q]
    by_cases q1 : fi (fun k => decide (a 2 k = vl B N (.inr x))) (n 2) 0 ≠ -1
    · rw [if_pos ⟨q, q1⟩]
      by_cases q2 : 0 ≤ vl B N (.inr x) ∧ vl B N (.inr x) ≤ (n 0 : Int) - 1
      · rw [if_pos q2]
        show _ = if _ then _ else _
        rw [if_pos q1]
      · rw [if_neg q2]; rfl
    · rw [if_neg (fun h => q1 h.2)]
      by_cases q2 : 0 ≤ vl B N (.inr x) ∧ vl B N (.inr x) ≤ (n 0 : Int) - 1
      · rw [if_pos q2, if_pos q2]
        show _ = if _ then _ else _
        rw [if_neg q1]
      · rw [if_neg q2, if_neg q2]; rfl
  · rw [if_neg (fun h => q h.1), if_neg q, if_neg q]
    cases s <;> rfl
end RFal
