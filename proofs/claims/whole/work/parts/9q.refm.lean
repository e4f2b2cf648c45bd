/-! The reference: moons meet. -/
theorem fi_per {P : Nat → Bool} {N L : Nat} (hP : ∀ t, P (t + N) = P t) (hN : 0 < N) (hL : N ≤ L) : fi P L 0 = fi P N 0 := by
  by_cases q : fi P N 0 = -1
  · rw [q]
    have key : ∀ k t, t < N → P (t + N * k) = false := by
      intro k
      induction k with
      | zero => intro t ht; exact fi_n q t (by omega) (by omega)
      | succ k ih => intro t ht; rw [Nat.mul_succ, ← Nat.add_assoc, hP]; exact ih t ht
    refine fi_0 (fun j _ _ => ?_)
    have := key (j / N) (j % N) (Nat.mod_lt _ hN)
    rw [Nat.mod_add_div] at this; exact this
  · obtain ⟨j, h1, h2, h3, h4, h5⟩ := fi_s q
    rw [h1]
    exact fi_1 (by omega) (by omega) h4 h5
theorem mul_b {x y : Int} (hx : 0 ≤ x ∧ x ≤ 23) (hy : 0 ≤ y ∧ y ≤ 9999) : 0 ≤ x * y ∧ x * y ≤ 229977 := ⟨Int.mul_nonneg hx.1 hy.1, Int.le_trans (Int.mul_le_mul hx.2 hy.2 hy.1 (by omega)) (by omega)⟩
section RFm
variable {d b w : Nat} {X : Nat × (Nat → Int)} {v : Nat → Int} {M M' M2 : PH} {K : PV → PS → Prop} {n : Nat → Nat} {a μ ν : PH} {F : Nat → List Int}
theorem plc_p (hwC : wC n a F) (hw : wM n μ) {m t : Nat} (hm : m < n 1) : plc n a μ m (t + n 0) = plc n a μ m t := by
  have g1 := hwC.2.1 m hm
  have g2 := hw.2.1 m hm
  have h1 : (0 : Int) ≤ ((t + n 0 : Nat) : Int) * a 1 m := Int.mul_nonneg (by omega) g1.1
  have h2 : (0 : Int) ≤ (t : Int) * a 1 m := Int.mul_nonneg (by omega) g1.1
  unfold plc
  rw [Int.tmod_eq_emod_of_nonneg (by omega), Int.tmod_eq_emod_of_nonneg (by omega), Int.natCast_add, Int.add_mul, ← Int.add_assoc, Int.mul_comm (n 0 : Int), Int.add_mul_emod_self_right]
theorem meeT_p (hwC : wC n a F) (hw : wM n μ) (h1 : 0 < n 1) {t : Nat} : meeT n a μ (t + n 0) = meeT n a μ t := al_c (fun i hi => by rw [plc_p hwC hw (by omega), plc_p hwC hw (by omega)])
theorem c296 (hS : RS M b n a F) (hM : RM M n 0 μ) (hw : wM n μ) {x : Int} (hx : inR x) : pm_Call (d + 2) 296 [vA 234, vI x] (GF X, M, PTF v) K ↔ K (vI (qMee n a μ x)) (GF X, M, PTF v) := by
  have hwC := hS.2.2
  have hn := hwC.1
  have hw0 := hw.1
  obtain ⟨⟨hb, e13⟩, ⟨e0, e1, -⟩, eg, -⟩ := id hS.1
  have en0 : M 236 (M 234 13).toNat = (n 0 : Int) := by rw [e13, Int.toNat_natCast, e0]
  have en1 : M 237 (M 234 13).toNat = (n 1 : Int) := by rw [e13, Int.toNat_natCast, e1]
  by_cases q : 0 ≤ x ∧ x ≤ 1
  · by_cases q1 : n 1 = 0
    · have e : qMee n a μ x = -1 := by rw [qMee, mtT, if_pos q1, if_pos rfl]
      rw [e]
      rw [en296, r296_0, c179t hx (by omega) (by omega) q, push_i, r296_6 (by omega), if_neg (by omega), r296_9 (by omega) (by omega) (by rw [en1]; omega), en1, if_neg (by omega), r296_21]
    · have hn0 : 0 < n 0 := by omega
      have em : mtT n a μ = fi (meeT n a μ) 10000 0 := by rw [mtT, if_neg q1]; exact (fi_per (L := 10000) (fun t => meeT_p hwC hw (by omega)) hn0 (by omega)).symm
      rw [qMee, em]
      rw [en296, r296_0, c179t hx (by omega) (by omega) q, push_i, r296_6 (by omega), if_neg (by omega), r296_9 (by omega) (by omega) (by rw [en1]; omega), en1, if_pos (by omega), r296_23]
      have pe : ∀ m t : Nat, m < n 1 → t ≤ 9999 → (μ 1 m + a 1 m * (t : Int)).tmod (n 0 : Int) = plc n a μ m t ∧ inR (μ 1 m + a 1 m * (t : Int)) ∧ 0 ≤ plc n a μ m t ∧ plc n a μ m t < n 0 := fun m t hm ht => by
        have g1 := hwC.2.1 m hm
        have g2 := hw.2.1 m hm
        have g3 := mul_b (x := a 1 m) (y := (t : Int)) g1 (by omega)
        have e : (μ 1 m + a 1 m * (t : Int)).tmod (n 0 : Int) = plc n a μ m t := by rw [plc, Int.mul_comm]
        have g4 := tm_b (x := μ 1 m + a 1 m * (t : Int)) (y := (n 0 : Int)) (by omega) (by omega)
        rw [e] at g4
        exact ⟨e, by omega, g4⟩
      have inner : ∀ t : Nat, t ≤ 9999 → ∀ k2 m, m + k2 = n 1 → 1 ≤ m → (pm_Run (d + 1) 296 69 [vA 234, vI x, vI (t : Int), vI (if al (fun i => decide (plc n a μ (i + 1) t = plc n a μ 0 t)) (m - 1) = true then 1 else 0), vI (plc n a μ 0 t), vI (m : Int)] [] (GF X, M, PTF v) K ↔ pm_Run (d + 1) 296 138 [vA 234, vI x, vI (t : Int), vI (if meeT n a μ t = true then 1 else 0), vI (plc n a μ 0 t), vI (n 1 : Int)] [] (GF X, M, PTF v) K) := by
        intro t ht k2
        induction k2 with
        | zero =>
          intro m hm hm1
          rw [r296_69 (by omega) (by omega) (by omega) (by rw [en1]; omega), en1, if_pos (by omega), show m = n 1 by omega]; exact Iff.rfl
        | succ k2 ih =>
          intro m hm hm1
          have nx := ih (m + 1) (by omega) (by omega)
          rw [show m + 1 - 1 = (m - 1) + 1 by omega, al, show m - 1 + 1 = m by omega] at nx
          rw [r296_69 (by omega) (by omega) (by omega) (by rw [en1]; omega), en1, if_neg (by omega), r296_83 i01]
          by_cases z : al (fun i => decide (plc n a μ (i + 1) t = plc n a μ 0 t)) (m - 1) = true
          · obtain ⟨p1, p2, p3⟩ := pe m t (by omega) ht
            obtain ⟨-, -, p4⟩ := pe 0 t (by omega) ht
            have i2 : (3 * M 234 13 + (m : Int)).toNat = 3 * b + m := by omega
            have g := (hM.2.2.1 m (by omega)).1
            rw [show 3 * 0 + m = m by omega] at g
            rw [z, Bool.true_and] at nx
            rw [if_pos z, if_neg (by omega), r296_87 (by omega) (by omega) (by omega) (by omega) (by omega) (by omega) (by rw [Int.toNat_natCast, i2, g, eg m (by omega)]; exact p2) (by rw [en0]; omega) (by rw [en0]; omega) (by rw [Int.toNat_natCast, i2, g, eg m (by omega), en0, p1]; omega) (by omega), Int.toNat_natCast, i2, g, eg m (by omega), en0, p1]
            by_cases z2 : plc n a μ m t = plc n a μ 0 t
            · rw [decide_eq_true z2, if_pos rfl] at nx
              rw [if_neg (by simpa using z2), r296_126, r296_131]; exact nx
            · rw [decide_eq_false z2, if_neg (by simp)] at nx
              rw [if_pos z2, r296_130, r296_131]; exact nx
          · have z' : al (fun i => decide (plc n a μ (i + 1) t = plc n a μ 0 t)) (m - 1) = false := by simpa using z
            rw [z', Bool.false_and, if_neg (by simp)] at nx
            rw [if_neg z, if_pos rfl, r296_130, r296_131]; exact nx
      have main : ∀ k t : Nat, t + k = 10000 → fi (meeT n a μ) 10000 0 = fi (meeT n a μ) k t → ∀ l3 l4 l5 : PV, (pm_Run (d + 1) 296 25 [vA 234, vI x, vI (t : Int), l3, l4, l5] [] (GF X, M, PTF v) K ↔ K (vI (if fi (meeT n a μ) 10000 0 = -1 then -1 else if x = 0 then μ 0 0 + fi (meeT n a μ) 10000 0 else if x = 1 then (μ 1 0 + fi (meeT n a μ) 10000 0 * a 1 0).tmod (n 0) else -1)) (GF X, M, PTF v)) := by
        intro k
        induction k with
        | zero =>
          intro t ht he l3 l4 l5
          rw [r296_25 (by omega), if_pos (by omega), r296_166, if_pos (by rw [he]; rfl)]
        | succ k ih =>
          intro t ht he l3 l4 l5
          obtain ⟨p1, p2, p3⟩ := pe 0 t (by omega) (by omega)
          have i0 : (3 * M 234 13).toNat = 3 * b + 0 := by omega
          have g0 := (hM.2.2.1 0 (by omega)).1
          rw [show 3 * 0 + 0 = 0 by omega] at g0
          rw [r296_25 (by omega), if_neg (by omega), r296_32 (by omega) (by omega) (by omega) (by omega) (by rw [i0, g0, eg 0 (by omega)]; exact p2) (by rw [en0]; omega) (by rw [en0]; omega), i0, g0, eg 0 (by omega), en0, p1]
          have inn := inner t (by omega) (n 1 - 1) 1 (by omega) (by omega)
          rw [show (if al (fun i => decide (plc n a μ (i + 1) t = plc n a μ 0 t)) (1 - 1) = true then (1 : Int) else 0) = 1 from rfl] at inn
          refine inn.trans ?_
          rw [show fi (meeT n a μ) (k + 1) t = if meeT n a μ t = true then (t : Int) else fi (meeT n a μ) k (t + 1) from rfl] at he
          rw [r296_138 i01]
          by_cases z : meeT n a μ t = true
          · rw [if_pos z] at he
            rw [he, if_neg (show ¬ (t : Int) = -1 by omega), if_pos z, if_neg (by omega), r296_142 hx]
            by_cases x0 : x = 0
            · rw [if_neg (by simpa using x0), r296_146, r296_159, hM.2.1, if_pos x0]
            · rw [if_pos x0, r296_157, r296_159, if_neg x0, if_pos (by omega)]; exact Iff.rfl
          · rw [if_neg z] at he
            rw [if_neg z, if_pos rfl, r296_160]
            exact ih (t + 1) (by omega) he _ _ _
      exact main 10000 0 (by omega) rfl PU PU PU
  · have e : qMee n a μ x = -1 := by
      rw [qMee]
      split
      · rfl
      · rw [if_neg (by omega), if_neg (by omega)]
    rw [e]
    rw [en296, r296_0, c179f hx (by omega) (by omega) q, push_i, r296_6 (by omega), if_pos (by omega), r296_21]
end RFm
