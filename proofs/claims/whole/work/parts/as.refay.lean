/-! The reference: sea, the whole. -/
section RFay
variable {d b w bk D : Nat} {X : Nat × (Nat → Int)} {v : Nat → Int} {M M' M2 : PH} {K : PV → PS → Prop} {B : Nat → Int} {N : Nat} {κ : KP} {l S S0 Q : List Int} {e : Int × Int} {s : S2} {n : Nat → Nat} {a : PH} {z : CZ} {F : Nat → List Int} {μ : PH} {rf : Nat → Int} {sd : Int} {A : Nat} {P : Nat → PH} {R : Nat} {sp sh : Nat → Int} {pi : PB2} {fe : Int × Int}
theorem RM_v {w : Nat} (h : RM M n w μ) (e : ∀ q, 270 ≤ q → q ≤ 275 → M' q = M q) : RM M' n w μ := by
  unfold RM at *
  rw [e 270 (by omega) (by omega), e 271 (by omega) (by omega), e 272 (by omega) (by omega), e 273 (by omega) (by omega), e 274 (by omega) (by omega), e 275 (by omega) (by omega)]; exact h
theorem st_n {q r k : Nat} {x : Int} (h : r ≠ q ∨ k ≠ bk) : (pm_sa M q (pm_up (M q) bk x)) r k = M r k := by
  by_cases e : r = q
  · subst e; rw [sa_s, up_n (by omega)]
  · rw [sa_n e]
theorem ot_b {q k : Nat} (z3 : wd q * b ≤ k ∧ k < wd q * b + wd q) (hb : b < 2) (hbk : bk = 1 - b) : k ≠ bk ∨ (q ≠ 237 ∧ q ≠ 241 ∧ q ≠ 246 ∧ q ≠ 250 ∧ q ≠ 253 ∧ q ≠ 255 ∧ q ≠ 257 ∧ q ≠ 258) := by
  by_cases q1 : k = bk
  · right
    refine ⟨?_, ?_, ?_, ?_, ?_, ?_, ?_, ?_⟩ <;> (intro e; subst e; have w1 : 1 * b ≤ k ∧ k < 1 * b + 1 := z3; omega)
  · exact Or.inl q1
/-- before a text is read -/
theorem i222 (hb : M 234 13 = (b : Int) ∧ b < 2) (hN : M 234 1 = (N : Int)) (hK : ∀ M', SI M' (1 - b) N → M' 234 1 = 0 → (∀ q, q ≠ 234 → q < 236 ∨ 268 < q → M' q = M q) → (∀ q, 236 ≤ q → q ≤ 262 → ∀ k, wd q * b ≤ k ∧ k < wd q * b + wd q → M' q k = M q k) → (∀ j, j ≠ 1 → j ≠ 2 → j ≠ 5 → j ≠ 8 → j ≠ 9 → j ≠ 41 → j ≠ 42 → M' 234 j = M 234 j) → pm_Run d 222 125 [vA 234, PU] [] (GF X, M', PTF v) K) : pm_Call (d + 1) 222 [vA 234] (GF X, M, PTF v) K := by
  obtain ⟨h13, hb⟩ := hb
  rw [en222, r222_0, r222_8, sa_s, sa_sa, r222_13, sa_s, sa_sa, r222_18, sa_s, sa_sa, r222_23, sa_s, sa_sa]
  generalize hM0 : pm_sa M 234 (pm_up (pm_up (pm_up (pm_up (pm_up (M 234) 2 (M 234 1)) 1 0) 5 0) 8 0) 9 (-1)) = M0
  have n0 : ∀ q, q ≠ 234 → M0 q = M q := fun q hq => by rw [← hM0, sa_n hq]
  have j0 : ∀ j, j ≠ 1 → j ≠ 2 → j ≠ 5 → j ≠ 8 → j ≠ 9 → M0 234 j = M 234 j := fun j z1 z2 z5 z8 z9 => by rw [← hM0, sa_s, up_n z9, up_n z8, up_n z5, up_n z1, up_n z2]
  have a9 : M0 234 9 = -1 := by rw [← hM0, sa_s, up_s]
  have a8 : M0 234 8 = 0 := by rw [← hM0, sa_s, up_n (by omega), up_s]
  have a5 : M0 234 5 = 0 := by rw [← hM0, sa_s, up_n (by omega), up_n (by omega), up_s]
  have a1 : M0 234 1 = 0 := by rw [← hM0, sa_s, up_n (by omega), up_n (by omega), up_n (by omega), up_s]
  have a2 : M0 234 2 = (N : Int) := by rw [← hM0, sa_s, up_n (by omega), up_n (by omega), up_n (by omega), up_n (by omega), up_s]; exact hN
  have a13 : M0 234 13 = (b : Int) := by rw [j0 13 (by omega) (by omega) (by omega) (by omega) (by omega)]; exact h13
  rw [r222_28, a13]
  obtain ⟨bk, hbk⟩ : ∃ bk, bk = 1 - b := ⟨_, rfl⟩
  rw [← hbk] at hK
  generalize hM1 : pm_sa M0 234 (pm_up (M0 234) 42 (1 - (b : Int))) = M1
  have n1 : ∀ q, q ≠ 234 → M1 q = M q := fun q hq => by rw [← hM1, sa_n hq]; exact n0 q hq
  have j1 : ∀ j, j ≠ 42 → M1 234 j = M0 234 j := fun j hj => by rw [← hM1, sa_s, up_n hj]
  have e1 : M1 234 42 = (bk : Int) := by rw [← hM1, sa_s, up_s]; omega
  have hb2 : bk < 2 := by omega
  have py : ∀ y : Int, y = (bk : Int) → 0 ≤ y ∧ y < 2 ∧ y.toNat = bk := fun y hy => by omega
  have x1 := (py _ e1).2.2
  rw [r222_38 (py _ e1).1 (py _ e1).2.1, x1]
  generalize hM2 : pm_sa M1 237 (pm_up (M1 237) bk (0)) = M2
  have f2 : M2 234 = M1 234 := by rw [← hM2, sa_n (by decide)]
  have c2 : M2 237 bk = 0 := by rw [← hM2, sa_s, up_s]
  have s2 : ∀ r k, r ≠ 237 ∨ k ≠ bk → M2 r k = M1 r k := fun r k hr => by
    rw [← hM2]; exact st_n hr
  have e2 : M2 234 42 = (bk : Int) := by rw [f2]; exact e1
  have x2 := (py _ e2).2.2
  rw [r222_48 (py _ e2).1 (py _ e2).2.1, x2]
  generalize hM3 : pm_sa M2 241 (pm_up (M2 241) bk (0)) = M3
  have f3 : M3 234 = M2 234 := by rw [← hM3, sa_n (by decide)]
  have c3 : M3 241 bk = 0 := by rw [← hM3, sa_s, up_s]
  have s3 : ∀ r k, r ≠ 241 ∨ k ≠ bk → M3 r k = M2 r k := fun r k hr => by
    rw [← hM3]; exact st_n hr
  have e3 : M3 234 42 = (bk : Int) := by rw [f3]; exact e2
  have x3 := (py _ e3).2.2
  rw [r222_58 (py _ e3).1 (py _ e3).2.1, x3]
  generalize hM4 : pm_sa M3 246 (pm_up (M3 246) bk (0)) = M4
  have f4 : M4 234 = M3 234 := by rw [← hM4, sa_n (by decide)]
  have c4 : M4 246 bk = 0 := by rw [← hM4, sa_s, up_s]
  have s4 : ∀ r k, r ≠ 246 ∨ k ≠ bk → M4 r k = M3 r k := fun r k hr => by
    rw [← hM4]; exact st_n hr
  have e4 : M4 234 42 = (bk : Int) := by rw [f4]; exact e3
  have x4 := (py _ e4).2.2
  rw [r222_68 (py _ e4).1 (py _ e4).2.1, x4]
  generalize hM5 : pm_sa M4 250 (pm_up (M4 250) bk (0)) = M5
  have f5 : M5 234 = M4 234 := by rw [← hM5, sa_n (by decide)]
  have c5 : M5 250 bk = 0 := by rw [← hM5, sa_s, up_s]
  have s5 : ∀ r k, r ≠ 250 ∨ k ≠ bk → M5 r k = M4 r k := fun r k hr => by
    rw [← hM5]; exact st_n hr
  have e5 : M5 234 42 = (bk : Int) := by rw [f5]; exact e4
  have x5 := (py _ e5).2.2
  rw [r222_78 (py _ e5).1 (py _ e5).2.1, x5]
  generalize hM6 : pm_sa M5 253 (pm_up (M5 253) bk (-1)) = M6
  have f6 : M6 234 = M5 234 := by rw [← hM6, sa_n (by decide)]
  have c6 : M6 253 bk = -1 := by rw [← hM6, sa_s, up_s]
  have s6 : ∀ r k, r ≠ 253 ∨ k ≠ bk → M6 r k = M5 r k := fun r k hr => by
    rw [← hM6]; exact st_n hr
  have e6 : M6 234 42 = (bk : Int) := by rw [f6]; exact e5
  have x6 := (py _ e6).2.2
  rw [r222_88 (py _ e6).1 (py _ e6).2.1, x6]
  generalize hM7 : pm_sa M6 255 (pm_up (M6 255) bk (-1)) = M7
  have f7 : M7 234 = M6 234 := by rw [← hM7, sa_n (by decide)]
  have c7 : M7 255 bk = -1 := by rw [← hM7, sa_s, up_s]
  have s7 : ∀ r k, r ≠ 255 ∨ k ≠ bk → M7 r k = M6 r k := fun r k hr => by
    rw [← hM7]; exact st_n hr
  have e7 : M7 234 42 = (bk : Int) := by rw [f7]; exact e6
  have x7 := (py _ e7).2.2
  rw [r222_98 (py _ e7).1 (py _ e7).2.1, x7]
  generalize hM8 : pm_sa M7 257 (pm_up (M7 257) bk (20)) = M8
  have f8 : M8 234 = M7 234 := by rw [← hM8, sa_n (by decide)]
  have c8 : M8 257 bk = 20 := by rw [← hM8, sa_s, up_s]
  have s8 : ∀ r k, r ≠ 257 ∨ k ≠ bk → M8 r k = M7 r k := fun r k hr => by
    rw [← hM8]; exact st_n hr
  have e8 : M8 234 42 = (bk : Int) := by rw [f8]; exact e7
  have x8 := (py _ e8).2.2
  rw [r222_109 (py _ e8).1 (py _ e8).2.1, x8]
  generalize hM9 : pm_sa M8 258 (pm_up (M8 258) bk (50)) = M9
  have f9 : M9 234 = M8 234 := by rw [← hM9, sa_n (by decide)]
  have c9 : M9 258 bk = 50 := by rw [← hM9, sa_s, up_s]
  have s9 : ∀ r k, r ≠ 258 ∨ k ≠ bk → M9 r k = M8 r k := fun r k hr => by
    rw [← hM9]; exact st_n hr
  have e9 : M9 234 42 = (bk : Int) := by rw [f9]; exact e8
  have x9 := (py _ e9).2.2
  rw [r222_120]
  generalize hM10 : pm_sa M9 234 (pm_up (M9 234) 41 0) = M10
  have g9 : M9 234 = M1 234 := by rw [f9, f8, f7, f6, f5, f4, f3, f2]
  have n10 : ∀ q, q ≠ 234 → M10 q = M9 q := fun q hq => by rw [← hM10, sa_n hq]
  have j10 : ∀ j, j ≠ 41 → M10 234 j = M1 234 j := fun j hj => by rw [← hM10, sa_s, up_n hj, g9]
  have all : ∀ q k, q ≠ 234 → (k ≠ bk ∨ (q ≠ 237 ∧ q ≠ 241 ∧ q ≠ 246 ∧ q ≠ 250 ∧ q ≠ 253 ∧ q ≠ 255 ∧ q ≠ 257 ∧ q ≠ 258)) → M10 q k = M q k := fun q k hq hk => by
    rw [n10 q hq, s9 q k (hk.elim Or.inr (fun h => Or.inl h.2.2.2.2.2.2.2)), s8 q k (hk.elim Or.inr (fun h => Or.inl h.2.2.2.2.2.2.1)), s7 q k (hk.elim Or.inr (fun h => Or.inl h.2.2.2.2.2.1)), s6 q k (hk.elim Or.inr (fun h => Or.inl h.2.2.2.2.1)), s5 q k (hk.elim Or.inr (fun h => Or.inl h.2.2.2.1)), s4 q k (hk.elim Or.inr (fun h => Or.inl h.2.2.1)), s3 q k (hk.elim Or.inr (fun h => Or.inl h.2.1)), s2 q k (hk.elim Or.inr (fun h => Or.inl h.1)), n1 q hq]
  refine hK M10 ⟨by rw [j10 2 (by omega), j1 2 (by omega)]; exact a2, by rw [j10 5 (by omega), j1 5 (by omega)]; exact a5, by rw [j10 8 (by omega), j1 8 (by omega)]; exact a8, by rw [j10 9 (by omega), j1 9 (by omega)]; exact a9, ⟨by rw [j10 42 (by omega)]; exact e1, by omega⟩, by rw [← hM10, sa_s, up_s], ?_, ?_, ?_, ?_, ?_, ?_, ?_, ?_⟩ (by rw [j10 1 (by omega), j1 1 (by omega)]; exact a1) (fun q z1 z2 => funext fun k => all q k z1 (Or.inr (by clear hK; omega))) (fun q z1 z2 k z3 => all q k (fun z => by omega) (ot_b z3 hb hbk)) (fun j z1 z2 z5 z8 z9 z41 z42 => by rw [j10 j z41, j1 j z42, j0 j z1 z2 z5 z8 z9])
  · rw [n10 237 (by decide), s9 237 bk (Or.inl (by decide)), s8 237 bk (Or.inl (by decide)), s7 237 bk (Or.inl (by decide)), s6 237 bk (Or.inl (by decide)), s5 237 bk (Or.inl (by decide)), s4 237 bk (Or.inl (by decide)), s3 237 bk (Or.inl (by decide))]; exact c2
  · rw [n10 241 (by decide), s9 241 bk (Or.inl (by decide)), s8 241 bk (Or.inl (by decide)), s7 241 bk (Or.inl (by decide)), s6 241 bk (Or.inl (by decide)), s5 241 bk (Or.inl (by decide)), s4 241 bk (Or.inl (by decide))]; exact c3
  · rw [n10 246 (by decide), s9 246 bk (Or.inl (by decide)), s8 246 bk (Or.inl (by decide)), s7 246 bk (Or.inl (by decide)), s6 246 bk (Or.inl (by decide)), s5 246 bk (Or.inl (by decide))]; exact c4
  · rw [n10 250 (by decide), s9 250 bk (Or.inl (by decide)), s8 250 bk (Or.inl (by decide)), s7 250 bk (Or.inl (by decide)), s6 250 bk (Or.inl (by decide))]; exact c5
  · rw [n10 253 (by decide), s9 253 bk (Or.inl (by decide)), s8 253 bk (Or.inl (by decide)), s7 253 bk (Or.inl (by decide))]; exact c6
  · rw [n10 255 (by decide), s9 255 bk (Or.inl (by decide)), s8 255 bk (Or.inl (by decide))]; exact c7
  · rw [n10 257 (by decide), s9 257 bk (Or.inl (by decide))]; exact c8
  · rw [n10 258 (by decide)]; exact c9
end RFay
