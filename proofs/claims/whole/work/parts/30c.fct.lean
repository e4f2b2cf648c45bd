/-! Facts of the laid cells, by name. -/
def isFo (f : Nat) : Prop := f = 24 ∨ f = 50
def pdyn (a k : Nat) : Bool := (a == 0 && k == 3) || (a == 31 && k == 1) || (a == 60 && k == 7) || (a == 74 && k == 8) || (a == 91 && k == 5) || (a == 32 && k == 1) || (a == 225 && k == 3)
theorem ptf_l {v : Nat → Int} {a k n : Nat} (h : pdyn a k = false ∧ PTS a k = (n : Int)) : PTF v a k = (n : Int) := by
  obtain ⟨h1, h2⟩ := h
  simp only [pdyn, Bool.or_eq_false_iff, Bool.and_eq_false_iff, beq_eq_false_iff_ne] at h1
  obtain ⟨⟨⟨⟨⟨⟨a1, a2⟩, a3⟩, a4⟩, a5⟩, a6⟩, a7⟩ := h1
  have e : ∀ {x y : Nat}, (a ≠ x ∨ k ≠ y) → ¬ (a = x ∧ k = y) := fun h z => h.elim (fun q => q z.1) (fun q => q z.2)
  rw [PTF, if_neg (e a1), if_neg (e a2), if_neg (e a3), if_neg (e a4), if_neg (e a5), if_neg (e a6), if_neg (e a7)]
  exact h2
theorem ptd0 {v : Nat → Int} {x : Int} (h : v 0 = x) : PTF v 0 3 = x := by rw [← h]; rfl
theorem ptd1 {v : Nat → Int} {x : Int} (h : v 1 = x) : PTF v 31 1 = x := by rw [← h]; rfl
theorem ptd2 {v : Nat → Int} {x : Int} (h : v 2 = x) : PTF v 60 7 = x := by rw [← h]; rfl
theorem ptd3 {v : Nat → Int} {x : Int} (h : v 3 = x) : PTF v 74 8 = x := by rw [← h]; rfl
theorem ptd4 {v : Nat → Int} {x : Int} (h : v 4 = x) : PTF v 91 5 = x := by rw [← h]; rfl
theorem ptd5 {v : Nat → Int} {x : Int} (h : v 5 = x) : PTF v 32 1 = x := by rw [← h]; rfl
theorem ptd6 {v : Nat → Int} {x : Int} (h : v 6 = x) : PTF v 225 3 = x := by rw [← h]; rfl
section FCT
variable {b c t f : Nat} {v : Nat → Int}
theorem mos0 (hb : isMo b) : b < 283 ∧ SHF b = (5, 6) := (mo_f b hb).1
theorem mos1 (hb : isMo b) : b + 1 < 283 ∧ SHF (b + 1) = (100, 3) := (mo_f b hb).2.1
theorem mos2 (hb : isMo b) : b + 2 < 283 ∧ SHF (b + 2) = (100, 3) := (mo_f b hb).2.2.1
theorem mos3 (hb : isMo b) : b + 3 < 283 ∧ SHF (b + 3) = (100, 8) := (mo_f b hb).2.2.2.1
theorem mos4 (hb : isMo b) : b + 4 < 283 ∧ SHF (b + 4) = (100, 24) := (mo_f b hb).2.2.2.2.1
theorem mos5 (hb : isMo b) : b + 5 < 283 ∧ SHF (b + 5) = (100, 24) := (mo_f b hb).2.2.2.2.2.1
theorem mop1 (hb : isMo b) : PTF v b 1 = ((b + 1 : Nat) : Int) := (moP hb).1
theorem mop2 (hb : isMo b) : PTF v b 2 = ((b + 2 : Nat) : Int) := (moP hb).2.1
theorem mop3 (hb : isMo b) : PTF v b 3 = ((b + 3 : Nat) : Int) := (moP hb).2.2.1
theorem mop4 (hb : isMo b) : PTF v b 4 = ((b + 4 : Nat) : Int) := (moP hb).2.2.2.1
theorem mop5 (hb : isMo b) : PTF v b 5 = ((b + 5 : Nat) : Int) := (moP hb).2.2.2.2
theorem chs0 (hc : isCh c) : c < 283 ∧ SHF (c) = (1, 18) := by rcases hc with rfl | rfl <;> decide +kernel
theorem chs1 (hc : isCh c) : c + 1 < 283 ∧ SHF (c + 1) = (100, 3) := by rcases hc with rfl | rfl <;> decide +kernel
theorem chs2 (hc : isCh c) : c + 2 < 283 ∧ SHF (c + 2) = (100, 3) := by rcases hc with rfl | rfl <;> decide +kernel
theorem chs3 (hc : isCh c) : c + 3 < 283 ∧ SHF (c + 3) = (100, 8) := by rcases hc with rfl | rfl <;> decide +kernel
theorem chs4 (hc : isCh c) : c + 4 < 283 ∧ SHF (c + 4) = (100, 8) := by rcases hc with rfl | rfl <;> decide +kernel
theorem chs5 (hc : isCh c) : c + 5 < 283 ∧ SHF (c + 5) = (100, 8) := by rcases hc with rfl | rfl <;> decide +kernel
theorem chs6 (hc : isCh c) : c + 6 < 283 ∧ SHF (c + 6) = (100, 16) := by rcases hc with rfl | rfl <;> decide +kernel
theorem chs7 (hc : isCh c) : c + 7 < 283 ∧ SHF (c + 7) = (100, 16) := by rcases hc with rfl | rfl <;> decide +kernel
theorem chs8 (hc : isCh c) : c + 8 < 283 ∧ SHF (c + 8) = (100, 16) := by rcases hc with rfl | rfl <;> decide +kernel
theorem chs9 (hc : isCh c) : c + 9 < 283 ∧ SHF (c + 9) = (5, 6) := by rcases hc with rfl | rfl <;> decide +kernel
theorem chs10 (hc : isCh c) : c + 10 < 283 ∧ SHF (c + 10) = (100, 3) := by rcases hc with rfl | rfl <;> decide +kernel
theorem chs11 (hc : isCh c) : c + 11 < 283 ∧ SHF (c + 11) = (100, 3) := by rcases hc with rfl | rfl <;> decide +kernel
theorem chs12 (hc : isCh c) : c + 12 < 283 ∧ SHF (c + 12) = (100, 8) := by rcases hc with rfl | rfl <;> decide +kernel
theorem chs13 (hc : isCh c) : c + 13 < 283 ∧ SHF (c + 13) = (100, 24) := by rcases hc with rfl | rfl <;> decide +kernel
theorem chs14 (hc : isCh c) : c + 14 < 283 ∧ SHF (c + 14) = (100, 24) := by rcases hc with rfl | rfl <;> decide +kernel
theorem chs15 (hc : isCh c) : c + 15 < 283 ∧ SHF (c + 15) = (3, 7) := by rcases hc with rfl | rfl <;> decide +kernel
theorem chs16 (hc : isCh c) : c + 16 < 283 ∧ SHF (c + 16) = (100, 1600) := by rcases hc with rfl | rfl <;> decide +kernel
theorem chs17 (hc : isCh c) : c + 17 < 283 ∧ SHF (c + 17) = (100, 8) := by rcases hc with rfl | rfl <;> decide +kernel
theorem chs18 (hc : isCh c) : c + 18 < 283 ∧ SHF (c + 18) = (100, 8) := by rcases hc with rfl | rfl <;> decide +kernel
theorem chs19 (hc : isCh c) : c + 19 < 283 ∧ SHF (c + 19) = (100, 8) := by rcases hc with rfl | rfl <;> decide +kernel
theorem chs20 (hc : isCh c) : c + 20 < 283 ∧ SHF (c + 20) = (100, 29) := by rcases hc with rfl | rfl <;> decide +kernel
theorem chs21 (hc : isCh c) : c + 21 < 283 ∧ SHF (c + 21) = (100, 64) := by rcases hc with rfl | rfl <;> decide +kernel
theorem chp0_8 (hc : isCh c) : PTF v c 8 = ((c + 1 : Nat) : Int) := by rcases hc with rfl | rfl <;> exact ptf_l (by decide +kernel)
theorem chp0_9 (hc : isCh c) : PTF v c 9 = ((c + 2 : Nat) : Int) := by rcases hc with rfl | rfl <;> exact ptf_l (by decide +kernel)
theorem chp0_10 (hc : isCh c) : PTF v c 10 = ((c + 3 : Nat) : Int) := by rcases hc with rfl | rfl <;> exact ptf_l (by decide +kernel)
theorem chp0_11 (hc : isCh c) : PTF v c 11 = ((c + 4 : Nat) : Int) := by rcases hc with rfl | rfl <;> exact ptf_l (by decide +kernel)
theorem chp0_12 (hc : isCh c) : PTF v c 12 = ((c + 5 : Nat) : Int) := by rcases hc with rfl | rfl <;> exact ptf_l (by decide +kernel)
theorem chp0_13 (hc : isCh c) : PTF v c 13 = ((c + 6 : Nat) : Int) := by rcases hc with rfl | rfl <;> exact ptf_l (by decide +kernel)
theorem chp0_14 (hc : isCh c) : PTF v c 14 = ((c + 7 : Nat) : Int) := by rcases hc with rfl | rfl <;> exact ptf_l (by decide +kernel)
theorem chp0_15 (hc : isCh c) : PTF v c 15 = ((c + 8 : Nat) : Int) := by rcases hc with rfl | rfl <;> exact ptf_l (by decide +kernel)
theorem chp0_16 (hc : isCh c) : PTF v c 16 = ((c + 9 : Nat) : Int) := by rcases hc with rfl | rfl <;> exact ptf_l (by decide +kernel)
theorem chp0_17 (hc : isCh c) : PTF v c 17 = ((c + 15 : Nat) : Int) := by rcases hc with rfl | rfl <;> exact ptf_l (by decide +kernel)
theorem chp9_1 (hc : isCh c) : PTF v (c + 9) 1 = ((c + 10 : Nat) : Int) := by rcases hc with rfl | rfl <;> exact ptf_l (by decide +kernel)
theorem chp9_2 (hc : isCh c) : PTF v (c + 9) 2 = ((c + 11 : Nat) : Int) := by rcases hc with rfl | rfl <;> exact ptf_l (by decide +kernel)
theorem chp9_3 (hc : isCh c) : PTF v (c + 9) 3 = ((c + 12 : Nat) : Int) := by rcases hc with rfl | rfl <;> exact ptf_l (by decide +kernel)
theorem chp9_4 (hc : isCh c) : PTF v (c + 9) 4 = ((c + 13 : Nat) : Int) := by rcases hc with rfl | rfl <;> exact ptf_l (by decide +kernel)
theorem chp9_5 (hc : isCh c) : PTF v (c + 9) 5 = ((c + 14 : Nat) : Int) := by rcases hc with rfl | rfl <;> exact ptf_l (by decide +kernel)
theorem chp15_0 (hc : isCh c) : PTF v (c + 15) 0 = ((c + 16 : Nat) : Int) := by rcases hc with rfl | rfl <;> exact ptf_l (by decide +kernel)
theorem chp15_1 (hc : isCh c) : PTF v (c + 15) 1 = ((c + 17 : Nat) : Int) := by rcases hc with rfl | rfl <;> exact ptf_l (by decide +kernel)
theorem chp15_2 (hc : isCh c) : PTF v (c + 15) 2 = ((c + 18 : Nat) : Int) := by rcases hc with rfl | rfl <;> exact ptf_l (by decide +kernel)
theorem chp15_3 (hc : isCh c) : PTF v (c + 15) 3 = ((c + 19 : Nat) : Int) := by rcases hc with rfl | rfl <;> exact ptf_l (by decide +kernel)
theorem chp15_4 (hc : isCh c) : PTF v (c + 15) 4 = ((c + 20 : Nat) : Int) := by rcases hc with rfl | rfl <;> exact ptf_l (by decide +kernel)
theorem chp15_5 (hc : isCh c) : PTF v (c + 15) 5 = ((c + 21 : Nat) : Int) := by rcases hc with rfl | rfl <;> exact ptf_l (by decide +kernel)
theorem ti_c (ht : isTi t) : t = 57 ∨ t = 61 ∨ t = 75 ∨ t = 92 := by simpa [isTi] using ht
theorem tis0 (ht : isTi t) : t < 283 ∧ SHF (t) = (9, 2) := by rcases ti_c ht with rfl | rfl | rfl | rfl <;> decide +kernel
theorem tis1 (ht : isTi t) : t + 1 < 283 ∧ SHF (t + 1) = (100, 72) := by rcases ti_c ht with rfl | rfl | rfl | rfl <;> decide +kernel
theorem tis2 (ht : isTi t) : t + 2 < 283 ∧ SHF (t + 2) = (100, 24) := by rcases ti_c ht with rfl | rfl | rfl | rfl <;> decide +kernel
theorem tip0 (ht : isTi t) : PTF v t 0 = ((t + 1 : Nat) : Int) := by rcases ti_c ht with rfl | rfl | rfl | rfl <;> exact ptf_l (by decide +kernel)
theorem tip1 (ht : isTi t) : PTF v t 1 = ((t + 2 : Nat) : Int) := by rcases ti_c ht with rfl | rfl | rfl | rfl <;> exact ptf_l (by decide +kernel)
theorem fos0 (hf : isFo f) : f < 283 ∧ SHF (f) = (3, 7) := by rcases hf with rfl | rfl <;> decide +kernel
theorem fos1 (hf : isFo f) : f + 1 < 283 ∧ SHF (f + 1) = (100, 1600) := by rcases hf with rfl | rfl <;> decide +kernel
theorem fos2 (hf : isFo f) : f + 2 < 283 ∧ SHF (f + 2) = (100, 8) := by rcases hf with rfl | rfl <;> decide +kernel
theorem fos3 (hf : isFo f) : f + 3 < 283 ∧ SHF (f + 3) = (100, 8) := by rcases hf with rfl | rfl <;> decide +kernel
theorem fos4 (hf : isFo f) : f + 4 < 283 ∧ SHF (f + 4) = (100, 8) := by rcases hf with rfl | rfl <;> decide +kernel
theorem fos5 (hf : isFo f) : f + 5 < 283 ∧ SHF (f + 5) = (100, 29) := by rcases hf with rfl | rfl <;> decide +kernel
theorem fos6 (hf : isFo f) : f + 6 < 283 ∧ SHF (f + 6) = (100, 64) := by rcases hf with rfl | rfl <;> decide +kernel
theorem fop0 (hf : isFo f) : PTF v f 0 = ((f + 1 : Nat) : Int) := by rcases hf with rfl | rfl <;> exact ptf_l (by decide +kernel)
theorem fop1 (hf : isFo f) : PTF v f 1 = ((f + 2 : Nat) : Int) := by rcases hf with rfl | rfl <;> exact ptf_l (by decide +kernel)
theorem fop2 (hf : isFo f) : PTF v f 2 = ((f + 3 : Nat) : Int) := by rcases hf with rfl | rfl <;> exact ptf_l (by decide +kernel)
theorem fop3 (hf : isFo f) : PTF v f 3 = ((f + 4 : Nat) : Int) := by rcases hf with rfl | rfl <;> exact ptf_l (by decide +kernel)
theorem fop4 (hf : isFo f) : PTF v f 4 = ((f + 5 : Nat) : Int) := by rcases hf with rfl | rfl <;> exact ptf_l (by decide +kernel)
theorem fop5 (hf : isFo f) : PTF v f 5 = ((f + 6 : Nat) : Int) := by rcases hf with rfl | rfl <;> exact ptf_l (by decide +kernel)
theorem ch_mo (hc : isCh c) : isMo (c + 9) := by rcases hc with rfl | rfl <;> (show _ ∈ MOL; decide)
theorem ch_fo (hc : isCh c) : isFo (c + 15) := by rcases hc with rfl | rfl <;> (unfold isFo; decide)
end FCT
