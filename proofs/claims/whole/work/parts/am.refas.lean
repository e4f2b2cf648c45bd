/-! The reference's reader of statements: which statement. -/
section RFas
variable {d b w bk D : Nat} {X : Nat × (Nat → Int)} {v : Nat → Int} {M M' M2 : PH} {K : PV → PS → Prop} {B : Nat → Int} {N : Nat} {κ : KP} {o op : Nat} {l e S S0 Q : List Int} {s : ST} {n : Nat → Nat} {a : PH} {z : CZ} {P : Nat → Nat → Prop}
theorem isW_w {k : Nat} : isW B N (k : Int) (.inr (κ, o, l)) = true ↔ wdo B N κ = (k : Int) := by
  constructor
  · intro h
    have h := isW_k h
    rw [wdo, if_pos h.1]; exact h.2
  · intro h
    unfold wdo at h
    by_cases q : (tok B N κ).1 = 1
    · rw [if_pos q] at h
      show (decide ((tok B N κ).1 = 1) && decide ((tok B N κ).2.2.2.2.1 = (k : Int))) = true
      rw [Bool.and_eq_true, decide_eq_true_iff, decide_eq_true_iff]; exact ⟨q, h⟩
    · rw [if_neg q] at h; omega
theorem gSt_n (h : ∀ k : Int, k = 1 ∨ k = 5 ∨ k = 8 ∨ k = 9 ∨ k = 10 ∨ k = 11 ∨ k = 12 ∨ k = 13 ∨ k = 14 → wdo B N κ ≠ k) : gStm B N κ l z false = .inl (1, ((tok B N κ).2.2.1 : Int)) := by
  rw [gStm]
  by_cases q : wdo B N κ = 0
  · rw [q, if_neg (by decide)]
  · rw [if_pos (by simp [q]), if_neg q, if_neg (h 1 (by simp)), if_neg (h 5 (by simp)), if_neg (h 8 (by simp)), if_neg (h 9 (by simp)), if_neg (h 13 (by simp)), if_neg (h 14 (by simp)), if_neg (fun z => by rcases z with z | z | z <;> exact h _ (by simp) z)]
theorem gSt_k {k : Nat} (h : wdo B N κ = (k : Int)) : gStm B N κ l z false = (if k = 1 then gMoon B N κ l z else if k = 5 then gHarb B N κ l z else if k = 8 then gPays B N κ l z else if k = 9 then gOwes B N κ l z else if k = 10 then gForm B N κ l z 10 else if k = 11 then gForm B N κ l z 11 else if k = 12 then gForm B N κ l z 12 else if k = 13 then gNum B N κ l z 5 0 99 else if k = 14 then gNum B N κ l z 6 1 999 else .inl (1, ((tok B N κ).2.2.1 : Int))) := by
  by_cases q1 : k = 1
  · subst q1; rw [gStm, h]; rfl
  by_cases q5 : k = 5
  · subst q5; rw [gStm, h]; rfl
  by_cases q8 : k = 8
  · subst q8; rw [gStm, h]; rfl
  by_cases q9 : k = 9
  · subst q9; rw [gStm, h]; rfl
  by_cases q10 : k = 10
  · subst q10; rw [gStm, h]; rfl
  by_cases q11 : k = 11
  · subst q11; rw [gStm, h]; rfl
  by_cases q12 : k = 12
  · subst q12; rw [gStm, h]; rfl
  by_cases q13 : k = 13
  · subst q13; rw [gStm, h]; rfl
  by_cases q14 : k = 14
  · subst q14; rw [gStm, h]; rfl
  rw [if_neg q1, if_neg q5, if_neg q8, if_neg q9, if_neg q10, if_neg q11, if_neg q12, if_neg q13, if_neg q14]
  exact gSt_n (fun i hi => by omega)
/-- statement -/
theorem t220 (hT : TX M B N) (h : OK M B N κ) (hl : l.length ≤ κ.1) (hd : CDR M bk l) (hZ : BZ M bk l z) (hK : ∀ M', QS2 M' bk B N (gStm B N κ l z false) → fB bk M M' → K PU (GF X, M', PTF v)) : pm_Call (d + 9) 220 [vA 234] (GF X, M, PTF v) K := by
  have h8 := h.1
  rw [en220, r220_0]
  refine c186 (d := d + 6) hT h (fun hc => ?_) (fun h4 M' hf h3 hff => ?_)
  · have r12 : inR (M 234 12) := by have : M 234 12 = -1 := hc; omega
    have e21 := OK_c h hc
    rw [push_u, r220_4 (by omega), if_pos (by omega), r220_12]
    refine (c189 (d := d + 7) (k := 1) (o := 0) (l := l) h hc (by omega)).mpr ?_
    rw [push_i, r220_19 i01]
    by_cases q1 : isW B N ((1 : Nat) : Int) (.inr (κ, 0, l)) = true
    · have k1 := (isW_k q1).1
      have eg := gSt_k (l := l) (z := z) (isW_w.mp q1)
      rw [if_pos q1, if_neg (by omega), r220_22]
      exact t212 (d := d + 3) hT h hc k1 hd hZ (fun M' hq hf => by rw [push_u, r220_26, r220_176]; exact hK M' (by rw [eg]; exact hq) hf)
    rw [if_neg q1, if_pos rfl, r220_29]
    refine (c189 (d := d + 7) (k := 5) (o := 0) (l := l) h hc (by omega)).mpr ?_
    rw [push_i, r220_36 i01]
    by_cases q5 : isW B N ((5 : Nat) : Int) (.inr (κ, 0, l)) = true
    · have k1 := (isW_k q5).1
      have eg := gSt_k (l := l) (z := z) (isW_w.mp q5)
      rw [if_pos q5, if_neg (by omega), r220_39]
      exact t213 (d := d + 3) hT h hc k1 hd hZ (fun M' hq hf => by rw [push_u, r220_43, r220_176]; exact hK M' (by rw [eg]; exact hq) hf)
    rw [if_neg q5, if_pos rfl, r220_46]
    refine (c189 (d := d + 7) (k := 8) (o := 0) (l := l) h hc (by omega)).mpr ?_
    rw [push_i, r220_53 i01]
    by_cases q8 : isW B N ((8 : Nat) : Int) (.inr (κ, 0, l)) = true
    · have k1 := (isW_k q8).1
      have eg := gSt_k (l := l) (z := z) (isW_w.mp q8)
      rw [if_pos q8, if_neg (by omega), r220_56]
      exact t214 (d := d + 3) hT h hc k1 hd hZ (fun M' hq hf => by rw [push_u, r220_60, r220_176]; exact hK M' (by rw [eg]; exact hq) hf)
    rw [if_neg q8, if_pos rfl, r220_63]
    refine (c189 (d := d + 7) (k := 9) (o := 0) (l := l) h hc (by omega)).mpr ?_
    rw [push_i, r220_70 i01]
    by_cases q9 : isW B N ((9 : Nat) : Int) (.inr (κ, 0, l)) = true
    · have k1 := (isW_k q9).1
      have eg := gSt_k (l := l) (z := z) (isW_w.mp q9)
      rw [if_pos q9, if_neg (by omega), r220_73]
      exact t215 (d := d + 3) hT h hc k1 hd hZ (fun M' hq hf => by rw [push_u, r220_77, r220_176]; exact hK M' (by rw [eg]; exact hq) hf)
    rw [if_neg q9, if_pos rfl, r220_80]
    refine (c189 (d := d + 7) (k := 10) (o := 0) (l := l) h hc (by omega)).mpr ?_
    rw [push_i, r220_87 i01]
    by_cases q10 : isW B N ((10 : Nat) : Int) (.inr (κ, 0, l)) = true
    · have k1 := (isW_k q10).1
      have eg := gSt_k (l := l) (z := z) (isW_w.mp q10)
      rw [if_pos q10, if_neg (by omega), r220_90]
      exact t216 (d := d) hT h hc k1 hl hd hZ (fun M' hq hf => by rw [push_u, r220_94, r220_176]; exact hK M' (by rw [eg]; exact hq) hf)
    rw [if_neg q10, if_pos rfl, r220_97]
    refine (c189 (d := d + 7) (k := 11) (o := 0) (l := l) h hc (by omega)).mpr ?_
    rw [push_i, r220_104 i01]
    by_cases q11 : isW B N ((11 : Nat) : Int) (.inr (κ, 0, l)) = true
    · have k1 := (isW_k q11).1
      have eg := gSt_k (l := l) (z := z) (isW_w.mp q11)
      rw [if_pos q11, if_neg (by omega), r220_107]
      exact t217 (d := d) hT h hc k1 hl hd hZ (fun M' hq hf => by rw [push_u, r220_111, r220_176]; exact hK M' (by rw [eg]; exact hq) hf)
    rw [if_neg q11, if_pos rfl, r220_114]
    refine (c189 (d := d + 7) (k := 12) (o := 0) (l := l) h hc (by omega)).mpr ?_
    rw [push_i, r220_121 i01]
    by_cases q12 : isW B N ((12 : Nat) : Int) (.inr (κ, 0, l)) = true
    · have k1 := (isW_k q12).1
      have eg := gSt_k (l := l) (z := z) (isW_w.mp q12)
      rw [if_pos q12, if_neg (by omega), r220_124]
      exact t218 (d := d) hT h hc k1 hl hd hZ (fun M' hq hf => by rw [push_u, r220_128, r220_176]; exact hK M' (by rw [eg]; exact hq) hf)
    rw [if_neg q12, if_pos rfl, r220_131]
    refine (c189 (d := d + 7) (k := 13) (o := 0) (l := l) h hc (by omega)).mpr ?_
    rw [push_i, r220_138 i01]
    by_cases q13 : isW B N ((13 : Nat) : Int) (.inr (κ, 0, l)) = true
    · have k1 := (isW_k q13).1
      have eg := gSt_k (l := l) (z := z) (isW_w.mp q13)
      rw [if_pos q13, if_neg (by omega), r220_141]
      exact t219 (d := d + 3) hT h hc k1 hd hZ (Or.inl ⟨rfl, rfl, rfl, rfl⟩) (fun M' hq hf => by rw [push_u, r220_146, r220_176]; exact hK M' (by rw [eg]; exact hq) hf)
    rw [if_neg q13, if_pos rfl, r220_149]
    refine (c189 (d := d + 7) (k := 14) (o := 0) (l := l) h hc (by omega)).mpr ?_
    rw [push_i, r220_156 i01]
    by_cases q14 : isW B N ((14 : Nat) : Int) (.inr (κ, 0, l)) = true
    · have k1 := (isW_k q14).1
      have eg := gSt_k (l := l) (z := z) (isW_w.mp q14)
      rw [if_pos q14, if_neg (by omega), r220_159]
      exact t219 (d := d + 3) hT h hc k1 hd hZ (Or.inr ⟨rfl, rfl, rfl, rfl⟩) (fun M' hq hf => by rw [push_u, r220_164, r220_176]; exact hK M' (by rw [eg]; exact hq) hf)
    rw [if_neg q14, if_pos rfl, r220_167, c183o h8, push_u, h.2.2.1.2.1, r220_176]
    refine hK _ ?_ (fB_4 f4_89)
    rw [gSt_n (fun k hk hw => by
      rcases hk with rfl | rfl | rfl | rfl | rfl | rfl | rfl | rfl | rfl
      · exact q1 (isW_w.mpr hw)
      · exact q5 (isW_w.mpr hw)
      · exact q8 (isW_w.mpr hw)
      · exact q9 (isW_w.mpr hw)
      · exact q10 (isW_w.mpr hw)
      · exact q11 (isW_w.mpr hw)
      · exact q12 (isW_w.mpr hw)
      · exact q13 (isW_w.mpr hw)
      · exact q14 (isW_w.mpr hw)), e21]
    exact FL_89 (by omega) r12
  · have f1 := hf.1
    have f2 := hf.2.1
    rw [push_u, r220_4 (by omega), if_neg (by omega), r220_11]
    refine hK M' ?_ (fB_4 hff)
    rw [gSt_n (fun k hk => by rw [wdo, if_neg (by omega)]; omega)]
    exact hf
end RFas
