/-! The reference's reader: words and numbers that must stand there; names. -/
def CDR (M : PH) (bk : Nat) (l : List Int) : Prop := M 234 42 = (bk : Int) ∧ bk < 2 ∧ M 234 41 = (l.length : Int) ∧ l.length ≤ 1600 ∧ ∀ i (h : i < l.length), cdR M bk i l[i]
def PRS (M : PH) (bk : Nat) (B : Nat → Int) (N : Nat) (s : ST) : Prop := match s with
  | .inl e => FL M e
  | .inr x => OK M B N x.1 ∧ CDR M bk x.2.2
def sNl (B : Nat → Int) (N : Nat) (lo hi : Int) (s : ST) : ST := if kd B N s = 2 then (if lo ≤ vl B N s ∧ vl B N s ≤ hi then s else sG B N 4 s) else sW B N s
section RFv
variable {d b w bk : Nat} {X : Nat × (Nat → Int)} {v : Nat → Int} {M M' M2 : PH} {K : PV → PS → Prop} {B : Nat → Int} {N : Nat} {κ : KP} {e : Int × Int} {o : Nat} {l : List Int} {s : ST}
theorem CDR_f (h : CDR M bk l) (hf : f4 M M') : CDR M' bk l := by
  unfold CDR cdR at *
  rw [hf.2 42 (by omega) (by omega), hf.2 41 (by omega) (by omega), hf.1 259 (by omega), hf.1 260 (by omega)]; exact h
theorem c191 {x : Int} (hx : nmOk x) : pm_Call (d + 1) 191 [vA 234, vL (bwk x.toNat 6 : Nat)] (GF X, M, PTF v) K ↔ K (vI (if ownw x ≠ -1 then 1 else 0)) (GF X, M, PTF v) := by
  have lw := bw_l (x := x.toNat)
  rw [en191]
  by_cases q0 : bwk x.toNat 6 = WKEYS.getD 0 0
  · have e : ownw x = ((0 : Nat) : Int) := (own_w hx (by omega)).mp q0
    rw [r191_0 (by omega) cm_r, if_pos (cm_e.mpr (by rw [q0]; rfl)), r191_40, if_pos (by rw [e]; omega)]
  · rw [r191_0 (by omega) cm_r, if_neg (fun z => q0 (by have z2 := cm_e.mp z; exact Int.ofNat.inj z2))]
    by_cases q1 : bwk x.toNat 6 = WKEYS.getD 1 0
    · have e : ownw x = ((1 : Nat) : Int) := (own_w hx (by omega)).mp q1
      rw [r191_8 (by omega) cm_r, if_pos (cm_e.mpr (by rw [q1]; rfl)), r191_40, if_pos (by rw [e]; omega)]
    · rw [r191_8 (by omega) cm_r, if_neg (fun z => q1 (by have z2 := cm_e.mp z; exact Int.ofNat.inj z2))]
      by_cases q2 : bwk x.toNat 6 = WKEYS.getD 2 0
      · have e : ownw x = ((2 : Nat) : Int) := (own_w hx (by omega)).mp q2
        rw [r191_16 (by omega) cm_r, if_pos (cm_e.mpr (by rw [q2]; rfl)), r191_40, if_pos (by rw [e]; omega)]
      · rw [r191_16 (by omega) cm_r, if_neg (fun z => q2 (by have z2 := cm_e.mp z; exact Int.ofNat.inj z2))]
        by_cases q3 : bwk x.toNat 6 = WKEYS.getD 3 0
        · have e : ownw x = ((3 : Nat) : Int) := (own_w hx (by omega)).mp q3
          rw [r191_24 (by omega) cm_r, if_pos (cm_e.mpr (by rw [q3]; rfl)), r191_40, if_pos (by rw [e]; omega)]
        · rw [r191_24 (by omega) cm_r, if_neg (fun z => q3 (by have z2 := cm_e.mp z; exact Int.ofNat.inj z2))]
          by_cases q4 : bwk x.toNat 6 = WKEYS.getD 4 0
          · have e : ownw x = ((4 : Nat) : Int) := (own_w hx (by omega)).mp q4
            rw [r191_32 (by omega) cm_r, if_neg (fun z => z (cm_e.mpr (by rw [q4]; rfl))), r191_40, if_pos (by rw [e]; omega)]
          · rw [r191_32 (by omega) cm_r, if_pos (fun z => q4 (by have z2 := cm_e.mp z; exact Int.ofNat.inj z2))]
            by_cases q5 : bwk x.toNat 6 = WKEYS.getD 5 0
            · have e : ownw x = ((5 : Nat) : Int) := (own_w hx (by omega)).mp q5
              rw [r191_42 (by omega) cm_r, if_pos (cm_e.mpr (by rw [q5]; rfl)), r191_82, if_pos (by rw [e]; omega)]
            · rw [r191_42 (by omega) cm_r, if_neg (fun z => q5 (by have z2 := cm_e.mp z; exact Int.ofNat.inj z2))]
              by_cases q6 : bwk x.toNat 6 = WKEYS.getD 6 0
              · have e : ownw x = ((6 : Nat) : Int) := (own_w hx (by omega)).mp q6
                rw [r191_50 (by omega) cm_r, if_pos (cm_e.mpr (by rw [q6]; rfl)), r191_82, if_pos (by rw [e]; omega)]
              · rw [r191_50 (by omega) cm_r, if_neg (fun z => q6 (by have z2 := cm_e.mp z; exact Int.ofNat.inj z2))]
                by_cases q7 : bwk x.toNat 6 = WKEYS.getD 7 0
                · have e : ownw x = ((7 : Nat) : Int) := (own_w hx (by omega)).mp q7
                  rw [r191_58 (by omega) cm_r, if_pos (cm_e.mpr (by rw [q7]; rfl)), r191_82, if_pos (by rw [e]; omega)]
                · rw [r191_58 (by omega) cm_r, if_neg (fun z => q7 (by have z2 := cm_e.mp z; exact Int.ofNat.inj z2))]
                  by_cases q8 : bwk x.toNat 6 = WKEYS.getD 8 0
                  · have e : ownw x = ((8 : Nat) : Int) := (own_w hx (by omega)).mp q8
                    rw [r191_66 (by omega) cm_r, if_pos (cm_e.mpr (by rw [q8]; rfl)), r191_82, if_pos (by rw [e]; omega)]
                  · rw [r191_66 (by omega) cm_r, if_neg (fun z => q8 (by have z2 := cm_e.mp z; exact Int.ofNat.inj z2))]
                    by_cases q9 : bwk x.toNat 6 = WKEYS.getD 9 0
                    · have e : ownw x = ((9 : Nat) : Int) := (own_w hx (by omega)).mp q9
                      rw [r191_74 (by omega) cm_r, if_neg (fun z => z (cm_e.mpr (by rw [q9]; rfl))), r191_82, if_pos (by rw [e]; omega)]
                    · rw [r191_74 (by omega) cm_r, if_pos (fun z => q9 (by have z2 := cm_e.mp z; exact Int.ofNat.inj z2))]
                      by_cases q10 : bwk x.toNat 6 = WKEYS.getD 10 0
                      · have e : ownw x = ((10 : Nat) : Int) := (own_w hx (by omega)).mp q10
                        rw [r191_84 (by omega) cm_r, if_pos (cm_e.mpr (by rw [q10]; rfl)), r191_124, if_pos (by rw [e]; omega)]
                      · rw [r191_84 (by omega) cm_r, if_neg (fun z => q10 (by have z2 := cm_e.mp z; exact Int.ofNat.inj z2))]
                        by_cases q11 : bwk x.toNat 6 = WKEYS.getD 11 0
                        · have e : ownw x = ((11 : Nat) : Int) := (own_w hx (by omega)).mp q11
                          rw [r191_92 (by omega) cm_r, if_pos (cm_e.mpr (by rw [q11]; rfl)), r191_124, if_pos (by rw [e]; omega)]
                        · rw [r191_92 (by omega) cm_r, if_neg (fun z => q11 (by have z2 := cm_e.mp z; exact Int.ofNat.inj z2))]
                          by_cases q12 : bwk x.toNat 6 = WKEYS.getD 12 0
                          · have e : ownw x = ((12 : Nat) : Int) := (own_w hx (by omega)).mp q12
                            rw [r191_100 (by omega) cm_r, if_pos (cm_e.mpr (by rw [q12]; rfl)), r191_124, if_pos (by rw [e]; omega)]
                          · rw [r191_100 (by omega) cm_r, if_neg (fun z => q12 (by have z2 := cm_e.mp z; exact Int.ofNat.inj z2))]
                            by_cases q13 : bwk x.toNat 6 = WKEYS.getD 13 0
                            · have e : ownw x = ((13 : Nat) : Int) := (own_w hx (by omega)).mp q13
                              rw [r191_108 (by omega) cm_r, if_pos (cm_e.mpr (by rw [q13]; rfl)), r191_124, if_pos (by rw [e]; omega)]
                            · rw [r191_108 (by omega) cm_r, if_neg (fun z => q13 (by have z2 := cm_e.mp z; exact Int.ofNat.inj z2))]
                              by_cases q14 : bwk x.toNat 6 = WKEYS.getD 14 0
                              · have e : ownw x = ((14 : Nat) : Int) := (own_w hx (by omega)).mp q14
                                rw [r191_116 (by omega) cm_r, if_neg (fun z => z (cm_e.mpr (by rw [q14]; rfl))), r191_124, if_pos (by rw [e]; omega)]
                              · rw [r191_116 (by omega) cm_r, if_pos (fun z => q14 (by have z2 := cm_e.mp z; exact Int.ofNat.inj z2))]
                                by_cases q15 : bwk x.toNat 6 = WKEYS.getD 15 0
                                · have e : ownw x = ((15 : Nat) : Int) := (own_w hx (by omega)).mp q15
                                  rw [r191_126 (by omega) cm_r, if_pos (cm_e.mpr (by rw [q15]; rfl)), r191_166, if_pos (by rw [e]; omega)]
                                · rw [r191_126 (by omega) cm_r, if_neg (fun z => q15 (by have z2 := cm_e.mp z; exact Int.ofNat.inj z2))]
                                  by_cases q16 : bwk x.toNat 6 = WKEYS.getD 16 0
                                  · have e : ownw x = ((16 : Nat) : Int) := (own_w hx (by omega)).mp q16
                                    rw [r191_134 (by omega) cm_r, if_pos (cm_e.mpr (by rw [q16]; rfl)), r191_166, if_pos (by rw [e]; omega)]
                                  · rw [r191_134 (by omega) cm_r, if_neg (fun z => q16 (by have z2 := cm_e.mp z; exact Int.ofNat.inj z2))]
                                    by_cases q17 : bwk x.toNat 6 = WKEYS.getD 17 0
                                    · have e : ownw x = ((17 : Nat) : Int) := (own_w hx (by omega)).mp q17
                                      rw [r191_142 (by omega) cm_r, if_pos (cm_e.mpr (by rw [q17]; rfl)), r191_166, if_pos (by rw [e]; omega)]
                                    · rw [r191_142 (by omega) cm_r, if_neg (fun z => q17 (by have z2 := cm_e.mp z; exact Int.ofNat.inj z2))]
                                      by_cases q18 : bwk x.toNat 6 = WKEYS.getD 18 0
                                      · have e : ownw x = ((18 : Nat) : Int) := (own_w hx (by omega)).mp q18
                                        rw [r191_150 (by omega) cm_r, if_pos (cm_e.mpr (by rw [q18]; rfl)), r191_166, if_pos (by rw [e]; omega)]
                                      · rw [r191_150 (by omega) cm_r, if_neg (fun z => q18 (by have z2 := cm_e.mp z; exact Int.ofNat.inj z2))]
                                        by_cases q19 : bwk x.toNat 6 = WKEYS.getD 19 0
                                        · have e : ownw x = ((19 : Nat) : Int) := (own_w hx (by omega)).mp q19
                                          rw [r191_158 (by omega) cm_r, if_neg (fun z => z (cm_e.mpr (by rw [q19]; rfl))), r191_166, if_pos (by rw [e]; omega)]
                                        · rw [r191_158 (by omega) cm_r, if_pos (fun z => q19 (by have z2 := cm_e.mp z; exact Int.ofNat.inj z2))]
                                          by_cases q20 : bwk x.toNat 6 = WKEYS.getD 20 0
                                          · have e : ownw x = ((20 : Nat) : Int) := (own_w hx (by omega)).mp q20
                                            rw [r191_168 (by omega) cm_r, if_pos (cm_e.mpr (by rw [q20]; rfl)), r191_208, if_pos (by rw [e]; omega)]
                                          · rw [r191_168 (by omega) cm_r, if_neg (fun z => q20 (by have z2 := cm_e.mp z; exact Int.ofNat.inj z2))]
                                            by_cases q21 : bwk x.toNat 6 = WKEYS.getD 21 0
                                            · have e : ownw x = ((21 : Nat) : Int) := (own_w hx (by omega)).mp q21
                                              rw [r191_176 (by omega) cm_r, if_pos (cm_e.mpr (by rw [q21]; rfl)), r191_208, if_pos (by rw [e]; omega)]
                                            · rw [r191_176 (by omega) cm_r, if_neg (fun z => q21 (by have z2 := cm_e.mp z; exact Int.ofNat.inj z2))]
                                              by_cases q22 : bwk x.toNat 6 = WKEYS.getD 22 0
                                              · have e : ownw x = ((22 : Nat) : Int) := (own_w hx (by omega)).mp q22
                                                rw [r191_184 (by omega) cm_r, if_pos (cm_e.mpr (by rw [q22]; rfl)), r191_208, if_pos (by rw [e]; omega)]
                                              · rw [r191_184 (by omega) cm_r, if_neg (fun z => q22 (by have z2 := cm_e.mp z; exact Int.ofNat.inj z2))]
                                                by_cases q23 : bwk x.toNat 6 = WKEYS.getD 23 0
                                                · have e : ownw x = ((23 : Nat) : Int) := (own_w hx (by omega)).mp q23
                                                  rw [r191_192 (by omega) cm_r, if_pos (cm_e.mpr (by rw [q23]; rfl)), r191_208, if_pos (by rw [e]; omega)]
                                                · rw [r191_192 (by omega) cm_r, if_neg (fun z => q23 (by have z2 := cm_e.mp z; exact Int.ofNat.inj z2))]
                                                  by_cases q24 : bwk x.toNat 6 = WKEYS.getD 24 0
                                                  · have e : ownw x = ((24 : Nat) : Int) := (own_w hx (by omega)).mp q24
                                                    rw [r191_200 (by omega) cm_r, if_neg (fun z => z (cm_e.mpr (by rw [q24]; rfl))), r191_208, if_pos (by rw [e]; omega)]
                                                  · rw [r191_200 (by omega) cm_r, if_pos (fun z => q24 (by have z2 := cm_e.mp z; exact Int.ofNat.inj z2))]
                                                    by_cases q25 : bwk x.toNat 6 = WKEYS.getD 25 0
                                                    · have e : ownw x = ((25 : Nat) : Int) := (own_w hx (by omega)).mp q25
                                                      rw [r191_210 (by omega) cm_r, if_pos (cm_e.mpr (by rw [q25]; rfl)), r191_242, if_pos (by rw [e]; omega)]
                                                    · rw [r191_210 (by omega) cm_r, if_neg (fun z => q25 (by have z2 := cm_e.mp z; exact Int.ofNat.inj z2))]
                                                      by_cases q26 : bwk x.toNat 6 = WKEYS.getD 26 0
                                                      · have e : ownw x = ((26 : Nat) : Int) := (own_w hx (by omega)).mp q26
                                                        rw [r191_218 (by omega) cm_r, if_pos (cm_e.mpr (by rw [q26]; rfl)), r191_242, if_pos (by rw [e]; omega)]
                                                      · rw [r191_218 (by omega) cm_r, if_neg (fun z => q26 (by have z2 := cm_e.mp z; exact Int.ofNat.inj z2))]
                                                        by_cases q27 : bwk x.toNat 6 = WKEYS.getD 27 0
                                                        · have e : ownw x = ((27 : Nat) : Int) := (own_w hx (by omega)).mp q27
                                                          rw [r191_226 (by omega) cm_r, if_pos (cm_e.mpr (by rw [q27]; rfl)), r191_242, if_pos (by rw [e]; omega)]
                                                        · rw [r191_226 (by omega) cm_r, if_neg (fun z => q27 (by have z2 := cm_e.mp z; exact Int.ofNat.inj z2))]
                                                          by_cases q28 : bwk x.toNat 6 = WKEYS.getD 28 0
                                                          · have e : ownw x = ((28 : Nat) : Int) := (own_w hx (by omega)).mp q28
                                                            rw [r191_234 (by omega) cm_r, if_neg (fun z => z (cm_e.mpr (by rw [q28]; rfl))), r191_242, if_pos (by rw [e]; omega)]
                                                          · rw [r191_234 (by omega) cm_r, if_pos (fun z => q28 (by have z2 := cm_e.mp z; exact Int.ofNat.inj z2))]
                                                            have e : ownw x = -1 := by
                                                              have ob := ownw_b (x := x)
                                                              refine Classical.byContradiction fun z => ?_
                                                              obtain ⟨w, hw⟩ := Int.eq_ofNat_of_zero_le (show 0 ≤ ownw x by omega)
                                                              have hb := (own_w hx (w := w) (by omega)).mpr hw
                                                              have w29 : w = 0 ∨ w = 1 ∨ w = 2 ∨ w = 3 ∨ w = 4 ∨ w = 5 ∨ w = 6 ∨ w = 7 ∨ w = 8 ∨ w = 9 ∨ w = 10 ∨ w = 11 ∨ w = 12 ∨ w = 13 ∨ w = 14 ∨ w = 15 ∨ w = 16 ∨ w = 17 ∨ w = 18 ∨ w = 19 ∨ w = 20 ∨ w = 21 ∨ w = 22 ∨ w = 23 ∨ w = 24 ∨ w = 25 ∨ w = 26 ∨ w = 27 ∨ w = 28 := by omega
                                                              rcases w29 with rfl | rfl | rfl | rfl | rfl | rfl | rfl | rfl | rfl | rfl | rfl | rfl | rfl | rfl | rfl | rfl | rfl | rfl | rfl | rfl | rfl | rfl | rfl | rfl | rfl | rfl | rfl | rfl | rfl
                                                              · exact q0 hb
                                                              · exact q1 hb
                                                              · exact q2 hb
                                                              · exact q3 hb
                                                              · exact q4 hb
                                                              · exact q5 hb
                                                              · exact q6 hb
                                                              · exact q7 hb
                                                              · exact q8 hb
                                                              · exact q9 hb
                                                              · exact q10 hb
                                                              · exact q11 hb
                                                              · exact q12 hb
                                                              · exact q13 hb
                                                              · exact q14 hb
                                                              · exact q15 hb
                                                              · exact q16 hb
                                                              · exact q17 hb
                                                              · exact q18 hb
                                                              · exact q19 hb
                                                              · exact q20 hb
                                                              · exact q21 hb
                                                              · exact q22 hb
                                                              · exact q23 hb
                                                              · exact q24 hb
                                                              · exact q25 hb
                                                              · exact q26 hb
                                                              · exact q27 hb
                                                              · exact q28 hb
                                                            rw [r191_244, if_neg (by rw [e]; simp)]
theorem t190 (hT : TX M B N) {x : KP × Nat × List Int} (h : PRS M bk B N (.inr x)) {y : Int} (hy : isSg y = true) (hyb : 0 ≤ y ∧ y ≤ 255) (hK : ∀ M', PRS M' bk B N (sSg B N y (.inr x)) → f4 M M' → K PU (GF X, M', PTF v)) : pm_Call (d + 3) 190 [vA 234, vI y] (GF X, M, PTF v) K := by
  obtain ⟨h1, h2⟩ := h
  have no : ∀ e : Int × Int, ¬ isS B N y (.inr x) = true → sW B N (.inr x) = .inl e → ∀ M', FL M' e → f4 M M' → pm_Run (d + 2) 190 21 [vA 234, vI y] [] (GF X, M', PTF v) K := fun e hn he M' hf hff => by
    have := hf.1
    have := hf.2.1
    rw [r190_21 (by omega), if_pos (by omega), r190_32]
    refine hK M' ?_ hff
    rw [sSg, if_neg hn, he]; exact hf
  rw [en190, r190_0]
  refine c186 hT h1 (fun hc => ?_) (fun h4 M' hf h3 hff => ?_)
  · rw [push_u, r190_4, c188 (o := x.2.1) (l := x.2.2) h1 hc hy hyb, push_i, r190_9 i01]
    by_cases q : isS B N y (.inr x) = true
    · have q0 := isS_0 q
      rw [if_pos q, if_pos (by omega), r190_21 (by rw [h1.1]; omega), h1.1, if_neg (by simp), r190_28]
      refine t187 hT h1 (by omega) (by omega) (fun M' ho hff => ?_)
      rw [push_u, r190_32]
      refine hK M' ?_ hff
      rw [sSg, if_pos q]; exact ⟨ho, CDR_f h2 hff⟩
    · rw [if_neg q, if_neg (by simp), r190_12, c183o h1.1, push_u, h1.2.2.1.2.1]
      exact no (1, ((tok B N x.1).2.1 : Int)) q (by show Sum.inl (1, ((tok B N x.1).2.2.1 : Int)) = _; rw [OK_c h1 hc]) _ (FL_89 (by omega) (by have : M 234 12 = -1 := hc; omega)) f4_89
  · have q : ¬ isS B N y (.inr x) = true := fun z => by have := isS_0 z; omega
    rw [push_u, r190_4, en188, r188_0 (by omega), if_pos (by omega), r188_20, r188_21 (by simp), push_i, r190_9 (by omega), if_neg (by simp), r190_12, c183f hf, push_u]
    exact no _ q rfl M' hf hff
theorem t208 (hT : TX M B N) (h : PRS M bk B N s) {k : Nat} (hk29 : k < 29) (hK : ∀ M', PRS M' bk B N (sWd B N (k : Int) s) → f4 M M' → K PU (GF X, M', PTF v)) : pm_Call (d + 3) 208 [vA 234, vL (WKEYS.getD k 0 : Int)] (GF X, M, PTF v) K := by
  rw [en208, r208_0]
  match s, h with
  | .inl e, h =>
    have h' : FL M e := h
    have := h'.1
    have := h'.2.1
    rw [c186f h', push_u, r208_4 (by omega), if_neg (by omega), r208_11]
    exact hK M h f4_r
  | .inr x, h =>
    obtain ⟨h1, h2⟩ := id h
    refine c186 hT h1 (fun hc => ?_) (fun h4 M' hf h3 hff => ?_)
    · rw [push_u, r208_4 (by rw [h1.1]; omega), h1.1, if_pos (by omega), r208_12, c189 (o := x.2.1) (l := x.2.2) h1 hc hk29, push_i, r208_17 i01]
      by_cases q : isW B N (k : Int) (.inr x) = true
      · have q0 := isW_0 q
        rw [if_pos q, if_pos (by omega), r208_29 (by rw [h1.1]; omega), h1.1, if_neg (by simp), r208_36]
        refine t187 hT h1 (by omega) (by omega) (fun M' ho hff => ?_)
        rw [push_u, r208_40]
        refine hK M' ?_ hff
        rw [sWd, if_pos q]; exact ⟨ho, CDR_f h2 hff⟩
      · rw [if_neg q, if_neg (by simp), r208_20, c183o h1.1, push_u, h1.2.2.1.2.1]
        have hf := FL_89 (M := M) (k := 1) (p := ((tok B N x.1).2.1 : Int)) (by omega) (by have : M 234 12 = -1 := hc; omega)
        have h8 : (pm_sa M 234 (pm_up (pm_up (M 234) 8 1) 9 ((tok B N x.1).2.1 : Int))) 234 8 = 1 := hf.1
        rw [r208_29 (by rw [h8]; omega), h8, if_pos (by omega), r208_40]
        refine hK _ ?_ f4_89
        rw [sWd, if_neg q]
        show FL _ (1, ((tok B N x.1).2.2.1 : Int))
        rw [OK_c h1 hc]; exact hf
    · have q : ¬ isW B N (k : Int) (.inr x) = true := fun z => by have := isW_0 z; omega
      have := hf.1
      have := hf.2.1
      rw [push_u, r208_4 (by omega), if_neg (by omega), r208_11]
      refine hK M' ?_ hff
      rw [sWd, if_neg q]; exact hf
theorem t195 (hT : TX M B N) (h : PRS M bk B N s) {lo hi : Int} (hl : inR lo) (hh : inR hi) (hK : ∀ M' y, PRS M' bk B N (sNl B N lo hi s) → f4 M M' → (0 ≤ y ∧ y ≤ 9999) → (∀ x, sNl B N lo hi s = .inr x → y = vl B N s) → K (vI y) (GF X, M', PTF v)) : pm_Call (d + 3) 195 [vA 234, vI lo, vI hi] (GF X, M, PTF v) K := by
  have bad : ∀ (M' : PH) (e : Int × Int), FL M' e → f4 M M' → sNl B N lo hi s = .inl e → pm_Run (d + 2) 195 58 [vA 234, vI lo, vI hi] [] (GF X, M', PTF v) K := fun M' e hf hff he => by
    have := hf.1
    have := hf.2.1
    rw [r195_58 (by omega), if_neg (by omega), r195_65, r195_73]
    refine hK M' 0 (by rw [he]; exact hf) hff (by omega) (fun x hx => by rw [he] at hx; cases hx)
  rw [en195, r195_0]
  match s, h with
  | .inl e, h =>
    have h' : FL M e := h
    have := h'.1
    have := h'.2.1
    have he : sNl B N lo hi (.inl e) = .inl e := rfl
    rw [c186f h', push_u, r195_4 (by omega), if_neg (by omega), r195_11]
    exact hK M 0 h f4_r (by omega) (fun x hx => by rw [he] at hx; cases hx)
  | .inr x, h =>
    obtain ⟨h1, h2⟩ := id h
    refine c186 hT h1 (fun hc => ?_) (fun h4 M' hf h3 hff => ?_)
    · have r12 : inR (M 234 12) := by have : M 234 12 = -1 := hc; omega
      have hk := h1.2.2.1.2.2
      rw [push_u, r195_4 (by rw [h1.1]; omega), h1.1, if_pos (by omega), r195_13 (by rcases hk with h | h | h | h | h | h <;> omega)]
      by_cases q : (tok B N x.1).1 = 2
      · obtain ⟨k1, k2, k3, k4, k5, k6⟩ : (tok B N x.1).1 = 2 ∧ M 234 3 = 2 ∧ M 234 12 = -1 ∧ M 234 6 = (tok B N x.1).2.2.2.1 ∧ (0 ≤ M 234 6 ∧ M 234 6 ≤ 9999) ∧ M 234 5 = ((tok B N x.1).2.2.2.2.2 : Int) := by
          rcases hk with h | h | h | h | h | h
          · omega
          · omega
          · exact h
          · omega
          · omega
          · omega
        have ekd : kd B N (.inr x) = 2 := q
        have evl : vl B N (.inr x) = M 234 6 := k4.symm
        rw [if_pos k2, r195_30 (by rw [h1.1]; omega), h1.1, if_neg (by simp), r195_37]
        by_cases q2 : lo ≤ M 234 6 ∧ M 234 6 ≤ hi
        · rw [c179t (by omega) hl hh q2, push_i, r195_46 (by omega), if_pos (by omega), r195_58 (by rw [h1.1]; omega), h1.1, if_pos (by omega), r195_69, r195_73]
          refine hK M _ ?_ f4_r k5 (fun y _ => evl.symm)
          rw [sNl, if_pos ekd, evl, if_pos q2]; exact h
        · rw [c179f (by omega) hl hh q2, push_i, r195_46 (by omega), if_neg (by simp), r195_49, c183o h1.1, push_u, h1.2.2.1.2.1]
          refine bad _ (4, ((tok B N x.1).2.1 : Int)) (FL_89 (by omega) r12) f4_89 ?_
          rw [sNl, if_pos ekd, evl, if_neg q2]; rfl
      · have nk : M 234 3 ≠ 2 := fun z => by rcases hk with h | h | h | h | h | h <;> first | omega | (have : M 234 12 = -1 := hc; omega)
        have ekd : ¬ kd B N (.inr x) = 2 := q
        have hf := FL_89 (M := M) (k := 1) (p := ((tok B N x.1).2.1 : Int)) (by omega) r12
        have h8 : (pm_sa M 234 (pm_up (pm_up (M 234) 8 1) 9 ((tok B N x.1).2.1 : Int))) 234 8 = 1 := hf.1
        rw [if_neg nk, r195_21, c183o h1.1, push_u, h1.2.2.1.2.1, r195_30 (by rw [h8]; omega), h8, if_pos (by omega)]
        refine bad _ _ hf f4_89 ?_
        rw [sNl, if_neg ekd]
        show Sum.inl (1, ((tok B N x.1).2.2.1 : Int)) = _
        rw [OK_c h1 hc]
    · have := hf.1
      have := hf.2.1
      have he : sNl B N lo hi (.inr x) = .inl (1, ((tok B N x.1).2.2.1 : Int)) := by
        rw [sNl, if_neg (show ¬ kd B N (.inr x) = 2 by show ¬ (tok B N x.1).1 = 2; omega)]; rfl
      rw [push_u, r195_4 (by omega), if_neg (by omega), r195_11]
      exact hK M' 0 (by rw [he]; exact hf) hff (by omega) (fun x hx => by rw [he] at hx; cases hx)
theorem sN_l {lo hi : Int} : sN B N lo hi s = (match sNl B N lo hi s with | .inl e => .inl e | .inr x => sA B N (.inr x)) := by
  match s with
  | .inl e => rfl
  | .inr x =>
    unfold sN sNl
    by_cases q : kd B N (.inr x) = 2
    · rw [if_pos q, if_pos q]
      by_cases q2 : lo ≤ vl B N (.inr x) ∧ vl B N (.inr x) ≤ hi
      · rw [if_pos q2, if_pos q2]
      · rw [if_neg q2, if_neg q2]; rfl
    · rw [if_neg q, if_neg q]; rfl
theorem sNl_x {lo hi : Int} {x : KP × Nat × List Int} (h : sNl B N lo hi s = .inr x) : s = .inr x ∧ (tok B N x.1).1 = 2 ∧ lo ≤ vl B N s ∧ vl B N s ≤ hi := by
  match s with
  | .inl e => have : (Sum.inl e : ST) = .inr x := h; cases this
  | .inr y =>
    unfold sNl at h
    by_cases q : kd B N (.inr y) = 2
    · rw [if_pos q] at h
      by_cases q2 : lo ≤ vl B N (.inr y) ∧ vl B N (.inr y) ≤ hi
      · rw [if_pos q2] at h
        injection h with h; subst h
        exact ⟨rfl, q, q2⟩
      · rw [if_neg q2] at h; cases h
    · rw [if_neg q] at h; cases h
theorem t196 (hT : TX M B N) (h : PRS M bk B N s) {lo hi : Int} (hl : inR lo) (hh : inR hi) (hK : ∀ M' y, PRS M' bk B N (sN B N lo hi s) → f4 M M' → (0 ≤ y ∧ y ≤ 9999) → (∀ x, sN B N lo hi s = .inr x → y = vl B N s) → K (vI y) (GF X, M', PTF v)) : pm_Call (d + 4) 196 [vA 234, vI lo, vI hi] (GF X, M, PTF v) K := by
  rw [en196, r196_0]
  refine t195 hT h hl hh (fun M1 y p1 f1 yb hy => ?_)
  have e := sN_l (B := B) (N := N) (lo := lo) (hi := hi) (s := s)
  cases hs : sNl B N lo hi s with
  | inl e' =>
    rw [hs] at e p1
    have p1' : FL M1 e' := p1
    have := p1'.1
    have := p1'.2.1
    rw [push_i, r196_6 (by omega), if_pos (by omega), r196_18]
    exact hK M1 y (by rw [e]; exact p1) f1 yb (fun x hx => by rw [e] at hx; cases hx)
  | inr x =>
    rw [hs] at e p1
    obtain ⟨o1, o2⟩ := p1
    obtain ⟨rfl, k2, -⟩ := sNl_x hs
    rw [push_i, r196_6 (by rw [o1.1]; omega), o1.1, if_neg (by simp), r196_14]
    refine t187 (TX_f hT f1) o1 (by omega) (by omega) (fun M2 ho f2 => ?_)
    rw [push_u, r196_18]
    exact hK M2 y (by rw [e]; exact ⟨ho, CDR_f o2 f2⟩) (f4_t f1 f2) yb (fun z _ => hy x hs)
end RFv
