/-! Sums and tests of a chart; statements. -/
def zForm (z : CZ) (w : Nat) (e : List Int) (cl : Bool) : CZ := (if cl = true then upn z.1 4 (z.1 4 + 1) else z.1, z.2.1, fun j => if j = w then e else z.2.2.1 j, z.2.2.2)
def zNum (z : CZ) (i x : Nat) : CZ := (upn z.1 i x, z.2.1, z.2.2.1, z.2.2.2)
section SPF
variable (B : Nat → Int) (N : Nat) (κ : KP) (l : List Int) (z : CZ)
def whf (w : Int) : Nat := if w = 11 then 0 else if w = 10 then 2 + z.1 4 else 1
def rmf (w : Int) : Bool := if w = 10 then decide (z.1 4 < 6) else decide (z.2.2.1 (whf z w) = [])
def gFm (w : Int) (s : ST) : ST := if w = 10 then gTest B N (gF B N 7) s else gS B N 7 s
def gForm (w : Int) : S2 := if rmf z w = true then sb (gFm B N w (sA B N (toS κ l))) (fun x => .inr (x.1, x.2.2, zForm z (whf z w) (x.2.2.drop l.length) (decide (w = 10)))) else .inl (6, ((tok B N κ).2.1 : Int))
def gNum (i : Nat) (lo hi : Int) : S2 := sb (sN B N lo hi (sA B N (toS κ l))) (fun x => .inr (x.1, x.2.2, zNum z i (vl B N (sA B N (toS κ l))).toNat))
def wdo : Int := if (tok B N κ).1 = 1 then (tok B N κ).2.2.2.2.1 else -1
def gStm (first : Bool) : S2 :=
  if first = decide (wdo B N κ = 0) then
    (if wdo B N κ = 0 then gNum B N κ l z 0 4 24 else if wdo B N κ = 1 then gMoon B N κ l z else if wdo B N κ = 5 then gHarb B N κ l z else if wdo B N κ = 8 then gPays B N κ l z else if wdo B N κ = 9 then gOwes B N κ l z else if wdo B N κ = 13 then gNum B N κ l z 5 0 99 else if wdo B N κ = 14 then gNum B N κ l z 6 1 999 else if wdo B N κ = 10 ∨ wdo B N κ = 11 ∨ wdo B N κ = 12 then gForm B N κ l z (wdo B N κ) else .inl (1, ((tok B N κ).2.2.1 : Int)))
  else .inl (1, ((tok B N κ).2.2.1 : Int))
end SPF
theorem shl30 {j : Nat} (h : j ≤ 30) : pm_shl 1 (j : Int) = ((2 ^ j : Nat) : Int) := by
  have h1 : 2 ^ j ≤ 1073741824 := Nat.pow_le_pow_right (n := 2) (by omega) h
  have := pm_shlN (a := 1) (k := j) (by omega) (by omega)
  rw [Nat.one_mul] at this
  exact this
section CS4
variable {d c N : Nat} {X : Nat × (Nat → Int)} {v : Nat → Int} {M M' : PH} {K : PV → PS → Prop} {B : Nat → Int} {s : ST} {z : CZ} {κ : KP} {l : List Int}
theorem TP_BB (h : TP M B) : BB B := fun k hk => (h k hk).2
theorem CH_Fw (hP : PSt M c B N (toS κ l)) (hC : CH M c l z) {w : Nat} (hw : w < 8) : isFw M (c + 15) w (z.2.2.1 w) := by
  obtain ⟨pre, post, h1, h2, h3⟩ := hC.2.2.2.2.2.1 w hw
  obtain ⟨l1, l2, l3⟩ := hP.2.2.2.2.2.2
  have hlen : l.length = pre.length + (z.2.2.1 w).length + post.length := by rw [h1]; simp; omega
  have l1' : l.length ≤ 1600 := l1
  refine ⟨pre.length, h2, by rw [show c + 15 + 3 = c + 18 from rfl, h3]; simp, by omega, fun j hj => ?_⟩
  have hjl : pre.length + j < l.length := by omega
  rw [show c + 15 + 1 = c + 16 from rfl, (l3 (pre.length + j) hjl).1]
  show l[pre.length + j] = _
  have : l[pre.length + j]? = some (z.2.2.1 w)[j] := by
    rw [h1, List.append_assoc, List.getElem?_append_right (by omega), show pre.length + j - pre.length = j by omega, List.getElem?_append_left hj]
    exact List.getElem?_eq_getElem hj
  rw [List.getElem?_eq_getElem hjl] at this
  injection this
theorem c41 (hc : isCh c) {w : Nat} (hw : w < 8) : pm_Call (d + 1) 41 [vA (c + 15), vI (w : Int)] (GF X, M, PTF v) K ↔ K PU (GF X, pm_sa (pm_sa M (c + 17) (pm_up (M (c + 17)) w (M (c + 15) 6))) (c + 18) (pm_up (M (c + 18)) w (M (c + 15) 6)), PTF v) := by
  have hf := ch_fo hc
  rw [en41, r41_0 hf (by omega) (by omega), r41_10 hf (by omega) (by omega), Int.toNat_natCast, show c + 15 + 2 = c + 17 from rfl, show c + 15 + 3 = c + 18 from rfl, sa_n (show c + 15 ≠ c + 17 by omega), sa_n (show c + 18 ≠ c + 17 by omega)]
/-- the words that are used are noted -/
theorem c42 (hc : isCh c) {w : Nat} (hw : w < 8) {sz i0 : Nat} (hsz : sz ≤ 1600) (e6 : M (c + 15) 6 = (sz : Int)) (ei : M (c + 17) w = (i0 : Int)) (hi0 : i0 ≤ 1600) (hcd : ∀ i, i < sz → inR (M (c + 16) i)) (hK : ∀ g, (∀ j, j ≠ w → g j = M (c + 19) j) → (∀ U : Nat, U < 2147483648 → M (c + 19) w = (U : Int) → (∀ i, i0 ≤ i → i < sz → 10000 ≤ M (c + 16) i → M (c + 16) i < 20000 → M (c + 16) i < 10029) → ∃ U' : Nat, U' < 2147483648 ∧ g w = (U' : Int) ∧ ∀ u, u < 29 → (U'.testBit u = true ↔ U.testBit u = true ∨ ∃ i, i0 ≤ i ∧ i < sz ∧ M (c + 16) i = ((10000 + u : Nat) : Int))) → K PU (GF X, pm_sa (pm_sa M (c + 18) (pm_up (M (c + 18)) w (sz : Int))) (c + 19) g, PTF v)) : pm_Call (d + 1) 42 [vA (c + 15), vI (w : Int)] (GF X, M, PTF v) K := by
  have hf := ch_fo hc
  rw [en42, r42_0 hf (by omega) (by omega), r42_10 hf (by omega) (by omega), Int.toNat_natCast, show c + 15 + 3 = c + 18 from rfl, show c + 15 + 2 = c + 17 from rfl, sa_n (show c + 17 ≠ c + 18 by omega), ei, e6]
  have main : ∀ r i, sz ≤ i + r → i0 ≤ i → i ≤ 1600 → ∀ g : Nat → Int, (∀ j, j ≠ w → g j = M (c + 19) j) → (∀ U : Nat, U < 2147483648 → M (c + 19) w = (U : Int) → (∀ i, i0 ≤ i → i < sz → 10000 ≤ M (c + 16) i → M (c + 16) i < 20000 → M (c + 16) i < 10029) → ∃ U' : Nat, U' < 2147483648 ∧ g w = (U' : Int) ∧ ∀ u, u < 29 → (U'.testBit u = true ↔ U.testBit u = true ∨ ∃ i', i0 ≤ i' ∧ i' < i ∧ i' < sz ∧ M (c + 16) i' = ((10000 + u : Nat) : Int))) → pm_Run d 42 17 [vA (c + 15), vI (w : Int), vI (i : Int)] [] (GF X, pm_sa (pm_sa M (c + 18) (pm_up (M (c + 18)) w (sz : Int))) (c + 19) g, PTF v) K := by
    intro r
    induction r with
    | zero =>
      intro i h1 h2 h3 g g1 g2
      have e6' : (pm_sa (pm_sa M (c + 18) (pm_up (M (c + 18)) w (sz : Int))) (c + 19) g) (c + 15) 6 = (sz : Int) := by rw [sa_n (by omega), sa_n (by omega)]; exact e6
      rw [r42_17 hf (by omega) (by rw [e6']; omega), e6', if_pos (by omega), r42_76]
      refine hK g g1 (fun U hU eU hcw => ?_)
      obtain ⟨U', a1, a2, a3⟩ := g2 U hU eU hcw
      refine ⟨U', a1, a2, fun u hu => (a3 u hu).trans ⟨fun h => ?_, fun h => ?_⟩⟩
      · rcases h with h | ⟨i', b1, b2, b3, b4⟩
        · exact Or.inl h
        · exact Or.inr ⟨i', b1, b3, b4⟩
      · rcases h with h | ⟨i', b1, b3, b4⟩
        · exact Or.inl h
        · exact Or.inr ⟨i', b1, by omega, b3, b4⟩
    | succ r ih =>
      intro i h1 h2 h3 g g1 g2
      have e6' : (pm_sa (pm_sa M (c + 18) (pm_up (M (c + 18)) w (sz : Int))) (c + 19) g) (c + 15) 6 = (sz : Int) := by rw [sa_n (by omega), sa_n (by omega)]; exact e6
      rw [r42_17 hf (by omega) (by rw [e6']; omega), e6']
      by_cases q : sz ≤ i
      · rw [if_pos (by omega), r42_76]
        refine hK g g1 (fun U hU eU hcw => ?_)
        obtain ⟨U', a1, a2, a3⟩ := g2 U hU eU hcw
        refine ⟨U', a1, a2, fun u hu => (a3 u hu).trans ⟨fun h => ?_, fun h => ?_⟩⟩
        · rcases h with h | ⟨i', b1, b2, b3, b4⟩
          · exact Or.inl h
          · exact Or.inr ⟨i', b1, b3, b4⟩
        · rcases h with h | ⟨i', b1, b3, b4⟩
          · exact Or.inl h
          · exact Or.inr ⟨i', b1, by omega, b3, b4⟩
      · have ec : (pm_sa (pm_sa M (c + 18) (pm_up (M (c + 18)) w (sz : Int))) (c + 19) g) (c + 15 + 1) ((i : Int)).toNat = M (c + 16) i := by rw [Int.toNat_natCast, show c + 15 + 1 = c + 16 from rfl, sa_n (by omega), sa_n (by omega)]
        have hci := hcd i (by omega)
        have skip : ¬ (10000 ≤ M (c + 16) i ∧ M (c + 16) i < 20000) → pm_Run d 42 70 [vA (c + 15), vI (w : Int), vI (i : Int)] [] (GF X, pm_sa (pm_sa M (c + 18) (pm_up (M (c + 18)) w (sz : Int))) (c + 19) g, PTF v) K := by
          intro hn
          rw [r42_70]
          refine ih (i + 1) (by omega) (by omega) (by omega) g g1 (fun U hU eU hcw => ?_)
          obtain ⟨U', a1, a2, a3⟩ := g2 U hU eU hcw
          refine ⟨U', a1, a2, fun u hu => (a3 u hu).trans ⟨fun h => ?_, fun h => ?_⟩⟩
          · rcases h with h | ⟨i', b1, b2, b3, b4⟩
            · exact Or.inl h
            · exact Or.inr ⟨i', b1, by omega, b3, b4⟩
          · rcases h with h | ⟨i', b1, b2, b3, b4⟩
            · exact Or.inl h
            · by_cases y : i' = i
              · subst y; exact absurd ⟨by omega, by omega⟩ hn
              · exact Or.inr ⟨i', b1, by omega, b3, b4⟩
        rw [if_neg (by omega), r42_25 hf (by omega) (by omega) (by rw [ec]; exact hci), ec]
        by_cases q1 : M (c + 16) i < 10000
        · rw [if_pos q1]; exact skip (by omega)
        rw [if_neg q1, r42_37 hf (by omega) (by omega) (by rw [ec]; exact hci), ec]
        by_cases q2 : 20000 ≤ M (c + 16) i
        · rw [if_pos q2]; exact skip (by omega)
        rw [if_neg q2, r42_49 hf (by omega) (by omega) (by omega) (by omega), r42_70, ec, show c + 15 + 4 = c + 19 from rfl, sa_s, sa_sa, Int.toNat_natCast]
        refine ih (i + 1) (by omega) (by omega) (by omega) _ (fun j hj => by rw [up_n hj]; exact g1 j hj) (fun U hU eU hcw => ?_)
        obtain ⟨U', a1, a2, a3⟩ := g2 U hU eU hcw
        have hcw' := hcw i (by omega) (by omega) (by omega) (by omega)
        obtain ⟨k, hk⟩ : ∃ k : Nat, M (c + 16) i - 10000 = (k : Int) := Int.eq_ofNat_of_zero_le (by omega)
        have hk29 : k < 29 := by omega
        have hp31 : 2 ^ k < 2 ^ 31 := Nat.pow_lt_pow_right (by omega) (by omega)
        refine ⟨U' ||| 2 ^ k, Nat.or_lt_two_pow (n := 31) a1 hp31, by rw [up_s, a2, hk, shl30 (by omega), pm_orN (by omega) (by omega)], fun u hu => ?_⟩
        rw [Nat.testBit_or, Nat.testBit_two_pow, Bool.or_eq_true, a3 u hu]
        constructor
        · rintro ((h | ⟨i', b1, b2, b3, b4⟩) | h)
          · exact Or.inl h
          · exact Or.inr ⟨i', b1, by omega, b3, b4⟩
          · have : k = u := by simpa using h
            exact Or.inr ⟨i, by omega, by omega, by omega, by omega⟩
        · rintro (h | ⟨i', b1, b2, b3, b4⟩)
          · exact Or.inl (Or.inl h)
          · by_cases y : i' = i
            · subst y
              right
              have : k = u := by omega
              simpa using this
            · exact Or.inl (Or.inr ⟨i', b1, by omega, b3, b4⟩)
  have := main sz i0 (by omega) (by omega) hi0 (M (c + 19)) (fun _ _ => rfl) (fun U hU eU _ => ⟨U, hU, eU, fun u _ => ⟨fun h => Or.inl h, fun h => by
    rcases h with h | ⟨i', b1, b2, -⟩
    · exact h
    · omega⟩⟩)
  rw [sa_id (M := pm_sa M (c + 18) (pm_up (M (c + 18)) w (sz : Int))) (by rw [sa_n (by omega)])] at this
  exact this
/-- where a sum or a test goes -/
theorem c83 (hE : PEn v M c B N) (hP : PSt M c B N (toS κ l)) (hC : CH M c l z) (hw : wZ z) {w : Int} (hww : w = 10 ∨ w = 11 ∨ w = 12) (hK1 : rmf z w = true → ∀ M', frQ c M M' → PSt M' c B N (sA B N (toS κ l)) → ∀ M'', M'' = (if w = 10 then pm_sa M' c (pm_up (M' c) 4 ((z.1 4 : Int) + 1)) else M') → K (vI (whf z w : Nat)) (GF X, M'', PTF v)) (hK0 : rmf z w = false → ∀ M', frQ c M M' → PSt M' c B N (.inl (6, ((tok B N κ).2.1 : Int))) → K (vI (-1)) (GF X, M', PTF v)) : pm_Call (d + 4) 83 [vA 31, vI w] (GF X, M, PTF v) K := by
  have hcc : c = 9 ∨ c = 35 := hE.1
  have w1 := hw.1
  have e4 : M c 4 = (z.1 4 : Int) := hC.1 4 (by omega)
  have oth : w ≠ 10 → ∀ k : Nat, k = whf z w → k < 8 → pm_Run (d + 3) 83 69 [vA 31, vI w, vI (k : Int)] [] (GF X, M, PTF v) K := by
    intro h10 k hk hk8
    rw [r83_69 hE.1 hE.2.1]
    refine (c44 (w := k) (ch_fo hE.1) hk8 (CH_Fw hP hC hk8)).mpr ?_
    have er : rmf z w = decide (z.2.2.1 k = []) := by rw [rmf, if_neg h10, hk]
    rw [push_i]
    by_cases q : z.2.2.1 k = []
    · rw [if_pos q, r83_81 (by omega), if_neg (by simp), r83_84, r83_89]
      refine c81 (room := true) (x := (κ, 0, l)) hE hP (fun M1 f1 p1 => ?_)
      rw [if_pos (show true = true from rfl), push_i, r83_92 (by omega), if_neg (by omega), r83_95, r83_100, hk]
      exact hK1 (by rw [er]; simp [q]) M1 f1 p1 M1 (by rw [if_neg h10])
    · rw [if_neg q, r83_81 (by omega), if_pos (by omega), r83_88, r83_89]
      refine c81 (room := false) (x := (κ, 0, l)) hE hP (fun M1 f1 p1 => ?_)
      rw [if_neg (show ¬ false = true by decide), push_i, r83_92 (by omega), if_pos rfl, r83_99, r83_100]
      exact hK0 (by rw [er]; simp [q]) M1 f1 p1
  rw [en83, r83_0 (by omega)]
  rcases hww with rfl | rfl | rfl
  · have er : rmf z 10 = decide (z.1 4 < 6) := by rw [rmf, if_pos rfl]
    have ew : whf z 10 = 2 + z.1 4 := by rw [whf, if_neg (by decide), if_pos rfl]
    rw [if_pos (by omega), r83_10, r83_11 (by omega), if_neg (by simp), r83_18 hE.1 hE.2.1 (by rw [e4]; omega), e4]
    by_cases q : z.1 4 < 6
    · rw [if_neg (by omega), r83_41, r83_46]
      refine c81 (room := true) (x := (κ, 0, l)) hE hP (fun M1 f1 p1 => ?_)
      have e41 : M1 c 4 = (z.1 4 : Int) := by rw [f1 c (by omega) (by omega) (by omega) (by omega)]; exact e4
      rw [if_pos (show true = true from rfl), push_i, r83_49 (by omega), if_pos (by omega), r83_54 hE.1 hE.2.1, r83_67, e41]
      have := hK1 (by rw [er]; simp [q]) M1 f1 p1 _ rfl
      rw [ew, if_pos rfl] at this
      rw [show (2 : Int) + (z.1 4 : Int) = ((2 + z.1 4 : Nat) : Int) by omega]
      exact this
    · rw [if_pos (by omega), r83_45, r83_46]
      refine c81 (room := false) (x := (κ, 0, l)) hE hP (fun M1 f1 p1 => ?_)
      rw [if_neg (show ¬ false = true by decide), push_i, r83_49 (by omega), if_neg (by simp), r83_52]
      exact hK0 (by rw [er]; simp [q]) M1 f1 p1
  · rw [if_neg (by simp), r83_6, r83_11 (by omega), if_pos (by omega)]
    exact oth (by decide) 0 (by rw [whf, if_pos rfl]) (by omega)
  · rw [if_pos (by omega), r83_10, r83_11 (by omega), if_pos (by omega)]
    exact oth (by decide) 1 (by rw [whf, if_neg (by decide), if_neg (by decide)]) (by omega)
end CS4
