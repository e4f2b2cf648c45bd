/-! The text's grammar: what a parse is. -/
abbrev KP : Type := Nat × Bool
/-- a fault (which, where), or: the cursor, how many are open, the codes -/
abbrev ST : Type := (Int × Int) ⊕ (KP × Nat × List Int)
def tok (B : Nat → Int) (N : Nat) (κ : KP) : Int × Nat × Nat × Int × Int × Nat := tk B N κ.1 κ.2
def adv (B : Nat → Int) (N : Nat) (κ : KP) : KP := ((tok B N κ).2.2.2.2.2, isWn (tok B N κ).1)
def sA (B : Nat → Int) (N : Nat) (s : ST) : ST := match s with
  | .inl e => .inl e
  | .inr x => .inr (adv B N x.1, x.2)
def sF (k a : Int) (s : ST) : ST := match s with
  | .inl e => .inl e
  | .inr _ => .inl (k, a)
/-- a fault where it is wrong; one at its first byte -/
def sW (B : Nat → Int) (N : Nat) (s : ST) : ST := match s with
  | .inl e => .inl e
  | .inr x => .inl (1, ((tok B N x.1).2.2.1 : Int))
def sG (B : Nat → Int) (N : Nat) (k : Int) (s : ST) : ST := match s with
  | .inl e => .inl e
  | .inr x => .inl (k, ((tok B N x.1).2.1 : Int))
def sE (y : Int) (s : ST) : ST := match s with
  | .inl e => .inl e
  | .inr x => .inr (x.1, x.2.1, if x.2.2.length < 1600 then x.2.2 ++ [y] else x.2.2)
def sO (z : Nat → Nat) (s : ST) : ST := match s with
  | .inl e => .inl e
  | .inr x => .inr (x.1, z x.2.1, x.2.2)
def isW (B : Nat → Int) (N : Nat) (k : Int) (s : ST) : Bool := match s with
  | .inl _ => false
  | .inr x => decide ((tok B N x.1).1 = 1) && decide ((tok B N x.1).2.2.2.2.1 = k)
def isS (B : Nat → Int) (N : Nat) (y : Int) (s : ST) : Bool := match s with
  | .inl _ => false
  | .inr x => decide ((tok B N x.1).1 = 3) && decide ((tok B N x.1).2.2.2.1 = y)
def kd (B : Nat → Int) (N : Nat) (s : ST) : Int := match s with
  | .inl _ => 4
  | .inr x => (tok B N x.1).1
def vl (B : Nat → Int) (N : Nat) (s : ST) : Int := match s with
  | .inl _ => 0
  | .inr x => (tok B N x.1).2.2.2.1
def ow (B : Nat → Int) (N : Nat) (s : ST) : Int := match s with
  | .inl _ => -1
  | .inr x => (tok B N x.1).2.2.2.2.1
def opn (s : ST) : Nat := match s with
  | .inl _ => 0
  | .inr x => x.2.1
def isVal (B : Nat → Int) (N : Nat) (s : ST) : Bool := decide (kd B N s = 1) && isVw (ow B N s).toNat && decide (0 ≤ ow B N s)
def sSg (B : Nat → Int) (N : Nat) (y : Int) (s : ST) : ST := if isS B N y s = true then sA B N s else sW B N s
def sWd (B : Nat → Int) (N : Nat) (k : Int) (s : ST) : ST := if isW B N k s = true then sA B N s else sW B N s
section GRA
variable (B : Nat → Int) (N : Nat)
def gTwo (rec : ST → ST) (w : Int) (s : ST) : ST := if isS B N 40 s = true then (if opn s < 7 then sE (20000 + w) (sO (fun o => o - 1) (sSg B N 41 (rec (sSg B N 44 (rec (sA B N (sO (fun o => o + 1) s))))))) else sG B N 5 s) else sW B N s
def gPart (rec : ST → ST) (s : ST) : ST :=
  if kd B N s = 2 then sA B N (sE (vl B N s) s)
  else if isS B N 40 s = true then (if opn s < 7 then sO (fun o => o - 1) (sSg B N 41 (rec (sA B N (sO (fun o => o + 1) s)))) else sG B N 5 s)
  else if (isW B N 27 s || isW B N 28 s) = true then gTwo B N rec (ow B N s) (sA B N s)
  else if isVal B N s = true then sA B N (sE (10000 + ow B N s) s)
  else sW B N s
def gLoop (p : ST → Bool) (body : ST → ST) : Nat → ST → ST
  | 0, s => s
  | k + 1, s => if p s = true then gLoop p body k (body s) else s
def gProd (rec : ST → ST) (s : ST) : ST := gLoop (fun s => isS B N 42 s || (isS B N 47 s || isS B N 37 s)) (fun s => sE (20000 + vl B N s) (gPart B N rec (sA B N s))) 1600 (gPart B N rec s)
def gSum (rec : ST → ST) (s : ST) : ST := gLoop (fun s => isS B N 43 s || isS B N 45 s) (fun s => sE (20000 + vl B N s) (gProd B N rec (sA B N s))) 1600 (gProd B N rec s)
def gS : Nat → ST → ST
  | 0, s => gSum B N (fun s => s) s
  | n + 1, s => gSum B N (gS n) s
def gBoth (f : ST → ST) (s : ST) : ST := gLoop (isW B N 24) (fun s => sE 20024 (f (sA B N s))) 1600 (f s)
def gTest (f : ST → ST) (s : ST) : ST := gLoop (isW B N 23) (fun s => sE 20023 (gBoth B N f (sA B N s))) 1600 (gBoth B N f s)
def gCmp (sumf : ST → ST) (s : ST) : ST := if (isS B N 60 s || (isS B N 62 s || isS B N 61 s)) = true then sE (20000 + vl B N s) (sumf (sA B N s)) else sW B N s
def gFact (sumf recf : ST → ST) (s : ST) : ST :=
  if isW B N 25 s = true then (if opn s < 7 then sE 20025 (sO (fun o => o - 1) (recf (sA B N (sO (fun o => o + 1) s)))) else sG B N 5 s)
  else if isS B N 91 s = true then (if opn s < 7 then sO (fun o => o - 1) (sSg B N 93 (gTest B N recf (sA B N (sO (fun o => o + 1) s)))) else sG B N 5 s)
  else if isW B N 26 s = true then sA B N (sE 20026 s)
  else gCmp B N sumf (sumf s)
def gF : Nat → ST → ST
  | 0, s => gFact B N (gS B N 0) (fun s => s) s
  | n + 1, s => gFact B N (gS B N (n + 1)) (gF n) s
end GRA
def cdS (M : PH) (c : Nat) : Prop := ∃ z : Nat, z ≤ 1600 ∧ M (c + 15) 6 = (z : Int) ∧ ∀ i, i < z → inR (M (c + 16) i)
def cdL (M : PH) (c : Nat) (l : List Int) : Prop := l.length ≤ 1600 ∧ M (c + 15) 6 = (l.length : Int) ∧ ∀ i (h : i < l.length), M (c + 16) i = l[i] ∧ inR l[i]
def PSt (M : PH) (c : Nat) (B : Nat → Int) (N : Nat) (s : ST) : Prop := match s with
  | .inl e => M 31 3 = e.1 ∧ e.1 ≠ 0 ∧ inR e.1 ∧ M 31 4 = e.2 ∧ M 32 4 = 4 ∧ M 32 8 = -1 ∧ inR (M 32 7) ∧ cdS M c
  | .inr x => M 31 3 = 0 ∧ M 31 4 = -1 ∧ LX (M 32) N (tok B N x.1) ∧ x.1.1 ≤ N ∧ M 31 2 = (x.2.1 : Int) ∧ x.2.1 ≤ 7 ∧ cdL M c x.2.2
def frQ (c : Nat) (M M' : PH) : Prop := ∀ q, q ≠ 31 → q ≠ 32 → q ≠ c + 15 → q ≠ c + 16 → M' q = M q
def dep (n : Nat) (s : ST) : Prop := match s with
  | .inl _ => True
  | .inr x => 7 ≤ n + x.2.1
/-- what holds all the while a text is read -/
def PEn (v : Nat → Int) (M : PH) (c : Nat) (B : Nat → Int) (N : Nat) : Prop := isCh c ∧ v 1 = (c : Int) ∧ v 5 = ((1 : Nat) : Int) ∧ TP M B ∧ KY M ∧ N ≤ 1600
/-- a call does what φ says -/
def TR (D m : Nat) (as : List PV) (c : Nat) (B : Nat → Int) (N n : Nat) (φ : ST → ST) : Prop := ∀ (d : Nat) (X : Nat × (Nat → Int)) (v : Nat → Int) (M : PH) (K : PV → PS → Prop) (s : ST), PEn v M c B N → dep n s → PSt M c B N s → (∀ M', frQ c M M' → PSt M' c B N (φ s) → K PU (GF X, M', PTF v)) → pm_Call (d + D) m as (GF X, M, PTF v) K
section CPR
variable {d c N : Nat} {X : Nat × (Nat → Int)} {v : Nat → Int} {M M' : PH} {K : PV → PS → Prop} {B : Nat → Int} {s : ST}
theorem frQ_r : frQ c M M := fun _ _ _ _ _ => rfl
theorem frQ_t {M2 : PH} (h : frQ c M M') (h2 : frQ c M' M2) : frQ c M M2 := fun q z1 z2 z3 z4 => (h2 q z1 z2 z3 z4).trans (h q z1 z2 z3 z4)
theorem PEn_f (h : PEn v M c B N) (hf : frQ c M M') : PEn v M' c B N := by
  obtain ⟨h1, h2, h3, h4, h5, h6⟩ := h
  have : c = 9 ∨ c = 35 := h1
  exact ⟨h1, h2, h3, TP_f h4 (hf 1 (by omega) (by omega) (by omega) (by omega)), fun w hw => by rw [hf 33 (by omega) (by omega) (by omega) (by omega)]; exact h5 w hw, h6⟩
theorem ch16 (hc : isCh c) : (c + 15 ≠ 31 ∧ c + 15 ≠ 32 ∧ c + 16 ≠ 31 ∧ c + 16 ≠ 32) := by
  have : c = 9 ∨ c = 35 := hc
  omega
/-- what a word, number or sign may be -/
theorem tk_b (hB : TP M B) (hN : N ≤ 1600) {i : Nat} (hi : i ≤ N) {w : Bool} : ((tk B N i w).1 = 0 ∨ (tk B N i w).1 = 1 ∨ (tk B N i w).1 = 2 ∨ ((tk B N i w).1 = 3 ∧ isSg (tk B N i w).2.2.2.1 = true) ∨ (tk B N i w).1 = 4) ∧ (tk B N i w).2.1 ≤ N ∧ (tk B N i w).2.2.1 ≤ N ∧ (-128 ≤ (tk B N i w).2.2.2.1 ∧ (tk B N i w).2.2.2.1 < 1073741824) ∧ (-1 ≤ (tk B N i w).2.2.2.2.1 ∧ (tk B N i w).2.2.2.2.1 < 29) ∧ (tk B N i w).2.2.2.2.2 ≤ N ∧ i ≤ (tk B N i w).2.1 ∧ (tk B N i w).2.1 ≤ (tk B N i w).2.2.2.2.2 ∧ ((tk B N i w).1 ≠ 0 → (tk B N i w).2.1 < (tk B N i w).2.2.2.2.2) ∧ ((tk B N i w).1 = 2 → 0 ≤ (tk B N i w).2.2.2.1 ∧ (tk B N i w).2.2.2.1 ≤ 9999) := by
  have hs := sk_p (B := B) hi
  unfold tk
  by_cases q : N ≤ sk B N i
  · rw [if_pos q]
    exact ⟨Or.inl rfl, hs.2, hs.2, ⟨by show -128 ≤ (0 : Int); decide, by show (0 : Int) < 1073741824; decide⟩, ⟨by show -1 ≤ (-1 : Int); decide, by show (-1 : Int) < 29; decide⟩, hs.2, hs.1, Nat.le_refl _, fun h => absurd rfl h, fun h => absurd (show (0 : Int) = 2 from h) (by decide)⟩
  rw [if_neg q]
  by_cases q1 : isLt (B (sk B N i)) = true
  · rw [if_pos q1]
    have hr := rn_p (p := isLt) (B := B) (N := N) (k := 6) (i := sk B N i)
    have h1 : 0 < rn isLt B N 6 (sk B N i) := by rw [rn, if_pos ⟨by omega, q1⟩]; omega
    have h2 := (hr.1 (rn isLt B N 6 (sk B N i) - 1) (by omega)).1
    have hwb := wv_b (B := B) (i := sk B N i) hr.2 (fun j hj => (hr.1 j hj).2)
    have hob := ownw_b (x := (wv B (sk B N i) (rn isLt B N 6 (sk B N i)) : Nat))
    refine ⟨?_, hs.2, ?_, ⟨?_, ?_⟩, hob, ?_, hs.1, ?_, fun _ => ?_, fun h => ?_⟩
    · by_cases z : ((w && decide (sk B N i = i)) || tl isLt B N (sk B N i + rn isLt B N 6 (sk B N i))) = true
      · refine Or.inr (Or.inr (Or.inr (Or.inr ?_)))
        show (if ((w && decide (sk B N i = i)) || tl isLt B N (sk B N i + rn isLt B N 6 (sk B N i))) = true then (4 : Int) else 1) = 4
        rw [if_pos z]
      · refine Or.inr (Or.inl ?_)
        show (if ((w && decide (sk B N i = i)) || tl isLt B N (sk B N i + rn isLt B N 6 (sk B N i))) = true then (4 : Int) else 1) = 1
        rw [if_neg z]
    · show (if (tl isLt B N (sk B N i + rn isLt B N 6 (sk B N i)) && !(w && decide (sk B N i = i))) = true then sk B N i + rn isLt B N 6 (sk B N i) else sk B N i) ≤ N
      split <;> omega
    · show -128 ≤ ((wv B (sk B N i) (rn isLt B N 6 (sk B N i)) : Nat) : Int); omega
    · show ((wv B (sk B N i) (rn isLt B N 6 (sk B N i)) : Nat) : Int) < _; omega
    · show sk B N i + rn isLt B N 6 (sk B N i) ≤ N; omega
    · show sk B N i ≤ sk B N i + rn isLt B N 6 (sk B N i); omega
    · show sk B N i < sk B N i + rn isLt B N 6 (sk B N i); omega
    · have : (if ((w && decide (sk B N i = i)) || tl isLt B N (sk B N i + rn isLt B N 6 (sk B N i))) = true then (4 : Int) else 1) = 2 := h
      split at this <;> omega
  rw [if_neg q1]
  by_cases q2 : isDt (B (sk B N i)) = true
  · rw [if_pos q2]
    have hr := rn_p (p := isDt) (B := B) (N := N) (k := 4) (i := sk B N i)
    have h1 : 0 < rn isDt B N 4 (sk B N i) := by rw [rn, if_pos ⟨by omega, q2⟩]; omega
    have h2 := (hr.1 (rn isDt B N 4 (sk B N i) - 1) (by omega)).1
    have hwb := nv_c (B := B) (i := sk B N i) hr.2 (fun j hj => (hr.1 j hj).2)
    refine ⟨?_, hs.2, ?_, ⟨?_, ?_⟩, ⟨by show -1 ≤ (-1 : Int); decide, by show (-1 : Int) < 29; decide⟩, ?_, hs.1, ?_, fun _ => ?_, fun h => hwb⟩
    · by_cases z : ((w && decide (sk B N i = i)) || tl isDt B N (sk B N i + rn isDt B N 4 (sk B N i))) = true
      · refine Or.inr (Or.inr (Or.inr (Or.inr ?_)))
        show (if ((w && decide (sk B N i = i)) || tl isDt B N (sk B N i + rn isDt B N 4 (sk B N i))) = true then (4 : Int) else 2) = 4
        rw [if_pos z]
      · refine Or.inr (Or.inr (Or.inl ?_))
        show (if ((w && decide (sk B N i = i)) || tl isDt B N (sk B N i + rn isDt B N 4 (sk B N i))) = true then (4 : Int) else 2) = 2
        rw [if_neg z]
    · show (if (tl isDt B N (sk B N i + rn isDt B N 4 (sk B N i)) && !(w && decide (sk B N i = i))) = true then sk B N i + rn isDt B N 4 (sk B N i) else sk B N i) ≤ N
      split <;> omega
    · show -128 ≤ nv B (sk B N i) (rn isDt B N 4 (sk B N i)); omega
    · show nv B (sk B N i) (rn isDt B N 4 (sk B N i)) < _; omega
    · show sk B N i + rn isDt B N 4 (sk B N i) ≤ N; omega
    · show sk B N i ≤ sk B N i + rn isDt B N 4 (sk B N i); omega
    · show sk B N i < sk B N i + rn isDt B N 4 (sk B N i); omega
  rw [if_neg q2]
  have gb := hB (sk B N i) (by omega)
  have cb := b8_c gb.2
  refine ⟨?_, hs.2, hs.2, ⟨?_, ?_⟩, ⟨by show -1 ≤ (-1 : Int); decide, by show (-1 : Int) < 29; decide⟩, ?_, hs.1, ?_, fun _ => ?_, fun h => ?_⟩
  · by_cases z : isSg (B (sk B N i)) = true
    · obtain ⟨y, hy⟩ := Int.eq_ofNat_of_zero_le gb.2.1
      have sb := sg_b y (by omega)
      rw [← hy] at sb
      have := sb z
      refine Or.inr (Or.inr (Or.inr (Or.inl ⟨?_, ?_⟩)))
      · show (if isSg (B (sk B N i)) = true then (3 : Int) else 4) = 3
        rw [if_pos z]
      · show isSg (pm_b8 (B (sk B N i))) = true
        rw [show pm_b8 (B (sk B N i)) = B (sk B N i) by omega]; exact z
    · refine Or.inr (Or.inr (Or.inr (Or.inr ?_)))
      show (if isSg (B (sk B N i)) = true then (3 : Int) else 4) = 4
      rw [if_neg z]
  · show -128 ≤ pm_b8 (B (sk B N i)); omega
  · show pm_b8 (B (sk B N i)) < 1073741824; omega
  · show sk B N i + 1 ≤ N; omega
  · show sk B N i ≤ sk B N i + 1; omega
  · show sk B N i < sk B N i + 1; omega
  · have : (if isSg (B (sk B N i)) = true then (3 : Int) else 4) = 2 := h
    split at this <;> omega
theorem c69 (hE : PEn v M c B N) (hP : PSt M c B N s) {k a : Int} (hk : k ≠ 0) (hk2 : inR k) (hK : ∀ M', frQ c M M' → PSt M' c B N (sF k a s) → K PU (GF X, M', PTF v)) : pm_Call (d + 1) 69 [vA 31, vI k, vI a] (GF X, M, PTF v) K := by
  obtain ⟨h1, h2, h3, h4, h5, h6⟩ := hE
  have hc16 := ch16 h1
  rw [en69]
  match s, hP with
  | .inl e, ⟨p3, p0, pr, p4, pk, po, pv, pc⟩ =>
    rw [r69_0 (by rw [p3]; exact pr), p3, if_pos p0, r69_17, r69_25, sa_s, sa_sa]
    refine hK _ (fun q z1 z2 z3 z4 => sa_n z2) ⟨by rw [sa_n (by omega)]; exact p3, p0, pr, by rw [sa_n (by omega)]; exact p4, by rw [sa_s, up_n (by omega), up_s], by rw [sa_s, up_s], by rw [sa_s, up_n (by omega), up_n (by omega)]; exact pv, ?_⟩
    unfold cdS at pc ⊢
    rw [sa_n (by omega), sa_n (by omega)]; exact pc
  | .inr x, ⟨p3, p4, pl, pi, po, po7, pc⟩ =>
    have tb := tk_b h4 h6 (i := x.1.1) (w := x.1.2) pi
    rw [r69_0 (by rw [p3]; omega), p3, if_neg (by simp), r69_7, r69_12, r69_17, r69_25]
    simp only [sa_s, sa_sa]
    have e32 : ∀ f, (pm_sa M 31 f) 32 = M 32 := fun f => sa_n (by omega)
    rw [e32]
    refine hK _ (fun q z1 z2 z3 z4 => by rw [sa_n z2, sa_n z1]) ⟨by rw [sa_n (by omega), sa_s, up_n (by omega), up_s], hk, hk2, by rw [sa_n (by omega), sa_s, up_s], by rw [sa_s, up_n (by omega), up_s], by rw [sa_s, up_s], ?_, ?_⟩
    · rw [sa_s, up_n (by omega), up_n (by omega), pl.2.2.2.2.2.1]
      have := tb.2.2.2.1
      exact ⟨by show -2147483648 ≤ (tk B N x.1.1 x.1.2).2.2.2.1; omega, by show (tk B N x.1.1 x.1.2).2.2.2.1 < 2147483648; omega⟩
    · obtain ⟨l1, l2, l3⟩ := pc
      exact ⟨x.2.2.length, l1, by rw [sa_n (by omega), sa_n (by omega)]; exact l2, fun i hi => by rw [sa_n (by omega), sa_n (by omega), (l3 i hi).1]; exact (l3 i hi).2⟩
theorem c70 (hE : PEn v M c B N) (hP : PSt M c B N s) (hK : ∀ M', frQ c M M' → PSt M' c B N (sW B N s) → K PU (GF X, M', PTF v)) : pm_Call (d + 2) 70 [vA 31] (GF X, M, PTF v) K := by
  rw [en70, r70_0]
  refine c69 (k := 1) hE hP (by decide) (by omega) (fun M2 f2 p2 => ?_)
  rw [push_u, r70_12]
  refine hK M2 f2 ?_
  match s, hP, p2 with
  | .inl e, hP, p2 => exact p2
  | .inr x, hP, p2 =>
    have : sF 1 (M 32 6) (.inr x) = sW B N (.inr x) := by
      show (Sum.inl (1, M 32 6) : ST) = Sum.inl (1, ((tok B N x.1).2.2.1 : Int))
      rw [hP.2.2.1.2.2.2.2.1]
    rw [← this]; exact p2
/-- a fault at the first byte of what was read last -/
theorem c69s (hE : PEn v M c B N) (hP : PSt M c B N s) {k : Int} (hk : k ≠ 0) (hk2 : inR k) (hK : ∀ M', frQ c M M' → PSt M' c B N (sG B N k s) → K PU (GF X, M', PTF v)) : pm_Call (d + 1) 69 [vA 31, vI k, vI (M 32 5)] (GF X, M, PTF v) K := by
  refine c69 hE hP hk hk2 (fun M2 f2 p2 => hK M2 f2 ?_)
  match s, hP, p2 with
  | .inl e, hP, p2 => exact p2
  | .inr x, hP, p2 =>
    have : sF k (M 32 5) (.inr x) = sG B N k (.inr x) := by
      show (Sum.inl (k, M 32 5) : ST) = Sum.inl (k, ((tok B N x.1).2.1 : Int))
      rw [hP.2.2.1.2.2.2.1]
    rw [← this]; exact p2
theorem PSt_4 (hE : PEn v M c B N) (hP : PSt M c B N s) : M 32 4 = kd B N s ∧ inR (kd B N s) ∧ M 32 8 = ow B N s ∧ inR (ow B N s) ∧ inR (M 32 7) := by
  obtain ⟨h1, h2, h3, h4, h5, h6⟩ := hE
  match s, hP with
  | .inl e, ⟨p3, p0, pr, p4, pk, po, pv, pc⟩ => exact ⟨pk, ⟨by show -2147483648 ≤ (4 : Int); decide, by show (4 : Int) < 2147483648; decide⟩, po, ⟨by show -2147483648 ≤ (-1 : Int); decide, by show (-1 : Int) < 2147483648; decide⟩, pv⟩
  | .inr x, ⟨p3, p4, pl, pi, po, po7, pc⟩ =>
    have tb := tk_b h4 h6 (i := x.1.1) (w := x.1.2) pi
    refine ⟨pl.2.2.1, ?_, pl.2.2.2.2.2.2, ?_, ?_⟩
    · show inR (tk B N x.1.1 x.1.2).1
      omega
    · show inR (tk B N x.1.1 x.1.2).2.2.2.2.1
      omega
    · rw [pl.2.2.2.2.2.1]
      show inR (tk B N x.1.1 x.1.2).2.2.2.1
      omega
theorem c71 (hE : PEn v M c B N) (hP : PSt M c B N s) {k : Int} (hk : inR k) : pm_Call (d + 1) 71 [vA 31, vI k] (GF X, M, PTF v) K ↔ K (vI (if isW B N k s = true then 1 else 0)) (GF X, M, PTF v) := by
  obtain ⟨e4, r4, e8, r8, -⟩ := PSt_4 hE hP
  rw [en71, r71_0 (by rw [e4]; exact r4), e4]
  match s, hP with
  | .inl e, hP =>
    rw [if_pos (show kd B N (.inl e) ≠ 1 by show (4 : Int) ≠ 1; decide), r71_26, r71_27 (by simp)]; exact Iff.rfl
  | .inr x, hP =>
    by_cases q : (tok B N x.1).1 = 1
    · rw [if_neg (show ¬ (kd B N (.inr x) ≠ 1) from fun z => z q), r71_11 (by rw [e8]; exact r8) hk, e8]
      by_cases q2 : (tok B N x.1).2.2.2.2.1 = k
      · rw [if_neg (show ¬ (ow B N (.inr x) ≠ k) from fun z => z q2), r71_22, r71_27 (by simp), if_pos (show isW B N k (.inr x) = true by simp [isW, q, q2])]
      · rw [if_pos (show ow B N (.inr x) ≠ k from q2), r71_26, r71_27 (by simp), if_neg (show ¬ isW B N k (.inr x) = true by simp [isW, q2])]
    · rw [if_pos (show kd B N (.inr x) ≠ 1 from q), r71_26, r71_27 (by simp), if_neg (show ¬ isW B N k (.inr x) = true by simp [isW, q])]
theorem c72 (hE : PEn v M c B N) (hP : PSt M c B N s) {k : Int} (hk : inR k) : pm_Call (d + 1) 72 [vA 31, vI k] (GF X, M, PTF v) K ↔ K (vI (if isS B N k s = true then 1 else 0)) (GF X, M, PTF v) := by
  obtain ⟨e4, r4, e8, r8, r7⟩ := PSt_4 hE hP
  rw [en72, r72_0 (by rw [e4]; exact r4), e4]
  match s, hP with
  | .inl e, hP =>
    rw [if_pos (show kd B N (.inl e) ≠ 3 by show (4 : Int) ≠ 3; decide), r72_26, r72_27 (by simp)]; exact Iff.rfl
  | .inr x, hP =>
    have e7 : M 32 7 = (tok B N x.1).2.2.2.1 := hP.2.2.1.2.2.2.2.2.1
    by_cases q : (tok B N x.1).1 = 3
    · rw [if_neg (show ¬ (kd B N (.inr x) ≠ 3) from fun z => z q), r72_11 r7 hk, e7]
      by_cases q2 : (tok B N x.1).2.2.2.1 = k
      · rw [if_neg (by simpa using q2), r72_22, r72_27 (by simp), if_pos (show isS B N k (.inr x) = true by simp [isS, q, q2])]
      · rw [if_pos q2, r72_26, r72_27 (by simp), if_neg (show ¬ isS B N k (.inr x) = true by simp [isS, q2])]
    · rw [if_pos (show kd B N (.inr x) ≠ 3 from q), r72_26, r72_27 (by simp), if_neg (show ¬ isS B N k (.inr x) = true by simp [isS, q])]
/-- the next one, where there is no fault -/
theorem c51p (hE : PEn v M c B N) {x : KP × Nat × List Int} (hP : PSt M c B N (.inr x)) (hK : ∀ M', frQ c M M' → PSt M' c B N (sA B N (.inr x)) → K PU (GF X, M', PTF v)) : pm_Call (d + 2) 51 [vA 32] (GF X, M, PTF v) K := by
  obtain ⟨h1, h2, h3, h4, h5, h6⟩ := hE
  have hc16 := ch16 h1
  obtain ⟨p3, p4, pl, pi, po, po7, pc⟩ := hP
  have tb := tk_b h4 h6 (i := x.1.1) (w := x.1.2) pi
  have hg4 : inR (M 32 4) := by
    rw [pl.2.2.1]
    show inR (tk B N x.1.1 x.1.2).1
    omega
  have := c51 (d := d) (X := X) (K := K) (g := M 32) (i := (tok B N x.1).2.2.2.2.2) h3 h4 h5 h6 tb.2.2.2.2.2.1 pl.1 pl.2.1 hg4 (fun g' hg' => ?_)
  · rw [sa_id rfl] at this
    exact this
  · rw [pl.2.2.1] at hg'
    refine hK _ (fun q z1 z2 z3 z4 => sa_n z2) ⟨by rw [sa_n (by omega)]; exact p3, by rw [sa_n (by omega)]; exact p4, by rw [sa_s]; exact hg', tb.2.2.2.2.2.1, by rw [sa_n (by omega)]; exact po, po7, ?_⟩
    unfold cdL at pc ⊢
    rw [sa_n (by omega), sa_n (by omega)]; exact pc
theorem c43 (hE : PEn v M c B N) (hP : PSt M c B N s) {y : Int} (hy : inR y) (hK : ∀ M', frQ c M M' → PSt M' c B N (sE y s) → K PU (GF X, M', PTF v)) : pm_Call (d + 1) 43 [vA (c + 15), vI y] (GF X, M, PTF v) K := by
  obtain ⟨h1, h2, h3, h4, h5, h6⟩ := hE
  have hc16 := ch16 h1
  have hf := ch_fo h1
  rw [en43]
  have G : ∀ z : Nat, z < 1600 → M (c + 15) 6 = (z : Int) → (∀ M', frQ c M M' → M' 31 = M 31 → M' 32 = M 32 → M' (c + 15) 6 = ((z + 1 : Nat) : Int) → (∀ i, i < z → M' (c + 16) i = M (c + 16) i) → M' (c + 16) z = y → K PU (GF X, M', PTF v)) → pm_Run d 43 0 [vA (c + 15), vI y] [] (GF X, M, PTF v) K := by
    intro z hz e6 hk
    rw [r43_0 hf (by rw [e6]; omega), e6, if_neg (by omega), r43_12 hf (by rw [e6]; omega) (by rw [e6]; omega), r43_22 hf, r43_32, e6, Int.toNat_natCast, show c + 15 + 1 = c + 16 from rfl]
    refine hk _ (fun q z1 z2 z3 z4 => by rw [sa_n z3, sa_n z4]) (by rw [sa_n (by omega), sa_n (by omega)]) (by rw [sa_n (by omega), sa_n (by omega)]) (by rw [sa_s, up_s, sa_n (by omega), e6]; omega) (fun i hi => by rw [sa_n (by omega), sa_s, up_n (by omega)]) (by rw [sa_n (by omega), sa_s, up_s])
  match s, hP, hK with
  | .inl e, ⟨p3, p0, pr, p4, pk, po, pv, ⟨z, z1, z2, z3⟩⟩, hK =>
    by_cases q : z < 1600
    · refine G z q z2 (fun M' f1 f31 f32 f6 fo fn => hK M' f1 ⟨by rw [f31]; exact p3, p0, pr, by rw [f31]; exact p4, by rw [f32]; exact pk, by rw [f32]; exact po, by rw [f32]; exact pv, z + 1, by omega, f6, fun i hi => ?_⟩)
      by_cases w : i = z
      · rw [w, fn]; exact hy
      · rw [fo i (by omega)]; exact z3 i (by omega)
    · rw [r43_0 hf (by rw [z2]; omega), z2, if_pos (by omega), r43_32]
      exact hK M frQ_r ⟨p3, p0, pr, p4, pk, po, pv, z, z1, z2, z3⟩
  | .inr x, ⟨p3, p4, pl, pi, po, po7, ⟨l1, l2, l3⟩⟩, hK =>
    by_cases q : x.2.2.length < 1600
    · refine G _ q l2 (fun M' f1 f31 f32 f6 fo fn => hK M' f1 ⟨by rw [f31]; exact p3, by rw [f31]; exact p4, by rw [f32]; exact pl, pi, by rw [f31]; exact po, po7, ?_⟩)
      show cdL M' c (if x.2.2.length < 1600 then x.2.2 ++ [y] else x.2.2)
      rw [if_pos q]
      refine ⟨by simp; omega, by rw [f6]; simp, fun i hi => ?_⟩
      have hi' : i < x.2.2.length + 1 := by simpa using hi
      by_cases w : i = x.2.2.length
      · subst w; rw [fn]; simp; exact hy
      · rw [fo i (by omega), List.getElem_append_left (by omega)]; exact l3 i (by omega)
    · rw [r43_0 hf (by rw [l2]; omega), l2, if_pos (by omega), r43_32]
      refine hK M frQ_r ⟨p3, p4, pl, pi, po, po7, ?_⟩
      show cdL M c (if x.2.2.length < 1600 then x.2.2 ++ [y] else x.2.2)
      rw [if_neg q]; exact ⟨l1, l2, l3⟩
theorem c89 (hE : PEn v M c B N) (hP : PSt M c B N s) {y : Int} (hy : -1000000000 ≤ y ∧ y ≤ 1100000000) (hK : ∀ M', frQ c M M' → PSt M' c B N (sE (20000 + y) s) → K PU (GF X, M', PTF v)) : pm_Call (d + 2) 89 [vA 31, vI y] (GF X, M, PTF v) K := by
  rw [en89, r89_0 hE.1 hE.2.1]
  refine c43 hE hP (by omega) (fun M2 f2 p2 => ?_)
  rw [push_u, r89_15]
  exact hK M2 f2 p2
theorem isS_x {y : Int} (h : isS B N y s = true) : ∃ x, s = .inr x := by
  match s, h with
  | .inr x, _ => exact ⟨x, rfl⟩
theorem isW_x {y : Int} (h : isW B N y s = true) : ∃ x, s = .inr x := by
  match s, h with
  | .inr x, _ => exact ⟨x, rfl⟩
theorem c74 (hE : PEn v M c B N) (hP : PSt M c B N s) {y : Int} (hy : inR y) (hK : ∀ M', frQ c M M' → PSt M' c B N (sSg B N y s) → K PU (GF X, M', PTF v)) : pm_Call (d + 3) 74 [vA 31, vI y] (GF X, M, PTF v) K := by
  rw [en74, r74_0, c72 hE hP hy, push_i, r74_5 (by have := if01 (x := isS B N y s); omega)]
  by_cases q : isS B N y s = true
  · obtain ⟨x, rfl⟩ := isS_x q
    rw [sSg, if_pos q] at hK
    rw [if_pos q, if_neg (by omega), r74_8]
    refine c51p hE hP (fun M2 f2 p2 => ?_)
    rw [push_u, r74_15, r74_22]
    exact hK M2 f2 p2
  · rw [sSg, if_neg q] at hK
    rw [if_neg q, if_pos rfl, r74_18]
    refine c70 hE hP (fun M2 f2 p2 => ?_)
    rw [push_u, r74_22]
    exact hK M2 f2 p2
theorem c73 (hE : PEn v M c B N) (hP : PSt M c B N s) {y : Int} (hy : inR y) (hK : ∀ M', frQ c M M' → PSt M' c B N (sWd B N y s) → K PU (GF X, M', PTF v)) : pm_Call (d + 3) 73 [vA 31, vI y] (GF X, M, PTF v) K := by
  rw [en73, r73_0, c71 hE hP hy, push_i, r73_5 (by have := if01 (x := isW B N y s); omega)]
  by_cases q : isW B N y s = true
  · obtain ⟨x, rfl⟩ := isW_x q
    rw [sWd, if_pos q] at hK
    rw [if_pos q, if_neg (by omega), r73_8]
    refine c51p hE hP (fun M2 f2 p2 => ?_)
    rw [push_u, r73_15, r73_22]
    exact hK M2 f2 p2
  · rw [sWd, if_neg q] at hK
    rw [if_neg q, if_pos rfl, r73_18]
    refine c70 hE hP (fun M2 f2 p2 => ?_)
    rw [push_u, r73_22]
    exact hK M2 f2 p2
end CPR
