/-! The reference's reader: its states, what it looks for. -/
def f4 (M M' : PH) : Prop := (∀ q, q ≠ 234 → M' q = M q) ∧ ∀ j, j < 3 ∨ 9 < j → j ≠ 12 → M' 234 j = M 234 j
/-- a fault is told -/
def FL (M : PH) (e : Int × Int) : Prop := M 234 8 = e.1 ∧ (1 ≤ e.1 ∧ e.1 ≤ 6) ∧ M 234 9 = e.2 ∧ inR (M 234 12)
/-- none is, and this sign is looked at -/
def OK (M : PH) (B : Nat → Int) (N : Nat) (κ : KP) : Prop := M 234 8 = 0 ∧ M 234 9 = -1 ∧ TKR (M 234) B N κ ∧ κ.1 ≤ N ∧ cw B κ
def TX (M : PH) (B : Nat → Int) (N : Nat) : Prop := BB B ∧ N ≤ 1600 ∧ ∀ k, k < N → M 235 k = B k
section RFu
variable {d b w : Nat} {X : Nat × (Nat → Int)} {v : Nat → Int} {M M' M2 : PH} {K : PV → PS → Prop} {B : Nat → Int} {N : Nat} {κ : KP} {e : Int × Int} {o : Nat} {l : List Int}
theorem f4_r : f4 M M := ⟨fun _ _ => rfl, fun _ _ _ => rfl⟩
theorem f4_t (h : f4 M M') (h2 : f4 M' M2) : f4 M M2 := ⟨fun q z => (h2.1 q z).trans (h.1 q z), fun j z1 z2 => (h2.2 j z1 z2).trans (h.2 j z1 z2)⟩
theorem TX_f (h : TX M B N) (hf : f4 M M') : TX M' B N := ⟨h.1, h.2.1, fun k hk => by rw [hf.1 235 (by omega)]; exact h.2.2 k hk⟩
theorem c183o (h : M 234 8 = 0) {k p : Int} : pm_Call (d + 1) 183 [vA 234, vI k, vI p] (GF X, M, PTF v) K ↔ K PU (GF X, pm_sa M 234 (pm_up (pm_up (M 234) 8 k) 9 p), PTF v) := by
  rw [en183, r183_0 (by omega), if_pos (by omega), r183_8, r183_13, sa_s, sa_sa]
theorem c183f (h : FL M e) {k p : Int} : pm_Call (d + 1) 183 [vA 234, vI k, vI p] (GF X, M, PTF v) K ↔ K PU (GF X, M, PTF v) := by
  have h1 := h.1
  have h2 := h.2.1
  rw [en183, r183_0 (by omega), if_neg (by omega), r183_7]
theorem f4_89 {k p : Int} : f4 M (pm_sa M 234 (pm_up (pm_up (M 234) 8 k) 9 p)) := ⟨fun q z => sa_n z, fun j z1 z2 => by rw [sa_s, up_n (by omega), up_n (by omega)]⟩
theorem FL_89 {k p : Int} (hk : 1 ≤ k ∧ k ≤ 6) (h12 : inR (M 234 12)) : FL (pm_sa M 234 (pm_up (pm_up (M 234) 8 k) 9 p)) (k, p) := ⟨by rw [sa_s, up_n (by omega), up_s], hk, by rw [sa_s, up_s], by rw [sa_s, up_n (by omega), up_n (by omega)]; exact h12⟩
theorem tok_b (hT : TX M B N) (hκ : κ.1 ≤ N) : (tok B N κ).2.1 ≤ N ∧ (tok B N κ).2.2.1 ≤ N := by
  have := tkB hT.1 hT.2.1 hκ
  exact ⟨this.2.1, this.2.2.1⟩
/-- where it is wrong is where it begins, but for words and numbers that are glued or too long -/
theorem tok_wr (h : (tok B N κ).1 ≠ 4) : (tok B N κ).2.2.1 = (tok B N κ).2.1 := by
  unfold tok tk at *
  generalize sk B N κ.1 = st at *
  generalize (κ.2 && decide (st = κ.1)) = gl at *
  by_cases q0 : N ≤ st
  · rw [if_pos q0]
  · rw [if_neg q0] at h ⊢
    by_cases q1 : isLt (B st) = true
    · rw [if_pos q1] at h ⊢
      have h' : (if (gl || tl isLt B N (st + rn isLt B N 6 st)) = true then (4 : Int) else 1) ≠ 4 := h
      show (if (tl isLt B N (st + rn isLt B N 6 st) && !gl) = true then st + rn isLt B N 6 st else st) = st
      cases hg : gl <;> cases ht : tl isLt B N (st + rn isLt B N 6 st) <;> simp [hg, ht] at h' ⊢
    · rw [if_neg q1] at h ⊢
      by_cases q2 : isDt (B st) = true
      · rw [if_pos q2] at h ⊢
        have h' : (if (gl || tl isDt B N (st + rn isDt B N 4 st)) = true then (4 : Int) else 2) ≠ 4 := h
        show (if (tl isDt B N (st + rn isDt B N 4 st) && !gl) = true then st + rn isDt B N 4 st else st) = st
        cases hg : gl <;> cases ht : tl isDt B N (st + rn isDt B N 4 st) <;> simp [hg, ht] at h' ⊢
      · rw [if_neg q2]
/-- a sign that is no broken word or number -/
def CL (M : PH) : Prop := M 234 12 = -1
theorem OK_c (h : OK M B N κ) (hc : CL M) : (tok B N κ).2.2.1 = (tok B N κ).2.1 := by
  obtain ⟨-, -, ⟨-, -, hk⟩, -⟩ := h
  rcases hk with h | h | h | h | h | h
  · exact tok_wr (by omega)
  · exact tok_wr (by omega)
  · exact tok_wr (by omega)
  · exact tok_wr (by omega)
  · exact h.2.2.2.2.2
  · have := hc; unfold CL at this; have := h.2.2; omega
theorem c186 (hT : TX M B N) (h : OK M B N κ) (hK1 : CL M → K PU (GF X, M, PTF v)) (hK0 : (tok B N κ).1 = 4 → ∀ M', FL M' (1, ((tok B N κ).2.2.1 : Int)) → (M' 234 3 = 1 ∨ M' 234 3 = 2) → f4 M M' → K PU (GF X, M', PTF v)) : pm_Call (d + 2) 186 [vA 234] (GF X, M, PTF v) K := by
  have hb := tok_b hT h.2.2.2.1
  obtain ⟨h8, h9, ⟨h2, h4, hk⟩, hκ, hc⟩ := h
  have n1 := hT.2.1
  have r12 : inR (M 234 12) := by rcases hk with h | h | h | h | h | h <;> omega
  rw [en186, r186_0 r12]
  by_cases q : M 234 12 = -1
  · rw [if_pos q, r186_17]; exact hK1 q
  · have h6 : (tok B N κ).1 = 4 ∧ (M 234 3 = 1 ∨ M 234 3 = 2) ∧ M 234 12 = ((tok B N κ).2.2.1 : Int) := by
      rcases hk with h | h | h | h | h | h
      · exact absurd h.2.2.1 q
      · exact absurd h.2.2.1 q
      · exact absurd h.2.2.1 q
      · exact absurd h.2.2.1 q
      · exact absurd h.2.2.1 q
      · exact h
    rw [if_neg q, r186_8, c183o h8, push_u, r186_17, h6.2.2]
    exact hK0 h6.1 _ (FL_89 (by omega) r12) (by rw [sa_s, up_n (by omega), up_n (by omega)]; exact h6.2.1) f4_89
theorem c186f (h : FL M e) : pm_Call (d + 2) 186 [vA 234] (GF X, M, PTF v) K ↔ K PU (GF X, M, PTF v) := by
  rw [en186, r186_0 h.2.2.2]
  by_cases q : M 234 12 = -1
  · rw [if_pos q, r186_17]
  · rw [if_neg q, r186_8, c183f h, push_u, r186_17]
theorem c188 (h : OK M B N κ) (hc : CL M) {y : Int} (hy : isSg y = true) (hyb : 0 ≤ y ∧ y ≤ 255) : pm_Call (d + 1) 188 [vA 234, vI y] (GF X, M, PTF v) K ↔ K (vI (if isS B N y (.inr (κ, o, l)) = true then 1 else 0)) (GF X, M, PTF v) := by
  obtain ⟨-, -, ⟨-, -, hk⟩, -⟩ := h
  have hS : isS B N y (.inr (κ, o, l)) = (decide ((tok B N κ).1 = 3) && decide ((tok B N κ).2.2.2.1 = y)) := rfl
  rw [hS, en188]
  have no : (tok B N κ).1 ≠ 3 → (M 234 3 = 0 ∨ M 234 3 = 1 ∨ M 234 3 = 2) → (pm_Run d 188 0 [vA 234, vI y] [] (GF X, M, PTF v) K ↔ K (vI (if (decide ((tok B N κ).1 = 3) && decide ((tok B N κ).2.2.2.1 = y)) = true then 1 else 0)) (GF X, M, PTF v)) := fun h1 h2 => by
    rw [r188_0 (by omega), if_pos (by omega), r188_20, r188_21 (by simp), decide_eq_false h1, Bool.false_and]; rfl
  rcases hk with h | h | h | h | h | h
  · exact no (by omega) (by omega)
  · exact no (by omega) (by omega)
  · exact no (by omega) (by omega)
  · rw [r188_0 (by omega), if_neg (by simpa using h.2.1), r188_8 (by omega) (by omega), decide_eq_true h.1, Bool.true_and, ← h.2.2.2.1]
    by_cases q : M 234 6 = y
    · rw [if_neg (by simpa using q), r188_16, r188_21 (by simp), decide_eq_true q]; rfl
    · rw [if_pos q, r188_20, r188_21 (by simp), decide_eq_false q]; rfl
  · have : M 234 6 ≠ y := fun z => by rw [z, hy] at h; exact absurd h.2.2.2.2.1 (by simp)
    rw [r188_0 (by omega), if_neg (by simpa using h.2.1), r188_8 (by omega) (by omega), if_pos this, r188_20, r188_21 (by simp), decide_eq_false (by omega), Bool.false_and]; rfl
  · exact no (by omega) (by omega)
theorem c189 (h : OK M B N κ) (hc : CL M) {k : Nat} (hk29 : k < 29) : pm_Call (d + 1) 189 [vA 234, vL (WKEYS.getD k 0 : Int)] (GF X, M, PTF v) K ↔ K (vI (if isW B N (k : Int) (.inr (κ, o, l)) = true then 1 else 0)) (GF X, M, PTF v) := by
  obtain ⟨-, -, ⟨-, -, hk⟩, -⟩ := h
  have hW : isW B N (k : Int) (.inr (κ, o, l)) = (decide ((tok B N κ).1 = 1) && decide ((tok B N κ).2.2.2.2.1 = (k : Int))) := rfl
  have wb : ∀ k, k < 29 → WKEYS.getD k 0 < 281474976710656 := by decide +kernel
  have wb := wb k hk29
  rw [hW, en189]
  have no : (tok B N κ).1 ≠ 1 → (M 234 3 = 0 ∨ M 234 3 = 2 ∨ M 234 3 = 3) → (pm_Run d 189 0 [vA 234, vL (WKEYS.getD k 0 : Int), PU] [] (GF X, M, PTF v) K ↔ K (vI (if (decide ((tok B N κ).1 = 1) && decide ((tok B N κ).2.2.2.2.1 = (k : Int))) = true then 1 else 0)) (GF X, M, PTF v)) := fun h1 h2 => by
    rw [r189_0 (by omega), if_pos (by omega), r189_21, r189_22 (by simp), decide_eq_false h1, Bool.false_and]; rfl
  rcases hk with h | h | h | h | h | h
  · exact no (by omega) (by omega)
  · obtain ⟨k1, k2, k3, k4, k5, k6, k7, k8⟩ := h
    have lw := bw_l (x := (tok B N κ).2.2.2.1.toNat)
    have ow := own_w k5 hk29
    rw [r189_0 (by omega), if_neg (by simpa using k2), r189_8 (by omega) (by omega) cm_r, decide_eq_true k1, Bool.true_and, k8, k4]
    by_cases q : bwk (tok B N κ).2.2.2.1.toNat 6 = WKEYS.getD k 0
    · rw [if_neg (by rw [ne_eq, cm_e]; omega), r189_17, r189_22 (by simp), decide_eq_true (ow.mp q)]; rfl
    · rw [if_pos (by rw [ne_eq, cm_e]; omega), r189_21, r189_22 (by simp), decide_eq_false (fun z => q (ow.mpr z))]; rfl
  · exact no (by omega) (by omega)
  · exact no (by omega) (by omega)
  · exact no (by omega) (by omega)
  · exact absurd hc (by unfold CL; have := h.2.2; omega)
theorem cw_adv (hT : TX M B N) (hκ : κ.1 ≤ N) (h0 : (tok B N κ).1 ≠ 0) (h4 : (tok B N κ).1 ≠ 4) : cw B (adv B N κ) ∧ (adv B N κ).1 ≤ N := by
  refine ⟨?_, (adv_p hT.1 hT.2.1 hκ h0).2⟩
  have hs := sk_p (B := B) hκ
  have hB := hT.1
  have hN := hT.2.1
  unfold cw adv tok tk at *
  generalize sk B N κ.1 = st at *
  generalize (κ.2 && decide (st = κ.1)) = gl at *
  by_cases q0 : N ≤ st
  · rw [if_pos q0] at h0; exact absurd rfl h0
  · rw [if_neg q0] at h0 h4 ⊢
    by_cases q1 : isLt (B st) = true
    · rw [if_pos q1] at h4 ⊢
      have h4' : ¬ (gl || tl isLt B N (st + rn isLt B N 6 st)) = true := fun z => h4 (by show (if (gl || tl isLt B N (st + rn isLt B N 6 st)) = true then (4 : Int) else 1) = 4; rw [if_pos z])
      have hr := rn_p (p := isLt) (B := B) (N := N) (k := 6) (i := st)
      have r1 : 1 ≤ rn isLt B N 6 st := by rw [rn, if_pos ⟨by omega, q1⟩]; omega
      have hl := (hr.1 (rn isLt B N 6 st - 1) (by omega)).2
      show isWn (if (gl || tl isLt B N (st + rn isLt B N 6 st)) = true then (4 : Int) else 1) = true ↔ (0 < st + rn isLt B N 6 st ∧ isLd (B (st + rn isLt B N 6 st - 1)) = true)
      rw [if_neg h4', show st + rn isLt B N 6 st - 1 = st + (rn isLt B N 6 st - 1) by omega]
      unfold isLd
      rw [hl]
      exact ⟨fun _ => ⟨by omega, rfl⟩, fun _ => rfl⟩
    · rw [if_neg q1] at h4 ⊢
      by_cases q2 : isDt (B st) = true
      · rw [if_pos q2] at h4 ⊢
        have h4' : ¬ (gl || tl isDt B N (st + rn isDt B N 4 st)) = true := fun z => h4 (by show (if (gl || tl isDt B N (st + rn isDt B N 4 st)) = true then (4 : Int) else 2) = 4; rw [if_pos z])
        have hr := rn_p (p := isDt) (B := B) (N := N) (k := 4) (i := st)
        have r1 : 1 ≤ rn isDt B N 4 st := by rw [rn, if_pos ⟨by omega, q2⟩]; omega
        have hl := (hr.1 (rn isDt B N 4 st - 1) (by omega)).2
        show isWn (if (gl || tl isDt B N (st + rn isDt B N 4 st)) = true then (4 : Int) else 2) = true ↔ (0 < st + rn isDt B N 4 st ∧ isLd (B (st + rn isDt B N 4 st - 1)) = true)
        rw [if_neg h4', show st + rn isDt B N 4 st - 1 = st + (rn isDt B N 4 st - 1) by omega]
        unfold isLd
        rw [hl, Bool.or_true]
        exact ⟨fun _ => ⟨by omega, rfl⟩, fun _ => rfl⟩
      · rw [if_neg q2] at h4 ⊢
        by_cases q3 : isSg (B st) = true
        · have bs := hB st (by omega)
          have := sg_ld (B st).toNat (by omega) (by rw [show (((B st).toNat : Nat) : Int) = B st by omega]; exact q3)
          rw [show (((B st).toNat : Nat) : Int) = B st by omega] at this
          show isWn (if isSg (B st) = true then (3 : Int) else 4) = true ↔ (0 < st + 1 ∧ isLd (B (st + 1 - 1)) = true)
          rw [if_pos q3, show st + 1 - 1 = st by omega, this]
          exact ⟨fun z => absurd z (by decide), fun z => absurd z.2 (by simp)⟩
        · exact absurd (by show (if isSg (B st) = true then (3 : Int) else 4) = 4; rw [if_neg q3]) h4
theorem t187 (hT : TX M B N) (h : OK M B N κ) (h0 : (tok B N κ).1 ≠ 0) (h4 : (tok B N κ).1 ≠ 4) (hK : ∀ M', OK M' B N (adv B N κ) → f4 M M' → K PU (GF X, M', PTF v)) : pm_Call (d + 2) 187 [vA 234] (GF X, M, PTF v) K := by
  obtain ⟨h8, h9, ⟨h2, hh4, hk⟩, hκ, hc⟩ := h
  obtain ⟨c1, c2⟩ := cw_adv hT hκ h0 h4
  have e5 : M 234 5 = ((adv B N κ).1 : Int) := by
    rcases hk with h | h | h | h | h | h
    · exact absurd h.1 h0
    · exact h.2.2.2.2.2.2.1
    · exact h.2.2.2.2.2
    · exact h.2.2.2.2.2.2
    · exact absurd h.1 h4
    · exact absurd h.1 h4
  refine c187 hT.1 hT.2.1 hT.2.2 c2 c1 e5 h2 (fun g hg ho => hK _ ⟨?_, ?_, ?_, c2, c1⟩ ⟨fun q z => sa_n z, fun j z1 z2 => ?_⟩)
  · rw [sa_s, ho 8 (by omega) (by omega) (by omega) (by omega) (by omega) (by omega)]; exact h8
  · rw [sa_s, ho 9 (by omega) (by omega) (by omega) (by omega) (by omega) (by omega)]; exact h9
  · rw [sa_s]; exact hg
  · rw [sa_s, ho j (by omega) (by omega) (by omega) (by omega) (by omega) (by omega)]
end RFu
