/-! What a text that was read gives: names of letters, formulas that can be reckoned. -/
def gz (z : CZ) : Prop := (∀ m, m < z.1 1 → 0 ≤ z.2.1 7 m) ∧ (∀ h, h < z.1 2 → 0 ≤ z.2.1 8 h) ∧ ∀ w, w < 8 → ∃ ts, ty (z.2.2.1 w) = some ts
section SGZ
variable {B : Nat → Int} {N : Nat} {κ : KP} {l : List Int} {z : CZ}
theorem tk_1 {i : Nat} {w : Bool} (h : (tk B N i w).1 = 1) : 0 ≤ (tk B N i w).2.2.2.1 := by
  unfold tk at h ⊢
  by_cases q : N ≤ sk B N i
  · rw [if_pos q] at h; exact absurd (show (0 : Int) = 1 from h) (by decide)
  rw [if_neg q] at h ⊢
  by_cases q1 : isLt (B (sk B N i)) = true
  · rw [if_pos q1]
    show 0 ≤ ((wv B (sk B N i) (rn isLt B N 6 (sk B N i)) : Nat) : Int)
    omega
  rw [if_neg q1] at h ⊢
  by_cases q2 : isDt (B (sk B N i)) = true
  · rw [if_pos q2] at h
    have h' : (if ((w && decide (sk B N i = i)) || tl isDt B N (sk B N i + rn isDt B N 4 (sk B N i))) = true then (4 : Int) else 2) = 1 := h
    split at h' <;> omega
  · rw [if_neg q2] at h
    have h' : (if isSg (B (sk B N i)) = true then (3 : Int) else 4) = 1 := h
    split at h' <;> omega
theorem tk_0 {i : Nat} {w : Bool} (h : (tk B N i w).1 ≠ 0) : i ≤ N := by
  apply Decidable.byContradiction
  intro q
  apply h
  unfold tk
  rw [if_pos (by unfold sk; omega)]
theorem nm_0 {s : ST} (h : isNm B N s = true) : 0 ≤ vl B N s := by
  unfold isNm at h
  have h1 : kd B N s = 1 := by
    have := (Bool.and_eq_true _ _).mp h
    simpa using this.1
  match s, h1 with
  | .inl e, h1 => exact Int.le_refl 0
  | .inr x, h1 => exact tk_1 h1
theorem gz_M (hz : gz z) {nm pl go te : Int} (hv : 0 ≤ nm) : gz (zMoon z nm pl go te) := by
  refine ⟨fun m hm => ?_, fun m hm => ?_, hz.2.2⟩
  · have hm' : m < upn z.1 1 (z.1 1 + 1) 1 := hm
    rw [upn_s] at hm'
    show 0 ≤ ups (ups z.2.1 7 (z.1 1) nm) 1 (z.1 1) go 7 m
    rw [ups_n (by omega)]
    by_cases q2 : m = z.1 1
    · subst q2; rw [ups_s]; exact hv
    · rw [ups_n (by omega)]; exact hz.1 m (by omega)
  · have hm' : m < upn z.1 1 (z.1 1 + 1) 2 := hm
    rw [upn_n (by omega)] at hm'
    show 0 ≤ ups (ups z.2.1 7 (z.1 1) nm) 1 (z.1 1) go 8 m
    rw [ups_n (by omega), ups_n (by omega)]; exact hz.2.1 m hm'
theorem gz_H (hz : gz z) {nm pl pu de : Int} (hv : 0 ≤ nm) : gz (zHarb z nm pl pu de) := by
  refine ⟨fun m hm => ?_, fun m hm => ?_, hz.2.2⟩
  · have hm' : m < upn z.1 2 (z.1 2 + 1) 1 := hm
    rw [upn_n (by omega)] at hm'
    show 0 ≤ ups (ups (ups z.2.1 8 (z.1 2) nm) 2 (z.1 2) pl) 3 (z.1 2) de 7 m
    rw [ups_n (by omega), ups_n (by omega), ups_n (by omega)]; exact hz.1 m hm'
  · have hm' : m < upn z.1 2 (z.1 2 + 1) 2 := hm
    rw [upn_s] at hm'
    show 0 ≤ ups (ups (ups z.2.1 8 (z.1 2) nm) 2 (z.1 2) pl) 3 (z.1 2) de 8 m
    rw [ups_n (by omega), ups_n (by omega)]
    by_cases q2 : m = z.1 2
    · subst q2; rw [ups_s]; exact hv
    · rw [ups_n (by omega)]; exact hz.2.1 m (by omega)
theorem gz_O (hz : gz z) {de cr x : Int} : gz (zOwes z de cr x) := by
  refine ⟨fun m hm => ?_, fun m hm => ?_, hz.2.2⟩
  · have hm' : m < upn z.1 3 (z.1 3 + 1) 1 := hm
    rw [upn_n (by omega)] at hm'
    show 0 ≤ ups (ups (ups z.2.1 4 (z.1 3) de) 5 (z.1 3) cr) 6 (z.1 3) x 7 m
    rw [ups_n (by omega), ups_n (by omega), ups_n (by omega)]; exact hz.1 m hm'
  · have hm' : m < upn z.1 3 (z.1 3 + 1) 2 := hm
    rw [upn_n (by omega)] at hm'
    show 0 ≤ ups (ups (ups z.2.1 4 (z.1 3) de) 5 (z.1 3) cr) 6 (z.1 3) x 8 m
    rw [ups_n (by omega), ups_n (by omega), ups_n (by omega)]; exact hz.2.1 m hm'
theorem gMoon_g (hz : gz z) {x : KP × List Int × CZ} (h : gMoon B N κ l z = .inr x) : gz x.2.2 := by
  unfold gMoon at h
  by_cases q : z.1 1 < 3
  · rw [if_pos q] at h
    cases e7 : mS7 B N z (toS κ l) with
    | inl e' => rw [e7] at h; cases h
    | inr y =>
      rw [e7] at h
      have hx : (Sum.inr (y.1, y.2.2, zMoon z (vl B N (sA B N (toS κ l))) (vl B N (mS2 B N z (toS κ l))) (vl B N (mS4 B N z (toS κ l))) (vl B N (mS6 B N z (toS κ l)))) : S2) = .inr x := h
      injection hx with hx
      obtain ⟨x6, e6, k6, a6, b6, y6⟩ := sN_e (s := mS6 B N z (toS κ l)) e7
      obtain ⟨x5, e5, k5, y5⟩ := sWd_e (s := mS5 B N z (toS κ l)) e6
      obtain ⟨x4, e4, k4, a4, b4, y4⟩ := sN_e (s := mS4 B N z (toS κ l)) e5
      obtain ⟨x3, e3, k3, y3⟩ := sWd_e (s := mS3 B N z (toS κ l)) e4
      obtain ⟨x2, e2, k2, a2, b2, y2⟩ := sN_e (s := mS2 B N z (toS κ l)) e3
      obtain ⟨x1, e1', k1, y1⟩ := sWd_e (s := mS1 B N z (toS κ l)) e2
      obtain ⟨x0, e0', k0, kn0, y0⟩ := sNew_e (s := sA B N (toS κ l)) e1'
      have hv := nm_0 k0
      rw [← hx]
      exact gz_M hz hv
  · rw [if_neg q] at h; cases h
theorem gHarb_g (hz : gz z) {x : KP × List Int × CZ} (h : gHarb B N κ l z = .inr x) : gz x.2.2 := by
  unfold gHarb at h
  by_cases q : z.1 2 < 8
  · rw [if_pos q] at h
    cases e7 : hS7 B N z (toS κ l) with
    | inl e' => rw [e7] at h; cases h
    | inr y =>
      rw [e7] at h
      have hx : (Sum.inr (y.1, y.2.2, zHarb z (vl B N (sA B N (toS κ l))) (vl B N (mS2 B N z (toS κ l))) (vl B N (hS4 B N z (toS κ l))) (vl B N (hS6 B N z (toS κ l)))) : S2) = .inr x := h
      injection hx with hx
      obtain ⟨x6, e6, k6, a6, b6, y6⟩ := sN_e (s := hS6 B N z (toS κ l)) e7
      obtain ⟨x5, e5, k5, y5⟩ := sWd_e (s := hS5 B N z (toS κ l)) e6
      obtain ⟨x4, e4, k4, a4, b4, y4⟩ := sN_e (s := hS4 B N z (toS κ l)) e5
      obtain ⟨x3, e3, k3, y3⟩ := sWd_e (s := hS3 B N z (toS κ l)) e4
      obtain ⟨x2, e2, k2, a2, b2, fr2, y2⟩ := sFr_e (s := mS2 B N z (toS κ l)) e3
      obtain ⟨x1, e1', k1, y1⟩ := sWd_e (s := mS1 B N z (toS κ l)) e2
      obtain ⟨x0, e0', k0, kn0, y0⟩ := sNew_e (s := sA B N (toS κ l)) e1'
      have hv := nm_0 k0
      rw [← hx]
      exact gz_H hz hv
  · rw [if_neg q] at h; cases h
theorem gPays_g (hz : gz z) {x : KP × List Int × CZ} (h : gPays B N κ l z = .inr x) : gz x.2.2 := by
  unfold gPays at h
  cases e : sN B N 0 20 (sMn B N z (sHn B N z (-1) (sA B N (toS κ l)))) with
  | inl e' => rw [e] at h; cases h
  | inr y =>
    rw [e] at h
    have hx : (Sum.inr (y.1, y.2.2, _) : S2) = .inr x := h
    injection hx with hx
    rw [← hx]
    exact hz
theorem gOwes_g (hz : gz z) {x : KP × List Int × CZ} (h : gOwes B N κ l z = .inr x) : gz x.2.2 := by
  unfold gOwes at h
  by_cases q : z.1 3 < 16
  · rw [if_pos q] at h
    cases e : sN B N 1 999 (sHn B N z (hOf B N z (sA B N (toS κ l))) (sHn B N z (-1) (sA B N (toS κ l)))) with
    | inl e' => rw [e] at h; cases h
    | inr y =>
      rw [e] at h
      have hx : (Sum.inr (y.1, y.2.2, zOwes z (hOf B N z (sA B N (toS κ l))) (hOf B N z (sHn B N z (-1) (sA B N (toS κ l)))) (vl B N (sHn B N z (hOf B N z (sA B N (toS κ l))) (sHn B N z (-1) (sA B N (toS κ l)))))) : S2) = .inr x := h
      injection hx with hx
      rw [← hx]
      exact gz_O hz
  · rw [if_neg q] at h; cases h
theorem gNum_g (hB : BB B) (hN : N ≤ 1600) (hi : κ.1 ≤ N) (hz : gz z) {i : Nat} (hi0 : i ≠ 1 ∧ i ≠ 2) {lo hi' : Int} {x : KP × List Int × CZ} (h : gNum B N κ l z i lo hi' = .inr x) : gz x.2.2 := by
  obtain ⟨-, -, -, a4⟩ := gNum_p hB hN hi h
  rw [a4]
  refine ⟨fun m hm => ?_, fun m hm => ?_, hz.2.2⟩
  · rw [zNum_n (by omega)] at hm; exact hz.1 m hm
  · rw [zNum_n (by omega)] at hm; exact hz.2.1 m hm
theorem gForm_g (hB : BB B) (hN : N ≤ 1600) (hi : κ.1 ≤ N) (hl : l.length ≤ κ.1) (hz : gz z) {w : Int} {x : KP × List Int × CZ} (h : gForm B N κ l z w = .inr x) : gz x.2.2 := by
  obtain ⟨-, -, e, -, a2, -, t, ht⟩ := gForm_p hB hN hi hl h
  rw [a2]
  refine ⟨fun m hm => ?_, fun m hm => ?_, fun j hj => ?_⟩
  · refine hz.1 m ?_
    have hm' : m < (if decide (w = 10) = true then upn z.1 4 (z.1 4 + 1) else z.1) 1 := hm
    split at hm'
    · rw [upn_n (by omega)] at hm'; exact hm'
    · exact hm'
  · refine hz.2.1 m ?_
    have hm' : m < (if decide (w = 10) = true then upn z.1 4 (z.1 4 + 1) else z.1) 2 := hm
    split at hm'
    · rw [upn_n (by omega)] at hm'; exact hm'
    · exact hm'
  · show ∃ ts, ty (if j = whf z w then e else z.2.2.1 j) = some ts
    by_cases q : j = whf z w
    · rw [if_pos q]; exact ⟨_, ht⟩
    · rw [if_neg q]; exact hz.2.2 j hj
theorem gStm_g (hB : BB B) (hN : N ≤ 1600) (hi : κ.1 ≤ N) (hl : l.length ≤ κ.1) (hz : gz z) {first : Bool} {x : KP × List Int × CZ} (h : gStm B N κ l z first = .inr x) : gz x.2.2 := by
  unfold gStm at h
  by_cases q : first = decide (wdo B N κ = 0)
  · rw [if_pos q] at h
    by_cases w0 : wdo B N κ = 0
    · rw [if_pos w0] at h; exact gNum_g hB hN hi hz (by omega) h
    rw [if_neg w0] at h
    by_cases w1 : wdo B N κ = 1
    · rw [if_pos w1] at h; exact gMoon_g hz h
    rw [if_neg w1] at h
    by_cases w5 : wdo B N κ = 5
    · rw [if_pos w5] at h; exact gHarb_g hz h
    rw [if_neg w5] at h
    by_cases w8 : wdo B N κ = 8
    · rw [if_pos w8] at h; exact gPays_g hz h
    rw [if_neg w8] at h
    by_cases w9 : wdo B N κ = 9
    · rw [if_pos w9] at h; exact gOwes_g hz h
    rw [if_neg w9] at h
    by_cases w13 : wdo B N κ = 13
    · rw [if_pos w13] at h; exact gNum_g hB hN hi hz (by omega) h
    rw [if_neg w13] at h
    by_cases w14 : wdo B N κ = 14
    · rw [if_pos w14] at h; exact gNum_g hB hN hi hz (by omega) h
    rw [if_neg w14] at h
    by_cases wf : wdo B N κ = 10 ∨ wdo B N κ = 11 ∨ wdo B N κ = 12
    · rw [if_pos wf] at h; exact gForm_g hB hN hi hl hz h
    · rw [if_neg wf] at h; cases h
  · rw [if_neg q] at h; cases h
theorem isS_N {y : Int} {w : KP × List Int × CZ} (h : isS B N y (toS w.1 w.2.1) = true) : w.1.1 ≤ N := by
  refine tk_0 (B := B) (w := w.1.2) (fun q => ?_)
  have q' : (tok B N w.1).1 = 0 := q
  have h' : (decide ((tok B N w.1).1 = 3) && decide ((tok B N w.1).2.2.2.1 = y)) = true := h
  simp [q'] at h'
theorem gLp_g (hB : BB B) (hN : N ≤ 1600) : ∀ (k n : Nat) (x : KP × List Int × CZ), x.1.1 ≤ N → x.2.1.length ≤ x.1.1 → (n ≠ 0 → 0 < x.2.2.1 0) → gz x.2.2 → ∀ r, gLp B N k n (.inr x) = .inr r → gz r.2.2
  | 0, n, x, _, _, _, hz, r, h => by
    have h' : (Sum.inr (n, x.2) : S3) = .inr r := h
    injection h' with h'
    rw [← h']; exact hz
  | k + 1, n, x, hi, hl, h0, hz, r, h => by
    rw [gLp] at h
    by_cases q : (tok B N x.1).1 = 0
    · rw [if_pos q] at h
      injection h with h'
      rw [← h']; exact hz
    rw [if_neg q] at h
    by_cases q2 : n = 80
    · rw [if_pos q2] at h; cases h
    rw [if_neg q2] at h
    cases e : s2S B N 59 (gStm B N x.1 x.2.1 x.2.2 (decide (n = 0))) with
    | inl e' =>
      rw [e] at h
      have h' : (Sum.inl e' : S3) = .inr r := by cases k <;> exact h
      cases h'
    | inr y =>
      rw [e] at h
      obtain ⟨w, e1, e2, e3⟩ := s2S_e e
      have hp := gStm_p hB hN hi hl (fun hf => h0 (by simpa using hf)) e1
      have hw := isS_N e2
      have ha := adv_m hB hN hw
      subst e3
      have hw2 : gz w.2.2 := gStm_g hB hN hi hl hz e1
      exact gLp_g hB hN k (n + 1) (adv B N w.1, w.2) ha.2 (Nat.le_trans hp.1 ha.1) (fun _ => hp.2) hw2 r h
theorem gRead_g (hB : BB B) (hN : N ≤ 1600) {r : Nat × List Int × CZ} (h : gRead B N = .inr r) : gz r.2.2 := by
  unfold gRead at h
  by_cases q : (tok B N (0, false)).1 = 0
  · rw [if_pos q] at h; cases h
  · rw [if_neg q] at h
    exact gLp_g hB hN 81 0 _ (Nat.zero_le _) (Nat.le_refl _) (fun w => absurd rfl w) ⟨fun m hm => absurd hm (Nat.not_lt_zero m), fun m hm => absurd hm (Nat.not_lt_zero m), fun _ _ => ⟨[], rfl⟩⟩ r h
end SGZ
