/-! A text is read by the class, whole. -/
section SPR
variable {B : Nat → Int} {N : Nat} {κ : KP} {l : List Int} {z : CZ}
theorem zNum_n {i j x : Nat} (h : j ≠ i) : (zNum z i x).1 j = z.1 j := upn_n h
theorem zNum_s {i x : Nat} : (zNum z i x).1 i = x := upn_s
theorem gNum_p (hB : BB B) (hN : N ≤ 1600) (hi : κ.1 ≤ N) {i : Nat} {lo hi' : Int} {x : KP × List Int × CZ} (h : gNum B N κ l z i lo hi' = .inr x) : κ.1 ≤ x.1.1 ∧ x.2.1 = l ∧ lo ≤ vl B N (sA B N (toS κ l)) ∧ x.2.2 = zNum z i (vl B N (sA B N (toS κ l))).toNat := by
  unfold gNum at h
  cases e : sN B N lo hi' (sA B N (toS κ l)) with
  | inl e' => rw [e] at h; cases h
  | inr y =>
    rw [e] at h
    have : (Sum.inr (y.1, y.2.2, zNum z i (vl B N (sA B N (toS κ l))).toNat) : S2) = .inr x := h
    injection this with this
    obtain ⟨x0, h1, h2, h3, h4, h5⟩ := sN_e e
    have x00 : x0 = (adv B N κ, 0, l) := sA_e h1
    have m0 := adv_m hB hN hi
    have m1 := adv_m hB hN m0.2
    rw [← this, h5, x00]
    exact ⟨by show κ.1 ≤ (adv B N (adv B N κ)).1; omega, rfl, h3, rfl⟩
theorem gMoon_p (hB : BB B) (hN : N ≤ 1600) (hi : κ.1 ≤ N) {x : KP × List Int × CZ} (h : gMoon B N κ l z = .inr x) : κ.1 ≤ x.1.1 ∧ x.2.1 = l ∧ x.2.2.1 0 = z.1 0 := by
  unfold gMoon at h
  by_cases q : z.1 1 < 3
  · rw [if_pos q] at h
    cases e7 : mS7 B N z (toS κ l) with
    | inl e' => rw [e7] at h; cases h
    | inr y =>
      rw [e7] at h
      have hx : (Sum.inr (y.1, y.2.2, zMoon z (vl B N (sA B N (toS κ l))) (vl B N (mS2 B N z (toS κ l))) (vl B N (mS4 B N z (toS κ l))) (vl B N (mS6 B N z (toS κ l)))) : S2) = .inr x := h
      injection hx with hx
      obtain ⟨x6, e6, k6, a6, b6, y6⟩ := sN_e (s := mS6 B N z (toS κ l)) e7
      obtain ⟨x5, e5, k5, y5⟩ := sWd_e (s := mS5 B N z (toS κ l)) e6
      obtain ⟨x4, e4, k4, a4, b4, y4⟩ := sN_e (s := mS4 B N z (toS κ l)) e5
      obtain ⟨x3, e3, k3, y3⟩ := sWd_e (s := mS3 B N z (toS κ l)) e4
      obtain ⟨x2, e2, k2, a2, b2, y2⟩ := sN_e (s := mS2 B N z (toS κ l)) e3
      obtain ⟨x1, e1', k1, y1⟩ := sWd_e (s := mS1 B N z (toS κ l)) e2
      obtain ⟨x0, e0', k0, kn0, y0⟩ := sNew_e (s := sA B N (toS κ l)) e1'
      have x00 : x0 = (adv B N κ, 0, l) := sA_e e0'
      have m0 := adv_m hB hN hi
      have m1 := adv_m hB hN m0.2
      have m2 := adv_m hB hN m1.2
      have m3 := adv_m hB hN m2.2
      have m4 := adv_m hB hN m3.2
      have m5 := adv_m hB hN m4.2
      have m6 := adv_m hB hN m5.2
      have m7 := adv_m hB hN m6.2
      rw [← hx, y6, y5, y4, y3, y2, y1, y0, x00]
      exact ⟨by show κ.1 ≤ (adv B N (adv B N (adv B N (adv B N (adv B N (adv B N (adv B N (adv B N κ)))))))).1; omega, rfl, by show upn z.1 1 (z.1 1 + 1) 0 = _; rw [upn_n (by omega)]⟩
  · rw [if_neg q] at h; cases h
theorem gHarb_p (hB : BB B) (hN : N ≤ 1600) (hi : κ.1 ≤ N) {x : KP × List Int × CZ} (h : gHarb B N κ l z = .inr x) : κ.1 ≤ x.1.1 ∧ x.2.1 = l ∧ x.2.2.1 0 = z.1 0 := by
  unfold gHarb at h
  by_cases q : z.1 2 < 8
  · rw [if_pos q] at h
    cases e7 : hS7 B N z (toS κ l) with
    | inl e' => rw [e7] at h; cases h
    | inr y =>
      rw [e7] at h
      have hx : (Sum.inr (y.1, y.2.2, zHarb z (vl B N (sA B N (toS κ l))) (vl B N (mS2 B N z (toS κ l))) (vl B N (hS4 B N z (toS κ l))) (vl B N (hS6 B N z (toS κ l)))) : S2) = .inr x := h
      injection hx with hx
      obtain ⟨x6, e6, k6, a6, b6, y6⟩ := sN_e (s := hS6 B N z (toS κ l)) e7
      obtain ⟨x5, e5, k5, y5⟩ := sWd_e (s := hS5 B N z (toS κ l)) e6
      obtain ⟨x4, e4, k4, a4, b4, y4⟩ := sN_e (s := hS4 B N z (toS κ l)) e5
      obtain ⟨x3, e3, k3, y3⟩ := sWd_e (s := hS3 B N z (toS κ l)) e4
      obtain ⟨x2, e2, k2, a2, b2, fr2, y2⟩ := sFr_e (s := mS2 B N z (toS κ l)) e3
      obtain ⟨x1, e1', k1, y1⟩ := sWd_e (s := mS1 B N z (toS κ l)) e2
      obtain ⟨x0, e0', k0, kn0, y0⟩ := sNew_e (s := sA B N (toS κ l)) e1'
      have x00 : x0 = (adv B N κ, 0, l) := sA_e e0'
      have m0 := adv_m hB hN hi
      have m1 := adv_m hB hN m0.2
      have m2 := adv_m hB hN m1.2
      have m3 := adv_m hB hN m2.2
      have m4 := adv_m hB hN m3.2
      have m5 := adv_m hB hN m4.2
      have m6 := adv_m hB hN m5.2
      have m7 := adv_m hB hN m6.2
      rw [← hx, y6, y5, y4, y3, y2, y1, y0, x00]
      exact ⟨by show κ.1 ≤ (adv B N (adv B N (adv B N (adv B N (adv B N (adv B N (adv B N (adv B N κ)))))))).1; omega, rfl, by show upn z.1 2 (z.1 2 + 1) 0 = _; rw [upn_n (by omega)]⟩
  · rw [if_neg q] at h; cases h
theorem gPays_p (hB : BB B) (hN : N ≤ 1600) (hi : κ.1 ≤ N) {x : KP × List Int × CZ} (h : gPays B N κ l z = .inr x) : κ.1 ≤ x.1.1 ∧ x.2.1 = l ∧ x.2.2.1 0 = z.1 0 := by
  unfold gPays at h
  cases e : sN B N 0 20 (sMn B N z (sHn B N z (-1) (sA B N (toS κ l)))) with
  | inl e' => rw [e] at h; cases h
  | inr y =>
    rw [e] at h
    have hx : (Sum.inr (y.1, y.2.2, _) : S2) = .inr x := h
    injection hx with hx
    obtain ⟨x3, e3, k3, a3, b3, y3'⟩ := sN_e e
    obtain ⟨x2, e2, k2, g2, y2'⟩ := sKn_e (s := sHn B N z (-1) (sA B N (toS κ l))) e3
    obtain ⟨x1, e1, k1, g1, y1'⟩ := sKn_e (s := sA B N (toS κ l)) e2
    have x10 : x1 = (adv B N κ, 0, l) := sA_e e1
    have m0 := adv_m hB hN hi
    have m1 := adv_m hB hN m0.2
    have m2 := adv_m hB hN m1.2
    have m3 := adv_m hB hN m2.2
    rw [← hx, y3', y2', y1', x10]
    exact ⟨by show κ.1 ≤ (adv B N (adv B N (adv B N (adv B N κ)))).1; omega, rfl, rfl⟩
theorem gOwes_p (hB : BB B) (hN : N ≤ 1600) (hi : κ.1 ≤ N) {x : KP × List Int × CZ} (h : gOwes B N κ l z = .inr x) : κ.1 ≤ x.1.1 ∧ x.2.1 = l ∧ x.2.2.1 0 = z.1 0 := by
  unfold gOwes at h
  by_cases q : z.1 3 < 16
  · rw [if_pos q] at h
    cases e : sN B N 1 999 (sHn B N z (hOf B N z (sA B N (toS κ l))) (sHn B N z (-1) (sA B N (toS κ l)))) with
    | inl e' => rw [e] at h; cases h
    | inr y =>
      rw [e] at h
      have hx : (Sum.inr (y.1, y.2.2, zOwes z (hOf B N z (sA B N (toS κ l))) (hOf B N z (sHn B N z (-1) (sA B N (toS κ l)))) (vl B N (sHn B N z (hOf B N z (sA B N (toS κ l))) (sHn B N z (-1) (sA B N (toS κ l)))))) : S2) = .inr x := h
      injection hx with hx
      obtain ⟨x3, e3, k3, a3, b3, y3'⟩ := sN_e e
      obtain ⟨x2, e2, k2, g2, y2'⟩ := sKn_e (s := sHn B N z (-1) (sA B N (toS κ l))) e3
      obtain ⟨x1, e1, k1, g1, y1'⟩ := sKn_e (s := sA B N (toS κ l)) e2
      have x10 : x1 = (adv B N κ, 0, l) := sA_e e1
      have m0 := adv_m hB hN hi
      have m1 := adv_m hB hN m0.2
      have m2 := adv_m hB hN m1.2
      have m3 := adv_m hB hN m2.2
      rw [← hx, y3', y2', y1', x10]
      exact ⟨by show κ.1 ≤ (adv B N (adv B N (adv B N (adv B N κ)))).1; omega, rfl, by show upn z.1 3 (z.1 3 + 1) 0 = _; rw [upn_n (by omega)]⟩
  · rw [if_neg q] at h; cases h
theorem gForm_p (hB : BB B) (hN : N ≤ 1600) (hi : κ.1 ≤ N) (hl : l.length ≤ κ.1) {w : Int} {x : KP × List Int × CZ} (h : gForm B N κ l z w = .inr x) : x.2.1.length ≤ x.1.1 ∧ x.2.2.1 0 = z.1 0 ∧ ∃ e, x.2.1 = l ++ e ∧ x.2.2 = zForm z (whf z w) e (decide (w = 10)) ∧ 0 < e.length ∧ ∃ t, ty e = some [t] := by
  unfold gForm at h
  by_cases q : rmf z w = true
  · rw [if_pos q] at h
    cases e : gFm B N w (sA B N (toS κ l)) with
    | inl e' => rw [e] at h; cases h
    | inr y =>
      rw [e] at h
      have hx : (Sum.inr (y.1, y.2.2, zForm z (whf z w) (y.2.2.drop l.length) (decide (w = 10))) : S2) = .inr x := h
      injection hx with hx
      have m0 := adv_m hB hN hi
      obtain ⟨i1, ee, j1, k1, l1', t1⟩ := GD_Fm hB hN (w := w) (adv B N κ) 0 l y (by omega) m0.2 (by omega) e
      have hd : y.2.2.drop l.length = ee := by rw [j1]; simp
      rw [← hx, hd]
      refine ⟨by show y.2.2.length ≤ y.1.1; rw [j1]; simp; omega, ?_, ee, j1, rfl, k1, _, t1 [] (by simp)⟩
      show (if decide (w = 10) = true then upn z.1 4 (z.1 4 + 1) else z.1) 0 = _
      split
      · rw [upn_n (by omega)]
      · rfl
  · rw [if_neg q] at h; cases h
/-- where a statement ends -/
theorem gStm_p (hB : BB B) (hN : N ≤ 1600) (hi : κ.1 ≤ N) (hl : l.length ≤ κ.1) {first : Bool} (hf0 : first = false → 0 < z.1 0) {x : KP × List Int × CZ} (h : gStm B N κ l z first = .inr x) : x.2.1.length ≤ x.1.1 ∧ 0 < x.2.2.1 0 := by
  unfold gStm at h
  by_cases q : first = decide (wdo B N κ = 0)
  · rw [if_pos q] at h
    by_cases w0 : wdo B N κ = 0
    · rw [if_pos w0] at h
      obtain ⟨a1, a2, a3, a4⟩ := gNum_p hB hN hi h
      refine ⟨by rw [a2]; omega, ?_⟩
      rw [a4, zNum_s]; omega
    · have hp := hf0 (by rw [q]; simp [w0])
      have same : κ.1 ≤ x.1.1 ∧ x.2.1 = l ∧ x.2.2.1 0 = z.1 0 → x.2.1.length ≤ x.1.1 ∧ 0 < x.2.2.1 0 := fun ⟨a1, a2, a3⟩ => ⟨by rw [a2]; omega, by rw [a3]; exact hp⟩
      rw [if_neg w0] at h
      by_cases w1 : wdo B N κ = 1
      · rw [if_pos w1] at h; exact same (gMoon_p hB hN hi h)
      rw [if_neg w1] at h
      by_cases w5 : wdo B N κ = 5
      · rw [if_pos w5] at h; exact same (gHarb_p hB hN hi h)
      rw [if_neg w5] at h
      by_cases w8 : wdo B N κ = 8
      · rw [if_pos w8] at h; exact same (gPays_p hB hN hi h)
      rw [if_neg w8] at h
      by_cases w9 : wdo B N κ = 9
      · rw [if_pos w9] at h; exact same (gOwes_p hB hN hi h)
      rw [if_neg w9] at h
      by_cases w13 : wdo B N κ = 13
      · rw [if_pos w13] at h
        obtain ⟨a1, a2, a3, a4⟩ := gNum_p hB hN hi h
        exact same ⟨a1, a2, by rw [a4, zNum_n (by omega)]⟩
      rw [if_neg w13] at h
      by_cases w14 : wdo B N κ = 14
      · rw [if_pos w14] at h
        obtain ⟨a1, a2, a3, a4⟩ := gNum_p hB hN hi h
        exact same ⟨a1, a2, by rw [a4, zNum_n (by omega)]⟩
      rw [if_neg w14] at h
      by_cases wf : wdo B N κ = 10 ∨ wdo B N κ = 11 ∨ wdo B N κ = 12
      · rw [if_pos wf] at h
        obtain ⟨a1, a2, -⟩ := gForm_p hB hN hi hl h
        exact ⟨a1, by rw [a2]; exact hp⟩
      · rw [if_neg wf] at h; cases h
  · rw [if_neg q] at h; cases h
theorem s2S_e {s : S2} {y : Int} {x : KP × List Int × CZ} (h : s2S B N y s = .inr x) : ∃ w, s = .inr w ∧ isS B N y (toS w.1 w.2.1) = true ∧ x = (adv B N w.1, w.2) := by
  match s, h with
  | .inr w, h =>
    have h' : sb (sSg B N y (toS w.1 w.2.1)) (fun u => .inr (u.1, u.2.2, w.2.2)) = .inr x := h
    cases e : sSg B N y (toS w.1 w.2.1) with
    | inl e' => rw [e] at h'; cases h'
    | inr u =>
      rw [e] at h'
      have hx : (Sum.inr (u.1, u.2.2, w.2.2) : S2) = .inr x := h'
      injection hx with hx
      obtain ⟨x0, e0, q0, y0⟩ := sSg_e e
      have : x0 = (w.1, 0, w.2.1) := by
        have : (Sum.inr (w.1, 0, w.2.1) : ST) = .inr x0 := e0
        injection this with this
        exact this.symm
      exact ⟨w, rfl, q0, by rw [← hx, y0, this]⟩
end SPR
section CR2
variable {d c N : Nat} {X : Nat × (Nat → Int)} {v : Nat → Int} {M M' : PH} {K : PV → PS → Prop} {B : Nat → Int} {z : CZ} {κ : KP} {l : List Int}
theorem wZ_0 : wZ z0 := by
  refine ⟨by decide, fun m hm => absurd hm (Nat.not_lt_zero m), fun m hm => absurd hm (Nat.not_lt_zero m), fun m hm => absurd hm (Nat.not_lt_zero m), ?_, fun m hm => absurd hm (Nat.not_lt_zero m), fun m hm => absurd hm (Nat.not_lt_zero m), fun _ _ => rfl⟩
  exact ⟨⟨Int.le_refl 0, by show (0 : Int) ≤ 9999; decide⟩, fun m hm => absurd hm (Nat.not_lt_zero m), fun m _ => ⟨Int.le_refl 0, by show (0 : Int) ≤ 9; decide⟩, fun m _ => ⟨Int.le_refl 0, by show (0 : Int) ≤ 9999; decide⟩, fun m _ => ⟨Int.le_refl 0, by show (0 : Int) ≤ 20; decide, Int.le_refl 0, by show (0 : Int) ≤ 9999; decide⟩, fun _ _ => ⟨rfl, rfl⟩, fun _ _ => rfl, fun _ _ _ _ => ⟨rfl, rfl⟩⟩
theorem c13 (hc : isCh c) (hK : ∀ M' : PH, (∀ q, (q < c ∨ c + 19 < q) → M' q = M q) → CH M' c [] z0 → M' (c + 15) 6 = 0 → K PU (GF X, M', PTF v)) : pm_Call (d + 3) 13 [vA c] (GF X, M, PTF v) K := by
  have hmo := ch_mo hc
  rw [en13, r13_0 hc, r13_5 hc, r13_10 hc, r13_15 hc, r13_20 hc, r13_25 hc, r13_31 hc, r13_37 hc, r13_42 hc, c57 hmo, push_u, r13_49 hc, c40 hc, push_u, r13_56]
  simp only [sa_s, sa_sa]
  obtain ⟨g, hg⟩ : ∃ g, g = pm_up (pm_up (pm_up (pm_up (pm_up (pm_up (pm_up (pm_up (M c) 0 0) 1 0) 2 0) 3 0) 4 0) 5 20) 6 50) 7 0 := ⟨_, rfl⟩
  rw [← hg]
  obtain ⟨M1, hM1⟩ : ∃ M1, M1 = mcl (pm_sa M c g) (c + 9) := ⟨_, rfl⟩
  rw [← hM1]
  have m1 : ∀ q, (q < c + 9 ∨ c + 14 < q) → q ≠ c → M1 q = M q := fun q h1 h2 => by rw [hM1, mcl_n (by omega), sa_n h2]
  have mc : M1 c = g := by rw [hM1, mcl_n (by omega), sa_s]
  have mm : mo M1 (c + 9) = fun _ _ => 0 := by rw [hM1]; exact mcl_s
  obtain ⟨Mf, hMf⟩ : ∃ Mf, Mf = pm_sa (pm_sa (pm_sa (pm_sa M1 (c + 15) (pm_up (M1 (c + 15)) 6 0)) (c + 17) (fl (M1 (c + 17)) 8 0)) (c + 18) (fl (M1 (c + 18)) 8 0)) (c + 19) (fl (M1 (c + 19)) 8 0) := ⟨_, rfl⟩
  rw [← hMf]
  have f0 : ∀ q, q ≠ c + 15 → q ≠ c + 17 → q ≠ c + 18 → q ≠ c + 19 → Mf q = M1 q := fun q h1 h2 h3 h4 => by rw [hMf, sa_n h4, sa_n h3, sa_n h2, sa_n h1]
  refine hK Mf (fun q hq => by rw [f0 q (by omega) (by omega) (by omega) (by omega)]; exact m1 q (by omega) (by omega)) ⟨fun i hi => ?_, fun m hm => absurd hm (Nat.not_lt_zero m), fun m hm => absurd hm (Nat.not_lt_zero m), fun m hm => absurd hm (Nat.not_lt_zero m), ?_, fun w hw => ⟨[], [], rfl, ?_, ?_⟩, fun w hw => ⟨0, by omega, ?_, fun u _ => by simp [z0]⟩⟩ ?_
  · rw [f0 c (by omega) (by omega) (by omega) (by omega), mc, hg]
    have h : i = 0 ∨ i = 1 ∨ i = 2 ∨ i = 3 ∨ i = 4 ∨ i = 5 ∨ i = 6 := by omega
    rcases h with rfl | rfl | rfl | rfl | rfl | rfl | rfl <;> rfl
  · rw [mo_fr (M := M1) (fun i hi => f0 _ (by omega) (by omega) (by omega) (by omega)), mm]; rfl
  · rw [hMf, sa_n (by omega), sa_n (by omega), sa_s, fl, if_pos hw]; rfl
  · rw [hMf, sa_n (by omega), sa_s, fl, if_pos hw]; rfl
  · rw [hMf, sa_s, fl, if_pos hw]; rfl
  · rw [hMf, sa_n (by omega), sa_n (by omega), sa_n (by omega), sa_s, up_s]
set_option maxHeartbeats 1000000 in
theorem c67 (hc : isCh c) (hv1 : v 1 = (c : Int)) (hB : TP M B) (hKY : KY M) (hN : N ≤ 1600) (hK0 : ∀ e M', gRead B N = .inl e → frZ c M M' → M' 31 3 = e.1 → M' 31 4 = e.2 → e.1 ≠ 0 → K (vI 0) (GF X, M', PTF (pm_up v 5 ((1 : Nat) : Int)))) (hK1 : ∀ n l z M', gRead B N = .inr (n, l, z) → frZ c M M' → M' 31 3 = 0 → M' 31 4 = -1 → CH M' c l z → cdL M' c l → wZ z → M' c 7 = (n : Int) → K (vI 1) (GF X, M', PTF (pm_up v 5 ((1 : Nat) : Int)))) : pm_Call (d + 43) 67 [vA 31, vA 1, vI (N : Int)] (GF X, M, PTF v) K := by
  have hcc : c = 9 ∨ c = 35 := hc
  obtain ⟨u, hu⟩ : ∃ u, u = pm_up v 5 ((1 : Nat) : Int) := ⟨_, rfl⟩
  have hu1 : u 1 = (c : Int) := by rw [hu, up_n (by omega)]; exact hv1
  have hu5 : u 5 = ((1 : Nat) : Int) := by rw [hu, up_s]
  rw [← hu] at hK0 hK1
  have hBB := TP_BB hB
  rw [en67, r67_0 (nr := 1600) hc hv1]
  refine c13 hc (fun M1 f1 h1 h16 => ?_)
  rw [push_u, r67_7 (nr := 1600), r67_12 (nr := 1600), r67_17 (nr := 1600), r67_22 (nr := 1600), c50 (by omega), push_u, ← show pm_up v 5 ((1 : Nat) : Int) = pm_up v 5 1 from rfl, ← hu, r67_31 (nr := 1600)]
  simp only [sa_s, sa_sa]
  obtain ⟨M2, hM2⟩ : ∃ M2, M2 = pm_sa M1 31 (pm_up (pm_up (pm_up (M1 31) 3 0) 4 (-1)) 2 0) := ⟨_, rfl⟩
  rw [← hM2]
  have g2 : ∀ q, q ≠ 31 → M2 q = M1 q := fun q h => by rw [hM2, sa_n h]
  have t2 : TP M2 B := TP_f hB (by rw [g2 1 (by omega), f1 1 (by omega)])
  have k2 : KY M2 := fun w hw => by rw [g2 33 (by omega), f1 33 (by omega)]; exact hKY w hw
  have z3 : frZ c M M2 := fun q z1 z2 z3 => by rw [g2 q z1, f1 q z3]
  -- the loop
  have main : ∀ (k n : Nat), n + k = 81 → ∀ (M' : PH) (s : S2), frZ c M M' → PEn u M' c B N → PS2 M' c B N s → (∀ x, s = .inr x → x.2.1.length ≤ x.1.1 ∧ (n = 0 → x.2.2.1 1 = 0 ∧ x.2.2.1 2 = 0) ∧ (n ≠ 0 → 0 < x.2.2.1 0 ∧ M' c 7 = (n : Int)) ∧ (n = 0 → (tok B N x.1).1 ≠ 0)) → gRead B N = gLp B N k n s → pm_Run (d + 42) 67 54 [vA 31, vA 1, vI (N : Int), vI (n : Int)] [] (GF X, M', PTF u) K := by
    intro k
    induction k with
    | zero =>
      intro n hn M' s f' e' p' i' hg
      -- it never comes here without a fault: one more was told before
      have fin : ∀ e, s = .inl e → pm_Run (d + 42) 67 54 [vA 31, vA 1, vI (N : Int), vI (n : Int)] [] (GF X, M', PTF u) K := by
        intro e he
        subst he
        have p3 : M' 31 3 = e.1 := p'.1
        rw [r67_54 (nr := 1600) (by omega), if_pos (by omega), r67_134 (nr := 1600) (by rw [p3]; exact p'.2.2.1), p3, if_pos p'.2.1, r67_145 (nr := 1600), r67_146 (nr := 1600) (by simp)]
        exact hK0 e M' hg f' p3 p'.2.2.2.1 p'.2.1
      match s, p', i', hg, fin with
      | .inl e, p', i', hg, fin => exact fin e rfl
      | .inr x, p', i', hg, fin =>
        obtain ⟨a1, a2, a3, -⟩ := i' x rfl
        have p3 : M' 31 3 = 0 := p'.1.1
        rw [r67_54 (nr := 1600) (by omega), if_pos (by omega), r67_134 (nr := 1600) (by rw [p3]; omega), p3, if_neg (by simp), r67_141 (nr := 1600), r67_146 (nr := 1600) (by simp)]
        exact hK1 n x.2.1 x.2.2 M' hg f' p3 p'.1.2.1 p'.2.1 p'.1.2.2.2.2.2.2 p'.2.2 (a3 (by omega)).2
    | succ k ih =>
      intro n hn M' s f' e' p' i' hg
      match s, p', i', hg with
      | .inl e, p', i', hg =>
        have p3 : M' 31 3 = e.1 := p'.1
        have hgr : gRead B N = .inl e := hg
        rw [r67_54 (nr := 1600) (by omega), if_neg (by omega), r67_60 (nr := 1600) (by rw [p3]; exact p'.2.2.1), p3, if_pos p'.2.1, r67_134 (nr := 1600) (by rw [p3]; exact p'.2.2.1), p3, if_pos p'.2.1, r67_145 (nr := 1600), r67_146 (nr := 1600) (by simp)]
        exact hK0 e M' hgr f' p3 p'.2.2.2.1 p'.2.1
      | .inr x, p', i', hg =>
        obtain ⟨a1, a2, a3, a4⟩ := i' x rfl
        obtain ⟨pp, pc, pw⟩ := p'
        have p3 : M' 31 3 = 0 := pp.1
        have p32 : M' 32 4 = (tok B N x.1).1 := pp.2.2.1.2.2.1
        have hix : x.1.1 ≤ N := pp.2.2.2.1
        have tb := tkB hBB hN hix
        rw [r67_54 (nr := 1600) (by omega), if_neg (by omega), r67_60 (nr := 1600) (by rw [p3]; omega), p3, if_neg (by simp), r67_67 (nr := 1600) (by rw [p32]; omega), p32]
        rw [gLp] at hg
        by_cases q0 : (tok B N x.1).1 = 0
        · rw [if_pos q0] at hg
          have hn0 : n ≠ 0 := fun h => a4 h q0
          rw [if_pos q0, r67_134 (nr := 1600) (by rw [p3]; omega), p3, if_neg (by simp), r67_141 (nr := 1600), r67_146 (nr := 1600) (by simp)]
          exact hK1 n x.2.1 x.2.2 M' hg f' p3 pp.2.1 pc pp.2.2.2.2.2.2 pw (a3 hn0).2
        rw [if_neg q0] at hg
        rw [if_neg q0, r67_77 (nr := 1600) (by omega)]
        by_cases q80 : n = 80
        · rw [if_pos q80] at hg
          rw [if_neg (by omega), r67_83 (nr := 1600)]
          refine c69s e' pp (by decide) (by omega) (fun M3 f3 p3' => ?_)
          rw [push_u, r67_96 (nr := 1600), r67_128 (nr := 1600)]
          refine ih (n + 1) (by omega) M3 (.inl (6, ((tok B N x.1).2.1 : Int))) (frZ_t f' (frZ_Q f3)) (PEn_f e' f3) p3' (fun y hy => by cases hy) ?_
          rw [hg]
          cases k <;> rfl
        · rw [if_neg q80] at hg
          rw [if_pos (by omega), r67_99 (nr := 1600) (by omega)]
          have st : pm_Run (d + 42) 67 109 [vA 31, vA 1, vI (N : Int), vI (n : Int)] [vI (if decide (n = 0) = true then 1 else 0), vA 31] (GF X, M', PTF u) K := by
            rw [r67_109 (nr := 1600)]
            refine c82 e' pp pc pw a1 (first := decide (n = 0)) (fun h => a2 (by simpa using h)) (fun h => (a3 (by simpa using h)).1) (fun M3 f3 p3' => ?_)
            have e3 := PEn_z e' f3
            rw [push_u, r67_112 (nr := 1600)]
            cases eg : gStm B N x.1 x.2.1 x.2.2 (decide (n = 0)) with
            | inl e =>
              rw [eg] at p3' hg
              have p3'' : PSt M3 c B N (.inl e) := p3'
              refine c74 e3 p3'' (by omega) (fun M4 f4 p4 => ?_)
              rw [push_u, r67_118 (nr := 1600) hc hu1, r67_128 (nr := 1600)]
              have p4' : PSt M4 c B N (.inl e) := by rw [kf_S] at p4; exact p4
              have e4 := PEn_f e3 f4
              obtain ⟨e5, s5⟩ := PS_sa (q := c) (f := pm_up (M4 c) 7 ((n : Int) + 1)) e4 (by omega)
              exact ih (n + 1) (by omega) _ (.inl e) (frZ_t f' (frZ_t f3 (frZ_t (frZ_Q f4) (fun q z1 z2 z3 => sa_n (by omega))))) e5 (s5 _ p4') (fun y hy => by cases hy) (by rw [hg]; cases k <;> rfl)
            | inr w =>
              rw [eg] at p3' hg
              obtain ⟨q1, q2, q3⟩ := p3'
              have hp := gStm_p hBB hN hix a1 (first := decide (n = 0)) (fun h => (a3 (by simpa using h)).1) eg
              refine c74 e3 q1 (by omega) (fun M4 f4 p4 => ?_)
              rw [push_u, r67_118 (nr := 1600) hc hu1, r67_128 (nr := 1600)]
              have e4 := PEn_f e3 f4
              obtain ⟨e5, s5⟩ := PS_sa (q := c) (f := pm_up (M4 c) 7 ((n : Int) + 1)) e4 (by omega)
              have fr5 : frZ c M (pm_sa M4 c (pm_up (M4 c) 7 ((n : Int) + 1))) := frZ_t f' (frZ_t f3 (frZ_t (frZ_Q f4) (fun q z1 z2 z3 => sa_n (by omega))))
              cases es : sSg B N 59 (toS w.1 w.2.1) with
              | inl e =>
                rw [es] at p4
                have hs2 : s2S B N 59 (.inr w) = .inl e := by show sb (sSg B N 59 (toS w.1 w.2.1)) _ = _; rw [es]; rfl
                rw [hs2] at hg
                exact ih (n + 1) (by omega) _ (.inl e) fr5 e5 (s5 _ p4) (fun y hy => by cases hy) hg
              | inr y =>
                rw [es] at p4
                obtain ⟨x0, e0, qs, y0⟩ := sSg_e es
                have ex0 : x0 = (w.1, 0, w.2.1) := by
                  have : (Sum.inr (w.1, 0, w.2.1) : ST) = .inr x0 := e0
                  injection this with this
                  exact this.symm
                have hs2 : s2S B N 59 (.inr w) = .inr (y.1, y.2.2, w.2.2) := by show sb (sSg B N 59 (toS w.1 w.2.1)) _ = _; rw [es]; rfl
                rw [hs2] at hg
                have hy2 : y = (adv B N w.1, 0, w.2.1) := by rw [y0, ex0]
                have hyt : toS y.1 y.2.2 = .inr y := by rw [hy2]; rfl
                have hwN : w.1.1 ≤ N := q1.2.2.2.1
                have ma := adv_m hBB hN hwN
                refine ih (n + 1) (by omega) _ (.inr (y.1, y.2.2, w.2.2)) fr5 e5 ⟨by show PSt _ c B N (toS y.1 y.2.2); rw [hyt]; exact s5 _ p4, ?_, q3⟩ (fun x' hx' => ?_) hg
                · show CH _ c y.2.2 w.2.2
                  have fq : ∀ q, q ≠ 31 → q ≠ 32 → q ≠ c + 15 → q ≠ c + 16 → q ≠ c → (pm_sa M4 c (pm_up (M4 c) 7 ((n : Int) + 1))) q = M3 q := fun q z1 z2 z3 z4 z5 => by rw [sa_n z5]; exact f4 q z1 z2 z3 z4
                  refine CH_f q2 ⟨[], by rw [hy2]; simp⟩ rfl (fq _ (by omega) (by omega) (by omega) (by omega) (by omega)) (fq _ (by omega) (by omega) (by omega) (by omega) (by omega)) (fq _ (by omega) (by omega) (by omega) (by omega) (by omega)) (fun i hi => ?_) (fun m hm => ?_) (fun h hh => ?_) (fun j hj => ?_) ?_
                  · rw [sa_s, up_n (by omega), f4 c (by omega) (by omega) (by omega) (by omega)]; exact q2.1 i hi
                  · rw [fq (c + 1) (by omega) (by omega) (by omega) (by omega) (by omega), fq (c + 2) (by omega) (by omega) (by omega) (by omega) (by omega)]; exact q2.2.1 m hm
                  · rw [fq (c + 3) (by omega) (by omega) (by omega) (by omega) (by omega), fq (c + 4) (by omega) (by omega) (by omega) (by omega) (by omega), fq (c + 5) (by omega) (by omega) (by omega) (by omega) (by omega)]; exact q2.2.2.1 h hh
                  · rw [fq (c + 6) (by omega) (by omega) (by omega) (by omega) (by omega), fq (c + 7) (by omega) (by omega) (by omega) (by omega) (by omega), fq (c + 8) (by omega) (by omega) (by omega) (by omega) (by omega)]; exact q2.2.2.2.1 j hj
                  · rw [mo_fr (M := M3) (fun i hi => fq _ (by omega) (by omega) (by omega) (by omega) (by omega))]; exact q2.2.2.2.2.1
                · have : (y.1, y.2.2, w.2.2) = x' := by injection hx'
                  rw [← this]
                  refine ⟨by show y.2.2.length ≤ y.1.1; rw [hy2]; show w.2.1.length ≤ (adv B N w.1).1; omega, fun h => absurd h (by omega), fun _ => ⟨hp.2, by rw [sa_s, up_s]; omega⟩, fun h => absurd h (by omega)⟩
          by_cases qn : n = 0
          · rw [if_neg (by simpa using qn), r67_104 (nr := 1600)]
            rw [if_pos (show decide (n = 0) = true by simp [qn])] at st
            exact st
          · rw [if_pos (by omega), r67_108 (nr := 1600)]
            rw [if_neg (show ¬ decide (n = 0) = true by simp [qn])] at st
            exact st
  -- the first one
  refine c51 (i := 0) hu5 t2 k2 hN (by omega) (g := pm_up (pm_up (pm_up (M2 32) 2 (N : Int)) 3 0) 4 0) (by rw [up_n (by omega), up_n (by omega), up_s]) (by rw [up_n (by omega), up_s]; rfl) (by rw [up_s]; omega) (fun g hg => ?_)
  rw [up_s, show isWn 0 = false from rfl] at hg
  obtain ⟨M3, hM3⟩ : ∃ M3, M3 = pm_sa M2 32 g := ⟨_, rfl⟩
  rw [← hM3]
  have g3 : ∀ q, q ≠ 31 → q ≠ 32 → M3 q = M1 q := fun q h1 h2 => by rw [hM3, sa_n h2, g2 q h1]
  have e3 : PEn u M3 c B N := ⟨hc, hu1, hu5, TP_f t2 (by rw [hM3, sa_n (by omega)]), fun w hw => by rw [hM3, sa_n (by omega)]; exact k2 w hw, hN⟩
  have m31 : M3 31 = pm_up (pm_up (pm_up (M1 31) 3 0) 4 (-1)) 2 0 := by rw [hM3, sa_n (by omega), hM2, sa_s]
  have pS : PSt M3 c B N (toS (0, false) []) := ⟨by rw [m31, up_n (by omega), up_n (by omega), up_s], by rw [m31, up_n (by omega), up_s], by rw [hM3, sa_s]; exact hg, by show 0 ≤ N; omega, by rw [m31, up_s]; rfl, by show 0 ≤ 7; omega, by show (0 : Nat) ≤ 1600; omega, by rw [g3 (c + 15) (by omega) (by omega)]; exact h16, fun i hi => absurd hi (Nat.not_lt_zero i)⟩
  have f3 : frZ c M M3 := fun q z1 z2 z3 => by rw [g3 q z1 z2, f1 q z3]
  have hCH : CH M3 c [] z0 := CH_f h1 ⟨[], rfl⟩ rfl (g3 _ (by omega) (by omega)) (g3 _ (by omega) (by omega)) (g3 _ (by omega) (by omega)) (fun i hi => by rw [g3 c (by omega) (by omega)]; exact h1.1 i hi) (fun m hm => absurd hm (Nat.not_lt_zero m)) (fun m hm => absurd hm (Nat.not_lt_zero m)) (fun m hm => absurd hm (Nat.not_lt_zero m)) (by rw [mo_fr (M := M1) (fun i hi => g3 _ (by omega) (by omega))]; exact h1.2.2.2.2.1)
  have p4 : M3 32 4 = (tok B N (0, false)).1 := pS.2.2.1.2.2.1
  have tb := tkB hBB hN (κ := (0, false)) (by show 0 ≤ N; omega)
  rw [push_u, r67_38 (nr := 1600) (by rw [p4]; omega), p4]
  by_cases q : (tok B N (0, false)).1 = 0
  · rw [if_neg (by simpa using q), r67_48 (nr := 1600)]
    refine c70 e3 pS (fun M4 f4 q4 => ?_)
    rw [push_u, r67_52 (nr := 1600)]
    refine main 81 0 (by omega) M4 (.inl (1, ((tok B N (0, false)).2.2.1 : Int))) (frZ_t f3 (frZ_Q f4)) (PEn_f e3 f4) q4 (fun y hy => by cases hy) ?_
    rw [gRead, if_pos q]; rfl
  · rw [if_pos q, r67_52 (nr := 1600)]
    refine main 81 0 (by omega) M3 (.inr ((0, false), [], z0)) f3 e3 ⟨pS, hCH, wZ_0⟩ (fun x hx => ?_) (by rw [gRead, if_neg q])
    have : ((0, false), [], z0) = x := by injection hx
    rw [← this]
    exact ⟨by show 0 ≤ 0; omega, fun _ => ⟨rfl, rfl⟩, fun h => absurd rfl h, fun _ => q⟩
end CR2
