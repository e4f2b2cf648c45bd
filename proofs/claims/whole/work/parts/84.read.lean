/-! A text is read by the class. -/
def z0 : CZ := (fun i => if i = 5 then 20 else if i = 6 then 50 else 0, fun _ _ => 0, fun _ => [], fun _ _ => 0)
def s2S (B : Nat → Int) (N : Nat) (y : Int) (s : S2) : S2 := match s with
  | .inl e => .inl e
  | .inr x => sb (sSg B N y (toS x.1 x.2.1)) (fun w => .inr (w.1, w.2.2, x.2.2))
/-- a fault, or: how many statements, the chart -/
abbrev S3 : Type := (Int × Int) ⊕ (Nat × List Int × CZ)
def gLp (B : Nat → Int) (N : Nat) : Nat → Nat → S2 → S3
  | _, _, .inl e => .inl e
  | 0, n, .inr x => .inr (n, x.2)
  | k + 1, n, .inr x => if (tok B N x.1).1 = 0 then .inr (n, x.2) else if n = 80 then .inl (6, ((tok B N x.1).2.1 : Int)) else gLp B N k (n + 1) (s2S B N 59 (gStm B N x.1 x.2.1 x.2.2 (decide (n = 0))))
def gRead (B : Nat → Int) (N : Nat) : S3 := if (tok B N (0, false)).1 = 0 then .inl (1, ((tok B N (0, false)).2.2.1 : Int)) else gLp B N 81 0 (.inr ((0, false), [], z0))
theorem tg82 : ∀ w : Nat, w < 29 → pm_tg 0 [116, 140, 270, 270, 270, 147, 270, 270, 154, 161, 217, 217, 217, 168, 192] 270 (w : Int) = if w = 0 then 116 else if w = 1 then 140 else if w = 5 then 147 else if w = 8 then 154 else if w = 9 then 161 else if w = 10 ∨ w = 11 ∨ w = 12 then 217 else if w = 13 then 168 else if w = 14 then 192 else 270 := by decide +kernel
theorem tg82m : pm_tg 0 [116, 140, 270, 270, 270, 147, 270, 270, 154, 161, 217, 217, 217, 168, 192] 270 (-1) = 270 := by decide +kernel
section CRD
variable {d c N : Nat} {X : Nat × (Nat → Int)} {v : Nat → Int} {M M' : PH} {K : PV → PS → Prop} {B : Nat → Int} {s : ST} {z : CZ} {κ : KP} {l : List Int}
theorem frZ_Q (hf : frQ c M M') : frZ c M M' := fun q z1 z2 z3 => hf q z1 z2 (by omega) (by omega)
theorem frZ_r : frZ c M M := fun _ _ _ _ => rfl
theorem frZ_t {M2 : PH} (h : frZ c M M') (h2 : frZ c M' M2) : frZ c M M2 := fun q z1 z2 z3 => (h2 q z1 z2 z3).trans (h q z1 z2 z3)
theorem PEn_z (h : PEn v M c B N) (hf : frZ c M M') : PEn v M' c B N := by
  have : c = 9 ∨ c = 35 := h.1
  exact PEn_c (hf 1 (by omega) (by omega) (by omega)) (hf 33 (by omega) (by omega) (by omega)) h
/-- a number of the chart: places, level, sulk -/
theorem cnum (hE : PEn v M c B N) (hP : PSt M c B N (toS κ l)) (hC : CH M c l z) (hw : wZ z) {i : Nat} (hi : i = 0 ∨ i = 5 ∨ i = 6) {lo hi' : Int} (hlo : 0 ≤ lo ∧ lo ≤ 1000) (hhi : hi' ≤ 1000) (h0 : i = 0 → z.1 1 = 0 ∧ z.1 2 = 0 ∧ 1 ≤ lo ∧ hi' ≤ 24) (h5 : i = 5 → hi' ≤ 99) (h6 : i = 6 → hi' ≤ 999) {M1 : PH} {r : Int} (f1 : frQ c M M1) (p1 : PSt M1 c B N (sN B N lo hi' (sA B N (toS κ l)))) (hr : ∀ y, sN B N lo hi' (sA B N (toS κ l)) = .inr y → r = vl B N (sA B N (toS κ l))) : frZ c M (pm_sa M1 c (pm_up (M1 c) i r)) ∧ PS2 (pm_sa M1 c (pm_up (M1 c) i r)) c B N (gNum B N κ l z i lo hi') := by
  have hcc : c = 9 ∨ c = 35 := hE.1
  have hE1 := PEn_f hE f1
  have hp := (PS_sa (q := c) (f := pm_up (M1 c) i r) hE1 (by omega)).2 _ p1
  refine ⟨fun q z1 z2 z3 => by rw [sa_n (by omega)]; exact f1 q z1 z2 (by omega) (by omega), ?_⟩
  unfold gNum
  cases e : sN B N lo hi' (sA B N (toS κ l)) with
  | inl e' => rw [e] at hp; exact hp
  | inr y =>
    rw [e] at hp
    obtain ⟨x, h1, h2, h3, h4, h5'⟩ := sN_e e
    have x0 : x = (adv B N κ, 0, l) := sA_e h1
    have hlist : y.2 = (0, l) := by rw [h5', x0]
    have hyt : toS y.1 y.2.2 = .inr y := by rw [toS, hlist]; show Sum.inr (y.1, 0, l) = Sum.inr y; rw [← show y = (y.1, 0, l) from by rw [← hlist]]
    have hr' := hr y e
    have hv : (((vl B N (sA B N (toS κ l))).toNat : Nat) : Int) = r := by rw [hr']; omega
    show PSt _ c B N (toS y.1 y.2.2) ∧ CH _ c y.2.2 (zNum z i (vl B N (sA B N (toS κ l))).toNat) ∧ wZ (zNum z i (vl B N (sA B N (toS κ l))).toNat)
    rw [hyt]
    have u : ∀ j, j ≠ i → upn z.1 i (vl B N (sA B N (toS κ l))).toNat j = z.1 j := fun j hj => upn_n hj
    have fq : ∀ q, q ≠ 31 → q ≠ 32 → q ≠ c + 15 → q ≠ c + 16 → q ≠ c → (pm_sa M1 c (pm_up (M1 c) i r)) q = M q := fun q z1 z2 z3 z4 z5 => by rw [sa_n z5]; exact f1 q z1 z2 z3 z4
    refine ⟨hp, CH_f hC ⟨[], by rw [hlist]; simp⟩ rfl (fq _ (by omega) (by omega) (by omega) (by omega) (by omega)) (fq _ (by omega) (by omega) (by omega) (by omega) (by omega)) (fq _ (by omega) (by omega) (by omega) (by omega) (by omega)) (fun j hj => ?_) (fun m hm => ?_) (fun h hh => ?_) (fun k hk => ?_) ?_, ?_⟩
    · rw [sa_s, f1 c (by omega) (by omega) (by omega) (by omega)]
      show _ = ((upn z.1 i (vl B N (sA B N (toS κ l))).toNat j : Nat) : Int)
      by_cases q : j = i
      · rw [up_e q, q, upn_s, hv]
      · rw [up_n q, upn_n q]; exact hC.1 j hj
    · have hm' : m < z.1 1 := by have : m < upn z.1 i (vl B N (sA B N (toS κ l))).toNat 1 := hm; rwa [u 1 (by omega)] at this
      rw [fq (c + 1) (by omega) (by omega) (by omega) (by omega) (by omega), fq (c + 2) (by omega) (by omega) (by omega) (by omega) (by omega)]; exact hC.2.1 m hm'
    · have hh' : h < z.1 2 := by have : h < upn z.1 i (vl B N (sA B N (toS κ l))).toNat 2 := hh; rwa [u 2 (by omega)] at this
      rw [fq (c + 3) (by omega) (by omega) (by omega) (by omega) (by omega), fq (c + 4) (by omega) (by omega) (by omega) (by omega) (by omega), fq (c + 5) (by omega) (by omega) (by omega) (by omega) (by omega)]; exact hC.2.2.1 h hh'
    · have hk' : k < z.1 3 := by have : k < upn z.1 i (vl B N (sA B N (toS κ l))).toNat 3 := hk; rwa [u 3 (by omega)] at this
      rw [fq (c + 6) (by omega) (by omega) (by omega) (by omega) (by omega), fq (c + 7) (by omega) (by omega) (by omega) (by omega) (by omega), fq (c + 8) (by omega) (by omega) (by omega) (by omega) (by omega)]; exact hC.2.2.2.1 k hk'
    · rw [mo_fr (M := M) (fun j hj => fq _ (by omega) (by omega) (by omega) (by omega) (by omega))]; exact hC.2.2.2.2.1
    · obtain ⟨w1, w2, w3, w4, w5, w6, w7, w8⟩ := hw
      have ea : (zNum z i (vl B N (sA B N (toS κ l))).toNat).2.1 = z.2.1 := rfl
      have em : (zNum z i (vl B N (sA B N (toS κ l))).toNat).2.2.2 = z.2.2.2 := rfl
      have e1 : (zNum z i (vl B N (sA B N (toS κ l))).toNat).1 1 = z.1 1 := u 1 (by omega)
      have e2 : (zNum z i (vl B N (sA B N (toS κ l))).toNat).1 2 = z.1 2 := u 2 (by omega)
      have e3 : (zNum z i (vl B N (sA B N (toS κ l))).toNat).1 3 = z.1 3 := u 3 (by omega)
      have e4 : (zNum z i (vl B N (sA B N (toS κ l))).toNat).1 4 = z.1 4 := u 4 (by omega)
      have hx : (vl B N (sA B N (toS κ l))).toNat ≤ 1000 := by omega
      have e0 : (zNum z i (vl B N (sA B N (toS κ l))).toNat).1 0 = if i = 0 then (vl B N (sA B N (toS κ l))).toNat else z.1 0 := by
        show upn z.1 i _ 0 = _
        by_cases q : i = 0
        · rw [if_pos q, q, upn_s]
        · rw [if_neg q, upn_n (by omega)]
      have e5 : (zNum z i (vl B N (sA B N (toS κ l))).toNat).1 5 = if i = 5 then (vl B N (sA B N (toS κ l))).toNat else z.1 5 := by
        show upn z.1 i _ 5 = _
        by_cases q : i = 5
        · rw [if_pos q, q, upn_s]
        · rw [if_neg q, upn_n (by omega)]
      have e6 : (zNum z i (vl B N (sA B N (toS κ l))).toNat).1 6 = if i = 6 then (vl B N (sA B N (toS κ l))).toNat else z.1 6 := by
        show upn z.1 i _ 6 = _
        by_cases q : i = 6
        · rw [if_pos q, q, upn_s]
        · rw [if_neg q, upn_n (by omega)]
      refine ⟨?_, by rw [ea, e1]; exact w2, ?_, by rw [ea, e2, e3]; exact w4, ?_, by rw [ea, e1]; exact w6, by rw [ea, e2]; exact w7, by rw [e4]; exact w8⟩
      · rw [e0, e1, e2, e3, e4, e5, e6]
        rcases hi with rfl | rfl | rfl
        · have := h0 rfl
          rw [if_pos rfl, if_neg (by decide), if_neg (by decide)]; omega
        · have := h5 rfl
          rw [if_neg (by decide), if_pos rfl, if_neg (by decide)]; omega
        · have := h6 rfl
          rw [if_neg (by decide), if_neg (by decide), if_pos rfl]; omega
      · rw [ea, e2, e0]
        by_cases q : i = 0
        · have := h0 q
          exact fun h hh => absurd hh (by omega)
        · rw [if_neg q]; exact w3
      · rw [em]
        by_cases q : i = 0
        · have := h0 q
          obtain ⟨v0, v1, v2, v3, v4, v5, v6, v7⟩ := w5
          unfold wM
          rw [e1, e2]
          exact ⟨v0, fun m hm => absurd hm (by omega), v2, v3, v4, v5, v6, v7⟩
        · unfold wM at *
          rw [e0, e1, e2, if_neg q]; exact w5
theorem c82 (hE : PEn v M c B N) (hP : PSt M c B N (toS κ l)) (hC : CH M c l z) (hw : wZ z) (hpos : l.length ≤ κ.1) {first : Bool} (hf : first = true → z.1 1 = 0 ∧ z.1 2 = 0) (hf0 : first = false → 0 < z.1 0) (hK : ∀ M', frZ c M M' → PS2 M' c B N (gStm B N κ l z first) → K PU (GF X, M', PTF v)) : pm_Call (d + 41) 82 [vA 31, vI (if first = true then 1 else 0)] (GF X, M, PTF v) K := by
  have hcc : c = 9 ∨ c = 35 := hE.1
  obtain ⟨e4, r4, e8, r8, r7⟩ := PSt_4 hE hP
  have hi0 : κ.1 ≤ N := hP.2.2.2.1
  have tb := tkB (TP_BB hE.2.2.2.1) hE.2.2.2.2.2 hi0
  have e4' : M 32 4 = (tok B N κ).1 := e4
  have e8' : M 32 8 = (tok B N κ).2.2.2.2.1 := e8
  have hwb : -1 ≤ wdo B N κ ∧ wdo B N κ < 29 := by unfold wdo; split <;> omega
  have wrong : ∀ w : Int, gStm B N κ l z first = .inl (1, ((tok B N κ).2.2.1 : Int)) → pm_Run (d + 40) 82 270 [vA 31, vI (if first = true then 1 else 0), vI w, PU] [] (GF X, M, PTF v) K := by
    intro w h
    rw [h] at hK
    rw [r82_270]
    refine c70 hE hP (fun M2 f2 p2 => ?_)
    rw [push_u, r82_274]
    exact hK M2 (frZ_Q f2) p2
  have A : pm_Run (d + 40) 82 22 [vA 31, vI (if first = true then 1 else 0), PU, PU] [vI (wdo B N κ)] (GF X, M, PTF v) K := by
    have B2 : ∀ y : Int, y = (if decide (wdo B N κ = 0) = true then 1 else 0) → pm_Run (d + 40) 82 33 [vA 31, vI (if first = true then 1 else 0), vI (wdo B N κ), PU] [vI y, vI (if first = true then 1 else 0)] (GF X, M, PTF v) K := by
      intro y hy
      have h1 := if01 (x := first)
      have h2 := if01 (x := decide (wdo B N κ = 0))
      rw [hy, r82_33 (by omega) (by omega)]
      by_cases q : first = decide (wdo B N κ = 0)
      · rw [if_pos (by rw [q]), r82_41 (by omega)]
        have hg : gStm B N κ l z first = (if wdo B N κ = 0 then gNum B N κ l z 0 4 24 else if wdo B N κ = 1 then gMoon B N κ l z else if wdo B N κ = 5 then gHarb B N κ l z else if wdo B N κ = 8 then gPays B N κ l z else if wdo B N κ = 9 then gOwes B N κ l z else if wdo B N κ = 13 then gNum B N κ l z 5 0 99 else if wdo B N κ = 14 then gNum B N κ l z 6 1 999 else if wdo B N κ = 10 ∨ wdo B N κ = 11 ∨ wdo B N κ = 12 then gForm B N κ l z (wdo B N κ) else .inl (1, ((tok B N κ).2.2.1 : Int))) := by rw [gStm, if_pos q]
        by_cases qm : wdo B N κ = -1
        · rw [qm, tg82m]
          rw [qm] at hg
          exact wrong _ (by rw [hg, if_neg (by omega), if_neg (by omega), if_neg (by omega), if_neg (by omega), if_neg (by omega), if_neg (by omega), if_neg (by omega), if_neg (by omega)])
        obtain ⟨w, hwn⟩ : ∃ w : Nat, wdo B N κ = (w : Int) := Int.eq_ofNat_of_zero_le (by omega)
        have hk1 : (tok B N κ).1 = 1 := by
          unfold wdo at hwn
          by_cases y : (tok B N κ).1 = 1
          · exact y
          · rw [if_neg y] at hwn; omega
        have hk0 : (tok B N κ).1 ≠ 0 := by rw [hk1]; decide
        have hpos0 : wdo B N κ ≠ 0 → 0 < z.1 0 := fun h => hf0 (by rw [q]; simp [h])
        rw [hwn, tg82 w (by omega)]
        rw [hwn] at hg hpos0 q
        by_cases w0 : w = 0
        · subst w0
          rw [if_pos rfl, r82_116]
          rw [if_pos (by omega)] at hg
          rw [hg] at hK
          refine c51p (x := (κ, 0, l)) hE hP (fun M1 f1 p1 => ?_)
          rw [push_u, r82_123 hE.1 hE.2.1]
          refine c75v (PEn_f hE f1) p1 (by omega) (by omega) (fun M2 r f2 p2 hr => ?_)
          rw [push_i, r82_134 hE.1, r82_274]
          have hz := hf (by rw [q]; rfl)
          obtain ⟨g1, g2⟩ := cnum (i := 0) hE hP hC hw (Or.inl rfl) (lo := 4) (hi' := 24) (by omega) (by omega) (fun _ => ⟨hz.1, hz.2, by omega, by omega⟩) (fun h => absurd h (by decide)) (fun h => absurd h (by decide)) (frQ_t f1 f2) p2 hr
          exact hK _ g1 g2
        rw [if_neg w0]
        rw [if_neg (by omega)] at hg
        by_cases w1 : w = 1
        · rw [if_pos w1, r82_140]
          rw [if_pos (by omega)] at hg
          rw [hg] at hK
          refine c84 hE hP hC hw (hpos0 (by omega)) hk0 (fun M1 f1 p1 => ?_)
          rw [push_u, r82_144, r82_274]
          exact hK M1 f1 p1
        rw [if_neg w1]
        rw [if_neg (by omega)] at hg
        by_cases w5 : w = 5
        · rw [if_pos w5, r82_147]
          rw [if_pos (by omega)] at hg
          rw [hg] at hK
          refine c85 hE hP hC hw (hpos0 (by omega)) hk0 (fun M1 f1 p1 => ?_)
          rw [push_u, r82_151, r82_274]
          exact hK M1 f1 p1
        rw [if_neg w5]
        rw [if_neg (by omega)] at hg
        by_cases w8 : w = 8
        · rw [if_pos w8, r82_154]
          rw [if_pos (by omega)] at hg
          rw [hg] at hK
          refine c87 hE hP hC hw (fun M1 f1 p1 => ?_)
          rw [push_u, r82_158, r82_274]
          exact hK M1 f1 p1
        rw [if_neg w8]
        rw [if_neg (by omega)] at hg
        by_cases w9 : w = 9
        · rw [if_pos w9, r82_161]
          rw [if_pos (by omega)] at hg
          rw [hg] at hK
          refine c88 hE hP hC hw (fun M1 f1 p1 => ?_)
          rw [push_u, r82_165, r82_274]
          exact hK M1 f1 p1
        rw [if_neg w9]
        rw [if_neg (by omega)] at hg
        by_cases wf : w = 10 ∨ w = 11 ∨ w = 12
        · rw [if_pos wf]
          rw [if_neg (by omega), if_neg (by omega), if_pos (by omega)] at hg
          rw [hg] at hK
          exact c82f hE hP hC hw hpos (by omega) hK
        rw [if_neg wf]
        by_cases w13 : w = 13
        · rw [if_pos w13, r82_168]
          rw [if_pos (by omega)] at hg
          rw [hg] at hK
          refine c51p (x := (κ, 0, l)) hE hP (fun M1 f1 p1 => ?_)
          rw [push_u, r82_175 hE.1 hE.2.1]
          refine c75v (PEn_f hE f1) p1 (by omega) (by omega) (fun M2 r f2 p2 hr => ?_)
          rw [push_i, r82_186 hE.1, r82_274]
          obtain ⟨g1, g2⟩ := cnum (i := 5) hE hP hC hw (Or.inr (Or.inl rfl)) (lo := 0) (hi' := 99) (by omega) (by omega) (fun h => absurd h (by decide)) (fun _ => by omega) (fun h => absurd h (by decide)) (frQ_t f1 f2) p2 hr
          exact hK _ g1 g2
        rw [if_neg w13]
        rw [if_neg (by omega)] at hg
        by_cases w14 : w = 14
        · rw [if_pos w14, r82_192]
          rw [if_pos (by omega)] at hg
          rw [hg] at hK
          refine c51p (x := (κ, 0, l)) hE hP (fun M1 f1 p1 => ?_)
          rw [push_u, r82_199 hE.1 hE.2.1]
          refine c75v (PEn_f hE f1) p1 (by omega) (by omega) (fun M2 r f2 p2 hr => ?_)
          rw [push_i, r82_211 hE.1, r82_274]
          obtain ⟨g1, g2⟩ := cnum (i := 6) hE hP hC hw (Or.inr (Or.inr rfl)) (lo := 1) (hi' := 999) (by omega) (by omega) (fun h => absurd h (by decide)) (fun h => absurd h (by decide)) (fun _ => by omega) (frQ_t f1 f2) p2 hr
          exact hK _ g1 g2
        rw [if_neg w14]
        rw [if_neg (by omega), if_neg (by omega)] at hg
        exact wrong _ hg
      · have hg : gStm B N κ l z first = .inl (1, ((tok B N κ).2.2.1 : Int)) := by rw [gStm, if_neg q]
        rw [hg] at hK
        rw [if_neg (by revert q; cases first <;> cases decide (wdo B N κ = 0) <;> simp), r82_36]
        refine c70 hE hP (fun M2 f2 p2 => ?_)
        rw [push_u, r82_40]
        exact hK M2 (frZ_Q f2) p2
    rw [r82_22 (by omega)]
    by_cases q : wdo B N κ = 0
    · rw [if_neg (by simpa using q), r82_28]
      exact B2 1 (by simp [q])
    · rw [if_pos q, r82_32]
      exact B2 0 (by simp [q])
  rw [en82, r82_0 (by rw [e4]; exact r4), e4']
  by_cases q : (tok B N κ).1 = 1
  · have e : wdo B N κ = (tok B N κ).2.2.2.2.1 := by rw [wdo, if_pos q]
    rw [if_neg (by simpa using q), r82_11, e8', ← e]
    exact A
  · have e : wdo B N κ = -1 := by rw [wdo, if_neg q]
    rw [if_pos q, r82_21, ← e]
    exact A
theorem c40 (hc : isCh c) : pm_Call (d + 2) 40 [vA (c + 15)] (GF X, M, PTF v) K ↔ K PU (GF X, pm_sa (pm_sa (pm_sa (pm_sa M (c + 15) (pm_up (M (c + 15)) 6 0)) (c + 17) (fl (M (c + 17)) 8 0)) (c + 18) (fl (M (c + 18)) 8 0)) (c + 19) (fl (M (c + 19)) 8 0), PTF v) := by
  have hf := ch_fo hc
  rw [en40, r40_0 hf, r40_5 hf, c307 (chs17 hc), push_u, r40_13 hf, c307 (chs18 hc), push_u, r40_21 hf, c307 (chs19 hc), push_u, r40_29]
  rw [sa_n (show c + 17 ≠ c + 15 by omega), sa_n (show c + 18 ≠ c + 17 by omega), sa_n (show c + 18 ≠ c + 15 by omega), sa_n (show c + 19 ≠ c + 18 by omega), sa_n (show c + 19 ≠ c + 17 by omega), sa_n (show c + 19 ≠ c + 15 by omega)]
end CRD
