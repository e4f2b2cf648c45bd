/-! The reference's reader of formulas: a part of a sum. -/
def muS (B : Nat → Int) (N : Nat) (κ : KP) : Bool := isS B N 42 (.inr (κ, 0, [])) || (isS B N 47 (.inr (κ, 0, [])) || isS B N 37 (.inr (κ, 0, [])))
def psS (B : Nat → Int) (N : Nat) (κ : KP) : Bool := isS B N 43 (.inr (κ, 0, [])) || isS B N 45 (.inr (κ, 0, []))
def recn (B : Nat → Int) (N : Nat) : Nat → ST → ST
  | 0 => fun s => s
  | n + 1 => gS B N n
/-- a reading in a frame whose phase stays -/
def RDS (d bk : Nat) (B : Nat → Int) (N : Nat) (tb : Int) (X : Nat × (Nat → Int)) (v : Nat → Int) (K : PV → PS → Prop) (φ : ST → ST) (n w : Nat) (lv : Int) (fin : KP → Prop) : Prop := ∀ (M : PH) (κ : KP) (o : Nat) (l S : List Int) (D : Nat) (kn ph bg : Int) (bs : Nat), TX M B N → AS M bk B N κ o l S D → TF M D kn ph bg bs → M 234 52 = 0 → (ph = 0 ∨ ph = 1) → (bg = 0 ∨ bg = 1) → inR kn → ((isTs kn && decide (bg = 1)) = true → ¬ isW B N ((25 : Nat) : Int) (.inr (κ, o, l)) = true ∧ ¬ isS B N 91 (.inr (κ, o, l)) = true ∧ ¬ isW B N ((26 : Nat) : Int) (.inr (κ, o, l)) = true) → top S bs lv → 7 ≤ n + o → l.length < κ.1 → D + n ≤ 12 → S.length + w + 6 * n ≤ 60 → (∀ e, φ (.inr (κ, o, l)) = .inl e → ∀ M', FL M' e → fA bk D M M' → K PU (GF X, M', PTF v)) → (∀ (κ' : KP) (l1 Q : List Int), φ (.inr (κ, o, l)) = .inr (κ', o, l1 ++ Q) → (∀ c ∈ Q, lv ≤ rk c) → nn Q = 0 → fin κ' → ∀ M', AS M' bk B N κ' o l1 (S ++ Q.reverse) D → TF M' D kn ph 0 bs → M' 234 52 = 1 → M' 266 D = M 266 D → fA bk D M M' → pm_Run (d + 6) 206 43 [vA 234, vI tb, vI 1] [] (GF X, M', PTF v) K) → pm_Run (d + 6) 206 43 [vA 234, vI tb, vI 1] [] (GF X, M, PTF v) K
section RFac
variable {d b w bk D : Nat} {X : Nat × (Nat → Int)} {v : Nat → Int} {M M' M2 : PH} {K : PV → PS → Prop} {B : Nat → Int} {N : Nat} {κ : KP} {e : Int × Int} {o op : Nat} {l S S0 Q : List Int} {s : ST} {kn ph bg tb : Int} {bs : Nat} {rec : ST → ST}
theorem gS_r : ∀ n, gS B N n = gSum B N (recn B N n)
  | 0 => rfl
  | _ + 1 => rfl
theorem opk_r : ∀ n, opk (recn B N n) ∧ kf (recn B N n)
  | 0 => opk_id
  | n + 1 => opk_gS n
theorem gp_num (h : (tok B N κ).1 = 2) (hl : l.length < 1600) : gPart B N rec (.inr (κ, o, l)) = .inr (adv B N κ, o, l ++ [(tok B N κ).2.2.2.1]) := by
  have hk : kd B N (.inr (κ, o, l)) = 2 := h
  rw [gPart, if_pos hk]
  show sA B N (.inr (κ, o, if l.length < 1600 then l ++ [(tok B N κ).2.2.2.1] else l)) = _
  rw [if_pos hl]; rfl
theorem gp_par (h : isS B N 40 (.inr (κ, o, l)) = true) : gPart B N rec (.inr (κ, o, l)) = if o < 7 then sO (fun o => o - 1) (sSg B N 41 (rec (.inr (adv B N κ, o + 1, l)))) else .inl (5, ((tok B N κ).2.1 : Int)) := by
  have h3 := (isS_k h).1
  have hk : ¬ kd B N (.inr (κ, o, l)) = 2 := by show ¬ (tok B N κ).1 = 2; omega
  rw [gPart, if_neg hk, if_pos h]; rfl
theorem gp_two {k : Nat} (hk : k = 27 ∨ k = 28) (h : isW B N (k : Int) (.inr (κ, o, l)) = true) : gPart B N rec (.inr (κ, o, l)) = gTwo B N rec (k : Int) (.inr (adv B N κ, o, l)) := by
  have h1 := isW_k h
  have hk2 : ¬ kd B N (.inr (κ, o, l)) = 2 := by show ¬ (tok B N κ).1 = 2; omega
  have hs : ¬ isS B N 40 (.inr (κ, o, l)) = true := fun z => by have := (isS_k z).1; omega
  have ho : ow B N (.inr (κ, o, l)) = (k : Int) := h1.2
  rw [gPart, if_neg hk2, if_neg hs, if_pos (by rcases hk with rfl | rfl <;> (rw [Bool.or_eq_true]; first | exact Or.inl h | exact Or.inr h)), ho]; rfl
theorem gp_val (h : isVal B N (.inr (κ, o, l)) = true) (hl : l.length < 1600) : gPart B N rec (.inr (κ, o, l)) = .inr (adv B N κ, o, l ++ [10000 + (tok B N κ).2.2.2.2.1]) := by
  have q' : ((decide ((tok B N κ).1 = 1) && isVw (tok B N κ).2.2.2.2.1.toNat) && decide (0 ≤ (tok B N κ).2.2.2.2.1)) = true := h
  rw [Bool.and_eq_true, Bool.and_eq_true] at q'
  have k1 : (tok B N κ).1 = 1 := by simpa using q'.1.1
  have kv := vw_c q'.1.2
  have hk2 : ¬ kd B N (.inr (κ, o, l)) = 2 := by show ¬ (tok B N κ).1 = 2; omega
  have hs : ¬ isS B N 40 (.inr (κ, o, l)) = true := fun z => by have := (isS_k z).1; omega
  have hw : ¬ (isW B N 27 (.inr (κ, o, l)) || isW B N 28 (.inr (κ, o, l))) = true := fun z => by
    rw [Bool.or_eq_true] at z
    rcases z with z | z <;> (have := (isW_k z).2; omega)
  rw [gPart, if_neg hk2, if_neg hs, if_neg hw, if_pos h]
  show sA B N (.inr (κ, o, if l.length < 1600 then l ++ [10000 + (tok B N κ).2.2.2.2.1] else l)) = _
  rw [if_pos hl]; rfl
theorem gp_else (h2 : (tok B N κ).1 ≠ 2) (h40 : ¬ isS B N 40 (.inr (κ, o, l)) = true) (h27 : ¬ isW B N ((27 : Nat) : Int) (.inr (κ, o, l)) = true) (h28 : ¬ isW B N ((28 : Nat) : Int) (.inr (κ, o, l)) = true) (hv : ¬ isVal B N (.inr (κ, o, l)) = true) : gPart B N rec (.inr (κ, o, l)) = .inl (1, ((tok B N κ).2.2.1 : Int)) := by
  have hk2 : ¬ kd B N (.inr (κ, o, l)) = 2 := h2
  have hw : ¬ (isW B N 27 (.inr (κ, o, l)) || isW B N 28 (.inr (κ, o, l))) = true := fun z => by
    rw [Bool.or_eq_true] at z
    exact z.elim h27 h28
  rw [gPart, if_neg hk2, if_neg h40, if_neg hw, if_neg hv]; rfl
theorem gp_4 (h : (tok B N κ).1 = 4) : gPart B N rec (.inr (κ, o, l)) = .inl (1, ((tok B N κ).2.2.1 : Int)) := by
  refine gp_else (by omega) (fun z => by have := (isS_k z).1; omega) (fun z => by have := (isW_k z).1; omega) (fun z => by have := (isW_k z).1; omega) (fun z => ?_)
  have q' : ((decide ((tok B N κ).1 = 1) && isVw (tok B N κ).2.2.2.2.1.toNat) && decide (0 ≤ (tok B N κ).2.2.2.2.1)) = true := z
  rw [Bool.and_eq_true, Bool.and_eq_true] at q'
  have k1 : (tok B N κ).1 = 1 := by simpa using q'.1.1
  omega
theorem sS_n {y : Int} (h : ¬ isS B N y (.inr (κ, o, l)) = true) : sSg B N y (.inr (κ, o, l)) = .inl (1, ((tok B N κ).2.2.1 : Int)) := by rw [sSg, if_neg h]; rfl
theorem sS_y {y : Int} (h : isS B N y (.inr (κ, o, l)) = true) : sSg B N y (.inr (κ, o, l)) = .inr (adv B N κ, o, l) := by rw [sSg, if_pos h]; rfl
theorem sS_N {y : Int} {o' : Nat} {l' : List Int} (h : ¬ isS B N y (.inr (κ, o', l')) = true) : sSg B N y (.inr (κ, o, l)) = .inl (1, ((tok B N κ).2.2.1 : Int)) := sS_n h
theorem sS_Y {y : Int} {o' : Nat} {l' : List Int} (h : isS B N y (.inr (κ, o', l')) = true) : sSg B N y (.inr (κ, o, l)) = .inr (adv B N κ, o, l) := sS_y h
theorem GD_b {n D : Nat} {t : Bool} {φ : ST → ST} (h : GD B N n D t φ) {κ' : KP} {o' : Nat} {l' : List Int} (hno : 7 ≤ n + o) (hκ : κ.1 ≤ N) (hl : l.length < κ.1) (he : φ (.inr (κ, o, l)) = .inr (κ', o', l')) : l'.length < κ'.1 ∧ κ.1 < κ'.1 ∧ κ'.1 ≤ N := by
  obtain ⟨h1, e, h2, h3, h4, -⟩ := h κ o l _ hno hκ (by omega) he
  have h1' : κ'.1 ≤ N := h1
  have h2' : l' = l ++ e := h2
  have h4' : κ.1 + e.length ≤ κ'.1 := h4
  rw [h2', List.length_append]
  omega
theorem ar_s {κ : KP} {o : Nat} {l : List Int} : arS B N κ o l = (psS B N κ || muS B N κ) := by
  unfold arS psS muS
  rw [Bool.or_assoc]; rfl
theorem nn_0 {Q : List Int} (h : ∀ c ∈ Q, 4 ≤ rk c) : nn Q = 0 := by
  unfold nn
  rw [List.countP_eq_zero]
  intro c hc hz
  have := h c hc
  have hz : c = 20025 := by simpa using hz
  subst hz
  exact absurd this (by decide)
/-- a part -/
theorem rd_part {n : Nat} (hrec : ∀ m, n = m + 1 → RDS d bk B N tb X v K (gS B N m) m 2 5 (fun κ => ¬ (psS B N κ || muS B N κ) = true)) {lv : Int} : RDS d bk B N tb X v K (gPart B N (recn B N n)) n 0 lv (fun _ => True) := by
  intro M κ o l S D kn ph bg bs hT hA hF h52 hph hbg hkn hfst htop hno hl hDn hS hE hK
  have hκ := hA.1.2.2.2.1
  have hN := hT.2.1
  have l16 : l.length < 1600 := by omega
  refine l204s (d := d) hT hA hF h52 hbg hkn (fun h4 M' f' g' => hE _ (gp_4 h4) M' f' g') (fun hc => ?_)
  refine l204n (d := d) hA hF hc h52 hfst (fun M1 l2 A1 T1 hc1 e1 v1 g1 => ?_)
  have hT1 := TX_A hT g1
  have v1 : M1 266 D = M 266 D := by rw [v1]
  have s52 : M1 234 52 = 0 := by rw [e1]; exact h52
  by_cases q2 : (tok B N κ).1 = 2
  · refine p_num (d := d) hT1 A1 hc1 l16 q2 (fun M2 A2 e2 g2 => ?_)
    refine hK (adv B N κ) (l ++ [(tok B N κ).2.2.2.1]) [] (by rw [gp_num q2 l16, List.append_nil]) (fun c hc => absurd hc List.not_mem_nil) rfl trivial M2 (by rw [List.reverse_nil, List.append_nil]; exact A2) (TF_A T1 g2 (by omega)) e2 ((fA_66 g2).trans v1) (fA_t g1 (fA_d g2 (by omega)))
  · by_cases q40 : isS B N 40 (.inr (κ, o, l)) = true
    · have k3 := (isS_k q40).1
      have ad := adv_p hT.1 hN hκ (by omega)
      have eg := gp_par (rec := recn B N n) q40
      refine p_par (d := d) hT1 A1 hc1 (by omega) s52 q40 (fun h7 M2 f2 g2 => ?_) (fun h7 M2 A2 T2 e2 g2 => ?_)
      · rw [if_neg h7] at eg
        exact hE _ eg M2 f2 (fA_t g1 (fA_d g2 (by omega)))
      · rw [if_pos h7] at eg
        obtain ⟨m, rfl⟩ : ∃ m, n = m + 1 := ⟨n - 1, by omega⟩
        have er : recn B N (m + 1) = gS B N m := rfl
        rw [er] at eg
        have T1' := TF_A T1 g2 (by omega)
        have g12 := fA_t g1 (fA_d g2 (by omega))
        refine hrec m rfl M2 (adv B N κ) (o + 1) l S (D + 1) 2 0 1 S.length (TX_A hT1 g2) A2 T2 e2 (by simp) (by simp) (by omega) (fun z => absurd z (by decide)) ⟨Nat.le_refl _, Or.inl rfl⟩ (by omega) (by omega) (by omega) (by omega) (fun e he M3 f3 g3 => ?_) (fun κ2 l1 Q he hQ hnn hfin M3 A3 T3 e3 w3 g3 => ?_)
        · exact hE e (by rw [er, eg, he]; rfl) M3 f3 (fA_t g12 (fA_d g3 (by omega)))
        · have bb := GD_b (GD_S hT.1 hN m) (by omega) ad.2 (by omega) he
          have T3' := TF_A T1' g3 (by omega)
          have g13 := fA_t g12 (fA_d g3 (by omega))
          have lq : l1.length + Q.length < κ2.1 := by have := bb.1; rw [List.length_append] at this; exact this
          refine l205s (d := d) (TX_A hT g13) A3 T3 e3 (by omega) (by omega) (fun h4 M4 f4 g4 => ?_) (fun hc3 => ?_)
          · refine hE _ ?_ M4 f4 (fA_t g13 (fA_d g4 (by omega)))
            rw [er, eg, he, sS_n (fun z => by have := (isS_k z).1; omega)]; rfl
          · refine g_cls (d := d) (D := D) (op := o) (Q := Q) (o := o + 1) (y := 41) (c := 0) (TX_A hT g13) (by rw [hnn]; exact A3) T3 T3' hc3 (Or.inl ⟨rfl, rfl⟩) (by simp) (fun z => by omega) (fun _ => by rw [ar_s]; exact hfin) ⟨Nat.le_refl _, Or.inl rfl⟩ (fun c hc => by have := hQ c hc; omega) (by omega) e3 (fun z => by omega) (fun hn M4 f4 g4 => ?_) (fun hy M4 A4 T4 e4 w4 g4 => ?_)
            · refine hE _ ?_ M4 f4 (fA_t g13 g4)
              rw [er, eg, he, sS_N hn]; rfl
            · rw [if_neg (by omega)] at A4 T4
              refine hK (adv B N κ2) (l1 ++ Q) [] ?_ (fun c hc => absurd hc List.not_mem_nil) rfl trivial M4 (by rw [List.reverse_nil, List.append_nil]; exact A4) T4 e4 ((w4.trans (fA_66 g3)).trans ((fA_66 g2).trans v1)) (fA_t g13 g4)
              rw [er, eg, he, sS_Y hy, List.append_nil]; rfl
    · by_cases qw : isW B N ((27 : Nat) : Int) (.inr (κ, o, l)) = true ∨ isW B N ((28 : Nat) : Int) (.inr (κ, o, l)) = true
      · obtain ⟨k, hk, qk⟩ : ∃ k : Nat, (k = 27 ∨ k = 28) ∧ isW B N (k : Int) (.inr (κ, o, l)) = true := by
          rcases qw with z | z
          · exact ⟨27, by simp, z⟩
          · exact ⟨28, by simp, z⟩
        have k1 := (isW_k qk).1
        have ad := adv_p hT.1 hN hκ (by omega)
        have eg := gp_two (rec := recn B N n) hk qk
        rw [gTwo] at eg
        refine p_two (d := d) hT1 A1 hc1 (by omega) s52 hk qk (fun hn M2 f2 g2 => ?_) (fun hy h7 M2 f2 g2 => ?_) (fun hy h7 M2 A2 T2 pr2 e2 g2 => ?_)
        · rw [if_neg hn] at eg
          exact hE _ eg M2 f2 (fA_t g1 (fA_d g2 (by omega)))
        · rw [if_pos hy, if_neg (show ¬ opn (.inr (adv B N κ, o, l)) < 7 from h7)] at eg
          exact hE _ eg M2 f2 (fA_t g1 (fA_d g2 (by omega)))
        · rw [if_pos hy, if_pos (show opn (.inr (adv B N κ, o, l)) < 7 from h7)] at eg
          obtain ⟨m, rfl⟩ : ∃ m, n = m + 1 := ⟨n - 1, by omega⟩
          have er : recn B N (m + 1) = gS B N m := rfl
          rw [er] at eg
          have eg : gPart B N (gS B N m) (.inr (κ, o, l)) = sE (20000 + (k : Int)) (sO (fun o => o - 1) (sSg B N 41 (gS B N m (sSg B N 44 (gS B N m (.inr (adv B N (adv B N κ), o + 1, l))))))) := eg
          have ky := (isS_k hy).1
          have ad2 := adv_p hT.1 hN ad.2 (by omega)
          have T1' := TF_A T1 g2 (by omega)
          have g12 := fA_t g1 (fA_d g2 (by omega))
          have kS := (opk_gS (B := B) (N := N) m).2
          refine hrec m rfl M2 (adv B N (adv B N κ)) (o + 1) l S (D + 1) 3 0 1 S.length (TX_A hT1 g2) A2 T2 e2 (by simp) (by simp) (by omega) (fun z => absurd z (by decide)) ⟨Nat.le_refl _, Or.inl rfl⟩ (by omega) (by omega) (by omega) (by omega) (fun e he M3 f3 g3 => ?_) (fun κ2 l1 Q he hQ hnn hfin M3 A3 T3 e3 w3 g3 => ?_)
          · refine hE e ?_ M3 f3 (fA_t g12 (fA_d g3 (by omega)))
            rw [er, eg, he, show sSg B N 44 (.inl e) = .inl e from rfl, kS e]; rfl
          · have bb := GD_b (GD_S hT.1 hN m) (by omega) ad2.2 (by omega) he
            have T3' := TF_A T1' g3 (by omega)
            have g13 := fA_t g12 (fA_d g3 (by omega))
            have lq : l1.length + Q.length < κ2.1 := by have := bb.1; rw [List.length_append] at this; exact this
            have pr3 : M3 266 (D + 1) = sor (20000 + (k : Int)) := w3.trans pr2
            refine l205s (d := d) (TX_A hT g13) A3 T3 e3 (by omega) (by omega) (fun h4 M4 f4 g4 => ?_) (fun hc3 => ?_)
            · refine hE _ ?_ M4 f4 (fA_t g13 (fA_d g4 (by omega)))
              rw [er, eg, he, sS_n (fun z => by have := (isS_k z).1; omega), kS]; rfl
            · refine g_com (d := d) (D := D + 1) (op := o + 1) (Q := Q) (o := o + 1) (TX_A hT g13) (by rw [hnn]; exact A3) T3 hc3 (by rw [ar_s]; exact hfin) ⟨Nat.le_refl _, Or.inl rfl⟩ (fun c hc => by have := hQ c hc; omega) (by omega) (fun hn M4 f4 g4 => ?_) (fun hyc M4 A4 T4 p4 e4 g4 => ?_)
              · refine hE _ ?_ M4 f4 (fA_t g13 (fA_d g4 (by omega)))
                rw [er, eg, he, sS_N hn, kS]; rfl
              · have adc := adv_p hT.1 hN bb.2.2 (by have := (isS_k hyc).1; omega)
                have g14 := fA_t g13 (fA_d g4 (by omega))
                have T4' := TF_A T3' g4 (by omega)
                refine hrec m rfl M4 (adv B N κ2) (o + 1) (l1 ++ Q) S (D + 1) 4 0 0 S.length (TX_A hT g14) A4 T4 e4 (by simp) (by simp) (by omega) (fun z => absurd z (by decide)) ⟨Nat.le_refl _, Or.inl rfl⟩ (by omega) (by rw [List.length_append]; omega) (by omega) (by omega) (fun e he2 M5 f5 g5 => ?_) (fun κ3 l3 Q3 he2 hQ3 hnn3 hfin3 M5 A5 T5 e5 w5 g5 => ?_)
                · refine hE e ?_ M5 f5 (fA_t g14 (fA_d g5 (by omega)))
                  rw [er, eg, he, sS_Y hyc, he2]; rfl
                · have bb3 := GD_b (GD_S hT.1 hN m) (by omega) adc.2 (by rw [List.length_append]; omega) he2
                  have T5' := TF_A T4' g5 (by omega)
                  have g15 := fA_t g14 (fA_d g5 (by omega))
                  have lq3 : l3.length + Q3.length < κ3.1 := by have := bb3.1; rw [List.length_append] at this; exact this
                  refine l205s (d := d) (TX_A hT g15) A5 T5 e5 (by omega) (by omega) (fun h4 M6 f6 g6 => ?_) (fun hc5 => ?_)
                  · refine hE _ ?_ M6 f6 (fA_t g15 (fA_d g6 (by omega)))
                    rw [er, eg, he, sS_Y hyc, he2, sS_n (fun z => by have := (isS_k z).1; omega)]; rfl
                  · refine g_cls (d := d) (D := D) (op := o) (Q := Q3) (o := o + 1) (y := 41) (c := 20000 + (k : Int)) (TX_A hT g15) (by rw [hnn3]; exact A5) T5 T5' hc5 (Or.inr (Or.inl ⟨rfl, rfl⟩)) (by simp) (fun z => by omega) (fun _ => by rw [ar_s]; exact hfin3) ⟨Nat.le_refl _, Or.inl rfl⟩ (fun c hc => by have := hQ3 c hc; omega) (by omega) e5 (fun _ => ⟨w5.trans (p4.trans pr3), by omega⟩) (fun hn M6 f6 g6 => ?_) (fun hy6 M6 A6 T6 e6 w6 g6 => ?_)
                    · refine hE _ ?_ M6 f6 (fA_t g15 g6)
                      rw [er, eg, he, sS_Y hyc, he2, sS_N hn]; rfl
                    · rw [if_pos rfl] at A6
                      rw [if_neg (by omega)] at T6
                      refine hK (adv B N κ3) (l3 ++ Q3 ++ [20000 + (k : Int)]) [] ?_ (fun c hc => absurd hc List.not_mem_nil) rfl trivial M6 (by rw [List.reverse_nil, List.append_nil]; exact A6) T6 e6 ((w6.trans (fA_66 g5)).trans ((fA_66 (fA_d g4 (by omega))).trans ((fA_66 g3).trans ((fA_66 g2).trans v1)))) (fA_t g15 g6)
                      rw [er, eg, he, sS_Y hyc, he2, sS_Y hy6, List.append_nil]
                      show (Sum.inr (_, _, if (l3 ++ Q3).length < 1600 then _ else _) : ST) = _
                      rw [if_pos (by rw [List.length_append]; omega)]; rfl
      · have n27 : ¬ isW B N ((27 : Nat) : Int) (.inr (κ, o, l)) = true := fun z => qw (Or.inl z)
        have n28 : ¬ isW B N ((28 : Nat) : Int) (.inr (κ, o, l)) = true := fun z => qw (Or.inr z)
        by_cases qv : isVal B N (.inr (κ, o, l)) = true
        · refine p_val (d := d) hT1 A1 hc1 l16 qv (fun M2 A2 e2 g2 => ?_)
          refine hK (adv B N κ) (l ++ [10000 + (tok B N κ).2.2.2.2.1]) [] (by rw [gp_val qv l16, List.append_nil]) (fun c hc => absurd hc List.not_mem_nil) rfl trivial M2 (by rw [List.reverse_nil, List.append_nil]; exact A2) (TF_A T1 g2 (by omega)) e2 ((fA_66 g2).trans v1) (fA_t g1 (fA_d g2 (by omega)))
        · refine p_else (d := d) A1 hc1 q2 q40 n27 n28 qv (fun M2 f2 g2 => hE _ (gp_else q2 q40 n27 n28 qv) M2 f2 (fA_t g1 (fA_d g2 (by omega))))
end RFac
