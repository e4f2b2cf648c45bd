/-! The reference's reader of formulas: tests. -/
/-- a reading in a frame of a test -/
def RDT (d bk : Nat) (B : Nat → Int) (N : Nat) (tb : Int) (X : Nat × (Nat → Int)) (v : Nat → Int) (K : PV → PS → Prop) (φ : ST → ST) (n w : Nat) (lt lv : Int) (fin : KP → Prop) : Prop := ∀ (M : PH) (κ : KP) (o : Nat) (l S : List Int) (D : Nat) (kn : Int) (bs : Nat), TX M B N → AS M bk B N κ o l S D → TF M D kn 0 1 bs → M 234 52 = 0 → (kn = 1 ∨ kn = 5) → top S bs lt → 7 ≤ n + o → l.length < κ.1 → D + n ≤ 12 → S.length + w + 6 * n ≤ 60 → (∀ e, φ (.inr (κ, o, l)) = .inl e → ∀ M', FL M' e → fA bk D M M' → K PU (GF X, M', PTF v)) → (∀ (κ' : KP) (l1 Q : List Int) (ph : Int), φ (.inr (κ, o, l)) = .inr (κ', o, l1 ++ Q) → (∀ c ∈ Q, lv ≤ rk c) → (ph = 1 ∨ ph = 2) → (ph ≠ 2 → ¬ (psS B N κ' || muS B N κ') = true) → fin κ' → ∀ M', AS M' bk B N κ' (o + nn Q) l1 (S ++ Q.reverse) D → TF M' D kn ph 0 bs → M' 234 52 = 1 → fA bk D M M' → pm_Run (d + 6) 206 43 [vA 234, vI tb, vI 1] [] (GF X, M', PTF v) K) → pm_Run (d + 6) 206 43 [vA 234, vI tb, vI 1] [] (GF X, M, PTF v) K
def recf (B : Nat → Int) (N : Nat) : Nat → ST → ST
  | 0 => fun s => s
  | n + 1 => gF B N n
section RFae
variable {d b w bk D : Nat} {X : Nat × (Nat → Int)} {v : Nat → Int} {M M' M2 : PH} {K : PV → PS → Prop} {B : Nat → Int} {N : Nat} {κ : KP} {e : Int × Int} {o op : Nat} {l S S0 Q : List Int} {s : ST} {kn ph bg tb : Int} {bs : Nat} {rec sumf rcf : ST → ST}
theorem gF_r : ∀ n, gF B N n = gFact B N (gS B N n) (recf B N n)
  | 0 => rfl
  | _ + 1 => rfl
theorem nn_p {c : Int} : nn (Q ++ [c]) = nn Q + nn [c] := by
  unfold nn
  rw [List.countP_append]
theorem ts_k (h : kn = 1 ∨ kn = 5) : isTs kn = true := by rcases h with rfl | rfl <;> rfl
theorem gf_not (h : isW B N ((25 : Nat) : Int) (.inr (κ, o, l)) = true) : gFact B N sumf rcf (.inr (κ, o, l)) = if o < 7 then sE 20025 (sO (fun o => o - 1) (rcf (.inr (adv B N κ, o + 1, l)))) else .inl (5, ((tok B N κ).2.1 : Int)) := by
  rw [gFact, if_pos (show isW B N 25 (.inr (κ, o, l)) = true from h)]; rfl
theorem gf_brk (h : isS B N 91 (.inr (κ, o, l)) = true) : gFact B N sumf rcf (.inr (κ, o, l)) = if o < 7 then sO (fun o => o - 1) (sSg B N 93 (gTest B N rcf (.inr (adv B N κ, o + 1, l)))) else .inl (5, ((tok B N κ).2.1 : Int)) := by
  rw [gFact, if_neg (fun z => by have := (isW_k z).1; have := (isS_k h).1; omega), if_pos h]; rfl
theorem gf_all (h : isW B N ((26 : Nat) : Int) (.inr (κ, o, l)) = true) (hl : l.length < 1600) : gFact B N sumf rcf (.inr (κ, o, l)) = .inr (adv B N κ, o, l ++ [20026]) := by
  rw [gFact, if_neg (fun z => by have := (isW_k z).2; have := (isW_k h).2; omega), if_neg (fun z => by have := (isS_k z).1; have := (isW_k h).1; omega), if_pos (show isW B N 26 (.inr (κ, o, l)) = true from h), sE_l hl]; rfl
theorem gf_els (h1 : ¬ isW B N ((25 : Nat) : Int) (.inr (κ, o, l)) = true) (h2 : ¬ isS B N 91 (.inr (κ, o, l)) = true) (h3 : ¬ isW B N ((26 : Nat) : Int) (.inr (κ, o, l)) = true) : gFact B N sumf rcf (.inr (κ, o, l)) = gCmp B N sumf (sumf (.inr (κ, o, l))) := by
  rw [gFact, if_neg (show ¬ isW B N 25 (.inr (κ, o, l)) = true from h1), if_neg h2, if_neg (show ¬ isW B N 26 (.inr (κ, o, l)) = true from h3)]
theorem gc_n (h : ∀ y, y = 60 ∨ y = 62 ∨ y = 61 → ¬ isS B N y (.inr (κ, o, l)) = true) : gCmp B N sumf (.inr (κ, o, l)) = .inl (1, ((tok B N κ).2.2.1 : Int)) := by
  rw [gCmp, if_neg]
  · rfl
  intro z
  rw [Bool.or_eq_true, Bool.or_eq_true] at z
  rcases z with z | z | z
  · exact h 60 (by simp) z
  · exact h 62 (by simp) z
  · exact h 61 (by simp) z
theorem gc_y {y : Int} (hy : y = 60 ∨ y = 62 ∨ y = 61) (h : isS B N y (.inr (κ, o, l)) = true) : gCmp B N sumf (.inr (κ, o, l)) = sE (20000 + y) (sumf (.inr (adv B N κ, o, l))) := by
  rw [gCmp, if_pos, show vl B N (.inr (κ, o, l)) = y from (isS_k h).2]
  · rfl
  rw [Bool.or_eq_true, Bool.or_eq_true]
  rcases hy with rfl | rfl | rfl
  · exact Or.inl h
  · exact Or.inr (Or.inl h)
  · exact Or.inr (Or.inr h)
/-- one test -/
theorem rd_fact {n : Nat} (hB : BB B) (hrec : ∀ m, n = m + 1 → RDT d bk B N tb X v K (gF B N m) m 3 4 3 (fun _ => True) ∧ RDT d bk B N tb X v K (gTest B N (gF B N m)) m 5 1 1 (fun κ => ¬ isW B N ((24 : Nat) : Int) (.inr (κ, 0, [])) = true ∧ ¬ isW B N ((23 : Nat) : Int) (.inr (κ, 0, [])) = true)) : RDT d bk B N tb X v K (gFact B N (gS B N n) (recf B N n)) n 3 4 3 (fun _ => True) := by
  intro M κ o l S D kn bs hT hA hF h52 hkn htop hno hl hDn hS hE hK
  have hκ := hA.1.2.2.2.1
  have hN := hT.2.1
  have l16 : l.length < 1600 := by omega
  have hts := ts_k hkn
  have hf : (isTs kn && decide ((1 : Int) = 1)) = true := by rw [hts]; rfl
  have ikn : inR kn := by omega
  by_cases q25 : isW B N ((25 : Nat) : Int) (.inr (κ, o, l)) = true
  · have k1 := (isW_k q25).1
    have ad := adv_p hT.1 hN hκ (by omega)
    have eg := gf_not (sumf := gS B N n) (rcf := recf B N n) q25
    refine l204s (d := d) hT hA hF h52 (by simp) ikn (fun h4 => by omega) (fun hc => ?_)
    refine p_not (d := d) hT hA hF hc (by omega) hf q25 (fun h7 M2 f2 g2 => ?_) (fun h7 M2 A2 T2 e2 g2 => ?_)
    · rw [if_neg h7] at eg
      exact hE _ eg M2 f2 (fA_d g2 (by omega))
    · rw [if_pos h7] at eg
      obtain ⟨m, rfl⟩ : ∃ m, n = m + 1 := ⟨n - 1, by omega⟩
      have g2' : fA bk D M M2 := fA_d g2 (by omega)
      rw [show recf B N (m + 1) = gF B N m from rfl] at eg
      refine (hrec m rfl).1 M2 (adv B N κ) (o + 1) l (S ++ [20025]) D kn bs (TX_A hT g2') A2 T2 e2 hkn (top_p htop.1 (by decide)) (by omega) (by omega) (by omega) (by rw [List.length_append, List.length_singleton]; omega) (fun e he M3 f3 g3 => ?_) (fun κ2 l1 Q2 ph he hQ hph har _ M3 A3 T3 e3 g3 => ?_)
      · refine hE e ?_ M3 f3 (fA_t g2' g3)
        show gFact B N (gS B N (m + 1)) (gF B N m) _ = _
        rw [eg, he]; rfl
      · have bb := GD_b (GD_F hT.1 hN m) (by omega) ad.2 (by omega) he
        refine hK κ2 l1 (Q2 ++ [20025]) ph ?_ (fun c hc => ?_) hph har trivial M3 ?_ T3 e3 (fA_t g2' g3)
        · show gFact B N (gS B N (m + 1)) (gF B N m) _ = _
          rw [eg, he, show sO (fun o => o - 1) (.inr (κ2, o + 1, l1 ++ Q2)) = .inr (κ2, o, l1 ++ Q2) from rfl, sE_l (by omega), List.append_assoc]
        · rcases List.mem_append.mp hc with z | z
          · exact hQ c z
          · rw [List.mem_singleton.mp z]; decide
        · rw [nn_p, show nn [20025] = 1 from rfl, List.reverse_append, List.reverse_singleton, ← List.append_assoc, show o + (nn Q2 + 1) = o + 1 + nn Q2 by omega]
          exact A3
  · by_cases q91 : isS B N 91 (.inr (κ, o, l)) = true
    · have k3 := (isS_k q91).1
      have ad := adv_p hT.1 hN hκ (by omega)
      have eg := gf_brk (sumf := gS B N n) (rcf := recf B N n) q91
      refine l204s (d := d) hT hA hF h52 (by simp) ikn (fun h4 => by omega) (fun hc => ?_)
      refine p_brk (d := d) hT hA hF hc h52 (by omega) hf q91 (fun h7 M2 f2 g2 => ?_) (fun h7 M2 A2 T2 T2' e2 g2 => ?_)
      · rw [if_neg h7] at eg
        exact hE _ eg M2 f2 g2
      · rw [if_pos h7] at eg
        obtain ⟨m, rfl⟩ : ∃ m, n = m + 1 := ⟨n - 1, by omega⟩
        rw [show recf B N (m + 1) = gF B N m from rfl] at eg
        refine (hrec m rfl).2 M2 (adv B N κ) (o + 1) l S (D + 1) 5 S.length (TX_A hT g2) A2 T2 e2 (by simp) ⟨Nat.le_refl _, Or.inl rfl⟩ (by omega) (by omega) (by omega) (by omega) (fun e he M3 f3 g3 => ?_) (fun κ2 l1 Q2 ph he hQ hph har hfin M3 A3 T3 e3 g3 => ?_)
        · refine hE e ?_ M3 f3 (fA_t g2 (fA_d g3 (by omega)))
          show gFact B N (gS B N (m + 1)) (gF B N m) _ = _
          rw [eg, he]; rfl
        · have bb := GD_b (GD_T hT.1 hN m) (by omega) ad.2 (by omega) he
          have lq : l1.length + Q2.length < κ2.1 := by have := bb.1; rw [List.length_append] at this; exact this
          have T3' := TF_A T2' g3 (by omega)
          have g13 := fA_t g2 (fA_d g3 (by omega))
          refine l205s (d := d) (TX_A hT g13) A3 T3 e3 (by omega) (by omega) (fun h4 M4 f4 g4 => ?_) (fun hc3 => ?_)
          · refine hE _ ?_ M4 f4 (fA_t g13 (fA_d g4 (by omega)))
            show gFact B N (gS B N (m + 1)) (gF B N m) _ = _
            rw [eg, he, sS_n (fun z => by have := (isS_k z).1; omega)]; rfl
          · refine g_cls (d := d) (D := D) (op := o) (Q := Q2) (o := o + 1) (y := 93) (c := 0) (TX_A hT g13) A3 T3 T3' hc3 (Or.inr (Or.inr ⟨rfl, rfl⟩)) (by omega) (fun _ => ⟨by omega, hfin.1, hfin.2⟩) (fun z => by rw [ar_s]; exact har z) ⟨Nat.le_refl _, Or.inl rfl⟩ hQ (by omega) e3 (fun z => by omega) (fun hn M4 f4 g4 => ?_) (fun hy M4 A4 T4 e4 w4 g4 => ?_)
            · refine hE _ ?_ M4 f4 (fA_t g13 g4)
              show gFact B N (gS B N (m + 1)) (gF B N m) _ = _
              rw [eg, he, sS_N hn]; rfl
            · rw [if_neg (by omega)] at A4
              rw [if_pos rfl] at T4
              refine hK (adv B N κ2) (l1 ++ Q2) [] 2 ?_ (fun c hc => absurd hc List.not_mem_nil) (by simp) (fun z => absurd rfl z) trivial M4 (by rw [List.reverse_nil, List.append_nil]; exact A4) T4 e4 (fA_t g13 g4)
              show gFact B N (gS B N (m + 1)) (gF B N m) _ = _
              rw [eg, he, sS_Y hy, List.append_nil]; rfl
    · by_cases q26 : isW B N ((26 : Nat) : Int) (.inr (κ, o, l)) = true
      · have k1 := (isW_k q26).1
        have eg := gf_all (sumf := gS B N n) (rcf := recf B N n) q26 l16
        refine l204s (d := d) hT hA hF h52 (by simp) ikn (fun h4 => by omega) (fun hc => ?_)
        refine p_all (d := d) hT hA hF hc l16 hf q26 (fun M2 A2 T2 e2 g2 => ?_)
        exact hK (adv B N κ) (l ++ [20026]) [] 2 (by rw [eg, List.append_nil]) (fun c hc => absurd hc List.not_mem_nil) (by simp) (fun z => absurd rfl z) trivial M2 (by rw [List.reverse_nil, List.append_nil]; exact A2) T2 e2 g2
      · have eg := gf_els (sumf := gS B N n) (rcf := recf B N n) q25 q91 q26
        rw [eg] at hE hK
        have rS := rd_S (d := d) (bk := bk) (tb := tb) (X := X) (v := v) (K := K) hT.1 hN n
        refine rS M κ o l S D kn 0 1 bs hT hA hF h52 (by simp) (by simp) ikn (fun _ => ⟨q25, q91, q26⟩) (top_m htop (by decide)) hno hl hDn (by omega) (fun e he M2 f2 g2 => hE e (by rw [he]; rfl) M2 f2 g2) (fun κ2 l2 Q2 he hQ2 hnn2 hfin2 M2 A2 T2 e2 w2 g2 => ?_)
        have bb := GD_b (GD_S hT.1 hN n) hno hκ hl he
        have lq : l2.length + Q2.length < κ2.1 := by have := bb.1; rw [List.length_append] at this; exact this
        rw [he] at hE hK
        refine l205s (d := d) (TX_A hT g2) A2 T2 e2 ikn (by omega) (fun h4 M3 f3 g3 => ?_) (fun hc2 => ?_)
        · exact hE _ (gc_n (fun y _ z => by have := (isS_k z).1; omega)) M3 f3 (fA_t g2 g3)
        · by_cases qc : ∃ y, (y = 60 ∨ y = 62 ∨ y = 61) ∧ isS B N y (.inr (κ2, o, l2)) = true
          · obtain ⟨y, hy, qy⟩ := qc
            have k3 := (isS_k qy).1
            have ad := adv_p hT.1 hN bb.2.2 (by omega)
            rw [gc_y hy (show isS B N y (.inr (κ2, o, l2 ++ Q2)) = true from qy)] at hE hK
            have ry : rk (20000 + y) = 4 := by rcases hy with rfl | rfl | rfl <;> rfl
            refine g_cm (d := d) (op := o) (Q := Q2) (S0 := S) (TX_A hT g2) (by rw [hnn2]; exact A2) T2 hc2 hts hy qy (top_m htop (by decide)) hQ2 (by omega) (by omega) (fun M3 A3 T3 e3 g3 => ?_)
            have g13 := fA_t g2 g3
            have lQ : (l2 ++ Q2).length < (adv B N κ2).1 := by rw [List.length_append]; omega
            refine rS M3 (adv B N κ2) o (l2 ++ Q2) (S ++ [20000 + y]) D kn 1 0 bs (TX_A hT g13) A3 T3 e3 (by simp) (by simp) ikn (fun z => by simp at z) (top_p htop.1 (by omega)) hno lQ hDn (by rw [List.length_append, List.length_singleton]; omega) (fun e he2 M4 f4 g4 => hE e (by rw [he2]; rfl) M4 f4 (fA_t g13 g4)) (fun κ4 l4 Q4 he4 hQ4 hnn4 hfin4 M4 A4 T4 e4 w4 g4 => ?_)
            have b4 := GD_b (GD_S hT.1 hN n) hno ad.2 lQ he4
            have n4 : nn [20000 + y] = 0 := nn_0 (fun c hc => by rw [List.mem_singleton.mp hc]; omega)
            refine hK κ4 l4 (Q4 ++ [20000 + y]) 1 ?_ (fun c hc => ?_) (by simp) (fun _ => hfin4) trivial M4 ?_ T4 e4 (fA_t g13 g4)
            · rw [he4, sE_l (by omega), List.append_assoc]
            · rcases List.mem_append.mp hc with z | z
              · have := hQ4 c z; omega
              · rw [List.mem_singleton.mp z]; omega
            · rw [nn_p, n4, hnn4, List.reverse_append, List.reverse_singleton, ← List.append_assoc]
              exact A4
          · have nc : ∀ y, y = 60 ∨ y = 62 ∨ y = 61 → ¬ isS B N y (.inr (κ2, o, l2)) = true := fun y hy z => qc ⟨y, hy, z⟩
            exact g_bad (d := d) A2 T2 hc2 hts (by rw [ar_s]; exact hfin2) nc (fun M3 f3 g3 => hE _ (gc_n (fun y hy z => nc y hy z)) M3 f3 (fA_t g2 g3))
end RFae
