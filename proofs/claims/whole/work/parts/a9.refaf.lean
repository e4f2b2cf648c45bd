/-! The reference's reader of formulas: tests joined. -/
section RFaf
variable {d b w bk D : Nat} {X : Nat × (Nat → Int)} {v : Nat → Int} {M M' M2 : PH} {K : PV → PS → Prop} {B : Nat → Int} {N : Nat} {κ : KP} {e : Int × Int} {o op : Nat} {l S S0 Q : List Int} {s : ST} {kn ph bg tb : Int} {bs : Nat}
/-- the loop behind a test -/
theorem rd_bl {n w k0 : Nat} {lt lv lw : Int} {ψ : ST → ST} {fin0 : KP → Prop} {c0 : Int} (hc0 : c0 = 20000 + (k0 : Int)) (hk0 : (k0 = 24 ∧ lv = 2) ∨ (k0 = 23 ∧ lv = 1)) (hlt : lv < lt) (hlw : lv ≤ lw) (hψ : RDT d bk B N tb X v K ψ n w lt lw fin0) {E : Nat} {t : Bool} (gd : GD B N n E t ψ) : ∀ (k : Nat) (M : PH) (κ : KP) (o : Nat) (l S Q : List Int) (D : Nat) (kn ph : Int) (bs : Nat), N < k + κ.1 → κ.1 ≤ N → TX M B N → AS M bk B N κ (o + nn Q) l (S ++ Q.reverse) D → TF M D kn ph 0 bs → M 234 52 = 1 → (ph = 1 ∨ ph = 2) → (ph ≠ 2 → ¬ (psS B N κ || muS B N κ) = true) → (kn = 1 ∨ kn = 5) → top S bs lv → 7 ≤ n + o → l.length + Q.length < κ.1 → D + n ≤ 12 → S.length + w + 1 + 6 * n ≤ 60 → (∀ c ∈ Q, lv ≤ rk c) → fin0 κ → (∀ e, gLoop (isW B N (k0 : Int)) (fun s => sE c0 (ψ (sA B N s))) k (.inr (κ, o, l ++ Q)) = .inl e → ∀ M', FL M' e → fA bk D M M' → K PU (GF X, M', PTF v)) → (∀ (κ' : KP) (l1 Q' : List Int) (ph' : Int), gLoop (isW B N (k0 : Int)) (fun s => sE c0 (ψ (sA B N s))) k (.inr (κ, o, l ++ Q)) = .inr (κ', o, l1 ++ Q') → (∀ c ∈ Q', lv ≤ rk c) → (ph' = 1 ∨ ph' = 2) → (ph' ≠ 2 → ¬ (psS B N κ' || muS B N κ') = true) → (fin0 κ' ∧ ¬ isW B N (k0 : Int) (.inr (κ', 0, [])) = true) → ∀ M', AS M' bk B N κ' (o + nn Q') l1 (S ++ Q'.reverse) D → TF M' D kn ph' 0 bs → M' 234 52 = 1 → fA bk D M M' → pm_Run (d + 6) 206 43 [vA 234, vI tb, vI 1] [] (GF X, M', PTF v) K) → pm_Run (d + 6) 206 43 [vA 234, vI tb, vI 1] [] (GF X, M, PTF v) K
  | 0 => fun M κ o l S Q D kn ph bs h0 hκ => by omega
  | k + 1 => by
    intro M κ o l S Q D kn ph bs h0 hκ hT hA hF h52 hph har hkn htop hno hl hDn hS hQ hfin hE hK
    have hN := hT.2.1
    have ikn : inR kn := by omega
    rw [gLoop] at hE hK
    by_cases q : isW B N (k0 : Int) (.inr (κ, o, l ++ Q)) = true
    · have k1 := isW_k q
      have ad := adv_p hT.1 hN hκ (by omega)
      rw [if_pos q] at hE hK
      have lQ : (l ++ Q).length < (adv B N κ).1 := by rw [List.length_append]; omega
      have ry : rk c0 = lv := by rcases hk0 with ⟨rfl, rfl⟩ | ⟨rfl, rfl⟩ <;> (rw [hc0]; rfl)
      refine l205s (d := d) hT hA hF h52 ikn (by omega) (fun h4 => by omega) (fun hc => ?_)
      refine g_bo (d := d) (bk := bk) (op := o) (o := o) (l := l) (Q := Q) (S0 := S) (k := k0) (lv := lv) hT hA hF hc (ts_k hkn) hph hk0 (show isW B N (k0 : Int) (.inr (κ, o, l)) = true from q) htop hQ (by omega) (by omega) (fun M1 A1 T1 e1 g1 => ?_)
      rw [← hc0] at A1
      refine hψ M1 (adv B N κ) o (l ++ Q) (S ++ [c0]) D kn bs (TX_A hT g1) A1 T1 e1 hkn (top_p htop.1 (by omega)) hno lQ hDn (by rw [List.length_append, List.length_singleton]; omega) (fun e he M2 f2 g2 => ?_) (fun κ2 l2 Q2 ph2 he hQ2 hph2 har2 hfin2 M2 A2 T2 e2 g2 => ?_)
      · refine hE e ?_ M2 f2 (fA_t g1 g2)
        rw [show sA B N (.inr (κ, o, l ++ Q)) = .inr (adv B N κ, o, l ++ Q) from rfl, he, show sE c0 (.inl e) = .inl e from rfl]
        cases k with
        | zero => rfl
        | succ k => rfl
      · have bb := GD_b gd hno ad.2 lQ he
        have lq : l2.length + Q2.length < κ2.1 := by have := bb.1; rw [List.length_append] at this; exact this
        have es : sE c0 (.inr (κ2, o, l2 ++ Q2)) = .inr (κ2, o, l2 ++ (Q2 ++ [c0])) := by
          rw [sE_l (by rw [List.length_append]; omega), List.append_assoc]
        rw [show sA B N (.inr (κ, o, l ++ Q)) = .inr (adv B N κ, o, l ++ Q) from rfl, he, es] at hE hK
        obtain ⟨-, x, x1, x2, x3, -⟩ := gd _ _ _ _ hno ad.2 (by omega) he
        have x1 : l2 ++ Q2 = l ++ Q ++ x := x1
        have x3 : (adv B N κ).1 + x.length ≤ κ2.1 := x3
        have xl : l2.length + Q2.length = l.length + Q.length + x.length := by have := congrArg List.length x1; simp only [List.length_append] at this; omega
        have n0 : nn [c0] = 0 := by rcases hk0 with ⟨rfl, rfl⟩ | ⟨rfl, rfl⟩ <;> (rw [hc0]; rfl)
        refine rd_bl hc0 hk0 hlt hlw hψ gd k M2 κ2 o l2 S (Q2 ++ [c0]) D kn ph2 bs (by omega) bb.2.2 (TX_A hT (fA_t g1 g2)) (by rw [nn_p, n0, List.reverse_append, List.reverse_singleton, ← List.append_assoc]; exact A2) T2 e2 hph2 har2 hkn htop hno (by rw [List.length_append, List.length_singleton]; omega) hDn hS (fun c hc => ?_) hfin2 (fun e he2 M3 f3 g3 => hE e he2 M3 f3 (fA_t (fA_t g1 g2) g3)) (fun κ3 l3 Q3 ph3 he3 hQ3 hph3 har3 hfin3 M3 A3 T3 e3 g3 => hK κ3 l3 Q3 ph3 he3 hQ3 hph3 har3 hfin3 M3 A3 T3 e3 (fA_t (fA_t g1 g2) g3))
        rcases List.mem_append.mp hc with z | z
        · have := hQ2 c z; omega
        · rw [List.mem_singleton.mp z]; omega
    · rw [if_neg q] at hK
      exact hK κ l Q ph rfl hQ hph har ⟨hfin, q⟩ M hA hF h52 fA_r
/-- a test, and the loop behind it -/
theorem rd_tl {n w k0 : Nat} {lt lv lw : Int} {ψ : ST → ST} {fin0 : KP → Prop} {c0 : Int} (hc0 : c0 = 20000 + (k0 : Int)) (hk0 : (k0 = 24 ∧ lv = 2) ∨ (k0 = 23 ∧ lv = 1)) (hlt : lv < lt) (hlw : lv ≤ lw) (hψ : RDT d bk B N tb X v K ψ n w lt lw fin0) {E : Nat} {t : Bool} (gd : GD B N n E t ψ) : RDT d bk B N tb X v K (fun s => gLoop (isW B N (k0 : Int)) (fun s => sE c0 (ψ (sA B N s))) 1600 (ψ s)) n (w + 1) lv lv (fun κ => fin0 κ ∧ ¬ isW B N (k0 : Int) (.inr (κ, 0, [])) = true) := by
  intro M κ o l S D kn bs hT hA hF h52 hkn htop hno hl hDn hS hE hK
  have hκ := hA.1.2.2.2.1
  have hN := hT.2.1
  refine hψ M κ o l S D kn bs hT hA hF h52 hkn (top_m htop (by omega)) hno hl hDn (by omega) (fun e he M2 f2 g2 => hE e ?_ M2 f2 g2) (fun κ2 l2 Q2 ph2 he hQ2 hph2 har2 hfin2 M2 A2 T2 e2 g2 => ?_)
  · show gLoop _ _ 1600 (ψ (.inr (κ, o, l))) = _
    rw [he]; rfl
  · have bb := GD_b gd hno hκ hl he
    have lq : l2.length + Q2.length < κ2.1 := by have := bb.1; rw [List.length_append] at this; exact this
    have ev : (fun s => gLoop (isW B N (k0 : Int)) (fun s => sE c0 (ψ (sA B N s))) 1600 (ψ s)) (.inr (κ, o, l)) = gLoop (isW B N (k0 : Int)) (fun s => sE c0 (ψ (sA B N s))) 1600 (.inr (κ2, o, l2 ++ Q2)) := by
      show gLoop _ _ 1600 (ψ (.inr (κ, o, l))) = _
      rw [he]
    rw [ev] at hE hK
    exact rd_bl hc0 hk0 hlt hlw hψ gd 1600 M2 κ2 o l2 S Q2 D kn ph2 bs (by omega) bb.2.2 (TX_A hT g2) A2 T2 e2 hph2 har2 hkn htop hno lq hDn (by omega) (fun c hc => by have := hQ2 c hc; omega) hfin2 (fun e he2 M3 f3 g3 => hE e he2 M3 f3 (fA_t g2 g3)) (fun κ3 l3 Q3 ph3 he3 hQ3 hph3 har3 hfin3 M3 A3 T3 e3 g3 => hK κ3 l3 Q3 ph3 he3 hQ3 hph3 har3 hfin3 M3 A3 T3 e3 (fA_t g2 g3))
theorem rd_FT (hB : BB B) (hN : N ≤ 1600) : ∀ n, RDT d bk B N tb X v K (gF B N n) n 3 4 3 (fun _ => True) ∧ RDT d bk B N tb X v K (gTest B N (gF B N n)) n 5 1 1 (fun κ => ¬ isW B N ((24 : Nat) : Int) (.inr (κ, 0, [])) = true ∧ ¬ isW B N ((23 : Nat) : Int) (.inr (κ, 0, [])) = true) := by
  intro n
  induction n using Nat.strongRecOn with
  | _ n ih =>
  have r1 : RDT d bk B N tb X v K (gF B N n) n 3 4 3 (fun _ => True) := by
    rw [gF_r]
    exact rd_fact hB (fun m hm => ih m (by omega))
  have ok := opk_gF (B := B) (N := N) n
  have g1 := GD_F hB hN n
  have r2 := rd_tl (k0 := 24) (lv := 2) (c0 := 20024) rfl (Or.inl ⟨rfl, rfl⟩) (by decide) (by decide) r1 g1
  have r3 := rd_tl (k0 := 23) (lv := 1) (c0 := 20023) rfl (Or.inr ⟨rfl, rfl⟩) (by decide) (by decide) r2 (GD_Both hB hN ok.1 ok.2 g1)
  refine ⟨r1, ?_⟩
  intro M κ o l S D kn bs hT hA hF h52 hkn htop hno hl hDn hS hE hK
  exact r3 M κ o l S D kn bs hT hA hF h52 hkn htop hno hl hDn hS hE (fun κ' l1 Q ph he hQ hph har hfin => hK κ' l1 Q ph he hQ hph har ⟨hfin.1.2, hfin.2⟩)
end RFaf
