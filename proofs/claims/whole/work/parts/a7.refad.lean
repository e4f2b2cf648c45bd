/-! The reference's reader of formulas: products and sums. -/
section RFad
variable {d b w bk D : Nat} {X : Nat × (Nat → Int)} {v : Nat → Int} {M M' M2 : PH} {K : PV → PS → Prop} {B : Nat → Int} {N : Nat} {κ : KP} {e : Int × Int} {o op : Nat} {l S S0 Q : List Int} {s : ST} {kn ph bg tb : Int} {bs : Nat} {rec : ST → ST}
theorem top_m {lv lw : Int} (h : top S bs lv) (hl : lv ≤ lw) : top S bs lw := ⟨h.1, h.2.elim Or.inl (fun ⟨a, b⟩ => Or.inr ⟨a, by omega⟩)⟩
theorem top_p {c lw : Int} (h : bs ≤ S.length) (hc : rk c < lw) : top (S ++ [c]) bs lw := by
  refine ⟨by rw [List.length_append]; omega, Or.inr ⟨by rw [List.length_append, List.length_singleton]; omega, ?_⟩⟩
  simpa using hc
theorem sE_l {c : Int} (hl : l.length < 1600) : sE c (.inr (κ, o, l)) = .inr (κ, o, l ++ [c]) := by
  show (Sum.inr (κ, o, if l.length < 1600 then l ++ [c] else l) : ST) = _
  rw [if_pos hl]
/-- the loop behind an operand of a sum -/
theorem rd_lp {n w : Nat} {lv lw : Int} {ψ : ST → ST} {fin0 : KP → Prop} {p : KP → Bool} {P : ST → Bool} (hP : ∀ κ o l, P (.inr (κ, o, l)) = p κ) (hPi : ∀ e, P (.inl e) = false) (hp : ∀ κ, p κ = true → ∃ y, ((lv = 5 ∧ (y = 43 ∨ y = 45)) ∨ (lv = 6 ∧ (y = 42 ∨ y = 47 ∨ y = 37))) ∧ isS B N y (.inr (κ, 0, [])) = true) (hlv : lv = 5 ∨ lv = 6) (hlw : lv < lw) (hψ : RDS d bk B N tb X v K ψ n w lw fin0) {E : Nat} {t : Bool} (gd : GD B N n E t ψ) : ∀ (k : Nat) (M : PH) (κ : KP) (o : Nat) (l S Q : List Int) (D : Nat) (kn ph : Int) (bs : Nat), N < k + κ.1 → κ.1 ≤ N → TX M B N → AS M bk B N κ o l (S ++ Q.reverse) D → TF M D kn ph 0 bs → M 234 52 = 1 → (ph = 0 ∨ ph = 1) → inR kn → top S bs lv → 7 ≤ n + o → l.length + Q.length < κ.1 → D + n ≤ 12 → S.length + w + 1 + 6 * n ≤ 60 → (∀ c ∈ Q, lv ≤ rk c) → fin0 κ → (∀ e, gLoop P (fun s => sE (20000 + vl B N s) (ψ (sA B N s))) k (.inr (κ, o, l ++ Q)) = .inl e → ∀ M', FL M' e → fA bk D M M' → K PU (GF X, M', PTF v)) → (∀ (κ' : KP) (l1 Q' : List Int), gLoop P (fun s => sE (20000 + vl B N s) (ψ (sA B N s))) k (.inr (κ, o, l ++ Q)) = .inr (κ', o, l1 ++ Q') → (∀ c ∈ Q', lv ≤ rk c) → nn Q' = 0 → (fin0 κ' ∧ ¬ p κ' = true) → ∀ M', AS M' bk B N κ' o l1 (S ++ Q'.reverse) D → TF M' D kn ph 0 bs → M' 234 52 = 1 → M' 266 D = M 266 D → fA bk D M M' → pm_Run (d + 6) 206 43 [vA 234, vI tb, vI 1] [] (GF X, M', PTF v) K) → pm_Run (d + 6) 206 43 [vA 234, vI tb, vI 1] [] (GF X, M, PTF v) K
  | 0 => fun M κ o l S Q D kn ph bs h0 hκ => by omega
  | k + 1 => by
    intro M κ o l S Q D kn ph bs h0 hκ hT hA hF h52 hph hkn htop hno hl hDn hS hQ hfin hE hK
    have hN := hT.2.1
    have hnn := nn_0 (Q := Q) (fun c hc => by have := hQ c hc; omega)
    rw [gLoop, hP] at hE hK
    by_cases q : p κ = true
    · obtain ⟨y, hy, qy⟩ := hp κ q
      have k3 := isS_k qy
      have ad := adv_p hT.1 hN hκ (by omega)
      rw [if_pos q] at hE hK
      have ev : (sE (20000 + vl B N (.inr (κ, o, l ++ Q))) (ψ (sA B N (.inr (κ, o, l ++ Q))))) = sE (20000 + y) (ψ (.inr (adv B N κ, o, l ++ Q))) := by
        rw [show vl B N (.inr (κ, o, l ++ Q)) = y from k3.2]; rfl
      rw [ev] at hE hK
      have lQ : (l ++ Q).length < (adv B N κ).1 := by rw [List.length_append]; omega
      refine l205s (d := d) hT hA hF h52 hkn (by omega) (fun h4 => by omega) (fun hc => ?_)
      refine g_ar (d := d) (bk := bk) (op := o) (o := 0) (l := l) (Q := Q) (S0 := S) (y := y) (lv := lv) hT (by rw [hnn]; exact hA) hF hc hph hy (show isS B N y (.inr (κ, 0, l)) = true from qy) htop hQ (by omega) (by omega) (fun M1 A1 T1 e1 g1 => ?_)
      have g1' : fA bk D M M1 := (fA_d g1 (by omega))
      have ry : rk (20000 + y) = lv := by rcases hy with ⟨rfl, rfl | rfl⟩ | ⟨rfl, rfl | rfl | rfl⟩ <;> rfl
      refine hψ M1 (adv B N κ) o (l ++ Q) (S ++ [20000 + y]) D kn ph 0 bs (TX_A hT g1) A1 T1 e1 hph (by simp) hkn (fun z => by simp at z) (top_p htop.1 (by omega)) hno lQ hDn (by rw [List.length_append, List.length_singleton]; omega) (fun e he M2 f2 g2 => ?_) (fun κ2 l2 Q2 he hQ2 hnn2 hfin2 M2 A2 T2 e2 w2 g2 => ?_)
      · refine hE e ?_ M2 f2 (fA_t g1' g2)
        rw [he, show sE (20000 + y) (.inl e) = .inl e from rfl]
        cases k with
        | zero => rfl
        | succ k => rw [gLoop, hPi]; rfl
      · have bb := GD_b gd hno ad.2 lQ he
        have lq : l2.length + Q2.length < κ2.1 := by have := bb.1; rw [List.length_append] at this; exact this
        have es : sE (20000 + y) (.inr (κ2, o, l2 ++ Q2)) = .inr (κ2, o, l2 ++ (Q2 ++ [20000 + y])) := by
          rw [sE_l (by rw [List.length_append]; omega), List.append_assoc]
        rw [he, es] at hE hK
        have gd2 := gd _ _ _ _ hno ad.2 (by omega) he
        obtain ⟨-, x, x1, x2, x3, -⟩ := gd2
        have x1 : l2 ++ Q2 = l ++ Q ++ x := x1
        have x3 : (adv B N κ).1 + x.length ≤ κ2.1 := x3
        have xl : l2.length + Q2.length = l.length + Q.length + x.length := by have := congrArg List.length x1; simp only [List.length_append] at this; omega
        refine rd_lp hP hPi hp hlv hlw hψ gd k M2 κ2 o l2 S (Q2 ++ [20000 + y]) D kn ph bs (by omega) bb.2.2 (TX_A hT (fA_t g1' g2)) (by rw [List.reverse_append, List.reverse_singleton, ← List.append_assoc]; exact A2) T2 e2 hph hkn htop hno (by rw [List.length_append, List.length_singleton]; omega) hDn hS (fun c hc => ?_) hfin2 (fun e he2 M3 f3 g3 => hE e he2 M3 f3 (fA_t (fA_t g1' g2) g3)) (fun κ3 l3 Q3 he3 hQ3 hnn3 hfin3 M3 A3 T3 e3 w3 g3 => hK κ3 l3 Q3 he3 hQ3 hnn3 hfin3 M3 A3 T3 e3 ((w3.trans w2).trans (fA_66 g1)) (fA_t (fA_t g1' g2) g3))
        rcases List.mem_append.mp hc with z | z
        · have := hQ2 c z; omega
        · rw [List.mem_singleton.mp z]; omega
    · rw [if_neg q] at hK
      exact hK κ l Q rfl hQ hnn ⟨hfin, q⟩ M hA hF h52 rfl fA_r
/-- an operand, and the loop behind it -/
theorem rd_ol {n w : Nat} {lv lw : Int} {ψ : ST → ST} {fin0 : KP → Prop} {p : KP → Bool} {P : ST → Bool} (hP : ∀ κ o l, P (.inr (κ, o, l)) = p κ) (hPi : ∀ e, P (.inl e) = false) (hp : ∀ κ, p κ = true → ∃ y, ((lv = 5 ∧ (y = 43 ∨ y = 45)) ∨ (lv = 6 ∧ (y = 42 ∨ y = 47 ∨ y = 37))) ∧ isS B N y (.inr (κ, 0, [])) = true) (hlv : lv = 5 ∨ lv = 6) (hlw : lv < lw) (hψ : RDS d bk B N tb X v K ψ n w lw fin0) {E : Nat} {t : Bool} (gd : GD B N n E t ψ) : RDS d bk B N tb X v K (fun s => gLoop P (fun s => sE (20000 + vl B N s) (ψ (sA B N s))) 1600 (ψ s)) n (w + 1) lv (fun κ => fin0 κ ∧ ¬ p κ = true) := by
  intro M κ o l S D kn ph bg bs hT hA hF h52 hph hbg hkn hfst htop hno hl hDn hS hE hK
  have hκ := hA.1.2.2.2.1
  have hN := hT.2.1
  refine hψ M κ o l S D kn ph bg bs hT hA hF h52 hph hbg hkn hfst (top_m htop (by omega)) hno hl hDn (by omega) (fun e he M2 f2 g2 => hE e ?_ M2 f2 g2) (fun κ2 l2 Q2 he hQ2 hnn2 hfin2 M2 A2 T2 e2 w2 g2 => ?_)
  · show gLoop P _ 1600 (ψ (.inr (κ, o, l))) = _
    rw [he, gLoop, hPi]; rfl
  · have bb := GD_b gd hno hκ hl he
    have lq : l2.length + Q2.length < κ2.1 := by have := bb.1; rw [List.length_append] at this; exact this
    have ev : (fun s => gLoop P (fun s => sE (20000 + vl B N s) (ψ (sA B N s))) 1600 (ψ s)) (.inr (κ, o, l)) = gLoop P (fun s => sE (20000 + vl B N s) (ψ (sA B N s))) 1600 (.inr (κ2, o, l2 ++ Q2)) := by
      show gLoop P _ 1600 (ψ (.inr (κ, o, l))) = _
      rw [he]
    rw [ev] at hE hK
    exact rd_lp hP hPi hp hlv hlw hψ gd 1600 M2 κ2 o l2 S Q2 D kn ph bs (by omega) bb.2.2 (TX_A hT g2) A2 T2 e2 hph hkn htop hno lq hDn (by omega) (fun c hc => by have := hQ2 c hc; omega) hfin2 (fun e he2 M3 f3 g3 => hE e he2 M3 f3 (fA_t g2 g3)) (fun κ3 l3 Q3 he3 hQ3 hnn3 hfin3 M3 A3 T3 e3 w3 g3 => hK κ3 l3 Q3 he3 hQ3 hnn3 hfin3 M3 A3 T3 e3 (w3.trans w2) (fA_t g2 g3))
/-- sums within n marks -/
theorem rd_S (hT : BB B) (hN : N ≤ 1600) : ∀ n, RDS d bk B N tb X v K (gS B N n) n 2 5 (fun κ => ¬ (psS B N κ || muS B N κ) = true) := by
  intro n
  induction n using Nat.strongRecOn with
  | _ n ih =>
  have r1 : RDS d bk B N tb X v K (gPart B N (recn B N n)) n 0 7 (fun _ => True) := rd_part (fun m hm => ih m (by omega))
  have ok := opk_r (B := B) (N := N) n
  have gr : ∀ m, n = m + 1 → GD B N m (3 * n + 4) false (recn B N n) := fun m hm => by
    subst hm
    exact GD_m (GD_S hT hN m) (by omega)
  have g1 := GD_Part (n := n) hT hN ok.1 ok.2 (by omega) gr
  have r2 := rd_ol (P := fun s => isS B N 42 s || (isS B N 47 s || isS B N 37 s)) (p := muS B N) (fun κ o l => rfl) (fun e => rfl) (fun κ q => by
    unfold muS at q
    rw [Bool.or_eq_true, Bool.or_eq_true] at q
    rcases q with q | q | q
    · exact ⟨42, by simp, q⟩
    · exact ⟨47, by simp, q⟩
    · exact ⟨37, by simp, q⟩) (Or.inr rfl) (by decide) r1 g1
  have r3 := rd_ol (P := fun s => isS B N 43 s || isS B N 45 s) (p := psS B N) (fun κ o l => rfl) (fun e => rfl) (fun κ q => by
    unfold psS at q
    rw [Bool.or_eq_true] at q
    rcases q with q | q
    · exact ⟨43, by simp, q⟩
    · exact ⟨45, by simp, q⟩) (Or.inl rfl) (by decide) r2 (GD_Prod hT hN ok.1 ok.2 g1)
  intro M κ o l S D kn ph bg bs hT hA hF h52 hph hbg hkn hfst htop hno hl hDn hS hE hK
  have er : gS B N n (.inr (κ, o, l)) = gSum B N (recn B N n) (.inr (κ, o, l)) := by rw [gS_r]
  rw [er] at hE hK
  exact r3 M κ o l S D kn ph bg bs hT hA hF h52 hph hbg hkn hfst htop hno hl hDn (by omega) hE (fun κ' l1 Q he hQ hnn hfin => hK κ' l1 Q he hQ hnn (fun z => by
    rw [Bool.or_eq_true] at z
    exact z.elim hfin.2 hfin.1.2))
end RFad
