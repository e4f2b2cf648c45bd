/-! Products, sums, facts, tests. -/
section CG2
variable {d c N : Nat} {X : Nat × (Nat → Int)} {v : Nat → Int} {M M' : PH} {K : PV → PS → Prop} {B : Nat → Int} {s : ST} {rec recf sumf f : ST → ST} {n D : Nat}
theorem vl_b (hE : PEn v M c B N) {x : KP × Nat × List Int} (hP : PSt M c B N (.inr x)) : M 32 7 = vl B N (.inr x) ∧ -128 ≤ vl B N (.inr x) ∧ vl B N (.inr x) < 1073741824 := by
  have := (tk_b hE.2.2.2.1 hE.2.2.2.2.2 (i := x.1.1) (w := x.1.2) hP.2.2.2.1).2.2.2.1
  exact ⟨hP.2.2.1.2.2.2.2.2.1, this.1, this.2⟩
theorem t95 (ho : opk rec) (hk : kf rec) (hp : TR D 96 [vA 31] c B N n (gPart B N rec)) (hD : 4 ≤ D) : TR (D + 1) 95 [vA 31] c B N n (gProd B N rec) := by
  intro d X v M K s hE hd hP hK
  show pm_Call (d + D + 1) 95 _ _ _
  rw [en95, r95_0]
  refine TRe hp (by omega) hE hd hP (fun M2 f2 p2 => ?_)
  rw [push_u, r95_4]
  have hb := opk_vl (f := fun z => 20000 + z) (B := B) (N := N) (gPart B N rec) (opk_Part ho hk) kf_Part
  have main : ∀ (k i : Nat), i + k = 1600 → ∀ (M' : PH) (s' : ST) (l2 : PV), frQ c M M' → dep n s' → PSt M' c B N s' → (∀ M'', frQ c M M'' → PSt M'' c B N (gLoop (fun s => isS B N 42 s || (isS B N 47 s || isS B N 37 s)) (fun s => sE (20000 + vl B N s) (gPart B N rec (sA B N s))) k s') → K PU (GF X, M'', PTF v)) → pm_Run (d + D) 95 6 [vA 31, vI (i : Int), l2] [] (GF X, M', PTF v) K := by
    intro k
    induction k with
    | zero =>
      intro i hi M' s' l2 g1 g2 g3 g4
      rw [r95_6 (by omega), if_pos (by omega), r95_70]
      exact g4 M' g1 g3
    | succ k ih =>
      intro i hi M' s' l2 g1 g2 g3 g4
      have hE' := PEn_f hE g1
      rw [gLoop] at g4
      have go : (isS B N 42 s' || (isS B N 47 s' || isS B N 37 s')) = true → pm_Run (d + D) 95 40 [vA 31, vI (i : Int), l2] [] (GF X, M', PTF v) K := by
        intro q
        have hx : ∃ x, s' = .inr x := by
          rcases Bool.or_eq_true_iff.mp q with h | h
          · exact isS_x h
          · rcases Bool.or_eq_true_iff.mp h with h | h
            · exact isS_x h
            · exact isS_x h
        obtain ⟨x, rfl⟩ := hx
        rw [if_pos q] at g4
        obtain ⟨e7, b1, b2⟩ := vl_b hE' g3
        rw [r95_40, e7]
        rw [show d + D = d + D - 2 + 2 by omega]
        refine c51p hE' g3 (fun M3 f3 p3 => ?_)
        rw [← show d + D = d + D - 2 + 2 by omega]
        have hE3 := PEn_f hE' f3
        have d3 := dep_e (opk_A (B := B) (N := N)) kf_A g2
        rw [push_u, r95_55]
        refine TRe hp (by omega) hE3 d3 p3 (fun M4 f4 p4 => ?_)
        rw [push_u, r95_59, show d + D = d + D - 2 + 2 by omega]
        refine c89 (PEn_f hE3 f4) p4 (by omega) (fun M5 f5 p5 => ?_)
        rw [← show d + D = d + D - 2 + 2 by omega, push_u, r95_64]
        exact ih (i + 1) (by omega) M5 _ _ (frQ_t g1 (frQ_t f3 (frQ_t f4 f5))) (dep_e hb.1 hb.2 g2) p5 g4
      have out : ¬ (isS B N 42 s' || (isS B N 47 s' || isS B N 37 s')) = true → pm_Run (d + D) 95 70 [vA 31, vI (i : Int), l2] [] (GF X, M', PTF v) K := by
        intro q
        rw [if_neg q] at g4
        rw [r95_70]
        exact g4 M' g1 g3
      have c72' : ∀ (y : Int) (K' : PV → PS → Prop), inR y → (pm_Call (d + D) 72 [vA 31, vI y] (GF X, M', PTF v) K' ↔ K' (vI (if isS B N y s' = true then 1 else 0)) (GF X, M', PTF v)) := fun y K' hy => by
        rw [show d + D = d + D - 1 + 1 by omega]
        exact c72 hE' g3 hy
      rw [r95_6 (by omega), if_neg (by omega), r95_13, c72' 42 _ (by omega), push_i, r95_19 (by have := if01 (x := isS B N 42 s'); omega)]
      by_cases q1 : isS B N 42 s' = true
      · rw [if_pos q1, if_pos (by omega)]; exact go (by rw [q1]; rfl)
      rw [if_neg q1, if_neg (by simp), r95_22, c72' 47 _ (by omega), push_i, r95_28 (by have := if01 (x := isS B N 47 s'); omega)]
      by_cases q2 : isS B N 47 s' = true
      · rw [if_pos q2, if_pos (by omega)]; exact go (by rw [q2]; simp)
      rw [if_neg q2, if_neg (by simp), r95_31, c72' 37 _ (by omega), push_i, r95_37 (by have := if01 (x := isS B N 37 s'); omega)]
      by_cases q3 : isS B N 37 s' = true
      · rw [if_pos q3, if_neg (by omega)]; exact go (by rw [q3]; simp)
      · rw [if_neg q3, if_pos rfl]; exact out (by simp [q1, q2, q3])
  exact main 1600 0 (by omega) M2 _ PU f2 (dep_e (opk_Part ho hk) kf_Part hd) p2 hK
theorem t94 (ho : opk rec) (hk : kf rec) (hp : TR D 95 [vA 31] c B N n (gProd B N rec)) (hD : 4 ≤ D) : TR (D + 1) 94 [vA 31] c B N n (gSum B N rec) := by
  intro d X v M K s hE hd hP hK
  show pm_Call (d + D + 1) 94 _ _ _
  have hpk := opk_Prod (B := B) (N := N) ho hk
  rw [en94, r94_0]
  refine TRe hp (by omega) hE hd hP (fun M2 f2 p2 => ?_)
  rw [push_u, r94_4]
  have hb := opk_vl (f := fun z => 20000 + z) (B := B) (N := N) (gProd B N rec) hpk.1 hpk.2
  have main : ∀ (k i : Nat), i + k = 1600 → ∀ (M' : PH) (s' : ST) (l2 : PV), frQ c M M' → dep n s' → PSt M' c B N s' → (∀ M'', frQ c M M'' → PSt M'' c B N (gLoop (fun s => isS B N 43 s || isS B N 45 s) (fun s => sE (20000 + vl B N s) (gProd B N rec (sA B N s))) k s') → K PU (GF X, M'', PTF v)) → pm_Run (d + D) 94 6 [vA 31, vI (i : Int), l2] [] (GF X, M', PTF v) K := by
    intro k
    induction k with
    | zero =>
      intro i hi M' s' l2 g1 g2 g3 g4
      rw [r94_6 (by omega), if_pos (by omega), r94_61]
      exact g4 M' g1 g3
    | succ k ih =>
      intro i hi M' s' l2 g1 g2 g3 g4
      have hE' := PEn_f hE g1
      rw [gLoop] at g4
      have go : (isS B N 43 s' || isS B N 45 s') = true → pm_Run (d + D) 94 31 [vA 31, vI (i : Int), l2] [] (GF X, M', PTF v) K := by
        intro q
        have hx : ∃ x, s' = .inr x := by
          rcases Bool.or_eq_true_iff.mp q with h | h
          · exact isS_x h
          · exact isS_x h
        obtain ⟨x, rfl⟩ := hx
        rw [if_pos q] at g4
        obtain ⟨e7, b1, b2⟩ := vl_b hE' g3
        rw [r94_31, e7]
        rw [show d + D = d + D - 2 + 2 by omega]
        refine c51p hE' g3 (fun M3 f3 p3 => ?_)
        rw [← show d + D = d + D - 2 + 2 by omega]
        have hE3 := PEn_f hE' f3
        have d3 := dep_e (opk_A (B := B) (N := N)) kf_A g2
        rw [push_u, r94_46]
        refine TRe hp (by omega) hE3 d3 p3 (fun M4 f4 p4 => ?_)
        rw [push_u, r94_50, show d + D = d + D - 2 + 2 by omega]
        refine c89 (PEn_f hE3 f4) p4 (by omega) (fun M5 f5 p5 => ?_)
        rw [← show d + D = d + D - 2 + 2 by omega, push_u, r94_55]
        exact ih (i + 1) (by omega) M5 _ _ (frQ_t g1 (frQ_t f3 (frQ_t f4 f5))) (dep_e hb.1 hb.2 g2) p5 g4
      have out : ¬ (isS B N 43 s' || isS B N 45 s') = true → pm_Run (d + D) 94 61 [vA 31, vI (i : Int), l2] [] (GF X, M', PTF v) K := by
        intro q
        rw [if_neg q] at g4
        rw [r94_61]
        exact g4 M' g1 g3
      have c72' : ∀ (y : Int) (K' : PV → PS → Prop), inR y → (pm_Call (d + D) 72 [vA 31, vI y] (GF X, M', PTF v) K' ↔ K' (vI (if isS B N y s' = true then 1 else 0)) (GF X, M', PTF v)) := fun y K' hy => by
        rw [show d + D = d + D - 1 + 1 by omega]
        exact c72 hE' g3 hy
      rw [r94_6 (by omega), if_neg (by omega), r94_13, c72' 43 _ (by omega), push_i, r94_19 (by have := if01 (x := isS B N 43 s'); omega)]
      by_cases q1 : isS B N 43 s' = true
      · rw [if_pos q1, if_pos (by omega)]; exact go (by rw [q1]; rfl)
      rw [if_neg q1, if_neg (by simp), r94_22, c72' 45 _ (by omega), push_i, r94_28 (by have := if01 (x := isS B N 45 s'); omega)]
      by_cases q2 : isS B N 45 s' = true
      · rw [if_pos q2, if_neg (by omega)]; exact go (by rw [q2]; simp)
      · rw [if_neg q2, if_pos rfl]; exact out (by simp [q1, q2])
  exact main 1600 0 (by omega) M2 _ PU f2 (dep_e hpk.1 hpk.2 hd) p2 hK
theorem tS : ∀ n, TR (4 * n + 7) 94 [vA 31] c B N n (gS B N n)
  | 0 => t94 opk_id.1 opk_id.2 (t95 opk_id.1 opk_id.2 (t96 (D := 0) opk_id.1 opk_id.2 (fun m hm => absurd hm (by omega))) (by omega)) (by omega)
  | n + 1 => by
    have hg := opk_gS (B := B) (N := N) n
    have h1 : TR (4 * n + 4 + 5) 96 [vA 31] c B N (n + 1) (gPart B N (gS B N n)) := t96 (D := 4 * n + 4) hg.1 hg.2 (fun m hm => by
      have : m = n := by omega
      subst this
      exact tS m)
    have h2 := t94 hg.1 hg.2 (t95 hg.1 hg.2 h1 (by omega)) (by omega)
    have e : 4 * n + 4 + 5 + 1 + 1 = 4 * (n + 1) + 7 := by omega
    rw [e] at h2
    exact h2
theorem opk_y {z : Int} (φ : ST → ST) (h : opk φ) (hk : kf φ) : opk (fun s => sE z (φ (sA B N s))) ∧ kf (fun s => sE z (φ (sA B N s))) := ⟨fun x y e => opk_c (opk_c opk_A h hk) opk_E kf_E x y e, fun e => by show sE _ (φ (.inl e)) = _; rw [hk]; rfl⟩
theorem opk_Both (h : opk f) (hk : kf f) : opk (gBoth B N f) ∧ kf (gBoth B N f) := by
  have hb := opk_y (z := 20024) (B := B) (N := N) f h hk
  have hl := opk_L (p := isW B N 24) hb.1 hb.2 1600
  exact ⟨fun x y e => opk_c (φ := f) h hl.1 hl.2 x y e, fun e => kf_c (φ := f) hk hl.2 e⟩
theorem opk_Test (h : opk f) (hk : kf f) : opk (gTest B N f) ∧ kf (gTest B N f) := by
  have hp := opk_Both (B := B) (N := N) h hk
  have hb := opk_y (z := 20023) (B := B) (N := N) (gBoth B N f) hp.1 hp.2
  have hl := opk_L (p := isW B N 23) hb.1 hb.2 1600
  exact ⟨fun x y e => opk_c (φ := gBoth B N f) hp.1 hl.1 hl.2 x y e, fun e => kf_c (φ := gBoth B N f) hp.2 hl.2 e⟩
theorem opk_Cmp (h : opk sumf) (hk : kf sumf) : opk (gCmp B N sumf) ∧ kf (gCmp B N sumf) := by
  have hb := opk_vl (f := fun z => 20000 + z) (B := B) (N := N) sumf h hk
  refine ⟨fun x y e => ?_, fun e => ?_⟩
  · unfold gCmp at e
    split at e
    · exact hb.1 x y e
    · exact (opk_W e).elim
  · unfold gCmp
    rw [if_neg (show ¬ (isS B N 60 (.inl e) || (isS B N 62 (.inl e) || isS B N 61 (.inl e))) = true by simp [isS])]; rfl
theorem opk_Fact (h : opk sumf) (hk : kf sumf) (hr : opk recf) (hkr : kf recf) : opk (gFact B N sumf recf) ∧ kf (gFact B N sumf recf) := by
  have ht := opk_Test (B := B) (N := N) hr hkr
  have hc := opk_Cmp (B := B) (N := N) h hk
  refine ⟨fun x y e => ?_, fun e => ?_⟩
  · unfold gFact at e
    split at e
    · split at e
      · exact opk_c (opk_in hr hkr).1 opk_E kf_E x y e
      · exact (opk_G e).elim
    split at e
    · split at e
      · exact (opk_in (opk_c ht.1 opk_S kf_S) (kf_c ht.2 kf_S)).1 x y e
      · exact (opk_G e).elim
    split at e
    · exact opk_c (ψ := sA B N) opk_E opk_A kf_A x y e
    · exact opk_c (φ := sumf) h hc.1 hc.2 x y e
  · unfold gFact
    rw [if_neg (show ¬ isW B N 25 (.inl e) = true by simp [isW]), if_neg (show ¬ isS B N 91 (.inl e) = true by simp [isS]), if_neg (show ¬ isW B N 26 (.inl e) = true by simp [isW]), hk, hc.2]
theorem opk_gF : ∀ n, opk (gF B N n) ∧ kf (gF B N n)
  | 0 => opk_Fact (opk_gS 0).1 (opk_gS 0).2 opk_id.1 opk_id.2
  | n + 1 => opk_Fact (opk_gS (n + 1)).1 (opk_gS (n + 1)).2 (opk_gF n).1 (opk_gF n).2
theorem t92 (ho : opk f) (hk : kf f) (hp : TR D 93 [vA 31] c B N n f) (hD : 4 ≤ D) : TR (D + 1) 92 [vA 31] c B N n (gBoth B N f) := by
  intro d X v M K s hE hd hP hK
  show pm_Call (d + D + 1) 92 _ _ _
  rw [en92, r92_0]
  refine TRe hp (by omega) hE hd hP (fun M2 f2 p2 => ?_)
  rw [push_u, r92_4]
  have hb := opk_y (z := 20024) (B := B) (N := N) f ho hk
  have main : ∀ (k i : Nat), i + k = 1600 → ∀ (M' : PH) (s' : ST), frQ c M M' → dep n s' → PSt M' c B N s' → (∀ M'', frQ c M M'' → PSt M'' c B N (gLoop (isW B N 24) (fun s => sE 20024 (f (sA B N s))) k s') → K PU (GF X, M'', PTF v)) → pm_Run (d + D) 92 6 [vA 31, vI (i : Int)] [] (GF X, M', PTF v) K := by
    intro k
    induction k with
    | zero =>
      intro i hi M' s' g1 g2 g3 g4
      rw [r92_6 (by omega), if_pos (by omega), r92_45]
      exact g4 M' g1 g3
    | succ k ih =>
      intro i hi M' s' g1 g2 g3 g4
      have hE' := PEn_f hE g1
      rw [gLoop] at g4
      have c71' : ∀ (y : Int) (K' : PV → PS → Prop), inR y → (pm_Call (d + D) 71 [vA 31, vI y] (GF X, M', PTF v) K' ↔ K' (vI (if isW B N y s' = true then 1 else 0)) (GF X, M', PTF v)) := fun y K' hy => by
        rw [show d + D = d + D - 1 + 1 by omega]
        exact c71 hE' g3 hy
      rw [r92_6 (by omega), if_neg (by omega), r92_13, c71' 24 _ (by omega), push_i, r92_19 (by have := if01 (x := isW B N 24 s'); omega)]
      by_cases q : isW B N 24 s' = true
      · obtain ⟨x, rfl⟩ := isW_x q
        rw [if_pos q] at g4
        rw [if_pos q, if_neg (by omega), r92_22]
        rw [show d + D = d + D - 2 + 2 by omega]
        refine c51p hE' g3 (fun M3 f3 p3 => ?_)
        rw [← show d + D = d + D - 2 + 2 by omega]
        have hE3 := PEn_f hE' f3
        have d3 := dep_e (opk_A (B := B) (N := N)) kf_A g2
        rw [push_u, r92_29]
        refine TRe hp (by omega) hE3 d3 p3 (fun M4 f4 p4 => ?_)
        rw [push_u, r92_33, show d + D = d + D - 2 + 2 by omega]
        refine c89 (PEn_f hE3 f4) p4 (by omega) (fun M5 f5 p5 => ?_)
        rw [← show d + D = d + D - 2 + 2 by omega, push_u, r92_39]
        exact ih (i + 1) (by omega) M5 _ (frQ_t g1 (frQ_t f3 (frQ_t f4 f5))) (dep_e hb.1 hb.2 g2) p5 g4
      · rw [if_neg q] at g4
        rw [if_neg q, if_pos rfl, r92_45]
        exact g4 M' g1 g3
  exact main 1600 0 (by omega) M2 _ f2 (dep_e ho hk hd) p2 hK
theorem t91 (ho : opk f) (hk : kf f) (hp : TR D 92 [vA 31] c B N n (gBoth B N f)) (hD : 4 ≤ D) : TR (D + 1) 91 [vA 31] c B N n (gTest B N f) := by
  intro d X v M K s hE hd hP hK
  show pm_Call (d + D + 1) 91 _ _ _
  have hpk := opk_Both (B := B) (N := N) ho hk
  rw [en91, r91_0]
  refine TRe hp (by omega) hE hd hP (fun M2 f2 p2 => ?_)
  rw [push_u, r91_4]
  have hb := opk_y (z := 20023) (B := B) (N := N) (gBoth B N f) hpk.1 hpk.2
  have main : ∀ (k i : Nat), i + k = 1600 → ∀ (M' : PH) (s' : ST), frQ c M M' → dep n s' → PSt M' c B N s' → (∀ M'', frQ c M M'' → PSt M'' c B N (gLoop (isW B N 23) (fun s => sE 20023 (gBoth B N f (sA B N s))) k s') → K PU (GF X, M'', PTF v)) → pm_Run (d + D) 91 6 [vA 31, vI (i : Int)] [] (GF X, M', PTF v) K := by
    intro k
    induction k with
    | zero =>
      intro i hi M' s' g1 g2 g3 g4
      rw [r91_6 (by omega), if_pos (by omega), r91_45]
      exact g4 M' g1 g3
    | succ k ih =>
      intro i hi M' s' g1 g2 g3 g4
      have hE' := PEn_f hE g1
      rw [gLoop] at g4
      have c71' : ∀ (y : Int) (K' : PV → PS → Prop), inR y → (pm_Call (d + D) 71 [vA 31, vI y] (GF X, M', PTF v) K' ↔ K' (vI (if isW B N y s' = true then 1 else 0)) (GF X, M', PTF v)) := fun y K' hy => by
        rw [show d + D = d + D - 1 + 1 by omega]
        exact c71 hE' g3 hy
      rw [r91_6 (by omega), if_neg (by omega), r91_13, c71' 23 _ (by omega), push_i, r91_19 (by have := if01 (x := isW B N 23 s'); omega)]
      by_cases q : isW B N 23 s' = true
      · obtain ⟨x, rfl⟩ := isW_x q
        rw [if_pos q] at g4
        rw [if_pos q, if_neg (by omega), r91_22]
        rw [show d + D = d + D - 2 + 2 by omega]
        refine c51p hE' g3 (fun M3 f3 p3 => ?_)
        rw [← show d + D = d + D - 2 + 2 by omega]
        have hE3 := PEn_f hE' f3
        have d3 := dep_e (opk_A (B := B) (N := N)) kf_A g2
        rw [push_u, r91_29]
        refine TRe hp (by omega) hE3 d3 p3 (fun M4 f4 p4 => ?_)
        rw [push_u, r91_33, show d + D = d + D - 2 + 2 by omega]
        refine c89 (PEn_f hE3 f4) p4 (by omega) (fun M5 f5 p5 => ?_)
        rw [← show d + D = d + D - 2 + 2 by omega, push_u, r91_39]
        exact ih (i + 1) (by omega) M5 _ (frQ_t g1 (frQ_t f3 (frQ_t f4 f5))) (dep_e hb.1 hb.2 g2) p5 g4
      · rw [if_neg q] at g4
        rw [if_neg q, if_pos rfl, r91_45]
        exact g4 M' g1 g3
  exact main 1600 0 (by omega) M2 _ f2 (dep_e hpk.1 hpk.2 hd) p2 hK
theorem t93 (ho : opk sumf) (hk : kf sumf) (hr : opk recf) (hkr : kf recf) (hsum : TR D 94 [vA 31] c B N n sumf) (hD : 4 ≤ D) (hrec : ∀ m, n = m + 1 → TR (D - 2) 93 [vA 31] c B N m recf) (hD6 : 6 ≤ D) : TR (D + 1) 93 [vA 31] c B N n (gFact B N sumf recf) := by
  intro d X v M K s hE hd hP hK
  show pm_Call (d + D + 1) 93 _ _ _
  have ht := opk_Test (B := B) (N := N) hr hkr
  have c71' : ∀ (M' : PH) (s' : ST), PEn v M' c B N → PSt M' c B N s' → ∀ (y : Int) (K' : PV → PS → Prop), inR y → (pm_Call (d + D) 71 [vA 31, vI y] (GF X, M', PTF v) K' ↔ K' (vI (if isW B N y s' = true then 1 else 0)) (GF X, M', PTF v)) := fun M' s' h1 h2 y K' hy => by
    rw [show d + D = d + D - 1 + 1 by omega]
    exact c71 h1 h2 hy
  have c72' : ∀ (M' : PH) (s' : ST), PEn v M' c B N → PSt M' c B N s' → ∀ (y : Int) (K' : PV → PS → Prop), inR y → (pm_Call (d + D) 72 [vA 31, vI y] (GF X, M', PTF v) K' ↔ K' (vI (if isS B N y s' = true then 1 else 0)) (GF X, M', PTF v)) := fun M' s' h1 h2 y K' hy => by
    rw [show d + D = d + D - 1 + 1 by omega]
    exact c72 h1 h2 hy
  have e3 : d + D = d + D - 3 + 3 := by omega
  have e2 : d + D = d + D - 2 + 2 := by omega
  unfold gFact at hK
  rw [en93, r93_0, c71' M s hE hP 25 _ (by omega), push_i, r93_6 (by have := if01 (x := isW B N 25 s); omega)]
  by_cases q1 : isW B N 25 s = true
  · obtain ⟨x, rfl⟩ := isW_x q1
    rw [if_pos q1] at hK
    rw [if_pos q1, if_neg (by omega), r93_9, e3]
    refine c90 hE hP (fun h7 M3 f3 p3 => ?_) (fun h7 M3 f3 p3 => ?_)
    · rw [if_pos (show opn (.inr x) < 7 from h7)] at hK
      have hE3 := PEn_f hE f3
      obtain ⟨m, hm⟩ : ∃ m, n = m + 1 := ⟨n - 1, by have : 7 ≤ n + x.2.1 := hd; omega⟩
      have hd3 : dep m (sA B N (sO (fun o => o + 1) (.inr x))) := by
        show 7 ≤ m + (x.2.1 + 1)
        have : 7 ≤ n + x.2.1 := hd
        omega
      rw [← e3, push_i, r93_13 (by omega), if_neg (by omega), r93_16]
      refine TRe (hrec m hm) (by omega) hE3 hd3 p3 (fun M4 f4 p4 => ?_)
      have hE4 := PEn_f hE3 f4
      have hdn := cdn hE4 p4
      have p8 := hdn.2 (fun y e => by have := hr _ y e; rw [this]; exact Nat.succ_pos _)
      rw [push_u, r93_20, r93_30, e2]
      refine c89 (y := 25) (PEn_f hE4 hdn.1) p8 (by omega) (fun M5 f5 p5 => ?_)
      rw [← e2, push_u, r93_36, r93_165]
      exact hK M5 (frQ_t f3 (frQ_t f4 (frQ_t hdn.1 f5))) p5
    · rw [if_neg (show ¬ opn (.inr x) < 7 from h7)] at hK
      rw [← e3, push_i, r93_13 (by omega), if_pos rfl, r93_165]
      exact hK M3 f3 p3
  rw [if_neg q1] at hK
  rw [if_neg q1, if_pos rfl, r93_39, c72' M s hE hP 91 _ (by omega), push_i, r93_45 (by have := if01 (x := isS B N 91 s); omega)]
  by_cases q2 : isS B N 91 s = true
  · obtain ⟨x, rfl⟩ := isS_x q2
    rw [if_pos q2] at hK
    rw [if_pos q2, if_neg (by omega), r93_48, e3]
    refine c90 hE hP (fun h7 M3 f3 p3 => ?_) (fun h7 M3 f3 p3 => ?_)
    · rw [if_pos (show opn (.inr x) < 7 from h7)] at hK
      have hE3 := PEn_f hE f3
      obtain ⟨m, hm⟩ : ∃ m, n = m + 1 := ⟨n - 1, by have : 7 ≤ n + x.2.1 := hd; omega⟩
      have hd3 : dep m (sA B N (sO (fun o => o + 1) (.inr x))) := by
        show 7 ≤ m + (x.2.1 + 1)
        have : 7 ≤ n + x.2.1 := hd
        omega
      rw [← e3, push_i, r93_52 (by omega), if_neg (by omega), r93_55]
      have hT := t91 hr hkr (t92 hr hkr (hrec m hm) (by omega)) (by omega)
      refine TRe hT (by omega) hE3 hd3 p3 (fun M4 f4 p4 => ?_)
      have hE4 := PEn_f hE3 f4
      rw [push_u, r93_59, e3]
      refine c74 hE4 p4 (by omega) (fun M5 f5 p5 => ?_)
      have hE5 := PEn_f hE4 f5
      have hdn := cdn hE5 p5
      have p8 := hdn.2 (fun y e => by have := opk_c ht.1 opk_S kf_S _ y e; rw [this]; exact Nat.succ_pos _)
      rw [← e3, push_u, r93_65, r93_165]
      exact hK _ (frQ_t f3 (frQ_t f4 (frQ_t f5 hdn.1))) p8
    · rw [if_neg (show ¬ opn (.inr x) < 7 from h7)] at hK
      rw [← e3, push_i, r93_52 (by omega), if_pos rfl, r93_165]
      exact hK M3 f3 p3
  rw [if_neg q2] at hK
  rw [if_neg q2, if_pos rfl, r93_78, c71' M s hE hP 26 _ (by omega), push_i, r93_84 (by have := if01 (x := isW B N 26 s); omega)]
  by_cases q3 : isW B N 26 s = true
  · obtain ⟨x, rfl⟩ := isW_x q3
    rw [if_pos q3] at hK
    rw [if_pos q3, if_neg (by omega), r93_87, e2]
    refine c89 (y := 26) hE hP (by omega) (fun M2 f2 p2 => ?_)
    rw [← e2, push_u, r93_93, e2]
    refine c51p (PEn_f hE f2) p2 (fun M3 f3 p3 => ?_)
    rw [← e2, push_u, r93_100, r93_165]
    exact hK M3 (frQ_t f2 f3) p3
  rw [if_neg q3] at hK
  rw [if_neg q3, if_pos rfl, r93_103]
  refine TRe hsum (by omega) hE hd hP (fun M2 f2 p2 => ?_)
  have hE2 := PEn_f hE f2
  have d2 := dep_e ho hk hd
  unfold gCmp at hK
  rw [push_u, r93_107]
  have go : (isS B N 60 (sumf s) || (isS B N 62 (sumf s) || isS B N 61 (sumf s))) = true → pm_Run (d + D) 93 142 [vA 31, vI (M2 32 7)] [] (GF X, M2, PTF v) K := by
    intro q
    have hx : ∃ x, sumf s = .inr x := by
      rcases Bool.or_eq_true_iff.mp q with h | h
      · exact isS_x h
      · rcases Bool.or_eq_true_iff.mp h with h | h
        · exact isS_x h
        · exact isS_x h
    obtain ⟨x, hx⟩ := hx
    rw [hx] at q p2 hK d2
    rw [if_pos q] at hK
    obtain ⟨e7, b1, b2⟩ := vl_b hE2 p2
    rw [r93_142, e7, e2]
    refine c51p hE2 p2 (fun M3 f3 p3 => ?_)
    have hE3 := PEn_f hE2 f3
    have d3 := dep_e (opk_A (B := B) (N := N)) kf_A d2
    rw [← e2, push_u, r93_149]
    refine TRe hsum (by omega) hE3 d3 p3 (fun M4 f4 p4 => ?_)
    rw [push_u, r93_153, e2]
    refine c89 (PEn_f hE3 f4) p4 (by omega) (fun M5 f5 p5 => ?_)
    rw [← e2, push_u, r93_158, r93_165]
    exact hK M5 (frQ_t f2 (frQ_t f3 (frQ_t f4 f5))) p5
  rw [c72' M2 _ hE2 p2 60 _ (by omega), push_i, r93_121 (by have := if01 (x := isS B N 60 (sumf s)); omega)]
  by_cases y1 : isS B N 60 (sumf s) = true
  · rw [if_pos y1, if_pos (by omega)]; exact go (by rw [y1]; rfl)
  rw [if_neg y1, if_neg (by simp), r93_124, c72' M2 _ hE2 p2 62 _ (by omega), push_i, r93_130 (by have := if01 (x := isS B N 62 (sumf s)); omega)]
  by_cases y2 : isS B N 62 (sumf s) = true
  · rw [if_pos y2, if_pos (by omega)]; exact go (by rw [y2]; simp)
  rw [if_neg y2, if_neg (by simp), r93_133, c72' M2 _ hE2 p2 61 _ (by omega), push_i, r93_139 (by have := if01 (x := isS B N 61 (sumf s)); omega)]
  by_cases y3 : isS B N 61 (sumf s) = true
  · rw [if_pos y3, if_neg (by omega)]; exact go (by rw [y3]; simp)
  · rw [if_neg (show ¬ (isS B N 60 (sumf s) || (isS B N 62 (sumf s) || isS B N 61 (sumf s))) = true by simp [y1, y2, y3])] at hK
    rw [if_neg y3, if_pos rfl, r93_161, e2]
    refine c70 hE2 p2 (fun M3 f3 p3 => ?_)
    rw [← e2, push_u, r93_165]
    exact hK M3 (frQ_t f2 f3) p3
theorem tF : ∀ n, TR (4 * n + 8) 93 [vA 31] c B N n (gF B N n)
  | 0 => t93 (opk_gS 0).1 (opk_gS 0).2 opk_id.1 opk_id.2 (tS 0) (by omega) (fun m hm => absurd hm (by omega)) (by omega)
  | n + 1 => by
    have h1 := t93 (D := 4 * (n + 1) + 7) (opk_gS (n + 1)).1 (opk_gS (n + 1)).2 (opk_gF n).1 (opk_gF n).2 (tS (c := c) (n + 1)) (by omega) (fun m hm d X v M K s hE hd hP hK => by
      have : m = n := by omega
      subst this
      exact TRe (tF m) (by omega) hE hd hP hK) (by omega)
    exact h1
theorem tT (n : Nat) : TR (4 * n + 10) 91 [vA 31] c B N n (gTest B N (gF B N n)) := t91 (opk_gF n).1 (opk_gF n).2 (t92 (opk_gF n).1 (opk_gF n).2 (tF n) (by omega)) (by omega)
end CG2
