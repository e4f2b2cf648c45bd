/-! The reference's reader of statements: a new name, a known name. -/
section RFai
variable {d b w bk D : Nat} {X : Nat × (Nat → Int)} {v : Nat → Int} {M M' M2 : PH} {K : PV → PS → Prop} {B : Nat → Int} {N : Nat} {κ : KP} {e : Int × Int} {o op : Nat} {l S S0 Q : List Int} {s : ST} {n : Nat → Nat} {a : PH}
theorem OK_w (h : OK M B N κ) (hk : (tok B N κ).1 = 1) : M 234 3 = 1 ∧ CL M ∧ M 234 7 = (bwk (tok B N κ).2.2.2.1.toNat 6 : Int) ∧ nmOk (tok B N κ).2.2.2.1 ∧ (tok B N κ).2.2.2.2.1 = ownw (tok B N κ).2.2.2.1 := by
  rcases h.2.2.1.2.2 with z | z | z | z | z | z
  · omega
  · exact ⟨z.2.1, z.2.2.1, z.2.2.2.1, z.2.2.2.2.1, z.2.2.2.2.2.2.2⟩
  all_goals omega
theorem OK_n (h : OK M B N κ) (hc : CL M) (hk : (tok B N κ).1 ≠ 1) : M 234 3 ≠ 1 ∧ inR (M 234 3) := by
  have hc : M 234 12 = -1 := hc
  rcases h.2.2.1.2.2 with z | z | z | z | z | z <;> first | omega | (constructor <;> omega)
theorem isNm_i {x : KP × Nat × List Int} : isNm B N (.inr x) = true ↔ (tok B N x.1).1 = 1 ∧ (tok B N x.1).2.2.2.2.1 = -1 := by
  show (decide ((tok B N x.1).1 = 1) && decide ((tok B N x.1).2.2.2.2.1 = -1)) = true ↔ _
  rw [Bool.and_eq_true, decide_eq_true_iff, decide_eq_true_iff]
/-- a name, before it is looked up -/
theorem sW_i {x : KP × Nat × List Int} : sW B N (.inr x) = .inl (1, ((tok B N x.1).2.2.1 : Int)) := rfl
theorem sG_i {x : KP × Nat × List Int} {k : Int} : sG B N k (.inr x) = .inl (k, ((tok B N x.1).2.1 : Int)) := rfl
theorem t209 (hT : TX M B N) (h : PRS M bk B N s) (hb : NB M bk n a) (hK : ∀ M' r, PRS M' bk B N (sNew B N (knw n a) s) → f4 M M' → (∀ x, sNew B N (knw n a) s = .inr x → r = (bwk (vl B N s).toNat 6 : Int) ∧ nmOk (vl B N s)) → K (vL r) (GF X, M', PTF v)) : pm_Call (d + 3) 209 [vA 234] (GF X, M, PTF v) K := by
  rw [en209, r209_0]
  match s, h, hK with
  | .inl e, h, hK =>
    have h' : FL M e := h
    have := h'.1
    have := h'.2.1
    have he : sNew B N (knw n a) (.inl e) = .inl e := rfl
    rw [c186f h', push_u, r209_4 (by omega), if_neg (by omega), r209_11]
    exact hK M 0 h f4_r (fun x hx => by rw [he] at hx; cases hx)
  | .inr x, h, hK =>
    obtain ⟨h1, h2⟩ := id h
    have h8 := h1.1
    -- a fault stands
    have bad : ∀ (M' : PH) (e : Int × Int) (i : Int), inR i → FL M' e → f4 M M' → sNew B N (knw n a) (.inr x) = .inl e → pm_Run (d + 2) 209 43 [vA 234, vI i, PU] [] (GF X, M', PTF v) K := fun M' e i hi hf hff he => by
      have f1 := hf.1
      have f2 := hf.2.1
      have go : pm_Run (d + 2) 209 83 [vA 234, vI i, PU] [] (GF X, M', PTF v) K := by
        rw [r209_83 (by omega), if_pos (by omega), r209_99]
        exact hK M' _ (by rw [he]; exact hf) hff (fun y hy => by rw [he] at hy; cases hy)
      rw [r209_43 hi]
      by_cases q : 1 < i
      · rw [if_pos q]; exact go
      · rw [if_neg q, r209_48 (by omega), if_pos (by omega)]; exact go
    refine c186 hT h1 (fun hc => ?_) (fun h4 M' hf h3 hff => ?_)
    · have r12 : inR (M 234 12) := by have : M 234 12 = -1 := hc; omega
      have e21 := OK_c h1 hc
      rw [push_u, r209_4 (by omega), if_pos (by omega)]
      have bad1 : ¬ isNm B N (.inr x) = true → pm_Run (d + 2) 209 32 [vA 234, PU, PU] [] (GF X, M, PTF v) K := fun q => by
        rw [r209_32, c183o h8, push_u, h1.2.2.1.2.1, r209_41]
        refine bad _ (1, ((tok B N x.1).2.1 : Int)) 0 (by omega) (FL_89 (by omega) r12) f4_89 ?_
        rw [sNew, if_neg q, sW_i, e21]
      by_cases q1 : (tok B N x.1).1 = 1
      · obtain ⟨w3, -, w7, wn, wo⟩ := OK_w h1 q1
        rw [r209_13 (by omega), if_neg (by omega), r209_21, w7, c191 wn, push_i, r209_29 (by split <;> omega)]
        by_cases q2 : ownw (tok B N x.1).2.2.2.1 = -1
        · have eo : (if ownw (tok B N x.1).2.2.2.1 ≠ -1 then (1 : Int) else 0) = 0 := if_neg (by simp [q2])
          have qn : isNm B N (.inr x) = true := isNm_i.mpr ⟨q1, wo.trans q2⟩
          have evl : vl B N (.inr x) = (tok B N x.1).2.2.2.1 := rfl
          have bad2 : knw n a (tok B N x.1).2.2.2.1 = true → ∀ i : Int, inR i → inR (i + 1) → pm_Run (d + 2) 209 68 [vA 234, vI i, PU] [] (GF X, M, PTF v) K := fun q i hi hi2 => by
            rw [r209_68, c183o h8, push_u, h1.2.2.1.2.1, r209_77]
            refine bad _ (2, ((tok B N x.1).2.1 : Int)) (i + 1) hi2 (FL_89 (by omega) r12) f4_89 ?_
            rw [sNew, if_pos qn, evl, if_pos q, sG_i]
          rw [eo, if_pos rfl, r209_41, r209_43 (by omega), if_neg (by omega), r209_48 (by omega), if_neg (by omega), r209_55, w7, c194 hb (by simp) wn, push_i, r209_64 (by have := nix_b (x := (tok B N x.1).2.2.2.1) hb (k := 0) (by simp); have := hb.2.1.2; simp at *; omega)]
          by_cases q3 : nix n a 0 (tok B N x.1).2.2.2.1 = -1
          · rw [if_pos q3, r209_77, show (0 : Int) + 1 = 1 from rfl, r209_43 (by omega), if_neg (by omega), r209_48 (by omega), if_neg (by omega), r209_55, w7, c194 hb (by simp) wn, push_i, r209_64 (by have := nix_b (x := (tok B N x.1).2.2.2.1) hb (k := 1) (by simp); have := hb.2.2.1.2; simp at *; omega)]
            by_cases q4 : nix n a 1 (tok B N x.1).2.2.2.1 = -1
            · have kn : knw n a (tok B N x.1).2.2.2.1 = false := by
                have q3 : mn n a (tok B N x.1).2.2.2.1 = -1 := q3
                have q4 : hn n a (tok B N x.1).2.2.2.1 = -1 := q4
                unfold knw
                rw [q3, q4]; rfl
              have es : sNew B N (knw n a) (.inr x) = .inr (adv B N x.1, x.2) := by
                rw [sNew, if_pos qn, evl, kn, if_neg (by simp)]; rfl
              rw [if_pos q4, r209_77, show (1 : Int) + 1 = 2 from rfl, r209_43 (by omega), if_pos (by omega), r209_83 (by omega), if_neg (by omega), r209_95, w7]
              refine t187 hT h1 (by omega) (by omega) (fun M1 o1 g1 => ?_)
              rw [push_u, r209_99]
              refine hK M1 _ (by rw [es]; exact ⟨o1, CDR_f h2 g1⟩) g1 (fun y _ => ⟨rfl, wn⟩)
            · rw [if_neg q4]
              exact bad2 (by
                have q4 : hn n a (tok B N x.1).2.2.2.1 ≠ -1 := q4
                unfold knw
                rw [Bool.or_eq_true]; exact Or.inr (by simpa using q4)) _ (by omega) (by omega)
          · rw [if_neg q3]
            exact bad2 (by
              have q3 : mn n a (tok B N x.1).2.2.2.1 ≠ -1 := q3
              unfold knw
              rw [Bool.or_eq_true]; exact Or.inl (by simpa using q3)) _ (by omega) (by omega)
        · have eo : (if ownw (tok B N x.1).2.2.2.1 ≠ -1 then (1 : Int) else 0) = 1 := if_pos q2
          rw [eo, if_neg (by omega)]
          exact bad1 (fun z => q2 (wo.symm.trans (isNm_i.mp z).2))
      · obtain ⟨w3, w3'⟩ := OK_n h1 hc q1
        rw [r209_13 w3', if_pos w3]
        exact bad1 (fun z => q1 (isNm_i.mp z).1)
    · have f1 := hf.1
      have f2 := hf.2.1
      rw [push_u, r209_4 (by omega), if_neg (by omega), r209_11]
      have es : sNew B N (knw n a) (.inr x) = .inl (1, ((tok B N x.1).2.2.1 : Int)) := by
        rw [sNew, if_neg (fun z => by have := (isNm_i.mp z).1; omega), sW_i]
      exact hK M' 0 (by rw [es]; exact hf) hff (fun y hy => by rw [es] at hy; cases hy)
/-- a known name is looked at -/
theorem t210 (hT : TX M B N) (h : PRS M bk B N s) (hb : NB M bk n a) {k : Int} (hk : k = 0 ∨ k = 1) (hK : ∀ M' r, PRS M' bk B N (sKl B N (decide (nix n a k (vl B N s) ≠ -1)) s) → f4 M M' → (0 ≤ r ∧ r ≤ 7) → (∀ x, sKl B N (decide (nix n a k (vl B N s) ≠ -1)) s = .inr x → r = nix n a k (vl B N s)) → K (vI r) (GF X, M', PTF v)) : pm_Call (d + 3) 210 [vA 234, vI k] (GF X, M, PTF v) K := by
  rw [en210, r210_0]
  match s, h, hK with
  | .inl e, h, hK =>
    have h' : FL M e := h
    have := h'.1
    have := h'.2.1
    rw [c186f h', push_u, r210_4 (by omega), if_neg (by omega), r210_11]
    exact hK M 0 h f4_r (by omega) (fun x hx => by cases hx)
  | .inr x, h, hK =>
    obtain ⟨h1, h2⟩ := id h
    have h8 := h1.1
    have nb := nix_b (x := (tok B N x.1).2.2.2.1) hb hk
    have b1 := hb.2.1.2
    have b2 := hb.2.2.1.2
    have bad : ∀ (M' : PH) (e : Int × Int) (r : Int), FL M' e → f4 M M' → sKl B N (decide (nix n a k (vl B N (.inr x)) ≠ -1)) (.inr x) = .inl e → pm_Run (d + 2) 210 83 [vA 234, vI k, vI r] [] (GF X, M', PTF v) K := fun M' e r hf hff he => by
      have f1 := hf.1
      have f2 := hf.2.1
      rw [r210_83 (by omega), if_neg (by omega), r210_90, r210_95]
      exact hK M' 0 (by rw [he]; exact hf) hff (by omega) (fun y hy => by rw [he] at hy; cases hy)
    refine c186 hT h1 (fun hc => ?_) (fun h4 M' hf h3 hff => ?_)
    · have r12 : inR (M 234 12) := by have : M 234 12 = -1 := hc; omega
      have e21 := OK_c h1 hc
      rw [push_u, r210_4 (by omega), if_pos (by omega)]
      have bad1 : ¬ isNm B N (.inr x) = true → pm_Run (d + 2) 210 32 [vA 234, vI k, PU] [] (GF X, M, PTF v) K := fun q => by
        have hf := FL_89 (M := M) (k := 1) (p := ((tok B N x.1).2.1 : Int)) (by omega) r12
        have f8 : (pm_sa M 234 (pm_up (pm_up (M 234) 8 1) 9 ((tok B N x.1).2.1 : Int))) 234 8 = 1 := hf.1
        rw [r210_32, c183o h8, push_u, h1.2.2.1.2.1, r210_41 (by rw [f8]; omega), if_neg (by rw [f8]; omega), r210_48, r210_61 (by rw [f8]; omega), if_pos (by rw [f8]; omega)]
        refine bad _ (1, ((tok B N x.1).2.1 : Int)) 0 hf f4_89 ?_
        rw [sKl, if_neg q, sW_i, e21]
      by_cases q1 : (tok B N x.1).1 = 1
      · obtain ⟨w3, -, w7, wn, wo⟩ := OK_w h1 q1
        rw [r210_13 (by omega), if_neg (by omega), r210_21, w7, c191 wn, push_i, r210_29 (by split <;> omega)]
        by_cases q2 : ownw (tok B N x.1).2.2.2.1 = -1
        · have eo : (if ownw (tok B N x.1).2.2.2.1 ≠ -1 then (1 : Int) else 0) = 0 := if_neg (by simp [q2])
          have qn : isNm B N (.inr x) = true := isNm_i.mpr ⟨q1, wo.trans q2⟩
          have evl : vl B N (.inr x) = (tok B N x.1).2.2.2.1 := rfl
          have nr : inR (nix n a k (tok B N x.1).2.2.2.1) := by split at nb <;> omega
          rw [eo, if_pos rfl, r210_41 (by omega), if_pos (by omega), r210_52, w7, c194 hb hk wn, push_i, r210_61 (by omega), if_neg (by omega), r210_69 nr]
          by_cases q3 : nix n a k (tok B N x.1).2.2.2.1 = -1
          · rw [if_neg (by simp [q3]), r210_74, c183o h8, push_u, h1.2.2.1.2.1]
            refine bad _ (3, ((tok B N x.1).2.1 : Int)) _ (FL_89 (by omega) r12) f4_89 ?_
            rw [sKl, if_pos qn, evl, q3, if_neg (by simp), sG_i]
          · have es : sKl B N (decide (nix n a k (vl B N (.inr x)) ≠ -1)) (.inr x) = .inr x := by
              rw [sKl, if_pos qn, evl, if_pos (by simpa using q3)]
            rw [if_pos q3, r210_83 (by omega), if_pos (by omega), r210_94, r210_95]
            exact hK M _ (by rw [es]; exact h) f4_r (by split at nb <;> omega) (fun y _ => rfl)
        · have eo : (if ownw (tok B N x.1).2.2.2.1 ≠ -1 then (1 : Int) else 0) = 1 := if_pos q2
          rw [eo, if_neg (by omega)]
          exact bad1 (fun z => q2 (wo.symm.trans (isNm_i.mp z).2))
      · obtain ⟨w3, w3'⟩ := OK_n h1 hc q1
        rw [r210_13 w3', if_pos w3]
        exact bad1 (fun z => q1 (isNm_i.mp z).1)
    · have f1 := hf.1
      have f2 := hf.2.1
      rw [push_u, r210_4 (by omega), if_neg (by omega), r210_11]
      have es : sKl B N (decide (nix n a k (vl B N (.inr x)) ≠ -1)) (.inr x) = .inl (1, ((tok B N x.1).2.2.1 : Int)) := by
        rw [sKl, if_neg (fun z => by have := (isNm_i.mp z).1; omega), sW_i]
      exact hK M' 0 (by rw [es]; exact hf) hff (by omega) (fun y hy => by rw [es] at hy; cases hy)
theorem sKn_l {f : Bool} : sKn B N f s = (match sKl B N f s with | .inl e => .inl e | .inr x => sA B N (.inr x)) := by
  unfold sKn sKl
  by_cases q : isNm B N s = true
  · rw [if_pos q, if_pos q]
    obtain ⟨x, rfl⟩ := isNm_x q
    by_cases q2 : f = true
    · rw [if_pos q2, if_pos q2]
    · rw [if_neg q2, if_neg q2, sG_i]
  · rw [if_neg q, if_neg q]
    cases s <;> rfl
/-- a known name -/
theorem t211 (hT : TX M B N) (h : PRS M bk B N s) (hb : NB M bk n a) {k : Int} (hk : k = 0 ∨ k = 1) (hK : ∀ M' r, PRS M' bk B N (sKn B N (decide (nix n a k (vl B N s) ≠ -1)) s) → f4 M M' → (0 ≤ r ∧ r ≤ 7) → (∀ x, sKn B N (decide (nix n a k (vl B N s) ≠ -1)) s = .inr x → r = nix n a k (vl B N s)) → K (vI r) (GF X, M', PTF v)) : pm_Call (d + 4) 211 [vA 234, vI k] (GF X, M, PTF v) K := by
  rw [en211, r211_0]
  refine t210 hT h hb hk (fun M1 r p1 g1 rb hr => ?_)
  rw [push_i]
  rw [sKn_l] at hK
  revert p1 hr hK
  cases hs : sKl B N (decide (nix n a k (vl B N s) ≠ -1)) s with
  | inl e =>
    intro hK p1 hr
    have p1 : FL M1 e := p1
    have := p1.1
    have := p1.2.1
    rw [r211_5 (by omega), if_pos (by omega), r211_17 (by omega), if_neg (by omega), r211_24, r211_29]
    exact hK M1 0 p1 g1 (by omega) (fun x hx => by cases hx)
  | inr x =>
    intro hK p1 hr
    obtain ⟨a1, a2⟩ := id p1
    have a8 := a1.1
    have kx : (tok B N x.1).1 = 1 := by
      unfold sKl at hs
      by_cases q : isNm B N s = true
      · rw [if_pos q] at hs
        obtain ⟨y, rfl⟩ := isNm_x q
        by_cases q2 : (decide (nix n a k (vl B N (.inr y)) ≠ -1)) = true
        · rw [if_pos q2] at hs
          injection hs with hs
          rw [← hs]; exact (isNm_i.mp q).1
        · rw [if_neg q2, sG_i] at hs; cases hs
      · rw [if_neg q] at hs
        cases s <;> cases hs
    rw [r211_5 (by omega), if_neg (by omega), r211_13]
    refine t187 (TX_B hT (fB_4 (bk := bk) g1)) a1 (by omega) (by omega) (fun M2 o2 g2 => ?_)
    have o8 := o2.1
    rw [push_u, r211_17 (by omega), if_pos (by omega), r211_28, r211_29]
    exact hK M2 r ⟨o2, CDR_f a2 g2⟩ (f4_t g1 g2) rb (fun _ _ => hr x rfl)
end RFai
