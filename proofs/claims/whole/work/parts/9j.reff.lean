/-! The reference: rows of bids that are tried; wished. -/
def fq (M M' : PH) : Prop := (∀ q, q ≠ 234 → q < 270 ∨ 279 < q → M' q = M q) ∧ (∀ j, j < 64 ∨ 67 < j → M' 234 j = M 234 j) ∧ (∀ k, k ≠ 1 → M' 270 k = M 270 k) ∧ (∀ k, k / 3 ≠ 1 → M' 271 k = M 271 k ∧ M' 272 k = M 272 k) ∧ (∀ k, k / 8 ≠ 1 → M' 273 k = M 273 k) ∧ ∀ k, k / 24 ≠ 1 → M' 274 k = M 274 k ∧ M' 275 k = M 275 k
section RFf
variable {d b w : Nat} {X : Nat × (Nat → Int)} {v : Nat → Int} {M M' M2 : PH} {K : PV → PS → Prop} {n : Nat → Nat} {a μ μ' : PH} {F : Nat → List Int} {B : Nat → Int} {N : Nat} {rf : Nat → Int} {sd sd' : Int} {A A' : Nat} {P P' : Nat → PH} {R : Nat} {sp sh : Nat → Int} {pi : PB2} {fe : Int × Int}
theorem fw_q (h : fw 1 M M') : fq M M' := ⟨fun q z1 z2 => h.1 q z1 (by omega), h.2⟩
theorem fq_r : fq M M := fw_q fw_r
theorem fq_t (h : fq M M') (h2 : fq M' M2) : fq M M2 := ⟨fun q z1 z2 => (h2.1 q z1 z2).trans (h.1 q z1 z2), fun j z => (h2.2.1 j z).trans (h.2.1 j z), fun k z => (h2.2.2.1 k z).trans (h.2.2.1 k z), fun k z => ⟨(h2.2.2.2.1 k z).1.trans (h.2.2.2.1 k z).1, (h2.2.2.2.1 k z).2.trans (h.2.2.2.1 k z).2⟩, fun k z => (h2.2.2.2.2.1 k z).trans (h.2.2.2.2.1 k z), fun k z => ⟨(h2.2.2.2.2.2 k z).1.trans (h.2.2.2.2.2 k z).1, (h2.2.2.2.2.2 k z).2.trans (h.2.2.2.2.2 k z).2⟩⟩
theorem fq_8 (h : ∀ q, q ≠ 278 → q ≠ 279 → M' q = M q) : fq M M' := by
  refine ⟨fun q z1 z2 => h q (by omega) (by omega), fun j _ => by rw [h 234 (by omega) (by omega)], fun k _ => by rw [h 270 (by omega) (by omega)], fun k _ => ?_, fun k _ => by rw [h 273 (by omega) (by omega)], fun k _ => ?_⟩
  · rw [h 271 (by omega) (by omega), h 272 (by omega) (by omega)]; exact ⟨rfl, rfl⟩
  · rw [h 274 (by omega) (by omega), h 275 (by omega) (by omega)]; exact ⟨rfl, rfl⟩
theorem fq_S (h : fq M M') : frS M M' := fun q hq => h.1 q (by omega) (by omega)
theorem RS_q (h : fq M M') (hS : RS M b n a F) : RS M' b n a F := RS_f (fun q z1 z2 => h.1 q (by omega) (by omega)) (h.2.1 13 (by omega)) hS
theorem RM_q (h : fq M M') (hu : 1 ≠ w) (h3 : n 1 ≤ 3) (h8 : n 2 ≤ 8) (hM : RM M n w μ) : RM M' n w μ := by
  obtain ⟨m0, m1, m2, m3, m4⟩ := hM
  refine ⟨m0, (h.2.2.1 w (by omega)).trans m1, fun m hm => ?_, fun k hk => (h.2.2.2.2.1 _ (by omega)).trans (m3 k hk), fun k m hk hm => ?_⟩
  · have g := h.2.2.2.1 (3 * w + m) (by omega)
    rw [g.1, g.2]; exact m2 m hm
  · have g := h.2.2.2.2.2 (24 * w + 3 * k + m) (by omega)
    rw [g.1, g.2]; exact m4 k m hk hm
theorem IR_qq (hf : fq M M') (h : IR M b n a F μ B N rf sd A P R sp sh pi fe) : IR M' b n a F μ B N rf sd A P R sp sh pi fe := by
  have hn := h.1.2.2.1
  refine IR_re h (fun q z1 z2 => hf.1 q (by omega) (by omega)) (fun j _ _ _ z => hf.2.1 j z) ((hf.2.1 62 (by omega)).trans h.2.2.2.2.1) (RM_q hf (by omega) (by omega) (by omega) h.2.1) ?_
  obtain ⟨x, x1, x2, x3, x4, x5⟩ := h.2.2.2.2.2.1
  exact ⟨x, x1, x2, (hf.2.1 60 (by omega)).trans x3, (hf.2.1 61 (by omega)).trans x4, fun k hk => RM_q hf (by omega) (by omega) (by omega) (x5 k hk)⟩
theorem sdg_s {B n1 i : Nat} (h : n1 ≤ 3) : sm (fun j => dg B n1 i (n1 - 1 - j)) n1 = sdg B n1 i := by
  have : n1 = 0 ∨ n1 = 1 ∨ n1 = 2 ∨ n1 = 3 := by omega
  rcases this with rfl | rfl | rfl | rfl
  · simp [sm, sdg, dg]
  · simp [sm, sdg, dg]
  · simp [sm, sdg, dg]; omega
  · simp [sm, sdg, dg]; omega
theorem c284 (hS : RS M b n a F) (hM : RM M n w μ) {h row C : Nat} (hh : h < n 2) (hC : 0 < C) (hC2 : C ≤ 100) (hr : row < 2147483648) (hK : ∀ M', fw w M M' → M' 277 = M 277 → (∀ q, q ≠ 274 → M' q = M q) → RM M' n w (setb μ h (dg C (n 1) row)) → K (vI (sdg C (n 1) row)) (GF X, M', PTF v)) : pm_Call (d + 1) 284 [vA 234, vI (w : Int), vI (h : Int), vI (row : Int), vI (C : Int)] (GF X, M, PTF v) K := by
  have hn := hS.2.2.1
  have w22 := hM.1
  obtain ⟨⟨hb, e13⟩, ⟨-, e1, -⟩, -⟩ := id hS.1
  have en : M 237 (M 234 13).toNat = (n 1 : Int) := by rw [e13, Int.toNat_natCast, e1]
  have main : ∀ k j, k + j = n 1 → ∀ Mx, (∀ q, q ≠ 274 → Mx q = M q) → (∀ i, i < 24 * w + 3 * h + k ∨ 24 * w + 3 * h + n 1 ≤ i → Mx 274 i = M 274 i) → (∀ m, k ≤ m → m < n 1 → Mx 274 (24 * w + 3 * h + m) = dg C (n 1) row m) → pm_Run d 284 19 [vA 234, vI (w : Int), vI (h : Int), vI (row : Int), vI (C : Int), vI ((row / C ^ j : Nat) : Int), vI (sm (fun i => dg C (n 1) row (n 1 - 1 - i)) j), vI ((k : Int) - 1)] [] (GF X, Mx, PTF v) K := by
    intro k
    induction k with
    | zero =>
      intro j hj Mx fx gx hx
      rw [r284_19 (by omega), if_pos (by omega), r284_68, show j = n 1 by omega, sdg_s (by omega)]
      obtain ⟨m0, m1, m2, m3, m4⟩ := id hM
      refine hK Mx ⟨fun q z1 z2 => fx q (by omega), fun j _ => by rw [fx 234 (by omega)], fun k _ => by rw [fx 270 (by omega)], fun k _ => ?_, fun k _ => by rw [fx 273 (by omega)], fun k z => ?_⟩ (fx 277 (by omega)) fx ⟨m0, ?_, fun m hm => ?_, fun h' hh' => ?_, fun h' m hh' hm => ?_⟩
      · rw [fx 271 (by omega), fx 272 (by omega)]; exact ⟨rfl, rfl⟩
      · rw [fx 275 (by omega)]; exact ⟨gx k (by omega), rfl⟩
      · rw [fx 270 (by omega), setb_i (by omega)]; exact m1
      · rw [fx 271 (by omega), fx 272 (by omega), setb_i (by omega), setb_i (by omega)]; exact m2 m hm
      · rw [fx 273 (by omega), setb_i (by omega)]; exact m3 h' hh'
      · rw [fx 275 (by omega), setb_i (i := 5) (by omega), setb_4 (by omega)]
        refine ⟨?_, (m4 h' m hh' hm).2⟩
        by_cases q : h' = h
        · subst q; rw [if_pos rfl]; exact hx m (by omega) hm
        · rw [if_neg q, gx _ (by omega)]; exact (m4 h' m hh' hm).1
    | succ k ih =>
      intro j hj Mx fx gx hx
      have rl : row / C ^ j ≤ row := Nat.div_le_self _ _
      have rc : inR ((row / C ^ j : Nat) : Int) := by
        obtain ⟨z, hz⟩ : ∃ z : Nat, z = row / C ^ j := ⟨_, rfl⟩
        rw [← hz] at rl ⊢; omega
      have ix : (24 * (w : Int) + 3 * (h : Int) + (((k + 1 : Nat) : Int) - 1)).toNat = 24 * w + 3 * h + k := by omega
      have et : ((row / C ^ j : Nat) : Int).tmod (C : Int) = ((row / C ^ j % C : Nat) : Int) := rfl
      have ed : ((row / C ^ j : Nat) : Int).tdiv (C : Int) = ((row / C ^ (j + 1) : Nat) : Int) := by
        rw [Nat.pow_succ, ← Nat.div_div_eq_div_mul]; rfl
      have eg : dg C (n 1) row k = ((row / C ^ j % C : Nat) : Int) := by rw [dg, if_pos (by omega), show n 1 - 1 - k = j by omega]
      rw [r284_19 (by omega), if_neg (by omega), r284_24 rc (by omega) (by omega) (by omega) (by omega), r284_45 rc (by omega) (by omega), ix, et, ed]
      have := ih (j + 1) (by omega) (pm_sa Mx 274 (pm_up (Mx 274) (24 * w + 3 * h + k) ((row / C ^ j % C : Nat) : Int))) (fun q z => by rw [sa_n z]; exact fx q z) (fun i hi => by rw [sa_s, up_n (by omega)]; exact gx i (by omega)) (fun m m1 m2 => by
        rw [sa_s]
        by_cases q : m = k
        · subst q; rw [up_s, eg]
        · rw [up_n (by omega)]; exact hx m (by omega) m2)
      rw [sm, show n 1 - 1 - j = k by omega, eg] at this
      rw [show ((k + 1 : Nat) : Int) - 1 + (-1) = (k : Int) - 1 by omega]
      exact this
  rw [en284, r284_0 (by omega) (by omega), en]
  have := main (n 1) 0 (by omega) M (fun _ _ => rfl) (fun _ _ => rfl) (fun m z1 z2 => by omega)
  rw [Nat.pow_zero, Nat.div_one] at this
  exact this
theorem c285 (hS : RS M b n a F) {C : Nat} : pm_Call (d + 1) 285 [vA 234, vI (C : Int)] (GF X, M, PTF v) K ↔ K (vI ((C ^ n 1 : Nat) : Int)) (GF X, M, PTF v) := by
  have hn := hS.2.2.1
  obtain ⟨⟨hb, e13⟩, ⟨-, e1, -⟩, -⟩ := id hS.1
  have en : M 237 (M 234 13).toNat = (n 1 : Int) := by rw [e13, Int.toNat_natCast, e1]
  rw [en285, r285_0]
  refine (loopN (fun j => pm_Run d 285 4 [vA 234, vI (C : Int), vI ((C ^ j : Nat) : Int), vI (j : Int)] [] (GF X, M, PTF v) K) (n 1) (fun j hj => ?_)).trans ?_
  · rw [r285_4 (by omega) (by omega) (by omega) (by rw [en]; omega), en, if_neg (by omega), r285_17, Nat.pow_succ, Int.natCast_mul]; exact Iff.rfl
  · rw [r285_4 (by omega) (by omega) (by omega) (by rw [en]; omega), en, if_pos (by omega), r285_27]
theorem c286 (hS : RS M b n a F) (hM : RM M n w μ) {h : Nat} (hh : h < n 2) (hK : ∀ M', (∀ q, q ≠ 278 → M' q = M q) → (∀ m, m < n 1 → M' 278 m = μ 4 (h * 3 + m)) → K PU (GF X, M', PTF v)) : pm_Call (d + 1) 286 [vA 234, vI (w : Int), vI (h : Int)] (GF X, M, PTF v) K := by
  have hn := hS.2.2.1
  have w22 := hM.1
  obtain ⟨⟨hb, e13⟩, ⟨-, e1, -⟩, -⟩ := id hS.1
  have main : ∀ k j, j + k = n 1 → ∀ Mx, (∀ q, q ≠ 278 → Mx q = M q) → (∀ m, m < j → Mx 278 m = μ 4 (h * 3 + m)) → pm_Run d 286 2 [vA 234, vI (w : Int), vI (h : Int), vI (j : Int)] [] (GF X, Mx, PTF v) K := by
    intro k
    induction k with
    | zero =>
      intro j hj Mx fx hx
      have en : Mx 237 (Mx 234 13).toNat = (n 1 : Int) := by rw [fx 234 (by omega), fx 237 (by omega), e13, Int.toNat_natCast, e1]
      have e13' : Mx 234 13 = (b : Int) := by rw [fx 234 (by omega)]; exact e13
      rw [r286_2 (by omega) (by omega) (by omega) (by rw [en]; omega), en, if_pos (by omega), r286_42]
      exact hK Mx fx (fun m hm => hx m (by omega))
    | succ k ih =>
      intro j hj Mx fx hx
      have en : Mx 237 (Mx 234 13).toNat = (n 1 : Int) := by rw [fx 234 (by omega), fx 237 (by omega), e13, Int.toNat_natCast, e1]
      have e13' : Mx 234 13 = (b : Int) := by rw [fx 234 (by omega)]; exact e13
      have ix : (24 * (w : Int) + 3 * (h : Int) + (j : Int)).toNat = 24 * w + 3 * h + j := by omega
      rw [r286_2 (by omega) (by omega) (by omega) (by rw [en]; omega), en, if_neg (by omega), r286_15 (by omega) (by omega) (by omega) (by omega), r286_36, ix, Int.toNat_natCast, fx 274 (by omega), (hM.2.2.2.2 h j hh (by omega)).1]
      refine ih (j + 1) (by omega) _ (fun q z => by rw [sa_n z]; exact fx q z) (fun m hm => ?_)
      rw [sa_s]
      by_cases q : m = j
      · subst q; rw [up_s]
      · rw [up_n q]; exact hx m (by omega)
  rw [en286, r286_0]
  exact main (n 1) 0 (by omega) M (fun _ _ => rfl) (fun m hm => by omega)
theorem setb_2 {h : Nat} {t t' : Nat → Int} : setb (setb μ h t) h t' = setb μ h t' := by
  unfold setb
  rw [sa_sa, sa_s]
  congr 1
  funext k
  unfold pm_cp
  by_cases q : h * 3 ≤ k ∧ k < h * 3 + 3
  · rw [if_pos q, if_pos q]
  · rw [if_neg q, if_neg q, if_neg q]
theorem wM_dg (hw : wM n μ) {h C i : Nat} (hh : h < n 2) (hC : 0 < C) (hC2 : C ≤ 21) : wM n (setb μ h (dg C (n 1) i)) := wM_setb hw hh (fun m => by have := dg_b (n1 := n 1) (i := i) (m := m) hC; omega) (fun m hm => dg_n hm)
end RFf
