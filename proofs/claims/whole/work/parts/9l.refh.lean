/-! The reference: a harbor takes its best bids; the rest. -/
def low (n : Nat → Nat) (ν : PH) (h : Nat) : Bool := al (fun m => decide (ν 4 (h * 3 + m) ≤ 4)) (n 1)
def b0 (n : Nat → Nat) (a : PH) (F : Nat → List Int) (ν : PH) (h : Nat) : Int := if low n ν h = true then hts n F ν (a 2 h).toNat - bb ν h else -1000000000
/-- the best of the first rows, its own ones if none is better -/
def bst (n : Nat → Nat) (a : PH) (F : Nat → List Int) (ν : PH) (h j : Nat) : Int := if b0 n a F ν h < (mx (gain n a F ν h) j).1 then (mx (gain n a F ν h) j).1 else b0 n a F ν h
def bsr (n : Nat → Nat) (a : PH) (F : Nat → List Int) (ν : PH) (h j m : Nat) : Int := if b0 n a F ν h < (mx (gain n a F ν h) j).1 then dg 5 (n 1) (mx (gain n a F ν h) j).2 m else ν 4 (h * 3 + m)
theorem al_m {p : Nat → Bool} : ∀ {k : Nat}, (∀ i, i < k → p i = true) → al p k = true
  | 0, _ => rfl
  | k + 1, h => by rw [al, al_m (fun i hi => h i (by omega)), h k (by omega)]; rfl
section RFh
variable {d b w : Nat} {X : Nat × (Nat → Int)} {v : Nat → Int} {M M' M2 : PH} {K : PV → PS → Prop} {n : Nat → Nat} {a μ ν : PH} {F : Nat → List Int}
theorem low_i {h : Nat} : low n ν h = true ↔ ∀ m, m < n 1 → ν 4 (h * 3 + m) ≤ 4 := ⟨fun z m hm => by have := al_i z m hm; simpa using this, fun z => al_m (fun m hm => by simpa using z m hm)⟩
theorem gainB (hwC : wC n a F) {h : Nat} (i : Nat) : -200000 ≤ gain n a F ν h i ∧ gain n a F ν h i ≤ 200000 := by
  have h1 := hts_b (μ := setb ν h (dg 5 (n 1) i)) (p := (a 2 h).toNat) hwC
  have h2 := sdg_b (B := 5) (n1 := n 1) (i := i) (by omega)
  unfold gain thh; omega
theorem bb_setb {h : Nat} {tr : Nat → Int} : bb (setb ν h tr) h = tr 0 + tr 1 + tr 2 := by
  unfold bb
  rw [sm, sm, sm, sm]
  rw [setb_4 (by omega), setb_4 (by omega), setb_4 (by omega), if_pos rfl, if_pos rfl, if_pos rfl]; omega
theorem own_e (hw : wM n ν) (h3 : n 1 ≤ 3) {h i : Nat} (he : ∀ m, m < n 1 → dg 5 (n 1) i m = ν 4 (h * 3 + m)) : setb ν h (dg 5 (n 1) i) = ν := by
  unfold setb
  refine sa_id ?_
  funext k
  unfold pm_cp
  by_cases q : h * 3 ≤ k ∧ k < h * 3 + 3
  · rw [if_pos q]
    obtain ⟨m, hm⟩ : ∃ m, k = h * 3 + m := ⟨k - h * 3, by omega⟩
    subst hm
    rw [show 0 + (h * 3 + m - h * 3) = m by omega]
    by_cases q2 : m < n 1
    · exact he m q2
    · rw [dg_n (by omega), (hw.2.2.2.2.2.2.2 h m (by omega) (Or.inr (by omega))).1]
  · rw [if_neg q]
/-- whether it moves, and where to -/
theorem tkb (hw : wM n ν) (hwC : wC n a F) {h : Nat} (hh : h < n 2) : (mvs n a F ν h = true ↔ b0 n a F ν h < (mx (gain n a F ν h) (5 ^ n 1)).1) ∧ (b0 n a F ν h < (mx (gain n a F ν h) (5 ^ n 1)).1 → ¬ ∀ m, m < n 1 → dg 5 (n 1) (mx (gain n a F ν h) (5 ^ n 1)).2 m = ν 4 (h * 3 + m)) := by
  have hn := hwC.1
  have hE : 0 < 5 ^ n 1 := Nat.pow_pos (by omega)
  have hat := mx_at (g := gain n a F ν h) (fun i => (gainB hwC i).1) hE
  have hgb := gainB (ν := ν) (h := h) hwC (mx (gain n a F ν h) (5 ^ n 1)).2
  have mv : mvs n a F ν h = true ↔ og (gain n a F ν h) (isO n ν h) (5 ^ n 1) ≠ (mx (gain n a F ν h) (5 ^ n 1)).1 := by rw [mvs]; simp
  by_cases q : low n ν h = true
  · have q' := low_i.mp q
    obtain ⟨i0, hi0, he⟩ := dg_x (n1 := n 1) (by omega) (f := fun m => ν 4 (h * 3 + m)) (fun m hm => ⟨(hw.2.2.2.2.1 (h * 3 + m) (by omega)).1, q' m hm⟩)
    have ho : isO n ν h i0 = true := al_m (fun m hm => by simpa using he m hm)
    have hu : ∀ i, i < 5 ^ n 1 → isO n ν h i = true → i = i0 := fun i hi z => dg_u (by omega) hi hi0 (fun m hm => by
      have := al_i z m hm
      have e2 := he m hm
      simp at this
      rw [this]; exact e2.symm)
    have eo := og_i (g := gain n a F ν h) hu hi0 ho
    have es := own_e hw (by omega) he
    have eb := bb_setb (ν := ν) (h := h) (tr := dg 5 (n 1) i0)
    rw [es] at eb
    have e0 : b0 n a F ν h = gain n a F ν h i0 := by
      rw [b0, if_pos q, gain, thh, es, eb]; rfl
    have hge := mx_ge (g := gain n a F ν h) hi0
    rw [e0, mv, eo]
    refine ⟨⟨fun z => by omega, fun z => by omega⟩, fun z hm => ?_⟩
    have : (mx (gain n a F ν h) (5 ^ n 1)).2 = i0 := dg_u (by omega) hat.1 hi0 (fun m hm2 => by rw [hm m hm2]; exact (he m hm2).symm)
    rw [hat.2, this] at z; omega
  · have e0 : b0 n a F ν h = -1000000000 := by rw [b0, if_neg q]
    have eo : og (gain n a F ν h) (isO n ν h) (5 ^ n 1) = -1000000000 := og_n (fun i _ => by
      cases z : isO n ν h i with
      | false => rfl
      | true =>
        exfalso; apply q
        refine low_i.mpr (fun m hm => ?_)
        have := al_i z m hm
        simp at this
        have b := dg_b (n1 := n 1) (i := i) (m := m) (show 0 < 5 by omega)
        omega)
    rw [e0, mv, eo]
    refine ⟨⟨fun _ => by omega, fun _ => by omega⟩, fun _ hm => q (low_i.mpr (fun m hm2 => ?_))⟩
    have := hm m hm2
    have b := dg_b (n1 := n 1) (i := (mx (gain n a F ν h) (5 ^ n 1)).2) (m := m) (show 0 < 5 by omega)
    omega
theorem c288 (hS : RS M b n a F) (hM : RM M n w ν) (hw : wM n ν) {h : Nat} (hh : h < n 2) (hK : ∀ M', fh M M' → K (vI (hts n F ν (a 2 h).toNat - bb ν h)) (GF X, M', PTF v)) : pm_Call (d + 7) 288 [vA 234, vI (w : Int), vI (h : Int)] (GF X, M, PTF v) K := by
  have hwC := hS.2.2
  have hn := hwC.1
  have ha := hwC.2.2.1 h hh
  rw [en288, r288_0]
  refine c255 hS hM (wN_i hw) (by omega) (fun M1 f1 h1 => ?_)
  have hS1 := RS_w (w := 1) (fh_w f1) hS
  rw [push_u, r288_5, c230 hS1.1 hwC hh, push_i, r288_14 (by omega) (by omega), c239 hS1.1 hwC (RM_h f1 hM) (wN_i hw) hh, push_i, r288_21, h1 _ (by omega)]
  exact hK M1 f1
theorem c289 (hS : RS M b n a F) (hM : RM M n w ν) (hw : wM n ν) {h : Nat} (hh : h < n 2) : pm_Call (d + 1) 289 [vA 234, vI (w : Int), vI (h : Int)] (GF X, M, PTF v) K ↔ K (vI (if low n ν h = true then 1 else 0)) (GF X, M, PTF v) := by
  have hn := hS.2.2.1
  have w22 := hM.1
  obtain ⟨⟨hb, e13⟩, ⟨-, e1, -⟩, -⟩ := id hS.1
  have en : M 237 (M 234 13).toNat = (n 1 : Int) := by rw [e13, Int.toNat_natCast, e1]
  have main : ∀ k j, j + k = n 1 → (∀ m, m < j → ν 4 (h * 3 + m) ≤ 4) → (pm_Run d 289 2 [vA 234, vI (w : Int), vI (h : Int), vI (j : Int)] [] (GF X, M, PTF v) K ↔ K (vI (if low n ν h = true then 1 else 0)) (GF X, M, PTF v)) := by
    intro k
    induction k with
    | zero =>
      intro j hj hl
      rw [r289_2 (by omega) (by omega) (by omega) (by rw [en]; omega), en, if_pos (by omega), r289_42, if_pos (low_i.mpr (fun m hm => hl m (by omega)))]
    | succ k ih =>
      intro j hj hl
      have ix : (24 * (w : Int) + 3 * (h : Int) + (j : Int)).toNat = 24 * w + 3 * h + j := by omega
      have e4 := (hM.2.2.2.2 h j hh (by omega)).1
      have b4 := hw.2.2.2.2.1 (h * 3 + j) (by omega)
      rw [r289_2 (by omega) (by omega) (by omega) (by rw [en]; omega), en, if_neg (by omega), r289_15 (by omega) (by omega) (by rw [ix, e4]; omega), ix, e4]
      by_cases q : ν 4 (h * 3 + j) ≤ 4
      · rw [if_pos q, r289_36]
        exact ih (j + 1) (by omega) (fun m hm => by
          by_cases z : m = j
          · subst z; exact q
          · exact hl m (by omega))
      · rw [if_neg q, r289_34, if_neg (fun z => q (low_i.mp z j (by omega)))]
  rw [en289, r289_0]
  exact main (n 1) 0 (by omega) (fun m hm => by omega)
end RFh
