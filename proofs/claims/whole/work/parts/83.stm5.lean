/-! Statements of the class. -/
section CS5
variable {d c N : Nat} {X : Nat × (Nat → Int)} {v : Nat → Int} {M M' : PH} {K : PV → PS → Prop} {B : Nat → Int} {s : ST} {z : CZ} {κ : KP} {l : List Int}
theorem opk_Fm {w : Int} : opk (gFm B N w) ∧ kf (gFm B N w) := by
  by_cases q : w = 10
  · have : gFm B N w = gTest B N (gF B N 7) := by funext s; rw [gFm, if_pos q]
    rw [this]; exact opk_Test (opk_gF 7).1 (opk_gF 7).2
  · have : gFm B N w = gS B N 7 := by funext s; rw [gFm, if_neg q]
    rw [this]; exact opk_gS 7
theorem GD_Fm (hB : BB B) (hN : N ≤ 1600) {w : Int} : GD B N 7 28 (decide (w = 10)) (gFm B N w) := by
  by_cases q : w = 10
  · have : gFm B N w = gTest B N (gF B N 7) := by funext s; rw [gFm, if_pos q]
    rw [this, show decide (w = 10) = true by simp [q]]; exact GD_T hB hN 7
  · have : gFm B N w = gS B N 7 := by funext s; rw [gFm, if_neg q]
    rw [this, show decide (w = 10) = false by simp [q]]; exact GD_m (GD_S hB hN 7) (by omega)
theorem adv_m (hB : BB B) (hN : N ≤ 1600) {κ : KP} (hi : κ.1 ≤ N) : κ.1 ≤ (adv B N κ).1 ∧ (adv B N κ).1 ≤ N := by
  have h := tkB hB hN hi
  exact ⟨by have := h.2.2.2.2.2.2.2.1; have := h.2.2.2.2.2.2.1; show κ.1 ≤ (tok B N κ).2.2.2.2.2; omega, h.2.2.2.2.2.1⟩
set_option maxHeartbeats 4000000 in
theorem c82f (hE : PEn v M c B N) (hP : PSt M c B N (toS κ l)) (hC : CH M c l z) (hw : wZ z) (hpos : l.length ≤ κ.1) {w l1 : Int} (hww : w = 10 ∨ w = 11 ∨ w = 12) (hK : ∀ M', frZ c M M' → PS2 M' c B N (gForm B N κ l z w) → K PU (GF X, M', PTF v)) : pm_Run (d + 40) 82 217 [vA 31, vI l1, vI w, PU] [] (GF X, M, PTF v) K := by
  have hcc : c = 9 ∨ c = 35 := hE.1
  have w1 := hw.1
  have hBB := TP_BB hE.2.2.2.1
  have hN := hE.2.2.2.2.2
  have hi0 : κ.1 ≤ N := hP.2.2.2.1
  unfold gForm at hK
  rw [r82_217]
  refine c83 hE hP hC hw hww (fun hr M0 f0 p0 M1 hM1 => ?_) (fun hr M1 f1 p1 => ?_)
  · rw [if_pos hr] at hK
    have hwr : whf z w < 8 := by
      by_cases q : w = 10
      · have h4 : z.1 4 < 6 := by
          have := hr
          rw [rmf, if_pos q] at this
          simpa using this
        rw [whf, q, if_neg (by decide), if_pos rfl]; omega
      · unfold whf; rw [if_neg q]; split <;> omega
    have f1 : ∀ q, q ≠ 31 → q ≠ 32 → q ≠ c + 15 → q ≠ c + 16 → q ≠ c → M1 q = M q := fun q z1 z2 z3 z4 z5 => by
      rw [hM1]
      split
      · rw [sa_n z5]; exact f0 q z1 z2 z3 z4
      · exact f0 q z1 z2 z3 z4
    have f1c : ∀ i, M1 c i = if w = 10 ∧ i = 4 then (z.1 4 : Int) + 1 else M c i := fun i => by
      rw [hM1]
      by_cases q : w = 10
      · rw [if_pos q, sa_s, f0 c (by omega) (by omega) (by omega) (by omega)]
        by_cases q2 : i = 4
        · rw [up_e q2, if_pos ⟨q, q2⟩]
        · rw [up_n q2, if_neg (fun h => q2 h.2)]
      · rw [if_neg q, f0 c (by omega) (by omega) (by omega) (by omega), if_neg (fun h => q h.1)]
    have hE0 := PEn_f hE f0
    obtain ⟨hE1, p1⟩ : PEn v M1 c B N ∧ PSt M1 c B N (sA B N (toS κ l)) := by
      rw [hM1]
      split
      · obtain ⟨a1, a2⟩ := PS_sa (q := c) (f := pm_up (M0 c) 4 ((z.1 4 : Int) + 1)) hE0 (by omega)
        exact ⟨a1, a2 _ p0⟩
      · exact ⟨hE0, p0⟩
    have e6 : M1 (c + 15) 6 = (l.length : Int) := p1.2.2.2.2.2.2.2.1
    rw [push_i, r82_222 (by omega), if_neg (by omega), r82_228 hE.1 hE.2.1, c41 hE.1 hwr, e6, push_u]
    obtain ⟨M2, hM2⟩ : ∃ M2, M2 = pm_sa (pm_sa M1 (c + 17) (pm_up (M1 (c + 17)) (whf z w) (l.length : Int))) (c + 18) (pm_up (M1 (c + 18)) (whf z w) (l.length : Int)) := ⟨_, rfl⟩
    rw [← hM2]
    have hE2 : PEn v M2 c B N := by
      rw [hM2]
      exact (PS_sa (PS_sa hE1 (by omega)).1 (by omega)).1
    have p2 : PSt M2 c B N (sA B N (toS κ l)) := by
      rw [hM2]
      exact (PS_sa (PS_sa hE1 (by omega)).1 (by omega)).2 _ ((PS_sa hE1 (by omega)).2 _ p1)
    have hd7 : dep 7 (sA B N (toS κ l)) := by show 7 ≤ 7 + 0; omega
    -- what is read, then closed
    have fin : ∀ M3 : PH, frQ c M2 M3 → PSt M3 c B N (gFm B N w (sA B N (toS κ l))) → pm_Run (d + 40) 82 256 [vA 31, vI l1, vI w, vI (whf z w : Nat)] [] (GF X, M3, PTF v) K := by
      intro M3 f3 p3
      have m17 : M3 (c + 17) = pm_up (M (c + 17)) (whf z w) (l.length : Int) := by rw [f3 (c + 17) (by omega) (by omega) (by omega) (by omega), hM2, sa_n (by omega), sa_s, f1 (c + 17) (by omega) (by omega) (by omega) (by omega) (by omega)]
      have m18 : M3 (c + 18) = pm_up (M (c + 18)) (whf z w) (l.length : Int) := by rw [f3 (c + 18) (by omega) (by omega) (by omega) (by omega), hM2, sa_s, f1 (c + 18) (by omega) (by omega) (by omega) (by omega) (by omega)]
      have mq : ∀ q, q ≠ 31 → q ≠ 32 → q ≠ c + 15 → q ≠ c + 16 → q ≠ c + 17 → q ≠ c + 18 → q ≠ c → M3 q = M q := fun q z1 z2 z3 z4 z5 z6 z7 => by rw [f3 q z1 z2 z3 z4, hM2, sa_n z6, sa_n z5]; exact f1 q z1 z2 z3 z4 z7
      have mc : M3 c = M1 c := by rw [f3 c (by omega) (by omega) (by omega) (by omega), hM2, sa_n (by omega), sa_n (by omega)]
      have hl16 : l.length ≤ 1600 := hP.2.2.2.2.2.2.1
      rw [r82_256 hE.1 hE.2.1]
      have hcd : ∃ sz : Nat, sz ≤ 1600 ∧ M3 (c + 15) 6 = (sz : Int) ∧ ∀ i, i < sz → inR (M3 (c + 16) i) := by
        cases e : gFm B N w (sA B N (toS κ l)) with
        | inl e' => rw [e] at p3; exact p3.2.2.2.2.2.2.2
        | inr y =>
          rw [e] at p3
          obtain ⟨l1', l2', l3'⟩ := p3.2.2.2.2.2.2
          exact ⟨y.2.2.length, l1', l2', fun i hi => by rw [(l3' i hi).1]; exact (l3' i hi).2⟩
      obtain ⟨sz, hsz, esz, hcdi⟩ := hcd
      refine c42 hE.1 hwr hsz esz (i0 := l.length) (by rw [m17, up_s]) hl16 hcdi (fun g g1 g2 => ?_)
      rw [push_u, r82_267, r82_274]
      have hfr : frZ c M (pm_sa (pm_sa M3 (c + 18) (pm_up (M3 (c + 18)) (whf z w) (sz : Int))) (c + 19) g) := fun q z1 z2 z3 => by rw [sa_n (by omega), sa_n (by omega)]; exact mq q z1 z2 (by omega) (by omega) (by omega) (by omega) (by omega)
      have hE3 := PEn_f hE2 f3
      have p4 : PSt (pm_sa (pm_sa M3 (c + 18) (pm_up (M3 (c + 18)) (whf z w) (sz : Int))) (c + 19) g) c B N (gFm B N w (sA B N (toS κ l))) := (PS_sa (PS_sa hE3 (by omega)).1 (by omega)).2 _ ((PS_sa hE3 (by omega)).2 _ p3)
      refine hK _ hfr ?_
      cases e : gFm B N w (sA B N (toS κ l)) with
      | inl e' => rw [e] at p4; exact p4
      | inr y =>
        rw [e] at p3 p4
        have a1 := adv_m hBB hN hi0
        obtain ⟨i1, ee, j1, k1, l1', t1⟩ := GD_Fm hBB hN (w := w) (adv B N κ) 0 l y (by omega) a1.2 (by omega) e
        have hopn : y.2.1 = 0 := opk_Fm.1 _ y e
        have hdrop : y.2.2.drop l.length = ee := by rw [j1]; simp
        have esz' : sz = y.2.2.length := by
          have := p3.2.2.2.2.2.2.2.1
          omega
        have hyt : toS y.1 y.2.2 = .inr y := by rw [toS, ← hopn]
        have hcode : ∀ i (h : i < y.2.2.length), M3 (c + 16) i = y.2.2[i] := fun i h => (p3.2.2.2.2.2.2.2.2 i h).1
        have hty := ty_w (l := ee) (s := []) (by rw [t1 [] (by simp)]; simp)
        show PSt _ c B N (toS y.1 y.2.2) ∧ CH _ c y.2.2 (zForm z (whf z w) (y.2.2.drop l.length) (decide (w = 10))) ∧ wZ (zForm z (whf z w) (y.2.2.drop l.length) (decide (w = 10)))
        rw [hyt, hdrop]
        obtain ⟨M4, hM4⟩ : ∃ M4, M4 = pm_sa (pm_sa M3 (c + 18) (pm_up (M3 (c + 18)) (whf z w) (sz : Int))) (c + 19) g := ⟨_, rfl⟩
        rw [← hM4] at p4 ⊢
        have nq : ∀ q, q ≠ 31 → q ≠ 32 → q ≠ c + 15 → q ≠ c + 16 → q ≠ c + 17 → q ≠ c + 18 → q ≠ c + 19 → q ≠ c → M4 q = M q := fun q z1 z2 z3 z4 z5 z6 z7 z8 => by rw [hM4, sa_n z7, sa_n z6]; exact mq q z1 z2 z3 z4 z5 z6 z8
        have n17 : M4 (c + 17) = pm_up (M (c + 17)) (whf z w) (l.length : Int) := by rw [hM4, sa_n (by omega), sa_n (by omega), m17]
        have n18 : M4 (c + 18) = pm_up (M (c + 18)) (whf z w) (sz : Int) := by
          rw [hM4, sa_n (by omega), sa_s, m18]
          funext j
          by_cases q : j = whf z w
          · rw [up_e q, up_e q]
          · rw [up_n q, up_n q, up_n q]
        have n19 : M4 (c + 19) = g := by rw [hM4, sa_s]
        have nc : ∀ i, M4 c i = if w = 10 ∧ i = 4 then (z.1 4 : Int) + 1 else M c i := fun i => by rw [hM4, sa_n (by omega), sa_n (by omega), mc]; exact f1c i
        refine ⟨p4, ⟨fun i hi => ?_, fun m hm => ?_, fun h hh => ?_, fun k hk => ?_, ?_, fun u hu => ?_, fun u hu => ?_⟩, ?_⟩
        · rw [nc i]
          show _ = (((if decide (w = 10) = true then upn z.1 4 (z.1 4 + 1) else z.1) i : Nat) : Int)
          by_cases q : w = 10
          · rw [if_pos (show decide (w = 10) = true by simp [q])]
            by_cases q2 : i = 4
            · rw [if_pos ⟨q, q2⟩, q2, upn_s]; rfl
            · rw [if_neg (fun h => q2 h.2), upn_n q2]; exact hC.1 i hi
          · rw [if_neg (fun h => q h.1), if_neg (show ¬ decide (w = 10) = true by simp [q])]; exact hC.1 i hi
        · have hm' : m < z.1 1 := by
            have : m < (if decide (w = 10) = true then upn z.1 4 (z.1 4 + 1) else z.1) 1 := hm
            split at this
            · rwa [upn_n (by omega)] at this
            · exact this
          rw [nq (c + 1) (by omega) (by omega) (by omega) (by omega) (by omega) (by omega) (by omega) (by omega), nq (c + 2) (by omega) (by omega) (by omega) (by omega) (by omega) (by omega) (by omega) (by omega)]
          exact hC.2.1 m hm'
        · have hh' : h < z.1 2 := by
            have : h < (if decide (w = 10) = true then upn z.1 4 (z.1 4 + 1) else z.1) 2 := hh
            split at this
            · rwa [upn_n (by omega)] at this
            · exact this
          rw [nq (c + 3) (by omega) (by omega) (by omega) (by omega) (by omega) (by omega) (by omega) (by omega), nq (c + 4) (by omega) (by omega) (by omega) (by omega) (by omega) (by omega) (by omega) (by omega), nq (c + 5) (by omega) (by omega) (by omega) (by omega) (by omega) (by omega) (by omega) (by omega)]
          exact hC.2.2.1 h hh'
        · have hk' : k < z.1 3 := by
            have : k < (if decide (w = 10) = true then upn z.1 4 (z.1 4 + 1) else z.1) 3 := hk
            split at this
            · rwa [upn_n (by omega)] at this
            · exact this
          rw [nq (c + 6) (by omega) (by omega) (by omega) (by omega) (by omega) (by omega) (by omega) (by omega), nq (c + 7) (by omega) (by omega) (by omega) (by omega) (by omega) (by omega) (by omega) (by omega), nq (c + 8) (by omega) (by omega) (by omega) (by omega) (by omega) (by omega) (by omega) (by omega)]
          exact hC.2.2.2.1 k hk'
        · rw [mo_fr (M := M) (fun i hi => nq _ (by omega) (by omega) (by omega) (by omega) (by omega) (by omega) (by omega) (by omega))]; exact hC.2.2.2.2.1
        · show ∃ pre post, y.2.2 = pre ++ (if u = whf z w then ee else z.2.2.1 u) ++ post ∧ _ ∧ M4 (c + 18) u = ((pre ++ (if u = whf z w then ee else z.2.2.1 u)).length : Int)
          by_cases q : u = whf z w
          · rw [if_pos q]
            exact ⟨l, [], by rw [j1]; simp, by rw [n17, up_e q], by rw [n18, up_e q, esz', j1]⟩
          · rw [if_neg q]
            obtain ⟨pre, post, q1, q2, q3⟩ := hC.2.2.2.2.2.1 u hu
            exact ⟨pre, post ++ ee, by rw [j1, q1]; simp, by rw [n17, up_n q]; exact q2, by rw [n18, up_n q]; exact q3⟩
        · show ∃ U : Nat, U < 2147483648 ∧ M4 (c + 19) u = (U : Int) ∧ ∀ j, j < 29 → (U.testBit j = true ↔ ((10000 + j : Nat) : Int) ∈ (if u = whf z w then ee else z.2.2.1 u))
          by_cases q : u = whf z w
          · rw [if_pos q, n19, q]
            obtain ⟨U, hU, eU, bU⟩ := hC.2.2.2.2.2.2 (whf z w) hwr
            -- the formula was not there yet
            have hempty : z.2.2.1 (whf z w) = [] := by
              unfold rmf at hr
              by_cases q10 : w = 10
              · have : whf z w = 2 + z.1 4 := by rw [whf, q10, if_neg (by decide), if_pos rfl]
                rw [this]; exact hw.2.2.2.2.2.2.2 _ (by omega)
              · rw [if_neg q10] at hr
                simpa using hr
            obtain ⟨U', hU', eU', bU'⟩ := g2 U hU (by rw [mq (c + 19) (by omega) (by omega) (by omega) (by omega) (by omega) (by omega) (by omega)]; exact eU) (fun i h1 h2 h3 h4 => by
              rw [hcode i (by omega)] at h3 h4 ⊢
              have hmem : y.2.2[i]'(by omega) ∈ ee := by
                have : y.2.2[i]? = ee[i - l.length]? := by rw [j1, List.getElem?_append_right h1]
                rw [List.getElem?_eq_getElem (by omega)] at this
                exact List.mem_of_getElem? this.symm
              rcases hty _ hmem with h | h | h <;> omega)
            refine ⟨U', hU', eU', fun j hj => (bU' j hj).trans ?_⟩
            rw [bU j hj, hempty]
            constructor
            · rintro (h | ⟨i, h1, h2, h3⟩)
              · exact absurd h List.not_mem_nil
              · rw [hcode i (by omega)] at h3
                have : y.2.2[i]? = ee[i - l.length]? := by rw [j1, List.getElem?_append_right h1]
                rw [List.getElem?_eq_getElem (by omega), h3] at this
                exact List.mem_of_getElem? this.symm
            · intro h
              obtain ⟨i, hi, e3⟩ := List.getElem_of_mem h
              have hlen : y.2.2.length = l.length + ee.length := by rw [j1]; simp
              refine Or.inr ⟨l.length + i, by omega, by omega, ?_⟩
              rw [hcode (l.length + i) (by omega)]
              have : y.2.2[l.length + i]? = some (ee[i]) := by rw [j1, List.getElem?_append_right (by omega), show l.length + i - l.length = i by omega]; exact List.getElem?_eq_getElem hi
              rw [List.getElem?_eq_getElem (by omega)] at this
              injection this with this
              rw [this, e3]
          · rw [if_neg q, n19, g1 u q, mq (c + 19) (by omega) (by omega) (by omega) (by omega) (by omega) (by omega) (by omega)]
            exact hC.2.2.2.2.2.2 u hu
        · obtain ⟨w1, w2, w3, w4, w5, w6, w7, w8⟩ := hw
          have hn : ∀ i, i ≠ 4 → (zForm z (whf z w) ee (decide (w = 10))).1 i = z.1 i := fun i hi => by
            show (if decide (w = 10) = true then upn z.1 4 (z.1 4 + 1) else z.1) i = z.1 i
            split
            · rw [upn_n hi]
            · rfl
          have h4 : (zForm z (whf z w) ee (decide (w = 10))).1 4 ≤ 6 ∧ z.1 4 ≤ (zForm z (whf z w) ee (decide (w = 10))).1 4 := by
            show (if decide (w = 10) = true then upn z.1 4 (z.1 4 + 1) else z.1) 4 ≤ 6 ∧ z.1 4 ≤ (if decide (w = 10) = true then upn z.1 4 (z.1 4 + 1) else z.1) 4
            by_cases q : w = 10
            · rw [if_pos (show decide (w = 10) = true by simp [q]), upn_s]
              unfold rmf at hr
              rw [if_pos q] at hr
              have : z.1 4 < 6 := by simpa using hr
              omega
            · rw [if_neg (show ¬ decide (w = 10) = true by simp [q])]; omega
          have ea : (zForm z (whf z w) ee (decide (w = 10))).2.1 = z.2.1 := rfl
          have em : (zForm z (whf z w) ee (decide (w = 10))).2.2.2 = z.2.2.2 := rfl
          unfold wZ
          rw [ea, em, hn 0 (by omega), hn 1 (by omega), hn 2 (by omega), hn 3 (by omega), hn 5 (by omega), hn 6 (by omega)]
          refine ⟨⟨w1.1, w1.2.1, w1.2.2.1, w1.2.2.2.1, h4.1, w1.2.2.2.2.2⟩, w2, w3, w4, ?_, w6, w7, fun u hu => ?_⟩
          · unfold wM at *
            rw [hn 0 (by omega), hn 1 (by omega), hn 2 (by omega)]; exact w5
          · show (if u = whf z w then ee else z.2.2.1 u) = []
            rw [if_neg ?_]
            · exact w8 u (by omega)
            · intro hq
              by_cases q : w = 10
              · have e1 : whf z w = 2 + z.1 4 := by rw [whf, q, if_neg (by decide), if_pos rfl]
                have e2 : (zForm z (whf z w) ee (decide (w = 10))).1 4 = z.1 4 + 1 := by
                  show (if decide (w = 10) = true then upn z.1 4 (z.1 4 + 1) else z.1) 4 = z.1 4 + 1
                  rw [if_pos (show decide (w = 10) = true by simp [q]), upn_s]
                omega
              · have e1 : whf z w ≤ 1 := by unfold whf; rw [if_neg q]; split <;> omega
                omega
    rw [r82_239 (by omega)]
    by_cases q : w = 10
    · rw [if_neg (by simpa using q), r82_245]
      refine TRe (tT 7) (by omega) hE2 hd7 p2 (fun M3 f3 p3 => ?_)
      rw [push_u, r82_249]
      exact fin M3 f3 (by rw [gFm, if_pos q]; exact p3)
    · rw [if_pos q, r82_252]
      refine TRe (tS 7) (by omega) hE2 hd7 p2 (fun M3 f3 p3 => ?_)
      rw [push_u]
      exact fin M3 f3 (by rw [gFm, if_neg q]; exact p3)
  · rw [if_neg (by simp [hr])] at hK
    rw [push_i, r82_222 (by omega), if_pos rfl, r82_274]
    exact hK M1 (fun q z1 z2 z3 => f1 q z1 z2 (by omega) (by omega)) p1
end CS5
