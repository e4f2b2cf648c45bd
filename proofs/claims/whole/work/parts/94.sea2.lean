/-! The class's acts: a new sea. -/
theorem lap {pre f post l : List Int} (hl : l = pre ++ f ++ post) {j : Nat} (hj : j < f.length) (h : pre.length + j < l.length) : l[pre.length + j] = f[j] := by
  subst hl
  rw [List.getElem_append_left (by rw [List.length_append]; omega), List.getElem_append_right (by omega)]
  simp
section AC5
variable {d c : Nat} {X : Nat × (Nat → Int)} {v v' : Nat → Int} {M M' : PH} {K : PV → PS → Prop} {n : Nat → Nat} {a μ μ' : PH} {F : Nat → List Int} {B B' : Nat → Int} {N N' : Nat} {rf rf' : Nat → Int} {sd sd' : Int} {A A' : Nat} {P P' : Nat → PH} {R R' : Nat} {sp sh sp' sh' : Nat → Int} {pi : PB2} {fe fe' : Int × Int} {T T' : Int}
theorem isC_z {l : List Int} {z : CZ} (h : CH M c l z) (hl : cdL M c l) : isC M c z.1 z.2.1 z.2.2.1 := by
  obtain ⟨h1, h2, h3, h4, h5, h6, h7⟩ := h
  obtain ⟨l1, l2, l3⟩ := hl
  refine ⟨h1, fun m hm => (h2 m hm).2, fun j hj => (h3 j hj).2, h4, fun w hw => ?_, h7⟩
  obtain ⟨pre, post, e, e1, e2⟩ := h6 w hw
  have hlen : l.length = pre.length + (z.2.2.1 w).length + post.length := by rw [e, List.length_append, List.length_append]
  refine ⟨pre.length, e1, by rw [List.length_append] at e2; exact e2, by omega, fun j hj => ?_⟩
  have hlt : pre.length + j < l.length := by omega
  exact ((l3 (pre.length + j) hlt).1).trans (lap e hj hlt)
theorem wC_z {z : CZ} (h : wZ z) (hg : gz z) : wC z.1 z.2.1 z.2.2.1 := ⟨h.1, h.2.1, h.2.2.1, h.2.2.2.1, hg.2.2⟩
theorem nm_z {l : List Int} {z : CZ} (h : CH M c l z) (hw : wZ z) (hg : gz z) : nmI M c z.1 z.2.1 := by
  obtain ⟨h1, h2, h3, -⟩ := h
  obtain ⟨-, -, -, -, -, w1, w2, -⟩ := hw
  exact ⟨fun m hm => ⟨(h2 m hm).1, hg.1 m hm, (w1 m hm).2⟩, fun j hj => ⟨(h3 j hj).1, hg.2.1 j hj, (w2 j hj).2⟩⟩
/-- the spare chart, the reader's cells have changed -/
theorem IC_Z (h : IC M v n a F μ B N rf sd A P R sp sh pi fe T) (hc : isCh c) (hv0 : v 0 = (c : Int)) (hf : frZ (44 - c) M M') (hv : ∀ j, j < 5 → v' j = v j) (e3 : M' 31 3 = fe'.1) (e4 : M' 31 4 = fe'.2) : IC M' v' n a F μ B N rf sd A P R sp sh pi fe' T ∧ frR M M' := by
  have hcc : c = 9 ∨ c = 35 := hc
  have g : ∀ q, ((c ≤ q ∧ q ≤ c + 19) ∨ q < 9 ∨ 56 < q ∨ q = 33) → M' q = M q := fun q hq => hf q (by omega) (by omega) (by omega)
  refine ⟨?_, fun q hq => g q (by omega)⟩
  obtain ⟨⟨c', c1, c2, c3, c4, c5, c6, c7, c8⟩, h2, ⟨h3, h3'⟩, h4, h5, ⟨k, h6⟩, h7, h8, ⟨p1, p2⟩, ⟨i1, i2⟩, h11, h12⟩ := h
  have : c' = c := by omega
  subst this
  refine ⟨⟨c', c1, by rw [hv 0 (by omega)]; exact c2, by rw [hv 1 (by omega)]; exact c3, by rw [hv 2 (by omega)]; exact c4, by rw [hv 3 (by omega)]; exact c5, by rw [hv 4 (by omega)]; exact c6, isC_fr (fun i hi => g _ (by omega)) c7, ?_⟩, h2, ⟨(mo_fr (fun i hi => g _ (by omega))).trans h3, h3'⟩, tpI_f (g 0 (by omega)) (g 1 (by omega)) h4, rfI_f (Int.le_refl _) (g 2 (by omega)) h5, ⟨k, FI_f (fun q h1 h2 => g _ (by omega)) h6⟩, BI_f (fun q h1 h2 => g _ (by omega)) (Int.le_refl _) h7, WI_f (g _ (by omega)) (g _ (by omega)) (g _ (by omega)) h8, ⟨PA_f (fun q h1 h2 => g _ (by omega)) p1, p2⟩, ⟨?_, i2⟩, ⟨e3, e4⟩, fun w hw => by rw [g 33 (by omega)]; exact h12 w hw⟩
  · unfold nmI at *
    rw [g _ (by omega), g _ (by omega)]; exact c8
  · unfold isP at *
    rw [g _ (by omega), g _ (by omega)]; exact i1
theorem a134 (h : IC M v n a F μ B N rf sd A P R sp sh pi fe T) (hT : T + 1 ≤ T') (hK0 : ∀ e, gRead B N = .inl e → ∀ M' v', IC M' v' n a F μ B 0 (pm_up rf 1 (rf 1 + 1)) sd A P R sp sh pi e T' → frR M M' → K (vI (-1)) (GF X, M', PTF v')) (hK1 : ∀ k l z, gRead B N = .inr (k, l, z) → ∀ M' v', IC M' v' z.1 z.2.1 z.2.2.1 z.2.2.2 B 0 rf sd 0 P 0 sp sh pi (0, -1) T' → frR M M' → K (vI (k : Int)) (GF X, M', PTF v')) : pm_Call (d + 45) 134 [vA 0] (GF X, M, PTF v) K := by
  have hN := h.2.2.2.1.2.1
  rw [en134, r134_0]
  refine c166 h (fun M1 hI f1 => ?_)
  have hI' := hI
  obtain ⟨⟨c, c1, c2, c3, c4, c5, c6, c7, c8⟩, h2, ⟨h3, h3'⟩, h4, h5, h6, ⟨b1, b2, b3⟩, h8, ⟨p1, p2⟩, ⟨i1, i2⟩, h11, h12⟩ := hI'
  have hcc : c = 9 ∨ c = 35 := c1
  have c1' : isCh (44 - c) := by unfold isCh; omega
  rw [push_i, r134_4]
  refine c67 c1' c3 h4.1 h12 hN (fun e M2 g1 g2 g3 g4 g5 => ?_) (fun k l z M2 g1 g2 g3 g4 g5 g6 g7 g8 => ?_)
  · obtain ⟨k1, k2⟩ := IC_Z (fe' := e) (v' := pm_up v 5 ((1 : Nat) : Int)) hI c1 c2 g2 (fun j hj => up_n (by omega)) g3 g4
    rw [push_i, r134_17 (by decide), if_neg (by simp), r134_20]
    refine c164 (j := 1) k1 hT (by omega) (fun M' k3 k4 => ?_)
    rw [push_i, r134_25]
    exact hK0 e g1 M' _ k3 (frR_t f1 (frR_t k2 k4))
  · have hgz := gRead_g (TP_BB h4.1) hN g1
    have hgz : gz z := hgz
    rw [push_i, r134_17 (by decide), if_pos (by simp), r134_26 c1 (by rw [up_n (by omega)]; exact c2), c68 (c2 := 44 - c) (by rw [up_n (by omega)]; exact c3), push_a, r134_38 c1']
    refine (c56 mo3 (ch_mo c1') (by omega)).mpr ?_
    rw [push_u, r134_55, c100, push_u, r134_62, c127, push_u, r134_69]
    obtain ⟨w, hw⟩ : ∃ w, w = pm_up (pm_up (pm_up v 5 ((1 : Nat) : Int)) 1 (c : Int)) 0 ((44 - c : Nat) : Int) := ⟨_, rfl⟩
    have w0 : w 0 = ((44 - c : Nat) : Int) := by rw [hw, up_s]
    have w1 : w 1 = ((44 - (44 - c) : Nat) : Int) := by
      rw [hw, up_n (by omega), up_s]
      have : 44 - (44 - c) = c := by omega
      rw [this]
    rw [← hw]
    obtain ⟨Mf, hMf⟩ : ∃ Mf, Mf = pm_sa (pm_sa (mcp M2 3 (44 - c + 9)) 103 (pm_up (mcp M2 3 (44 - c + 9) 103) 2 0)) 91 (pm_up (pm_sa (mcp M2 3 (44 - c + 9)) 103 (pm_up (mcp M2 3 (44 - c + 9) 103) 2 0) 91) 7 0) := ⟨_, rfl⟩
    rw [← hMf]
    have g : ∀ q, q ≠ 91 → q ≠ 103 → (q < 3 ∨ 8 < q) → Mf q = M2 q := fun q z1 z2 z3 => by rw [hMf, sa_n z1, sa_n z2, mcp_n (by omega)]
    have f91 : Mf 91 = pm_up (M2 91) 7 0 := by rw [hMf, sa_s, sa_n (by omega), mcp_n (by omega)]
    have gz2 : ∀ q, (q < 3 ∨ 56 < q ∨ q = 33) → M2 q = M1 q := fun q hq => g2 q (by omega) (by omega) (by omega)
    have hm : mo Mf 3 = z.2.2.2 := by
      rw [hMf, mo_n (by omega), mo_n (by omega), mcp_s]; exact g5.2.2.2.2.1
    have u1 : IC0 Mf w z.1 z.2.1 z.2.2.1 z.2.2.2 B 0 rf sd 0 P 0 sp sh pi (0, -1) T' := by
      refine ⟨⟨44 - c, c1', w0, w1, isC_fr (fun i hi => g _ (by omega) (by omega) (by omega)) (isC_z g5 g6), ?_⟩, wC_z g7 hgz, ⟨hm, g7.2.2.2.2.1⟩, tpI_f ((g 0 (by omega) (by omega) (by omega)).trans (gz2 0 (by omega))) ((g 1 (by omega) (by omega) (by omega)).trans (gz2 1 (by omega))) h4, rfI_f (by omega) ((g 2 (by omega) (by omega) (by omega)).trans (gz2 2 (by omega))) h5, ⟨?_, ?_⟩, ⟨by omega, by rw [f91, up_s]; rfl, fun k hk => absurd hk (Nat.not_lt_zero k)⟩, ⟨?_, fun k hk => absurd hk (Nat.not_lt_zero k)⟩, ⟨?_, i2⟩, ⟨?_, ?_⟩, fun x hx => by rw [g 33 (by omega) (by omega) (by omega), gz2 33 (by omega)]; exact h12 x hx⟩
      · have := nm_z g5 g7 hgz
        unfold nmI at *
        rw [g _ (by omega) (by omega) (by omega), g _ (by omega) (by omega) (by omega)]; exact this
      · unfold stI at *
        rw [g 74 (by omega) (by omega) (by omega), g 80 (by omega) (by omega) (by omega), gz2 74 (by omega), gz2 80 (by omega)]
        exact ⟨⟨b1.1.1, by have := b1.1.2; omega⟩, b1.2⟩
      · rw [g 74 (by omega) (by omega) (by omega), gz2 74 (by omega)]; exact b2.1
      · have hp := PA_0 (P' := P) (PA_f (M' := mcp M2 3 (44 - c + 9)) (fun q h1 h2 => by rw [mcp_n (by omega)]; exact gz2 q (by omega)) p1)
        refine PA_f (fun q h1 h2 => ?_) hp
        rw [hMf, sa_n (by omega)]
      · unfold isP at *
        rw [g 225 (by omega) (by omega) (by omega), g 226 (by omega) (by omega) (by omega), gz2 225 (by omega), gz2 226 (by omega)]; exact i1
      · rw [g 31 (by omega) (by omega) (by omega)]; exact g3
      · rw [g 31 (by omega) (by omega) (by omega)]; exact g4
    refine c167 u1 (fun M3 v3 k3 k4 k5 => ?_)
    have e7 : M3 (44 - c) 7 = (k : Int) := by rw [k5.1 _ (by omega), g _ (by omega) (by omega) (by omega)]; exact g8
    rw [push_u, r134_73 c1' (by rw [k5.2]; exact w0), e7]
    exact hK1 k l z g1 M3 v3 k3 (frR_t f1 (frR_t (fun q hq => (g q (by omega) (by omega) (by omega)).trans (gz2 q (by omega))) k4))
end AC5
