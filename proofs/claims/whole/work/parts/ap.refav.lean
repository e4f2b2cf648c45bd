/-! The reference's reader: the first statement. -/
def SI (M : PH) (bk N : Nat) : Prop := M 234 2 = (N : Int) ∧ M 234 5 = 0 ∧ M 234 8 = 0 ∧ M 234 9 = -1 ∧ (M 234 42 = (bk : Int) ∧ bk < 2) ∧ M 234 41 = 0 ∧ (M 237 bk = 0 ∧ M 241 bk = 0 ∧ M 246 bk = 0 ∧ M 250 bk = 0 ∧ M 253 bk = -1 ∧ M 255 bk = -1 ∧ M 257 bk = 20 ∧ M 258 bk = 50)
section RFav
variable {d b w bk D : Nat} {X : Nat × (Nat → Int)} {v : Nat → Int} {M M' M2 : PH} {K : PV → PS → Prop} {B : Nat → Int} {N : Nat} {κ : KP} {o op : Nat} {l S S0 Q : List Int} {e : Int × Int} {s : S2} {n : Nat → Nat} {a : PH} {z : CZ} {P : Nat → Nat → Prop}
theorem BZ_0 {x : Nat} (hx : x ≤ 24) (h42 : M 234 42 = (bk : Int) ∧ bk < 2) (h36 : M 236 bk = (x : Int)) (h : M 237 bk = 0 ∧ M 241 bk = 0 ∧ M 246 bk = 0 ∧ M 250 bk = 0 ∧ M 253 bk = -1 ∧ M 255 bk = -1 ∧ M 257 bk = 20 ∧ M 258 bk = 50) : BZ M bk [] (zNum z0 0 x) := by
  obtain ⟨c1, c2, c3, c4, f0, f1, c5, c6⟩ := h
  have u0 : (zNum z0 0 x).1 0 = x := zNum_s
  have u1 : ∀ j, j ≠ 0 → j ≠ 5 → j ≠ 6 → (zNum z0 0 x).1 j = 0 := fun j h0 h5 h6 => by
    rw [zNum_n h0]
    show (if j = 5 then 20 else if j = 6 then 50 else 0) = 0
    rw [if_neg h5, if_neg h6]
  have u5 : (zNum z0 0 x).1 5 = 20 := by rw [zNum_n (by omega)]; rfl
  have u6 : (zNum z0 0 x).1 6 = 50 := by rw [zNum_n (by omega)]; rfl
  have n1 := u1 1 (by omega) (by omega) (by omega)
  have n2 := u1 2 (by omega) (by omega) (by omega)
  have n3 := u1 3 (by omega) (by omega) (by omega)
  have n4 := u1 4 (by omega) (by omega) (by omega)
  refine ⟨⟨⟨by omega, by omega, by omega⟩, rfl, fun _ => rfl, fun _ _ _ _ => rfl, fun i hi => by omega⟩, ⟨by rw [u0]; exact h36, by rw [n3]; exact c3, by rw [n4]; exact c4, by rw [u5]; exact c5, by rw [u6]; exact c6⟩, ⟨h42, ⟨by rw [n1]; exact c1, by omega⟩, ⟨by rw [n2]; exact c2, by omega⟩, fun m hm => by omega, fun i hi => by omega⟩, ⟨fun m hm => by omega, fun i hi => by omega, fun k hk => by omega⟩, fun _ => f0, fun q => absurd rfl q, fun _ => f1, fun q => absurd rfl q, fun c hc => by omega⟩
theorem gRead_1 : gRead B N = gLp B N 80 1 (s2S B N 59 (gStm B N (0, false) [] z0 true)) := by
  rw [gRead]
  by_cases q : (tok B N (0, false)).1 = 0
  · have hw : wdo B N (0, false) = -1 := by rw [wdo, if_neg (by omega)]
    have eg : gStm B N (0, false) [] z0 true = .inl (1, ((tok B N (0, false)).2.2.1 : Int)) := by
      rw [gStm, hw, if_neg (by decide)]
    rw [if_pos q, eg]; rfl
  · rw [if_neg q]
    show (if (tok B N (0, false)).1 = 0 then _ else if 0 = 80 then _ else _) = _
    rw [if_neg q, if_neg (by omega)]; rfl
theorem m222 (hT : TX M B N) (h : SI M bk N) (hE : ∀ e, gRead B N = .inl e → ∀ M' (i : Int), FL M' e → fB bk M M' → pm_Run (d + 9) 222 188 [vA 234, vI i] [] (GF X, M', PTF v) K) (hG : ∀ c l z, gRead B N = .inr (c, l, z) → ∀ M', M' 234 8 = 0 → M' 234 9 = -1 → CDR M' bk l → BZ M' bk l z → fB bk M M' → pm_Run (d + 9) 222 188 [vA 234, vI ((c : Nat) : Int)] [] (GF X, M', PTF v) K) : pm_Run (d + 9) 222 125 [vA 234, PU] [] (GF X, M, PTF v) K := by
  obtain ⟨e2, e5, e8, e9, e42, e41, hz⟩ := h
  rw [gRead_1] at hE hG
  have hc : cw B (0, false) := ⟨fun z => absurd z (by decide), fun z => absurd z.1 (by decide)⟩
  rw [r222_125]
  refine c187 (d := d + 7) (κ := (0, false)) hT.1 hT.2.1 hT.2.2 (Nat.zero_le _) hc e5 e2 (fun g hg hgo => ?_)
  rw [push_u, r222_131]
  have o1 : OK (pm_sa M 234 g) B N (0, false) := ⟨by rw [sa_s, hgo 8 (by omega) (by omega) (by omega) (by omega) (by omega) (by omega)]; exact e8, by rw [sa_s, hgo 9 (by omega) (by omega) (by omega) (by omega) (by omega) (by omega)]; exact e9, by rw [sa_s]; exact hg, Nat.zero_le _, hc⟩
  have g1 : f4 M (pm_sa M 234 g) := ⟨fun q hq => sa_n hq, fun j z1 z2 => by rw [sa_s, hgo j (by omega) (by omega) (by omega) (by omega) (by omega) z2]⟩
  have d0 : CDR M bk [] := ⟨e42.1, e42.2, e41, Nat.zero_le _, fun i hi => absurd hi (Nat.not_lt_zero i)⟩
  have d1 : CDR (pm_sa M 234 g) bk [] := CDR_f d0 g1
  generalize pm_sa M 234 g = M1 at o1 g1 d1
  have p0 : PRS M1 bk B N (toS (0, false) []) := ⟨o1, d1⟩
  refine t208 (d := d + 6) (k := 0) (TX_B hT (fB_4 (bk := bk) g1)) p0 (by omega) (fun M2 p2 g2 => ?_)
  have g12 := f4_t g1 g2
  rw [push_u, r222_138]
  refine t196 (d := d + 5) (TX_B hT (fB_4 (bk := bk) g12)) p2 (lo := 4) (hi := 24) (by omega) (by omega) (fun M3 y p3 g3 b3 h3 => ?_)
  have g13 := f4_t g12 g3
  have i2 : M2 234 42 = (bk : Int) := (g12.2 42 (by omega) (by omega)).trans e42.1
  have hb := e42.2
  have i2' : (M2 234 42).toNat = bk := by omega
  rw [push_i, r222_153 (by omega) (by omega), i2']
  have F4 : fB bk M (pm_sa M3 236 (pm_up (M3 236) bk y)) := fB_t (fB_4 g13) (fB_q (by omega) (by show 1 * bk ≤ bk ∧ bk < 1 * bk + 1; omega))
  have p4 : PRS (pm_sa M3 236 (pm_up (M3 236) bk y)) bk B N (sN B N 4 24 (sWd B N 0 (toS (0, false) []))) := PRS_i p3 (sa_n (by omega)) (sa_n (by omega)) (sa_n (by omega))
  have v4 : (pm_sa M3 236 (pm_up (M3 236) bk y)) 236 bk = y ∧ ∀ q, q ≠ 236 → q ≠ 234 → (pm_sa M3 236 (pm_up (M3 236) bk y)) q = M q := ⟨by rw [sa_s, up_s], fun q z1 z2 => by rw [sa_n z1]; exact g13.1 q z2⟩
  have w4 : (pm_sa M3 236 (pm_up (M3 236) bk y)) 234 42 = (bk : Int) := by rw [sa_n (by omega)]; exact (g13.2 42 (by omega) (by omega)).trans e42.1
  generalize pm_sa M3 236 (pm_up (M3 236) bk y) = M4 at F4 p4 v4 w4
  have q4 : QS2 M4 bk B N (gStm B N (0, false) [] z0 true) := by
    by_cases qw : isW B N ((0 : Nat) : Int) (.inr ((0, false), 0, [])) = true
    · have hw := isW_w.mp qw
      have eg : gStm B N (0, false) [] z0 true = gNum B N (0, false) [] z0 0 4 24 := by rw [gStm, hw]; rfl
      have es : sWd B N 0 (toS (0, false) []) = sA B N (toS (0, false) []) := if_pos qw
      rw [es] at p4
      have h3' : ∀ x, sN B N 4 24 (sA B N (toS (0, false) [])) = .inr x → y = vl B N (sA B N (toS (0, false) [])) := by
        rw [← es]; exact h3
      rw [eg, gNum]
      revert p4 h3'
      cases hs : sN B N 4 24 (sA B N (toS (0, false) [])) with
      | inl y' => intro p4 h3'; exact p4
      | inr x =>
        intro p4 h3'
        have p4 : OK M4 B N x.1 ∧ CDR M4 bk x.2.2 := p4
        have ey := h3' x rfl
        obtain ⟨x0, hx0, -, lo, hi, hx⟩ := sN_e hs
        have lx : x.2.2 = [] := by
          have hx0 : (Sum.inr (adv B N (0, false), 0, []) : ST) = .inr x0 := hx0
          injection hx0 with hx0
          rw [hx, ← hx0]
        refine Or.inl ⟨p4.1, p4.2, ?_⟩
        show BZ M4 bk x.2.2 _
        rw [lx]
        refine BZ_0 (by omega) ⟨w4, hb⟩ (by rw [v4.1]; omega) ?_
        rw [v4.2 237 (by omega) (by omega), v4.2 241 (by omega) (by omega), v4.2 246 (by omega) (by omega), v4.2 250 (by omega) (by omega), v4.2 253 (by omega) (by omega), v4.2 255 (by omega) (by omega), v4.2 257 (by omega) (by omega), v4.2 258 (by omega) (by omega)]
        exact hz
    · have hw : wdo B N (0, false) ≠ 0 := fun z => qw (isW_w.mpr z)
      have eg : gStm B N (0, false) [] z0 true = .inl (1, ((tok B N (0, false)).2.2.1 : Int)) := by
        rw [gStm, if_neg (by simp [hw])]
      have es : sWd B N 0 (toS (0, false) []) = .inl (1, ((tok B N (0, false)).2.2.1 : Int)) := if_neg qw
      rw [es] at p4
      rw [eg]
      exact p4
  rw [r222_154]
  refine t221 (d := d + 5) (m := 1) (TX_B hT F4) q4 (by omega) (fun M5 q5 g5 => ?_)
  rw [push_u]
  refine l222 (d := d) (bk := bk) hT 80 1 M5 _ (by omega) (by omega) (by omega) (fB_t F4 g5) q5 (fun x hx => ?_) hE hG
  obtain ⟨w, hw, qw, hyw⟩ := s2S_e hx
  obtain ⟨p1, p2⟩ := gStm_p hT.1 hT.2.1 (Nat.zero_le _) (Nat.zero_le _) (fun z => absurd z (by decide)) hw
  rw [hw] at q4
  have k3 := (isS_k (κ := w.1) (o := 0) (l := w.2.1) qw).1
  rcases q4 with q4 | q4
  · have ad := adv_p hT.1 hT.2.1 q4.1.2.2.2.1 (by omega)
    rw [hyw]
    exact ⟨by show w.2.1.length ≤ (adv B N w.1).1; omega, p2⟩
  · omega
end RFav
