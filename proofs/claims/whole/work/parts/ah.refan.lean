/-! The reference's reader of statements: duties and debts. -/
section RFan
variable {d b w bk D : Nat} {X : Nat × (Nat → Int)} {v : Nat → Int} {M M' M2 : PH} {K : PV → PS → Prop} {B : Nat → Int} {N : Nat} {κ : KP} {e : Int × Int} {o op : Nat} {l S S0 Q : List Int} {s : ST} {n : Nat → Nat} {a : PH} {z : CZ} {P : Nat → Nat → Prop}
theorem BZ_pays {hh mm : Nat} {x : Int} (h : BZ M bk l z) (h1 : hh < z.1 2) (h2 : mm < 3) : BZ (pm_sa M 245 (pm_up (M 245) (24 * bk + (3 * hh + mm)) x)) bk l (zPays z (hh * 3 + mm) x) := by
  obtain ⟨⟨w1, w2, w3, w4, w5⟩, c, n, ⟨v1, v2, v3⟩, f⟩ := h
  have m0 : ∀ i k, i ≠ 4 ∨ k ≠ hh * 3 + mm → (zPays z (hh * 3 + mm) x).2.2.2 i k = z.2.2.2 i k := fun i k h1 => by
    show ups z.2.2.2 4 (hh * 3 + mm) x i k = _
    rw [ups_n h1]
  refine ⟨⟨w1, ?_, fun k => ?_, fun i m hm hi => ?_, w5⟩, c, n, ⟨fun m hm => ?_, fun i hi => ?_, v3⟩, f⟩
  · rw [m0 0 0 (by omega)]; exact w2
  · rw [m0 5 k (by omega)]; exact w3 k
  · have hi : z.1 2 ≤ i := hi
    rw [m0 4 _ (by omega)]; exact w4 i m hm hi
  · rw [m0 1 m (by omega), m0 2 m (by omega)]; exact v1 m hm
  · have hi : i < z.1 2 := hi
    rw [m0 3 i (by omega)]
    refine ⟨(v2 i hi).1, (v2 i hi).2.1, (v2 i hi).2.2.1, fun m hm => ?_⟩
    rw [sa_s]
    by_cases q : i = hh ∧ m = mm
    · obtain ⟨rfl, rfl⟩ := q
      show _ = ups z.2.2.2 4 (i * 3 + m) x 4 (i * 3 + m)
      rw [up_s, ups_s]
    · rw [up_n (by omega), m0 4 _ (by omega)]; exact (v2 i hi).2.2.2 m hm
theorem sHn_1 : sHn B N z (-1) s = sKn B N (decide (nix z.1 z.2.1 1 (vl B N s) ≠ -1)) s := by
  unfold sHn
  rw [Bool.and_self]; rfl
theorem sMn_1 : sMn B N z s = sKn B N (decide (nix z.1 z.2.1 0 (vl B N s) ≠ -1)) s := rfl
theorem sKn_t {f : Bool} {y : KP × Nat × List Int} (h : sKn B N f s = .inr y) : ∃ x, s = .inr x ∧ f = true := by
  unfold sKn at h
  by_cases q : isNm B N s = true
  · rw [if_pos q] at h
    obtain ⟨x, rfl⟩ := isNm_x q
    by_cases q2 : f = true
    · exact ⟨x, rfl, q2⟩
    · rw [if_neg q2, sG_i] at h; cases h
  · rw [if_neg q] at h
    cases s <;> cases h
/-- paying -/
theorem t214 (hT : TX M B N) (h : OK M B N κ) (hc : CL M) (hk : (tok B N κ).1 = 1) (hd : CDR M bk l) (hZ : BZ M bk l z) (hK : ∀ M', QS2 M' bk B N (gPays B N κ l z) → fB bk M M' → K PU (GF X, M', PTF v)) : pm_Call (d + 5) 214 [vA 234] (GF X, M, PTF v) K := by
  rw [en214, r214_0]
  refine c207 (d := d + 1) hT h hc hk (Or.inl rfl) (fun _ M1 o1 g1 => ?_) (fun f1 => by omega)
  have Z1 := BZ_4 hZ g1
  have F1 : fB bk M M1 := fB_4 g1
  have p0 : PRS M1 bk B N (sA B N (toS κ l)) := ⟨o1, CDR_f hd g1⟩
  rw [push_i, r214_5 (by omega), if_pos (by omega), r214_9]
  refine t211 (d := d) (TX_B hT F1) p0 Z1.2.2.1 (Or.inr rfl) (fun M2 r2 p2 g2 b2 h2 => ?_)
  rw [← sHn_1] at p2 h2
  have Z2 := BZ_4 Z1 g2
  have F2 : fB bk M M2 := fB_t F1 (fB_4 g2)
  rw [push_i, r214_14]
  refine t211 (d := d) (TX_B hT F2) p2 Z2.2.2.1 (Or.inl rfl) (fun M3 r3 p3 g3 b3 h3 => ?_)
  rw [← sMn_1] at p3 h3
  have Z3 := BZ_4 Z2 g3
  have F3 : fB bk M M3 := fB_t F2 (fB_4 g3)
  rw [push_i, r214_20]
  refine t196 (d := d) (TX_B hT F3) p3 (lo := 0) (hi := 20) (by omega) (by omega) (fun M4 y4 p4 g4 b4 h4 => ?_)
  have Z4 := BZ_4 Z3 g4
  have F4 : fB bk M M4 := fB_t F3 (fB_4 g4)
  obtain ⟨r8, hbad, hgood⟩ := PRS_8 p4
  rw [push_i, r214_28 r8]
  by_cases q8 : M4 234 8 = 0
  · obtain ⟨x4, hx4⟩ := hgood q8
    obtain ⟨x3, hx3, -, -, -, -⟩ := sN_e hx4
    have hx3' : sKn B N (decide (nix z.1 z.2.1 0 (vl B N (sHn B N z (-1) (sA B N (toS κ l)))) ≠ -1)) (sHn B N z (-1) (sA B N (toS κ l))) = .inr x3 := hx3
    obtain ⟨x2, hx2, q2⟩ := sKn_t hx3'
    have hx2' : sKn B N (decide (nix z.1 z.2.1 1 (vl B N (sA B N (toS κ l))) ≠ -1)) (sA B N (toS κ l)) = .inr x2 := by rw [← sHn_1]; exact hx2
    obtain ⟨x1, hx1, q1⟩ := sKn_t hx2'
    have e2 := h2 x2 hx2
    have e3 := h3 x3 hx3
    have e4 := h4 x4 hx4
    have n2 := nix_b (x := vl B N (sA B N (toS κ l))) Z1.2.2.1 (k := 1) (by simp)
    have n3 := nix_b (x := vl B N (sHn B N z (-1) (sA B N (toS κ l)))) Z1.2.2.1 (k := 0) (by simp)
    have c2 := Z1.2.2.1.2.2.1.2
    have c1 := Z1.2.2.1.2.1.2
    rw [if_neg (by simp)] at n2
    rw [if_pos rfl] at n3
    have q1 : nix z.1 z.2.1 1 (vl B N (sA B N (toS κ l))) ≠ -1 := by simpa using q1
    have q2 : nix z.1 z.2.1 0 (vl B N (sHn B N z (-1) (sA B N (toS κ l)))) ≠ -1 := by simpa using q2
    have i4 : M4 234 42 = (bk : Int) := Z4.2.2.1.1.1
    have hb := Z4.2.2.1.1.2
    have sl : ((3 * ((8 * (M4 234 42)) + r2)) + r3).toNat = 24 * bk + (3 * r2.toNat + r3.toNat) := by omega
    rw [if_neg (by simp [q8]), r214_36 (by omega) (by omega), sl, r214_55]
    have gp := gPays_p (l := l) (z := z) (x := (x4.1, x4.2.2, zPays z ((hOf B N z (sA B N (toS κ l))).toNat * 3 + (mOf B N z (sHn B N z (-1) (sA B N (toS κ l)))).toNat) (vl B N (sMn B N z (sHn B N z (-1) (sA B N (toS κ l))))))) hT.1 hT.2.1 h.2.2.2.1 (by rw [gPays, hx4]; rfl)
    have l4 : x4.2.2 = l := gp.2.1
    refine hK _ ?_ (fB_t F4 (fB_q (by omega) (by show 24 * bk ≤ _ ∧ _ < 24 * bk + 24; omega)))
    rw [gPays, hx4]
    refine Or.inl ⟨OK_u (by rw [hx4] at p4; exact p4.1) (fun j _ => by rw [sa_n (by omega)]), CDR_u (by rw [hx4] at p4; exact p4.2) (by rw [sa_n (by omega)]) (by rw [sa_n (by omega)]) (sa_n (by omega)) (sa_n (by omega)), ?_⟩
    show BZ _ bk x4.2.2 (zPays z ((nix z.1 z.2.1 1 (vl B N (sA B N (toS κ l)))).toNat * 3 + (nix z.1 z.2.1 0 (vl B N (sHn B N z (-1) (sA B N (toS κ l))))).toNat) (vl B N (sMn B N z (sHn B N z (-1) (sA B N (toS κ l))))))
    rw [l4, ← e2, ← e3, ← e4]
    exact BZ_pays Z4 (by omega) (by omega)
  · obtain ⟨e, he, hf⟩ := hbad q8
    rw [if_pos q8, r214_55]
    refine hK _ ?_ F4
    rw [gPays, he]; exact hf
theorem BZ_owes {de cr x : Int} (h : BZ M bk l z) (h3 : z.1 3 < 16) (e1 : M 247 (16 * bk + z.1 3) = de) (e2 : M 248 (16 * bk + z.1 3) = cr) (e3 : M 249 (16 * bk + z.1 3) = x) : BZ (pm_sa M 246 (pm_up (M 246) bk ((z.1 3 : Int) + 1))) bk l (zOwes z de cr x) := by
  obtain ⟨⟨w1, w2, w3, w4, w5⟩, ⟨c0, c3, c4, c5, c6⟩, ⟨n0, n1, n2, n3, n4⟩, ⟨v1, v2, v3⟩, f1, f2, f3, f4, f5⟩ := h
  have u1 : (zOwes z de cr x).1 3 = z.1 3 + 1 := (upn_s : upn z.1 3 (z.1 3 + 1) 3 = z.1 3 + 1)
  have u0 : ∀ j, j ≠ 3 → (zOwes z de cr x).1 j = z.1 j := fun j hj => (upn_n hj : upn z.1 3 (z.1 3 + 1) j = z.1 j)
  have a0 : ∀ i k, (i ≠ 4 ∧ i ≠ 5 ∧ i ≠ 6) ∨ k ≠ z.1 3 → (zOwes z de cr x).2.1 i k = z.2.1 i k := fun i k h1 => by
    show ups (ups (ups z.2.1 4 (z.1 3) de) 5 (z.1 3) cr) 6 (z.1 3) x i k = _
    rw [ups_n (by omega), ups_n (by omega), ups_n (by omega)]
  refine ⟨⟨?_, w2, w3, fun i m hm hi => ?_, fun i hi => ?_⟩, ⟨?_, ?_, ?_, ?_, ?_⟩, ⟨n0, ⟨?_, ?_⟩, ⟨?_, ?_⟩, fun m hm => ?_, fun i hi => ?_⟩, ⟨fun m hm => ?_, fun i hi => ?_, fun k hk => ?_⟩, ?_⟩
  · rw [u0 0 (by omega), u1, u0 4 (by omega)]; omega
  · rw [u0 2 (by omega)] at hi
    exact w4 i m hm hi
  · rw [u0 2 (by omega)] at hi
    rw [a0 2 i (by omega)]; exact w5 i hi
  · rw [u0 0 (by omega)]; exact c0
  · rw [sa_s, up_s, u1]; omega
  · rw [u0 4 (by omega)]; exact c4
  · rw [u0 5 (by omega)]; exact c5
  · rw [u0 6 (by omega)]; exact c6
  · rw [u0 1 (by omega)]; exact n1.1
  · rw [u0 1 (by omega)]; exact n1.2
  · rw [u0 2 (by omega)]; exact n2.1
  · rw [u0 2 (by omega)]; exact n2.2
  · rw [u0 1 (by omega)] at hm
    rw [a0 7 m (by omega)]; exact n3 m hm
  · rw [u0 2 (by omega)] at hi
    rw [a0 8 i (by omega)]; exact n4 i hi
  · rw [u0 1 (by omega)] at hm
    rw [a0 1 m (by omega)]; exact v1 m hm
  · rw [u0 2 (by omega)] at hi
    rw [a0 2 i (by omega), a0 3 i (by omega)]; exact v2 i hi
  · rw [u1] at hk
    by_cases q : k = z.1 3
    · subst q
      show M 247 _ = ups (ups (ups z.2.1 4 (z.1 3) de) 5 (z.1 3) cr) 6 (z.1 3) x 4 (z.1 3) ∧ M 248 _ = ups (ups (ups z.2.1 4 (z.1 3) de) 5 (z.1 3) cr) 6 (z.1 3) x 5 (z.1 3) ∧ M 249 _ = ups (ups (ups z.2.1 4 (z.1 3) de) 5 (z.1 3) cr) 6 (z.1 3) x 6 (z.1 3)
      rw [ups_s, ups_n (by omega), ups_n (by omega), ups_s, ups_n (by omega), ups_s]; exact ⟨e1, e2, e3⟩
    · rw [a0 4 k (by omega), a0 5 k (by omega), a0 6 k (by omega)]; exact v3 k (by omega)
  · unfold BF
    rw [u0 4 (by omega)]
    exact ⟨f1, f2, f3, f4, f5⟩
theorem sHn_l {o : Int} : sHn B N z o s = (match sKl B N (decide (nix z.1 z.2.1 1 (vl B N s) ≠ -1)) s with | .inl e => .inl e | .inr x => if nix z.1 z.2.1 1 (vl B N s) = o then sG B N 3 (.inr x) else sA B N (.inr x)) := by
  show sKn B N (decide (nix z.1 z.2.1 1 (vl B N s) ≠ -1) && decide (nix z.1 z.2.1 1 (vl B N s) ≠ o)) s = _
  unfold sKn sKl
  by_cases q : isNm B N s = true
  · rw [if_pos q, if_pos q]
    obtain ⟨x, rfl⟩ := isNm_x q
    by_cases q2 : nix z.1 z.2.1 1 (vl B N (.inr x)) = -1
    · rw [q2, if_neg (by simp), if_neg (by simp)]; rfl
    · rw [if_pos (show decide (nix z.1 z.2.1 1 (vl B N (.inr x)) ≠ -1) = true by simpa using q2)]
      show _ = if _ then _ else _
      by_cases q3 : nix z.1 z.2.1 1 (vl B N (.inr x)) = o
      · rw [if_pos q3, if_neg (by simp [q3])]
      · rw [if_neg q3, if_pos (by simp [q2, q3])]
  · rw [if_neg q, if_neg q]
    cases s <;> rfl
theorem sKl_k {f : Bool} {x : KP × Nat × List Int} (h : sKl B N f s = .inr x) : s = .inr x ∧ (tok B N x.1).1 = 1 ∧ f = true := by
  unfold sKl at h
  by_cases q : isNm B N s = true
  · rw [if_pos q] at h
    obtain ⟨y, rfl⟩ := isNm_x q
    by_cases q2 : f = true
    · rw [if_pos q2] at h
      injection h with h
      subst h
      exact ⟨rfl, (isNm_i.mp q).1, q2⟩
    · rw [if_neg q2, sG_i] at h; cases h
  · rw [if_neg q] at h
    cases s <;> cases h
end RFan
