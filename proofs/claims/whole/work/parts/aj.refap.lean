/-! The reference's reader of statements: formulas and levels. -/
section RFap
variable {d b w bk D : Nat} {X : Nat × (Nat → Int)} {v : Nat → Int} {M M' M2 : PH} {K : PV → PS → Prop} {B : Nat → Int} {N : Nat} {κ : KP} {o op : Nat} {l e S S0 Q : List Int} {s : ST} {n : Nat → Nat} {a : PH} {z : CZ} {P : Nat → Nat → Prop}
theorem SL_x {f g k : Nat} {e0 : List Int} (h : SL M f g k l e0) : SL M f g k (l ++ e) e0 := by
  obtain ⟨h1, h2, pre, post, h3, h4, h5⟩ := h
  exact ⟨h1, h2, pre, post ++ e, by rw [h3, List.append_assoc], h4, h5⟩
theorem SL_n {f g k : Nat} (he : 0 < e.length) (ht : ∃ t, ty e = some [t]) (h1 : M f k = (l.length : Int)) (h2 : M g k = ((l ++ e).length : Int)) : SL M f g k (l ++ e) e := ⟨fun z => by rw [z] at he; exact absurd he (by decide), ht, l, [], by rw [List.append_nil], h1, h2⟩
theorem BZ_A (h : BZ M bk l z) (hf : fA bk D M M') : BZ M' bk l z := BZ_u h (hf.2.1 42 (by omega) (by omega) (by omega) (by omega) (by omega) (by omega) (by omega)) (fun q k hu => by
  have : 236 ≤ q ∧ q ≤ 262 ∧ q ≠ 259 ∧ q ≠ 260 := by unfold US at hu; omega
  rw [hf.1 q (by omega) (by omega) (by omega) (by omega)])
/-- one more clause -/
theorem BZ_claus (h : BZ M bk l z) (h3 : z.1 4 < 6) (he : 0 < e.length) (ht : ∃ t, ty e = some [t]) (e1 : M 251 (6 * bk + z.1 4) = (l.length : Int)) (e2 : M 252 (6 * bk + z.1 4) = ((l ++ e).length : Int)) : BZ (pm_sa M 250 (pm_up (M 250) bk ((z.1 4 : Int) + 1))) bk (l ++ e) (zForm z (2 + z.1 4) e true) := by
  obtain ⟨⟨w1, w2, w3, w4, w5⟩, ⟨c0, c3, c4, c5, c6⟩, ⟨n0, n1, n2, n3, n4⟩, ⟨v1, v2, v3⟩, f1, f2, f3, f4, f5⟩ := h
  have u1 : (zForm z (2 + z.1 4) e true).1 4 = z.1 4 + 1 := (upn_s : upn z.1 4 (z.1 4 + 1) 4 = z.1 4 + 1)
  have u0 : ∀ j, j ≠ 4 → (zForm z (2 + z.1 4) e true).1 j = z.1 j := fun j hj => (upn_n hj : upn z.1 4 (z.1 4 + 1) j = z.1 j)
  have F0 : ∀ j, j ≠ 2 + z.1 4 → (zForm z (2 + z.1 4) e true).2.2.1 j = z.2.2.1 j := fun j hj => if_neg hj
  have F1 : (zForm z (2 + z.1 4) e true).2.2.1 (2 + z.1 4) = e := if_pos rfl
  refine ⟨⟨?_, w2, w3, fun i m hm hi => ?_, fun i hi => ?_⟩, ⟨?_, ?_, ?_, ?_, ?_⟩, ⟨n0, ⟨?_, ?_⟩, ⟨?_, ?_⟩, fun m hm => ?_, fun i hi => ?_⟩, ⟨fun m hm => ?_, fun i hi => ?_, fun k hk => ?_⟩, ?_⟩
  · rw [u0 0 (by omega), u1, u0 3 (by omega)]; omega
  · rw [u0 2 (by omega)] at hi; exact w4 i m hm hi
  · rw [u0 2 (by omega)] at hi; exact w5 i hi
  · rw [u0 0 (by omega)]; exact c0
  · rw [u0 3 (by omega)]; exact c3
  · rw [sa_s, up_s, u1]; omega
  · rw [u0 5 (by omega)]; exact c5
  · rw [u0 6 (by omega)]; exact c6
  · rw [u0 1 (by omega)]; exact n1.1
  · rw [u0 1 (by omega)]; exact n1.2
  · rw [u0 2 (by omega)]; exact n2.1
  · rw [u0 2 (by omega)]; exact n2.2
  · rw [u0 1 (by omega)] at hm; exact n3 m hm
  · rw [u0 2 (by omega)] at hi; exact n4 i hi
  · rw [u0 1 (by omega)] at hm; exact v1 m hm
  · rw [u0 2 (by omega)] at hi; exact v2 i hi
  · rw [u0 3 (by omega)] at hk; exact v3 k hk
  · refine ⟨fun q => ?_, fun q => ?_, fun q => ?_, fun q => ?_, fun c hc => ?_⟩
    · rw [F0 0 (by omega)] at q; exact f1 q
    · rw [F0 0 (by omega)] at q ⊢; exact SL_x (f2 q)
    · rw [F0 1 (by omega)] at q; exact f3 q
    · rw [F0 1 (by omega)] at q ⊢; exact SL_x (f4 q)
    · rw [u1] at hc
      by_cases q : c = z.1 4
      · subst q
        rw [F1]; exact SL_n he ht e1 e2
      · rw [F0 (2 + c) (by omega)]; exact SL_x (f5 c (by omega))
/-- the pull, or what is earned -/
theorem BZ_one {i f : Nat} (h : BZ M bk l z) (hif : (i = 0 ∧ f = 253) ∨ (i = 1 ∧ f = 255)) (he : 0 < e.length) (ht : ∃ t, ty e = some [t]) (e42 : M' 234 42 = M 234 42) (eq : ∀ q k, q ≠ f → q ≠ f + 1 → US z bk q k → M' q k = M q k) (e1 : M' f bk = (l.length : Int)) (e2 : M' (f + 1) bk = ((l ++ e).length : Int)) : BZ M' bk (l ++ e) (zForm z i e false) := by
  have hne : ∃ M'' : PH, (∀ q, q ≠ f → q ≠ f + 1 → M'' q = M' q) ∧ M'' f = M f ∧ M'' (f + 1) = M (f + 1) := ⟨pm_sa (pm_sa M' f (M f)) (f + 1) (M (f + 1)), fun q z1 z2 => by rw [sa_n z2, sa_n z1], by rw [sa_n (by omega), sa_s], sa_s⟩
  obtain ⟨M'', x1, x2, x3⟩ := hne
  have hZ : BZ M'' bk l z := BZ_u h (by rw [x1 234 (by omega) (by omega)]; exact e42) (fun q k hu => by
    by_cases q1 : q = f
    · subst q1; rw [x2]
    · by_cases q2 : q = f + 1
      · subst q2; rw [x3]
      · rw [x1 q q1 q2]; exact eq q k q1 q2 hu)
  obtain ⟨w, ⟨c0, c3, c4, c5, c6⟩, ⟨n0, n1, n2, n3, n4⟩, ⟨v1, v2, v3⟩, f1, f2, f3, f4, f5⟩ := hZ
  rw [x1 236 (by omega) (by omega)] at c0
  rw [x1 246 (by omega) (by omega)] at c3
  rw [x1 250 (by omega) (by omega)] at c4
  rw [x1 257 (by omega) (by omega)] at c5
  rw [x1 258 (by omega) (by omega)] at c6
  rw [x1 234 (by omega) (by omega)] at n0
  rw [x1 237 (by omega) (by omega)] at n1
  rw [x1 241 (by omega) (by omega)] at n2
  rw [x1 261 (by omega) (by omega)] at n3
  rw [x1 262 (by omega) (by omega)] at n4
  rw [x1 238 (by omega) (by omega), x1 239 (by omega) (by omega), x1 240 (by omega) (by omega)] at v1
  rw [x1 242 (by omega) (by omega), x1 243 (by omega) (by omega), x1 244 (by omega) (by omega), x1 245 (by omega) (by omega)] at v2
  rw [x1 247 (by omega) (by omega), x1 248 (by omega) (by omega), x1 249 (by omega) (by omega)] at v3
  have F0 : ∀ j, j ≠ i → (zForm z i e false).2.2.1 j = z.2.2.1 j := fun j hj => if_neg hj
  have F1 : (zForm z i e false).2.2.1 i = e := if_pos rfl
  have en : e ≠ [] := fun q => by rw [q] at he; exact absurd he (by decide)
  have new : SL M' f (f + 1) bk (l ++ e) e := SL_n he ht e1 e2
  refine ⟨w, ⟨c0, c3, c4, c5, c6⟩, ⟨n0, n1, n2, n3, n4⟩, ⟨v1, v2, v3⟩, ?_⟩
  have f5' : ∀ c, c < z.1 4 → SL M' 251 252 (6 * bk + c) (l ++ e) ((zForm z i e false).2.2.1 (2 + c)) := fun c hc => by
    rw [F0 (2 + c) (by omega)]
    exact SL_x (SL_u (f5 c hc) (by rw [x1 251 (by omega) (by omega)]) (by rw [x1 252 (by omega) (by omega)]))
  rcases hif with ⟨rfl, rfl⟩ | ⟨rfl, rfl⟩
  · refine ⟨fun q => ?_, fun q => ?_, fun q => ?_, fun q => ?_, f5'⟩
    · rw [F1] at q; exact absurd q en
    · rw [F1]; exact new
    · rw [F0 1 (by omega)] at q
      rw [← x1 255 (by omega) (by omega)]; exact f3 q
    · rw [F0 1 (by omega)] at q ⊢
      exact SL_x (SL_u (f4 q) (by rw [x1 255 (by omega) (by omega)]) (by rw [x1 256 (by omega) (by omega)]))
  · refine ⟨fun q => ?_, fun q => ?_, fun q => ?_, fun q => ?_, f5'⟩
    · rw [F0 0 (by omega)] at q
      rw [← x1 253 (by omega) (by omega)]; exact f1 q
    · rw [F0 0 (by omega)] at q ⊢
      exact SL_x (SL_u (f2 q) (by rw [x1 253 (by omega) (by omega)]) (by rw [x1 254 (by omega) (by omega)]))
    · rw [F1] at q; exact absurd q en
    · rw [F1]; exact new
/-- a level -/
theorem BZ_num {i x q : Nat} (h : BZ M bk l z) (hi : (i = 0 ∧ q = 236 ∧ x ≤ 24) ∨ (i = 5 ∧ q = 257) ∨ (i = 6 ∧ q = 258)) : BZ (pm_sa M q (pm_up (M q) bk (x : Int))) bk l (zNum z i x) := by
  obtain ⟨⟨w1, w2, w3, w4, w5⟩, ⟨c0, c3, c4, c5, c6⟩, n, v, f⟩ := h
  rcases hi with ⟨rfl, rfl, hx⟩ | ⟨rfl, rfl⟩ | ⟨rfl, rfl⟩
  · exact ⟨⟨⟨by rw [zNum_s]; exact hx, w1.2⟩, w2, w3, w4, w5⟩, ⟨by rw [zNum_s, sa_s, up_s], c3, c4, c5, c6⟩, n, v, f⟩
  · exact ⟨⟨w1, w2, w3, w4, w5⟩, ⟨c0, c3, c4, by rw [zNum_s, sa_s, up_s], c6⟩, n, v, f⟩
  · exact ⟨⟨w1, w2, w3, w4, w5⟩, ⟨c0, c3, c4, c5, by rw [zNum_s, sa_s, up_s]⟩, n, v, f⟩
/-- levelling -/
theorem t219 (hT : TX M B N) (h : OK M B N κ) (hc : CL M) (hk : (tok B N κ).1 = 1) (hd : CDR M bk l) (hZ : BZ M bk l z) {t : Int} {i : Nat} {lo hi : Int} (ht : (t = 1 ∧ i = 5 ∧ lo = 0 ∧ hi = 99) ∨ (t = 0 ∧ i = 6 ∧ lo = 1 ∧ hi = 999)) (hK : ∀ M', QS2 M' bk B N (gNum B N κ l z i lo hi) → fB bk M M' → K PU (GF X, M', PTF v)) : pm_Call (d + 5) 219 [vA 234, vI t] (GF X, M, PTF v) K := by
  rw [en219, r219_0]
  refine c207 (d := d + 1) hT h hc hk (Or.inl rfl) (fun _ M1 o1 g1 => ?_) (fun f1 => by omega)
  have Z1 := BZ_4 hZ g1
  have F1 : fB bk M M1 := fB_4 g1
  have p0 : PRS M1 bk B N (sA B N (toS κ l)) := ⟨o1, CDR_f hd g1⟩
  rw [push_i, r219_5 (by omega), if_pos (by omega), r219_9 (by omega)]
  have fin : ∀ (M2 : PH) (y : Int), PRS M2 bk B N (sN B N lo hi (sA B N (toS κ l))) → f4 M1 M2 → (0 ≤ y ∧ y ≤ 9999) → (∀ x, sN B N lo hi (sA B N (toS κ l)) = .inr x → y = vl B N (sA B N (toS κ l))) → pm_Run (d + 4) 219 31 [vA 234, vI t, PU] [vI y] (GF X, M2, PTF v) K := by
    intro M2 y p2 g2 b2 h2
    have Z2 := BZ_4 Z1 g2
    have F2 : fB bk M M2 := fB_t F1 (fB_4 g2)
    obtain ⟨r8, hbad, hgood⟩ := PRS_8 p2
    rw [r219_31 r8]
    by_cases q8 : M2 234 8 = 0
    · obtain ⟨x2, hx2⟩ := hgood q8
      have i2 : M2 234 42 = (bk : Int) := Z2.2.2.1.1.1
      have hb := Z2.2.2.1.1.2
      have i2' : (M2 234 42).toNat = bk := by omega
      have e2 := h2 x2 hx2
      have gp := gNum_p (l := l) (z := z) (i := i) (lo := lo) (hi' := hi) (x := (x2.1, x2.2.2, zNum z i (vl B N (sA B N (toS κ l))).toNat)) hT.1 hT.2.1 h.2.2.2.1 (by rw [gNum, hx2]; rfl)
      have l2 : x2.2.2 = l := gp.2.1
      have ey : y = ((vl B N (sA B N (toS κ l))).toNat : Int) := by omega
      rw [if_pos (by omega), r219_40 (by omega)]
      have done : ∀ q, (q = 236 ∨ q = 257 ∨ q = 258) → ((i = 0 ∧ q = 236 ∧ (vl B N (sA B N (toS κ l))).toNat ≤ 24) ∨ (i = 5 ∧ q = 257) ∨ (i = 6 ∧ q = 258)) → K PU (GF X, pm_sa M2 q (pm_up (M2 q) bk y), PTF v) := fun q hq hi' => by
        have w1 : wd q = 1 := by rcases hq with rfl | rfl | rfl <;> rfl
        refine hK _ ?_ (fB_t F2 (fB_q (by omega) (by rw [w1]; omega)))
        rw [gNum, hx2]
        refine Or.inl ⟨OK_u (by rw [hx2] at p2; exact p2.1) (fun j _ => by rw [sa_n (by omega)]), CDR_u (by rw [hx2] at p2; exact p2.2) (by rw [sa_n (by omega)]) (by rw [sa_n (by omega)]) (sa_n (by omega)) (sa_n (by omega)), ?_⟩
        show BZ _ bk x2.2.2 _
        rw [l2, ey]
        exact BZ_num Z2 hi'
      rcases ht with ⟨rfl, rfl, rfl, rfl⟩ | ⟨rfl, rfl, rfl, rfl⟩
      · rw [if_neg (by omega), r219_44 (by omega) (by omega), i2', r219_67]
        exact done 257 (by simp) (by simp)
      · rw [if_pos rfl, r219_57 (by omega) (by omega), i2', r219_67]
        exact done 258 (by simp) (by simp)
    · obtain ⟨e, he, hf⟩ := hbad q8
      have := hf.1
      have := hf.2.1
      rw [if_neg (by omega), r219_39]
      refine hK _ ?_ F2
      rw [gNum, he]; exact hf
  rcases ht with ⟨rfl, rfl, rfl, rfl⟩ | ⟨rfl, rfl, rfl, rfl⟩
  · rw [if_neg (by omega), r219_13]
    refine t196 (d := d) (TX_B hT F1) p0 (lo := 0) (hi := 99) (by omega) (by omega) (fun M2 y p2 g2 b2 h2 => ?_)
    rw [push_i, r219_20]
    exact fin M2 y p2 g2 b2 h2
  · rw [if_pos rfl, r219_23]
    refine t196 (d := d) (TX_B hT F1) p0 (lo := 1) (hi := 999) (by omega) (by omega) (fun M2 y p2 g2 b2 h2 => ?_)
    rw [push_i]
    exact fin M2 y p2 g2 b2 h2
end RFap
