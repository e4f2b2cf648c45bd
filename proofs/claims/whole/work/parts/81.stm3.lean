/-! Harbors, what is paid and owed. -/
section CS3
variable {d c N : Nat} {X : Nat × (Nat → Int)} {v : Nat → Int} {M M' : PH} {K : PV → PS → Prop} {B : Nat → Int} {s : ST} {z : CZ} {κ : KP} {l : List Int}
theorem c85 (hE : PEn v M c B N) (hP : PSt M c B N (toS κ l)) (hC : CH M c l z) (hw : wZ z) (h0 : 0 < z.1 0) (hk : (tok B N κ).1 ≠ 0) (hK : ∀ M', frZ c M M' → PS2 M' c B N (gHarb B N κ l z) → K PU (GF X, M', PTF v)) : pm_Call (d + 5) 85 [vA 31] (GF X, M, PTF v) K := by
  have hcc : c = 9 ∨ c = 35 := hE.1
  have w1 := hw.1
  have e1 : M c 2 = (z.1 2 : Int) := hC.1 2 (by omega)
  have e0 : M c 0 = (z.1 0 : Int) := hC.1 0 (by omega)
  have hNM := CH_NM hC hw
  unfold gHarb at hK
  rw [en85, r85_0 hE.1 hE.2.1 (by rw [e1]; omega), e1]
  by_cases q : z.1 2 < 8
  · rw [if_pos q] at hK
    rw [if_neg (by omega), r85_15, r85_20]
    refine c81 (room := true) (x := (κ, 0, l)) hE hP (fun M1 f1 p1 => ?_)
    have hE1 := PEn_f hE f1
    rw [if_pos (show true = true from rfl), push_i, r85_23 (by omega), if_pos (by omega), r85_27 hE.1 hE.2.1]
    refine c77 hE1 p1 (NM_f hE.1 hNM f1) (fun M2 nm f2 p2 hnm hnv => ?_)
    have hE2 := PEn_f hE1 f2
    rw [push_i, r85_39 hE.1 (by omega) (by omega), r85_40, Int.toNat_natCast]
    obtain ⟨hE2', s2⟩ := PS_sa (q := c + 3) (f := pm_up (M2 (c + 3)) (z.1 2) nm) hE2 (by omega)
    refine c73 hE2' (s2 _ p2) (by omega) (fun M3 f3 p3 => ?_)
    have hE3 := PEn_f hE2' f3
    have e03 : M3 c 0 = (z.1 0 : Int) := by rw [f3 c (by omega) (by omega) (by omega) (by omega), sa_n (by omega), f2 c (by omega) (by omega) (by omega) (by omega), f1 c (by omega) (by omega) (by omega) (by omega)]; exact e0
    have e23 : M3 c 2 = (z.1 2 : Int) := by rw [f3 c (by omega) (by omega) (by omega) (by omega), sa_n (by omega), f2 c (by omega) (by omega) (by omega) (by omega), f1 c (by omega) (by omega) (by omega) (by omega)]; exact e1
    rw [push_u, r85_45 hE.1 hE.2.1]
    refine c86 (n := z.1) (a := z.2.1) hE3 p3 e03 (by omega) e23 (by omega) (fun k hk => ?_) (fun M4 pl f4 p4 hpl => ?_)
    · rw [f3 (c + 4) (by omega) (by omega) (by omega) (by omega), sa_n (by omega), f2 (c + 4) (by omega) (by omega) (by omega) (by omega), f1 (c + 4) (by omega) (by omega) (by omega) (by omega)]
      have := hw.2.2.1 k hk
      exact ⟨(hC.2.2.1 k hk).2.1, by omega⟩
    have hE4 := PEn_f hE3 f4
    rw [push_i, r85_57 hE.1 (by omega) (by omega), r85_58, Int.toNat_natCast]
    obtain ⟨hE4', s4⟩ := PS_sa (q := c + 4) (f := pm_up (M4 (c + 4)) (z.1 2) pl) hE4 (by omega)
    refine c73 hE4' (s4 _ p4) (by omega) (fun M5 f5 p5 => ?_)
    have hE5 := PEn_f hE4' f5
    rw [push_u, r85_64 hE.1 hE.2.1]
    refine c75v hE5 p5 (by omega) (by omega) (fun M6 pu f6 p6 hpu => ?_)
    have hE6 := PEn_f hE5 f6
    rw [push_i, r85_83 hE.1 (by omega) (by omega), r85_84, Int.toNat_natCast]
    obtain ⟨hE6', s6⟩ := PS_sa (q := c + 12) (f := pm_up (M6 (c + 12)) (z.1 2) pu) hE6 (by omega)
    refine c73 hE6' (s6 _ p6) (by omega) (fun M7 f7 p7 => ?_)
    have hE7 := PEn_f hE6' f7
    rw [push_u, r85_90 hE.1 hE.2.1]
    refine c75v hE7 p7 (by omega) (by omega) (fun M8 de f8 p8 hde => ?_)
    have hE8 := PEn_f hE7 f8
    rw [push_i, r85_105 hE.1 (by omega) (by omega), r85_106 hE.1 hE.2.1, Int.toNat_natCast]
    obtain ⟨hE8', s8⟩ := PS_sa (q := c + 5) (f := pm_up (M8 (c + 5)) (z.1 2) de) hE8 (by omega)
    obtain ⟨hE9', s9⟩ := PS_sa (q := c) (f := pm_up ((pm_sa M8 (c + 5) (pm_up (M8 (c + 5)) (z.1 2) de)) c) 2 ((z.1 2 : Int) + 1)) hE8' (by omega)
    have p9 := s9 _ (s8 _ p8)
    have hfr : frZ c M (pm_sa (pm_sa M8 (c + 5) (pm_up (M8 (c + 5)) (z.1 2) de)) c (pm_up ((pm_sa M8 (c + 5) (pm_up (M8 (c + 5)) (z.1 2) de)) c) 2 ((z.1 2 : Int) + 1))) := fun q z1 z2 z3 => by
      rw [sa_n (by omega), sa_n (by omega), f8 (q) (by omega) (by omega) (by omega) (by omega), f7 (q) (by omega) (by omega) (by omega) (by omega), sa_n (by omega), f6 (q) (by omega) (by omega) (by omega) (by omega), f5 (q) (by omega) (by omega) (by omega) (by omega), sa_n (by omega), f4 (q) (by omega) (by omega) (by omega) (by omega), f3 (q) (by omega) (by omega) (by omega) (by omega), sa_n (by omega), f2 (q) (by omega) (by omega) (by omega) (by omega), f1 (q) (by omega) (by omega) (by omega) (by omega)]
    refine hK _ hfr ?_
    cases e7 : hS7 B N z (toS κ l) with
    | inl e =>
      have p9' : PSt _ c B N (hS7 B N z (toS κ l)) := p9
      rw [e7] at p9'
      exact p9'
    | inr y =>
      have p9' : PSt _ c B N (hS7 B N z (toS κ l)) := p9
      rw [e7] at p9'
      obtain ⟨x6, e6, k6, a6, b6, y6⟩ := sN_e (s := hS6 B N z (toS κ l)) e7
      obtain ⟨x5, e5, k5, y5⟩ := sWd_e (s := hS5 B N z (toS κ l)) e6
      obtain ⟨x4, e4, k4, a4, b4, y4⟩ := sN_e (s := hS4 B N z (toS κ l)) e5
      obtain ⟨x3, e3, k3, y3⟩ := sWd_e (s := hS3 B N z (toS κ l)) e4
      obtain ⟨x2, e2, k2, a2, b2, fr2, y2⟩ := sFr_e (s := mS2 B N z (toS κ l)) e3
      obtain ⟨x1, e1', k1, y1⟩ := sWd_e (s := mS1 B N z (toS κ l)) e2
      obtain ⟨x0, e0', k0, kn0, y0⟩ := sNew_e (s := sA B N (toS κ l)) e1'
      have hnm' : nm = vl B N (sA B N (toS κ l)) := hnv x0 e0'
      have x00 : x0 = (adv B N κ, 0, l) := sA_e e0'
      have hlist : y.2 = (0, l) := by rw [y6, y5, y4, y3, y2, y1, y0, x00]
      have hnb : -128 ≤ nm ∧ nm < 1073741824 := by
        rw [hnm']
        have hi0 : κ.1 ≤ N := hP.2.2.2.1
        have a1 := (tk_b hE.2.2.2.1 hE.2.2.2.2.2 (i := κ.1) (w := κ.2) hi0).2.2.2.2.2.1
        exact (tk_b hE.2.2.2.1 hE.2.2.2.2.2 (i := (adv B N κ).1) (w := (adv B N κ).2) a1).2.2.2.1
      have hpl' : pl = vl B N (mS2 B N z (toS κ l)) := hpl _ e3
      have hpu' : pu = vl B N (hS4 B N z (toS κ l)) := hpu _ e5
      have hde' : de = vl B N (hS6 B N z (toS κ l)) := hde _ e7
      show PSt _ c B N (toS y.1 y.2.2) ∧ CH _ c y.2.2 _ ∧ wZ _
      have hy : toS y.1 y.2.2 = .inr y := by rw [toS, hlist]; show Sum.inr (y.1, 0, l) = Sum.inr y; rw [← show y = (y.1, 0, l) from by rw [← hlist]]
      rw [hy]
      refine ⟨p9', CH_f hC ⟨[], by rw [hlist]; simp⟩ rfl ?_ ?_ ?_ (fun i hi => ?_) (fun m hm => ?_) (fun h hh => ?_) (fun k hk => ?_) ?_, ?_⟩
      · rw [sa_n (by omega), sa_n (by omega), f8 (c + 17) (by omega) (by omega) (by omega) (by omega), f7 (c + 17) (by omega) (by omega) (by omega) (by omega), sa_n (by omega), f6 (c + 17) (by omega) (by omega) (by omega) (by omega), f5 (c + 17) (by omega) (by omega) (by omega) (by omega), sa_n (by omega), f4 (c + 17) (by omega) (by omega) (by omega) (by omega), f3 (c + 17) (by omega) (by omega) (by omega) (by omega), sa_n (by omega), f2 (c + 17) (by omega) (by omega) (by omega) (by omega), f1 (c + 17) (by omega) (by omega) (by omega) (by omega)]
      · rw [sa_n (by omega), sa_n (by omega), f8 (c + 18) (by omega) (by omega) (by omega) (by omega), f7 (c + 18) (by omega) (by omega) (by omega) (by omega), sa_n (by omega), f6 (c + 18) (by omega) (by omega) (by omega) (by omega), f5 (c + 18) (by omega) (by omega) (by omega) (by omega), sa_n (by omega), f4 (c + 18) (by omega) (by omega) (by omega) (by omega), f3 (c + 18) (by omega) (by omega) (by omega) (by omega), sa_n (by omega), f2 (c + 18) (by omega) (by omega) (by omega) (by omega), f1 (c + 18) (by omega) (by omega) (by omega) (by omega)]
      · rw [sa_n (by omega), sa_n (by omega), f8 (c + 19) (by omega) (by omega) (by omega) (by omega), f7 (c + 19) (by omega) (by omega) (by omega) (by omega), sa_n (by omega), f6 (c + 19) (by omega) (by omega) (by omega) (by omega), f5 (c + 19) (by omega) (by omega) (by omega) (by omega), sa_n (by omega), f4 (c + 19) (by omega) (by omega) (by omega) (by omega), f3 (c + 19) (by omega) (by omega) (by omega) (by omega), sa_n (by omega), f2 (c + 19) (by omega) (by omega) (by omega) (by omega), f1 (c + 19) (by omega) (by omega) (by omega) (by omega)]
      · rw [sa_s, sa_n (by omega), f8 (c) (by omega) (by omega) (by omega) (by omega), f7 (c) (by omega) (by omega) (by omega) (by omega), sa_n (by omega), f6 (c) (by omega) (by omega) (by omega) (by omega), f5 (c) (by omega) (by omega) (by omega) (by omega), sa_n (by omega), f4 (c) (by omega) (by omega) (by omega) (by omega), f3 (c) (by omega) (by omega) (by omega) (by omega), sa_n (by omega), f2 (c) (by omega) (by omega) (by omega) (by omega), f1 (c) (by omega) (by omega) (by omega) (by omega)]
        by_cases zi : i = 2
        · rw [up_e zi, zi]; show _ = ((upn z.1 2 (z.1 2 + 1) 2 : Nat) : Int); rw [upn_s]; rfl
        · rw [up_n zi]; show _ = ((upn z.1 2 (z.1 2 + 1) i : Nat) : Int); rw [upn_n zi]; exact hC.1 i hi
      · have hm' : m < z.1 1 := by have : m < upn z.1 2 (z.1 2 + 1) 1 := hm; rwa [upn_n (by omega)] at this
        rw [sa_n (by omega), sa_n (by omega), f8 (c + 1) (by omega) (by omega) (by omega) (by omega), f7 (c + 1) (by omega) (by omega) (by omega) (by omega), sa_n (by omega), f6 (c + 1) (by omega) (by omega) (by omega) (by omega), f5 (c + 1) (by omega) (by omega) (by omega) (by omega), sa_n (by omega), f4 (c + 1) (by omega) (by omega) (by omega) (by omega), f3 (c + 1) (by omega) (by omega) (by omega) (by omega), sa_n (by omega), f2 (c + 1) (by omega) (by omega) (by omega) (by omega), f1 (c + 1) (by omega) (by omega) (by omega) (by omega), sa_n (by omega), sa_n (by omega), f8 (c + 2) (by omega) (by omega) (by omega) (by omega), f7 (c + 2) (by omega) (by omega) (by omega) (by omega), sa_n (by omega), f6 (c + 2) (by omega) (by omega) (by omega) (by omega), f5 (c + 2) (by omega) (by omega) (by omega) (by omega), sa_n (by omega), f4 (c + 2) (by omega) (by omega) (by omega) (by omega), f3 (c + 2) (by omega) (by omega) (by omega) (by omega), sa_n (by omega), f2 (c + 2) (by omega) (by omega) (by omega) (by omega), f1 (c + 2) (by omega) (by omega) (by omega) (by omega)]
        show _ = ups (ups (ups z.2.1 8 (z.1 2) (vl B N (sA B N (toS κ l)))) 2 (z.1 2) (vl B N (mS2 B N z (toS κ l)))) 3 (z.1 2) (vl B N (hS6 B N z (toS κ l))) 7 m ∧ _ = ups (ups (ups z.2.1 8 (z.1 2) (vl B N (sA B N (toS κ l)))) 2 (z.1 2) (vl B N (mS2 B N z (toS κ l)))) 3 (z.1 2) (vl B N (hS6 B N z (toS κ l))) 1 m
        rw [ups_n (by omega), ups_n (by omega), ups_n (by omega), ups_n (by omega), ups_n (by omega), ups_n (by omega)]; exact hC.2.1 m hm'
      · have hh' : h < z.1 2 + 1 := by have : h < upn z.1 2 (z.1 2 + 1) 2 := hh; rwa [upn_s] at this
        rw [sa_n (by omega), sa_n (by omega), f8 (c + 3) (by omega) (by omega) (by omega) (by omega), f7 (c + 3) (by omega) (by omega) (by omega) (by omega), sa_n (by omega), f6 (c + 3) (by omega) (by omega) (by omega) (by omega), f5 (c + 3) (by omega) (by omega) (by omega) (by omega), sa_n (by omega), f4 (c + 3) (by omega) (by omega) (by omega) (by omega), f3 (c + 3) (by omega) (by omega) (by omega) (by omega), sa_s, f2 (c + 3) (by omega) (by omega) (by omega) (by omega), f1 (c + 3) (by omega) (by omega) (by omega) (by omega), sa_n (by omega), sa_n (by omega), f8 (c + 4) (by omega) (by omega) (by omega) (by omega), f7 (c + 4) (by omega) (by omega) (by omega) (by omega), sa_n (by omega), f6 (c + 4) (by omega) (by omega) (by omega) (by omega), f5 (c + 4) (by omega) (by omega) (by omega) (by omega), sa_s, f4 (c + 4) (by omega) (by omega) (by omega) (by omega), f3 (c + 4) (by omega) (by omega) (by omega) (by omega), sa_n (by omega), f2 (c + 4) (by omega) (by omega) (by omega) (by omega), f1 (c + 4) (by omega) (by omega) (by omega) (by omega), sa_n (by omega), sa_s, f8 (c + 5) (by omega) (by omega) (by omega) (by omega), f7 (c + 5) (by omega) (by omega) (by omega) (by omega), sa_n (by omega), f6 (c + 5) (by omega) (by omega) (by omega) (by omega), f5 (c + 5) (by omega) (by omega) (by omega) (by omega), sa_n (by omega), f4 (c + 5) (by omega) (by omega) (by omega) (by omega), f3 (c + 5) (by omega) (by omega) (by omega) (by omega), sa_n (by omega), f2 (c + 5) (by omega) (by omega) (by omega) (by omega), f1 (c + 5) (by omega) (by omega) (by omega) (by omega)]
        show _ = ups (ups (ups z.2.1 8 (z.1 2) (vl B N (sA B N (toS κ l)))) 2 (z.1 2) (vl B N (mS2 B N z (toS κ l)))) 3 (z.1 2) (vl B N (hS6 B N z (toS κ l))) 8 h ∧ _ = ups (ups (ups z.2.1 8 (z.1 2) (vl B N (sA B N (toS κ l)))) 2 (z.1 2) (vl B N (mS2 B N z (toS κ l)))) 3 (z.1 2) (vl B N (hS6 B N z (toS κ l))) 2 h ∧ _ = ups (ups (ups z.2.1 8 (z.1 2) (vl B N (sA B N (toS κ l)))) 2 (z.1 2) (vl B N (mS2 B N z (toS κ l)))) 3 (z.1 2) (vl B N (hS6 B N z (toS κ l))) 3 h
        by_cases zi : h = z.1 2
        · rw [up_e zi, up_e zi, up_e zi, zi, ups_n (by omega), ups_n (by omega), ups_s, ups_n (by omega), ups_s, ups_s, hnm', hpl', hde']; exact ⟨rfl, rfl, rfl⟩
        · rw [up_n zi, up_n zi, up_n zi, ups_n (by omega), ups_n (by omega), ups_n (by omega), ups_n (by omega), ups_n (by omega), ups_n (by omega), ups_n (by omega), ups_n (by omega), ups_n (by omega)]; exact hC.2.2.1 h (by omega)
      · have hh' : k < z.1 3 := by have : k < upn z.1 2 (z.1 2 + 1) 3 := hk; rwa [upn_n (by omega)] at this
        rw [sa_n (by omega), sa_n (by omega), f8 (c + 6) (by omega) (by omega) (by omega) (by omega), f7 (c + 6) (by omega) (by omega) (by omega) (by omega), sa_n (by omega), f6 (c + 6) (by omega) (by omega) (by omega) (by omega), f5 (c + 6) (by omega) (by omega) (by omega) (by omega), sa_n (by omega), f4 (c + 6) (by omega) (by omega) (by omega) (by omega), f3 (c + 6) (by omega) (by omega) (by omega) (by omega), sa_n (by omega), f2 (c + 6) (by omega) (by omega) (by omega) (by omega), f1 (c + 6) (by omega) (by omega) (by omega) (by omega), sa_n (by omega), sa_n (by omega), f8 (c + 7) (by omega) (by omega) (by omega) (by omega), f7 (c + 7) (by omega) (by omega) (by omega) (by omega), sa_n (by omega), f6 (c + 7) (by omega) (by omega) (by omega) (by omega), f5 (c + 7) (by omega) (by omega) (by omega) (by omega), sa_n (by omega), f4 (c + 7) (by omega) (by omega) (by omega) (by omega), f3 (c + 7) (by omega) (by omega) (by omega) (by omega), sa_n (by omega), f2 (c + 7) (by omega) (by omega) (by omega) (by omega), f1 (c + 7) (by omega) (by omega) (by omega) (by omega), sa_n (by omega), sa_n (by omega), f8 (c + 8) (by omega) (by omega) (by omega) (by omega), f7 (c + 8) (by omega) (by omega) (by omega) (by omega), sa_n (by omega), f6 (c + 8) (by omega) (by omega) (by omega) (by omega), f5 (c + 8) (by omega) (by omega) (by omega) (by omega), sa_n (by omega), f4 (c + 8) (by omega) (by omega) (by omega) (by omega), f3 (c + 8) (by omega) (by omega) (by omega) (by omega), sa_n (by omega), f2 (c + 8) (by omega) (by omega) (by omega) (by omega), f1 (c + 8) (by omega) (by omega) (by omega) (by omega)]
        show _ = ups (ups (ups z.2.1 8 (z.1 2) (vl B N (sA B N (toS κ l)))) 2 (z.1 2) (vl B N (mS2 B N z (toS κ l)))) 3 (z.1 2) (vl B N (hS6 B N z (toS κ l))) 4 k ∧ _ = ups (ups (ups z.2.1 8 (z.1 2) (vl B N (sA B N (toS κ l)))) 2 (z.1 2) (vl B N (mS2 B N z (toS κ l)))) 3 (z.1 2) (vl B N (hS6 B N z (toS κ l))) 5 k ∧ _ = ups (ups (ups z.2.1 8 (z.1 2) (vl B N (sA B N (toS κ l)))) 2 (z.1 2) (vl B N (mS2 B N z (toS κ l)))) 3 (z.1 2) (vl B N (hS6 B N z (toS κ l))) 6 k
        rw [ups_n (by omega), ups_n (by omega), ups_n (by omega), ups_n (by omega), ups_n (by omega), ups_n (by omega), ups_n (by omega), ups_n (by omega), ups_n (by omega)]; exact hC.2.2.2.1 k hh'
      · funext i k
        show mo _ (c + 9) i k = ups z.2.2.2 3 (z.1 2) (vl B N (hS4 B N z (toS κ l))) i k
        have hm0 : ∀ i k, k < len i → M (c + 9 + i) k = z.2.2.2 i k := fun i k hk => by rw [mo_i (M := M) (b := c + 9) hk, hC.2.2.2.2.1]
        by_cases hk : k < len i
        · have hi6 := len_0 hk
          rw [mo, if_pos hk]
          by_cases y1 : i = 3
          · subst y1
            rw [show c + 9 + 3 = c + 12 from rfl, sa_n (by omega), sa_n (by omega), f8 (c + 12) (by omega) (by omega) (by omega) (by omega), f7 (c + 12) (by omega) (by omega) (by omega) (by omega), sa_s, f6 (c + 12) (by omega) (by omega) (by omega) (by omega), f5 (c + 12) (by omega) (by omega) (by omega) (by omega), sa_n (by omega), f4 (c + 12) (by omega) (by omega) (by omega) (by omega), f3 (c + 12) (by omega) (by omega) (by omega) (by omega), sa_n (by omega), f2 (c + 12) (by omega) (by omega) (by omega) (by omega), f1 (c + 12) (by omega) (by omega) (by omega) (by omega)]
            by_cases zi : k = z.1 2
            · rw [up_e zi, zi, ups_s, hpu']
            · rw [up_n zi, ups_n (by omega)]; exact hm0 3 k hk
          rw [ups_n (by omega), sa_n (by omega), sa_n (by omega), f8 (c + 9 + i) (by omega) (by omega) (by omega) (by omega), f7 (c + 9 + i) (by omega) (by omega) (by omega) (by omega), sa_n (by omega), f6 (c + 9 + i) (by omega) (by omega) (by omega) (by omega), f5 (c + 9 + i) (by omega) (by omega) (by omega) (by omega), sa_n (by omega), f4 (c + 9 + i) (by omega) (by omega) (by omega) (by omega), f3 (c + 9 + i) (by omega) (by omega) (by omega) (by omega), sa_n (by omega), f2 (c + 9 + i) (by omega) (by omega) (by omega) (by omega), f1 (c + 9 + i) (by omega) (by omega) (by omega) (by omega)]
          exact hm0 i k hk
        · rw [mo, if_neg hk]
          have hz : z.2.2.2 i k = 0 := by rw [← hC.2.2.2.2.1, mo, if_neg hk]
          have hlen1 : ¬ (i = 3 ∧ k = z.1 2) := fun ⟨u1, u2⟩ => hk (by rw [u1, u2]; show z.1 2 < 8; exact q)
          rw [ups_n (by omega), hz]
      · obtain ⟨w1, w2, w3, w4, w5, w6, w7, w8⟩ := hw
        have u : ∀ i, i ≠ 2 → upn z.1 2 (z.1 2 + 1) i = z.1 i := fun i hi => upn_n hi
        have wm : wM (upn z.1 2 (z.1 2 + 1)) (ups z.2.2.2 3 (z.1 2) (vl B N (hS4 B N z (toS κ l)))) := by
          obtain ⟨v0, v1, v2, v3, v4, v5, v6, v7⟩ := w5
          refine ⟨by rw [ups_n (by omega)]; exact v0, fun m hm => by rw [u 1 (by omega)] at hm; rw [u 0 (by omega), ups_n (by omega)]; exact v1 m hm, fun m hm => by rw [ups_n (by omega)]; exact v2 m hm, fun h hh => ?_, fun k hk => by rw [ups_n (by omega), ups_n (by omega)]; exact v4 k hk, fun m hm => by rw [u 1 (by omega)] at hm; rw [ups_n (by omega), ups_n (by omega)]; exact v5 m hm, fun h hh => ?_, fun h m hm hh => ?_⟩
          · by_cases zi : h = z.1 2
            · rw [zi, ups_s]; omega
            · rw [ups_n (by omega)]; exact v3 h hh
          · rw [upn_s] at hh
            rw [ups_n (by omega)]; exact v6 h (by omega)
          · rw [upn_s, u 1 (by omega)] at hh
            rw [ups_n (by omega), ups_n (by omega)]; exact v7 h m hm (by omega)
        refine ⟨?_, fun m hm => ?_, fun h hh => ?_, fun k hk => ?_, wm, fun m hm => ?_, fun h hh => ?_, fun w hw' => ?_⟩
        · show (upn z.1 2 (z.1 2 + 1) 0 ≤ 24 ∧ upn z.1 2 (z.1 2 + 1) 1 ≤ 3 ∧ upn z.1 2 (z.1 2 + 1) 2 ≤ 8 ∧ upn z.1 2 (z.1 2 + 1) 3 ≤ 16 ∧ upn z.1 2 (z.1 2 + 1) 4 ≤ 6 ∧ upn z.1 2 (z.1 2 + 1) 5 ≤ 99 ∧ upn z.1 2 (z.1 2 + 1) 6 ≤ 999 ∧ (upn z.1 2 (z.1 2 + 1) 0 = 0 → upn z.1 2 (z.1 2 + 1) 1 = 0 ∧ upn z.1 2 (z.1 2 + 1) 2 = 0))
          rw [upn_s, u 0 (by omega), u 1 (by omega), u 3 (by omega), u 4 (by omega), u 5 (by omega), u 6 (by omega)]
          omega
        · have hm' : m < z.1 1 := by have : m < upn z.1 2 (z.1 2 + 1) 1 := hm; rwa [u 1 (by omega)] at this
          show 0 ≤ ups (ups (ups z.2.1 8 (z.1 2) (vl B N (sA B N (toS κ l)))) 2 (z.1 2) (vl B N (mS2 B N z (toS κ l)))) 3 (z.1 2) (vl B N (hS6 B N z (toS κ l))) 1 m ∧ ups (ups (ups z.2.1 8 (z.1 2) (vl B N (sA B N (toS κ l)))) 2 (z.1 2) (vl B N (mS2 B N z (toS κ l)))) 3 (z.1 2) (vl B N (hS6 B N z (toS κ l))) 1 m ≤ 23
          rw [ups_n (by omega), ups_n (by omega), ups_n (by omega)]; exact w2 m hm'
        · have hh' : h < z.1 2 + 1 := by have : h < upn z.1 2 (z.1 2 + 1) 2 := hh; rwa [upn_s] at this
          show 0 ≤ ups (ups (ups z.2.1 8 (z.1 2) (vl B N (sA B N (toS κ l)))) 2 (z.1 2) (vl B N (mS2 B N z (toS κ l)))) 3 (z.1 2) (vl B N (hS6 B N z (toS κ l))) 2 h ∧ ups (ups (ups z.2.1 8 (z.1 2) (vl B N (sA B N (toS κ l)))) 2 (z.1 2) (vl B N (mS2 B N z (toS κ l)))) 3 (z.1 2) (vl B N (hS6 B N z (toS κ l))) 2 h < (upn z.1 2 (z.1 2 + 1) 0 : Nat) ∧ 0 ≤ ups (ups (ups z.2.1 8 (z.1 2) (vl B N (sA B N (toS κ l)))) 2 (z.1 2) (vl B N (mS2 B N z (toS κ l)))) 3 (z.1 2) (vl B N (hS6 B N z (toS κ l))) 3 h ∧ ups (ups (ups z.2.1 8 (z.1 2) (vl B N (sA B N (toS κ l)))) 2 (z.1 2) (vl B N (mS2 B N z (toS κ l)))) 3 (z.1 2) (vl B N (hS6 B N z (toS κ l))) 3 h ≤ 99
          rw [u 0 (by omega)]
          by_cases zi : h = z.1 2
          · rw [zi, ups_n (by omega), ups_s, ups_s]; omega
          · rw [ups_n (by omega), ups_n (by omega), ups_n (by omega), ups_n (by omega), ups_n (by omega), ups_n (by omega)]; exact w3 h (by omega)
        · have hh' : k < z.1 3 := by have : k < upn z.1 2 (z.1 2 + 1) 3 := hk; rwa [u 3 (by omega)] at this
          have := w4 k hh'
          show 0 ≤ ups (ups (ups z.2.1 8 (z.1 2) (vl B N (sA B N (toS κ l)))) 2 (z.1 2) (vl B N (mS2 B N z (toS κ l)))) 3 (z.1 2) (vl B N (hS6 B N z (toS κ l))) 4 k ∧ ups (ups (ups z.2.1 8 (z.1 2) (vl B N (sA B N (toS κ l)))) 2 (z.1 2) (vl B N (mS2 B N z (toS κ l)))) 3 (z.1 2) (vl B N (hS6 B N z (toS κ l))) 4 k < (upn z.1 2 (z.1 2 + 1) 2 : Nat) ∧ 0 ≤ ups (ups (ups z.2.1 8 (z.1 2) (vl B N (sA B N (toS κ l)))) 2 (z.1 2) (vl B N (mS2 B N z (toS κ l)))) 3 (z.1 2) (vl B N (hS6 B N z (toS κ l))) 5 k ∧ ups (ups (ups z.2.1 8 (z.1 2) (vl B N (sA B N (toS κ l)))) 2 (z.1 2) (vl B N (mS2 B N z (toS κ l)))) 3 (z.1 2) (vl B N (hS6 B N z (toS κ l))) 5 k < (upn z.1 2 (z.1 2 + 1) 2 : Nat) ∧ 1 ≤ ups (ups (ups z.2.1 8 (z.1 2) (vl B N (sA B N (toS κ l)))) 2 (z.1 2) (vl B N (mS2 B N z (toS κ l)))) 3 (z.1 2) (vl B N (hS6 B N z (toS κ l))) 6 k ∧ ups (ups (ups z.2.1 8 (z.1 2) (vl B N (sA B N (toS κ l)))) 2 (z.1 2) (vl B N (mS2 B N z (toS κ l)))) 3 (z.1 2) (vl B N (hS6 B N z (toS κ l))) 6 k ≤ 999
          rw [upn_s, ups_n (by omega), ups_n (by omega), ups_n (by omega), ups_n (by omega), ups_n (by omega), ups_n (by omega), ups_n (by omega), ups_n (by omega), ups_n (by omega)]; omega
        · have hm' : m < z.1 1 := by have : m < upn z.1 2 (z.1 2 + 1) 1 := hm; rwa [u 1 (by omega)] at this
          show -128 ≤ ups (ups (ups z.2.1 8 (z.1 2) (vl B N (sA B N (toS κ l)))) 2 (z.1 2) (vl B N (mS2 B N z (toS κ l)))) 3 (z.1 2) (vl B N (hS6 B N z (toS κ l))) 7 m ∧ ups (ups (ups z.2.1 8 (z.1 2) (vl B N (sA B N (toS κ l)))) 2 (z.1 2) (vl B N (mS2 B N z (toS κ l)))) 3 (z.1 2) (vl B N (hS6 B N z (toS κ l))) 7 m < 1073741824
          rw [ups_n (by omega), ups_n (by omega), ups_n (by omega)]; exact w6 m hm'
        · have hh' : h < z.1 2 + 1 := by have : h < upn z.1 2 (z.1 2 + 1) 2 := hh; rwa [upn_s] at this
          show -128 ≤ ups (ups (ups z.2.1 8 (z.1 2) (vl B N (sA B N (toS κ l)))) 2 (z.1 2) (vl B N (mS2 B N z (toS κ l)))) 3 (z.1 2) (vl B N (hS6 B N z (toS κ l))) 8 h ∧ ups (ups (ups z.2.1 8 (z.1 2) (vl B N (sA B N (toS κ l)))) 2 (z.1 2) (vl B N (mS2 B N z (toS κ l)))) 3 (z.1 2) (vl B N (hS6 B N z (toS κ l))) 8 h < 1073741824
          rw [ups_n (by omega), ups_n (by omega)]
          by_cases zi : h = z.1 2
          · rw [zi, ups_s, ← hnm']; exact hnb
          · rw [ups_n (by omega)]; exact w7 h (by omega)
        · have hh' : 2 + z.1 4 ≤ w := by have : 2 + upn z.1 2 (z.1 2 + 1) 4 ≤ w := hw'; rwa [u 4 (by omega)] at this
          exact w8 w hh'
  · rw [if_neg q] at hK
    rw [if_pos (by omega), r85_19, r85_20]
    refine c81 (room := false) (x := (κ, 0, l)) hE hP (fun M1 f1 p1 => ?_)
    rw [if_neg (show ¬ false = true by decide), push_i, r85_23 (by omega), if_neg (by simp), r85_26]
    exact hK M1 (fun q z1 z2 z3 => f1 q z1 z2 (by omega) (by omega)) p1
theorem sKn_s {b b' : Bool} (h : ∀ x, s = .inr x → b = b') : sKn B N b s = sKn B N b' s := by
  match s, h with
  | .inl e, _ =>
    unfold sKn
    rw [if_neg (show ¬ isNm B N (.inl e) = true by simp [isNm, kd]), if_neg (show ¬ isNm B N (.inl e) = true by simp [isNm, kd])]
  | .inr x, h => rw [h x rfl]
theorem PSt_k (hP : PSt M c B N s) : inR (M 31 3) ∧ (M 31 3 = 0 ↔ ∃ x, s = .inr x) := by
  match s, hP with
  | .inl e, hP => exact ⟨by rw [hP.1]; exact hP.2.2.1, ⟨fun h => absurd (hP.1.symm.trans h) hP.2.1, fun ⟨x, h⟩ => by cases h⟩⟩
  | .inr x, hP => exact ⟨by rw [hP.1]; omega, ⟨fun _ => ⟨x, rfl⟩, fun _ => hP.1⟩⟩
theorem c87 (hE : PEn v M c B N) (hP : PSt M c B N (toS κ l)) (hC : CH M c l z) (hw : wZ z) (hK : ∀ M', frZ c M M' → PS2 M' c B N (gPays B N κ l z) → K PU (GF X, M', PTF v)) : pm_Call (d + 5) 87 [vA 31] (GF X, M, PTF v) K := by
  have hcc : c = 9 ∨ c = 35 := hE.1
  have w1 := hw.1
  have hNM := CH_NM hC hw
  unfold gPays at hK
  rw [en87, r87_0]
  refine c51p (x := (κ, 0, l)) hE hP (fun M1 f1 p1 => ?_)
  have hE1 := PEn_f hE f1
  have hN1 := NM_f hE.1 hNM f1
  rw [push_u, r87_7]
  refine c79 hE1 p1 hN1 (by omega) (fun M2 y2 f2 u2 p2 => ?_)
  have hE2 := PEn_f hE1 f2
  have hN2 := NM_f hE.1 hN1 f2
  have p2' : PSt M2 c B N (sHn B N z (-1) (sA B N (toS κ l))) := by
    have e : sKn B N (decide (hn z.1 z.2.1 y2 ≠ -1) && decide (hn z.1 z.2.1 y2 ≠ -1)) (sA B N (toS κ l)) = sHn B N z (-1) (sA B N (toS κ l)) := sKn_s (fun x hx => by rw [u2.2 x hx]; rfl)
    rw [← e]; exact p2
  have hb2 := hn_b (a := z.2.1) (x := y2) hN1.2.2.1
  rw [push_i, r87_12]
  refine c78 hE2 p2' hN2 (fun M3 y3 f3 u3 p3 => ?_)
  have hE3 := PEn_f hE2 f3
  have p3' : PSt M3 c B N (sMn B N z (sHn B N z (-1) (sA B N (toS κ l)))) := by
    have e : sKn B N (decide (mn z.1 z.2.1 y3 ≠ -1)) (sHn B N z (-1) (sA B N (toS κ l))) = sMn B N z (sHn B N z (-1) (sA B N (toS κ l))) := sKn_s (fun x hx => by rw [u3.2 x hx]; rfl)
    rw [← e]; exact p3
  have hb3 := mn_b (a := z.2.1) (x := y3) hN1.1.2.1
  rw [push_i, r87_17]
  refine c75v hE3 p3' (by omega) (by omega) (fun M4 n4 f4 p4 hn4 => ?_)
  have hk4 := PSt_k p4
  have ff := frQ_t f1 (frQ_t f2 (frQ_t f3 f4))
  rw [push_i, r87_25 hk4.1]
  by_cases q : M4 31 3 = 0
  · obtain ⟨y, hy⟩ := hk4.2.mp q
    obtain ⟨x3, e3, k3, a3, b3, y3'⟩ := sN_e hy
    obtain ⟨x2, e2, k2, g2, y2'⟩ := sKn_e (s := sHn B N z (-1) (sA B N (toS κ l))) e3
    obtain ⟨x1, e1, k1, g1, y1'⟩ := sKn_e (s := sA B N (toS κ l)) e2
    have x10 : x1 = (adv B N κ, 0, l) := sA_e e1
    have ey2 : y2 = vl B N (sA B N (toS κ l)) := u2.2 x1 e1
    have ey3 : y3 = vl B N (sHn B N z (-1) (sA B N (toS κ l))) := u3.2 x2 e2
    have hh : hOf B N z (sA B N (toS κ l)) = hn z.1 z.2.1 y2 := by rw [ey2]; rfl
    have hm : mOf B N z (sHn B N z (-1) (sA B N (toS κ l))) = mn z.1 z.2.1 y3 := by rw [ey3]; rfl
    have g1' : hn z.1 z.2.1 y2 ≠ -1 := by rw [← hh]; simp at g1; exact g1
    have g2' : mn z.1 z.2.1 y3 ≠ -1 := by rw [← hm]; simpa using g2
    obtain ⟨jh, ejh, -, jh2, -⟩ := fi_s (p := fun k => decide (z.2.1 8 k = y2)) (k := z.1 2) (i := 0) g1'
    obtain ⟨jm, ejm, -, jm2, -⟩ := fi_s (p := fun k => decide (z.2.1 7 k = y3)) (k := z.1 1) (i := 0) g2'
    have ejh' : hn z.1 z.2.1 y2 = (jh : Int) := ejh
    have ejm' : mn z.1 z.2.1 y3 = (jm : Int) := ejm
    have hlist : y.2 = (0, l) := by rw [y3', y2', y1', x10]
    have hn4' := hn4 _ hy
    rw [hy, hh, hm, ejh', ejm', Int.toNat_natCast, Int.toNat_natCast] at hK
    rw [if_neg (by simpa using q), r87_33 hE.1 hE.2.1, c55, push_i, ejh', ejm', r87_48 hE.1 (by omega) (by omega), r87_50, show ((jh : Int) * 3 + (jm : Int)).toNat = jh * 3 + jm by omega]
    have hE4 := PEn_f hE3 f4
    obtain ⟨hE5, s5⟩ := PS_sa (q := c + 13) (f := pm_up (M4 (c + 13)) (jh * 3 + jm) n4) hE4 (by omega)
    refine hK _ (fun q z1 z2 z3 => by rw [sa_n (by omega)]; exact ff q z1 z2 (by omega) (by omega)) ?_
    show PSt _ c B N (toS y.1 y.2.2) ∧ CH _ c y.2.2 _ ∧ wZ _
    have hyt : toS y.1 y.2.2 = .inr y := by rw [toS, hlist]; show Sum.inr (y.1, 0, l) = Sum.inr y; rw [← show y = (y.1, 0, l) from by rw [← hlist]]
    rw [hyt]
    have p5 := s5 _ p4
    rw [hy] at p5
    have fq : ∀ q, q ≠ 31 → q ≠ 32 → q ≠ c + 15 → q ≠ c + 16 → q ≠ c + 13 → (pm_sa M4 (c + 13) (pm_up (M4 (c + 13)) (jh * 3 + jm) n4)) q = M q := fun q z1 z2 z3 z4 z5 => by rw [sa_n z5]; exact ff q z1 z2 z3 z4
    refine ⟨p5, CH_f hC ⟨[], by rw [hlist]; simp⟩ rfl (fq _ (by omega) (by omega) (by omega) (by omega) (by omega)) (fq _ (by omega) (by omega) (by omega) (by omega) (by omega)) (fq _ (by omega) (by omega) (by omega) (by omega) (by omega)) (fun i hi => ?_) (fun m hm => ?_) (fun h hh => ?_) (fun k hk => ?_) ?_, ?_⟩
    · rw [fq c (by omega) (by omega) (by omega) (by omega) (by omega)]; exact hC.1 i hi
    · rw [fq (c + 1) (by omega) (by omega) (by omega) (by omega) (by omega), fq (c + 2) (by omega) (by omega) (by omega) (by omega) (by omega)]; exact hC.2.1 m hm
    · rw [fq (c + 3) (by omega) (by omega) (by omega) (by omega) (by omega), fq (c + 4) (by omega) (by omega) (by omega) (by omega) (by omega), fq (c + 5) (by omega) (by omega) (by omega) (by omega) (by omega)]; exact hC.2.2.1 h hh
    · rw [fq (c + 6) (by omega) (by omega) (by omega) (by omega) (by omega), fq (c + 7) (by omega) (by omega) (by omega) (by omega) (by omega), fq (c + 8) (by omega) (by omega) (by omega) (by omega) (by omega)]; exact hC.2.2.2.1 k hk
    · have := mo_up (M := M4) (b := c + 9) (i := 4) (k := jh * 3 + jm) (x := n4) (show jh * 3 + jm < 24 by omega)
      rw [show c + 9 + 4 = c + 13 from rfl] at this
      rw [this, mo_fr (M := M) (fun i hi => ff _ (by omega) (by omega) (by omega) (by omega)), hC.2.2.2.2.1, hn4']; rfl
    · obtain ⟨w1, w2, w3, w4, w5, w6, w7, w8⟩ := hw
      exact ⟨w1, w2, w3, w4, wM_4 w5 (by omega) (by omega) (by omega) (by omega), w6, w7, w8⟩
  · rw [if_pos q, r87_50]
    refine hK M4 (fun q z1 z2 z3 => ff q z1 z2 (by omega) (by omega)) ?_
    cases e : sN B N 0 20 (sMn B N z (sHn B N z (-1) (sA B N (toS κ l)))) with
    | inl e' => rw [e] at p4; exact p4
    | inr y => exact absurd (hk4.2.mpr ⟨y, e⟩) q
theorem c88 (hE : PEn v M c B N) (hP : PSt M c B N (toS κ l)) (hC : CH M c l z) (hw : wZ z) (hK : ∀ M', frZ c M M' → PS2 M' c B N (gOwes B N κ l z) → K PU (GF X, M', PTF v)) : pm_Call (d + 5) 88 [vA 31] (GF X, M, PTF v) K := by
  have hcc : c = 9 ∨ c = 35 := hE.1
  have w1 := hw.1
  have e3c : M c 3 = (z.1 3 : Int) := hC.1 3 (by omega)
  have hNM := CH_NM hC hw
  unfold gOwes at hK
  rw [en88, r88_0 hE.1 hE.2.1 (by rw [e3c]; omega), e3c]
  by_cases q16 : z.1 3 < 16
  · rw [if_pos q16] at hK
    rw [if_neg (by omega), r88_15, r88_20]
    refine c81 (room := true) (x := (κ, 0, l)) hE hP (fun M1 f1 p1 => ?_)
    have hE1 := PEn_f hE f1
    have hN1 := NM_f hE.1 hNM f1
    rw [if_pos (show true = true from rfl), push_i, r88_23 (by omega), if_pos (by omega), r88_27]
    have p1' : PSt M1 c B N (sA B N (toS κ l)) := p1
    refine c79 hE1 p1' hN1 (by omega) (fun M2 y2 f2 u2 p2 => ?_)
    have hE2 := PEn_f hE1 f2
    have hN2 := NM_f hE.1 hN1 f2
    have p2' : PSt M2 c B N (sHn B N z (-1) (sA B N (toS κ l))) := by
      have e : sKn B N (decide (hn z.1 z.2.1 y2 ≠ -1) && decide (hn z.1 z.2.1 y2 ≠ -1)) (sA B N (toS κ l)) = sHn B N z (-1) (sA B N (toS κ l)) := sKn_s (fun x hx => by rw [u2.2 x hx]; rfl)
      rw [← e]; exact p2
    have hb2 := hn_b (a := z.2.1) (x := y2) hN1.2.2.1
    rw [push_i, r88_32]
    refine c79 hE2 p2' hN2 (by omega) (fun M3 y3 f3 u3 p3 => ?_)
    have hE3 := PEn_f hE2 f3
    have p3' : PSt M3 c B N (sHn B N z (hOf B N z (sA B N (toS κ l))) (sHn B N z (-1) (sA B N (toS κ l)))) := by
      have e : sKn B N (decide (hn z.1 z.2.1 y3 ≠ -1) && decide (hn z.1 z.2.1 y3 ≠ hn z.1 z.2.1 y2)) (sHn B N z (-1) (sA B N (toS κ l))) = sHn B N z (hOf B N z (sA B N (toS κ l))) (sHn B N z (-1) (sA B N (toS κ l))) := sKn_s (fun x hx => by
        obtain ⟨x1, e1, -⟩ := sKn_e (s := sA B N (toS κ l)) hx
        rw [u3.2 x hx, u2.2 x1 e1]; rfl)
      rw [← e]; exact p3
    have hb3 := hn_b (a := z.2.1) (x := y3) hN1.2.2.1
    rw [push_i, r88_38]
    refine c75v hE3 p3' (by omega) (by omega) (fun M4 n4 f4 p4 hn4 => ?_)
    have hk4 := PSt_k p4
    have hE4 := PEn_f hE3 f4
    have ff := frQ_t f1 (frQ_t f2 (frQ_t f3 f4))
    rw [push_i, r88_47 hk4.1]
    by_cases q : M4 31 3 = 0
    · obtain ⟨y, hy⟩ := hk4.2.mp q
      obtain ⟨x3, e3, k3, a3, b3, y3'⟩ := sN_e hy
      obtain ⟨x2, e2, k2, g2, y2'⟩ := sKn_e (s := sHn B N z (-1) (sA B N (toS κ l))) e3
      obtain ⟨x1, e1, k1, g1, y1'⟩ := sKn_e (s := sA B N (toS κ l)) e2
      have x10 : x1 = (adv B N κ, 0, l) := sA_e e1
      have ey2 : y2 = vl B N (sA B N (toS κ l)) := u2.2 x1 e1
      have ey3 : y3 = vl B N (sHn B N z (-1) (sA B N (toS κ l))) := u3.2 x2 e2
      have hh : hOf B N z (sA B N (toS κ l)) = hn z.1 z.2.1 y2 := by rw [ey2]; rfl
      have hm : hOf B N z (sHn B N z (-1) (sA B N (toS κ l))) = hn z.1 z.2.1 y3 := by rw [ey3]; rfl
      have g1' : hn z.1 z.2.1 y2 ≠ -1 := by rw [← hh]; simp at g1; exact g1
      have g2' : hn z.1 z.2.1 y3 ≠ -1 := by rw [← hm]; simp at g2; exact g2.1
      obtain ⟨jh, ejh, -, jh2, -⟩ := fi_s (p := fun k => decide (z.2.1 8 k = y2)) (k := z.1 2) (i := 0) g1'
      obtain ⟨jm, ejm, -, jm2, -⟩ := fi_s (p := fun k => decide (z.2.1 8 k = y3)) (k := z.1 2) (i := 0) g2'
      have ejh' : hn z.1 z.2.1 y2 = (jh : Int) := ejh
      have ejm' : hn z.1 z.2.1 y3 = (jm : Int) := ejm
      have hlist : y.2 = (0, l) := by rw [y3', y2', y1', x10]
      have hn4' := hn4 _ hy
      have hnr : 1 ≤ n4 ∧ n4 ≤ 999 := by rw [hn4']; exact ⟨a3, b3⟩
      rw [← hn4'] at hK
      rw [hy, hm, hh, ejh', ejm'] at hK
      rw [if_neg (by simpa using q), ejh', ejm', r88_56 hE.1 hE.2.1 (by omega) (by omega), r88_66 hE.1 hE.2.1 (by omega) (by omega), r88_76 hE.1 hE.2.1 (by omega) (by omega), r88_87 hE.1 hE.2.1, r88_97, Int.toNat_natCast]
      obtain ⟨Mf, hMf⟩ : ∃ Mf, Mf = pm_sa (pm_sa (pm_sa (pm_sa M4 (c + 6) (pm_up (M4 (c + 6)) (z.1 3) (jh : Int))) (c + 7) (pm_up ((pm_sa M4 (c + 6) (pm_up (M4 (c + 6)) (z.1 3) (jh : Int))) (c + 7)) (z.1 3) (jm : Int))) (c + 8) (pm_up ((pm_sa (pm_sa M4 (c + 6) (pm_up (M4 (c + 6)) (z.1 3) (jh : Int))) (c + 7) (pm_up ((pm_sa M4 (c + 6) (pm_up (M4 (c + 6)) (z.1 3) (jh : Int))) (c + 7)) (z.1 3) (jm : Int))) (c + 8)) (z.1 3) n4)) c (pm_up ((pm_sa (pm_sa (pm_sa M4 (c + 6) (pm_up (M4 (c + 6)) (z.1 3) (jh : Int))) (c + 7) (pm_up ((pm_sa M4 (c + 6) (pm_up (M4 (c + 6)) (z.1 3) (jh : Int))) (c + 7)) (z.1 3) (jm : Int))) (c + 8) (pm_up ((pm_sa (pm_sa M4 (c + 6) (pm_up (M4 (c + 6)) (z.1 3) (jh : Int))) (c + 7) (pm_up ((pm_sa M4 (c + 6) (pm_up (M4 (c + 6)) (z.1 3) (jh : Int))) (c + 7)) (z.1 3) (jm : Int))) (c + 8)) (z.1 3) n4)) c) 3 ((z.1 3 : Int) + 1)) := ⟨_, rfl⟩
      rw [← hMf]
      have fq : ∀ q, q ≠ 31 → q ≠ 32 → q ≠ c + 15 → q ≠ c + 16 → q ≠ c + 6 → q ≠ c + 7 → q ≠ c + 8 → q ≠ c → Mf q = M q := fun q z1 z2 z3 z4 z5 z6 z7 z8 => by rw [hMf, sa_n z8, sa_n z7, sa_n z6, sa_n z5]; exact ff q z1 z2 z3 z4
      have m6 : Mf (c + 6) = pm_up (M (c + 6)) (z.1 3) (jh : Int) := by rw [hMf, sa_n (by omega), sa_n (by omega), sa_n (by omega), sa_s, ff (c + 6) (by omega) (by omega) (by omega) (by omega)]
      have m7 : Mf (c + 7) = pm_up (M (c + 7)) (z.1 3) (jm : Int) := by rw [hMf, sa_n (by omega), sa_n (by omega), sa_s, sa_n (by omega), ff (c + 7) (by omega) (by omega) (by omega) (by omega)]
      have m8 : Mf (c + 8) = pm_up (M (c + 8)) (z.1 3) n4 := by rw [hMf, sa_n (by omega), sa_s, sa_n (by omega), sa_n (by omega), ff (c + 8) (by omega) (by omega) (by omega) (by omega)]
      have m0 : Mf c = pm_up (M c) 3 ((z.1 3 : Int) + 1) := by rw [hMf, sa_s, sa_n (by omega), sa_n (by omega), sa_n (by omega), ff c (by omega) (by omega) (by omega) (by omega)]
      refine hK Mf (fun q z1 z2 z3 => fq q z1 z2 (by omega) (by omega) (by omega) (by omega) (by omega) (by omega)) ?_
      show PSt _ c B N (toS y.1 y.2.2) ∧ CH _ c y.2.2 _ ∧ wZ _
      have hyt : toS y.1 y.2.2 = .inr y := by rw [toS, hlist]; show Sum.inr (y.1, 0, l) = Sum.inr y; rw [← show y = (y.1, 0, l) from by rw [← hlist]]
      rw [hyt]
      have p5 : PSt Mf c B N (.inr y) := by
        have := PSt_c (M' := Mf) (by rw [hMf, sa_n (by omega), sa_n (by omega), sa_n (by omega), sa_n (by omega)]) (by rw [hMf, sa_n (by omega), sa_n (by omega), sa_n (by omega), sa_n (by omega)]) (by rw [hMf, sa_n (by omega), sa_n (by omega), sa_n (by omega), sa_n (by omega)]) (by rw [hMf, sa_n (by omega), sa_n (by omega), sa_n (by omega), sa_n (by omega)]) p4
        rw [hy] at this; exact this
      have W8 : ∀ j, j ≠ 4 → j ≠ 5 → j ≠ 6 → ∀ k, ups (ups (ups z.2.1 4 (z.1 3) (jh : Int)) 5 (z.1 3) (jm : Int)) 6 (z.1 3) n4 j k = z.2.1 j k := fun j h4 h5 h6 k => by rw [ups_n (by omega), ups_n (by omega), ups_n (by omega)]
      have u : ∀ i, i ≠ 3 → upn z.1 3 (z.1 3 + 1) i = z.1 i := fun i hi => upn_n hi
      refine ⟨p5, CH_f hC ⟨[], by rw [hlist]; simp⟩ rfl (fq _ (by omega) (by omega) (by omega) (by omega) (by omega) (by omega) (by omega) (by omega)) (fq _ (by omega) (by omega) (by omega) (by omega) (by omega) (by omega) (by omega) (by omega)) (fq _ (by omega) (by omega) (by omega) (by omega) (by omega) (by omega) (by omega) (by omega)) (fun i hi => ?_) (fun m hm => ?_) (fun h hh => ?_) (fun k hk => ?_) ?_, ?_⟩
      · rw [m0]
        by_cases zi : i = 3
        · rw [up_e zi, zi]; show _ = ((upn z.1 3 (z.1 3 + 1) 3 : Nat) : Int); rw [upn_s]; rfl
        · rw [up_n zi]; show _ = ((upn z.1 3 (z.1 3 + 1) i : Nat) : Int); rw [upn_n zi]; exact hC.1 i hi
      · have hm' : m < z.1 1 := by have : m < upn z.1 3 (z.1 3 + 1) 1 := hm; rwa [u 1 (by omega)] at this
        rw [fq (c + 1) (by omega) (by omega) (by omega) (by omega) (by omega) (by omega) (by omega) (by omega), fq (c + 2) (by omega) (by omega) (by omega) (by omega) (by omega) (by omega) (by omega) (by omega)]
        show _ = ups (ups (ups z.2.1 4 (z.1 3) (jh : Int)) 5 (z.1 3) (jm : Int)) 6 (z.1 3) n4 7 m ∧ _ = ups (ups (ups z.2.1 4 (z.1 3) (jh : Int)) 5 (z.1 3) (jm : Int)) 6 (z.1 3) n4 1 m
        rw [W8 7 (by omega) (by omega) (by omega), W8 1 (by omega) (by omega) (by omega)]; exact hC.2.1 m hm'
      · have hh' : h < z.1 2 := by have : h < upn z.1 3 (z.1 3 + 1) 2 := hh; rwa [u 2 (by omega)] at this
        rw [fq (c + 3) (by omega) (by omega) (by omega) (by omega) (by omega) (by omega) (by omega) (by omega), fq (c + 4) (by omega) (by omega) (by omega) (by omega) (by omega) (by omega) (by omega) (by omega), fq (c + 5) (by omega) (by omega) (by omega) (by omega) (by omega) (by omega) (by omega) (by omega)]
        show _ = ups (ups (ups z.2.1 4 (z.1 3) (jh : Int)) 5 (z.1 3) (jm : Int)) 6 (z.1 3) n4 8 h ∧ _ = ups (ups (ups z.2.1 4 (z.1 3) (jh : Int)) 5 (z.1 3) (jm : Int)) 6 (z.1 3) n4 2 h ∧ _ = ups (ups (ups z.2.1 4 (z.1 3) (jh : Int)) 5 (z.1 3) (jm : Int)) 6 (z.1 3) n4 3 h
        rw [W8 8 (by omega) (by omega) (by omega), W8 2 (by omega) (by omega) (by omega), W8 3 (by omega) (by omega) (by omega)]; exact hC.2.2.1 h hh'
      · have hk' : k < z.1 3 + 1 := by have : k < upn z.1 3 (z.1 3 + 1) 3 := hk; rwa [upn_s] at this
        rw [m6, m7, m8]
        show _ = ups (ups (ups z.2.1 4 (z.1 3) (jh : Int)) 5 (z.1 3) (jm : Int)) 6 (z.1 3) n4 4 k ∧ _ = ups (ups (ups z.2.1 4 (z.1 3) (jh : Int)) 5 (z.1 3) (jm : Int)) 6 (z.1 3) n4 5 k ∧ _ = ups (ups (ups z.2.1 4 (z.1 3) (jh : Int)) 5 (z.1 3) (jm : Int)) 6 (z.1 3) n4 6 k
        by_cases zi : k = z.1 3
        · rw [up_e zi, up_e zi, up_e zi, zi, ups_n (by omega), ups_n (by omega), ups_s, ups_n (by omega), ups_s, ups_s]; exact ⟨rfl, rfl, rfl⟩
        · rw [up_n zi, up_n zi, up_n zi, ups_n (by omega), ups_n (by omega), ups_n (by omega), ups_n (by omega), ups_n (by omega), ups_n (by omega), ups_n (by omega), ups_n (by omega), ups_n (by omega)]; exact hC.2.2.2.1 k (by omega)
      · rw [mo_fr (M := M) (fun i hi => fq _ (by omega) (by omega) (by omega) (by omega) (by omega) (by omega) (by omega) (by omega))]; exact hC.2.2.2.2.1
      · obtain ⟨w1, w2, w3, w4, w5, w6, w7, w8⟩ := hw
        have wm : wM (upn z.1 3 (z.1 3 + 1)) z.2.2.2 := by
          unfold wM at *
          rw [u 0 (by omega), u 1 (by omega), u 2 (by omega)]; exact w5
        refine ⟨?_, fun m hm => ?_, fun h hh => ?_, fun k hk => ?_, wm, fun m hm => ?_, fun h hh => ?_, fun w hw' => ?_⟩
        · show (upn z.1 3 (z.1 3 + 1) 0 ≤ 24 ∧ upn z.1 3 (z.1 3 + 1) 1 ≤ 3 ∧ upn z.1 3 (z.1 3 + 1) 2 ≤ 8 ∧ upn z.1 3 (z.1 3 + 1) 3 ≤ 16 ∧ upn z.1 3 (z.1 3 + 1) 4 ≤ 6 ∧ upn z.1 3 (z.1 3 + 1) 5 ≤ 99 ∧ upn z.1 3 (z.1 3 + 1) 6 ≤ 999 ∧ (upn z.1 3 (z.1 3 + 1) 0 = 0 → upn z.1 3 (z.1 3 + 1) 1 = 0 ∧ upn z.1 3 (z.1 3 + 1) 2 = 0))
          rw [upn_s, u 0 (by omega), u 1 (by omega), u 2 (by omega), u 4 (by omega), u 5 (by omega), u 6 (by omega)]
          omega
        · have hm' : m < z.1 1 := by have : m < upn z.1 3 (z.1 3 + 1) 1 := hm; rwa [u 1 (by omega)] at this
          show 0 ≤ ups (ups (ups z.2.1 4 (z.1 3) (jh : Int)) 5 (z.1 3) (jm : Int)) 6 (z.1 3) n4 1 m ∧ ups (ups (ups z.2.1 4 (z.1 3) (jh : Int)) 5 (z.1 3) (jm : Int)) 6 (z.1 3) n4 1 m ≤ 23
          rw [W8 1 (by omega) (by omega) (by omega)]; exact w2 m hm'
        · have hh' : h < z.1 2 := by have : h < upn z.1 3 (z.1 3 + 1) 2 := hh; rwa [u 2 (by omega)] at this
          show 0 ≤ ups (ups (ups z.2.1 4 (z.1 3) (jh : Int)) 5 (z.1 3) (jm : Int)) 6 (z.1 3) n4 2 h ∧ ups (ups (ups z.2.1 4 (z.1 3) (jh : Int)) 5 (z.1 3) (jm : Int)) 6 (z.1 3) n4 2 h < (upn z.1 3 (z.1 3 + 1) 0 : Nat) ∧ 0 ≤ ups (ups (ups z.2.1 4 (z.1 3) (jh : Int)) 5 (z.1 3) (jm : Int)) 6 (z.1 3) n4 3 h ∧ ups (ups (ups z.2.1 4 (z.1 3) (jh : Int)) 5 (z.1 3) (jm : Int)) 6 (z.1 3) n4 3 h ≤ 99
          rw [u 0 (by omega), W8 2 (by omega) (by omega) (by omega), W8 3 (by omega) (by omega) (by omega)]; exact w3 h hh'
        · have hk' : k < z.1 3 + 1 := by have : k < upn z.1 3 (z.1 3 + 1) 3 := hk; rwa [upn_s] at this
          show 0 ≤ ups (ups (ups z.2.1 4 (z.1 3) (jh : Int)) 5 (z.1 3) (jm : Int)) 6 (z.1 3) n4 4 k ∧ ups (ups (ups z.2.1 4 (z.1 3) (jh : Int)) 5 (z.1 3) (jm : Int)) 6 (z.1 3) n4 4 k < (upn z.1 3 (z.1 3 + 1) 2 : Nat) ∧ 0 ≤ ups (ups (ups z.2.1 4 (z.1 3) (jh : Int)) 5 (z.1 3) (jm : Int)) 6 (z.1 3) n4 5 k ∧ ups (ups (ups z.2.1 4 (z.1 3) (jh : Int)) 5 (z.1 3) (jm : Int)) 6 (z.1 3) n4 5 k < (upn z.1 3 (z.1 3 + 1) 2 : Nat) ∧ 1 ≤ ups (ups (ups z.2.1 4 (z.1 3) (jh : Int)) 5 (z.1 3) (jm : Int)) 6 (z.1 3) n4 6 k ∧ ups (ups (ups z.2.1 4 (z.1 3) (jh : Int)) 5 (z.1 3) (jm : Int)) 6 (z.1 3) n4 6 k ≤ 999
          rw [u 2 (by omega)]
          by_cases zi : k = z.1 3
          · rw [zi, ups_n (by omega), ups_n (by omega), ups_s, ups_n (by omega), ups_s, ups_s]; omega
          · rw [ups_n (by omega), ups_n (by omega), ups_n (by omega), ups_n (by omega), ups_n (by omega), ups_n (by omega), ups_n (by omega), ups_n (by omega), ups_n (by omega)]; exact w4 k (by omega)
        · have hm' : m < z.1 1 := by have : m < upn z.1 3 (z.1 3 + 1) 1 := hm; rwa [u 1 (by omega)] at this
          show -128 ≤ ups (ups (ups z.2.1 4 (z.1 3) (jh : Int)) 5 (z.1 3) (jm : Int)) 6 (z.1 3) n4 7 m ∧ ups (ups (ups z.2.1 4 (z.1 3) (jh : Int)) 5 (z.1 3) (jm : Int)) 6 (z.1 3) n4 7 m < 1073741824
          rw [W8 7 (by omega) (by omega) (by omega)]; exact w6 m hm'
        · have hh' : h < z.1 2 := by have : h < upn z.1 3 (z.1 3 + 1) 2 := hh; rwa [u 2 (by omega)] at this
          show -128 ≤ ups (ups (ups z.2.1 4 (z.1 3) (jh : Int)) 5 (z.1 3) (jm : Int)) 6 (z.1 3) n4 8 h ∧ ups (ups (ups z.2.1 4 (z.1 3) (jh : Int)) 5 (z.1 3) (jm : Int)) 6 (z.1 3) n4 8 h < 1073741824
          rw [W8 8 (by omega) (by omega) (by omega)]; exact w7 h hh'
        · have hh' : 2 + z.1 4 ≤ w := by have : 2 + upn z.1 3 (z.1 3 + 1) 4 ≤ w := hw'; rwa [u 4 (by omega)] at this
          exact w8 w hh'
    · rw [if_pos q, r88_97]
      refine hK M4 (fun q z1 z2 z3 => ff q z1 z2 (by omega) (by omega)) ?_
      cases e : sN B N 1 999 (sHn B N z (hOf B N z (sA B N (toS κ l))) (sHn B N z (-1) (sA B N (toS κ l)))) with
      | inl e' => rw [e] at p4; exact p4
      | inr y => exact absurd (hk4.2.mpr ⟨y, e⟩) q
  · rw [if_neg q16] at hK
    rw [if_pos (by omega), r88_19, r88_20]
    refine c81 (room := false) (x := (κ, 0, l)) hE hP (fun M1 f1 p1 => ?_)
    rw [if_neg (show ¬ false = true by decide), push_i, r88_23 (by omega), if_neg (by simp), r88_26]
    exact hK M1 (fun q z1 z2 z3 => f1 q z1 z2 (by omega) (by omega)) p1
end CS3
