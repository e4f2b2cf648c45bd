/-! The reference's reader of formulas: reads. -/
/-- behind a formula: what cannot be read there may be told already -/
def PR4 (M : PH) (bk : Nat) (B : Nat → Int) (N : Nat) (s : ST) : Prop := PRS M bk B N s ∨ ∃ x : KP × Nat × List Int, s = .inr x ∧ (tok B N x.1).1 = 4 ∧ FL M (1, ((tok B N x.1).2.2.1 : Int))
section RFag
variable {d b w bk D : Nat} {X : Nat × (Nat → Int)} {v : Nat → Int} {M M' M2 : PH} {K : PV → PS → Prop} {B : Nat → Int} {N : Nat} {κ : KP} {e : Int × Int} {o op : Nat} {l S S0 Q : List Int} {s : ST} {kn ph bg tb : Int} {bs : Nat}
/-- the first frame -/
theorem c201z (e48 : M 234 48 = 0) (e51 : M 234 51 = 0) (hK : ∀ M', TF M' 0 kn 0 1 0 → M' 234 48 = 1 → (∀ j, j ≠ 48 → M' 234 j = M 234 j) → (∀ q, q ≠ 234 → q < 263 ∨ 267 < q → M' q = M q) → fA bk 0 M M' → K PU (GF X, M', PTF v)) : pm_Call (d + 1) 201 [vA 234, vI kn] (GF X, M, PTF v) K := by
  have ix : (M 234 48).toNat = 0 := by omega
  rw [en201, r201_0 (by omega) (by omega), ix]
  have F1 : fA bk 0 M (pm_sa M 263 (pm_up (M 263) 0 kn)) := fA_q (by omega) (by omega)
  have q1 : ∀ q, q ≠ 234 → q < 263 ∨ 267 < q → (pm_sa M 263 (pm_up (M 263) 0 kn)) q = M q := fun q _ z => sa_n (by omega)
  generalize hM1 : pm_sa M 263 (pm_up (M 263) 0 kn) = M1 at F1 q1
  have s1 : M1 234 = M 234 := by rw [← hM1]; rfl
  have v1 : M1 263 0 = kn := by rw [← hM1, sa_s, up_s]
  rw [r201_10 (by rw [s1]; omega) (by rw [s1]; omega), s1, ix]
  have F2 : fA bk 0 M1 (pm_sa M1 264 (pm_up (M1 264) 0 0)) := fA_q (by omega) (by omega)
  have q2 : ∀ q, q ≠ 234 → q < 263 ∨ 267 < q → (pm_sa M1 264 (pm_up (M1 264) 0 0)) q = M q := fun q z1 z => by rw [sa_n (by omega)]; exact q1 q z1 z
  generalize hM2 : pm_sa M1 264 (pm_up (M1 264) 0 0) = M2 at F2 q2
  have s2 : M2 234 = M 234 := by rw [← hM2]; exact s1
  have v2 : M2 263 0 = kn ∧ M2 264 0 = 0 := by rw [← hM2, sa_s, up_s]; exact ⟨v1, rfl⟩
  rw [r201_20 (by rw [s2]; omega) (by rw [s2]; omega), s2, ix]
  have F3 : fA bk 0 M2 (pm_sa M2 265 (pm_up (M2 265) 0 1)) := fA_q (by omega) (by omega)
  have q3 : ∀ q, q ≠ 234 → q < 263 ∨ 267 < q → (pm_sa M2 265 (pm_up (M2 265) 0 1)) q = M q := fun q z1 z => by rw [sa_n (by omega)]; exact q2 q z1 z
  generalize hM3 : pm_sa M2 265 (pm_up (M2 265) 0 1) = M3 at F3 q3
  have s3 : M3 234 = M 234 := by rw [← hM3]; exact s2
  have v3 : M3 263 0 = kn ∧ M3 264 0 = 0 ∧ M3 265 0 = 1 := by rw [← hM3, sa_s, up_s]; exact ⟨v2.1, v2.2, rfl⟩
  rw [r201_30 (by rw [s3]; omega) (by rw [s3]; omega), s3, ix, e51]
  have F4 : fA bk 0 M3 (pm_sa M3 267 (pm_up (M3 267) 0 0)) := fA_q (by omega) (by omega)
  have q4 : ∀ q, q ≠ 234 → q < 263 ∨ 267 < q → (pm_sa M3 267 (pm_up (M3 267) 0 0)) q = M q := fun q z1 z => by rw [sa_n (by omega)]; exact q3 q z1 z
  generalize hM4 : pm_sa M3 267 (pm_up (M3 267) 0 0) = M4 at F4 q4
  have s4 : M4 234 = M 234 := by rw [← hM4]; exact s3
  have v4 : TF M4 0 kn 0 1 0 := by
    rw [← hM4]
    refine ⟨v3.1, v3.2.1, v3.2.2, ?_⟩
    rw [sa_s, up_s]; rfl
  rw [r201_43, s4]
  have F5 : fA bk 0 M4 (pm_sa M4 234 (pm_up (M4 234) 48 (M 234 48 + 1))) := fA_j (by omega)
  rw [s4] at F5
  refine hK _ (TF_j v4) (by rw [sa_s, up_s, e48]; rfl) (fun j z => by rw [sa_s, up_n z]) (fun q z1 z => by rw [sa_n z1]; exact q4 q z1 z) (fA_t F1 (fA_t F2 (fA_t F3 (fA_t F4 F5))))
/-- a formula is read -/
theorem t206 (hT : TX M B N) (h : PRS M bk B N s) (hs : ∀ κ o l, s = .inr (κ, o, l) → o = 0 ∧ l.length < κ.1) {w : Int} {tb : Int} (hw : tb = if w = 10 then 1 else 0) (hK : ∀ M', PR4 M' bk B N (gFm B N w s) → fA bk 0 M M' → K PU (GF X, M', PTF v)) : pm_Call (d + 7) 206 [vA 234, vI tb] (GF X, M, PTF v) K := by
  rw [en206]
  have htb : tb = 0 ∨ tb = 1 := by rw [hw]; split <;> simp
  match s, h, hs, hK with
  | .inl e, h, _, hK =>
    have f8 := h.1
    have f1 := h.2.1
    rw [r206_0 (by omega), if_neg (by omega), r206_7]
    exact hK M (Or.inl (by rw [opk_Fm.2]; exact h)) fA_r
  | .inr (κ, o, l), h, hs, hK =>
    obtain ⟨rfl, hl⟩ := hs κ o l rfl
    obtain ⟨a1, a2⟩ := id h
    have a1 : OK M B N κ := a1
    have a2 : CDR M bk l := a2
    have hκ := a1.2.2.2.1
    have hN := hT.2.1
    rw [r206_0 (by rw [a1.1]; omega), if_pos (by rw [a1.1]; omega), r206_8, r206_13, sa_s, sa_sa, r206_18, sa_s, sa_sa, r206_23, sa_s, sa_sa]
    generalize hM1 : pm_sa M 234 (pm_up (pm_up (pm_up (pm_up (M 234) 48 0) 49 0) 51 0) 52 0) = M1
    have m1 : ∀ j, j ≠ 48 → j ≠ 49 → j ≠ 51 → j ≠ 52 → M1 234 j = M 234 j := fun j z1 z2 z3 z4 => by rw [← hM1, sa_s, up_n z4, up_n z3, up_n z2, up_n z1]
    have n1 : ∀ q, q ≠ 234 → M1 q = M q := fun q z => by rw [← hM1, sa_n z]
    have v52 : M1 234 52 = 0 := by rw [← hM1, sa_s, up_s]
    have v51 : M1 234 51 = 0 := by rw [← hM1, sa_s, up_n (by omega), up_s]
    have v49 : M1 234 49 = 0 := by rw [← hM1, sa_s, up_n (by omega), up_n (by omega), up_s]
    have v48 : M1 234 48 = 0 := by rw [← hM1, sa_s, up_n (by omega), up_n (by omega), up_n (by omega), up_s]
    have F1 : fA bk 0 M M1 := ⟨fun q z1 _ _ _ => n1 q z1, fun j z1 z2 z3 z4 z5 z6 z7 => m1 j z4 z5 z6 z7, fun k _ => by rw [n1 259 (by omega), n1 260 (by omega)]; exact ⟨rfl, rfl⟩, fun k z => by omega⟩
    have go : ∀ kn : Int, kn = tb → pm_Run (d + 6) 206 38 [vA 234, vI tb, PU] [vI kn, vA 234] (GF X, M1, PTF v) K := by
      intro kn hkn
      rw [r206_38]
      refine c201z (d := d + 5) (bk := bk) v48 v51 (fun M2 T2 e48 m2 n2 F2 => ?_)
      rw [push_u, r206_41]
      have F12 := fA_t F1 F2
      have e2 : ∀ j, j ≠ 48 → j ≠ 49 → j ≠ 51 → j ≠ 52 → M2 234 j = M 234 j := fun j z1 z2 z3 z4 => (m2 j z1).trans (m1 j z1 z2 z3 z4)
      have w2 : ∀ q, q ≠ 234 → q < 263 ∨ 267 < q → M2 q = M q := fun q z1 z => (n2 q z1 z).trans (n1 q z1)
      have A2 : AS M2 bk B N κ 0 l [] 0 := ⟨OK_u a1 (fun j z => e2 j (by omega) (by omega) (by omega) (by omega)), CDR_u a2 (e2 42 (by omega) (by omega) (by omega) (by omega)) (e2 41 (by omega) (by omega) (by omega) (by omega)) (w2 259 (by omega) (by omega)) (w2 260 (by omega) (by omega)), ⟨by rw [m2 49 (by omega), v49]; rfl, by omega⟩, ⟨e48, by omega⟩, ⟨by rw [m2 51 (by omega), v51]; rfl, by show 0 < 450; omega, fun i hi => absurd hi (Nat.not_lt_zero i)⟩⟩
      have s52 : M2 234 52 = 0 := by rw [m2 52 (by omega)]; exact v52
      have hT2 := TX_A hT F12
      by_cases q : w = 10
      · have k1 : kn = 1 := by rw [hkn, hw, if_pos q]
        have eg : gFm B N w (.inr (κ, 0, l)) = gTest B N (gF B N 7) (.inr (κ, 0, l)) := by rw [gFm, if_pos q]
        rw [eg] at hK
        subst k1
        refine (rd_FT hT.1 hN 7).2 M2 κ 0 l [] 0 1 0 hT2 A2 T2 s52 (by simp) ⟨Nat.le_refl _, Or.inl rfl⟩ (by omega) hl (by omega) (by show 0 + 5 + 6 * 7 ≤ 60; omega) (fun e he M3 f3 g3 => hK M3 (Or.inl (by rw [he]; exact f3)) (fA_t F12 g3)) (fun κ3 l3 Q3 ph3 he hQ3 hph3 har3 hfin3 M3 A3 T3 e3 g3 => ?_)
        have bb := GD_b (GD_T hT.1 hN 7) (by omega) hκ hl he
        have lq : l3.length + Q3.length < κ3.1 := by have := bb.1; rw [List.length_append] at this; exact this
        refine l205s (d := d) (TX_A hT2 g3) A3 T3 e3 (by omega) (by omega) (fun h4 M4 f4 g4 => ?_) (fun hc => ?_)
        · exact hK M4 (Or.inr ⟨(κ3, 0, l3 ++ Q3), he, h4, f4⟩) (fA_t F12 (fA_t g3 (fA_d g4 (by omega))))
        · refine g_end (d := d) (op := 0) (o := 0) (S0 := []) (Q := Q3) A3 T3 hc (by simp) (by omega) (fun _ => ⟨by omega, hfin3.1, hfin3.2⟩) (fun z => by rw [ar_s]; exact har3 z) ⟨Nat.le_refl _, Or.inl rfl⟩ hQ3 (by omega) (fun M4 A4 g4 => hK M4 (Or.inl (by rw [he]; exact ⟨A4.1, A4.2.1⟩)) (fA_t F12 (fA_t g3 (fA_d g4 (by omega)))))
      · have k0 : kn = 0 := by rw [hkn, hw, if_neg q]
        have eg : gFm B N w (.inr (κ, 0, l)) = gS B N 7 (.inr (κ, 0, l)) := by rw [gFm, if_neg q]
        rw [eg] at hK
        subst k0
        refine rd_S hT.1 hN 7 M2 κ 0 l [] 0 0 0 1 0 hT2 A2 T2 s52 (by simp) (by simp) (by omega) (fun z => absurd z (by decide)) ⟨Nat.le_refl _, Or.inl rfl⟩ (by omega) hl (by omega) (by show 0 + 2 + 6 * 7 ≤ 60; omega) (fun e he M3 f3 g3 => hK M3 (Or.inl (by rw [he]; exact f3)) (fA_t F12 g3)) (fun κ3 l3 Q3 he hQ3 hnn3 hfin3 M3 A3 T3 e3 w3 g3 => ?_)
        have bb := GD_b (GD_S hT.1 hN 7) (by omega) hκ hl he
        have lq : l3.length + Q3.length < κ3.1 := by have := bb.1; rw [List.length_append] at this; exact this
        refine l205s (d := d) (TX_A hT2 g3) A3 T3 e3 (by omega) (by omega) (fun h4 M4 f4 g4 => ?_) (fun hc => ?_)
        · exact hK M4 (Or.inr ⟨(κ3, 0, l3 ++ Q3), he, h4, f4⟩) (fA_t F12 (fA_t g3 (fA_d g4 (by omega))))
        · refine g_end (d := d) (op := 0) (o := 0) (S0 := []) (Q := Q3) (by rw [hnn3]; exact A3) T3 hc (by simp) (by simp) (fun z => by omega) (fun z => by rw [ar_s]; exact hfin3) ⟨Nat.le_refl _, Or.inl rfl⟩ (fun c hc => by have := hQ3 c hc; omega) (by omega) (fun M4 A4 g4 => hK M4 (Or.inl (by rw [he]; exact ⟨A4.1, A4.2.1⟩)) (fA_t F12 (fA_t g3 (fA_d g4 (by omega)))))
    rw [r206_28 (by omega)]
    rcases htb with z | z
    · rw [if_pos z, r206_37]; exact go 0 z.symm
    · rw [if_neg (by omega), r206_33]; exact go 1 z.symm
end RFag
