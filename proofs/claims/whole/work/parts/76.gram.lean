/-! Sums and tests, as the class reads them. -/
section CGR
variable {d c N : Nat} {X : Nat × (Nat → Int)} {v : Nat → Int} {M M' : PH} {K : PV → PS → Prop} {B : Nat → Int} {s : ST} {rec recf sumf : ST → ST} {n D : Nat}
theorem c90 (hE : PEn v M c B N) {x : KP × Nat × List Int} (hP : PSt M c B N (.inr x)) (hK1 : x.2.1 < 7 → ∀ M', frQ c M M' → PSt M' c B N (sA B N (sO (fun o => o + 1) (.inr x))) → K (vI 1) (GF X, M', PTF v)) (hK0 : ¬ x.2.1 < 7 → ∀ M', frQ c M M' → PSt M' c B N (sG B N 5 (.inr x)) → K (vI 0) (GF X, M', PTF v)) : pm_Call (d + 3) 90 [vA 31] (GF X, M, PTF v) K := by
  have hP' := hP
  obtain ⟨p3, p4, pl, pi, po, po7, pc⟩ := hP
  have hc16 := ch16 hE.1
  rw [en90, r90_0 (by rw [po]; omega), po]
  by_cases q : x.2.1 < 7
  · rw [if_pos (by omega), r90_23, r90_33, po]
    have f0 : frQ c M (pm_sa M 31 (pm_up (M 31) 2 ((x.2.1 : Int) + 1))) := fun q z1 z2 z3 z4 => sa_n z1
    refine c51p (x := (x.1, x.2.1 + 1, x.2.2)) (PEn_f hE f0) ⟨by rw [sa_s, up_n (by omega)]; exact p3, by rw [sa_s, up_n (by omega)]; exact p4, by rw [sa_n (by omega)]; exact pl, pi, by rw [sa_s, up_s]; rfl, by show x.2.1 + 1 ≤ 7; omega, ?_⟩ (fun M2 f2 p2 => ?_)
    · unfold cdL at pc ⊢
      rw [sa_n (by omega), sa_n (by omega)]; exact pc
    · rw [push_u, r90_40]
      exact hK1 q M2 (frQ_t f0 f2) p2
  · rw [if_neg (by omega), r90_9]
    refine c69s hE hP' (by decide) (by omega) (fun M2 f2 p2 => ?_)
    rw [push_u, r90_21]
    exact hK0 q M2 f2 p2
/-- one fewer is open -/
theorem cdn (hE : PEn v M c B N) (hP : PSt M c B N s) : frQ c M (pm_sa M 31 (pm_up (M 31) 2 (M 31 2 - 1))) ∧ ((∀ x, s = .inr x → 0 < x.2.1) → PSt (pm_sa M 31 (pm_up (M 31) 2 (M 31 2 - 1))) c B N (sO (fun o => o - 1) s)) := by
  have hc16 := ch16 hE.1
  refine ⟨fun q z1 z2 z3 z4 => sa_n z1, fun h0 => ?_⟩
  match s, hP, h0 with
  | .inl e, ⟨p3, p0, pr, p4, pk, po, pv, pc⟩, _ =>
    refine ⟨by rw [sa_s, up_n (by omega)]; exact p3, p0, pr, by rw [sa_s, up_n (by omega)]; exact p4, by rw [sa_n (by omega)]; exact pk, by rw [sa_n (by omega)]; exact po, by rw [sa_n (by omega)]; exact pv, ?_⟩
    unfold cdS at pc ⊢
    rw [sa_n (by omega), sa_n (by omega)]; exact pc
  | .inr x, ⟨p3, p4, pl, pi, po, po7, pc⟩, h0 =>
    have := h0 x rfl
    refine ⟨by rw [sa_s, up_n (by omega)]; exact p3, by rw [sa_s, up_n (by omega)]; exact p4, by rw [sa_n (by omega)]; exact pl, pi, by rw [sa_s, up_s, po]; show _ = ((x.2.1 - 1 : Nat) : Int); omega, by show x.2.1 - 1 ≤ 7; omega, ?_⟩
    unfold cdL at pc ⊢
    rw [sa_n (by omega), sa_n (by omega)]; exact pc
/-- how many are open stays as it was -/
def opk (φ : ST → ST) : Prop := ∀ x y, φ (.inr x) = .inr y → y.2.1 = x.2.1
def kf (φ : ST → ST) : Prop := ∀ e, φ (.inl e) = .inl e
theorem opk_A : opk (sA B N) := fun x y h => by
  have : (Sum.inr (adv B N x.1, x.2) : ST) = .inr y := h
  injection this with this
  rw [← this]
theorem opk_E {z : Int} : opk (sE z) := fun x y h => by
  have : (Sum.inr (x.1, x.2.1, if x.2.2.length < 1600 then x.2.2 ++ [z] else x.2.2) : ST) = .inr y := h
  injection this with this
  rw [← this]
theorem opk_W {x : KP × Nat × List Int} {y : KP × Nat × List Int} (h : sW B N (.inr x) = .inr y) : False := by
  have : (Sum.inl (1, ((tok B N x.1).2.2.1 : Int)) : ST) = .inr y := h
  cases this
theorem opk_G {x : KP × Nat × List Int} {y : KP × Nat × List Int} {k : Int} (h : sG B N k (.inr x) = .inr y) : False := by
  have : (Sum.inl (k, ((tok B N x.1).2.1 : Int)) : ST) = .inr y := h
  cases this
theorem opk_S {z : Int} : opk (sSg B N z) := fun x y h => by
  unfold sSg at h
  split at h
  · exact opk_A x y h
  · exact (opk_W h).elim
theorem opk_c {φ ψ : ST → ST} (h1 : opk φ) (h2 : opk ψ) (k2 : kf ψ) : opk (fun s => ψ (φ s)) := fun x y h => by
  cases e : φ (.inr x) with
  | inl z =>
    have h' : ψ (φ (.inr x)) = .inr y := h
    rw [e, k2] at h'; cases h'
  | inr z =>
    have h' : ψ (φ (.inr x)) = .inr y := h
    rw [e] at h'
    rw [h2 z y h', h1 x z e]
theorem kf_A : kf (sA B N) := fun _ => rfl
theorem kf_E {z : Int} : kf (sE z) := fun _ => rfl
theorem kf_S {z : Int} : kf (sSg B N z) := fun e => by
  unfold sSg
  rw [if_neg (show ¬ isS B N z (.inl e) = true by simp [isS])]; rfl
theorem kf_c {φ ψ : ST → ST} (h1 : kf φ) (h2 : kf ψ) : kf (fun s => ψ (φ s)) := fun e => by
  show ψ (φ (.inl e)) = _
  rw [h1, h2]
theorem kf_O {z : Nat → Nat} : kf (sO z) := fun _ => rfl
/-- with one more open for a while -/
theorem opk_in {φ : ST → ST} (h : opk φ) (hk : kf φ) : opk (fun s => sO (fun o => o - 1) (φ (sA B N (sO (fun o => o + 1) s)))) ∧ ∀ x y, φ (sA B N (sO (fun o => o + 1) (.inr x))) = .inr y → y.2.1 = x.2.1 + 1 := by
  have g : ∀ x y, φ (sA B N (sO (fun o => o + 1) (.inr x))) = .inr y → y.2.1 = x.2.1 + 1 := fun x y e => h _ y e
  refine ⟨fun x y e => ?_, g⟩
  cases e2 : φ (sA B N (sO (fun o => o + 1) (.inr x))) with
  | inl z =>
    have e' : sO (fun o => o - 1) (φ (sA B N (sO (fun o => o + 1) (.inr x)))) = .inr y := e
    rw [e2] at e'; cases e'
  | inr z =>
    have e' : sO (fun o => o - 1) (φ (sA B N (sO (fun o => o + 1) (.inr x)))) = .inr y := e
    rw [e2] at e'
    have : (Sum.inr (z.1, z.2.1 - 1, z.2.2) : ST) = .inr y := e'
    injection this with this
    rw [← this]
    show z.2.1 - 1 = x.2.1
    rw [g x z e2]; omega
theorem opk_Two {w : Int} (h : opk rec) (hk : kf rec) : opk (gTwo B N rec w) := fun x y e => by
  unfold gTwo at e
  split at e
  · split at e
    · have h1 : opk (fun s => sSg B N 41 (rec (sSg B N 44 (rec s)))) := opk_c (opk_c (opk_c h opk_S kf_S) h hk) opk_S kf_S
      have k1 : kf (fun s => sSg B N 41 (rec (sSg B N 44 (rec s)))) := kf_c (kf_c (kf_c hk kf_S) hk) kf_S
      exact opk_c (opk_in h1 k1).1 opk_E kf_E x y e
    · exact (opk_G e).elim
  · exact (opk_W e).elim
theorem kf_Two {w : Int} : kf (gTwo B N rec w) := fun e => by
  unfold gTwo
  rw [if_neg (show ¬ isS B N 40 (.inl e) = true by simp [isS])]; rfl
theorem opk_Part (h : opk rec) (hk : kf rec) : opk (gPart B N rec) := fun x y e => by
  unfold gPart at e
  split at e
  · exact opk_c (ψ := sA B N) opk_E opk_A kf_A x y e
  split at e
  · split at e
    · exact (opk_in (opk_c h opk_S kf_S) (kf_c hk kf_S)).1 x y e
    · exact (opk_G e).elim
  split at e
  · exact opk_c opk_A (opk_Two h hk) kf_Two x y e
  split at e
  · exact opk_c (ψ := sA B N) opk_E opk_A kf_A x y e
  · exact (opk_W e).elim
theorem kf_Part : kf (gPart B N rec) := fun e => by
  unfold gPart
  rw [if_neg (show ¬ kd B N (.inl e) = 2 by show ¬ (4 : Int) = 2; decide), if_neg (show ¬ isS B N 40 (.inl e) = true by simp [isS]), if_neg (show ¬ (isW B N 27 (.inl e) || isW B N 28 (.inl e)) = true by simp [isW]), if_neg (show ¬ isVal B N (.inl e) = true by simp [isVal, kd])]; rfl
theorem opk_L {p : ST → Bool} {body : ST → ST} (h : opk body) (hk : kf body) : ∀ k, opk (gLoop p body k) ∧ kf (gLoop p body k)
  | 0 => ⟨fun x y e => by have : (Sum.inr x : ST) = .inr y := e; injection this with this; rw [this], fun _ => rfl⟩
  | k + 1 => by
    obtain ⟨i1, i2⟩ := opk_L (p := p) h hk k
    refine ⟨fun x y e => ?_, fun e => ?_⟩
    · rw [gLoop] at e
      split at e
      · exact opk_c h i1 i2 x y e
      · have : (Sum.inr x : ST) = .inr y := e; injection this with this; rw [this]
    · rw [gLoop]
      split
      · rw [hk, i2]
      · rfl
theorem opk_vl {f : Int → Int} (φ : ST → ST) (h : opk φ) (hk : kf φ) : opk (fun s => sE (f (vl B N s)) (φ (sA B N s))) ∧ kf (fun s => sE (f (vl B N s)) (φ (sA B N s))) := ⟨fun x y e => opk_c (opk_c opk_A h hk) (opk_E (z := f (vl B N (.inr x)))) kf_E x y e, fun e => by show sE _ (φ (.inl e)) = _; rw [hk]; rfl⟩
theorem opk_Prod (h : opk rec) (hk : kf rec) : opk (gProd B N rec) ∧ kf (gProd B N rec) := by
  have hb := opk_vl (f := fun z => 20000 + z) (B := B) (N := N) (gPart B N rec) (opk_Part h hk) kf_Part
  have hl := opk_L (p := fun s => isS B N 42 s || (isS B N 47 s || isS B N 37 s)) hb.1 hb.2 1600
  exact ⟨fun x y e => opk_c (φ := gPart B N rec) (opk_Part h hk) hl.1 hl.2 x y e, fun e => kf_c (φ := gPart B N rec) kf_Part hl.2 e⟩
theorem opk_Sum (h : opk rec) (hk : kf rec) : opk (gSum B N rec) ∧ kf (gSum B N rec) := by
  have hp := opk_Prod (B := B) (N := N) h hk
  have hb := opk_vl (f := fun z => 20000 + z) (B := B) (N := N) (gProd B N rec) hp.1 hp.2
  have hl := opk_L (p := fun s => isS B N 43 s || isS B N 45 s) hb.1 hb.2 1600
  exact ⟨fun x y e => opk_c (φ := gProd B N rec) hp.1 hl.1 hl.2 x y e, fun e => kf_c (φ := gProd B N rec) hp.2 hl.2 e⟩
theorem opk_id : opk (fun s => s) ∧ kf (fun s => s) := ⟨fun x y e => by have : (Sum.inr x : ST) = .inr y := e; injection this with this; rw [this], fun _ => rfl⟩
theorem opk_gS : ∀ n, opk (gS B N n) ∧ kf (gS B N n)
  | 0 => opk_Sum opk_id.1 opk_id.2
  | n + 1 => opk_Sum (opk_gS n).1 (opk_gS n).2
theorem dep_e {φ : ST → ST} (h : opk φ) (hk : kf φ) (hd : dep n s) : dep n (φ s) := by
  match s, hd with
  | .inl e, _ => rw [hk]; exact trivial
  | .inr x, hd =>
    cases e : φ (.inr x) with
    | inl z => exact trivial
    | inr y =>
      show 7 ≤ n + y.2.1
      rw [h x y e]; exact hd
theorem TRe {m : Nat} {as : List PV} {φ : ST → ST} (h : TR D m as c B N n φ) {e : Nat} (he : D ≤ e) (hE : PEn v M c B N) (hd : dep n s) (hP : PSt M c B N s) (hK : ∀ M', frQ c M M' → PSt M' c B N (φ s) → K PU (GF X, M', PTF v)) : pm_Call e m as (GF X, M, PTF v) K := by
  have := h (e - D) X v M K s hE hd hP hK
  rwa [Nat.sub_add_cancel he] at this
theorem t97 {w : Int} (hw : -1000000 ≤ w ∧ w ≤ 1000000) (ho : opk rec) (hk : kf rec) (hrec : ∀ m, n = m + 1 → TR (D + 3) 94 [vA 31] c B N m rec) : ∀ (d : Nat) (X : Nat × (Nat → Int)) (v : Nat → Int) (M : PH) (K : PV → PS → Prop) (x : KP × Nat × List Int), PEn v M c B N → dep n (.inr x) → PSt M c B N (.inr x) → (∀ M', frQ c M M' → PSt M' c B N (gTwo B N rec w (sA B N (.inr x))) → K PU (GF X, M', PTF v)) → pm_Call (d + (D + 4)) 97 [vA 31, vI w] (GF X, M, PTF v) K := by
  intro d X v M K x hE hd hP hK
  show pm_Call (d + D + 3 + 1) 97 _ _ _
  rw [en97, r97_0]
  refine c51p hE hP (fun M2 f2 p2 => ?_)
  have hE2 := PEn_f hE f2
  rw [push_u, r97_7]
  refine (c72 hE2 p2 (by omega)).mpr ?_
  rw [push_i, r97_13 (by have := if01 (x := isS B N 40 (sA B N (.inr x))); omega)]
  unfold gTwo at hK
  by_cases q : isS B N 40 (sA B N (.inr x)) = true
  · rw [if_pos q] at hK
    rw [if_pos q, if_pos (by omega), r97_23]
    refine c90 hE2 (x := (adv B N x.1, x.2)) p2 (fun h7 M3 f3 p3 => ?_) (fun h7 M3 f3 p3 => ?_)
    · have h7' : opn (sA B N (.inr x)) < 7 := h7
      rw [if_pos h7'] at hK
      have hE3 := PEn_f hE2 f3
      have hn : ∃ m, n = m + 1 := ⟨n - 1, by have : 7 ≤ n + x.2.1 := hd; have : x.2.1 < 7 := h7; omega⟩
      obtain ⟨m, hm⟩ := hn
      rw [push_i, r97_27 (by omega), if_neg (by omega), r97_30]
      have hd3 : dep m (sA B N (sO (fun o => o + 1) (sA B N (.inr x)))) := by
        show 7 ≤ m + (x.2.1 + 1)
        have : 7 ≤ n + x.2.1 := hd
        omega
      refine TRe (hrec m hm) (by omega) hE3 hd3 p3 (fun M4 f4 p4 => ?_)
      have hE4 := PEn_f hE3 f4
      rw [push_u, r97_34]
      refine c74 hE4 p4 (by omega) (fun M5 f5 p5 => ?_)
      have hE5 := PEn_f hE4 f5
      rw [push_u, r97_40]
      refine TRe (hrec m hm) (by omega) hE5 (dep_e (opk_c ho opk_S kf_S) (kf_c hk kf_S) hd3) p5 (fun M6 f6 p6 => ?_)
      have hE6 := PEn_f hE5 f6
      rw [push_u, r97_44]
      refine c74 hE6 p6 (by omega) (fun M7 f7 p7 => ?_)
      have hE7 := PEn_f hE6 f7
      have hdn := cdn hE7 p7
      have h1 : opk (fun s => sSg B N 41 (rec (sSg B N 44 (rec s)))) := opk_c (opk_c (opk_c ho opk_S kf_S) ho hk) opk_S kf_S
      have p8 := hdn.2 (fun y e => by have := h1 _ y e; rw [this]; exact Nat.succ_pos _)
      rw [push_u, r97_50, r97_60]
      refine c89 (PEn_f hE7 hdn.1) p8 (by omega) (fun M9 f9 p9 => ?_)
      rw [push_u, r97_65]
      exact hK M9 (frQ_t f2 (frQ_t f3 (frQ_t f4 (frQ_t f5 (frQ_t f6 (frQ_t f7 (frQ_t hdn.1 f9))))))) p9
    · have h7' : ¬ opn (sA B N (.inr x)) < 7 := h7
      rw [if_neg h7'] at hK
      rw [push_i, r97_27 (by omega), if_pos rfl, r97_65]
      exact hK M3 (frQ_t f2 f3) p3
  · rw [if_neg q] at hK
    rw [if_neg q, if_neg (by simp), r97_16]
    refine c70 hE2 p2 (fun M3 f3 p3 => ?_)
    rw [push_u, r97_20, r97_65]
    exact hK M3 (frQ_t f2 f3) p3
theorem kd_x {k : Int} (h : kd B N s = k) (hk : k ≠ 4) : ∃ x, s = .inr x := by
  match s, h with
  | .inl e, h => exact absurd h.symm hk
  | .inr x, _ => exact ⟨x, rfl⟩
theorem c98 (hE : PEn v M c B N) (hP : PSt M c B N s) : pm_Call (d + 1) 98 [vA 31] (GF X, M, PTF v) K ↔ K (vI (if isVal B N s = true then 1 else 0)) (GF X, M, PTF v) := by
  obtain ⟨e4, r4, e8, r8, r7⟩ := PSt_4 hE hP
  rw [en98, r98_0 (by rw [e4]; exact r4), e4, e8]
  by_cases q : kd B N s = 1
  · have no : ¬ (isVw (ow B N s).toNat = true ∧ 0 ≤ ow B N s) → (pm_Run d 98 52 [vA 31, vI (ow B N s)] [] (GF X, M, PTF v) K ↔ K (vI (if isVal B N s = true then 1 else 0)) (GF X, M, PTF v)) := fun h => by
      rw [r98_52, r98_53 (by simp), if_neg (show ¬ isVal B N s = true by simp [isVal, q]; intro z; exact Int.not_le.mp (fun w => h ⟨z, w⟩))]
    have yes : (isVw (ow B N s).toNat = true ∧ 0 ≤ ow B N s) → (pm_Run d 98 48 [vA 31, vI (ow B N s)] [] (GF X, M, PTF v) K ↔ K (vI (if isVal B N s = true then 1 else 0)) (GF X, M, PTF v)) := fun h => by
      rw [r98_48, r98_53 (by simp), if_pos (show isVal B N s = true by simp [isVal, q, h.1, h.2])]
    have vc : isVw (ow B N s).toNat = true ↔ ((ow B N s).toNat = 4 ∨ (ow B N s).toNat = 6 ∨ (ow B N s).toNat = 7 ∨ (15 ≤ (ow B N s).toNat ∧ (ow B N s).toNat ≤ 22)) := by simp [isVw, or_assoc]
    rw [if_neg (by simpa using q), r98_19 r8]
    have rest : pm_Run d 98 31 [vA 31, vI (ow B N s)] [] (GF X, M, PTF v) K ↔ (if isVw (ow B N s).toNat = true ∧ 0 ≤ ow B N s ∧ ¬ (15 ≤ ow B N s ∧ ow B N s ≤ 22) then pm_Run d 98 48 [vA 31, vI (ow B N s)] [] (GF X, M, PTF v) K else pm_Run d 98 52 [vA 31, vI (ow B N s)] [] (GF X, M, PTF v) K) := by
      rw [r98_31 r8]
      by_cases z7 : ow B N s = 7
      · rw [if_pos z7, if_pos ⟨vc.mpr (by omega), by omega, by omega⟩]
      rw [if_neg z7, r98_37 r8]
      by_cases z6 : ow B N s = 6
      · rw [if_pos z6, if_pos ⟨vc.mpr (by omega), by omega, by omega⟩]
      rw [if_neg z6, r98_43 r8]
      by_cases z4 : ow B N s = 4
      · rw [if_neg (by simpa using z4), if_pos ⟨vc.mpr (by omega), by omega, by omega⟩]
      · rw [if_pos z4, if_neg (fun h => by have := vc.mp h.1; omega)]
    by_cases q1 : ow B N s < 15
    · rw [if_pos q1, rest]
      by_cases z : isVw (ow B N s).toNat = true ∧ 0 ≤ ow B N s ∧ ¬ (15 ≤ ow B N s ∧ ow B N s ≤ 22)
      · rw [if_pos z]; exact yes ⟨z.1, z.2.1⟩
      · rw [if_neg z]; exact no (fun h => z ⟨h.1, h.2, by omega⟩)
    · rw [if_neg q1, r98_25 r8]
      by_cases q2 : ow B N s ≤ 22
      · rw [if_pos q2]; exact yes ⟨vc.mpr (by omega), by omega⟩
      · rw [if_neg q2, rest]
        by_cases z : isVw (ow B N s).toNat = true ∧ 0 ≤ ow B N s ∧ ¬ (15 ≤ ow B N s ∧ ow B N s ≤ 22)
        · rw [if_pos z]; exact yes ⟨z.1, z.2.1⟩
        · rw [if_neg z]; exact no (fun h => z ⟨h.1, h.2, by omega⟩)
  · rw [if_pos q, r98_52, r98_53 (by simp), if_neg (show ¬ isVal B N s = true by simp [isVal, q])]
theorem t96 (ho : opk rec) (hk : kf rec) (hrec : ∀ m, n = m + 1 → TR (D + 3) 94 [vA 31] c B N m rec) : TR (D + 5) 96 [vA 31] c B N n (gPart B N rec) := by
  intro d X v M K s hE hd hP hK
  show pm_Call (d + D + 4 + 1) 96 _ _ _
  obtain ⟨e4, r4, e8, r8, r7⟩ := PSt_4 hE hP
  rw [en96, r96_0 (by rw [e4]; exact r4), e4]
  unfold gPart at hK
  by_cases q1 : kd B N s = 2
  · obtain ⟨x, rfl⟩ := kd_x q1 (by decide)
    rw [if_pos q1] at hK
    have e7 : M 32 7 = vl B N (.inr x) := hP.2.2.1.2.2.2.2.2.1
    rw [if_neg (by simpa using q1), r96_11 hE.1 hE.2.1, e7]
    refine c43 hE hP (by rw [← e7]; exact r7) (fun M2 f2 p2 => ?_)
    rw [push_u, r96_28]
    refine c51p (PEn_f hE f2) p2 (fun M3 f3 p3 => ?_)
    rw [push_u, r96_35, r96_151]
    exact hK M3 (frQ_t f2 f3) p3
  rw [if_neg q1] at hK
  rw [if_pos q1, r96_38]
  refine (c72 hE hP (by omega)).mpr ?_
  rw [push_i, r96_44 (by have := if01 (x := isS B N 40 s); omega)]
  by_cases q2 : isS B N 40 s = true
  · obtain ⟨x, rfl⟩ := isS_x q2
    rw [if_pos q2] at hK
    rw [if_pos q2, if_neg (by omega), r96_47]
    refine c90 hE hP (fun h7 M3 f3 p3 => ?_) (fun h7 M3 f3 p3 => ?_)
    · rw [if_pos (show opn (.inr x) < 7 from h7)] at hK
      have hE3 := PEn_f hE f3
      obtain ⟨m, hm⟩ : ∃ m, n = m + 1 := ⟨n - 1, by have : 7 ≤ n + x.2.1 := hd; omega⟩
      have hd3 : dep m (sA B N (sO (fun o => o + 1) (.inr x))) := by
        show 7 ≤ m + (x.2.1 + 1)
        have : 7 ≤ n + x.2.1 := hd
        omega
      rw [push_i, r96_51 (by omega), if_neg (by omega), r96_54]
      refine TRe (hrec m hm) (by omega) hE3 hd3 p3 (fun M4 f4 p4 => ?_)
      have hE4 := PEn_f hE3 f4
      rw [push_u, r96_58]
      refine c74 hE4 p4 (by omega) (fun M5 f5 p5 => ?_)
      have hE5 := PEn_f hE4 f5
      have hdn := cdn hE5 p5
      have p8 := hdn.2 (fun y e => by have := opk_c ho opk_S kf_S _ y e; rw [this]; exact Nat.succ_pos _)
      rw [push_u, r96_64, r96_151]
      exact hK _ (frQ_t f3 (frQ_t f4 (frQ_t f5 hdn.1))) p8
    · rw [if_neg (show ¬ opn (.inr x) < 7 from h7)] at hK
      rw [push_i, r96_51 (by omega), if_pos rfl, r96_151]
      exact hK M3 f3 p3
  rw [if_neg q2] at hK
  rw [if_neg q2, if_pos rfl, r96_77]
  refine (c71 hE hP (by omega)).mpr ?_
  have two : (isW B N 27 s || isW B N 28 s) = true → pm_Run (d + D + 4) 96 95 [vA 31] [] (GF X, M, PTF v) K := by
    intro q
    have hx : ∃ x, s = .inr x := by
      rcases Bool.or_eq_true_iff.mp q with h | h
      · exact isW_x h
      · exact isW_x h
    obtain ⟨x, rfl⟩ := hx
    rw [if_pos q] at hK
    have hob : -1000000 ≤ ow B N (.inr x) ∧ ow B N (.inr x) ≤ 1000000 := by
      have := (tk_b hE.2.2.2.1 hE.2.2.2.2.2 (i := x.1.1) (w := x.1.2) hP.2.2.2.1).2.2.2.2.1
      exact ⟨by show -1000000 ≤ (tk B N x.1.1 x.1.2).2.2.2.2.1; omega, by show (tk B N x.1.1 x.1.2).2.2.2.2.1 ≤ 1000000; omega⟩
    rw [r96_95, e8]
    refine t97 hob ho hk hrec d X v M _ x hE hd hP (fun M2 f2 p2 => ?_)
    rw [push_u, r96_106, r96_151]
    exact hK M2 f2 p2
  rw [push_i, r96_83 (by have := if01 (x := isW B N 27 s); omega)]
  by_cases q3 : isW B N 27 s = true
  · rw [if_pos q3, if_pos (by omega)]
    exact two (by rw [q3]; rfl)
  rw [if_neg q3, if_neg (by simp), r96_86]
  refine (c71 hE hP (by omega)).mpr ?_
  rw [push_i, r96_92 (by have := if01 (x := isW B N 28 s); omega)]
  by_cases q4 : isW B N 28 s = true
  · rw [if_pos q4, if_neg (by omega)]
    exact two (by rw [q4, Bool.or_true])
  rw [if_neg (show ¬ (isW B N 27 s || isW B N 28 s) = true by simp [q3, q4])] at hK
  rw [if_neg q4, if_pos rfl, r96_109]
  refine (c98 hE hP).mpr ?_
  rw [push_i, r96_113 (by have := if01 (x := isVal B N s); omega)]
  by_cases q5 : isVal B N s = true
  · rw [if_pos q5] at hK
    have hkd : kd B N s = 1 := by
      unfold isVal at q5
      simp at q5
      exact q5.1.1
    obtain ⟨x, rfl⟩ := kd_x hkd (by decide)
    have hob := (tk_b hE.2.2.2.1 hE.2.2.2.2.2 (i := x.1.1) (w := x.1.2) hP.2.2.2.1).2.2.2.2.1
    rw [if_pos q5, if_neg (by omega), r96_116 hE.1 hE.2.1, e8]
    refine c43 hE hP ⟨by show -2147483648 ≤ 10000 + (tk B N x.1.1 x.1.2).2.2.2.2.1; omega, by show 10000 + (tk B N x.1.1 x.1.2).2.2.2.2.1 < 2147483648; omega⟩ (fun M2 f2 p2 => ?_)
    rw [push_u, r96_137]
    refine c51p (PEn_f hE f2) p2 (fun M3 f3 p3 => ?_)
    rw [push_u, r96_144, r96_151]
    exact hK M3 (frQ_t f2 f3) p3
  · rw [if_neg q5] at hK
    rw [if_neg q5, if_pos rfl, r96_147]
    refine c70 hE hP (fun M2 f2 p2 => ?_)
    rw [push_u, r96_151]
    exact hK M2 f2 p2
end CGR
