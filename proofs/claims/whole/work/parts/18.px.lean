/-! Rows that run the plain machine: an equivalence an instruction. -/
def pm_tg (lo : Int) (tl : List Nat) (df : Nat) (z : Int) : Nat := if z < lo ∨ lo + tl.length ≤ z then df else tl.getD (z - lo).toNat df
theorem pm_wl_n : pm_wl [] = 0 := rfl
theorem pm_wl_c (v : PV) (l : List PV) : pm_wl (v :: l) = pm_w v + pm_wl l := by simp [pm_wl]
section PXS
variable {d m pc : Nat} {ls st : List PV} {G : PG} {M T : PH} {S : PS} {K : PV → PS → Prop}
theorem px_goto {off : Int} {tgt : Nat} (h : pm_fe m pc = some (.goto off, 3) ∧ (pc : Int) + off = (tgt : Int)) : pm_Run d m pc ls st S K ↔ pm_Run d m tgt ls st S K := by
  refine px_go h.1 ?_
  simp only [pm_step, pm_jmp, h.2, Int.natCast_nonneg, if_true, Int.toNat_natCast]
theorem px_ifo {o : Jvm.ClassFile.Cond} {off x : Int} {tgt : Nat} (h : pm_fe m pc = some (.ifCond o off, 3) ∧ (pc : Int) + off = (tgt : Int)) : pm_Run d m pc ls (.inl x :: st) S K ↔ if pm_c o (pm_sg x) 0 = true then pm_Run d m tgt ls st S K else pm_Run d m (pc + 3) ls st S K := by
  refine px_if h.1 ?_
  simp only [pm_step, h.2, Int.natCast_nonneg, if_true, Int.toNat_natCast]
theorem px_ico {o : Jvm.ClassFile.Cond} {off x y : Int} {tgt : Nat} (h : pm_fe m pc = some (.if_icmp o off, 3) ∧ (pc : Int) + off = (tgt : Int)) : pm_Run d m pc ls (.inl y :: .inl x :: st) S K ↔ if pm_c o (pm_sg x) (pm_sg y) = true then pm_Run d m tgt ls st S K else pm_Run d m (pc + 3) ls st S K := by
  refine px_if h.1 ?_
  simp only [pm_step, h.2, Int.natCast_nonneg, if_true, Int.toNat_natCast]
theorem pc_eq (x y : Int) : (pm_c .eq x y = true) = (x = y) := by simp [pm_c]
theorem pc_ne (x y : Int) : (pm_c .ne x y = true) = (x ≠ y) := by simp [pm_c]
theorem pc_lt (x y : Int) : (pm_c .lt x y = true) = (x < y) := by simp [pm_c]
theorem pc_ge (x y : Int) : (pm_c .ge x y = true) = (y ≤ x) := by simp [pm_c]
theorem pc_gt (x y : Int) : (pm_c .gt x y = true) = (y < x) := by simp [pm_c]
theorem pc_le (x y : Int) : (pm_c .le x y = true) = (x ≤ y) := by simp [pm_c]
theorem px_tsw {df lo hi x : Int} {offs : Array Int} {len dt : Nat} {tl : List Nat} (h : pm_fe m pc = some (.tableswitch df lo hi offs, len) ∧ (pc : Int) + df = (dt : Int) ∧ hi + 1 = lo + (tl.length : Int) ∧ offs.toList.map (fun z => (pc : Int) + z) = tl.map (fun (z : Nat) => (z : Int))) : pm_Run d m pc ls (.inl x :: st) S K ↔ pm_Run d m (pm_tg lo tl dt (pm_sg x)) ls st S K := by
  obtain ⟨h1, h2, h3, h4⟩ := h
  refine px_go h1 ?_
  simp only [pm_step, pm_tsw]
  by_cases hc : pm_sg x < lo ∨ hi < pm_sg x
  · rw [if_pos hc]
    have hc2 : pm_sg x < lo ∨ lo + (tl.length : Int) ≤ pm_sg x := by omega
    simp only [pm_jmp, h2, Int.natCast_nonneg, if_true, Int.toNat_natCast, pm_tg, if_pos hc2]
  · rw [if_neg hc]
    have hc2 : ¬ (pm_sg x < lo ∨ lo + (tl.length : Int) ≤ pm_sg x) := by omega
    have hl : (pm_sg x - lo).toNat < tl.length := by omega
    have e1 := congrArg (fun l : List Int => l[(pm_sg x - lo).toNat]?) h4
    simp only [List.getElem?_map, List.getElem?_eq_getElem hl, Option.map_some] at e1
    rw [← Array.getElem?_toList]
    cases ho : offs.toList[(pm_sg x - lo).toNat]? with
    | none => rw [ho] at e1; simp at e1
    | some off =>
      rw [ho] at e1
      simp only [Option.map_some, Option.some.injEq] at e1
      simp only [pm_jmp, e1, Int.natCast_nonneg, if_true, Int.toNat_natCast, pm_tg, if_neg hc2]
      rw [List.getD_eq_getElem?_getD, List.getElem?_eq_getElem hl]
      rfl
theorem px_get0 {idx ci k : Nat} {a : Int} (h : pm_fe m pc = some (.getfield idx, 3) ∧ pm_fr (pm_cl m) idx = some (ci, k) ∧ k < pm_nf ci ∧ pm_tag (pm_ft ci k) ≠ 1 ∧ pm_tag (pm_ft ci k) ≠ 2) : pm_Run d m pc ls (.inr (.inr (.inl a)) :: st) (G, M, T) K ↔ pm_ob G a ci ∧ pm_Run d m (pc + 3) ls (.inl (M a.toNat k) :: st) (G, M, T) K := by
  obtain ⟨h1, h2, h3, h4, h5⟩ := h
  refine px_gd h1 ?_
  simp only [pm_step, pm_getf, h2, h3, pm_gv, if_neg h4, if_neg h5, and_true]
theorem px_get1 {idx ci k : Nat} {a : Int} (h : pm_fe m pc = some (.getfield idx, 3) ∧ pm_fr (pm_cl m) idx = some (ci, k) ∧ k < pm_nf ci ∧ pm_tag (pm_ft ci k) = 1) : pm_Run d m pc ls (.inr (.inr (.inl a)) :: st) (G, M, T) K ↔ pm_ob G a ci ∧ pm_Run d m (pc + 3) ls (.inr (.inl (M a.toNat k)) :: st) (G, M, T) K := by
  obtain ⟨h1, h2, h3, h4⟩ := h
  refine px_gd h1 ?_
  simp only [pm_step, pm_getf, h2, h3, pm_gv, if_pos h4, and_true]
theorem px_get2 {idx ci k : Nat} {a : Int} (h : pm_fe m pc = some (.getfield idx, 3) ∧ pm_fr (pm_cl m) idx = some (ci, k) ∧ k < pm_nf ci ∧ pm_tag (pm_ft ci k) = 2) : pm_Run d m pc ls (.inr (.inr (.inl a)) :: st) (G, M, T) K ↔ pm_ob G a ci ∧ pm_Run d m (pc + 3) ls (.inr (.inr (.inl (T a.toNat k))) :: st) (G, M, T) K := by
  obtain ⟨h1, h2, h3, h4⟩ := h
  refine px_gd h1 ?_
  have h5 : pm_tag (pm_ft ci k) ≠ 1 := by rw [h4]; decide
  simp only [pm_step, pm_getf, h2, h3, pm_gv, if_neg h5, if_pos h4, and_true]
theorem px_put0 {idx ci k : Nat} {a x : Int} (h : pm_fe m pc = some (.putfield idx, 3) ∧ pm_fr (pm_cl m) idx = some (ci, k) ∧ k < pm_nf ci ∧ pm_may m ci k ∧ pm_tag (pm_ft ci k) = 0) : pm_Run d m pc ls (.inl x :: .inr (.inr (.inl a)) :: st) (G, M, T) K ↔ pm_ob G a ci ∧ pm_Run d m (pc + 3) ls st (G, pm_sa M a.toNat (pm_up (M a.toNat) k x), T) K := by
  obtain ⟨h1, h2, h3, h4, h5⟩ := h
  refine px_gd h1 ?_
  simp only [pm_step, pm_putf, h2, h3, h4, h5, true_or, and_true]
theorem px_put3 {idx ci k : Nat} {a x : Int} (h : pm_fe m pc = some (.putfield idx, 3) ∧ pm_fr (pm_cl m) idx = some (ci, k) ∧ k < pm_nf ci ∧ pm_may m ci k ∧ pm_tag (pm_ft ci k) = 3) : pm_Run d m pc ls (.inl x :: .inr (.inr (.inl a)) :: st) (G, M, T) K ↔ (pm_ob G a ci ∧ (x = 0 ∨ x = 1)) ∧ pm_Run d m (pc + 3) ls st (G, pm_sa M a.toNat (pm_up (M a.toNat) k x), T) K := by
  obtain ⟨h1, h2, h3, h4, h5⟩ := h
  refine px_gd h1 ?_
  have h6 : ¬ ((3 : Nat) = 0) := by decide
  simp only [pm_step, pm_putf, h2, h3, h4, h5, h6, false_or, true_and]
theorem px_put1 {idx ci k : Nat} {a x : Int} (h : pm_fe m pc = some (.putfield idx, 3) ∧ pm_fr (pm_cl m) idx = some (ci, k) ∧ k < pm_nf ci ∧ pm_may m ci k ∧ pm_tag (pm_ft ci k) = 1) : pm_Run d m pc ls (.inr (.inl x) :: .inr (.inr (.inl a)) :: st) (G, M, T) K ↔ pm_ob G a ci ∧ pm_Run d m (pc + 3) ls st (G, pm_sa M a.toNat (pm_up (M a.toNat) k x), T) K := by
  obtain ⟨h1, h2, h3, h4, h5⟩ := h
  refine px_gd h1 ?_
  simp only [pm_step, pm_putf, h2, h3, h4, h5, and_true]
theorem px_put2 {idx ci k : Nat} {a x : Int} (h : pm_fe m pc = some (.putfield idx, 3) ∧ pm_fr (pm_cl m) idx = some (ci, k) ∧ k < pm_nf ci ∧ pm_may m ci k ∧ pm_tag (pm_ft ci k) = 2) : pm_Run d m pc ls (.inr (.inr (.inl x)) :: .inr (.inr (.inl a)) :: st) (G, M, T) K ↔ (pm_ob G a ci ∧ 0 ≤ x) ∧ pm_Run d m (pc + 3) ls st (G, M, pm_sa T a.toNat (pm_up (T a.toNat) k x)) K := by
  obtain ⟨h1, h2, h3, h4, h5⟩ := h
  refine px_gd h1 ?_
  simp only [pm_step, pm_putf, h2, h3, h4, h5, true_and]
theorem px_ldcI {idx n : Nat} {x : Int} (h : (pm_fe m pc = some (.ldc idx, n) ∧ n = 2 ∨ pm_fe m pc = some (.ldc_w idx, n) ∧ n = 3) ∧ pm_ic (pm_cl m) idx = some x) : pm_Run d m pc ls st S K ↔ pm_Run d m (pc + n) ls (.inl x :: st) S K := by
  obtain ⟨h1 | h1, h2⟩ := h
  · obtain ⟨h1, rfl⟩ := h1
    exact px_go h1 (by simp only [pm_step, pm_ldc, h2])
  · obtain ⟨h1, rfl⟩ := h1
    exact px_go h1 (by simp only [pm_step, pm_ldc, h2])
theorem px_ldcS {idx : Nat} {x : Int} (h : pm_fe m pc = some (.ldc idx, 2) ∧ pm_ic (pm_cl m) idx = none ∧ pm_sc (pm_cl m) idx = some x) : pm_Run d m pc ls st S K ↔ pm_Run d m (pc + 2) ls (.inr (.inr (.inl x)) :: st) S K := px_go h.1 (by simp only [pm_step, pm_ldc, h.2.1, h.2.2, if_true])
theorem px_ldcL {idx : Nat} {x : Int} (h : pm_fe m pc = some (.ldc2_w idx, 3) ∧ pm_lc (pm_cl m) idx = some x) : pm_Run d m pc ls st S K ↔ pm_Run d m (pc + 3) ls (.inr (.inl x) :: st) S K := px_go h.1 (by simp only [pm_step, pm_ldc2, h.2])
theorem px_gz {p : Prop} [Decidable p] {i : Instr} {n pc' : Nat} {ls' st' : List PV} {S' : PS} (hf : pm_fe m pc = some (i, n)) (hp : pm_step m i n pc ls st S = if p then none else pm_go pc' ls' st' S') : pm_Run d m pc ls st S K ↔ ¬ p ∧ pm_Run d m pc' ls' st' S' K := px_gd hf (by rw [hp]; by_cases h : p <;> simp [h])
theorem px_idiv {x y : Int} (h : pm_fe m pc = some (.idiv, 1)) : pm_Run d m pc ls (.inl y :: .inl x :: st) S K ↔ pm_sg y ≠ 0 ∧ pm_Run d m (pc + 1) ls (.inl (pm_div x y) :: st) S K := px_gz h rfl
theorem px_irem {x y : Int} (h : pm_fe m pc = some (.irem, 1)) : pm_Run d m pc ls (.inl y :: .inl x :: st) S K ↔ pm_sg y ≠ 0 ∧ pm_Run d m (pc + 1) ls (.inl (pm_rem x y) :: st) S K := px_gz h rfl
theorem px_ldiv {x y : Int} (h : pm_fe m pc = some (.ldiv, 1)) : pm_Run d m pc ls (.inr (.inl y) :: .inr (.inl x) :: st) S K ↔ pm_sl y ≠ 0 ∧ pm_Run d m (pc + 1) ls (.inr (.inl (pm_ldiv x y)) :: st) S K := px_gz h rfl
theorem px_lrem {x y : Int} (h : pm_fe m pc = some (.lrem, 1)) : pm_Run d m pc ls (.inr (.inl y) :: .inr (.inl x) :: st) S K ↔ pm_sl y ≠ 0 ∧ pm_Run d m (pc + 1) ls (.inr (.inl (pm_lrem x y)) :: st) S K := px_gz h rfl
theorem px_iaload {j a : Int} (h : pm_fe m pc = some (.iaload, 1)) (ha : pm_ar G a 100 j) : pm_Run d m pc ls (.inl j :: .inr (.inr (.inl a)) :: st) (G, M, T) K ↔ pm_Run d m (pc + 1) ls (.inl (M a.toNat (pm_sg j).toNat) :: st) (G, M, T) K := by
  refine px_go h ?_
  simp only [pm_step, pm_iald]
  rw [if_pos ha]
theorem px_siald {j : Int} (h : pm_fe m pc = some (.iaload, 1)) (h1 : 0 ≤ pm_sg j) (h2 : pm_sg j < G.2.2.2.1) : pm_Run d m pc ls (.inl j :: .inr (.inr (.inl (-2))) :: st) (G, M, T) K ↔ pm_Run d m (pc + 1) ls (.inl (G.2.2.2.2 (pm_sg j).toNat) :: st) (G, M, T) K := by
  refine px_go h ?_
  simp only [pm_step, pm_iald]
  rw [if_neg (fun z => absurd z.1.1 (by decide)), if_pos ⟨trivial, h1, h2⟩]
theorem px_baload {j a : Int} (h : pm_fe m pc = some (.baload, 1)) : pm_Run d m pc ls (.inl j :: .inr (.inr (.inl a)) :: st) (G, M, T) K ↔ (pm_ar G a 101 j ∨ pm_ar G a 102 j) ∧ pm_Run d m (pc + 1) ls (.inl (M a.toNat (pm_sg j).toNat) :: st) (G, M, T) K := px_gd h rfl
theorem px_laload {j a : Int} (h : pm_fe m pc = some (.laload, 1)) : pm_Run d m pc ls (.inl j :: .inr (.inr (.inl a)) :: st) (G, M, T) K ↔ pm_ar G a 103 j ∧ pm_Run d m (pc + 1) ls (.inr (.inl (M a.toNat (pm_sg j).toNat)) :: st) (G, M, T) K := px_gd h rfl
theorem px_aaload {j a : Int} (h : pm_fe m pc = some (.aaload, 1)) : pm_Run d m pc ls (.inl j :: .inr (.inr (.inl a)) :: st) (G, M, T) K ↔ (pm_ar G a 104 j ∧ 0 ≤ T a.toNat (pm_sg j).toNat) ∧ pm_Run d m (pc + 1) ls (.inr (.inr (.inl (T a.toNat (pm_sg j).toNat))) :: st) (G, M, T) K := px_gd h rfl
theorem px_iastore {x j a : Int} (h : pm_fe m pc = some (.iastore, 1)) : pm_Run d m pc ls (.inl x :: .inl j :: .inr (.inr (.inl a)) :: st) (G, M, T) K ↔ pm_ar G a 100 j ∧ pm_Run d m (pc + 1) ls st (G, pm_sa M a.toNat (pm_up (M a.toNat) (pm_sg j).toNat x), T) K := px_gd h rfl
theorem px_lastore {x j a : Int} (h : pm_fe m pc = some (.lastore, 1)) : pm_Run d m pc ls (.inr (.inl x) :: .inl j :: .inr (.inr (.inl a)) :: st) (G, M, T) K ↔ pm_ar G a 103 j ∧ pm_Run d m (pc + 1) ls st (G, pm_sa M a.toNat (pm_up (M a.toNat) (pm_sg j).toNat x), T) K := px_gd h rfl
theorem px_aastore {x j a : Int} (h : pm_fe m pc = some (.aastore, 1)) : pm_Run d m pc ls (.inr (.inr (.inl x)) :: .inl j :: .inr (.inr (.inl a)) :: st) (G, M, T) K ↔ (pm_ar G a 104 j ∧ pm_ob G x 5) ∧ pm_Run d m (pc + 1) ls st (G, M, pm_sa T a.toNat (pm_up (T a.toNat) (pm_sg j).toNat x)) K := px_gd h rfl
theorem px_bastore {x j a : Int} (h : pm_fe m pc = some (.bastore, 1)) (ha : pm_ar G a 101 j) : pm_Run d m pc ls (.inl x :: .inl j :: .inr (.inr (.inl a)) :: st) (G, M, T) K ↔ pm_Run d m (pc + 1) ls st (G, pm_sa M a.toNat (pm_up (M a.toNat) (pm_sg j).toNat (pm_b8 x)), T) K := by
  refine px_go h ?_
  simp only [pm_step, pm_bast]
  rw [if_pos ha]
theorem px_zastore {x j a : Int} (h : pm_fe m pc = some (.bastore, 1)) (ha : pm_ar G a 102 j) (hx : x = 0 ∨ x = 1) : pm_Run d m pc ls (.inl x :: .inl j :: .inr (.inr (.inl a)) :: st) (G, M, T) K ↔ pm_Run d m (pc + 1) ls st (G, pm_sa M a.toNat (pm_up (M a.toNat) (pm_sg j).toNat x), T) K := by
  refine px_go h ?_
  simp only [pm_step, pm_bast]
  rw [if_neg (fun z => absurd (z.1.2.2.symm.trans ha.1.2.2) (by decide)), if_pos ⟨ha, hx⟩]
theorem px_alen {a : Int} (h : pm_fe m pc = some (.arraylength, 1)) (ha : 0 ≤ a ∧ a.toNat < G.1 ∧ 100 ≤ (G.2.2.1 a.toNat).1 ∧ (G.2.2.1 a.toNat).1 ≤ 104) : pm_Run d m pc ls (.inr (.inr (.inl a)) :: st) (G, M, T) K ↔ pm_Run d m (pc + 1) ls (.inl (G.2.2.1 a.toNat).2 :: st) (G, M, T) K := by
  refine px_go h ?_
  simp only [pm_step, pm_alen]
  rw [if_pos ha]
theorem px_slen (h : pm_fe m pc = some (.arraylength, 1)) : pm_Run d m pc ls (.inr (.inr (.inl (-2))) :: st) (G, M, T) K ↔ pm_Run d m (pc + 1) ls (.inl G.2.2.2.1 :: st) (G, M, T) K := by
  refine px_go h ?_
  simp only [pm_step, pm_alen]
  rw [if_neg (fun z => absurd z.1 (by decide)), if_pos trivial]
theorem px_newo {idx ci n : Nat} (h : pm_fe m pc = some (.new idx, 3) ∧ pm_nr (pm_cl m) idx = some ci ∧ ci < 13 ∧ pm_nf ci = n) : pm_Run d m pc ls st S K ↔ pm_Run d m (pc + 3) ls (.inr (.inr (.inl S.1.1)) :: st) (pm_al S ci n) K := by
  obtain ⟨h1, h2, h3, rfl⟩ := h
  exact px_go h1 (by simp only [pm_step, pm_newo, h2, h3, if_true])
theorem px_newa100 {n : Int} (h : pm_fe m pc = some (.newarray .int, 2)) : pm_Run d m pc ls (.inl n :: st) S K ↔ (0 ≤ pm_sg n ∧ pm_sg n ≤ 100000) ∧ pm_Run d m (pc + 2) ls (.inr (.inr (.inl S.1.1)) :: st) (pm_al S 100 (pm_sg n).toNat) K := px_gd h rfl
theorem px_newa101 {n : Int} (h : pm_fe m pc = some (.newarray .byte, 2)) : pm_Run d m pc ls (.inl n :: st) S K ↔ (0 ≤ pm_sg n ∧ pm_sg n ≤ 100000) ∧ pm_Run d m (pc + 2) ls (.inr (.inr (.inl S.1.1)) :: st) (pm_al S 101 (pm_sg n).toNat) K := px_gd h rfl
theorem px_newa102 {n : Int} (h : pm_fe m pc = some (.newarray .boolean, 2)) : pm_Run d m pc ls (.inl n :: st) S K ↔ (0 ≤ pm_sg n ∧ pm_sg n ≤ 100000) ∧ pm_Run d m (pc + 2) ls (.inr (.inr (.inl S.1.1)) :: st) (pm_al S 102 (pm_sg n).toNat) K := px_gd h rfl
theorem px_newa103 {n : Int} (h : pm_fe m pc = some (.newarray .long, 2)) : pm_Run d m pc ls (.inl n :: st) S K ↔ (0 ≤ pm_sg n ∧ pm_sg n ≤ 100000) ∧ pm_Run d m (pc + 2) ls (.inr (.inr (.inl S.1.1)) :: st) (pm_al S 103 (pm_sg n).toNat) K := px_gd h rfl
theorem px_newr {idx : Nat} {n : Int} (h : pm_fe m pc = some (.anewarray idx, 3) ∧ pm_nr (pm_cl m) idx = some 5) : pm_Run d m pc ls (.inl n :: st) S K ↔ (0 ≤ pm_sg n ∧ pm_sg n ≤ 100000) ∧ pm_Run d m (pc + 3) ls (.inr (.inr (.inl S.1.1)) :: st) (pm_al S 104 (pm_sg n).toNat) K := px_gd h.1 (by simp only [pm_step, pm_newr, h.2, true_and])
theorem px_oi {idx : Nat} {a : Int} (h : pm_fe m pc = some (.invokespecial idx, 3) ∧ pm_mr (pm_cl m) idx = some (900, 0)) : pm_Run d m pc ls (.inr (.inr (.inl a)) :: st) S K ↔ (0 ≤ a ∧ pm_wl st ≤ 8) ∧ pm_Run d m (pc + 3) ls st S K := px_gd h.1 (by simp only [pm_step, pm_invi, h.2, if_true, List.drop_zero])
theorem px_acpy {idx : Nat} {n sp dp a b : Int} (h : pm_fe m pc = some (.invokestatic idx, 3) ∧ pm_mr (pm_cl m) idx = some (901, 0)) : pm_Run d m pc ls (.inl n :: .inl dp :: .inr (.inr (.inl b)) :: .inl sp :: .inr (.inr (.inl a)) :: st) (G, M, T) K ↔ (pm_ob G a 100 ∧ pm_ob G b 100 ∧ 0 ≤ pm_sg sp ∧ 0 ≤ pm_sg dp ∧ 0 ≤ pm_sg n ∧ pm_sg sp + pm_sg n ≤ (G.2.2.1 a.toNat).2 ∧ pm_sg dp + pm_sg n ≤ (G.2.2.1 b.toNat).2 ∧ a ≠ b ∧ pm_wl st ≤ 8) ∧ pm_Run d m (pc + 3) ls st (G, pm_sa M b.toNat (pm_cp (M a.toNat) (M b.toNat) (pm_sg sp).toNat (pm_sg dp).toNat (pm_sg n).toNat), T) K := px_gd h.1 (by simp only [pm_step, pm_invs, h.2, if_true]; rfl)
theorem px_m905 {idx : Nat} {x y : Int} (h : pm_fe m pc = some (.invokestatic idx, 3) ∧ pm_mr (pm_cl m) idx = some (905, 0)) : pm_Run d m pc ls (.inl y :: .inl x :: st) S K ↔ pm_wl st ≤ 8 ∧ pm_Run d m (pc + 3) ls (.inl (pm_mx x y) :: st) S K := px_gd h.1 (by simp only [pm_step, pm_invs, h.2]; rfl)
theorem px_m906 {idx : Nat} {x y : Int} (h : pm_fe m pc = some (.invokestatic idx, 3) ∧ pm_mr (pm_cl m) idx = some (906, 0)) : pm_Run d m pc ls (.inl y :: .inl x :: st) S K ↔ pm_wl st ≤ 8 ∧ pm_Run d m (pc + 3) ls (.inl (pm_mn x y) :: st) S K := px_gd h.1 (by simp only [pm_step, pm_invs, h.2]; rfl)
theorem px_m907 {idx : Nat} {x y : Int} (h : pm_fe m pc = some (.invokestatic idx, 3) ∧ pm_mr (pm_cl m) idx = some (907, 0)) : pm_Run d m pc ls (.inl y :: .inl x :: st) S K ↔ (pm_wl st ≤ 8 ∧ pm_sg y ≠ 0) ∧ pm_Run d m (pc + 3) ls (.inl (pm_fd x y) :: st) S K := px_gd h.1 (by simp only [pm_step, pm_invs, h.2]; rfl)
theorem px_m908 {idx : Nat} {x y : Int} (h : pm_fe m pc = some (.invokestatic idx, 3) ∧ pm_mr (pm_cl m) idx = some (908, 0)) : pm_Run d m pc ls (.inl y :: .inl x :: st) S K ↔ (pm_wl st ≤ 8 ∧ pm_sg y ≠ 0) ∧ pm_Run d m (pc + 3) ls (.inl (pm_fm x y) :: st) S K := px_gd h.1 (by simp only [pm_step, pm_invs, h.2]; rfl)
theorem px_ri {x : Int} (h : pm_fe m pc = some (.ireturn, 1) ∧ pm_rt m = some .int) : pm_Run d m pc ls [.inl x] S K ↔ K (.inl x) S := px_rt h.1 (by simp only [pm_step, h.2, true_or, if_true])
theorem px_rz {x : Int} (h : pm_fe m pc = some (.ireturn, 1) ∧ pm_rt m = some .boolean) : pm_Run d m pc ls [.inl x] S K ↔ (x = 0 ∨ x = 1) ∧ K (.inl x) S := px_rg h.1 (by simp only [pm_step, h.2]; congr 1; simp)
theorem px_rl {x : Int} (h : pm_fe m pc = some (.lreturn, 1) ∧ pm_rt m = some .long) : pm_Run d m pc ls [.inr (.inl x)] S K ↔ K (.inr (.inl x)) S := px_rt h.1 (by simp only [pm_step, h.2, if_true])
theorem px_ra {x : Int} (h : pm_fe m pc = some (.areturn, 1) ∧ pm_rt m = some (.object RX1)) : pm_Run d m pc ls [.inr (.inr (.inl x))] S K ↔ 0 ≤ x ∧ K (.inr (.inr (.inl x))) S := px_rg h.1 (by simp only [pm_step, h.2, true_and])
theorem px_rv (h : pm_fe m pc = some (.return_, 1) ∧ pm_rt m = none) : pm_Run d m pc ls [] S K ↔ K PU S := px_rt h.1 (by simp only [pm_step, h.2, if_true])
theorem px_v0 {idx m' ci : Nat} {a : Int} (h : pm_fe m pc = some (.invokevirtual idx, 3) ∧ pm_mr (pm_cl m) idx = some (m', 0) ∧ m' < 900 ∧ pm_np m' = 0 ∧ pm_kd m' = 0 ∧ pm_cl m' = ci) : pm_Run d m pc ls (.inr (.inr (.inl a)) :: st) (G, M, T) K ↔ (pm_ob G a ci ∧ pm_wl st ≤ 8) ∧ pm_Call d m' [.inr (.inr (.inl a))] (G, M, T) (fun r S1 => pm_Run d m (pc + 3) ls (pm_push r st) S1 K) := by
  obtain ⟨h1, h2, h3, h4, h5, rfl⟩ := h
  refine px_cg h1 ?_
  simp only [pm_step, pm_invv, h2, h3, if_true, h4, h5, List.drop_succ_cons, List.drop_zero, List.take_succ_cons, List.take_zero, List.reverse_cons, List.reverse_nil, List.nil_append, List.cons_append, List.length_cons, true_and]
  congr 1
  simp
theorem px_s0 {idx m' nest : Nat} (h : pm_fe m pc = some (.invokestatic idx, 3) ∧ pm_mr (pm_cl m) idx = some (m', nest) ∧ m' < 900 ∧ pm_np m' = 0 ∧ pm_kd m' = 1) : pm_Run d m pc ls (st) S K ↔ pm_wl st ≤ 8 ∧ pm_Call d m' [] S (fun r S1 => pm_Run d m (pc + 3) ls (pm_push r st) S1 K) := by
  obtain ⟨h1, h2, h3, h4, h5⟩ := h
  refine px_cg h1 ?_
  have e1 : m' ≠ 901 ∧ m' ≠ 905 ∧ m' ≠ 906 ∧ m' ≠ 907 ∧ m' ≠ 908 := by omega
  simp only [pm_step, pm_invs, h2, h3, if_neg e1.1, if_neg e1.2.1, if_neg e1.2.2.1, if_neg e1.2.2.2.1, if_neg e1.2.2.2.2, h4, h5, List.drop_succ_cons, List.drop_zero, List.take_succ_cons, List.take_zero, List.reverse_cons, List.reverse_nil, List.nil_append, List.cons_append, List.length_cons, true_and]
  congr 1
  simp
theorem px_i0 {idx m' nest : Nat} {a : Int} (h : pm_fe m pc = some (.invokespecial idx, 3) ∧ pm_mr (pm_cl m) idx = some (m', nest) ∧ m' < 900 ∧ pm_np m' = 0 ∧ pm_kd m' = 2) : pm_Run d m pc ls (.inr (.inr (.inl a)) :: st) S K ↔ (0 ≤ a ∧ pm_wl st ≤ 8) ∧ pm_Call d m' [.inr (.inr (.inl a))] S (fun r S1 => pm_Run d m (pc + 3) ls (pm_push r st) S1 K) := by
  obtain ⟨h1, h2, h3, h4, h5⟩ := h
  refine px_cg h1 ?_
  have e1 : m' ≠ 900 := by omega
  simp only [pm_step, pm_invi, h2, h3, if_neg e1, h4, h5, List.drop_succ_cons, List.drop_zero, List.take_succ_cons, List.take_zero, List.reverse_cons, List.reverse_nil, List.nil_append, List.cons_append, List.length_cons, true_and]
  by_cases hc : 0 ≤ a ∧ pm_wl st ≤ 8
  · rw [if_pos hc, if_pos hc, if_pos (by omega)]
  · rw [if_neg hc, if_neg hc]
theorem px_v1 {idx m' ci : Nat} {a : Int} {v0 : PV} (h : pm_fe m pc = some (.invokevirtual idx, 3) ∧ pm_mr (pm_cl m) idx = some (m', 0) ∧ m' < 900 ∧ pm_np m' = 1 ∧ pm_kd m' = 0 ∧ pm_cl m' = ci) : pm_Run d m pc ls (v0 :: .inr (.inr (.inl a)) :: st) (G, M, T) K ↔ (pm_ob G a ci ∧ pm_wl st ≤ 8) ∧ pm_Call d m' [.inr (.inr (.inl a)), v0] (G, M, T) (fun r S1 => pm_Run d m (pc + 3) ls (pm_push r st) S1 K) := by
  obtain ⟨h1, h2, h3, h4, h5, rfl⟩ := h
  refine px_cg h1 ?_
  simp only [pm_step, pm_invv, h2, h3, if_true, h4, h5, List.drop_succ_cons, List.drop_zero, List.take_succ_cons, List.take_zero, List.reverse_cons, List.reverse_nil, List.nil_append, List.cons_append, List.length_cons, true_and]
  congr 1
  simp
theorem px_s1 {idx m' nest : Nat} {v0 : PV} (h : pm_fe m pc = some (.invokestatic idx, 3) ∧ pm_mr (pm_cl m) idx = some (m', nest) ∧ m' < 900 ∧ pm_np m' = 1 ∧ pm_kd m' = 1) : pm_Run d m pc ls (v0 :: st) S K ↔ pm_wl st ≤ 8 ∧ pm_Call d m' [v0] S (fun r S1 => pm_Run d m (pc + 3) ls (pm_push r st) S1 K) := by
  obtain ⟨h1, h2, h3, h4, h5⟩ := h
  refine px_cg h1 ?_
  have e1 : m' ≠ 901 ∧ m' ≠ 905 ∧ m' ≠ 906 ∧ m' ≠ 907 ∧ m' ≠ 908 := by omega
  simp only [pm_step, pm_invs, h2, h3, if_neg e1.1, if_neg e1.2.1, if_neg e1.2.2.1, if_neg e1.2.2.2.1, if_neg e1.2.2.2.2, h4, h5, List.drop_succ_cons, List.drop_zero, List.take_succ_cons, List.take_zero, List.reverse_cons, List.reverse_nil, List.nil_append, List.cons_append, List.length_cons, true_and]
  congr 1
  simp
theorem px_i1 {idx m' nest : Nat} {a : Int} {v0 : PV} (h : pm_fe m pc = some (.invokespecial idx, 3) ∧ pm_mr (pm_cl m) idx = some (m', nest) ∧ m' < 900 ∧ pm_np m' = 1 ∧ pm_kd m' = 2) : pm_Run d m pc ls (v0 :: .inr (.inr (.inl a)) :: st) S K ↔ (0 ≤ a ∧ pm_wl st ≤ 8) ∧ pm_Call d m' [.inr (.inr (.inl a)), v0] S (fun r S1 => pm_Run d m (pc + 3) ls (pm_push r st) S1 K) := by
  obtain ⟨h1, h2, h3, h4, h5⟩ := h
  refine px_cg h1 ?_
  have e1 : m' ≠ 900 := by omega
  simp only [pm_step, pm_invi, h2, h3, if_neg e1, h4, h5, List.drop_succ_cons, List.drop_zero, List.take_succ_cons, List.take_zero, List.reverse_cons, List.reverse_nil, List.nil_append, List.cons_append, List.length_cons, true_and]
  by_cases hc : 0 ≤ a ∧ pm_wl st ≤ 8
  · rw [if_pos hc, if_pos hc, if_pos (by omega)]
  · rw [if_neg hc, if_neg hc]
theorem px_v2 {idx m' ci : Nat} {a : Int} {v0 v1 : PV} (h : pm_fe m pc = some (.invokevirtual idx, 3) ∧ pm_mr (pm_cl m) idx = some (m', 0) ∧ m' < 900 ∧ pm_np m' = 2 ∧ pm_kd m' = 0 ∧ pm_cl m' = ci) : pm_Run d m pc ls (v1 :: v0 :: .inr (.inr (.inl a)) :: st) (G, M, T) K ↔ (pm_ob G a ci ∧ pm_wl st ≤ 8) ∧ pm_Call d m' [.inr (.inr (.inl a)), v0, v1] (G, M, T) (fun r S1 => pm_Run d m (pc + 3) ls (pm_push r st) S1 K) := by
  obtain ⟨h1, h2, h3, h4, h5, rfl⟩ := h
  refine px_cg h1 ?_
  simp only [pm_step, pm_invv, h2, h3, if_true, h4, h5, List.drop_succ_cons, List.drop_zero, List.take_succ_cons, List.take_zero, List.reverse_cons, List.reverse_nil, List.nil_append, List.cons_append, List.length_cons, true_and]
  congr 1
  simp
theorem px_s2 {idx m' nest : Nat} {v0 v1 : PV} (h : pm_fe m pc = some (.invokestatic idx, 3) ∧ pm_mr (pm_cl m) idx = some (m', nest) ∧ m' < 900 ∧ pm_np m' = 2 ∧ pm_kd m' = 1) : pm_Run d m pc ls (v1 :: v0 :: st) S K ↔ pm_wl st ≤ 8 ∧ pm_Call d m' [v0, v1] S (fun r S1 => pm_Run d m (pc + 3) ls (pm_push r st) S1 K) := by
  obtain ⟨h1, h2, h3, h4, h5⟩ := h
  refine px_cg h1 ?_
  have e1 : m' ≠ 901 ∧ m' ≠ 905 ∧ m' ≠ 906 ∧ m' ≠ 907 ∧ m' ≠ 908 := by omega
  simp only [pm_step, pm_invs, h2, h3, if_neg e1.1, if_neg e1.2.1, if_neg e1.2.2.1, if_neg e1.2.2.2.1, if_neg e1.2.2.2.2, h4, h5, List.drop_succ_cons, List.drop_zero, List.take_succ_cons, List.take_zero, List.reverse_cons, List.reverse_nil, List.nil_append, List.cons_append, List.length_cons, true_and]
  congr 1
  simp
theorem px_i2 {idx m' nest : Nat} {a : Int} {v0 v1 : PV} (h : pm_fe m pc = some (.invokespecial idx, 3) ∧ pm_mr (pm_cl m) idx = some (m', nest) ∧ m' < 900 ∧ pm_np m' = 2 ∧ pm_kd m' = 2) : pm_Run d m pc ls (v1 :: v0 :: .inr (.inr (.inl a)) :: st) S K ↔ (0 ≤ a ∧ pm_wl st ≤ 8) ∧ pm_Call d m' [.inr (.inr (.inl a)), v0, v1] S (fun r S1 => pm_Run d m (pc + 3) ls (pm_push r st) S1 K) := by
  obtain ⟨h1, h2, h3, h4, h5⟩ := h
  refine px_cg h1 ?_
  have e1 : m' ≠ 900 := by omega
  simp only [pm_step, pm_invi, h2, h3, if_neg e1, h4, h5, List.drop_succ_cons, List.drop_zero, List.take_succ_cons, List.take_zero, List.reverse_cons, List.reverse_nil, List.nil_append, List.cons_append, List.length_cons, true_and]
  by_cases hc : 0 ≤ a ∧ pm_wl st ≤ 8
  · rw [if_pos hc, if_pos hc, if_pos (by omega)]
  · rw [if_neg hc, if_neg hc]
theorem px_v3 {idx m' ci : Nat} {a : Int} {v0 v1 v2 : PV} (h : pm_fe m pc = some (.invokevirtual idx, 3) ∧ pm_mr (pm_cl m) idx = some (m', 0) ∧ m' < 900 ∧ pm_np m' = 3 ∧ pm_kd m' = 0 ∧ pm_cl m' = ci) : pm_Run d m pc ls (v2 :: v1 :: v0 :: .inr (.inr (.inl a)) :: st) (G, M, T) K ↔ (pm_ob G a ci ∧ pm_wl st ≤ 8) ∧ pm_Call d m' [.inr (.inr (.inl a)), v0, v1, v2] (G, M, T) (fun r S1 => pm_Run d m (pc + 3) ls (pm_push r st) S1 K) := by
  obtain ⟨h1, h2, h3, h4, h5, rfl⟩ := h
  refine px_cg h1 ?_
  simp only [pm_step, pm_invv, h2, h3, if_true, h4, h5, List.drop_succ_cons, List.drop_zero, List.take_succ_cons, List.take_zero, List.reverse_cons, List.reverse_nil, List.nil_append, List.cons_append, List.length_cons, true_and]
  congr 1
  simp
theorem px_s3 {idx m' nest : Nat} {v0 v1 v2 : PV} (h : pm_fe m pc = some (.invokestatic idx, 3) ∧ pm_mr (pm_cl m) idx = some (m', nest) ∧ m' < 900 ∧ pm_np m' = 3 ∧ pm_kd m' = 1) : pm_Run d m pc ls (v2 :: v1 :: v0 :: st) S K ↔ pm_wl st ≤ 8 ∧ pm_Call d m' [v0, v1, v2] S (fun r S1 => pm_Run d m (pc + 3) ls (pm_push r st) S1 K) := by
  obtain ⟨h1, h2, h3, h4, h5⟩ := h
  refine px_cg h1 ?_
  have e1 : m' ≠ 901 ∧ m' ≠ 905 ∧ m' ≠ 906 ∧ m' ≠ 907 ∧ m' ≠ 908 := by omega
  simp only [pm_step, pm_invs, h2, h3, if_neg e1.1, if_neg e1.2.1, if_neg e1.2.2.1, if_neg e1.2.2.2.1, if_neg e1.2.2.2.2, h4, h5, List.drop_succ_cons, List.drop_zero, List.take_succ_cons, List.take_zero, List.reverse_cons, List.reverse_nil, List.nil_append, List.cons_append, List.length_cons, true_and]
  congr 1
  simp
theorem px_v4 {idx m' ci : Nat} {a : Int} {v0 v1 v2 v3 : PV} (h : pm_fe m pc = some (.invokevirtual idx, 3) ∧ pm_mr (pm_cl m) idx = some (m', 0) ∧ m' < 900 ∧ pm_np m' = 4 ∧ pm_kd m' = 0 ∧ pm_cl m' = ci) : pm_Run d m pc ls (v3 :: v2 :: v1 :: v0 :: .inr (.inr (.inl a)) :: st) (G, M, T) K ↔ (pm_ob G a ci ∧ pm_wl st ≤ 8) ∧ pm_Call d m' [.inr (.inr (.inl a)), v0, v1, v2, v3] (G, M, T) (fun r S1 => pm_Run d m (pc + 3) ls (pm_push r st) S1 K) := by
  obtain ⟨h1, h2, h3, h4, h5, rfl⟩ := h
  refine px_cg h1 ?_
  simp only [pm_step, pm_invv, h2, h3, if_true, h4, h5, List.drop_succ_cons, List.drop_zero, List.take_succ_cons, List.take_zero, List.reverse_cons, List.reverse_nil, List.nil_append, List.cons_append, List.length_cons, true_and]
  congr 1
  simp
theorem px_s4 {idx m' nest : Nat} {v0 v1 v2 v3 : PV} (h : pm_fe m pc = some (.invokestatic idx, 3) ∧ pm_mr (pm_cl m) idx = some (m', nest) ∧ m' < 900 ∧ pm_np m' = 4 ∧ pm_kd m' = 1) : pm_Run d m pc ls (v3 :: v2 :: v1 :: v0 :: st) S K ↔ pm_wl st ≤ 8 ∧ pm_Call d m' [v0, v1, v2, v3] S (fun r S1 => pm_Run d m (pc + 3) ls (pm_push r st) S1 K) := by
  obtain ⟨h1, h2, h3, h4, h5⟩ := h
  refine px_cg h1 ?_
  have e1 : m' ≠ 901 ∧ m' ≠ 905 ∧ m' ≠ 906 ∧ m' ≠ 907 ∧ m' ≠ 908 := by omega
  simp only [pm_step, pm_invs, h2, h3, if_neg e1.1, if_neg e1.2.1, if_neg e1.2.2.1, if_neg e1.2.2.2.1, if_neg e1.2.2.2.2, h4, h5, List.drop_succ_cons, List.drop_zero, List.take_succ_cons, List.take_zero, List.reverse_cons, List.reverse_nil, List.nil_append, List.cons_append, List.length_cons, true_and]
  congr 1
  simp
theorem px_v5 {idx m' ci : Nat} {a : Int} {v0 v1 v2 v3 v4 : PV} (h : pm_fe m pc = some (.invokevirtual idx, 3) ∧ pm_mr (pm_cl m) idx = some (m', 0) ∧ m' < 900 ∧ pm_np m' = 5 ∧ pm_kd m' = 0 ∧ pm_cl m' = ci) : pm_Run d m pc ls (v4 :: v3 :: v2 :: v1 :: v0 :: .inr (.inr (.inl a)) :: st) (G, M, T) K ↔ (pm_ob G a ci ∧ pm_wl st ≤ 8) ∧ pm_Call d m' [.inr (.inr (.inl a)), v0, v1, v2, v3, v4] (G, M, T) (fun r S1 => pm_Run d m (pc + 3) ls (pm_push r st) S1 K) := by
  obtain ⟨h1, h2, h3, h4, h5, rfl⟩ := h
  refine px_cg h1 ?_
  simp only [pm_step, pm_invv, h2, h3, if_true, h4, h5, List.drop_succ_cons, List.drop_zero, List.take_succ_cons, List.take_zero, List.reverse_cons, List.reverse_nil, List.nil_append, List.cons_append, List.length_cons, true_and]
  congr 1
  simp
theorem px_s5 {idx m' nest : Nat} {v0 v1 v2 v3 v4 : PV} (h : pm_fe m pc = some (.invokestatic idx, 3) ∧ pm_mr (pm_cl m) idx = some (m', nest) ∧ m' < 900 ∧ pm_np m' = 5 ∧ pm_kd m' = 1) : pm_Run d m pc ls (v4 :: v3 :: v2 :: v1 :: v0 :: st) S K ↔ pm_wl st ≤ 8 ∧ pm_Call d m' [v0, v1, v2, v3, v4] S (fun r S1 => pm_Run d m (pc + 3) ls (pm_push r st) S1 K) := by
  obtain ⟨h1, h2, h3, h4, h5⟩ := h
  refine px_cg h1 ?_
  have e1 : m' ≠ 901 ∧ m' ≠ 905 ∧ m' ≠ 906 ∧ m' ≠ 907 ∧ m' ≠ 908 := by omega
  simp only [pm_step, pm_invs, h2, h3, if_neg e1.1, if_neg e1.2.1, if_neg e1.2.2.1, if_neg e1.2.2.2.1, if_neg e1.2.2.2.2, h4, h5, List.drop_succ_cons, List.drop_zero, List.take_succ_cons, List.take_zero, List.reverse_cons, List.reverse_nil, List.nil_append, List.cons_append, List.length_cons, true_and]
  congr 1
  simp
end PXS
