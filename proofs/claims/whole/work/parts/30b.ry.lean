/-! Steps over the laid cells: addresses are numbers of cells, indices and comparisons are read as they stand. -/
abbrev vA (n : Nat) : PV := .inr (.inr (.inl (n : Int)))
abbrev vI (x : Int) : PV := .inl x
abbrev vL (x : Int) : PV := .inr (.inl x)
abbrev inR (x : Int) : Prop := -2147483648 ≤ x ∧ x < 2147483648
abbrev inL (x : Int) : Prop := -9223372036854775808 ≤ x ∧ x < 9223372036854775808
set_option maxRecDepth 10000 in
theorem shf_le0 : ∀ n, n < 283 → (SHF n).2 ≤ 3200 := by decide +kernel
theorem shf_le {n kd N : Nat} (h : n < 283 ∧ SHF n = (kd, N)) : N ≤ 3200 := by
  have h1 := shf_le0 n h.1
  rw [h.2] at h1
  exact h1
section RY
variable {d m pc : Nat} {ls st : List PV} {M : PH} {X : Nat × (Nat → Int)} {v : Nat → Int} {S : PS} {K : PV → PS → Prop} {n N kd : Nat}
theorem ry_get0 {idx ci k : Nat} (ho : n < 283 ∧ SHF n = (ci, N)) (h : pm_fe m pc = some (.getfield idx, 3) ∧ pm_fr (pm_cl m) idx = some (ci, k) ∧ k < pm_nf ci ∧ pm_tag (pm_ft ci k) ≠ 1 ∧ pm_tag (pm_ft ci k) ≠ 2) : pm_Run d m pc ls (vA n :: st) (GF X, M, PTF v) K ↔ pm_Run d m (pc + 3) ls (vI (M n k) :: st) (GF X, M, PTF v) K := by
  refine (px_get0 h).trans ((and_iff_right (ob_i ho)).trans ?_)
  rw [Int.toNat_natCast]
theorem ry_get1 {idx ci k : Nat} (ho : n < 283 ∧ SHF n = (ci, N)) (h : pm_fe m pc = some (.getfield idx, 3) ∧ pm_fr (pm_cl m) idx = some (ci, k) ∧ k < pm_nf ci ∧ pm_tag (pm_ft ci k) = 1) : pm_Run d m pc ls (vA n :: st) (GF X, M, PTF v) K ↔ pm_Run d m (pc + 3) ls (vL (M n k) :: st) (GF X, M, PTF v) K := by
  refine (px_get1 h).trans ((and_iff_right (ob_i ho)).trans ?_)
  rw [Int.toNat_natCast]
theorem ry_get2 {idx ci k n' : Nat} (ho : n < 283 ∧ SHF n = (ci, N)) (hT : PTF v n k = (n' : Int)) (h : pm_fe m pc = some (.getfield idx, 3) ∧ pm_fr (pm_cl m) idx = some (ci, k) ∧ k < pm_nf ci ∧ pm_tag (pm_ft ci k) = 2) : pm_Run d m pc ls (vA n :: st) (GF X, M, PTF v) K ↔ pm_Run d m (pc + 3) ls (vA n' :: st) (GF X, M, PTF v) K := by
  refine (px_get2 h).trans ((and_iff_right (ob_i ho)).trans ?_)
  rw [Int.toNat_natCast, hT]
theorem ry_put0 {idx ci k : Nat} {x : Int} (ho : n < 283 ∧ SHF n = (ci, N)) (h : pm_fe m pc = some (.putfield idx, 3) ∧ pm_fr (pm_cl m) idx = some (ci, k) ∧ k < pm_nf ci ∧ pm_may m ci k ∧ pm_tag (pm_ft ci k) = 0) : pm_Run d m pc ls (vI x :: vA n :: st) (GF X, M, PTF v) K ↔ pm_Run d m (pc + 3) ls st (GF X, pm_sa M n (pm_up (M n) k x), PTF v) K := by
  refine (px_put0 h).trans ((and_iff_right (ob_i ho)).trans ?_)
  rw [Int.toNat_natCast]
theorem ry_put3 {idx ci k : Nat} {x : Int} (ho : n < 283 ∧ SHF n = (ci, N)) (hx : x = 0 ∨ x = 1) (h : pm_fe m pc = some (.putfield idx, 3) ∧ pm_fr (pm_cl m) idx = some (ci, k) ∧ k < pm_nf ci ∧ pm_may m ci k ∧ pm_tag (pm_ft ci k) = 3) : pm_Run d m pc ls (vI x :: vA n :: st) (GF X, M, PTF v) K ↔ pm_Run d m (pc + 3) ls st (GF X, pm_sa M n (pm_up (M n) k x), PTF v) K := by
  refine (px_put3 h).trans ((and_iff_right ⟨ob_i ho, hx⟩).trans ?_)
  rw [Int.toNat_natCast]
theorem ry_put1 {idx ci k : Nat} {x : Int} (ho : n < 283 ∧ SHF n = (ci, N)) (h : pm_fe m pc = some (.putfield idx, 3) ∧ pm_fr (pm_cl m) idx = some (ci, k) ∧ k < pm_nf ci ∧ pm_may m ci k ∧ pm_tag (pm_ft ci k) = 1) : pm_Run d m pc ls (vL x :: vA n :: st) (GF X, M, PTF v) K ↔ pm_Run d m (pc + 3) ls st (GF X, pm_sa M n (pm_up (M n) k x), PTF v) K := by
  refine (px_put1 h).trans ((and_iff_right (ob_i ho)).trans ?_)
  rw [Int.toNat_natCast]
theorem ry_ar {j : Int} (ho : n < 283 ∧ SHF n = (kd, N)) (h0 : 0 ≤ j) (h1 : j < N) : pm_ar (GF X) (n : Int) kd j ∧ (pm_sg j).toNat = j.toNat := ⟨ar_i ho h0 h1 (by have := shf_le ho; omega), by rw [pm_sgid (by omega) (by have := shf_le ho; omega)]⟩
theorem ry_iald {j : Int} (ho : n < 283 ∧ SHF n = (100, N)) (h0 : 0 ≤ j) (h1 : j < N) (h : pm_fe m pc = some (.iaload, 1)) : pm_Run d m pc ls (vI j :: vA n :: st) (GF X, M, PTF v) K ↔ pm_Run d m (pc + 1) ls (vI (M n j.toNat) :: st) (GF X, M, PTF v) K := by
  obtain ⟨e1, e2⟩ := ry_ar (X := X) ho h0 h1
  refine (px_iaload h e1).trans ?_
  rw [Int.toNat_natCast, e2]
theorem ry_bald {j : Int} (ho : n < 283 ∧ SHF n = (101, N)) (h0 : 0 ≤ j) (h1 : j < N) (h : pm_fe m pc = some (.baload, 1)) : pm_Run d m pc ls (vI j :: vA n :: st) (GF X, M, PTF v) K ↔ pm_Run d m (pc + 1) ls (vI (M n j.toNat) :: st) (GF X, M, PTF v) K := by
  obtain ⟨e1, e2⟩ := ry_ar (X := X) ho h0 h1
  refine (px_baload h).trans ((and_iff_right (Or.inl e1)).trans ?_)
  rw [Int.toNat_natCast, e2]
theorem ry_zald {j : Int} (ho : n < 283 ∧ SHF n = (102, N)) (h0 : 0 ≤ j) (h1 : j < N) (h : pm_fe m pc = some (.baload, 1)) : pm_Run d m pc ls (vI j :: vA n :: st) (GF X, M, PTF v) K ↔ pm_Run d m (pc + 1) ls (vI (M n j.toNat) :: st) (GF X, M, PTF v) K := by
  obtain ⟨e1, e2⟩ := ry_ar (X := X) ho h0 h1
  refine (px_baload h).trans ((and_iff_right (Or.inr e1)).trans ?_)
  rw [Int.toNat_natCast, e2]
theorem ry_lald {j : Int} (ho : n < 283 ∧ SHF n = (103, N)) (h0 : 0 ≤ j) (h1 : j < N) (h : pm_fe m pc = some (.laload, 1)) : pm_Run d m pc ls (vI j :: vA n :: st) (GF X, M, PTF v) K ↔ pm_Run d m (pc + 1) ls (vL (M n j.toNat) :: st) (GF X, M, PTF v) K := by
  obtain ⟨e1, e2⟩ := ry_ar (X := X) ho h0 h1
  refine (px_laload h).trans ((and_iff_right e1).trans ?_)
  rw [Int.toNat_natCast, e2]
theorem ry_iast {x j : Int} (ho : n < 283 ∧ SHF n = (100, N)) (h0 : 0 ≤ j) (h1 : j < N) (h : pm_fe m pc = some (.iastore, 1)) : pm_Run d m pc ls (vI x :: vI j :: vA n :: st) (GF X, M, PTF v) K ↔ pm_Run d m (pc + 1) ls st (GF X, pm_sa M n (pm_up (M n) j.toNat x), PTF v) K := by
  obtain ⟨e1, e2⟩ := ry_ar (X := X) ho h0 h1
  refine (px_iastore h).trans ((and_iff_right e1).trans ?_)
  rw [Int.toNat_natCast, e2]
theorem ry_last {x j : Int} (ho : n < 283 ∧ SHF n = (103, N)) (h0 : 0 ≤ j) (h1 : j < N) (h : pm_fe m pc = some (.lastore, 1)) : pm_Run d m pc ls (vL x :: vI j :: vA n :: st) (GF X, M, PTF v) K ↔ pm_Run d m (pc + 1) ls st (GF X, pm_sa M n (pm_up (M n) j.toNat x), PTF v) K := by
  obtain ⟨e1, e2⟩ := ry_ar (X := X) ho h0 h1
  refine (px_lastore h).trans ((and_iff_right e1).trans ?_)
  rw [Int.toNat_natCast, e2]
theorem ry_bast {x j : Int} (ho : n < 283 ∧ SHF n = (101, N)) (h0 : 0 ≤ j) (h1 : j < N) (h : pm_fe m pc = some (.bastore, 1)) : pm_Run d m pc ls (vI x :: vI j :: vA n :: st) (GF X, M, PTF v) K ↔ pm_Run d m (pc + 1) ls st (GF X, pm_sa M n (pm_up (M n) j.toNat (pm_b8 x)), PTF v) K := by
  obtain ⟨e1, e2⟩ := ry_ar (X := X) ho h0 h1
  refine (px_bastore h e1).trans ?_
  rw [Int.toNat_natCast, e2]
theorem ry_zast {x j : Int} (ho : n < 283 ∧ SHF n = (102, N)) (h0 : 0 ≤ j) (h1 : j < N) (hx : x = 0 ∨ x = 1) (h : pm_fe m pc = some (.bastore, 1)) : pm_Run d m pc ls (vI x :: vI j :: vA n :: st) (GF X, M, PTF v) K ↔ pm_Run d m (pc + 1) ls st (GF X, pm_sa M n (pm_up (M n) j.toNat x), PTF v) K := by
  obtain ⟨e1, e2⟩ := ry_ar (X := X) ho h0 h1
  refine (px_zastore h e1 hx).trans ?_
  rw [Int.toNat_natCast, e2]
theorem ry_alen (ho : n < 283 ∧ SHF n = (kd, N)) (hk : 100 ≤ kd ∧ kd ≤ 104) (h : pm_fe m pc = some (.arraylength, 1)) : pm_Run d m pc ls (vA n :: st) (GF X, M, PTF v) K ↔ pm_Run d m (pc + 1) ls (vI (N : Int) :: st) (GF X, M, PTF v) K := by
  have e1 : SHF (n : Int).toNat = (kd, N) := by rw [Int.toNat_natCast]; exact ho.2
  have e2 : ((GF X).2.2.1 (n : Int).toNat) = (kd, N) := e1
  have e3 : 0 ≤ (n : Int) ∧ (n : Int).toNat < (GF X).1 ∧ 100 ≤ ((GF X).2.2.1 (n : Int).toNat).1 ∧ ((GF X).2.2.1 (n : Int).toNat).1 ≤ 104 := ⟨Int.natCast_nonneg _, ho.1, by rw [e2]; exact hk.1, by rw [e2]; exact hk.2⟩
  refine (px_alen h e3).trans ?_
  rw [e2]
theorem ry_acpy {idx n2 N2 : Nat} {c sp dp : Int} (ho : n < 283 ∧ SHF n = (100, N)) (ho2 : n2 < 283 ∧ SHF n2 = (100, N2)) (hne : n ≠ n2) (h0 : 0 ≤ sp ∧ 0 ≤ dp ∧ 0 ≤ c ∧ sp + c ≤ N ∧ dp + c ≤ N2) (hw : pm_wl st ≤ 8) (h : pm_fe m pc = some (.invokestatic idx, 3) ∧ pm_mr (pm_cl m) idx = some (901, 0)) : pm_Run d m pc ls (vI c :: vI dp :: vA n2 :: vI sp :: vA n :: st) (GF X, M, PTF v) K ↔ pm_Run d m (pc + 3) ls st (GF X, pm_sa M n2 (pm_cp (M n) (M n2) sp.toNat dp.toNat c.toNat), PTF v) K := by
  have l1 := shf_le ho
  have l2 := shf_le ho2
  obtain ⟨a1, a2, a3, a4, a5⟩ := h0
  have e1 : SHF (n : Int).toNat = (100, N) := by rw [Int.toNat_natCast]; exact ho.2
  have e2 : SHF (n2 : Int).toNat = (100, N2) := by rw [Int.toNat_natCast]; exact ho2.2
  have s1 : pm_sg sp = sp := pm_sgid (by omega) (by omega)
  have s2 : pm_sg dp = dp := pm_sgid (by omega) (by omega)
  have s3 : pm_sg c = c := pm_sgid (by omega) (by omega)
  have k1 : pm_sg sp + pm_sg c ≤ ((GF X).2.2.1 (n : Int).toNat).2 := by
    rw [s1, s3]; show sp + c ≤ ((SHF (n : Int).toNat).2 : Int); rw [e1]; exact a4
  have k2 : pm_sg dp + pm_sg c ≤ ((GF X).2.2.1 (n2 : Int).toNat).2 := by
    rw [s2, s3]; show dp + c ≤ ((SHF (n2 : Int).toNat).2 : Int); rw [e2]; exact a5
  refine (px_acpy h).trans ((and_iff_right ⟨ob_i ho, ob_i ho2, by rw [s1]; exact a1, by rw [s2]; exact a2, by rw [s3]; exact a3, k1, k2, fun z => hne (by exact_mod_cast z), hw⟩).trans ?_)
  rw [Int.toNat_natCast, Int.toNat_natCast, s1, s2, s3]
theorem ry_idiv {x y : Int} (hx : inR x) (hy : inR y) (h0 : y ≠ 0) (h : pm_fe m pc = some (.idiv, 1)) : pm_Run d m pc ls (vI y :: vI x :: st) S K ↔ pm_Run d m (pc + 1) ls (vI (x.tdiv y) :: st) S K := by
  have e1 : pm_sg y = y := pm_sgid hy.1 hy.2
  have e2 : pm_sg x = x := pm_sgid hx.1 hx.2
  refine (px_idiv h).trans ((and_iff_right (by rw [e1]; exact h0)).trans ?_)
  rw [pm_div, e1, e2]
theorem ry_irem {x y : Int} (hx : inR x) (hy : inR y) (h0 : y ≠ 0) (h : pm_fe m pc = some (.irem, 1)) : pm_Run d m pc ls (vI y :: vI x :: st) S K ↔ pm_Run d m (pc + 1) ls (vI (x.tmod y) :: st) S K := by
  have e1 : pm_sg y = y := pm_sgid hy.1 hy.2
  have e2 : pm_sg x = x := pm_sgid hx.1 hx.2
  refine (px_irem h).trans ((and_iff_right (by rw [e1]; exact h0)).trans ?_)
  rw [pm_rem, e1, e2]
theorem ry_ldiv {x y : Int} (hx : inL x) (hy : inL y) (h0 : y ≠ 0) (h : pm_fe m pc = some (.ldiv, 1)) : pm_Run d m pc ls (vL y :: vL x :: st) S K ↔ pm_Run d m (pc + 1) ls (vL (x.tdiv y) :: st) S K := by
  have e1 : pm_sl y = y := pm_slid hy.1 hy.2
  have e2 : pm_sl x = x := pm_slid hx.1 hx.2
  refine (px_ldiv h).trans ((and_iff_right (by rw [e1]; exact h0)).trans ?_)
  rw [pm_ldiv, e1, e2]
theorem ry_lrem {x y : Int} (hx : inL x) (hy : inL y) (h0 : y ≠ 0) (h : pm_fe m pc = some (.lrem, 1)) : pm_Run d m pc ls (vL y :: vL x :: st) S K ↔ pm_Run d m (pc + 1) ls (vL (x.tmod y) :: st) S K := by
  have e1 : pm_sl y = y := pm_slid hy.1 hy.2
  have e2 : pm_sl x = x := pm_slid hx.1 hx.2
  refine (px_lrem h).trans ((and_iff_right (by rw [e1]; exact h0)).trans ?_)
  rw [pm_lrem, e1, e2]
def pm_cm (x y : Int) : Int := if x < y then -1 else if y < x then 1 else 0
theorem ry_lcmp {x y : Int} (hx : inL x) (hy : inL y) (h : pm_fe m pc = some (.lcmp, 1)) : pm_Run d m pc ls (vL y :: vL x :: st) S K ↔ pm_Run d m (pc + 1) ls (vI (pm_cm x y) :: st) S K := by
  refine (px_go h rfl).trans ?_
  rw [pm_cmp, pm_slid hx.1 hx.2, pm_slid hy.1 hy.2]
  exact Iff.rfl
theorem ry_i2l {x : Int} (hx : inR x) (h : pm_fe m pc = some (.i2l, 1)) : pm_Run d m pc ls (vI x :: st) S K ↔ pm_Run d m (pc + 1) ls (vL x :: st) S K := by
  refine (px_go h rfl).trans ?_
  show pm_Run d m (pc + 1) ls (vL (pm_sg x) :: st) S K ↔ _
  rw [pm_sgid hx.1 hx.2]
theorem ry_mx {idx : Nat} {x y : Int} (hx : inR x) (hy : inR y) (hw : pm_wl st ≤ 8) (h : pm_fe m pc = some (.invokestatic idx, 3) ∧ pm_mr (pm_cl m) idx = some (905, 0)) : pm_Run d m pc ls (vI y :: vI x :: st) S K ↔ pm_Run d m (pc + 3) ls (vI (max x y) :: st) S K := by
  refine (px_m905 h).trans ((and_iff_right hw).trans ?_)
  rw [pm_mx, pm_sgid hx.1 hx.2, pm_sgid hy.1 hy.2]
  have e : (if x < y then y else x) = max x y := by rw [Int.max_def]; split <;> split <;> omega
  rw [e]
theorem ry_mn {idx : Nat} {x y : Int} (hx : inR x) (hy : inR y) (hw : pm_wl st ≤ 8) (h : pm_fe m pc = some (.invokestatic idx, 3) ∧ pm_mr (pm_cl m) idx = some (906, 0)) : pm_Run d m pc ls (vI y :: vI x :: st) S K ↔ pm_Run d m (pc + 3) ls (vI (min x y) :: st) S K := by
  refine (px_m906 h).trans ((and_iff_right hw).trans ?_)
  rw [pm_mn, pm_sgid hx.1 hx.2, pm_sgid hy.1 hy.2]
  have e : (if y < x then y else x) = min x y := by rw [Int.min_def]; split <;> split <;> omega
  rw [e]
theorem ry_fd {idx : Nat} {x y : Int} (hx : inR x) (hy : inR y) (h0 : y ≠ 0) (hw : pm_wl st ≤ 8) (h : pm_fe m pc = some (.invokestatic idx, 3) ∧ pm_mr (pm_cl m) idx = some (907, 0)) : pm_Run d m pc ls (vI y :: vI x :: st) S K ↔ pm_Run d m (pc + 3) ls (vI (x.fdiv y) :: st) S K := by
  have e1 : pm_sg y = y := pm_sgid hy.1 hy.2
  refine (px_m907 h).trans ((and_iff_right ⟨hw, by rw [e1]; exact h0⟩).trans ?_)
  rw [pm_fd, pm_sgid hx.1 hx.2, e1]
theorem ry_fm {idx : Nat} {x y : Int} (hx : inR x) (hy : inR y) (h0 : y ≠ 0) (hw : pm_wl st ≤ 8) (h : pm_fe m pc = some (.invokestatic idx, 3) ∧ pm_mr (pm_cl m) idx = some (908, 0)) : pm_Run d m pc ls (vI y :: vI x :: st) S K ↔ pm_Run d m (pc + 3) ls (vI (x.fmod y) :: st) S K := by
  have e1 : pm_sg y = y := pm_sgid hy.1 hy.2
  refine (px_m908 h).trans ((and_iff_right ⟨hw, by rw [e1]; exact h0⟩).trans ?_)
  rw [pm_fm, pm_sgid hx.1 hx.2, e1]
theorem ry_tsw {df lo hi x : Int} {offs : Array Int} {len dt : Nat} {tl : List Nat} (hx : inR x) (h : pm_fe m pc = some (.tableswitch df lo hi offs, len) ∧ (pc : Int) + df = (dt : Int) ∧ hi + 1 = lo + (tl.length : Int) ∧ offs.toList.map (fun z => (pc : Int) + z) = tl.map (fun (z : Nat) => (z : Int))) : pm_Run d m pc ls (vI x :: st) S K ↔ pm_Run d m (pm_tg lo tl dt x) ls st S K := by
  refine (px_tsw h).trans ?_
  rw [pm_sgid hx.1 hx.2]
theorem ry_if_eq {off x : Int} {tgt : Nat} (hx : inR x) (h : pm_fe m pc = some (.ifCond .eq off, 3) ∧ (pc : Int) + off = (tgt : Int)) : pm_Run d m pc ls (vI x :: st) S K ↔ if x = 0 then pm_Run d m tgt ls st S K else pm_Run d m (pc + 3) ls st S K := by
  refine (px_if_eq h).trans ?_
  rw [pm_sgid hx.1 hx.2]
theorem ry_ic_eq {off x y : Int} {tgt : Nat} (hx : inR x) (hy : inR y) (h : pm_fe m pc = some (.if_icmp .eq off, 3) ∧ (pc : Int) + off = (tgt : Int)) : pm_Run d m pc ls (vI y :: vI x :: st) S K ↔ if x = y then pm_Run d m tgt ls st S K else pm_Run d m (pc + 3) ls st S K := by
  refine (px_ic_eq h).trans ?_
  rw [pm_sgid hx.1 hx.2, pm_sgid hy.1 hy.2]
theorem ry_if_ne {off x : Int} {tgt : Nat} (hx : inR x) (h : pm_fe m pc = some (.ifCond .ne off, 3) ∧ (pc : Int) + off = (tgt : Int)) : pm_Run d m pc ls (vI x :: st) S K ↔ if x ≠ 0 then pm_Run d m tgt ls st S K else pm_Run d m (pc + 3) ls st S K := by
  refine (px_if_ne h).trans ?_
  rw [pm_sgid hx.1 hx.2]
theorem ry_ic_ne {off x y : Int} {tgt : Nat} (hx : inR x) (hy : inR y) (h : pm_fe m pc = some (.if_icmp .ne off, 3) ∧ (pc : Int) + off = (tgt : Int)) : pm_Run d m pc ls (vI y :: vI x :: st) S K ↔ if x ≠ y then pm_Run d m tgt ls st S K else pm_Run d m (pc + 3) ls st S K := by
  refine (px_ic_ne h).trans ?_
  rw [pm_sgid hx.1 hx.2, pm_sgid hy.1 hy.2]
theorem ry_if_lt {off x : Int} {tgt : Nat} (hx : inR x) (h : pm_fe m pc = some (.ifCond .lt off, 3) ∧ (pc : Int) + off = (tgt : Int)) : pm_Run d m pc ls (vI x :: st) S K ↔ if x < 0 then pm_Run d m tgt ls st S K else pm_Run d m (pc + 3) ls st S K := by
  refine (px_if_lt h).trans ?_
  rw [pm_sgid hx.1 hx.2]
theorem ry_ic_lt {off x y : Int} {tgt : Nat} (hx : inR x) (hy : inR y) (h : pm_fe m pc = some (.if_icmp .lt off, 3) ∧ (pc : Int) + off = (tgt : Int)) : pm_Run d m pc ls (vI y :: vI x :: st) S K ↔ if x < y then pm_Run d m tgt ls st S K else pm_Run d m (pc + 3) ls st S K := by
  refine (px_ic_lt h).trans ?_
  rw [pm_sgid hx.1 hx.2, pm_sgid hy.1 hy.2]
theorem ry_if_ge {off x : Int} {tgt : Nat} (hx : inR x) (h : pm_fe m pc = some (.ifCond .ge off, 3) ∧ (pc : Int) + off = (tgt : Int)) : pm_Run d m pc ls (vI x :: st) S K ↔ if 0 ≤ x then pm_Run d m tgt ls st S K else pm_Run d m (pc + 3) ls st S K := by
  refine (px_if_ge h).trans ?_
  rw [pm_sgid hx.1 hx.2]
theorem ry_ic_ge {off x y : Int} {tgt : Nat} (hx : inR x) (hy : inR y) (h : pm_fe m pc = some (.if_icmp .ge off, 3) ∧ (pc : Int) + off = (tgt : Int)) : pm_Run d m pc ls (vI y :: vI x :: st) S K ↔ if y ≤ x then pm_Run d m tgt ls st S K else pm_Run d m (pc + 3) ls st S K := by
  refine (px_ic_ge h).trans ?_
  rw [pm_sgid hx.1 hx.2, pm_sgid hy.1 hy.2]
theorem ry_if_gt {off x : Int} {tgt : Nat} (hx : inR x) (h : pm_fe m pc = some (.ifCond .gt off, 3) ∧ (pc : Int) + off = (tgt : Int)) : pm_Run d m pc ls (vI x :: st) S K ↔ if 0 < x then pm_Run d m tgt ls st S K else pm_Run d m (pc + 3) ls st S K := by
  refine (px_if_gt h).trans ?_
  rw [pm_sgid hx.1 hx.2]
theorem ry_ic_gt {off x y : Int} {tgt : Nat} (hx : inR x) (hy : inR y) (h : pm_fe m pc = some (.if_icmp .gt off, 3) ∧ (pc : Int) + off = (tgt : Int)) : pm_Run d m pc ls (vI y :: vI x :: st) S K ↔ if y < x then pm_Run d m tgt ls st S K else pm_Run d m (pc + 3) ls st S K := by
  refine (px_ic_gt h).trans ?_
  rw [pm_sgid hx.1 hx.2, pm_sgid hy.1 hy.2]
theorem ry_if_le {off x : Int} {tgt : Nat} (hx : inR x) (h : pm_fe m pc = some (.ifCond .le off, 3) ∧ (pc : Int) + off = (tgt : Int)) : pm_Run d m pc ls (vI x :: st) S K ↔ if x ≤ 0 then pm_Run d m tgt ls st S K else pm_Run d m (pc + 3) ls st S K := by
  refine (px_if_le h).trans ?_
  rw [pm_sgid hx.1 hx.2]
theorem ry_ic_le {off x y : Int} {tgt : Nat} (hx : inR x) (hy : inR y) (h : pm_fe m pc = some (.if_icmp .le off, 3) ∧ (pc : Int) + off = (tgt : Int)) : pm_Run d m pc ls (vI y :: vI x :: st) S K ↔ if x ≤ y then pm_Run d m tgt ls st S K else pm_Run d m (pc + 3) ls st S K := by
  refine (px_ic_le h).trans ?_
  rw [pm_sgid hx.1 hx.2, pm_sgid hy.1 hy.2]
theorem ry_v0 {idx m' ci : Nat} (ho : n < 283 ∧ SHF n = (ci, N)) (hw : pm_wl st ≤ 8) (h : pm_fe m pc = some (.invokevirtual idx, 3) ∧ pm_mr (pm_cl m) idx = some (m', 0) ∧ m' < 900 ∧ pm_np m' = 0 ∧ pm_kd m' = 0 ∧ pm_cl m' = ci) : pm_Run d m pc ls (vA n :: st) (GF X, M, PTF v) K ↔ pm_Call d m' [vA n] (GF X, M, PTF v) (fun r S1 => pm_Run d m (pc + 3) ls (pm_push r st) S1 K) := (px_v0 h).trans (and_iff_right ⟨ob_i ho, hw⟩)
theorem ry_v1 {idx m' ci : Nat} {v0 : PV} (ho : n < 283 ∧ SHF n = (ci, N)) (hw : pm_wl st ≤ 8) (h : pm_fe m pc = some (.invokevirtual idx, 3) ∧ pm_mr (pm_cl m) idx = some (m', 0) ∧ m' < 900 ∧ pm_np m' = 1 ∧ pm_kd m' = 0 ∧ pm_cl m' = ci) : pm_Run d m pc ls (v0 :: vA n :: st) (GF X, M, PTF v) K ↔ pm_Call d m' [vA n, v0] (GF X, M, PTF v) (fun r S1 => pm_Run d m (pc + 3) ls (pm_push r st) S1 K) := (px_v1 h).trans (and_iff_right ⟨ob_i ho, hw⟩)
theorem ry_v2 {idx m' ci : Nat} {v0 v1 : PV} (ho : n < 283 ∧ SHF n = (ci, N)) (hw : pm_wl st ≤ 8) (h : pm_fe m pc = some (.invokevirtual idx, 3) ∧ pm_mr (pm_cl m) idx = some (m', 0) ∧ m' < 900 ∧ pm_np m' = 2 ∧ pm_kd m' = 0 ∧ pm_cl m' = ci) : pm_Run d m pc ls (v1 :: v0 :: vA n :: st) (GF X, M, PTF v) K ↔ pm_Call d m' [vA n, v0, v1] (GF X, M, PTF v) (fun r S1 => pm_Run d m (pc + 3) ls (pm_push r st) S1 K) := (px_v2 h).trans (and_iff_right ⟨ob_i ho, hw⟩)
theorem ry_v3 {idx m' ci : Nat} {v0 v1 v2 : PV} (ho : n < 283 ∧ SHF n = (ci, N)) (hw : pm_wl st ≤ 8) (h : pm_fe m pc = some (.invokevirtual idx, 3) ∧ pm_mr (pm_cl m) idx = some (m', 0) ∧ m' < 900 ∧ pm_np m' = 3 ∧ pm_kd m' = 0 ∧ pm_cl m' = ci) : pm_Run d m pc ls (v2 :: v1 :: v0 :: vA n :: st) (GF X, M, PTF v) K ↔ pm_Call d m' [vA n, v0, v1, v2] (GF X, M, PTF v) (fun r S1 => pm_Run d m (pc + 3) ls (pm_push r st) S1 K) := (px_v3 h).trans (and_iff_right ⟨ob_i ho, hw⟩)
theorem ry_v4 {idx m' ci : Nat} {v0 v1 v2 v3 : PV} (ho : n < 283 ∧ SHF n = (ci, N)) (hw : pm_wl st ≤ 8) (h : pm_fe m pc = some (.invokevirtual idx, 3) ∧ pm_mr (pm_cl m) idx = some (m', 0) ∧ m' < 900 ∧ pm_np m' = 4 ∧ pm_kd m' = 0 ∧ pm_cl m' = ci) : pm_Run d m pc ls (v3 :: v2 :: v1 :: v0 :: vA n :: st) (GF X, M, PTF v) K ↔ pm_Call d m' [vA n, v0, v1, v2, v3] (GF X, M, PTF v) (fun r S1 => pm_Run d m (pc + 3) ls (pm_push r st) S1 K) := (px_v4 h).trans (and_iff_right ⟨ob_i ho, hw⟩)
theorem ry_v5 {idx m' ci : Nat} {v0 v1 v2 v3 v4 : PV} (ho : n < 283 ∧ SHF n = (ci, N)) (hw : pm_wl st ≤ 8) (h : pm_fe m pc = some (.invokevirtual idx, 3) ∧ pm_mr (pm_cl m) idx = some (m', 0) ∧ m' < 900 ∧ pm_np m' = 5 ∧ pm_kd m' = 0 ∧ pm_cl m' = ci) : pm_Run d m pc ls (v4 :: v3 :: v2 :: v1 :: v0 :: vA n :: st) (GF X, M, PTF v) K ↔ pm_Call d m' [vA n, v0, v1, v2, v3, v4] (GF X, M, PTF v) (fun r S1 => pm_Run d m (pc + 3) ls (pm_push r st) S1 K) := (px_v5 h).trans (and_iff_right ⟨ob_i ho, hw⟩)
end RY
