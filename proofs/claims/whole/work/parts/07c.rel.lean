/-! The plain machine's cells and values beside the real ones. -/
abbrev PE : Type := Nat × Nat × (Nat → Nat) × (Nat → ClassId)
def pm_rv (E : PE) (v : PV) : Value := match v with
  | .inl x => .int (Int32.ofInt x)
  | .inr (.inl x) => .long (Int64.ofInt x)
  | .inr (.inr (.inl x)) => if 0 ≤ x then .ref (E.1 + x.toNat) else if x = -1 then .null else if x = -2 then .ref E.2.1 else .ref (E.2.2.1 (-3 - x).toNat)
  | .inr (.inr (.inr _)) => .null
theorem pm_rvI (E : PE) (x : Int) : pm_rv E (.inl x) = .int (Int32.ofInt x) := rfl
theorem pm_rvL (E : PE) (x : Int) : pm_rv E (.inr (.inl x)) = .long (Int64.ofInt x) := rfl
theorem pm_rvA (E : PE) {x : Int} (h : 0 ≤ x) : pm_rv E (.inr (.inr (.inl x))) = .ref (E.1 + x.toNat) := by
  show (if 0 ≤ x then _ else _) = _
  rw [if_pos h]
theorem pm_rvS (E : PE) : pm_rv E (.inr (.inr (.inl (-2)))) = .ref E.2.1 := rfl
theorem pm_rvR (E : PE) {x : Int} (h : x ≠ -1) : ∃ q : Nat, pm_rv E (.inr (.inr (.inl x))) = .ref q := by
  show ∃ q : Nat, (if 0 ≤ x then _ else if x = -1 then _ else if x = -2 then _ else _) = _
  by_cases h0 : 0 ≤ x
  · rw [if_pos h0]; exact ⟨_, rfl⟩
  · rw [if_neg h0, if_neg h]
    by_cases h2 : x = -2
    · rw [if_pos h2]; exact ⟨_, rfl⟩
    · rw [if_neg h2]; exact ⟨_, rfl⟩
theorem pm_cat (E : PE) (v : PV) : (pm_rv E v).category = pm_w v := by
  match v with
  | .inl x => rfl
  | .inr (.inl x) => rfl
  | .inr (.inr (.inl x)) =>
    show (if 0 ≤ x then (.ref (E.1 + x.toNat) : Value) else if x = -1 then .null else if x = -2 then .ref E.2.1 else .ref (E.2.2.1 (-3 - x).toNat)).category = 1
    repeat' split
    all_goals rfl
  | .inr (.inr (.inr _)) => rfl
theorem pm_cats (E : PE) (l : List PV) : ((l.map (pm_rv E)).map fun v => v.category).sum = pm_wl l := by
  rw [List.map_map, pm_wl]
  congr 1
  exact List.map_congr_left (fun v _ => pm_cat E v)
/-- what the real locals hold -/
def pm_L (E : PE) (nL : Nat) (ls : List PV) (lsr : Array Slot) : Prop := ls.length = nL ∧ lsr.size = nL ∧ lv_wf lsr ∧ ∀ (j : Nat) (v : PV), ls[j]? = some v → v ≠ PU → lsr[j]? = some (.val (pm_rv E v))
def pm_av (E : PE) (ls : List PV) : List (Nat × Value) := (List.range ls.length).filterMap (fun j => match ls[j]? with
  | some v => if v = PU then none else some (j, pm_rv E v)
  | none => none)
theorem pm_av_in {E : PE} {ls : List PV} {j : Nat} {v : PV} (h : ls[j]? = some v) (hv : v ≠ PU) : (j, pm_rv E v) ∈ pm_av E ls := by
  refine List.mem_filterMap.mpr ⟨j, List.mem_range.mpr (List.getElem?_eq_some_iff.mp h).1, ?_⟩
  simp only [h, if_neg hv]
theorem pm_av_of {E : PE} {ls : List PV} {q : Nat × Value} (h : q ∈ pm_av E ls) : ∃ v : PV, ls[q.1]? = some v ∧ v ≠ PU ∧ q.2 = pm_rv E v := by
  obtain ⟨j, -, hj⟩ := List.mem_filterMap.mp h
  cases hl : ls[j]? with
  | none => rw [hl] at hj; cases hj
  | some v =>
    rw [hl] at hj
    by_cases hv : v = PU
    · simp only [if_pos hv] at hj; cases hj
    · simp only [if_neg hv] at hj
      cases hj
      exact ⟨v, hl, hv, rfl⟩
theorem pm_L_has {E : PE} {nL : Nat} {ls : List PV} {lsr : Array Slot} (h : pm_L E nL ls lsr) : lv_has lsr nL (pm_av E ls) := by
  refine ⟨h.2.1, h.2.2.1, fun q hq => ?_⟩
  obtain ⟨v, h1, h2, h3⟩ := pm_av_of hq
  rw [h3]
  exact h.2.2.2 _ v h1 h2
theorem pm_kil_len (ls : List PV) (i : Nat) : (pm_kil ls i).length = ls.length := by
  cases i with
  | zero => rfl
  | succ j =>
    show (match ls[j]? with
      | some (.inr (.inl _)) => ls.set j PU
      | _ => ls).length = ls.length
    split
    · exact List.length_set
    · rfl
theorem pm_kil_at {ls : List PV} {i j : Nat} {v : PV} (h : (pm_kil ls i)[j]? = some v) (hv : v ≠ PU) : ls[j]? = some v ∧ (j + 1 = i → pm_w v ≠ 2) := by
  unfold pm_kil at h
  cases i with
  | zero => exact ⟨h, fun e => absurd e (by omega)⟩
  | succ k =>
    simp only at h
    split at h
    · rename_i x hk
      by_cases e : k = j
      · subst e
        rw [List.getElem?_set_self (List.getElem?_eq_some_iff.mp hk).1] at h
        exact absurd (Option.some.inj h).symm hv
      · rw [List.getElem?_set_ne e] at h
        exact ⟨h, fun z => absurd z (by omega)⟩
    · rename_i hk
      refine ⟨h, fun z => ?_⟩
      have e : k = j := by omega
      subst e
      intro hw
      match v, hw with
      | .inr (.inl x), _ => exact hk x h
theorem pm_L_s1 {E : PE} {nL i : Nat} {ls : List PV} {lsr lsr' : Array Slot} {v : PV} (hL : pm_L E nL ls lsr) (h' : lv_has lsr' nL ((i, pm_rv E v) :: (pm_av E ls).filter (fun q => !(q.1 == i) && !(q.1 + 1 == i && q.2.category == 2)))) : pm_L E nL (pm_s1 ls i v) lsr' := by
  refine ⟨by rw [pm_s1, List.length_set, pm_kil_len]; exact hL.1, h'.1, h'.2.1, fun j w hj hw => ?_⟩
  unfold pm_s1 at hj
  by_cases e : i = j
  · subst e
    have hlt : i < (pm_kil ls i).length := by
      have := (List.getElem?_eq_some_iff.mp hj).1
      rwa [List.length_set] at this
    rw [List.getElem?_set_self hlt] at hj
    cases hj
    exact h'.2.2 (i, pm_rv E v) List.mem_cons_self
  · rw [List.getElem?_set_ne e] at hj
    obtain ⟨h1, h2⟩ := pm_kil_at hj hw
    refine h'.2.2 (j, pm_rv E w) (List.mem_cons_of_mem _ (List.mem_filter.mpr ⟨pm_av_in h1 hw, ?_⟩))
    simp only [pm_cat, Bool.and_eq_true, Bool.not_eq_true', beq_eq_false_iff_ne, ne_eq, Bool.and_eq_false_iff, Bool.not_eq_eq_eq_not, Bool.not_true]
    refine ⟨fun z => e z.symm, ?_⟩
    by_cases z : j + 1 = i
    · exact Or.inr (h2 z)
    · exact Or.inl z
theorem pm_L_s2 {E : PE} {nL i : Nat} {ls : List PV} {lsr lsr' : Array Slot} {v : PV} (hL : pm_L E nL ls lsr) (h' : lv_has lsr' nL ((i, pm_rv E v) :: (pm_av E ls).filter (fun q => !(q.1 == i) && (!(q.1 == i + 1) && !(q.1 + 1 == i && q.2.category == 2))))) : pm_L E nL (pm_s2 ls i v) lsr' := by
  refine ⟨by rw [pm_s2, List.length_set, List.length_set, pm_kil_len]; exact hL.1, h'.1, h'.2.1, fun j w hj hw => ?_⟩
  unfold pm_s2 at hj
  by_cases e2 : i + 1 = j
  · subst e2
    have hlt : i + 1 < ((pm_kil ls i).set i v).length := by
      have := (List.getElem?_eq_some_iff.mp hj).1
      rwa [List.length_set] at this
    rw [List.getElem?_set_self hlt] at hj
    exact absurd (Option.some.inj hj).symm hw
  · rw [List.getElem?_set_ne e2] at hj
    by_cases e : i = j
    · subst e
      have hlt : i < (pm_kil ls i).length := by
        have := (List.getElem?_eq_some_iff.mp hj).1
        rwa [List.length_set] at this
      rw [List.getElem?_set_self hlt] at hj
      cases hj
      exact h'.2.2 (i, pm_rv E v) List.mem_cons_self
    · rw [List.getElem?_set_ne e] at hj
      obtain ⟨h1, h2⟩ := pm_kil_at hj hw
      refine h'.2.2 (j, pm_rv E w) (List.mem_cons_of_mem _ (List.mem_filter.mpr ⟨pm_av_in h1 hw, ?_⟩))
      simp only [pm_cat, Bool.and_eq_true, Bool.not_eq_true', beq_eq_false_iff_ne, ne_eq, Bool.and_eq_false_iff, Bool.not_eq_eq_eq_not, Bool.not_true]
      refine ⟨fun z => e z.symm, fun z => e2 z.symm, ?_⟩
      by_cases z : j + 1 = i
      · exact Or.inr (h2 z)
      · exact Or.inl z
/-- a cell -/
def pm_fv (E : PE) (S : PS) (a ci k : Nat) : Value := pm_rv E (pm_gv (pm_tag (pm_ft ci k)) a k S)
def pm_ce (E : PE) (S : PS) (a : Nat) : va_E :=
  if (S.1.2.2.1 a).1 = 100 ∨ (S.1.2.2.1 a).1 = 101 ∨ (S.1.2.2.1 a).1 = 102 then .inl (E.2.2.2 (S.1.2.2.1 a).1, (S.1.2.2.1 a).2, .inl (fun k => Int32.ofInt (S.2.1 a k)))
  else if (S.1.2.2.1 a).1 = 103 then .inl (E.2.2.2 103, (S.1.2.2.1 a).2, .inr (.inl (fun k => Int64.ofInt (S.2.1 a k))))
  else if (S.1.2.2.1 a).1 = 104 then .inl (E.2.2.2 104, (S.1.2.2.1 a).2, .inr (.inr (.inr (.inr (fun k => if 0 ≤ S.2.2 a k then some (E.1 + (S.2.2 a k).toNat) else none)))))
  else .inr ((S.1.2.2.1 a).1, (List.range (pm_nf (S.1.2.2.1 a).1)).map (fun k => pm_fv E S a (S.1.2.2.1 a).1 k))
def pm_wd (E : PE) (S : PS) : va_W := (List.range S.1.1).map (fun a => (E.1 + a, pm_ce E S a))
theorem pm_wd_at (E : PE) {S : PS} {a : Nat} (h : a < S.1.1) : (pm_wd E S)[a]? = some (E.1 + a, pm_ce E S a) := by
  unfold pm_wd
  rw [List.getElem?_map, List.getElem?_range h]
  rfl
theorem pm_wd_len (E : PE) (S : PS) : (pm_wd E S).length = S.1.1 := by
  unfold pm_wd
  rw [List.length_map, List.length_range]
theorem pm_wd_D (E : PE) (S : PS) : va_D (fun q => E.1 ≤ q) (pm_wd E S) := by
  have key : ∀ (i : Nat) (q : Nat × va_E), (pm_wd E S)[i]? = some q → q.1 = E.1 + i := by
    intro i q h
    have hl : i < S.1.1 := by
      have := (List.getElem?_eq_some_iff.mp h).1
      rwa [pm_wd_len] at this
    rw [pm_wd_at E hl] at h
    cases h
    rfl
  refine ⟨fun i j x y hx hy e => ?_, fun k q hk => ?_⟩
  · have h1 := key i x hx
    have h2 := key j y hy
    omega
  · have h1 := key k q hk
    show E.1 ≤ q.1
    omega
theorem pm_wd_set {E : PE} {S S' : PS} {a : Nat} (hg : S'.1.1 = S.1.1) (hne : ∀ b, b ≠ a → pm_ce E S' b = pm_ce E S b) : (pm_wd E S).set a (E.1 + a, pm_ce E S' a) = pm_wd E S' := by
  refine List.ext_getElem? (fun i => ?_)
  by_cases hi : i < S.1.1
  · by_cases e : a = i
    · subst e
      rw [List.getElem?_set_self (by rw [pm_wd_len]; exact hi), pm_wd_at E (by rw [hg]; exact hi)]
    · rw [List.getElem?_set_ne e, pm_wd_at E hi, pm_wd_at E (by rw [hg]; exact hi), hne i (fun z => e z.symm)]
  · rw [List.getElem?_eq_none (by rw [List.length_set, pm_wd_len]; omega), List.getElem?_eq_none (by rw [pm_wd_len, hg]; omega)]
theorem pm_wd_push {E : PE} {S S' : PS} (hg : S'.1.1 = S.1.1 + 1) (hne : ∀ b, b < S.1.1 → pm_ce E S' b = pm_ce E S b) : pm_wd E S ++ [(E.1 + S.1.1, pm_ce E S' S.1.1)] = pm_wd E S' := by
  unfold pm_wd
  rw [hg, List.range_succ, List.map_append, List.map_cons, List.map_nil]
  congr 1
  exact List.map_congr_left (fun b hb => by rw [hne b (List.mem_range.mp hb)])
theorem pm_ce_m {E : PE} {G : PG} {M T : PH} {a b : Nat} {f : Nat → Int} (h : b ≠ a) : pm_ce E (G, pm_sa M a f, T) b = pm_ce E (G, M, T) b := by
  simp only [pm_ce, pm_fv, pm_gv, pm_sa, if_neg h]
theorem pm_ce_p {E : PE} {G : PG} {M T : PH} {a b : Nat} {f : Nat → Int} (h : b ≠ a) : pm_ce E (G, M, pm_sa T a f) b = pm_ce E (G, M, T) b := by
  simp only [pm_ce, pm_fv, pm_gv, pm_sa, if_neg h]
theorem pm_ce_i {E : PE} {S : PS} {a kd : Nat} (h : (S.1.2.2.1 a).1 = kd) (hk : kd = 100 ∨ kd = 101 ∨ kd = 102) : pm_ce E S a = .inl (E.2.2.2 kd, (S.1.2.2.1 a).2, .inl (fun k => Int32.ofInt (S.2.1 a k))) := by
  unfold pm_ce
  rw [h, if_pos hk]
theorem pm_ce_l {E : PE} {S : PS} {a : Nat} (h : (S.1.2.2.1 a).1 = 103) : pm_ce E S a = .inl (E.2.2.2 103, (S.1.2.2.1 a).2, .inr (.inl (fun k => Int64.ofInt (S.2.1 a k)))) := by
  unfold pm_ce
  rw [h, if_neg (by decide), if_pos rfl]
theorem pm_ce_q {E : PE} {S : PS} {a : Nat} (h : (S.1.2.2.1 a).1 = 104) : pm_ce E S a = .inl (E.2.2.2 104, (S.1.2.2.1 a).2, .inr (.inr (.inr (.inr (fun k => if 0 ≤ S.2.2 a k then some (E.1 + (S.2.2 a k).toNat) else none))))) := by
  unfold pm_ce
  rw [h, if_neg (by decide), if_neg (by decide), if_pos rfl]
theorem pm_ce_o {E : PE} {S : PS} {a ci : Nat} (h : (S.1.2.2.1 a).1 = ci) (hc : ci < 13) : pm_ce E S a = .inr (ci, (List.range (pm_nf ci)).map (fun k => pm_fv E S a ci k)) := by
  unfold pm_ce
  rw [h, if_neg (by omega), if_neg (by omega), if_neg (by omega)]
theorem pm_sgI (x : Int) : (Int32.ofInt x).toInt = pm_sg x := Int32.toInt_ofInt
theorem pm_slI (x : Int) : (Int64.ofInt x).toInt = pm_sl x := Int64.toInt_ofInt
theorem pm_ofI {x y : Int} (h : pm_sg x = y) : Int32.ofInt x = Int32.ofInt y := by
  rw [← h, ← pm_sgI, Int32.ofInt_toInt]
theorem pm_clamp (x : Int) : (Int32.ofInt x).toNatClampNeg = (pm_sg x).toNat := by
  show (Int32.ofInt x).toInt.toNat = _
  rw [pm_sgI]
theorem pm_ltI (x y : Int) : Int32.ofInt x < Int32.ofInt y ↔ pm_sg x < pm_sg y := by rw [Int32.lt_iff_toInt_lt, pm_sgI, pm_sgI]
theorem pm_leI (x y : Int) : Int32.ofInt x ≤ Int32.ofInt y ↔ pm_sg x ≤ pm_sg y := by rw [Int32.le_iff_toInt_le, pm_sgI, pm_sgI]
theorem pm_eqI (x y : Int) : Int32.ofInt x = Int32.ofInt y ↔ pm_sg x = pm_sg y := by rw [← Int32.toInt_inj, pm_sgI, pm_sgI]
theorem pm_zI : (0 : Int32) = Int32.ofInt 0 := rfl
theorem pm_sg0 : pm_sg 0 = 0 := by decide
theorem pm_inI {x : Int} {n : Nat} (h1 : 0 ≤ pm_sg x) (h2 : pm_sg x < n) : vp_in (Int32.ofInt x) n := by
  rw [vp_in_iff, pm_sgI]
  exact ⟨h1, h2⟩
