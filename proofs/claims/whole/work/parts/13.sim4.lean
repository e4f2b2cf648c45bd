/-! New cells; arraycopy; max, min. -/
theorem pm_ce_al {E : PE} {S : PS} {kd n b : Nat} (h : b < S.1.1) : pm_ce E (pm_al S kd n) b = pm_ce E S b := by
  have hne : b ≠ S.1.1 := by omega
  simp only [pm_ce, pm_al, pm_fv, pm_gv, pm_sa, if_neg hne]
theorem pm_dv {t : FieldType} (h : (match t with
  | .int => true
  | .long => true
  | .boolean => true
  | .object _ => true
  | .array _ => true
  | _ => false) = true) {E : PE} {S : PS} {ci n k : Nat} (ht : pm_ft ci k = t) : defaultValue t = pm_fv E (pm_al S ci n) S.1.1 ci k := by
  unfold pm_fv
  rw [ht]
  cases t <;> first | (simp at h; done) | (simp only [pm_tag, pm_gv, pm_al, pm_sa, if_true, if_false]; rfl)
section SIM
variable {p : Program} {l : Launch} {e : Env} {R : Room} {s : State} {m : MethodId} {args : Array Value} {below : List Frame} {meth : Method} {c : Code} {Q : State → Prop}
variable {D : va_G} {E : PE} {KS : Nat × (Nat → Int) → State → Heap → Prop} {nL N0 M0 : Nat} {pc : Nat} {ls st r : List PV} {S : PS} {cc : ByteArray}
/-- a new cell at the heap's end -/
theorem pn_push {kd n : Nat} {H H1 : Heap} {locs : List Loc} (hz : H.size = E.1 + S.1.1) (hH : pm_HR D E KS s S H locs) (z1 : H1.size = E.1 + S.1.1 + 1) (o1 : ∀ q, q < E.1 + S.1.1 → H1[q]? = H[q]?) (hat : va_at D vwCl (E.1 + S.1.1, pm_ce E (pm_al S kd n) S.1.1) H1) : pm_HR D E KS s (pm_al S kd n) H1 locs := by
  refine ⟨?_, ⟨Nat.le_trans hH.2.1.1 (by omega), fun x h1 h2 => (o1 x (by have := hH.2.1.1; omega)).trans (hH.2.1.2.1 x h1 h2), hH.2.1.2.2⟩, hH.2.2⟩
  rw [← pm_wd_push (S := S) (S' := pm_al S kd n) rfl (fun b hb => pm_ce_al hb)]
  refine va_P.app (hH.1.kept (fun k q hk => o1 q.1 (by have := (hH.1 k q hk).lt; omega))) (fun k q hk => ?_)
  have hk0 : k < 1 := (List.getElem?_eq_some_iff.mp hk).1
  rw [show k = 0 by omega] at hk
  cases hk
  exact hat
theorem pn_new : pm_rv E (.inr (.inr (.inl (S.1.1 : Int)))) = .ref (E.1 + S.1.1) := by
  rw [pm_rvA E (Int.natCast_nonneg _), Int.toNat_natCast]
theorem ps_newo {c0 idx ci : Nat} (hx : p.tables.exec = Jvm.exec) (hb : c.code = cc) (hts : ∀ w ∈ pm_tb, w.before args s = true) (ho : s.vm.findClass (pm_cn c0) = some m.cls) (hK : va_K D vwCl (pm_tys E) s) (h0 : s.heap.size = E.1 + N0) (hr : pm_nr c0 idx = some ci) (hci : ci < 13) (hrc : S.1.1 + 1 ≤ R.cells + N0) (hrs : S.1.2.1 + pm_nf ci ≤ R.slots + M0) (hd : decode cc pc = .ok (.new idx, 3))
    (kk : pm_Wc p l e R s m args below meth c Q D E KS nL N0 M0 (pc + 3, ls, .inr (.inr (.inl S.1.1)) :: st, pm_al S ci (pm_nf ci))) : pm_Wc p l e R s m args below meth c Q D E KS nL N0 M0 (pc, ls, st, S) := by
  intro H locs lsr cells slots hH hL hc hs
  have hc' : cells + N0 = S.1.1 := hc
  have hs' : slots + M0 = S.1.2.1 := hs
  refine pn_size h0 hH hc (fun hz => ?_)
  obtain ⟨e0, h1, h2, h3⟩ := pm_find hr
  simp only [Bool.and_eq_true, beq_iff_eq] at h2
  have h4 := pm_nr_ok e0 h1
  rw [h2.1, h2.2, h3] at h4
  obtain ⟨h5, h6⟩ := pm_cp_ok ci hci
  have hKn := hK.1 ci _ (pm_cls ci hci)
  refine W.newcK hx hb ho (hts _ (pm_tb_in h4 rfl)) (hts _ (pm_tb_in h5 rfl)) (hts _ (pm_tb_in h6 rfl)) rfl hd (by omega) (by omega) hKn.2.1 hz (fun H1 kC hkC e1 z1 o1 => ?_)
  have g := kk H1 locs lsr (cells + 1) (slots + pm_nf ci) (pn_push hz hH z1 o1 ?_) hL (by show cells + 1 + N0 = S.1.1 + 1; omega) (by show slots + pm_nf ci + M0 = S.1.2.1 + pm_nf ci; omega)
  · simp only [List.map_cons, pn_new] at g
    exact g
  · have hkd : ((pm_al S ci (pm_nf ci)).1.2.2.1 S.1.1).1 = ci := by simp [pm_al]
    rw [pm_ce_o (S := pm_al S ci (pm_nf ci)) (a := S.1.1) hkd hci]
    refine ⟨_, pm_cls ci hci, (u_born (fun k => pm_ft ci k) hts (pm_lays hci) hKn hkC e1 (pm_tyk ci hci)).to (fun j hj => ?_)⟩
    have hj' : j < pm_nf ci := hj
    simp only [vp_V, List.getD_eq_getElem?_getD, pm_fl hj', Option.getD_some]
    exact pm_dv (pm_tyo ci hci j hj').1 rfl
theorem ps_newaG {t : ArrayType} {ty : FieldType} {kd t0 : Nat} {n : Int} {a0 : vp_A} (hx : p.tables.exec = Jvm.exec) (hb : c.code = cc) (hK : va_K D vwCl (pm_tys E) s) (h0 : s.heap.size = E.1 + N0) (hty : newarray.typeOf t = ty) (hw : (Cond.arrayClass ty).before args s = true) (ht0 : (pm_tys E)[t0]? = some (E.2.2.2 kd, ty)) (hra : ∀ cA, va_RA s cA ty → s.vm.findClass ("[" ++ ty.toString) = some cA) (hn : 0 ≤ pm_sg n ∧ pm_sg n ≤ 100000) (hby : componentBytes ty ≤ 8)
    (hce : pm_ce E (pm_al S kd (pm_sg n).toNat) S.1.1 = .inl (E.2.2.2 kd, a0)) (ha0 : ∀ cA : ClassId, vp_cell cA a0 = arrV cA (pm_sg n).toNat (fun _ => defaultValue ty)) (hrc : S.1.1 + 1 ≤ R.cells + N0) (hrs : S.1.2.1 + (pm_sg n).toNat ≤ R.slots + M0) (hd : decode cc pc = .ok (.newarray t, 2))
    (kk : pm_Wc p l e R s m args below meth c Q D E KS nL N0 M0 (pc + 2, ls, .inr (.inr (.inl S.1.1)) :: r, pm_al S kd (pm_sg n).toNat)) : pm_Wc p l e R s m args below meth c Q D E KS nL N0 M0 (pc, ls, .inl n :: r, S) := by
  subst hty
  intro H locs lsr cells slots hH hL hc hs
  have hc' : cells + N0 = S.1.1 := hc
  have hs' : slots + M0 = S.1.2.1 := hs
  refine pn_size h0 hH hc (fun hz => ?_)
  simp only [List.map_cons, pm_rvI]
  have hneg : ¬ Int32.ofInt n < 0 := by rw [pm_zI, pm_ltI, pm_sg0]; omega
  have hb8 : (pm_sg n).toNat * componentBytes (newarray.typeOf t) ≤ 536870912 := by
    have h9 : (pm_sg n).toNat ≤ 100000 := by omega
    calc (pm_sg n).toNat * componentBytes (newarray.typeOf t) ≤ 100000 * 8 := Nat.mul_le_mul h9 hby
      _ ≤ 536870912 := by decide
  refine va_newaK hx hb hw rfl hd rfl hneg (pm_clamp n) hb8 (by omega) (by omega) hz (fun H1 cA e1 z1 o1 hAr hNm => ?_)
  have hcA : cA = E.2.2.2 kd := by
    have h7 := hra _ (hK.2 t0 _ ht0).2
    exact Option.some.inj (hNm.symm.trans h7)
  have g := kk H1 locs lsr (cells + 1) (slots + (pm_sg n).toNat) (pn_push hz hH z1 o1 ?_) hL (by show cells + 1 + N0 = S.1.1 + 1; omega) (by show slots + (pm_sg n).toNat + M0 = S.1.2.1 + (pm_sg n).toNat; omega)
  · simp only [List.map_cons, pn_new] at g
    exact g
  · rw [hce]
    show H1[E.1 + S.1.1]? = some (vp_cell _ _)
    rw [ha0, ← hcA]
    exact e1
theorem ps_newr {c0 idx : Nat} {n : Int} (hx : p.tables.exec = Jvm.exec) (hb : c.code = cc) (hts : ∀ w ∈ pm_tb, w.before args s = true) (ho : s.vm.findClass (pm_cn c0) = some m.cls) (hK : va_K D vwCl (pm_tys E) s) (hO : va_AO RX5 s) (h0 : s.heap.size = E.1 + N0) (hr : pm_nr c0 idx = some 5) (hn : 0 ≤ pm_sg n ∧ pm_sg n ≤ 100000) (hrc : S.1.1 + 1 ≤ R.cells + N0) (hrs : S.1.2.1 + (pm_sg n).toNat ≤ R.slots + M0) (hd : decode cc pc = .ok (.anewarray idx, 3))
    (kk : pm_Wc p l e R s m args below meth c Q D E KS nL N0 M0 (pc + 3, ls, .inr (.inr (.inl S.1.1)) :: r, pm_al S 104 (pm_sg n).toNat)) : pm_Wc p l e R s m args below meth c Q D E KS nL N0 M0 (pc, ls, .inl n :: r, S) := by
  intro H locs lsr cells slots hH hL hc hs
  have hc' : cells + N0 = S.1.1 := hc
  have hs' : slots + M0 = S.1.2.1 := hs
  refine pn_size h0 hH hc (fun hz => ?_)
  obtain ⟨e0, h1, h2, h3⟩ := pm_find hr
  simp only [Bool.and_eq_true, beq_iff_eq] at h2
  have h4 := pm_nr_ok e0 h1
  rw [h2.1, h2.2, h3] at h4
  simp only [List.map_cons, pm_rvI]
  have hneg : ¬ Int32.ofInt n < 0 := by rw [pm_zI, pm_ltI, pm_sg0]; omega
  refine W.anew (C := RX5) hx hb ho (hts _ (pm_tb_in h4 rfl)) (va_AO.use hO) rfl hd rfl hneg (by rw [pm_clamp]; omega) (by omega) (by rw [pm_clamp]; omega) (fun cA kA comp f1 f2 f3 f4 => ?_)
  have hcA : cA = E.2.2.2 104 := by
    obtain ⟨kA', comp', -, -, -, g4⟩ := (hK.2 4 _ (show (pm_tys E)[4]? = some (E.2.2.2 104, .object RX5) from rfl)).2
    exact Option.some.inj (f1.symm.trans g4)
  rw [pm_clamp, arrV_new, hz]
  generalize hH1 : H.push (arrV cA (pm_sg n).toNat (fun _ => .null)) = H1
  have z1 : H1.size = E.1 + S.1.1 + 1 := by rw [← hH1, Array.size_push, hz]
  have e1 : H1[E.1 + S.1.1]? = some (arrV cA (pm_sg n).toNat (fun _ => .null)) := by rw [← hH1, ← hz, Array.getElem?_push_size]
  have o1 : ∀ q : Nat, q < E.1 + S.1.1 → H1[q]? = H[q]? := fun q hq => by rw [← hH1, Array.getElem?_push, if_neg (by omega)]
  have g := kk H1 locs lsr (cells + 1) (slots + (pm_sg n).toNat) (pn_push hz hH z1 o1 ?_) hL (by show cells + 1 + N0 = S.1.1 + 1; omega) (by show slots + (pm_sg n).toNat + M0 = S.1.2.1 + (pm_sg n).toNat; omega)
  · simp only [List.map_cons, pn_new] at g
    exact g
  · have hkd : ((pm_al S 104 (pm_sg n).toNat).1.2.2.1 S.1.1) = (104, (pm_sg n).toNat) := by simp [pm_al]
    rw [pm_ce_q (S := pm_al S 104 (pm_sg n).toNat) (a := S.1.1) (by rw [hkd])]
    show H1[E.1 + S.1.1]? = some (vp_cell _ _)
    rw [vp_cell_q, hkd, ← hcA, e1]
    congr 2
    funext k
    simp [pm_al, pm_sa, va_rf]
theorem ps_acpy {c0 idx : Nat} {a b sp dp n : Int} (hx : p.tables.exec = Jvm.exec) (hb : c.code = cc) (hml : c.maxLocals = nL) (hts : ∀ w ∈ pm_tb, w.before args s = true) (ho : s.vm.findClass (pm_cn c0) = some m.cls) (hK : va_K D vwCl (pm_tys E) s) (hR : 1 ≤ R.frames ∧ 60 ≤ R.locals) (hl : (Cond.methodLink (pm_cn c0) idx arraycopyName).before args s = true) (hnat : (Cond.native arraycopyName).before args s = true) (hstat : (Cond.static arraycopyName).before args s = true) (hini : (Cond.initialized "java/lang/System").before args s = true)
    (ha : pm_ob S.1 a 100) (hbb : pm_ob S.1 b 100) (h1 : 0 ≤ pm_sg sp) (h2 : 0 ≤ pm_sg dp) (h3 : 0 ≤ pm_sg n) (h4 : pm_sg sp + pm_sg n ≤ (S.1.2.2.1 a.toNat).2) (h5 : pm_sg dp + pm_sg n ≤ (S.1.2.2.1 b.toNat).2) (hw : pm_wl r ≤ 8) (hd : decode cc pc = .ok (.invokestatic idx, 3))
    (kk : pm_Wc p l e R s m args below meth c Q D E KS nL N0 M0 (pc + 3, ls, r, (S.1, pm_sa S.2.1 b.toNat (pm_cp (S.2.1 a.toNat) (S.2.1 b.toNat) (pm_sg sp).toNat (pm_sg dp).toNat (pm_sg n).toNat), S.2.2))) : pm_Wc p l e R s m args below meth c Q D E KS nL N0 M0 (pc, ls, .inl n :: .inl dp :: .inr (.inr (.inl b)) :: .inl sp :: .inr (.inr (.inl a)) :: r, S) := by
  intro H locs lsr cells slots hH hL hc hs
  obtain ⟨a1, a2, a3⟩ := ha
  obtain ⟨b1, b2, b3⟩ := hbb
  simp only [List.map_cons, pm_rvA E a1, pm_rvA E b1, pm_rvI]
  have nn : ∀ x : Int, 0 ≤ pm_sg x → ¬ Int32.ofInt x < 0 := fun x hx => by rw [pm_zI, pm_ltI, pm_sg0]; omega
  have hnw : nativeFrameWords "java/lang/System" "arraycopy" 5 = 7 := by decide
  refine va_copyi (ty := .int) hx hb (by rw [hml]; exact hL.2.1.symm) ho hl hnat hstat hini hK hH.1 (pm_wd_D E S) hH.2.1 a.toNat b.toNat 0 0 (by rw [pm_wd_at E a2, pm_ce_i a3 (by decide)]) (by rw [pm_wd_at E b2, pm_ce_i b3 (by decide)]) rfl rfl rfl (nn sp h1) (nn dp h2) (nn n h3) (by rw [pm_clamp, pm_clamp]; omega) (by rw [pm_clamp, pm_clamp]; omega) (fun _ _ => rfl) hR.1 (by rw [pm_cats, hnw]; omega) hd (fun H1 locs1 q1 _ q2 => kk H1 locs1 lsr cells slots ⟨?_, q2, hH.2.2⟩ hL hc hs)
  have e1 : pm_ce E (S.1, pm_sa S.2.1 b.toNat (pm_cp (S.2.1 a.toNat) (S.2.1 b.toNat) (pm_sg sp).toNat (pm_sg dp).toNat (pm_sg n).toNat), S.2.2) b.toNat = .inl (E.2.2.2 100, (S.1.2.2.1 b.toNat).2, .inl (va_cpy (fun k => Int32.ofInt (S.2.1 a.toNat k)) (fun k => Int32.ofInt (S.2.1 b.toNat k)) (pm_sg sp).toNat (pm_sg dp).toNat (pm_sg n).toNat)) := by
    rw [pm_ce_i (S := (S.1, pm_sa S.2.1 b.toNat (pm_cp (S.2.1 a.toNat) (S.2.1 b.toNat) (pm_sg sp).toNat (pm_sg dp).toNat (pm_sg n).toNat), S.2.2)) b3 (by decide)]
    simp only [pm_sa_s]
    congr 4
    funext k
    unfold pm_cp va_cpy
    split <;> rfl
  have q3 : va_P D vwCl ((pm_wd E S).set b.toNat (E.1 + b.toNat, .inl (E.2.2.2 100, (S.1.2.2.1 b.toNat).2, .inl (va_cpy (fun k => Int32.ofInt (S.2.1 a.toNat k)) (fun k => Int32.ofInt (S.2.1 b.toNat k)) (pm_sg sp).toNat (pm_sg dp).toNat (pm_sg n).toNat)))) H1 := by
    rw [pm_clamp, pm_clamp, pm_clamp] at q1
    exact q1
  rw [← e1, pm_wd_set (E := E) (S := S) (S' := (S.1, pm_sa S.2.1 b.toNat (pm_cp (S.2.1 a.toNat) (S.2.1 b.toNat) (pm_sg sp).toNat (pm_sg dp).toNat (pm_sg n).toNat), S.2.2)) rfl (fun b hb => pm_ce_m hb)] at q3
  exact q3
theorem ps_mx {c0 idx : Nat} {x y : Int} (hx : p.tables.exec = Jvm.exec) (hb : c.code = cc) (hml : c.maxLocals = nL) (ho : s.vm.findClass (pm_cn c0) = some m.cls) (hR : 1 ≤ R.frames ∧ 60 ≤ R.locals) (hrc : S.1.1 ≤ R.cells + N0) (hrs : S.1.2.1 ≤ R.slots + M0) (hl : (Cond.methodLink (pm_cn c0) idx Lib.Math.max.name).before args s = true) (hstat : (Cond.static Lib.Math.max.name).before args s = true) (hini : (Cond.initialized "java/lang/Math").before args s = true) (hcode : (Cond.code Lib.Math.max.name Lib.Math.max.code 2 (some .int)).before args s = true) (hw : pm_wl r ≤ 8) (hd : decode cc pc = .ok (.invokestatic idx, 3))
    (kk : pm_Wc p l e R s m args below meth c Q D E KS nL N0 M0 (pc + 3, ls, .inl (pm_mx x y) :: r, S)) : pm_Wc p l e R s m args below meth c Q D E KS nL N0 M0 (pc, ls, .inl y :: .inl x :: r, S) := by
  intro H locs lsr cells slots hH hL hc hs
  have hc' : cells + N0 = S.1.1 := hc
  have hs' : slots + M0 = S.1.2.1 := hs
  refine va_mmax hx hb (by rw [hml]; exact hL.2.1.symm) ho hl hstat hini hcode hR.1 (by rw [pm_cats]; omega) (by omega) (by omega) hd (pn_w ?_ (kk H locs lsr cells slots hH hL hc hs))
  unfold pm_mx
  rw [pm_rvI, ← apply_ite Int32.ofInt]
  simp only [pm_ltI]
theorem ps_mn {c0 idx : Nat} {x y : Int} (hx : p.tables.exec = Jvm.exec) (hb : c.code = cc) (hml : c.maxLocals = nL) (ho : s.vm.findClass (pm_cn c0) = some m.cls) (hR : 1 ≤ R.frames ∧ 60 ≤ R.locals) (hrc : S.1.1 ≤ R.cells + N0) (hrs : S.1.2.1 ≤ R.slots + M0) (hl : (Cond.methodLink (pm_cn c0) idx Lib.Math.min.name).before args s = true) (hstat : (Cond.static Lib.Math.min.name).before args s = true) (hini : (Cond.initialized "java/lang/Math").before args s = true) (hcode : (Cond.code Lib.Math.min.name Lib.Math.min.code 2 (some .int)).before args s = true) (hw : pm_wl r ≤ 8) (hd : decode cc pc = .ok (.invokestatic idx, 3))
    (kk : pm_Wc p l e R s m args below meth c Q D E KS nL N0 M0 (pc + 3, ls, .inl (pm_mn x y) :: r, S)) : pm_Wc p l e R s m args below meth c Q D E KS nL N0 M0 (pc, ls, .inl y :: .inl x :: r, S) := by
  intro H locs lsr cells slots hH hL hc hs
  have hc' : cells + N0 = S.1.1 := hc
  have hs' : slots + M0 = S.1.2.1 := hs
  refine va_mmin hx hb (by rw [hml]; exact hL.2.1.symm) ho hl hstat hini hcode hR.1 (by rw [pm_cats]; omega) (by omega) (by omega) hd (pn_w ?_ (kk H locs lsr cells slots hH hL hc hs))
  unfold pm_mn
  rw [pm_rvI, ← apply_ite Int32.ofInt]
  simp only [pm_ltI]
end SIM
