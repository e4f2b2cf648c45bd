/-! One step of the plain machine, and the real one. -/
def pm_HR (D : va_G) (E : PE) (KS : Nat × (Nat → Int) → State → Heap → Prop) (s : State) (S : PS) (H : Heap) (locs : List Loc) : Prop := va_P D vwCl (pm_wd E S) H ∧ va_S (fun q => E.1 ≤ q) s.heap H locs ∧ KS S.1.2.2.2 s s.heap
def pm_Wc (p : Program) (l : Launch) (e : Env) (R : Room) (s : State) (m : MethodId) (args : Array Value) (below : List Frame) (meth : Method) (c : Code) (Q : State → Prop) (D : va_G) (E : PE) (KS : Nat × (Nat → Int) → State → Heap → Prop) (nL N0 M0 : Nat) (q : PC) : Prop :=
  ∀ (H : Heap) (locs : List Loc) (lsr : Array Slot) (cells slots : Nat), pm_HR D E KS s q.2.2.2 H locs → pm_L E nL q.2.1 lsr → cells + N0 = q.2.2.2.1.1 → slots + M0 = q.2.2.2.1.2.1 → W p l e R s m args below meth c H locs cells slots Q (F0 m q.1 lsr (q.2.2.1.map (pm_rv E)))
section SIM
variable {p : Program} {l : Launch} {e : Env} {R : Room} {s : State} {m : MethodId} {args : Array Value} {below : List Frame} {meth : Method} {c : Code} {Q : State → Prop}
variable {D : va_G} {E : PE} {KS : Nat × (Nat → Int) → State → Heap → Prop} {nL N0 M0 : Nat} {pc : Nat} {ls st r : List PV} {S : PS} {cc : ByteArray}
theorem pn_w {v w : Value} {pc : Nat} {lsr : Array Slot} {rest : List Value} {H : Heap} {locs : List Loc} {cells slots : Nat} (h : v = w) (k : W p l e R s m args below meth c H locs cells slots Q (F0 m pc lsr (w :: rest))) : W p l e R s m args below meth c H locs cells slots Q (F0 m pc lsr (v :: rest)) := by rw [h]; exact k
theorem ps_iload_n (hx : p.tables.exec = Jvm.exec) (hb : c.code = cc) {k9 : Fin 4} {x : Int} (hv : ls[(k9 : Nat)]? = some (.inl x)) (hd : decode cc pc = .ok (.iload_n k9, 1)) (k : pm_Wc p l e R s m args below meth c Q D E KS nL N0 M0 (pc + 1, ls, .inl x :: st, S)) : pm_Wc p l e R s m args below meth c Q D E KS nL N0 M0 (pc, ls, st, S) := by
  intro H locs lsr cells slots hH hL hc hs
  exact lv_iload_n hx hb hd rfl (hL.2.2.2 _ _ hv (by simp)) (k H locs lsr cells slots hH hL hc hs)
theorem ps_iload (hx : p.tables.exec = Jvm.exec) (hb : c.code = cc) {k9 : Nat} {x : Int} (hv : ls[k9]? = some (.inl x)) (hd : decode cc pc = .ok (.iload k9, 2)) (k : pm_Wc p l e R s m args below meth c Q D E KS nL N0 M0 (pc + 2, ls, .inl x :: st, S)) : pm_Wc p l e R s m args below meth c Q D E KS nL N0 M0 (pc, ls, st, S) := by
  intro H locs lsr cells slots hH hL hc hs
  exact lv_iload hx hb hd (hL.2.2.2 _ _ hv (by simp)) (k H locs lsr cells slots hH hL hc hs)
theorem ps_lload_n (hx : p.tables.exec = Jvm.exec) (hb : c.code = cc) {k9 : Fin 4} {x : Int} (hv : ls[(k9 : Nat)]? = some (.inr (.inl x))) (hd : decode cc pc = .ok (.lload_n k9, 1)) (k : pm_Wc p l e R s m args below meth c Q D E KS nL N0 M0 (pc + 1, ls, .inr (.inl x) :: st, S)) : pm_Wc p l e R s m args below meth c Q D E KS nL N0 M0 (pc, ls, st, S) := by
  intro H locs lsr cells slots hH hL hc hs
  exact lv_lload_n hx hb hd rfl (hL.2.2.2 _ _ hv (by simp)) (k H locs lsr cells slots hH hL hc hs)
theorem ps_lload (hx : p.tables.exec = Jvm.exec) (hb : c.code = cc) {k9 : Nat} {x : Int} (hv : ls[k9]? = some (.inr (.inl x))) (hd : decode cc pc = .ok (.lload k9, 2)) (k : pm_Wc p l e R s m args below meth c Q D E KS nL N0 M0 (pc + 2, ls, .inr (.inl x) :: st, S)) : pm_Wc p l e R s m args below meth c Q D E KS nL N0 M0 (pc, ls, st, S) := by
  intro H locs lsr cells slots hH hL hc hs
  exact lv_lload hx hb hd (hL.2.2.2 _ _ hv (by simp)) (k H locs lsr cells slots hH hL hc hs)
theorem ps_aload_n (hx : p.tables.exec = Jvm.exec) (hb : c.code = cc) {k9 : Fin 4} {x : Int} (hv : ls[(k9 : Nat)]? = some (.inr (.inr (.inl x)))) (hd : decode cc pc = .ok (.aload_n k9, 1)) (k : pm_Wc p l e R s m args below meth c Q D E KS nL N0 M0 (pc + 1, ls, .inr (.inr (.inl x)) :: st, S)) : pm_Wc p l e R s m args below meth c Q D E KS nL N0 M0 (pc, ls, st, S) := by
  intro H locs lsr cells slots hH hL hc hs
  have h := hL.2.2.2 _ _ hv (by simp)
  have g := k H locs lsr cells slots hH hL hc hs
  by_cases hn : x = -1
  · subst hn
    exact lv_aload_nN hx hb hd rfl h g
  · obtain ⟨q, hq⟩ := pm_rvR E hn
    rw [hq] at h
    simp only [List.map_cons, hq] at g
    exact lv_aload_n hx hb hd rfl h g
theorem ps_aload (hx : p.tables.exec = Jvm.exec) (hb : c.code = cc) {k9 : Nat} {x : Int} (hv : ls[k9]? = some (.inr (.inr (.inl x)))) (hd : decode cc pc = .ok (.aload k9, 2)) (k : pm_Wc p l e R s m args below meth c Q D E KS nL N0 M0 (pc + 2, ls, .inr (.inr (.inl x)) :: st, S)) : pm_Wc p l e R s m args below meth c Q D E KS nL N0 M0 (pc, ls, st, S) := by
  intro H locs lsr cells slots hH hL hc hs
  have h := hL.2.2.2 _ _ hv (by simp)
  have g := k H locs lsr cells slots hH hL hc hs
  by_cases hn : x = -1
  · subst hn
    exact lv_aloadN hx hb hd h g
  · obtain ⟨q, hq⟩ := pm_rvR E hn
    rw [hq] at h
    simp only [List.map_cons, hq] at g
    exact lv_aload hx hb hd h g
theorem ps_istore_n (hx : p.tables.exec = Jvm.exec) (hb : c.code = cc) {k9 : Fin 4} {x : Int} (hn : (k9 : Nat) < ls.length) (hd : decode cc pc = .ok (.istore_n k9, 1)) (k : pm_Wc p l e R s m args below meth c Q D E KS nL N0 M0 (pc + 1, pm_s1 ls (k9 : Nat) (.inl x), r, S)) : pm_Wc p l e R s m args below meth c Q D E KS nL N0 M0 (pc, ls, .inl x :: r, S) := by
  intro H locs lsr cells slots hH hL hc hs
  exact lv_istore_n hx hb hd rfl (pm_L_has hL) (by rw [← hL.1]; exact hn) rfl (fun lsr hl => k H locs lsr cells slots hH (pm_L_s1 (v := .inl x) hL hl) hc hs)
theorem ps_istore (hx : p.tables.exec = Jvm.exec) (hb : c.code = cc) {k9 : Nat} {x : Int} (hn : k9 < ls.length) (hd : decode cc pc = .ok (.istore k9, 2)) (k : pm_Wc p l e R s m args below meth c Q D E KS nL N0 M0 (pc + 2, pm_s1 ls k9 (.inl x), r, S)) : pm_Wc p l e R s m args below meth c Q D E KS nL N0 M0 (pc, ls, .inl x :: r, S) := by
  intro H locs lsr cells slots hH hL hc hs
  exact lv_istore hx hb hd (pm_L_has hL) (by rw [← hL.1]; exact hn) rfl (fun lsr hl => k H locs lsr cells slots hH (pm_L_s1 (v := .inl x) hL hl) hc hs)
theorem ps_lstore_n (hx : p.tables.exec = Jvm.exec) (hb : c.code = cc) {k9 : Fin 4} {x : Int} (hn : (k9 : Nat) + 1 < ls.length) (hd : decode cc pc = .ok (.lstore_n k9, 1)) (k : pm_Wc p l e R s m args below meth c Q D E KS nL N0 M0 (pc + 1, pm_s2 ls (k9 : Nat) (.inr (.inl x)), r, S)) : pm_Wc p l e R s m args below meth c Q D E KS nL N0 M0 (pc, ls, .inr (.inl x) :: r, S) := by
  intro H locs lsr cells slots hH hL hc hs
  exact lv_lstore_n hx hb hd rfl (pm_L_has hL) (by rw [← hL.1]; exact hn) rfl (fun lsr hl => k H locs lsr cells slots hH (pm_L_s2 (v := .inr (.inl x)) hL hl) hc hs)
theorem ps_lstore (hx : p.tables.exec = Jvm.exec) (hb : c.code = cc) {k9 : Nat} {x : Int} (hn : k9 + 1 < ls.length) (hd : decode cc pc = .ok (.lstore k9, 2)) (k : pm_Wc p l e R s m args below meth c Q D E KS nL N0 M0 (pc + 2, pm_s2 ls k9 (.inr (.inl x)), r, S)) : pm_Wc p l e R s m args below meth c Q D E KS nL N0 M0 (pc, ls, .inr (.inl x) :: r, S) := by
  intro H locs lsr cells slots hH hL hc hs
  exact lv_lstore hx hb hd (pm_L_has hL) (by rw [← hL.1]; exact hn) rfl (fun lsr hl => k H locs lsr cells slots hH (pm_L_s2 (v := .inr (.inl x)) hL hl) hc hs)
theorem ps_astore_n (hx : p.tables.exec = Jvm.exec) (hb : c.code = cc) {k9 : Fin 4} {x : Int} (hn : (k9 : Nat) < ls.length) (hd : decode cc pc = .ok (.astore_n k9, 1)) (k : pm_Wc p l e R s m args below meth c Q D E KS nL N0 M0 (pc + 1, pm_s1 ls (k9 : Nat) (.inr (.inr (.inl x))), r, S)) : pm_Wc p l e R s m args below meth c Q D E KS nL N0 M0 (pc, ls, .inr (.inr (.inl x)) :: r, S) := by
  intro H locs lsr cells slots hH hL hc hs
  by_cases hz : x = -1
  · subst hz
    exact lv_astore_nN hx hb hd rfl (pm_L_has hL) (by rw [← hL.1]; exact hn) rfl (fun lsr hl => k H locs lsr cells slots hH (pm_L_s1 (v := .inr (.inr (.inl (-1)))) hL hl) hc hs)
  · obtain ⟨q, hq⟩ := pm_rvR E hz
    simp only [List.map_cons, hq]
    exact lv_astore_n hx hb hd rfl (pm_L_has hL) (by rw [← hL.1]; exact hn) rfl (fun lsr hl => k H locs lsr cells slots hH (pm_L_s1 (v := .inr (.inr (.inl x))) hL (by rw [hq]; exact hl)) hc hs)
theorem ps_astore (hx : p.tables.exec = Jvm.exec) (hb : c.code = cc) {k9 : Nat} {x : Int} (hn : k9 < ls.length) (hd : decode cc pc = .ok (.astore k9, 2)) (k : pm_Wc p l e R s m args below meth c Q D E KS nL N0 M0 (pc + 2, pm_s1 ls k9 (.inr (.inr (.inl x))), r, S)) : pm_Wc p l e R s m args below meth c Q D E KS nL N0 M0 (pc, ls, .inr (.inr (.inl x)) :: r, S) := by
  intro H locs lsr cells slots hH hL hc hs
  by_cases hz : x = -1
  · subst hz
    exact lv_astoreN hx hb hd (pm_L_has hL) (by rw [← hL.1]; exact hn) rfl (fun lsr hl => k H locs lsr cells slots hH (pm_L_s1 (v := .inr (.inr (.inl (-1)))) hL hl) hc hs)
  · obtain ⟨q, hq⟩ := pm_rvR E hz
    simp only [List.map_cons, hq]
    exact lv_astore hx hb hd (pm_L_has hL) (by rw [← hL.1]; exact hn) rfl (fun lsr hl => k H locs lsr cells slots hH (pm_L_s1 (v := .inr (.inr (.inl x))) hL (by rw [hq]; exact hl)) hc hs)
theorem ps_iinc (hx : p.tables.exec = Jvm.exec) (hb : c.code = cc) {k9 : Nat} {x z : Int} (hv : ls[k9]? = some (.inl x)) (hd : decode cc pc = .ok (.iinc k9 z, 3)) (k : pm_Wc p l e R s m args below meth c Q D E KS nL N0 M0 (pc + 3, pm_s1 ls k9 (.inl (x + z)), st, S)) : pm_Wc p l e R s m args below meth c Q D E KS nL N0 M0 (pc, ls, st, S) := by
  intro H locs lsr cells slots hH hL hc hs
  have h := pm_av_in (E := E) hv (by simp)
  obtain ⟨j, hj⟩ := List.getElem?_of_mem h
  have hn : k9 < nL := by rw [← hL.1]; exact (List.getElem?_eq_some_iff.mp hv).1
  exact lv_iinc (v := Int32.ofInt (x + z)) hx hb hd (pm_L_has hL) hj (Int32.ofInt_add ..).symm hn rfl (fun lsr hl => k H locs lsr cells slots hH (pm_L_s1 (v := .inl (x + z)) hL hl) hc hs)
theorem ps_iconst (hx : p.tables.exec = Jvm.exec) (hb : c.code = cc) {z : Int} (hd : decode cc pc = .ok (.iconst z, 1)) (k : pm_Wc p l e R s m args below meth c Q D E KS nL N0 M0 (pc + 1, ls, .inl z :: st, S)) : pm_Wc p l e R s m args below meth c Q D E KS nL N0 M0 (pc, ls, st, S) := by
  intro H locs lsr cells slots hH hL hc hs
  exact lv_iconst hx hb hd rfl (k H locs lsr cells slots hH hL hc hs)
theorem ps_bipush (hx : p.tables.exec = Jvm.exec) (hb : c.code = cc) {z : Int} (hz : -128 ≤ z ∧ z < 128) (hd : decode cc pc = .ok (.bipush z, 2)) (k : pm_Wc p l e R s m args below meth c Q D E KS nL N0 M0 (pc + 2, ls, .inl z :: st, S)) : pm_Wc p l e R s m args below meth c Q D E KS nL N0 M0 (pc, ls, st, S) := by
  intro H locs lsr cells slots hH hL hc hs
  refine lv_bipush hx hb hd ?_ (k H locs lsr cells slots hH hL hc hs)
  refine Int32.toInt.inj ?_
  rw [Int8.toInt_toInt32, Int8.toInt_ofInt_of_le (by omega) (by omega), Int32.toInt_ofInt_of_le (by omega) (by omega)]
theorem ps_sipush (hx : p.tables.exec = Jvm.exec) (hb : c.code = cc) {z : Int} (hz : -32768 ≤ z ∧ z < 32768) (hd : decode cc pc = .ok (.sipush z, 3)) (k : pm_Wc p l e R s m args below meth c Q D E KS nL N0 M0 (pc + 3, ls, .inl z :: st, S)) : pm_Wc p l e R s m args below meth c Q D E KS nL N0 M0 (pc, ls, st, S) := by
  intro H locs lsr cells slots hH hL hc hs
  refine lv_sipush hx hb hd ?_ (k H locs lsr cells slots hH hL hc hs)
  refine Int32.toInt.inj ?_
  rw [Int16.toInt_toInt32, Int16.toInt_ofInt_of_le (by omega) (by omega), Int32.toInt_ofInt_of_le (by omega) (by omega)]
theorem ps_lconst (hx : p.tables.exec = Jvm.exec) (hb : c.code = cc) {z : Fin 2} (hd : decode cc pc = .ok (.lconst z, 1)) (k : pm_Wc p l e R s m args below meth c Q D E KS nL N0 M0 (pc + 1, ls, .inr (.inl ((z : Nat) : Int)) :: st, S)) : pm_Wc p l e R s m args below meth c Q D E KS nL N0 M0 (pc, ls, st, S) := by
  intro H locs lsr cells slots hH hL hc hs
  exact lv_lconst hx hb hd (Int64.ofInt_eq_ofNat).symm (k H locs lsr cells slots hH hL hc hs)
theorem ps_ldc (hx : p.tables.exec = Jvm.exec) (hb : c.code = cc) {own : String} {idx : Nat} {z : Int} (ho : s.vm.findClass own = some m.cls) (hw : (Cond.constant own idx (Int32.ofInt z)).before args s = true) (hd : decode cc pc = .ok (.ldc idx, 2)) (k : pm_Wc p l e R s m args below meth c Q D E KS nL N0 M0 (pc + 2, ls, .inl z :: st, S)) : pm_Wc p l e R s m args below meth c Q D E KS nL N0 M0 (pc, ls, st, S) := by
  intro H locs lsr cells slots hH hL hc hs
  exact lv_ldc hx hb ho hw hd (k H locs lsr cells slots hH hL hc hs)
theorem ps_ldcw (hx : p.tables.exec = Jvm.exec) (hb : c.code = cc) {own : String} {idx : Nat} {z : Int} (ho : s.vm.findClass own = some m.cls) (hw : (Cond.constant own idx (Int32.ofInt z)).before args s = true) (hd : decode cc pc = .ok (.ldc_w idx, 3)) (k : pm_Wc p l e R s m args below meth c Q D E KS nL N0 M0 (pc + 3, ls, .inl z :: st, S)) : pm_Wc p l e R s m args below meth c Q D E KS nL N0 M0 (pc, ls, st, S) := by
  intro H locs lsr cells slots hH hL hc hs
  exact lv_ldcw hx hb ho hw hd (k H locs lsr cells slots hH hL hc hs)
theorem ps_ldc2 (hx : p.tables.exec = Jvm.exec) (hb : c.code = cc) {own : String} {idx : Nat} {z : Int} (ho : s.vm.findClass own = some m.cls) (hw : (Cond.constantLong own idx (Int64.ofInt z)).before args s = true) (hd : decode cc pc = .ok (.ldc2_w idx, 3)) (k : pm_Wc p l e R s m args below meth c Q D E KS nL N0 M0 (pc + 3, ls, .inr (.inl z) :: st, S)) : pm_Wc p l e R s m args below meth c Q D E KS nL N0 M0 (pc, ls, st, S) := by
  intro H locs lsr cells slots hH hL hc hs
  exact lv_ldc2 hx hb ho hw hd (k H locs lsr cells slots hH hL hc hs)
theorem ps_iadd (hx : p.tables.exec = Jvm.exec) (hb : c.code = cc) {x y : Int} (hd : decode cc pc = .ok (.iadd, 1)) (k : pm_Wc p l e R s m args below meth c Q D E KS nL N0 M0 (pc + 1, ls, .inl (x + y) :: r, S)) : pm_Wc p l e R s m args below meth c Q D E KS nL N0 M0 (pc, ls, .inl y :: .inl x :: r, S) := by
  intro H locs lsr cells slots hH hL hc hs
  exact lv_iadd hx hb hd (pn_w (congrArg Value.int (Int32.ofInt_add ..).symm) (k H locs lsr cells slots hH hL hc hs))
theorem ps_isub (hx : p.tables.exec = Jvm.exec) (hb : c.code = cc) {x y : Int} (hd : decode cc pc = .ok (.isub, 1)) (k : pm_Wc p l e R s m args below meth c Q D E KS nL N0 M0 (pc + 1, ls, .inl (x - y) :: r, S)) : pm_Wc p l e R s m args below meth c Q D E KS nL N0 M0 (pc, ls, .inl y :: .inl x :: r, S) := by
  intro H locs lsr cells slots hH hL hc hs
  exact lv_isub hx hb hd (pn_w (congrArg Value.int (Int32.ofInt_sub ..).symm) (k H locs lsr cells slots hH hL hc hs))
theorem ps_imul (hx : p.tables.exec = Jvm.exec) (hb : c.code = cc) {x y : Int} (hd : decode cc pc = .ok (.imul, 1)) (k : pm_Wc p l e R s m args below meth c Q D E KS nL N0 M0 (pc + 1, ls, .inl (x * y) :: r, S)) : pm_Wc p l e R s m args below meth c Q D E KS nL N0 M0 (pc, ls, .inl y :: .inl x :: r, S) := by
  intro H locs lsr cells slots hH hL hc hs
  exact lv_imul hx hb hd (pn_w (congrArg Value.int (Int32.ofInt_mul ..).symm) (k H locs lsr cells slots hH hL hc hs))
theorem ps_iand (hx : p.tables.exec = Jvm.exec) (hb : c.code = cc) {x y : Int} (hd : decode cc pc = .ok (.iand, 1)) (k : pm_Wc p l e R s m args below meth c Q D E KS nL N0 M0 (pc + 1, ls, .inl (pm_and x y) :: r, S)) : pm_Wc p l e R s m args below meth c Q D E KS nL N0 M0 (pc, ls, .inl y :: .inl x :: r, S) := by
  intro H locs lsr cells slots hH hL hc hs
  exact lv_iand hx hb hd (pn_w (congrArg Value.int (Int32.ofInt_toInt _).symm) (k H locs lsr cells slots hH hL hc hs))
theorem ps_ior (hx : p.tables.exec = Jvm.exec) (hb : c.code = cc) {x y : Int} (hd : decode cc pc = .ok (.ior, 1)) (k : pm_Wc p l e R s m args below meth c Q D E KS nL N0 M0 (pc + 1, ls, .inl (pm_or x y) :: r, S)) : pm_Wc p l e R s m args below meth c Q D E KS nL N0 M0 (pc, ls, .inl y :: .inl x :: r, S) := by
  intro H locs lsr cells slots hH hL hc hs
  exact lv_ior hx hb hd (pn_w (congrArg Value.int (Int32.ofInt_toInt _).symm) (k H locs lsr cells slots hH hL hc hs))
theorem ps_ixor (hx : p.tables.exec = Jvm.exec) (hb : c.code = cc) {x y : Int} (hd : decode cc pc = .ok (.ixor, 1)) (k : pm_Wc p l e R s m args below meth c Q D E KS nL N0 M0 (pc + 1, ls, .inl (pm_xor x y) :: r, S)) : pm_Wc p l e R s m args below meth c Q D E KS nL N0 M0 (pc, ls, .inl y :: .inl x :: r, S) := by
  intro H locs lsr cells slots hH hL hc hs
  exact lv_ixor hx hb hd (pn_w (congrArg Value.int (Int32.ofInt_toInt _).symm) (k H locs lsr cells slots hH hL hc hs))
theorem ps_ishl (hx : p.tables.exec = Jvm.exec) (hb : c.code = cc) {x y : Int} (hd : decode cc pc = .ok (.ishl, 1)) (k : pm_Wc p l e R s m args below meth c Q D E KS nL N0 M0 (pc + 1, ls, .inl (pm_shl x y) :: r, S)) : pm_Wc p l e R s m args below meth c Q D E KS nL N0 M0 (pc, ls, .inl y :: .inl x :: r, S) := by
  intro H locs lsr cells slots hH hL hc hs
  exact lv_ishl hx hb hd (pn_w (congrArg Value.int (Int32.ofInt_toInt _).symm) (k H locs lsr cells slots hH hL hc hs))
theorem ps_ishr (hx : p.tables.exec = Jvm.exec) (hb : c.code = cc) {x y : Int} (hd : decode cc pc = .ok (.ishr, 1)) (k : pm_Wc p l e R s m args below meth c Q D E KS nL N0 M0 (pc + 1, ls, .inl (pm_shr x y) :: r, S)) : pm_Wc p l e R s m args below meth c Q D E KS nL N0 M0 (pc, ls, .inl y :: .inl x :: r, S) := by
  intro H locs lsr cells slots hH hL hc hs
  exact lv_ishr hx hb hd (pn_w (congrArg Value.int (Int32.ofInt_toInt _).symm) (k H locs lsr cells slots hH hL hc hs))
theorem ps_ladd (hx : p.tables.exec = Jvm.exec) (hb : c.code = cc) {x y : Int} (hd : decode cc pc = .ok (.ladd, 1)) (k : pm_Wc p l e R s m args below meth c Q D E KS nL N0 M0 (pc + 1, ls, .inr (.inl (x + y)) :: r, S)) : pm_Wc p l e R s m args below meth c Q D E KS nL N0 M0 (pc, ls, .inr (.inl y) :: .inr (.inl x) :: r, S) := by
  intro H locs lsr cells slots hH hL hc hs
  exact lv_ladd hx hb hd (pn_w (congrArg Value.long (Int64.ofInt_add ..).symm) (k H locs lsr cells slots hH hL hc hs))
theorem ps_lsub (hx : p.tables.exec = Jvm.exec) (hb : c.code = cc) {x y : Int} (hd : decode cc pc = .ok (.lsub, 1)) (k : pm_Wc p l e R s m args below meth c Q D E KS nL N0 M0 (pc + 1, ls, .inr (.inl (x - y)) :: r, S)) : pm_Wc p l e R s m args below meth c Q D E KS nL N0 M0 (pc, ls, .inr (.inl y) :: .inr (.inl x) :: r, S) := by
  intro H locs lsr cells slots hH hL hc hs
  exact lv_lsub hx hb hd (pn_w (congrArg Value.long (Int64.ofInt_sub ..).symm) (k H locs lsr cells slots hH hL hc hs))
theorem ps_lmul (hx : p.tables.exec = Jvm.exec) (hb : c.code = cc) {x y : Int} (hd : decode cc pc = .ok (.lmul, 1)) (k : pm_Wc p l e R s m args below meth c Q D E KS nL N0 M0 (pc + 1, ls, .inr (.inl (x * y)) :: r, S)) : pm_Wc p l e R s m args below meth c Q D E KS nL N0 M0 (pc, ls, .inr (.inl y) :: .inr (.inl x) :: r, S) := by
  intro H locs lsr cells slots hH hL hc hs
  exact lv_lmul hx hb hd (pn_w (congrArg Value.long (Int64.ofInt_mul ..).symm) (k H locs lsr cells slots hH hL hc hs))
theorem ps_land (hx : p.tables.exec = Jvm.exec) (hb : c.code = cc) {x y : Int} (hd : decode cc pc = .ok (.land, 1)) (k : pm_Wc p l e R s m args below meth c Q D E KS nL N0 M0 (pc + 1, ls, .inr (.inl (pm_land x y)) :: r, S)) : pm_Wc p l e R s m args below meth c Q D E KS nL N0 M0 (pc, ls, .inr (.inl y) :: .inr (.inl x) :: r, S) := by
  intro H locs lsr cells slots hH hL hc hs
  exact lv_land hx hb hd (pn_w (congrArg Value.long (Int64.ofInt_toInt _).symm) (k H locs lsr cells slots hH hL hc hs))
theorem ps_lor (hx : p.tables.exec = Jvm.exec) (hb : c.code = cc) {x y : Int} (hd : decode cc pc = .ok (.lor, 1)) (k : pm_Wc p l e R s m args below meth c Q D E KS nL N0 M0 (pc + 1, ls, .inr (.inl (pm_lor x y)) :: r, S)) : pm_Wc p l e R s m args below meth c Q D E KS nL N0 M0 (pc, ls, .inr (.inl y) :: .inr (.inl x) :: r, S) := by
  intro H locs lsr cells slots hH hL hc hs
  exact lv_lor hx hb hd (pn_w (congrArg Value.long (Int64.ofInt_toInt _).symm) (k H locs lsr cells slots hH hL hc hs))
theorem ps_lshl (hx : p.tables.exec = Jvm.exec) (hb : c.code = cc) {x y : Int} (hd : decode cc pc = .ok (.lshl, 1)) (k : pm_Wc p l e R s m args below meth c Q D E KS nL N0 M0 (pc + 1, ls, .inr (.inl (pm_lshl x y)) :: r, S)) : pm_Wc p l e R s m args below meth c Q D E KS nL N0 M0 (pc, ls, .inl y :: .inr (.inl x) :: r, S) := by
  intro H locs lsr cells slots hH hL hc hs
  exact lv_lshl hx hb hd (Int64.ofInt_toInt _).symm (k H locs lsr cells slots hH hL hc hs)
theorem ps_lshr (hx : p.tables.exec = Jvm.exec) (hb : c.code = cc) {x y : Int} (hd : decode cc pc = .ok (.lshr, 1)) (k : pm_Wc p l e R s m args below meth c Q D E KS nL N0 M0 (pc + 1, ls, .inr (.inl (pm_lshr x y)) :: r, S)) : pm_Wc p l e R s m args below meth c Q D E KS nL N0 M0 (pc, ls, .inl y :: .inr (.inl x) :: r, S) := by
  intro H locs lsr cells slots hH hL hc hs
  exact lv_lshr hx hb hd (Int64.ofInt_toInt _).symm (k H locs lsr cells slots hH hL hc hs)
theorem pn_div (x y : Int) : Int32.ofInt (pm_div x y) = Int32.ofInt x / Int32.ofInt y := by
  refine Int32.toInt.inj ?_
  rw [Int32.toInt_div, pm_sgI, pm_sgI, pm_sgI]
  rfl
theorem pn_rem (x y : Int) : Int32.ofInt (pm_rem x y) = Int32.ofInt x - Int32.ofInt x / Int32.ofInt y * Int32.ofInt y := by
  rw [← pn_div]
  have h : pm_rem x y = pm_sg x - pm_div x y * pm_sg y := by
    unfold pm_rem pm_div
    rw [Int.tmod_def, Int.mul_comm]
  rw [h, Int32.ofInt_sub, Int32.ofInt_mul]
  rw [← pm_sgI x, ← pm_sgI y, Int32.ofInt_toInt, Int32.ofInt_toInt]
theorem pn_ldiv (x y : Int) : Int64.ofInt (pm_ldiv x y) = Int64.ofInt x / Int64.ofInt y := by
  refine Int64.toInt.inj ?_
  rw [Int64.toInt_div, pm_slI, pm_slI, pm_slI]
  rfl
theorem pn_lrem (x y : Int) : Int64.ofInt (pm_lrem x y) = Int64.ofInt x - Int64.ofInt x / Int64.ofInt y * Int64.ofInt y := by
  rw [← pn_ldiv]
  have h : pm_lrem x y = pm_sl x - pm_ldiv x y * pm_sl y := by
    unfold pm_lrem pm_ldiv
    rw [Int.tmod_def, Int.mul_comm]
  rw [h, Int64.ofInt_sub, Int64.ofInt_mul]
  rw [← pm_slI x, ← pm_slI y, Int64.ofInt_toInt, Int64.ofInt_toInt]
theorem pn_ne0 {y : Int} (h : pm_sg y ≠ 0) : ¬ Int32.ofInt y = 0 := by
  rw [pm_zI, pm_eqI, pm_sg0]
  exact h
theorem pn_ne0l {y : Int} (h : pm_sl y ≠ 0) : ¬ Int64.ofInt y = 0 := by
  intro z
  have h2 := congrArg Int64.toInt z
  rw [pm_slI] at h2
  exact h h2
theorem ps_idiv (hx : p.tables.exec = Jvm.exec) (hb : c.code = cc) {x y : Int} (hy : pm_sg y ≠ 0) (hd : decode cc pc = .ok (.idiv, 1)) (k : pm_Wc p l e R s m args below meth c Q D E KS nL N0 M0 (pc + 1, ls, .inl (pm_div x y) :: r, S)) : pm_Wc p l e R s m args below meth c Q D E KS nL N0 M0 (pc, ls, .inl y :: .inl x :: r, S) := by
  intro H locs lsr cells slots hH hL hc hs
  exact lv_idiv hx hb hd (pn_ne0 hy) (pn_w (congrArg Value.int (pn_div x y).symm) (k H locs lsr cells slots hH hL hc hs))
theorem ps_irem (hx : p.tables.exec = Jvm.exec) (hb : c.code = cc) {x y : Int} (hy : pm_sg y ≠ 0) (hd : decode cc pc = .ok (.irem, 1)) (k : pm_Wc p l e R s m args below meth c Q D E KS nL N0 M0 (pc + 1, ls, .inl (pm_rem x y) :: r, S)) : pm_Wc p l e R s m args below meth c Q D E KS nL N0 M0 (pc, ls, .inl y :: .inl x :: r, S) := by
  intro H locs lsr cells slots hH hL hc hs
  exact lv_irem hx hb hd (pn_ne0 hy) (pn_w (congrArg Value.int (pn_rem x y).symm) (k H locs lsr cells slots hH hL hc hs))
theorem ps_ldiv (hx : p.tables.exec = Jvm.exec) (hb : c.code = cc) {x y : Int} (hy : pm_sl y ≠ 0) (hd : decode cc pc = .ok (.ldiv, 1)) (k : pm_Wc p l e R s m args below meth c Q D E KS nL N0 M0 (pc + 1, ls, .inr (.inl (pm_ldiv x y)) :: r, S)) : pm_Wc p l e R s m args below meth c Q D E KS nL N0 M0 (pc, ls, .inr (.inl y) :: .inr (.inl x) :: r, S) := by
  intro H locs lsr cells slots hH hL hc hs
  exact lv_ldiv hx hb hd (pn_ne0l hy) (pn_w (congrArg Value.long (pn_ldiv x y).symm) (k H locs lsr cells slots hH hL hc hs))
theorem ps_lrem (hx : p.tables.exec = Jvm.exec) (hb : c.code = cc) {x y : Int} (hy : pm_sl y ≠ 0) (hd : decode cc pc = .ok (.lrem, 1)) (k : pm_Wc p l e R s m args below meth c Q D E KS nL N0 M0 (pc + 1, ls, .inr (.inl (pm_lrem x y)) :: r, S)) : pm_Wc p l e R s m args below meth c Q D E KS nL N0 M0 (pc, ls, .inr (.inl y) :: .inr (.inl x) :: r, S) := by
  intro H locs lsr cells slots hH hL hc hs
  exact lv_lrem hx hb hd (pn_ne0l hy) (pn_w (congrArg Value.long (pn_lrem x y).symm) (k H locs lsr cells slots hH hL hc hs))
theorem pn_cmp (x y : Int) : lg_cmp (Int64.ofInt x) (Int64.ofInt y) = Int32.ofInt (pm_cmp x y) := by
  unfold lg_cmp pm_cmp
  simp only [Int64.lt_iff_toInt_lt, pm_slI, gt_iff_lt, ← Int64.toInt_inj]
  by_cases h1 : pm_sl x < pm_sl y
  · have h2 : ¬ pm_sl y < pm_sl x := by omega
    have h3 : ¬ pm_sl x = pm_sl y := by omega
    simp only [h1, h2, h3, if_true, if_false] <;> rfl
  · by_cases h2 : pm_sl y < pm_sl x
    · have h3 : ¬ pm_sl x = pm_sl y := by omega
      simp only [h1, h2, h3, if_true, if_false] <;> rfl
    · have h3 : pm_sl x = pm_sl y := by omega
      simp only [h1, h2, if_false]
      rw [if_pos h3]
      rfl
theorem ps_lcmp (hx : p.tables.exec = Jvm.exec) (hb : c.code = cc) {x y : Int} (hd : decode cc pc = .ok (.lcmp, 1)) (k : pm_Wc p l e R s m args below meth c Q D E KS nL N0 M0 (pc + 1, ls, .inl (pm_cmp x y) :: r, S)) : pm_Wc p l e R s m args below meth c Q D E KS nL N0 M0 (pc, ls, .inr (.inl y) :: .inr (.inl x) :: r, S) := by
  intro H locs lsr cells slots hH hL hc hs
  exact W.lcmp hx hb hd (pn_w (congrArg Value.int (pn_cmp x y)) (k H locs lsr cells slots hH hL hc hs))
theorem ps_i2l (hx : p.tables.exec = Jvm.exec) (hb : c.code = cc) {x : Int} (hd : decode cc pc = .ok (.i2l, 1)) (k : pm_Wc p l e R s m args below meth c Q D E KS nL N0 M0 (pc + 1, ls, .inr (.inl (pm_sg x)) :: r, S)) : pm_Wc p l e R s m args below meth c Q D E KS nL N0 M0 (pc, ls, .inl x :: r, S) := by
  intro H locs lsr cells slots hH hL hc hs
  refine lv_i2l hx hb hd ?_ (k H locs lsr cells slots hH hL hc hs)
  refine Int64.toInt.inj ?_
  rw [Int32.toInt_toInt64, pm_sgI, Int64.toInt_ofInt, ← pm_sgI, Int32.toInt_bmod_18446744073709551616]
theorem pn_b8 (x : Int) : (Int32.ofInt x).toInt8.toInt32 = Int32.ofInt (pm_b8 x) := by
  refine Int32.toInt.inj ?_
  rw [Int8.toInt_toInt32, Int32.toInt8_ofInt, Int8.toInt_ofInt, pm_sgI]
  show x.bmod 256 = (x.bmod 256).bmod 4294967296
  have h1 : -(256 : Int) / 2 ≤ x.bmod 256 := by simpa using Int.le_bmod (x := x) (m := 256) (by decide)
  have h2 : x.bmod 256 < (256 + 1 : Int) / 2 := by simpa using Int.bmod_lt (x := x) (m := 256) (by decide)
  exact (Int.bmod_eq_of_le (by omega) (by omega)).symm
theorem pn_char (x : Int) : ((Int32.ofInt x).toUInt32 % 65536).toInt32 = Int32.ofInt (x % 65536) := by
  rw [pk_char, nI, ← Int32.ofInt_eq_ofNat]
  congr 1
  have h : ((Int32.ofInt x).toBitVec.toNat : Int) = x % 4294967296 := by
    show (((BitVec.ofInt 32 x).toNat : Nat) : Int) = _
    rw [BitVec.toNat_ofInt]
    exact Int.toNat_of_nonneg (Int.emod_nonneg x (by decide))
  omega
theorem ps_i2b (hx : p.tables.exec = Jvm.exec) (hb : c.code = cc) {x : Int} (hd : decode cc pc = .ok (.i2b, 1)) (k : pm_Wc p l e R s m args below meth c Q D E KS nL N0 M0 (pc + 1, ls, .inl (pm_b8 x) :: r, S)) : pm_Wc p l e R s m args below meth c Q D E KS nL N0 M0 (pc, ls, .inl x :: r, S) := by
  intro H locs lsr cells slots hH hL hc hs
  refine lv_i2b hx hb hd ?_ (k H locs lsr cells slots hH hL hc hs)
  exact pn_b8 x
theorem ps_i2c (hx : p.tables.exec = Jvm.exec) (hb : c.code = cc) {x : Int} (hd : decode cc pc = .ok (.i2c, 1)) (k : pm_Wc p l e R s m args below meth c Q D E KS nL N0 M0 (pc + 1, ls, .inl (x % 65536) :: r, S)) : pm_Wc p l e R s m args below meth c Q D E KS nL N0 M0 (pc, ls, .inl x :: r, S) := by
  intro H locs lsr cells slots hH hL hc hs
  exact lv_i2c hx hb hd (pn_char x) (k H locs lsr cells slots hH hL hc hs)
theorem ps_l2i (hx : p.tables.exec = Jvm.exec) (hb : c.code = cc) {x : Int} (hd : decode cc pc = .ok (.l2i, 1)) (k : pm_Wc p l e R s m args below meth c Q D E KS nL N0 M0 (pc + 1, ls, .inl x :: r, S)) : pm_Wc p l e R s m args below meth c Q D E KS nL N0 M0 (pc, ls, .inr (.inl x) :: r, S) := by
  intro H locs lsr cells slots hH hL hc hs
  exact lv_l2i hx hb hd (Int64.toInt32_ofInt) (k H locs lsr cells slots hH hL hc hs)
theorem ps_dup (hx : p.tables.exec = Jvm.exec) (hb : c.code = cc) {v : PV} (hv : pm_w v = 1) (hd : decode cc pc = .ok (.dup, 1)) (k : pm_Wc p l e R s m args below meth c Q D E KS nL N0 M0 (pc + 1, ls, v :: v :: r, S)) : pm_Wc p l e R s m args below meth c Q D E KS nL N0 M0 (pc, ls, v :: r, S) := by
  intro H locs lsr cells slots hH hL hc hs
  exact lv_dup hx hb hd ((pm_cat E v).trans hv) (k H locs lsr cells slots hH hL hc hs)
theorem ps_dup2 (hx : p.tables.exec = Jvm.exec) (hb : c.code = cc) {v w : PV} (hv : pm_w v = 1) (hw : pm_w w = 1) (hd : decode cc pc = .ok (.dup2, 1)) (k : pm_Wc p l e R s m args below meth c Q D E KS nL N0 M0 (pc + 1, ls, v :: w :: v :: w :: r, S)) : pm_Wc p l e R s m args below meth c Q D E KS nL N0 M0 (pc, ls, v :: w :: r, S) := by
  intro H locs lsr cells slots hH hL hc hs
  exact lv_dup2_11 hx hb hd ((pm_cat E v).trans hv) ((pm_cat E w).trans hw) (k H locs lsr cells slots hH hL hc hs)
theorem ps_pop (hx : p.tables.exec = Jvm.exec) (hb : c.code = cc) {v : PV} (hv : pm_w v = 1) (hd : decode cc pc = .ok (.pop, 1)) (k : pm_Wc p l e R s m args below meth c Q D E KS nL N0 M0 (pc + 1, ls, r, S)) : pm_Wc p l e R s m args below meth c Q D E KS nL N0 M0 (pc, ls, v :: r, S) := by
  intro H locs lsr cells slots hH hL hc hs
  exact lv_pop hx hb hd ((pm_cat E v).trans hv) (k H locs lsr cells slots hH hL hc hs)
theorem ps_goto (hx : p.tables.exec = Jvm.exec) (hb : c.code = cc) {off : Int} (h0 : 0 ≤ (pc : Int) + off) (hd : decode cc pc = .ok (.goto off, 3)) (k : pm_Wc p l e R s m args below meth c Q D E KS nL N0 M0 (((pc : Int) + off).toNat, ls, st, S)) : pm_Wc p l e R s m args below meth c Q D E KS nL N0 M0 (pc, ls, st, S) := by
  intro H locs lsr cells slots hH hL hc hs
  exact lv_goto hx hb hd (Int.toNat_of_nonneg h0).symm (k H locs lsr cells slots hH hL hc hs)
theorem ps_if_eq (hx : p.tables.exec = Jvm.exec) (hb : c.code = cc) {x off : Int} (h0 : 0 ≤ (pc : Int) + off) (hd : decode cc pc = .ok (.ifCond .eq off, 3)) (k : if pm_c .eq (pm_sg x) 0 then pm_Wc p l e R s m args below meth c Q D E KS nL N0 M0 (((pc : Int) + off).toNat, ls, r, S) else pm_Wc p l e R s m args below meth c Q D E KS nL N0 M0 (pc + 3, ls, r, S)) : pm_Wc p l e R s m args below meth c Q D E KS nL N0 M0 (pc, ls, .inl x :: r, S) := by
  intro H locs lsr cells slots hH hL hc hs
  have e1 := pm_eqI x 0
  have e2 := pm_ltI x 0
  have e3 := pm_ltI 0 x
  have e4 := pm_leI x 0
  have e5 := pm_leI 0 x
  rw [pm_sg0, ← pm_zI] at e1 e2 e3 e4 e5
  refine lv_if_eq hx hb hd (Int.toNat_of_nonneg h0).symm (fun z => ?_) (fun z => ?_)
  · rw [if_pos (by simp only [pm_c, decide_eq_true_eq]; first | (simp only [e1, e2, e3, e4, e5, ne_eq, ge_iff_le, gt_iff_lt] at z; omega) | exact e1.mp z)] at k
    exact k H locs lsr cells slots hH hL hc hs
  · rw [if_neg (by simp only [pm_c, decide_eq_true_eq]; first | (simp only [e1, e2, e3, e4, e5, ne_eq, ge_iff_le, gt_iff_lt, Int32.not_lt, Int32.not_le] at z; omega))] at k
    exact k H locs lsr cells slots hH hL hc hs
theorem ps_icmp_eq (hx : p.tables.exec = Jvm.exec) (hb : c.code = cc) {x y off : Int} (h0 : 0 ≤ (pc : Int) + off) (hd : decode cc pc = .ok (.if_icmp .eq off, 3)) (k : if pm_c .eq (pm_sg x) (pm_sg y) then pm_Wc p l e R s m args below meth c Q D E KS nL N0 M0 (((pc : Int) + off).toNat, ls, r, S) else pm_Wc p l e R s m args below meth c Q D E KS nL N0 M0 (pc + 3, ls, r, S)) : pm_Wc p l e R s m args below meth c Q D E KS nL N0 M0 (pc, ls, .inl y :: .inl x :: r, S) := by
  intro H locs lsr cells slots hH hL hc hs
  have e1 := pm_eqI x y
  have e2 := pm_ltI x y
  have e3 := pm_ltI y x
  have e4 := pm_leI x y
  have e5 := pm_leI y x
  refine lv_icmp_eq hx hb hd (Int.toNat_of_nonneg h0).symm (fun z => ?_) (fun z => ?_)
  · rw [if_pos (by simp only [pm_c, decide_eq_true_eq]; first | (simp only [e1, e2, e3, e4, e5, ne_eq, ge_iff_le, gt_iff_lt] at z; omega) | exact e1.mp z)] at k
    exact k H locs lsr cells slots hH hL hc hs
  · rw [if_neg (by simp only [pm_c, decide_eq_true_eq]; first | (simp only [e1, e2, e3, e4, e5, ne_eq, ge_iff_le, gt_iff_lt, Int32.not_lt, Int32.not_le] at z; omega))] at k
    exact k H locs lsr cells slots hH hL hc hs
theorem ps_if_ne (hx : p.tables.exec = Jvm.exec) (hb : c.code = cc) {x off : Int} (h0 : 0 ≤ (pc : Int) + off) (hd : decode cc pc = .ok (.ifCond .ne off, 3)) (k : if pm_c .ne (pm_sg x) 0 then pm_Wc p l e R s m args below meth c Q D E KS nL N0 M0 (((pc : Int) + off).toNat, ls, r, S) else pm_Wc p l e R s m args below meth c Q D E KS nL N0 M0 (pc + 3, ls, r, S)) : pm_Wc p l e R s m args below meth c Q D E KS nL N0 M0 (pc, ls, .inl x :: r, S) := by
  intro H locs lsr cells slots hH hL hc hs
  have e1 := pm_eqI x 0
  have e2 := pm_ltI x 0
  have e3 := pm_ltI 0 x
  have e4 := pm_leI x 0
  have e5 := pm_leI 0 x
  rw [pm_sg0, ← pm_zI] at e1 e2 e3 e4 e5
  refine lv_if_ne hx hb hd (Int.toNat_of_nonneg h0).symm (fun z => ?_) (fun z => ?_)
  · rw [if_pos (by simp only [pm_c, decide_eq_true_eq]; first | (simp only [e1, e2, e3, e4, e5, ne_eq, ge_iff_le, gt_iff_lt] at z; omega) | exact e1.mp z)] at k
    exact k H locs lsr cells slots hH hL hc hs
  · rw [if_neg (by simp only [pm_c, decide_eq_true_eq]; first | (simp only [e1, e2, e3, e4, e5, ne_eq, ge_iff_le, gt_iff_lt, Int32.not_lt, Int32.not_le] at z; omega))] at k
    exact k H locs lsr cells slots hH hL hc hs
theorem ps_icmp_ne (hx : p.tables.exec = Jvm.exec) (hb : c.code = cc) {x y off : Int} (h0 : 0 ≤ (pc : Int) + off) (hd : decode cc pc = .ok (.if_icmp .ne off, 3)) (k : if pm_c .ne (pm_sg x) (pm_sg y) then pm_Wc p l e R s m args below meth c Q D E KS nL N0 M0 (((pc : Int) + off).toNat, ls, r, S) else pm_Wc p l e R s m args below meth c Q D E KS nL N0 M0 (pc + 3, ls, r, S)) : pm_Wc p l e R s m args below meth c Q D E KS nL N0 M0 (pc, ls, .inl y :: .inl x :: r, S) := by
  intro H locs lsr cells slots hH hL hc hs
  have e1 := pm_eqI x y
  have e2 := pm_ltI x y
  have e3 := pm_ltI y x
  have e4 := pm_leI x y
  have e5 := pm_leI y x
  refine lv_icmp_ne hx hb hd (Int.toNat_of_nonneg h0).symm (fun z => ?_) (fun z => ?_)
  · rw [if_pos (by simp only [pm_c, decide_eq_true_eq]; first | (simp only [e1, e2, e3, e4, e5, ne_eq, ge_iff_le, gt_iff_lt] at z; omega) | exact e1.mp z)] at k
    exact k H locs lsr cells slots hH hL hc hs
  · rw [if_neg (by simp only [pm_c, decide_eq_true_eq]; first | (simp only [e1, e2, e3, e4, e5, ne_eq, ge_iff_le, gt_iff_lt, Int32.not_lt, Int32.not_le] at z; omega))] at k
    exact k H locs lsr cells slots hH hL hc hs
theorem ps_if_lt (hx : p.tables.exec = Jvm.exec) (hb : c.code = cc) {x off : Int} (h0 : 0 ≤ (pc : Int) + off) (hd : decode cc pc = .ok (.ifCond .lt off, 3)) (k : if pm_c .lt (pm_sg x) 0 then pm_Wc p l e R s m args below meth c Q D E KS nL N0 M0 (((pc : Int) + off).toNat, ls, r, S) else pm_Wc p l e R s m args below meth c Q D E KS nL N0 M0 (pc + 3, ls, r, S)) : pm_Wc p l e R s m args below meth c Q D E KS nL N0 M0 (pc, ls, .inl x :: r, S) := by
  intro H locs lsr cells slots hH hL hc hs
  have e1 := pm_eqI x 0
  have e2 := pm_ltI x 0
  have e3 := pm_ltI 0 x
  have e4 := pm_leI x 0
  have e5 := pm_leI 0 x
  rw [pm_sg0, ← pm_zI] at e1 e2 e3 e4 e5
  refine lv_if_lt hx hb hd (Int.toNat_of_nonneg h0).symm (fun z => ?_) (fun z => ?_)
  · rw [if_pos (by simp only [pm_c, decide_eq_true_eq]; first | (simp only [e1, e2, e3, e4, e5, ne_eq, ge_iff_le, gt_iff_lt] at z; omega) | exact e1.mp z)] at k
    exact k H locs lsr cells slots hH hL hc hs
  · rw [if_neg (by simp only [pm_c, decide_eq_true_eq]; first | (simp only [e1, e2, e3, e4, e5, ne_eq, ge_iff_le, gt_iff_lt, Int32.not_lt, Int32.not_le] at z; omega))] at k
    exact k H locs lsr cells slots hH hL hc hs
theorem ps_icmp_lt (hx : p.tables.exec = Jvm.exec) (hb : c.code = cc) {x y off : Int} (h0 : 0 ≤ (pc : Int) + off) (hd : decode cc pc = .ok (.if_icmp .lt off, 3)) (k : if pm_c .lt (pm_sg x) (pm_sg y) then pm_Wc p l e R s m args below meth c Q D E KS nL N0 M0 (((pc : Int) + off).toNat, ls, r, S) else pm_Wc p l e R s m args below meth c Q D E KS nL N0 M0 (pc + 3, ls, r, S)) : pm_Wc p l e R s m args below meth c Q D E KS nL N0 M0 (pc, ls, .inl y :: .inl x :: r, S) := by
  intro H locs lsr cells slots hH hL hc hs
  have e1 := pm_eqI x y
  have e2 := pm_ltI x y
  have e3 := pm_ltI y x
  have e4 := pm_leI x y
  have e5 := pm_leI y x
  refine lv_icmp_lt hx hb hd (Int.toNat_of_nonneg h0).symm (fun z => ?_) (fun z => ?_)
  · rw [if_pos (by simp only [pm_c, decide_eq_true_eq]; first | (simp only [e1, e2, e3, e4, e5, ne_eq, ge_iff_le, gt_iff_lt] at z; omega) | exact e1.mp z)] at k
    exact k H locs lsr cells slots hH hL hc hs
  · rw [if_neg (by simp only [pm_c, decide_eq_true_eq]; first | (simp only [e1, e2, e3, e4, e5, ne_eq, ge_iff_le, gt_iff_lt, Int32.not_lt, Int32.not_le] at z; omega))] at k
    exact k H locs lsr cells slots hH hL hc hs
theorem ps_if_ge (hx : p.tables.exec = Jvm.exec) (hb : c.code = cc) {x off : Int} (h0 : 0 ≤ (pc : Int) + off) (hd : decode cc pc = .ok (.ifCond .ge off, 3)) (k : if pm_c .ge (pm_sg x) 0 then pm_Wc p l e R s m args below meth c Q D E KS nL N0 M0 (((pc : Int) + off).toNat, ls, r, S) else pm_Wc p l e R s m args below meth c Q D E KS nL N0 M0 (pc + 3, ls, r, S)) : pm_Wc p l e R s m args below meth c Q D E KS nL N0 M0 (pc, ls, .inl x :: r, S) := by
  intro H locs lsr cells slots hH hL hc hs
  have e1 := pm_eqI x 0
  have e2 := pm_ltI x 0
  have e3 := pm_ltI 0 x
  have e4 := pm_leI x 0
  have e5 := pm_leI 0 x
  rw [pm_sg0, ← pm_zI] at e1 e2 e3 e4 e5
  refine lv_if_ge hx hb hd (Int.toNat_of_nonneg h0).symm (fun z => ?_) (fun z => ?_)
  · rw [if_pos (by simp only [pm_c, decide_eq_true_eq]; first | (simp only [e1, e2, e3, e4, e5, ne_eq, ge_iff_le, gt_iff_lt] at z; omega) | exact e1.mp z)] at k
    exact k H locs lsr cells slots hH hL hc hs
  · rw [if_neg (by simp only [pm_c, decide_eq_true_eq]; first | (simp only [e1, e2, e3, e4, e5, ne_eq, ge_iff_le, gt_iff_lt, Int32.not_lt, Int32.not_le] at z; omega))] at k
    exact k H locs lsr cells slots hH hL hc hs
theorem ps_icmp_ge (hx : p.tables.exec = Jvm.exec) (hb : c.code = cc) {x y off : Int} (h0 : 0 ≤ (pc : Int) + off) (hd : decode cc pc = .ok (.if_icmp .ge off, 3)) (k : if pm_c .ge (pm_sg x) (pm_sg y) then pm_Wc p l e R s m args below meth c Q D E KS nL N0 M0 (((pc : Int) + off).toNat, ls, r, S) else pm_Wc p l e R s m args below meth c Q D E KS nL N0 M0 (pc + 3, ls, r, S)) : pm_Wc p l e R s m args below meth c Q D E KS nL N0 M0 (pc, ls, .inl y :: .inl x :: r, S) := by
  intro H locs lsr cells slots hH hL hc hs
  have e1 := pm_eqI x y
  have e2 := pm_ltI x y
  have e3 := pm_ltI y x
  have e4 := pm_leI x y
  have e5 := pm_leI y x
  refine lv_icmp_ge hx hb hd (Int.toNat_of_nonneg h0).symm (fun z => ?_) (fun z => ?_)
  · rw [if_pos (by simp only [pm_c, decide_eq_true_eq]; first | (simp only [e1, e2, e3, e4, e5, ne_eq, ge_iff_le, gt_iff_lt] at z; omega) | exact e1.mp z)] at k
    exact k H locs lsr cells slots hH hL hc hs
  · rw [if_neg (by simp only [pm_c, decide_eq_true_eq]; first | (simp only [e1, e2, e3, e4, e5, ne_eq, ge_iff_le, gt_iff_lt, Int32.not_lt, Int32.not_le] at z; omega))] at k
    exact k H locs lsr cells slots hH hL hc hs
theorem ps_if_gt (hx : p.tables.exec = Jvm.exec) (hb : c.code = cc) {x off : Int} (h0 : 0 ≤ (pc : Int) + off) (hd : decode cc pc = .ok (.ifCond .gt off, 3)) (k : if pm_c .gt (pm_sg x) 0 then pm_Wc p l e R s m args below meth c Q D E KS nL N0 M0 (((pc : Int) + off).toNat, ls, r, S) else pm_Wc p l e R s m args below meth c Q D E KS nL N0 M0 (pc + 3, ls, r, S)) : pm_Wc p l e R s m args below meth c Q D E KS nL N0 M0 (pc, ls, .inl x :: r, S) := by
  intro H locs lsr cells slots hH hL hc hs
  have e1 := pm_eqI x 0
  have e2 := pm_ltI x 0
  have e3 := pm_ltI 0 x
  have e4 := pm_leI x 0
  have e5 := pm_leI 0 x
  rw [pm_sg0, ← pm_zI] at e1 e2 e3 e4 e5
  refine lv_if_gt hx hb hd (Int.toNat_of_nonneg h0).symm (fun z => ?_) (fun z => ?_)
  · rw [if_pos (by simp only [pm_c, decide_eq_true_eq]; first | (simp only [e1, e2, e3, e4, e5, ne_eq, ge_iff_le, gt_iff_lt] at z; omega) | exact e1.mp z)] at k
    exact k H locs lsr cells slots hH hL hc hs
  · rw [if_neg (by simp only [pm_c, decide_eq_true_eq]; first | (simp only [e1, e2, e3, e4, e5, ne_eq, ge_iff_le, gt_iff_lt, Int32.not_lt, Int32.not_le] at z; omega))] at k
    exact k H locs lsr cells slots hH hL hc hs
theorem ps_icmp_gt (hx : p.tables.exec = Jvm.exec) (hb : c.code = cc) {x y off : Int} (h0 : 0 ≤ (pc : Int) + off) (hd : decode cc pc = .ok (.if_icmp .gt off, 3)) (k : if pm_c .gt (pm_sg x) (pm_sg y) then pm_Wc p l e R s m args below meth c Q D E KS nL N0 M0 (((pc : Int) + off).toNat, ls, r, S) else pm_Wc p l e R s m args below meth c Q D E KS nL N0 M0 (pc + 3, ls, r, S)) : pm_Wc p l e R s m args below meth c Q D E KS nL N0 M0 (pc, ls, .inl y :: .inl x :: r, S) := by
  intro H locs lsr cells slots hH hL hc hs
  have e1 := pm_eqI x y
  have e2 := pm_ltI x y
  have e3 := pm_ltI y x
  have e4 := pm_leI x y
  have e5 := pm_leI y x
  refine lv_icmp_gt hx hb hd (Int.toNat_of_nonneg h0).symm (fun z => ?_) (fun z => ?_)
  · rw [if_pos (by simp only [pm_c, decide_eq_true_eq]; first | (simp only [e1, e2, e3, e4, e5, ne_eq, ge_iff_le, gt_iff_lt] at z; omega) | exact e1.mp z)] at k
    exact k H locs lsr cells slots hH hL hc hs
  · rw [if_neg (by simp only [pm_c, decide_eq_true_eq]; first | (simp only [e1, e2, e3, e4, e5, ne_eq, ge_iff_le, gt_iff_lt, Int32.not_lt, Int32.not_le] at z; omega))] at k
    exact k H locs lsr cells slots hH hL hc hs
theorem ps_if_le (hx : p.tables.exec = Jvm.exec) (hb : c.code = cc) {x off : Int} (h0 : 0 ≤ (pc : Int) + off) (hd : decode cc pc = .ok (.ifCond .le off, 3)) (k : if pm_c .le (pm_sg x) 0 then pm_Wc p l e R s m args below meth c Q D E KS nL N0 M0 (((pc : Int) + off).toNat, ls, r, S) else pm_Wc p l e R s m args below meth c Q D E KS nL N0 M0 (pc + 3, ls, r, S)) : pm_Wc p l e R s m args below meth c Q D E KS nL N0 M0 (pc, ls, .inl x :: r, S) := by
  intro H locs lsr cells slots hH hL hc hs
  have e1 := pm_eqI x 0
  have e2 := pm_ltI x 0
  have e3 := pm_ltI 0 x
  have e4 := pm_leI x 0
  have e5 := pm_leI 0 x
  rw [pm_sg0, ← pm_zI] at e1 e2 e3 e4 e5
  refine lv_if_le hx hb hd (Int.toNat_of_nonneg h0).symm (fun z => ?_) (fun z => ?_)
  · rw [if_pos (by simp only [pm_c, decide_eq_true_eq]; first | (simp only [e1, e2, e3, e4, e5, ne_eq, ge_iff_le, gt_iff_lt] at z; omega) | exact e1.mp z)] at k
    exact k H locs lsr cells slots hH hL hc hs
  · rw [if_neg (by simp only [pm_c, decide_eq_true_eq]; first | (simp only [e1, e2, e3, e4, e5, ne_eq, ge_iff_le, gt_iff_lt, Int32.not_lt, Int32.not_le] at z; omega))] at k
    exact k H locs lsr cells slots hH hL hc hs
theorem ps_icmp_le (hx : p.tables.exec = Jvm.exec) (hb : c.code = cc) {x y off : Int} (h0 : 0 ≤ (pc : Int) + off) (hd : decode cc pc = .ok (.if_icmp .le off, 3)) (k : if pm_c .le (pm_sg x) (pm_sg y) then pm_Wc p l e R s m args below meth c Q D E KS nL N0 M0 (((pc : Int) + off).toNat, ls, r, S) else pm_Wc p l e R s m args below meth c Q D E KS nL N0 M0 (pc + 3, ls, r, S)) : pm_Wc p l e R s m args below meth c Q D E KS nL N0 M0 (pc, ls, .inl y :: .inl x :: r, S) := by
  intro H locs lsr cells slots hH hL hc hs
  have e1 := pm_eqI x y
  have e2 := pm_ltI x y
  have e3 := pm_ltI y x
  have e4 := pm_leI x y
  have e5 := pm_leI y x
  refine lv_icmp_le hx hb hd (Int.toNat_of_nonneg h0).symm (fun z => ?_) (fun z => ?_)
  · rw [if_pos (by simp only [pm_c, decide_eq_true_eq]; first | (simp only [e1, e2, e3, e4, e5, ne_eq, ge_iff_le, gt_iff_lt] at z; omega) | exact e1.mp z)] at k
    exact k H locs lsr cells slots hH hL hc hs
  · rw [if_neg (by simp only [pm_c, decide_eq_true_eq]; first | (simp only [e1, e2, e3, e4, e5, ne_eq, ge_iff_le, gt_iff_lt, Int32.not_lt, Int32.not_le] at z; omega))] at k
    exact k H locs lsr cells slots hH hL hc hs
theorem ps_tsOut (hx : p.tables.exec = Jvm.exec) (hb : c.code = cc) {dflt lo hi x : Int} {offs : Array Int} {len : Nat} (h0 : 0 ≤ (pc : Int) + dflt) (hr : pm_sg x < lo ∨ hi < pm_sg x) (hd : decode cc pc = .ok (.tableswitch dflt lo hi offs, len)) (k : pm_Wc p l e R s m args below meth c Q D E KS nL N0 M0 (((pc : Int) + dflt).toNat, ls, r, S)) : pm_Wc p l e R s m args below meth c Q D E KS nL N0 M0 (pc, ls, .inl x :: r, S) := by
  intro H locs lsr cells slots hH hL hc hs
  exact lv_tableOut hx hb hd (by rw [pm_sgI]; exact hr) (Int.toNat_of_nonneg h0).symm (k H locs lsr cells slots hH hL hc hs)
theorem ps_tsIn (hx : p.tables.exec = Jvm.exec) (hb : c.code = cc) {dflt lo hi x off : Int} {offs : Array Int} {len : Nat} (h0 : 0 ≤ (pc : Int) + off) (hr : ¬ (pm_sg x < lo ∨ hi < pm_sg x)) (ho : offs[(pm_sg x - lo).toNat]? = some off) (hd : decode cc pc = .ok (.tableswitch dflt lo hi offs, len)) (k : pm_Wc p l e R s m args below meth c Q D E KS nL N0 M0 (((pc : Int) + off).toNat, ls, r, S)) : pm_Wc p l e R s m args below meth c Q D E KS nL N0 M0 (pc, ls, .inl x :: r, S) := by
  intro H locs lsr cells slots hH hL hc hs
  exact lv_tableIn hx hb hd (by rw [pm_sgI]; exact fun z => hr (Or.inl z)) (by rw [pm_sgI]; exact fun z => hr (Or.inr z)) (by rw [pm_sgI]; exact ho) (Int.toNat_of_nonneg h0).symm (k H locs lsr cells slots hH hL hc hs)
end SIM
