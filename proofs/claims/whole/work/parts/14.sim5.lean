/-! One plain step, whichever it is; a call. -/
def pm_lok (i : Instr) (n : Nat) : Bool := match i with
  | .iload_n _ => n == 1
  | .iload _ => n == 2
  | .lload_n _ => n == 1
  | .lload _ => n == 2
  | .aload_n _ => n == 1
  | .aload _ => n == 2
  | .istore_n _ => n == 1
  | .istore _ => n == 2
  | .lstore_n _ => n == 1
  | .lstore _ => n == 2
  | .astore_n _ => n == 1
  | .astore _ => n == 2
  | .iinc _ _ => n == 3
  | .bipush _ => n == 2
  | .sipush _ => n == 3
  | .ldc _ => n == 2
  | .ldc_w _ => n == 3
  | .ldc2_w _ => n == 3
  | .getfield _ => n == 3
  | .putfield _ => n == 3
  | .new _ => n == 3
  | .newarray _ => n == 2
  | .anewarray _ => n == 3
  | .invokevirtual _ => n == 3
  | .invokespecial _ => n == 3
  | .invokestatic _ => n == 3
  | .goto _ => n == 3
  | .ifCond _ _ => n == 3
  | .if_icmp _ _ => n == 3
  | .tableswitch _ _ _ _ => true
  | _ => n == 1
set_option maxRecDepth 100000 in
theorem pm_lok_ok : ∀ m, m < 309 → ∀ q ∈ pm_LT.getD m [], pm_lok q.2.1 q.2.2 = true := by decide +kernel
theorem pm_lt_len : pm_LT.length = 309 := by decide +kernel
theorem pm_fe_sp {mi pc n : Nat} {i : Instr} (h : pm_fe mi pc = some (i, n)) : decode (pm_cd mi) pc = .ok (i, n) ∧ pm_lok i n = true := by
  obtain ⟨q, h1, h2, h3⟩ := pm_find h
  have hm : mi < 309 := by
    by_cases hm : mi < 309
    · exact hm
    · have e : pm_LT.getD mi [] = [] := by
        rw [List.getD_eq_getElem?_getD, List.getElem?_eq_none (by rw [pm_lt_len]; omega)]
        rfl
      rw [e] at h1
      cases h1
  have h4 := pm_lt_ok mi hm q h1
  have h5 := pm_lok_ok mi hm q h1
  rw [beq_iff_eq] at h2
  rw [h2, show q.2.1 = i from congrArg Prod.fst h3, show q.2.2 = n from congrArg Prod.snd h3] at h4
  rw [show q.2.1 = i from congrArg Prod.fst h3, show q.2.2 = n from congrArg Prod.snd h3] at h5
  exact ⟨h4, h5⟩
def pm_K (D : va_G) (E : PE) (U : State) : Prop := va_K D vwCl (pm_tys E) U ∧ va_AO RX5 U ∧ ∀ e ∈ pm_MR, e.2.2.2.1 < 900 → e.2.2.2.2 ≠ 0 → va_Nw (.methodLinkNest (pm_cn e.1) e.2.1 (pm_y e.2.2.2.1) "MoonTender") U
theorem pm_K.warm {D : va_G} {E : PE} {s U : State} (hW : s.WarmedH U.vm) (h : pm_K D E s) : pm_K D E U := ⟨va_K.moved hW.alike h.1, va_AO.moved hW.alike h.2.1, fun e he h1 h2 => va_Nw.warmM hW (h.2.2 e he h1 h2)⟩
/-- what stays as it is while a method runs -/
def pm_X (p : Program) (s : State) (m : MethodId) (args : Array Value) (meth : Method) (c : Code) (D : va_G) (E : PE) (KS : Nat × (Nat → Int) → State → Heap → Prop) (mi N0 : Nat) : Prop :=
  p.tables.exec = Jvm.exec ∧ c.code = pm_cd mi ∧ c.maxLocals = pm_ml mi ∧ s.vm.findClass (pm_cn (pm_cl mi)) = some m.cls ∧ (∀ w ∈ pm_tb, w.before args s = true) ∧ pm_K D E s ∧ (pm_kd mi = 2 → meth.name = "<init>") ∧ s.heap.size = E.1 + N0 ∧ E.2.1 < E.1 ∧ ∀ X H, KS X s H → va_X E.2.1 X.1 (fun j => Int32.ofInt (X.2 j)) s H
/-- the calls of texts and of Math that are no methods of the plain machine; texts laid on the stack -/
def pm_Prim (l : Launch) (D : va_G) (E : PE) (KS : Nat × (Nat → Int) → State → Heap → Prop) : Prop :=
  ∀ (p : Program) (e : Env) (R : Room) (s : State) (m : MethodId) (args : Array Value) (below : List Frame) (meth : Method) (c : Code) (Q : State → Prop) (mi N0 M0 idx pc : Nat) (ls st : List PV) (S : PS) (q : PC), pm_X p s m args meth c D E KS mi N0 → 8 ≤ R.frames → 300 ≤ R.locals → S.1.1 ≤ R.cells + N0 → S.1.2.1 ≤ R.slots + M0 →
    ((∃ m' nest, pm_mr (pm_cl mi) idx = some (m', nest) ∧ 902 ≤ m' ∧ m' ≤ 904 ∧ decode (pm_cd mi) pc = .ok (.invokevirtual idx, 3) ∧ pm_invv mi idx pc ls st S = some (.inl q)) ∨ (∃ m' nest, pm_mr (pm_cl mi) idx = some (m', nest) ∧ 907 ≤ m' ∧ m' ≤ 908 ∧ decode (pm_cd mi) pc = .ok (.invokestatic idx, 3) ∧ pm_invs mi idx pc ls st S = some (.inl q)) ∨ (decode (pm_cd mi) pc = .ok (.ldc idx, 2) ∧ pm_ic (pm_cl mi) idx = none ∧ pm_ldc mi idx 2 pc ls st S = some (.inl q))) →
    pm_Wc p l e R s m args below meth c Q D E KS (pm_ml mi) N0 M0 q → pm_Wc p l e R s m args below meth c Q D E KS (pm_ml mi) N0 M0 (pc, ls, st, S)

theorem pm_mr_sp {c0 idx m' nest : Nat} (h : pm_mr c0 idx = some (m', nest)) : ∃ e ∈ pm_MR, e.1 = c0 ∧ e.2.1 = idx ∧ e.2.2.2.1 = m' ∧ e.2.2.2.2 = nest := by
  obtain ⟨e, h1, h2, h3⟩ := pm_find h
  simp only [Bool.and_eq_true, beq_iff_eq] at h2
  exact ⟨e, h1, h2.1, h2.2, congrArg Prod.fst h3, congrArg Prod.snd h3⟩
theorem pm_mr_pr {c0 idx m' nest : Nat} (h : pm_mr c0 idx = some (m', nest)) (hm : 900 ≤ m') : (Cond.methodLink (pm_cn c0) idx (pm_py m')) ∈ pm_tb := by
  obtain ⟨e, h1, h2, h3, h4, h5⟩ := pm_mr_sp h
  have h6 := pm_mp_ok e h1 (by rw [h4]; exact hm)
  rw [h2, h3, h4] at h6
  exact pm_tb_in h6.1 rfl
section SIM
variable {p : Program} {l : Launch} {e : Env} {R : Room} {s : State} {m : MethodId} {args : Array Value} {below : List Frame} {meth : Method} {c : Code} {Q : State → Prop}
variable {D : va_G} {E : PE} {KS : Nat × (Nat → Int) → State → Heap → Prop} {mi N0 M0 : Nat} {pc : Nat} {ls st r : List PV} {S : PS}
theorem ps_putI {idx ci k : Nat} {a x : Int} (hx : p.tables.exec = Jvm.exec) (hb : c.code = pm_cd mi) (hts : ∀ w ∈ pm_tb, w.before args s = true) (ho : s.vm.findClass (pm_cn (pm_cl mi)) = some m.cls) (hK : va_K D vwCl (pm_tys E) s) (hm : pm_kd mi = 2 → meth.name = "<init>") (hr : pm_fr (pm_cl mi) idx = some (ci, k)) (hk : k < pm_nf ci) (ha : pm_ob S.1 a ci) (hmay : pm_may mi ci k) (ht : pm_tag (pm_ft ci k) = 0 ∨ (pm_tag (pm_ft ci k) = 3 ∧ (x = 0 ∨ x = 1))) (hd : decode (pm_cd mi) pc = .ok (.putfield idx, 3))
    (kk : pm_Wc p l e R s m args below meth c Q D E KS (pm_ml mi) N0 M0 (pc + 3, ls, r, (S.1, pm_sa S.2.1 a.toNat (pm_up (S.2.1 a.toNat) k x), S.2.2))) : pm_Wc p l e R s m args below meth c Q D E KS (pm_ml mi) N0 M0 (pc, ls, .inl x :: .inr (.inr (.inl a)) :: r, S) := by
  have hnf : narrow (pm_ft ci k) (pm_rv E (.inl x)) = pm_rv E (.inl x) ∧ fits (pm_ft ci k) (pm_rv E (.inl x)) = true := by
    rcases ht with h | ⟨h, z | z⟩
    · rw [pm_tg0 h]; exact ⟨rfl, rfl⟩
    · rw [pm_tg3 h, z]; exact ⟨rfl, rfl⟩
    · rw [pm_tg3 h, z]; exact ⟨rfl, rfl⟩
  have h12 : pm_tag (pm_ft ci k) ≠ 1 ∧ pm_tag (pm_ft ci k) ≠ 2 := by rcases ht with h | ⟨h, -⟩ <;> rw [h] <;> decide
  refine ps_putG (c0 := 0) (S' := (S.1, pm_sa S.2.1 a.toNat (pm_up (S.2.1 a.toNat) k x), S.2.2)) hx hb hts ho hK hm hr hk ha hmay hnf.1 hnf.2 rfl ?_ (fun j hj => pm_fvm hj) (fun b hb => pm_ce_m hb) hd kk
  simp only [pm_fv, pm_gv, if_neg h12.1, if_neg h12.2, pm_sa, pm_up, if_true]
theorem ps_putL {idx ci k : Nat} {a x : Int} (hx : p.tables.exec = Jvm.exec) (hb : c.code = pm_cd mi) (hts : ∀ w ∈ pm_tb, w.before args s = true) (ho : s.vm.findClass (pm_cn (pm_cl mi)) = some m.cls) (hK : va_K D vwCl (pm_tys E) s) (hm : pm_kd mi = 2 → meth.name = "<init>") (hr : pm_fr (pm_cl mi) idx = some (ci, k)) (hk : k < pm_nf ci) (ha : pm_ob S.1 a ci) (hmay : pm_may mi ci k) (ht : pm_tag (pm_ft ci k) = 1) (hd : decode (pm_cd mi) pc = .ok (.putfield idx, 3))
    (kk : pm_Wc p l e R s m args below meth c Q D E KS (pm_ml mi) N0 M0 (pc + 3, ls, r, (S.1, pm_sa S.2.1 a.toNat (pm_up (S.2.1 a.toNat) k x), S.2.2))) : pm_Wc p l e R s m args below meth c Q D E KS (pm_ml mi) N0 M0 (pc, ls, .inr (.inl x) :: .inr (.inr (.inl a)) :: r, S) := by
  have hnf : narrow (pm_ft ci k) (pm_rv E (.inr (.inl x))) = pm_rv E (.inr (.inl x)) ∧ fits (pm_ft ci k) (pm_rv E (.inr (.inl x))) = true := by
    rw [pm_tg1 ht]; exact ⟨rfl, rfl⟩
  refine ps_putG (c0 := 0) (S' := (S.1, pm_sa S.2.1 a.toNat (pm_up (S.2.1 a.toNat) k x), S.2.2)) hx hb hts ho hK hm hr hk ha hmay hnf.1 hnf.2 rfl ?_ (fun j hj => pm_fvm hj) (fun b hb => pm_ce_m hb) hd kk
  simp only [pm_fv, pm_gv, if_pos ht, pm_sa, pm_up, if_true]
theorem ps_putR {idx ci k : Nat} {a x : Int} (hx : p.tables.exec = Jvm.exec) (hb : c.code = pm_cd mi) (hts : ∀ w ∈ pm_tb, w.before args s = true) (ho : s.vm.findClass (pm_cn (pm_cl mi)) = some m.cls) (hK : va_K D vwCl (pm_tys E) s) (hm : pm_kd mi = 2 → meth.name = "<init>") (hr : pm_fr (pm_cl mi) idx = some (ci, k)) (hk : k < pm_nf ci) (ha : pm_ob S.1 a ci) (hmay : pm_may mi ci k) (ht : pm_tag (pm_ft ci k) = 2) (hx0 : 0 ≤ x) (hd : decode (pm_cd mi) pc = .ok (.putfield idx, 3))
    (kk : pm_Wc p l e R s m args below meth c Q D E KS (pm_ml mi) N0 M0 (pc + 3, ls, r, (S.1, S.2.1, pm_sa S.2.2 a.toNat (pm_up (S.2.2 a.toNat) k x)))) : pm_Wc p l e R s m args below meth c Q D E KS (pm_ml mi) N0 M0 (pc, ls, .inr (.inr (.inl x)) :: .inr (.inr (.inl a)) :: r, S) := by
  have hci := (pm_fr_sp hr).2
  have hnf : narrow (pm_ft ci k) (pm_rv E (.inr (.inr (.inl x)))) = pm_rv E (.inr (.inr (.inl x))) ∧ fits (pm_ft ci k) (pm_rv E (.inr (.inr (.inl x)))) = true := by
    rw [pm_rvA E hx0]
    have h1 := (pm_tyo ci hci k hk).1
    generalize pm_ft ci k = t at h1 ht
    cases t <;> first | (simp at h1; done) | (simp [pm_tag] at ht; done) | exact ⟨rfl, rfl⟩
  refine ps_putG (c0 := 0) (S' := (S.1, S.2.1, pm_sa S.2.2 a.toNat (pm_up (S.2.2 a.toNat) k x))) hx hb hts ho hK hm hr hk ha hmay hnf.1 hnf.2 rfl ?_ (fun j hj => pm_fvp hj) (fun b hb => pm_ce_p hb) hd kk
  have h1 : pm_tag (pm_ft ci k) ≠ 1 := by rw [ht]; decide
  simp only [pm_fv, pm_gv, if_neg h1, if_pos ht, pm_sa, pm_up, if_true]
theorem pm_simV {idx : Nat} {q : PC} (hP : pm_Prim l D E KS) (C : pm_X p s m args meth c D E KS mi N0) (hR8 : 8 ≤ R.frames ∧ 300 ≤ R.locals) (hrc : q.2.2.2.1.1 ≤ R.cells + N0) (hrs : q.2.2.2.1.2.1 ≤ R.slots + M0) (hd : decode (pm_cd mi) pc = .ok (.invokevirtual idx, 3)) (h : pm_invv mi idx pc ls st S = some (.inl q)) (k : pm_Wc p l e R s m args below meth c Q D E KS (pm_ml mi) N0 M0 q) : pm_Wc p l e R s m args below meth c Q D E KS (pm_ml mi) N0 M0 (pc, ls, st, S) := by
  have hR : 1 ≤ R.frames ∧ 60 ≤ R.locals := ⟨by have := hR8.1; omega, by have := hR8.2; omega⟩
  have h0 := h
  unfold pm_invv at h
  split at h
  · rename_i m' nest hmr
    have key : q.2.2.2 = S → 902 ≤ m' → m' ≤ 904 → pm_Wc p l e R s m args below meth c Q D E KS (pm_ml mi) N0 M0 (pc, ls, st, S) := by
      intro e1 h1 h2
      rw [e1] at hrc hrs
      exact hP p e R s m args below meth c Q mi N0 M0 idx pc ls st S q C hR8.1 hR8.2 hrc hrs (Or.inl ⟨m', nest, hmr, h1, h2, hd, h0⟩) k
    split at h
    · split at h
      · split at h <;> simp at h
      · cases h
    · split at h
      · rename_i hm
        split at h
        · split at h
          · split at h
            · refine key ?_ (by omega) (by omega)
              cases h
              rfl
            · cases h
          · cases h
        · cases h
      · split at h
        · split at h
          · split at h
            · split at h
              · refine key ?_ (by omega) (by omega)
                cases h
                rfl
              · cases h
            · cases h
          · cases h
        · split at h
          · split at h
            · split at h
              · split at h
                · refine key ?_ (by omega) (by omega)
                  cases h
                  rfl
                · cases h
              · cases h
            · cases h
          · cases h
  · cases h
theorem pm_simI {idx : Nat} {q : PC} (C : pm_X p s m args meth c D E KS mi N0) (hR : 1 ≤ R.frames ∧ 60 ≤ R.locals) (hd : decode (pm_cd mi) pc = .ok (.invokespecial idx, 3)) (h : pm_invi mi idx pc ls st S = some (.inl q)) (k : pm_Wc p l e R s m args below meth c Q D E KS (pm_ml mi) N0 M0 q) : pm_Wc p l e R s m args below meth c Q D E KS (pm_ml mi) N0 M0 (pc, ls, st, S) := by
  obtain ⟨hx, hb, hml, ho, hts, hK, hin, h0, hbE, hKX⟩ := id C
  unfold pm_invi at h
  split at h
  · rename_i m' nest hmr
    split at h
    · rename_i a r hst
      split at h
      · rename_i hw
        split at h
        · rename_i hm
          subst hm
          cases h
          simp only [if_true, List.drop_zero] at hst
          subst hst
          have hl := hts _ (pm_mr_pr hmr (by decide))
          intro H locs lsr cells slots hH hL hc hs
          simp only [List.map_cons, pm_rvA E hw.1]
          exact W.objInit hx hb ho hl (hts _ pm_oiI) (hts _ pm_oiC) rfl (by rw [hml]; exact hL.2.1) rfl hd hR.1 (by rw [pm_cats]; show 2 * 0 + _ + 12 ≤ _; omega) (k H locs lsr cells slots hH hL hc hs)
        · split at h <;> simp at h
      · cases h
    · cases h
  · cases h
theorem pm_simS {idx : Nat} {q : PC} (hP : pm_Prim l D E KS) (C : pm_X p s m args meth c D E KS mi N0) (hR8 : 8 ≤ R.frames ∧ 300 ≤ R.locals) (hrc : q.2.2.2.1.1 ≤ R.cells + N0) (hrs : q.2.2.2.1.2.1 ≤ R.slots + M0) (hd : decode (pm_cd mi) pc = .ok (.invokestatic idx, 3)) (h : pm_invs mi idx pc ls st S = some (.inl q)) (k : pm_Wc p l e R s m args below meth c Q D E KS (pm_ml mi) N0 M0 q) : pm_Wc p l e R s m args below meth c Q D E KS (pm_ml mi) N0 M0 (pc, ls, st, S) := by
  have hR : 1 ≤ R.frames ∧ 60 ≤ R.locals := ⟨by have := hR8.1; omega, by have := hR8.2; omega⟩
  obtain ⟨hx, hb, hml, ho, hts, hK, hin, h0, hbE, hKX⟩ := id C
  have h00 := h
  unfold pm_invs at h
  split at h
  · rename_i m' nest hmr
    split at h
    · rename_i hm
      subst hm
      unfold pm_acpy at h
      split at h
      · split at h
        · rename_i hh
          cases h
          obtain ⟨a1, a2, a3, a4, a5, a6, a7, a8, a9⟩ := hh
          exact ps_acpy hx hb hml hts ho hK.1 hR (hts _ (pm_mr_pr hmr (by decide))) (hts _ pm_acN) (hts _ pm_acS) (hts _ pm_syI) a1 a2 a3 a4 a5 a6 a7 a9 hd k
        · cases h
      · cases h
    · split at h
      · rename_i hm
        subst hm
        unfold pm_m2 at h
        split at h
        · split at h
          · cases h
            exact ps_mx hx hb hml ho hR hrc hrs (hts _ (pm_mr_pr hmr (by decide))) (hts _ pm_maxS) (hts _ pm_maI) (hts _ pm_maxC) ‹_› hd k
          · cases h
        · cases h
      · split at h
        · rename_i hm
          subst hm
          unfold pm_m2 at h
          split at h
          · split at h
            · cases h
              exact ps_mn hx hb hml ho hR hrc hrs (hts _ (pm_mr_pr hmr (by decide))) (hts _ pm_minS) (hts _ pm_maI) (hts _ pm_minC) ‹_› hd k
            · cases h
          · cases h
        · have key : q.2.2.2 = S → 907 ≤ m' → m' ≤ 908 → pm_Wc p l e R s m args below meth c Q D E KS (pm_ml mi) N0 M0 (pc, ls, st, S) := by
            intro e1 h1 h2
            rw [e1] at hrc hrs
            exact hP p e R s m args below meth c Q mi N0 M0 idx pc ls st S q C hR8.1 hR8.2 hrc hrs (Or.inr (Or.inl ⟨m', nest, hmr, h1, h2, hd, h00⟩)) k
          split at h
          · unfold pm_m0 at h
            split at h
            · split at h
              · refine key ?_ (by omega) (by omega)
                cases h
                rfl
              · cases h
            · cases h
          · split at h
            · unfold pm_m0 at h
              split at h
              · split at h
                · refine key ?_ (by omega) (by omega)
                  cases h
                  rfl
                · cases h
              · cases h
            · split at h <;> simp at h
  · cases h
end SIM
