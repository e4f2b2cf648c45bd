section TXO
variable {args : Array Value} {s : State}
abbrev tmStr (idx : Nat) : Term := .string "MoonTender$Lexer" idx
abbrev tmFld (idx : Nat) : Term := .field (tmStr idx) "java/lang/String" "value" "[B"
theorem ev_f {t : Term} {a : Addr} (h : t.eval args s none [] s = some (.ref a)) (cls name desc : String) : (Term.field t cls name desc).eval args s none [] s = s.fieldOf? a cls name desc := by
  rw [Term.eval, h]
  rfl
theorem tx_of {idx : Nat} {t : List Int} (ht : t.length < 2 ^ 31) (h1 : (Cond.exactly (tmStr idx) "java/lang/String").before args s = true) (h2 : (Cond.eq (.field (tmStr idx) "java/lang/String" "coder" "B") (.int 0)).before args s = true) (h3 : (Cond.arrayOf (tmFld idx) .byte).before args s = true) (h4 : (Cond.eq (.length (tmFld idx)) (.int (Int32.ofNat t.length))).before args s = true) (h5 : ∀ k, k < t.length → (Cond.eq (.elem (tmFld idx) (.int (Int32.ofNat k))) (.int (Int32.ofInt (t.getD k 0)))).before args s = true) : ∃ a d, TXs s.heap.size s a d t ∧ (tmStr idx).eval args s none [] s = some (.ref a) := by
  obtain ⟨a, c, cell, k, e0, e1, e2, e3, e4, e5, e6⟩ := Cond.exactly_spec h1
  have c2 := Cond.eq_int h2 rfl
  rw [ev_f e0] at c2
  have c4 := Cond.eq_int h4 rfl
  have c5 : ∀ k, k < t.length → (Term.elem (tmFld idx) (.int (Int32.ofNat k))).eval args s none [] s = some (.int (Int32.ofInt (t.getD k 0))) := fun k hk => Cond.eq_int (h5 k hk) rfl
  have hf := ev_f e0 "java/lang/String" "value" "[B"
  obtain ⟨d, hd⟩ : ∃ d, (tmFld idx).eval args s none [] s = some (.ref d) := by
    cases hv : (tmFld idx).eval args s none [] s with
    | none => rw [Term.eval, hv] at c4; cases c4
    | some v =>
      cases v with
      | ref d => exact ⟨d, rfl⟩
      | _ => rw [Term.eval, hv] at c4; cases c4
  have c3 : s.fieldOf? a "java/lang/String" "value" "[B" = some (.ref d) := by rw [← hf]; exact hd
  rw [Term.eval, hd] at c4
  cases harr : s.arrayAt? d with
  | none =>
    simp only [Option.bind_eq_bind, Option.bind_some, harr, Option.bind_none] at c4
    cases c4
  | some arr =>
    obtain ⟨hcb, hkn, hst, hks⟩ := State.arrayAt?_spec harr
    have hsz : arr.slots.size = t.length := by
      simp only [Option.bind_eq_bind, Option.bind_some, harr, Option.pure_def] at c4
      by_cases q : arr.slots.size < 2 ^ 31
      · rw [if_pos q] at c4
        have c6 : arr.slots.size.toInt32 = Int32.ofNat t.length := by injection c4 with c4; injection c4
        have c7 := congrArg Int32.toInt c6
        rw [show arr.slots.size.toInt32 = nI arr.slots.size from rfl, show Int32.ofNat t.length = nI t.length from rfl, nI_toInt q, nI_toInt ht] at c7
        omega
      · rw [if_neg q] at c4; cases c4
    refine ⟨a, d, ⟨(Array.getElem?_eq_some_iff.mp e2).1, (Array.getElem?_eq_some_iff.mp hcb).1, ⟨c, cell, k, e1, e2, e3, e4, e5, e6⟩, c3, c2, arr, hcb, ?_, hkn, hsz, fun k hk => ?_⟩, e0⟩
    · exact (Cond.arrayOf_spec h3 hd hcb).1
    · have c8 := c5 k hk
      rw [Term.eval, hd] at c8
      have e9 : (Term.int (Int32.ofNat k)).eval args s none [] s = some (.int (Int32.ofNat k)) := rfl
      simp only [Option.bind_eq_bind, Option.bind_some, harr, e9] at c8
      rw [if_neg (show ¬ Int32.ofNat k < 0 from nI_pos (by omega)), show (Int32.ofNat k).toNatClampNeg = k from nI_clamp (by omega)] at c8
      exact c8
end TXO
section STO
variable {args : Array Value} {s : State}
theorem ev_s {cls name desc : String} {c i : Nat} {k : Class} {f : Field} {a : Addr} {cell : Cell} (h1 : s.fieldFound? cls name desc = some (c, k, i, f)) (h2 : f.isStatic = true) (h3 : k.statics = some a) (h4 : s.heap[a]? = some cell) (h5 : cell.vm.isStatics = true) : (Term.static cls name desc).eval args s none [] s = cell.slots[f.slot]? := by
  rw [Term.eval]
  simp [State.fieldNamed?, h1, h2, h3, h4, h5]
theorem st_of {cls name desc : String} {v : Value} (h1 : (Cond.laysStatic cls name desc).before args s = true) (h2 : (Cond.initialized cls).before args s = true) (h3 : (Term.static cls name desc).eval args s none [] s = some v) : stB s.heap.size s cls name desc v := by
  obtain ⟨c, k, i, f, a, cell, e1, e2, e3, e4, e5, e6, e7, e8, e9⟩ := Cond.laysStatic_spec h1
  have hk : s.vm.classes[c]? = some k := (State.fieldFound?_spec e2).1
  have g3 := Cond.initialized_spec e1 hk h2
  rw [ev_s e2 e3 e4 e5 e6] at h3
  exact ⟨c, i, k, f, a, cell, e2, e3, g3, e4, e5, (fun z => by rw [z] at e6; cases e6), h3, (Array.getElem?_eq_some_iff.mp e5).1⟩
end STO
section TTO
variable {args : Array Value} {s : State}
set_option maxRecDepth 100000 in
theorem fl_own : ∀ k, k < 147 → (Cond.eq (.elem (tmFld 19) (.int (Int32.ofNat k))) (.int (Int32.ofInt (pm_own.getD k 0)))) ∈ flatC (Jvm.Cond.and given_1 narrow_1) := by decide +kernel
set_option maxRecDepth 100000 in
theorem fl_sig : ∀ k, k < 14 → (Cond.eq (.elem (tmFld 66) (.int (Int32.ofNat k))) (.int (Int32.ofInt (pm_signs.getD k 0)))) ∈ flatC (Jvm.Cond.and given_1 narrow_1) := by decide +kernel
set_option maxRecDepth 100000 in
theorem fl_x : (∀ w ∈ [Cond.exactly (tmStr 19) "java/lang/String", Cond.eq (.field (tmStr 19) "java/lang/String" "coder" "B") (.int 0), Cond.arrayOf (tmFld 19) .byte, Cond.eq (.length (tmFld 19)) (.int (Int32.ofNat 147)), Cond.exactly (tmStr 66) "java/lang/String", Cond.eq (.field (tmStr 66) "java/lang/String" "coder" "B") (.int 0), Cond.arrayOf (tmFld 66) .byte, Cond.eq (.length (tmFld 66)) (.int (Int32.ofNat 14)), Cond.eq (.static "java/lang/String" "COMPACT_STRINGS" "Z") (.int 1), Cond.isRef (.static "jdk/internal/util/Preconditions" "SIOOBE_FORMATTER" "Ljava/util/function/BiFunction;")], w ∈ flatC (Jvm.Cond.and given_1 narrow_1)) := by decide +kernel
set_option maxRecDepth 100000 in
theorem lt_x : lw_tbl[401]? = some (.laysStatic "java/lang/String" "COMPACT_STRINGS" "Z") ∧ lw_tbl[417]? = some (.laysStatic "jdk/internal/util/Preconditions" "SIOOBE_FORMATTER" "Ljava/util/function/BiFunction;") ∧ lw_tbl[156]? = some (.initialized "java/lang/String") ∧ lw_tbl[158]? = some (.initialized "jdk/internal/util/Preconditions") ∧ lw_tbl[391]? = some (.stringRef "MoonTender$Lexer" 19 "sea moon at goes temper harbor purse depth pays owes clause pull earns level sulk height paid due far sulks rival hour place or and not all min max") ∧ lw_tbl[830]? = some (.stringRef "MoonTender$Lexer" 66 ";+-*/%()[],<>=") := by decide +kernel
theorem sr_of {idx a : Nat} {text : String} (hc : ∃ c, s.vm.findClass "MoonTender$Lexer" = some c) (h : (Cond.stringRef "MoonTender$Lexer" idx text).before args s = true) (he : (tmStr idx).eval args s none [] s = some (.ref a)) : sR s idx a := by
  obtain ⟨c, hc⟩ := hc
  obtain ⟨k, cf, i, a', h1, h2, h3, h4, h5, h6⟩ := Cond.stringRef_spec hc h
  cases he.symm.trans h6
  exact ⟨c, k, cf, i, hc, h1, h2, h3, h5⟩
theorem tt_of (hts : ∀ w ∈ lw_tbl, w.before args s = true) (hg : (Jvm.Cond.and given_1 narrow_1).before args s = true) (hc : ∃ c, s.vm.findClass "MoonTender$Lexer" = some c) : ∃ ta : Nat → Nat, TT s.heap.size ta pm_own pm_signs s := by
  have hf := flat_of_before _ hg
  have fx := fl_x
  obtain ⟨l1, l2, l3, l4, l5, l6⟩ := lt_x
  obtain ⟨a0, d0, t0, v0⟩ := tx_of (args := args) (s := s) (idx := 19) (t := pm_own) (by decide +kernel) (hf _ (fx _ (List.mem_of_getElem? (i := 0) rfl))) (hf _ (fx _ (List.mem_of_getElem? (i := 1) rfl))) (hf _ (fx _ (List.mem_of_getElem? (i := 2) rfl))) (hf _ (fx _ (List.mem_of_getElem? (i := 3) rfl))) (fun k hk => hf _ (fl_own k (Nat.lt_of_lt_of_le hk (by decide +kernel))))
  obtain ⟨a1, d1, t1, v1⟩ := tx_of (args := args) (s := s) (idx := 66) (t := pm_signs) (by decide +kernel) (hf _ (fx _ (List.mem_of_getElem? (i := 4) rfl))) (hf _ (fx _ (List.mem_of_getElem? (i := 5) rfl))) (hf _ (fx _ (List.mem_of_getElem? (i := 6) rfl))) (hf _ (fx _ (List.mem_of_getElem? (i := 7) rfl))) (fun k hk => hf _ (fl_sig k hk))
  have s1 := Cond.eq_int (hf _ (fx _ (List.mem_of_getElem? (i := 8) rfl))) rfl
  obtain ⟨fmt, s2, s3⟩ := Cond.isRef_spec (hf _ (fx _ (List.mem_of_getElem? (i := 9) rfl)))
  refine ⟨fun j => if j = 0 then a0 else a1, st_of (hts _ (List.mem_of_getElem? l1)) (hts _ (List.mem_of_getElem? l3)) s1, ⟨fmt, ?_, st_of (hts _ (List.mem_of_getElem? l2)) (hts _ (List.mem_of_getElem? l4)) s2⟩, ⟨d0, t0⟩, ⟨d1, t1⟩, sr_of hc (hts _ (List.mem_of_getElem? l5)) v0, sr_of hc (hts _ (List.mem_of_getElem? l6)) v1⟩
  cases fmt with
  | null => exact Or.inl rfl
  | ref r => exact Or.inr ⟨r, rfl⟩
  | _ => cases s3
end TTO
section KNO
variable {args : Array Value} {s : State}
theorem kn_of (hts : ∀ w ∈ pm_tb, w.before args s = true) : ∃ D : va_G, ∀ (c : Nat) (q : vw_C), vwCl[c]? = some q → u_Kn s q.1 q.2.1 q.2.2 (D.1 c) (D.2 c) := by
  have h : ∀ ci : Nat, ∃ q : ClassId × (Nat → Nat), ci < 13 → u_Kn s (pm_cn ci) (fun k => pm_T ci k) (pm_nf ci) q.1 q.2 := by
    intro ci
    by_cases hci : ci < 13
    · obtain ⟨cC, iS, hk⟩ := u_known hts (pm_lays hci) (hts _ (pm_tb_in (pm_cp_ok ci hci).1 rfl))
      exact ⟨(cC, iS), fun _ => hk⟩
    · exact ⟨(0, fun _ => 0), fun z => absurd z hci⟩
  refine ⟨(fun c => (Classical.choose (h c)).1, fun c => (Classical.choose (h c)).2), fun c q hq => ?_⟩
  have hl : vwCl.length = 13 := by decide +kernel
  have hc : c < 13 := by
    have := (List.getElem?_eq_some_iff.mp hq).1
    omega
  rw [pm_cls c hc] at hq
  cases hq
  exact Classical.choose_spec (h c) hc
theorem ar_of {ty : FieldType} (h : (Cond.arrayClass ty).before args s = true) : ∃ cA, ArrOfT s cA ty ∧ s.vm.findClass ("[" ++ ty.toString) = some cA := by
  obtain ⟨c, k, comp, h1, h2, h3⟩ := Cond.arrayClass_spec h
  exact ⟨c, fun n z => ⟨(fun k' hh => by cases hh), k, h2, comp, h3⟩, h1⟩
theorem ao_of (h : (Cond.arrayOver (.object RX5)).before args s = true) : ∃ cA, ArrOfT s cA (.object RX5) ∧ va_RA s cA (.object RX5) := by
  obtain ⟨comp, c, k, h1, -, h2, h3, h4⟩ := Cond.arrayOver_spec h
  exact ⟨c, fun n z => ⟨(fun k' hh => by cases hh), k, h2, comp, h3⟩, k, comp, h2, h3, h1, h4⟩
set_option maxRecDepth 100000 in
theorem lt_ao : lw_tbl[684]? = some (.arrayOver (.object RX5)) := by decide +kernel
theorem K_of (hts : ∀ w ∈ lw_tbl, w.before args s = true) (N b : Nat) (ta : Nat → Nat) : ∃ (D : va_G) (tc : Nat → ClassId), pm_K D (N, b, ta, tc) s := by
  have htb : ∀ w ∈ pm_tb, w.before args s = true := fun w hw => hts w (pm_tb_sub w hw)
  obtain ⟨D, hD⟩ := kn_of htb
  obtain ⟨c0, a0, r0⟩ := ar_of (htb _ pm_acI)
  obtain ⟨c1, a1, r1⟩ := ar_of (htb _ pm_acB)
  obtain ⟨c2, a2, r2⟩ := ar_of (htb _ pm_acZ)
  obtain ⟨c3, a3, r3⟩ := ar_of (htb _ pm_acL)
  have hao := hts _ (List.mem_of_getElem? lt_ao)
  obtain ⟨c4, a4, r4⟩ := ao_of hao
  refine ⟨D, fun k => if k = 100 then c0 else if k = 101 then c1 else if k = 102 then c2 else if k = 103 then c3 else c4, ⟨hD, fun k q hq => ?_⟩, va_AO.of hao, fun e he h9 hn => ?_⟩
  · match k, hq with
    | 0, hq => cases hq; exact ⟨a0, r0⟩
    | 1, hq => cases hq; exact ⟨a1, r1⟩
    | 2, hq => cases hq; exact ⟨a2, r2⟩
    | 3, hq => cases hq; exact ⟨a3, r3⟩
    | 4, hq => cases hq; exact ⟨a4, r4⟩
    | k + 5, hq => cases hq
  · have h1 := (pm_mr_ok e he h9).1
    unfold pm_lk at h1
    rw [if_neg hn] at h1
    exact va_Nw.of rfl (hts _ (List.mem_of_getElem? h1))
end KNO
set_option maxRecDepth 100000 in
theorem pm308 : pm_cd 308 = code ∧ pm_ml 308 = 4 ∧ pm_cn (pm_cl 308) = R_law ∧ pm_kd 308 ≠ 2 := ⟨rfl, by decide +kernel, by decide +kernel, by decide +kernel⟩
theorem start0 {p : Program} {e : Env} {s : State} {m : MethodId} {below : List Frame} {meth : Method} {c : Code} (l : Launch) {b L : Nat} {xs : Nat → Int32} (C0 : lw_At p s m meth c b L xs) (hrun : pm_R (pm_Big 60) 308 (fun v S => v = .inl 1 ∧ S.1.1 ≤ 600000 ∧ S.1.2.1 ≤ 7302250) (0, [.inr (.inr (.inl (-2))), PU, PU, PU], [], ((0, 0, (fun _ => (0, 0)), (L, fun j => (xs j).toInt)), (fun _ _ => 0), fun _ _ => -1))) : W p l e room_1 s m #[Value.ref b] below meth c s.heap [] 0 0 (lw_Z below #[Value.ref b] s) (entryFrame m ([Value.ref b] : List Value).toArray 4) := by
  obtain ⟨hx, hb, hr, hml, hown, hts, hX, hbl, hlocks, hgv⟩ := C0
  obtain ⟨y1, y2, y3, y4⟩ := pm308
  have htb : ∀ w ∈ pm_tb, w.before #[Value.ref b] s = true := fun w hw => hts w (pm_tb_sub w hw)
  obtain ⟨D0, hD0⟩ := kn_of htb
  have hlex : ∃ c, s.vm.findClass "MoonTender$Lexer" = some c := by
    have h4 := hD0 4 _ (pm_cls 4 (by decide))
    exact ⟨_, h4.2.1⟩
  obtain ⟨ta, hTT⟩ := tt_of hts hgv hlex
  obtain ⟨D, tc, hK⟩ := K_of hts s.heap.size b ta
  have hKS0 : KSd (s.heap.size, b, ta, tc) (L, fun j => (xs j).toInt) s s.heap := by
    refine ⟨?_, hTT⟩
    obtain ⟨scr, h1, h2, h3, h4, h5⟩ := hX
    exact ⟨scr, h1, h2, h3, h4, fun j hj => by rw [h5 j hj]; show _ = some (Value.int (Int32.ofInt (xs j).toInt)); rw [Int32.ofInt_toInt]⟩
  have C : pm_X p s m #[Value.ref b] meth c D (s.heap.size, b, ta, tc) (KSd (s.heap.size, b, ta, tc)) 308 0 := ⟨hx, by rw [y1]; exact hb, by rw [y2]; exact hml, by rw [y3]; exact hown, htb, hK, fun z => absurd z y4, rfl, hbl, fun X H h => h.1⟩
  have hKS := KSd_ok (E := (s.heap.size, b, ta, tc)) hbl
  have hP := prim l D (s.heap.size, b, ta, tc)
  rw [lg_entry_eq]
  have key := pm_simR (d := 60) (R := room_1) (M0 := 0) (e := e) (below := below) (Q := lw_Z below #[Value.ref b] s) hKS hP C ⟨by decide, by decide⟩ (fun m2 as2 S2 v2 S3 h2 h3 => pm_sim hKS hbl hP 60 m2 as2 S2 v2 S3 h2 h3) ?_ hrun
  · have hini := pm_L_ini (E := (s.heap.size, b, ta, tc)) (nL := pm_ml 308) (as := [.inr (.inr (.inl (-2)))]) (by rw [y2]; decide)
    rw [y2] at hini key
    exact key.2 s.heap [] _ 0 0 ⟨(fun k q hq => by cases hq), va_S.rf, hKS0⟩ hini rfl rfl
  · intro pc ls st S i n v S1 hf hstp hk
    obtain ⟨hd, hn⟩ := pm_fe_sp hf
    obtain ⟨rfl, hcase⟩ := pm_step_ret hstp
    obtain ⟨hv, hb1, hb2⟩ := hk
    refine ⟨⟨by show S1.1.1 ≤ 600000 + 0; omega, by show S1.1.2.1 ≤ 7302250 + 0; omega⟩, ?_⟩
    intro H locs lsr cells slots hH hL hc hs
    have hc' : cells + 0 = S1.1.1 := hc
    have hs' : slots + 0 = S1.1.2.1 := hs
    rcases hcase with ⟨rfl, x, rfl, rfl, hrt⟩ | ⟨rfl, x, rfl, rfl, hrt⟩ | ⟨rfl, x, rfl, rfl, hrt, hx0⟩ | ⟨rfl, rfl, rfl, hrt⟩
    · cases hv
      obtain rfl : n = 1 := by simpa [pm_lok] using hn
      refine va_forget (fun q hq => hH.2.1.2.2 q hq) ?_
      refine W.widen (k := 600000) (n := 7302250) (by omega) (by omega) ?_
      exact lw_ret hx hb hr hlocks (by rw [y1] at hd; exact hd)
    · cases hv
    · cases hv
    · cases hv
