theorem gd_list {ws : List Cond} {ix : List Nat} (h : ∀ k, k < ws.length → lw_tbl[ix.getD k 0]? = ws[k]?) (hg : ∀ w ∈ ws, goodWord w = true) : GoodIn pm_tb ws := by
  intro w hw
  obtain ⟨k, hk, rfl⟩ := List.mem_iff_getElem.mp hw
  refine ⟨pm_tb_in (i := ix.getD k 0) ?_ (hg _ hw), good_of_word (hg _ hw)⟩
  rw [h k hk, List.getElem?_eq_getElem hk]
set_option maxRecDepth 100000 in
theorem gdL : GoodIn pm_tb wsL := gd_list (ix := [395, 2320, 396, 398, 397, 156, 399, 400, 2321]) (by decide +kernel) (by decide +kernel)
set_option maxRecDepth 100000 in
theorem gdC : GoodIn pm_tb wsC := gd_list (ix := [405, 406, 408, 407, 2320, 410, 411, 157, 156, 409, 400, 2321, 412, 413, 414, 415, 416, 418, 419, 158, 420]) (by decide +kernel) (by decide +kernel)
set_option maxRecDepth 100000 in
theorem gdI : GoodIn pm_tb wsIx := gd_list (ix := [834, 835, 837, 836, 156, 838, 406, 408, 407, 2320, 839, 394, 393, 840, 841, 157, 409, 842, 843, 844, 845, 846, 847, 848, 849, 816, 817, 168, 850, 851, 852] ++ [395, 2320, 396, 398, 397, 156, 399, 400, 2321] ++ [405, 406, 408, 407, 2320, 410, 411, 157, 156, 409, 400, 2321, 412, 413, 414, 415, 416, 418, 419, 158, 420]) (by decide +kernel) (by decide +kernel)
set_option maxRecDepth 100000 in
theorem gdFD : GoodIn pm_tb wsFD := gd_list (ix := [1165]) (by decide +kernel) (by decide +kernel)
set_option maxRecDepth 100000 in
theorem gdFM : GoodIn pm_tb wsFM := gd_list (ix := [1168]) (by decide +kernel) (by decide +kernel)
def wsX : List Cond := [.initialized "java/lang/String", .instanceMethod sL, .selects "java/lang/String" sL sL, .instanceMethod sC, .selects "java/lang/String" sC sC, .instanceMethod sI1, .selects "java/lang/String" sI1 sI1, .initialized "java/lang/Math", .static mFD, .static mFM]
set_option maxRecDepth 100000 in
theorem gdX : GoodIn pm_tb wsX := gd_list (ix := [156, 393, 394, 403, 404, 832, 833, 168, 1164, 1167]) (by decide +kernel) (by decide +kernel)
theorem wX {k : Nat} {w : Cond} (h : wsX[k]? = some w) : w ∈ pm_tb := (gdX w (List.mem_of_getElem? h)).1
def KSd (E : PE) (X : Nat × (Nat → Int)) (U : State) (H : Heap) : Prop := va_X E.2.1 X.1 (fun j => Int32.ofInt (X.2 j)) U H ∧ TT E.1 E.2.2.1 pm_own pm_signs (tV U H)
theorem KSd_ok {E : PE} (hbE : E.2.1 < E.1) : pm_KSok E (KSd E) := by
  refine ⟨fun X U U' H hW h => ⟨h.1.moved hW.alike, ?_⟩, fun X U H H1 h hq => ⟨h.1.kept (hq _ hbE), ?_⟩, fun X U H h => h.1⟩
  · exact TT_mv (V := tV U H) (V' := tV U' H) h.2 (State.WarmedH.of_rootvm (s := U) (u := tV U H) rfl hW) (fun _ _ => rfl)
  · exact TT_mv (V := tV U H) (V' := tV U H1) h.2 (State.WarmedH.refl (tV U H)) (fun q z => hq q z)
theorem ixl_e : ∀ (t : List Int) (c i : Int), pm_ix t c i = ixl t c i
  | [], _, _ => rfl
  | x :: r, c, i => by
    show (if x = c then i else pm_ix r c (i + 1)) = if x = c then i else ixl r c (i + 1)
    rw [ixl_e r c (i + 1)]
theorem tx_b : (pm_own.length < 2 ^ 31 ∧ ∀ x ∈ pm_own, 0 ≤ x ∧ x < 128) ∧ pm_signs.length < 2 ^ 31 ∧ ∀ x ∈ pm_signs, 0 ≤ x ∧ x < 128 := by decide +kernel
theorem tx_get {E : PE} {V : State} (h : TT E.1 E.2.2.1 pm_own pm_signs V) {a : Int} {t : List Int} (ha : pm_str a = some t) : ∃ b d : Nat, TXs E.1 V b d t ∧ (t.length < 2 ^ 31 ∧ ∀ x ∈ t, 0 ≤ x ∧ x < 128) ∧ pm_rv E (.inr (.inr (.inl a))) = .ref b := by
  unfold pm_str at ha
  obtain ⟨-, -, ⟨d0, h0⟩, ⟨d1, h1⟩, -, -⟩ := h
  by_cases q : a = -3
  · rw [if_pos q] at ha
    cases ha
    subst q
    exact ⟨_, d0, h0, tx_b.1, rfl⟩
  · rw [if_neg q] at ha
    by_cases q2 : a = -4
    · rw [if_pos q2] at ha
      cases ha
      subst q2
      exact ⟨_, d1, h1, tx_b.2, rfl⟩
    · rw [if_neg q2] at ha
      cases ha
section PRM
variable {p : Program} {l : Launch} {e : Env} {R : Room} {s : State} {m : MethodId} {args : Array Value} {below : List Frame} {meth : Method} {c : Code} {Q : State → Prop}
variable {D : va_G} {E : PE} {mi N0 M0 : Nat} {pc : Nat} {ls st r : List PV} {S : PS}
theorem tt_at (h0 : s.heap.size = E.1 + N0) {H : Heap} {locs : List Loc} (hH : pm_HR D E (KSd E) s S H locs) {U : State} (hU : U.heap = H) (hW : s.WarmedH U.vm) : TT E.1 E.2.2.1 pm_own pm_signs U := by
  have h1 : TT E.1 E.2.2.1 pm_own pm_signs s := hH.2.2.2
  refine TT_mv h1 hW (fun q hq => ?_)
  rw [hU]
  exact hH.2.1.2.1 q (by omega) (by show ¬ E.1 ≤ q; omega)
theorem pr_len {idx : Nat} {a : Int} {t : List Int} (C : pm_X p s m args meth c D E (KSd E) mi N0) (hR1 : 8 ≤ R.frames) (hR2 : 300 ≤ R.locals) (hrc : S.1.1 ≤ R.cells + N0) (hrs : S.1.2.1 ≤ R.slots + M0) (hl : Cond.methodLink (pm_cn (pm_cl mi)) idx sL ∈ pm_tb) (ha : pm_str a = some t) (hw : pm_wl r ≤ 8) (hd : decode (pm_cd mi) pc = .ok (.invokevirtual idx, 3)) (kk : pm_Wc p l e R s m args below meth c Q D E (KSd E) (pm_ml mi) N0 M0 (pc + 3, ls, .inl t.length :: r, S)) : pm_Wc p l e R s m args below meth c Q D E (KSd E) (pm_ml mi) N0 M0 (pc, ls, .inr (.inr (.inl a)) :: r, S) := by
  obtain ⟨hx, hb, hml, ho, hts, hK, hin, h0, hbE, hKX⟩ := id C
  intro H locs lsr cells slots hH hL hc hs
  have hc' : cells + N0 = S.1.1 := hc
  have hs' : slots + M0 = S.1.2.1 := hs
  obtain ⟨b, d, hT, hb9, hrv⟩ := tx_get (E := E) (V := s) hH.2.2.2 ha
  have hT1 : TXs E.1 (tV s H) b d t := by
    refine TX_mv hT (State.WarmedH.refl s).alike (fun q hq => ?_)
    exact hH.2.1.2.1 q (by omega) (by show ¬ E.1 ≤ q; omega)
  have hcell : ∃ cellB : Cell, H[b]? = some cellB ∧ cellB.vm.isStatics = false ∧ s.vm.findClass "java/lang/String" = some cellB.cls := by
    obtain ⟨-, -, ⟨cc, cell, k, e1, e2, e3, e4, e5, e6⟩, -⟩ := hT1
    exact ⟨cell, e2, e4, by rw [e5]; exact e1⟩
  simp only [List.map_cons, hrv]
  refine pc_W (w := Int32.ofNat t.length) (fun _ _ _ h => h) (va_runV (C := "java/lang/String") (b := b) (As := []) (rest := r.map (pm_rv E)) (n := 0) (bytes := Jvm.Lib.String.length.code) (maxL := 1) (ret := some .int) (Ts := pm_tb) ⟨hx, hb, hml, ho, hts⟩ (met_L l E.1 b d t (fun _ => False) 0 0) ⟨callB_of 0 hts gdL rfl rfl rfl (hts _ (wX (k := 0) rfl)) (hts _ hl) ⟨by decide, by decide, by decide +kernel⟩ ⟨by show 1 + 1 ≤ R.frames; omega, by show 8 + (1 + 11) + 24 ≤ R.locals; omega⟩, hts _ (wX (k := 1) rfl), hts _ (wX (k := 2) rfl)⟩ ⟨fb_L, hcell, fun U hU hW => ⟨rfl, TX_mv hT1 (V' := U) hW.alike (fun q _ => by rw [hU]; rfl), (tt_at h0 hH hU hW).1⟩⟩ rfl rfl (by show lsr.size = _; exact hL.2.1) rfl (by rw [pm_cats]; show 2 * 0 + _ ≤ 8; omega) hd ⟨by omega, by omega⟩) (pn_w ?_ (kk H locs lsr cells slots hH hL hc hs))
  rw [pm_rvI, Int32.ofInt_eq_ofNat]
end PRM
section PRM2
variable {p : Program} {l : Launch} {e : Env} {R : Room} {s : State} {m : MethodId} {args : Array Value} {below : List Frame} {meth : Method} {c : Code} {Q : State → Prop}
variable {D : va_G} {E : PE} {mi N0 M0 : Nat} {pc : Nat} {ls st r : List PV} {S : PS}
theorem pr_chr {idx : Nat} {a i : Int} {t : List Int} (C : pm_X p s m args meth c D E (KSd E) mi N0) (hR1 : 8 ≤ R.frames) (hR2 : 300 ≤ R.locals) (hrc : S.1.1 ≤ R.cells + N0) (hrs : S.1.2.1 ≤ R.slots + M0) (hl : Cond.methodLink (pm_cn (pm_cl mi)) idx sC ∈ pm_tb) (ha : pm_str a = some t) (hw : pm_wl r ≤ 8) (hi0 : 0 ≤ pm_sg i) (hi1 : pm_sg i < t.length) (hd : decode (pm_cd mi) pc = .ok (.invokevirtual idx, 3)) (kk : pm_Wc p l e R s m args below meth c Q D E (KSd E) (pm_ml mi) N0 M0 (pc + 3, ls, .inl (t.getD (pm_sg i).toNat 0) :: r, S)) : pm_Wc p l e R s m args below meth c Q D E (KSd E) (pm_ml mi) N0 M0 (pc, ls, .inl i :: .inr (.inr (.inl a)) :: r, S) := by
  obtain ⟨hx, hb, hml, ho, hts, hK, hin, h0, hbE, hKX⟩ := id C
  intro H locs lsr cells slots hH hL hc hs
  have hc' : cells + N0 = S.1.1 := hc
  have hs' : slots + M0 = S.1.2.1 := hs
  obtain ⟨b, d, hT, hb9, hrv⟩ := tx_get (E := E) (V := s) hH.2.2.2 ha
  have hT1 : TXs E.1 (tV s H) b d t := by
    refine TX_mv hT (State.WarmedH.refl s).alike (fun q hq => ?_)
    exact hH.2.1.2.1 q (by omega) (by show ¬ E.1 ≤ q; omega)
  have hcell : ∃ cellB : Cell, H[b]? = some cellB ∧ cellB.vm.isStatics = false ∧ s.vm.findClass "java/lang/String" = some cellB.cls := by
    obtain ⟨-, -, ⟨cc, cell, k, e1, e2, e3, e4, e5, e6⟩, -⟩ := hT1
    exact ⟨cell, e2, e4, by rw [e5]; exact e1⟩
  obtain ⟨j, hj⟩ : ∃ j : Nat, pm_sg i = (j : Int) := ⟨(pm_sg i).toNat, by omega⟩
  have ej : Int32.ofInt i = Int32.ofNat j := by rw [pm_ofI hj, Int32.ofInt_eq_ofNat]
  have hjl : j < t.length := by omega
  rw [hj, Int.toNat_natCast] at kk
  have hbj : 0 ≤ t.getD j 0 ∧ t.getD j 0 < 128 := hb9.2 _ (by rw [List.getD_eq_getElem?_getD, List.getElem?_eq_getElem hjl]; exact List.getElem_mem hjl)
  simp only [List.map_cons, hrv, pm_rvI, ej]
  refine pc_W (w := Int32.ofInt (t.getD j 0)) (fun _ _ _ h => h) (va_runV (C := "java/lang/String") (b := b) (As := [.int (Int32.ofNat j)]) (rest := r.map (pm_rv E)) (n := 1) (bytes := Jvm.Lib.Str.charAt.code) (maxL := 2) (ret := some .char) (Ts := pm_tb) ⟨hx, hb, hml, ho, hts⟩ (met_C l E.1 b d j t (fun _ => False) hjl hb9.1 hbj) ⟨callB_of 1 hts gdC rfl rfl rfl (hts _ (wX (k := 0) rfl)) (hts _ hl) ⟨by decide, by decide, by decide +kernel⟩ ⟨by show 3 + 1 ≤ R.frames; omega, by show 8 + (2 + 11) + 72 ≤ R.locals; omega⟩, hts _ (wX (k := 3) rfl), hts _ (wX (k := 4) rfl)⟩ ⟨fb_C, hcell, fun U hU hW => ⟨rfl, TX_mv hT1 (V' := U) hW.alike (fun q _ => by rw [hU]; rfl), (tt_at h0 hH hU hW).1, (tt_at h0 hH hU hW).2.1⟩⟩ rfl rfl (by show lsr.size = _; exact hL.2.1) rfl (by rw [pm_cats]; show 2 * 0 + _ ≤ 8; omega) hd ⟨by omega, by omega⟩) (kk H locs lsr cells slots hH hL hc hs)
theorem pr_idx {idx : Nat} {a x : Int} {t : List Int} (C : pm_X p s m args meth c D E (KSd E) mi N0) (hR1 : 8 ≤ R.frames) (hR2 : 300 ≤ R.locals) (hrc : S.1.1 ≤ R.cells + N0) (hrs : S.1.2.1 ≤ R.slots + M0) (hl : Cond.methodLink (pm_cn (pm_cl mi)) idx sI1 ∈ pm_tb) (ha : pm_str a = some t) (hw : pm_wl r ≤ 8) (hi0 : 0 ≤ pm_sg x) (hi1 : pm_sg x < 256) (hd : decode (pm_cd mi) pc = .ok (.invokevirtual idx, 3)) (kk : pm_Wc p l e R s m args below meth c Q D E (KSd E) (pm_ml mi) N0 M0 (pc + 3, ls, .inl (pm_ix t (pm_sg x) 0) :: r, S)) : pm_Wc p l e R s m args below meth c Q D E (KSd E) (pm_ml mi) N0 M0 (pc, ls, .inl x :: .inr (.inr (.inl a)) :: r, S) := by
  obtain ⟨hx, hb, hml, ho, hts, hK, hin, h0, hbE, hKX⟩ := id C
  intro H locs lsr cells slots hH hL hc hs
  have hc' : cells + N0 = S.1.1 := hc
  have hs' : slots + M0 = S.1.2.1 := hs
  obtain ⟨b, d, hT, hb9, hrv⟩ := tx_get (E := E) (V := s) hH.2.2.2 ha
  have hT1 : TXs E.1 (tV s H) b d t := by
    refine TX_mv hT (State.WarmedH.refl s).alike (fun q hq => ?_)
    exact hH.2.1.2.1 q (by omega) (by show ¬ E.1 ≤ q; omega)
  have hcell : ∃ cellB : Cell, H[b]? = some cellB ∧ cellB.vm.isStatics = false ∧ s.vm.findClass "java/lang/String" = some cellB.cls := by
    obtain ⟨-, -, ⟨cc, cell, k, e1, e2, e3, e4, e5, e6⟩, -⟩ := hT1
    exact ⟨cell, e2, e4, by rw [e5]; exact e1⟩
  obtain ⟨j, hj⟩ : ∃ j : Nat, pm_sg x = (j : Int) := ⟨(pm_sg x).toNat, by omega⟩
  have ej : Int32.ofInt x = Int32.ofNat j := by rw [pm_ofI hj, Int32.ofInt_eq_ofNat]
  have hjl : j < 256 := by omega
  rw [hj, ixl_e] at kk
  simp only [List.map_cons, hrv, pm_rvI, ej]
  refine pc_W (w := Int32.ofInt (ixl t (j : Int) 0)) (fun _ _ _ h => h) (va_runV (C := "java/lang/String") (b := b) (As := [.int (Int32.ofNat j)]) (rest := r.map (pm_rv E)) (n := 1) (bytes := Jvm.Free.StrIndexOf.indexOf1B) (maxL := 2) (ret := some .int) (Ts := pm_tb) ⟨hx, hb, hml, ho, hts⟩ (met_I l E.1 b d j t (fun _ => False) hjl hb9.1 hb9.2) ⟨callB_of 1 hts gdI rfl rfl rfl (hts _ (wX (k := 0) rfl)) (hts _ hl) ⟨by decide, by decide, by decide +kernel⟩ ⟨by show 4 + 1 ≤ R.frames; omega, by show 8 + (2 + 11) + 160 ≤ R.locals; omega⟩, hts _ (wX (k := 5) rfl), hts _ (wX (k := 6) rfl)⟩ ⟨fb_I, hcell, fun U hU hW => ⟨rfl, TX_mv hT1 (V' := U) hW.alike (fun q _ => by rw [hU]; rfl), (tt_at h0 hH hU hW).1⟩⟩ rfl rfl (by show lsr.size = _; exact hL.2.1) rfl (by rw [pm_cats]; show 2 * 0 + _ ≤ 8; omega) hd ⟨by omega, by omega⟩) (kk H locs lsr cells slots hH hL hc hs)
theorem pr_fd {KS : Nat × (Nat → Int) → State → Heap → Prop} {idx : Nat} {x y : Int} (C : pm_X p s m args meth c D E KS mi N0) (hR1 : 8 ≤ R.frames) (hR2 : 300 ≤ R.locals) (hrc : S.1.1 ≤ R.cells + N0) (hrs : S.1.2.1 ≤ R.slots + M0) (hl : Cond.methodLink (pm_cn (pm_cl mi)) idx mFD ∈ pm_tb) (hw : pm_wl r ≤ 8) (hy : pm_sg y ≠ 0) (hd : decode (pm_cd mi) pc = .ok (.invokestatic idx, 3)) (kk : pm_Wc p l e R s m args below meth c Q D E KS (pm_ml mi) N0 M0 (pc + 3, ls, .inl (pm_fd x y) :: r, S)) : pm_Wc p l e R s m args below meth c Q D E KS (pm_ml mi) N0 M0 (pc, ls, .inl y :: .inl x :: r, S) := by
  obtain ⟨hx, hb, hml, ho, hts, hK, hin, h0, hbE, hKX⟩ := id C
  intro H locs lsr cells slots hH hL hc hs
  have hc' : cells + N0 = S.1.1 := hc
  have hs' : slots + M0 = S.1.2.1 := hs
  have e1 : (Int32.ofInt x).toInt = pm_sg x := pm_sgI x
  have e2 : (Int32.ofInt y).toInt = pm_sg y := pm_sgI y
  have hb0 : Int32.ofInt y ≠ 0 := fun z => hy (by rw [← e2, z]; rfl)
  have ev : vFD (Int32.ofInt x) (Int32.ofInt y) = Int32.ofInt (pm_fd x y) := by
    have := vFD_e (Int32.ofInt x) (Int32.ofInt y) (by rw [e2]; exact hy)
    rw [e1, e2] at this
    exact this
  simp only [List.map_cons, pm_rvI]
  refine pc_W (w := vFD (Int32.ofInt x) (Int32.ofInt y)) (fun _ _ _ h => h) (va_runS (As := [.int (Int32.ofInt x), .int (Int32.ofInt y)]) (rest := r.map (pm_rv E)) (n := 2) (bytes := prog_16_method_47_code) (maxL := 3) (ret := some .int) (Ts := pm_tb) ⟨hx, hb, hml, ho, hts⟩ (met_FD l (Int32.ofInt x) (Int32.ofInt y) hb0 (fun _ => False)) ⟨callB_of 2 hts gdFD rfl rfl rfl (hts _ (wX (k := 7) rfl)) (hts _ hl) ⟨by decide, by decide, by decide +kernel⟩ ⟨by show 0 + 1 ≤ R.frames; omega, by show 8 + (3 + 11) + 0 ≤ R.locals; omega⟩, hts _ (wX (k := 8) rfl)⟩ ⟨fun a U g mk h => ⟨h.1, trivial⟩, fun U hU hW => ⟨rfl, trivial⟩⟩ rfl rfl (by show lsr.size = _; exact hL.2.1) rfl (by rw [pm_cats]; show 2 * 0 + _ ≤ 8; omega) hd ⟨by omega, by omega⟩) (pn_w ?_ (kk H locs lsr cells slots hH hL hc hs))
  rw [pm_rvI, ev]
theorem pr_ldc {idx j : Nat} (C : pm_X p s m args meth c D E (KSd E) mi N0) (hcl : pm_cl mi = 4) (hj : (idx = 19 ∧ j = 0) ∨ (idx = 66 ∧ j = 1)) (hd : decode (pm_cd mi) pc = .ok (.ldc idx, 2)) (kk : pm_Wc p l e R s m args below meth c Q D E (KSd E) (pm_ml mi) N0 M0 (pc + 2, ls, .inr (.inr (.inl (-3 - (j : Int)))) :: st, S)) : pm_Wc p l e R s m args below meth c Q D E (KSd E) (pm_ml mi) N0 M0 (pc, ls, st, S) := by
  obtain ⟨hx, hb, hml, ho, hts, hK, hin, h0, hbE, hKX⟩ := id C
  intro H locs lsr cells slots hH hL hc hs
  have hT : TT E.1 E.2.2.1 pm_own pm_signs s := hH.2.2.2
  have hsr : sR s idx (E.2.2.1 j) := by
    rcases hj with ⟨rfl, rfl⟩ | ⟨rfl, rfl⟩
    · exact hT.2.2.2.2.1
    · exact hT.2.2.2.2.2
  have hown : s.vm.findClass "MoonTender$Lexer" = some m.cls := by rw [hcl] at ho; exact ho
  have hrv : pm_rv E (.inr (.inr (.inl (-3 - (j : Int))))) = .ref (E.2.2.1 j) := by
    rcases hj with ⟨-, rfl⟩ | ⟨-, rfl⟩ <;> rfl
  have k2 := kk H locs lsr cells slots hH hL hc hs
  simp only [List.map_cons, hrv] at k2
  intro T hT2 X
  obtain ⟨t, a1, b1⟩ := k2 T hT2 X
  exact ⟨t, ldcT X hx hown hsr (g := F0 m pc lsr (st.map (pm_rv E))) rfl (by rw [hb]; exact hd) t a1, b1⟩
end PRM2
section PRM3
variable {p : Program} {l : Launch} {e : Env} {R : Room} {s : State} {m : MethodId} {args : Array Value} {below : List Frame} {meth : Method} {c : Code} {Q : State → Prop}
variable {D : va_G} {E : PE} {mi N0 M0 : Nat} {pc : Nat} {ls st r : List PV} {S : PS}
theorem pr_fm {KS : Nat × (Nat → Int) → State → Heap → Prop} {idx : Nat} {x y : Int} (C : pm_X p s m args meth c D E KS mi N0) (hR1 : 8 ≤ R.frames) (hR2 : 300 ≤ R.locals) (hrc : S.1.1 ≤ R.cells + N0) (hrs : S.1.2.1 ≤ R.slots + M0) (hl : Cond.methodLink (pm_cn (pm_cl mi)) idx mFM ∈ pm_tb) (hw : pm_wl r ≤ 8) (hy : pm_sg y ≠ 0) (hd : decode (pm_cd mi) pc = .ok (.invokestatic idx, 3)) (kk : pm_Wc p l e R s m args below meth c Q D E KS (pm_ml mi) N0 M0 (pc + 3, ls, .inl (pm_fm x y) :: r, S)) : pm_Wc p l e R s m args below meth c Q D E KS (pm_ml mi) N0 M0 (pc, ls, .inl y :: .inl x :: r, S) := by
  obtain ⟨hx, hb, hml, ho, hts, hK, hin, h0, hbE, hKX⟩ := id C
  intro H locs lsr cells slots hH hL hc hs
  have hc' : cells + N0 = S.1.1 := hc
  have hs' : slots + M0 = S.1.2.1 := hs
  have e1 : (Int32.ofInt x).toInt = pm_sg x := pm_sgI x
  have e2 : (Int32.ofInt y).toInt = pm_sg y := pm_sgI y
  have hb0 : Int32.ofInt y ≠ 0 := fun z => hy (by rw [← e2, z]; rfl)
  have ev : vFM (Int32.ofInt x) (Int32.ofInt y) = Int32.ofInt (pm_fm x y) := by
    have := vFM_e (Int32.ofInt x) (Int32.ofInt y) (by rw [e2]; exact hy)
    rw [e1, e2] at this
    exact this
  simp only [List.map_cons, pm_rvI]
  refine pc_W (w := vFM (Int32.ofInt x) (Int32.ofInt y)) (fun _ _ _ h => h) (va_runS (As := [.int (Int32.ofInt x), .int (Int32.ofInt y)]) (rest := r.map (pm_rv E)) (n := 2) (bytes := prog_16_method_50_code) (maxL := 3) (ret := some .int) (Ts := pm_tb) ⟨hx, hb, hml, ho, hts⟩ (met_FM l (Int32.ofInt x) (Int32.ofInt y) hb0 (fun _ => False)) ⟨callB_of 2 hts gdFM rfl rfl rfl (hts _ (wX (k := 7) rfl)) (hts _ hl) ⟨by decide, by decide, by decide +kernel⟩ ⟨by show 0 + 1 ≤ R.frames; omega, by show 8 + (3 + 11) + 0 ≤ R.locals; omega⟩, hts _ (wX (k := 9) rfl)⟩ ⟨fun a U g mk h => ⟨h.1, trivial⟩, fun U hU hW => ⟨rfl, trivial⟩⟩ rfl rfl (by show lsr.size = _; exact hL.2.1) rfl (by rw [pm_cats]; show 2 * 0 + _ ≤ 8; omega) hd ⟨by omega, by omega⟩) (pn_w ?_ (kk H locs lsr cells slots hH hL hc hs))
  rw [pm_rvI, ev]
end PRM3
theorem py9 : pm_py 902 = sL ∧ pm_py 903 = sC ∧ pm_py 904 = sI1 ∧ pm_py 907 = mFD ∧ pm_py 908 = mFM := by decide +kernel
theorem sc_sp {c0 idx : Nat} {x : Int} (h : pm_sc c0 idx = some x) : c0 = 4 ∧ ((idx = 19 ∧ x = -3) ∨ (idx = 66 ∧ x = -4)) := by
  unfold pm_sc at h
  split at h
  · rename_i z; cases h; exact ⟨z.1, Or.inl ⟨z.2, rfl⟩⟩
  · split at h
    · rename_i z; cases h; exact ⟨z.1, Or.inr ⟨z.2, rfl⟩⟩
    · cases h
theorem prim (l : Launch) (D : va_G) (E : PE) : pm_Prim l D E (KSd E) := by
  intro p e R s m args below meth c Q mi N0 M0 idx pc ls st S q C hR1 hR2 hrc hrs hcase kk
  obtain ⟨y2, y3, y4, y7, y8⟩ := py9
  rcases hcase with ⟨m', nest, hmr, h1, h2, hd, hq⟩ | ⟨m', nest, hmr, h1, h2, hd, hq⟩ | ⟨hd, hic, hq⟩
  · have hl := pm_mr_pr hmr (by omega)
    have hm : m' = 902 ∨ m' = 903 ∨ m' = 904 := by omega
    simp only [pm_invv, hmr] at hq
    rcases hm with rfl | rfl | rfl
    · rw [if_neg (by decide), if_pos rfl] at hq
      rw [y2] at hl
      split at hq
      · rename_i a r
        split at hq
        · rename_i t ht
          split at hq
          · rename_i hw
            cases hq
            exact pr_len C hR1 hR2 hrc hrs hl ht hw hd kk
          · cases hq
        · cases hq
      · cases hq
    · rw [if_neg (by decide), if_neg (by decide), if_pos rfl] at hq
      rw [y3] at hl
      split at hq
      · rename_i i a r
        split at hq
        · rename_i t ht
          split at hq
          · rename_i hw
            cases hq
            exact pr_chr C hR1 hR2 hrc hrs hl ht hw.1 hw.2.1 hw.2.2 hd kk
          · cases hq
        · cases hq
      · cases hq
    · rw [if_neg (by decide), if_neg (by decide), if_neg (by decide), if_pos rfl] at hq
      rw [y4] at hl
      split at hq
      · rename_i i a r
        split at hq
        · rename_i t ht
          split at hq
          · rename_i hw
            cases hq
            exact pr_idx C hR1 hR2 hrc hrs hl ht hw.1 hw.2.1 hw.2.2 hd kk
          · cases hq
        · cases hq
      · cases hq
  · have hl := pm_mr_pr hmr (by omega)
    have hm : m' = 907 ∨ m' = 908 := by omega
    simp only [pm_invs, hmr] at hq
    rcases hm with rfl | rfl
    · rw [if_neg (by decide), if_neg (by decide), if_neg (by decide), if_pos rfl] at hq
      rw [y7] at hl
      unfold pm_m0 at hq
      split at hq
      · rename_i y x r
        split at hq
        · rename_i hw
          cases hq
          exact pr_fd C hR1 hR2 hrc hrs hl hw.1 hw.2 hd kk
        · cases hq
      · cases hq
    · rw [if_neg (by decide), if_neg (by decide), if_neg (by decide), if_neg (by decide), if_pos rfl] at hq
      rw [y8] at hl
      unfold pm_m0 at hq
      split at hq
      · rename_i y x r
        split at hq
        · rename_i hw
          cases hq
          exact pr_fm C hR1 hR2 hrc hrs hl hw.1 hw.2 hd kk
        · cases hq
      · cases hq
  · simp only [pm_ldc, hic] at hq
    split at hq
    · rename_i x hx
      obtain ⟨hcl, hz⟩ := sc_sp hx
      rw [if_pos trivial] at hq
      cases hq
      rcases hz with ⟨rfl, rfl⟩ | ⟨rfl, rfl⟩
      · exact pr_ldc (j := 0) C hcl (Or.inl ⟨rfl, rfl⟩) hd kk
      · exact pr_ldc (j := 1) C hcl (Or.inr ⟨rfl, rfl⟩) hd kk
    · cases hq
