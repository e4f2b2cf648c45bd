/-! Calls, and the whole of it: what the plain machine does, the real one does. -/
def pm_ws (m : Nat) : List Cond := .code (pm_y m) (pm_cd m) (pm_ml m) (pm_rt m) :: pm_tb
def pm_rm (d mc ms : Nat) : Room := { frames := d + 7, cells := mc, slots := ms, locals := 100 * d + 300 }
def pm_rtv (E : PE) (r : PV) : Option Value := match r with
  | .inr (.inr (.inr _)) => none
  | v => some (pm_rv E v)
theorem pm_rtv_push (E : PE) (r : PV) (st : List PV) : (pm_rtv E r).toList ++ st.map (pm_rv E) = (pm_push r st).map (pm_rv E) := by
  match r with
  | .inl x => rfl
  | .inr (.inl x) => rfl
  | .inr (.inr (.inl x)) => rfl
  | .inr (.inr (.inr _)) => rfl
def pm_Pre (D : va_G) (E : PE) (KS : Nat × (Nat → Int) → State → Heap → Prop) (S : PS) (U : State) : Prop := U.heap.size = E.1 + S.1.1 ∧ va_P D vwCl (pm_wd E S) U.heap ∧ pm_K D E U ∧ KS S.1.2.2.2 U U.heap
def pm_Q (D : va_G) (E : PE) (S' : PS) (r : PV) : Array Value → State → Outcome → State → Prop := fun _ st oc t => (oc = .returned (pm_rtv E r) ∧ va_P D vwCl (pm_wd E S') t.heap) ∧ va_F (fun q => E.1 ≤ q) st t
def pm_KSok (E : PE) (KS : Nat × (Nat → Int) → State → Heap → Prop) : Prop := (∀ (X : Nat × (Nat → Int)) (U U' : State) (H : Heap), U.WarmedH U'.vm → KS X U H → KS X U' H) ∧ (∀ (X : Nat × (Nat → Int)) (U : State) (H H1 : Heap), KS X U H → (∀ q, q < E.1 → H1[q]? = H[q]?) → KS X U H1) ∧ ∀ (X : Nat × (Nat → Int)) (U : State) (H : Heap), KS X U H → va_X E.2.1 X.1 (fun j => Int32.ofInt (X.2 j)) U H
def pm_Met (l : Launch) (D : va_G) (E : PE) (KS : Nat × (Nat → Int) → State → Heap → Prop) (d m : Nat) (as : List PV) (S : PS) (r : PV) (S' : PS) : Prop := Met l (pm_y m) (pm_ws m) (pm_rm d (S'.1.1 - S.1.1) (S'.1.2.1 - S.1.2.1)) (va_Pc (as.map (pm_rv E)) (pm_Pre D E KS S)) (pm_Q D E S' r) (S'.1.1 - S.1.1) (S'.1.2.1 - S.1.2.1) (fun q => E.1 ≤ q)
theorem pm_good (m : Nat) (hm : m < 308) : GoodIn pm_tb (pm_ws m) := by
  intro w hw
  rcases List.mem_cons.mp hw with h | h
  · rw [h]
    exact ⟨pm_tb_in (pm_code_ok m hm) rfl, good_of_word rfl⟩
  · exact ⟨h, good_of_word (pm_tb_good w h)⟩
theorem pm_step_mono {mi n pc : Nat} {i : Instr} {ls st : List PV} {S : PS} {q : PC} (h : pm_step mi i n pc ls st S = some (.inl q)) : S.1.1 ≤ q.2.2.2.1.1 ∧ S.1.2.1 ≤ q.2.2.2.1.2.1 ∧ q.2.2.2.1.2.2.2 = S.1.2.2.2 := by
  cases i <;> simp only [pm_step, pm_ldi, pm_ldl, pm_lda, pm_sti, pm_stl, pm_sta, pm_b2, pm_d2, pm_l2, pm_ld2, pm_lsh, pm_u1, pm_iald, pm_bald, pm_lald, pm_aald, pm_iast, pm_bast, pm_last, pm_aast, pm_alen, pm_getf, pm_putf, pm_newo, pm_newa, pm_newr, pm_invv, pm_invi, pm_acpy, pm_m2, pm_m0, pm_invs, pm_ldc, pm_ldc2, pm_tsw, pm_jmp, pm_go] at h <;> (repeat' split at h) <;> first | (cases h; simp [pm_al]; done) | (simp at h; done)
theorem pm_step_ret {mi n pc : Nat} {i : Instr} {ls st : List PV} {S : PS} {v : PV} {S1 : PS} (h : pm_step mi i n pc ls st S = some (.inr (.inl (v, S1)))) : S1 = S ∧ ((i = .ireturn ∧ ∃ x, st = [.inl x] ∧ v = .inl x ∧ (pm_rt mi = some .int ∨ (pm_rt mi = some .boolean ∧ (x = 0 ∨ x = 1)))) ∨ (i = .lreturn ∧ ∃ x, st = [.inr (.inl x)] ∧ v = .inr (.inl x) ∧ pm_rt mi = some .long) ∨ (i = .areturn ∧ ∃ x, st = [.inr (.inr (.inl x))] ∧ v = .inr (.inr (.inl x)) ∧ pm_rt mi = some (.object RX1) ∧ 0 ≤ x) ∨ (i = .return_ ∧ st = [] ∧ v = PU ∧ pm_rt mi = none)) := by
  cases i <;> simp only [pm_step, pm_ldi, pm_ldl, pm_lda, pm_sti, pm_stl, pm_sta, pm_b2, pm_d2, pm_l2, pm_ld2, pm_lsh, pm_u1, pm_iald, pm_bald, pm_lald, pm_aald, pm_iast, pm_bast, pm_last, pm_aast, pm_alen, pm_getf, pm_putf, pm_newo, pm_newa, pm_newr, pm_invv, pm_invi, pm_acpy, pm_m2, pm_m0, pm_invs, pm_ldc, pm_ldc2, pm_tsw, pm_jmp, pm_go] at h <;> (repeat' split at h) <;> first | (simp at h; done) | (simp only [Option.some.injEq, Sum.inr.injEq, Sum.inl.injEq, Prod.mk.injEq] at h; obtain ⟨rfl, rfl⟩ := h; simp_all; done)
theorem pm_ini_len (nL : Nat) (as : List PV) (h : (pm_slo as).length ≤ nL) : (pm_slo as ++ List.replicate (nL - (pm_slo as).length) PU).length = nL := by
  rw [List.length_append, List.length_replicate]
  omega
theorem pm_slo_len (E : PE) : ∀ as : List PV, (lg_sl (as.map (pm_rv E))).length = (pm_slo as).length
  | [] => rfl
  | .inl x :: r => by
    have ih := pm_slo_len E r
    simp only [List.map_cons, lg_sl, List.flatMap_cons, pm_rvI, Value.category, pm_slo, List.length_append, List.length_cons] at ih ⊢
    simp at ih ⊢
    omega
  | .inr (.inl x) :: r => by
    have ih := pm_slo_len E r
    simp only [List.map_cons, lg_sl, List.flatMap_cons, pm_rvL, Value.category, pm_slo, List.length_append, List.length_cons] at ih ⊢
    simp at ih ⊢
    omega
  | .inr (.inr (.inl x)) :: r => by
    have ih := pm_slo_len E r
    have hc : (pm_rv E (.inr (.inr (.inl x)))).category = 1 := pm_cat E _
    simp only [List.map_cons, lg_sl, List.flatMap_cons, hc, pm_slo, List.length_append, List.length_cons] at ih ⊢
    simp at ih ⊢
    omega
  | .inr (.inr (.inr u)) :: r => by
    have ih := pm_slo_len E r
    have hc : (pm_rv E (.inr (.inr (.inr u)))).category = 1 := pm_cat E _
    simp only [List.map_cons, lg_sl, List.flatMap_cons, hc, pm_slo, List.length_append, List.length_cons] at ih ⊢
    simp at ih ⊢
    omega
theorem pm_slo_at (E : PE) : ∀ (as : List PV) (i j : Nat) (v : PV), (pm_slo as)[j]? = some v → v ≠ PU → (i + j, pm_rv E v) ∈ lv_args i (as.map (pm_rv E))
  | [], i, j, v, h, _ => by simp [pm_slo] at h
  | .inl x :: r, i, j, v, h, hv => by
    simp only [List.map_cons, lv_args, pm_cat, pm_w]
    cases j with
    | zero => simp only [pm_slo, List.getElem?_cons_zero] at h; cases h; exact List.mem_cons_self
    | succ j =>
      simp only [pm_slo, List.getElem?_cons_succ] at h
      have := pm_slo_at E r (i + 1) j v h hv
      rw [show i + (j + 1) = i + 1 + j by omega]
      exact List.mem_cons_of_mem _ (by simpa using this)
  | .inr (.inl x) :: r, i, j, v, h, hv => by
    simp only [List.map_cons, lv_args, pm_cat, pm_w]
    match j with
    | 0 => simp only [pm_slo, List.getElem?_cons_zero] at h; cases h; exact List.mem_cons_self
    | 1 => simp only [pm_slo, List.getElem?_cons_succ, List.getElem?_cons_zero] at h; exact absurd (Option.some.inj h).symm hv
    | j + 2 =>
      simp only [pm_slo, List.getElem?_cons_succ] at h
      have := pm_slo_at E r (i + 2) j v h hv
      rw [show i + (j + 2) = i + 2 + j by omega]
      exact List.mem_cons_of_mem _ (by simpa using this)
  | .inr (.inr (.inl x)) :: r, i, j, v, h, hv => by
    simp only [List.map_cons, lv_args, pm_cat, pm_w]
    cases j with
    | zero => simp only [pm_slo, List.getElem?_cons_zero] at h; cases h; exact List.mem_cons_self
    | succ j =>
      simp only [pm_slo, List.getElem?_cons_succ] at h
      have := pm_slo_at E r (i + 1) j v h hv
      rw [show i + (j + 1) = i + 1 + j by omega]
      exact List.mem_cons_of_mem _ (by simpa using this)
  | .inr (.inr (.inr u)) :: r, i, j, v, h, hv => by
    simp only [List.map_cons, lv_args, pm_cat, pm_w]
    cases j with
    | zero => simp only [pm_slo, List.getElem?_cons_zero] at h; cases h; exact absurd rfl hv
    | succ j =>
      simp only [pm_slo, List.getElem?_cons_succ] at h
      have := pm_slo_at E r (i + 1) j v h hv
      rw [show i + (j + 1) = i + 1 + j by omega]
      exact List.mem_cons_of_mem _ (by simpa using this)
theorem pm_L_ini {E : PE} {nL : Nat} {as : List PV} (h : (pm_slo as).length ≤ nL) : pm_L E nL (pm_slo as ++ List.replicate (nL - (pm_slo as).length) PU) ((lg_sl (as.map (pm_rv E)) ++ List.replicate (nL - (lg_sl (as.map (pm_rv E))).length) Slot.unset).toArray) := by
  have he := lv_entry (as.map (pm_rv E)) (n := nL) (by rw [pm_slo_len]; exact h)
  refine ⟨pm_ini_len nL as h, he.1, he.2.1, fun j v hj hv => ?_⟩
  by_cases hl : j < (pm_slo as).length
  · rw [List.getElem?_append_left hl] at hj
    have := he.2.2 _ (pm_slo_at E as 0 j v hj hv)
    simpa using this
  · rw [List.getElem?_append_right (by omega)] at hj
    have := List.mem_of_getElem? hj
    rw [List.mem_replicate] at this
    exact absurd this.2 hv
section SIM
variable {p : Program} {l : Launch} {e : Env} {R : Room} {s : State} {m : MethodId} {args : Array Value} {below : List Frame} {meth : Method} {c : Code} {Q : State → Prop}
variable {D : va_G} {E : PE} {KS : Nat × (Nat → Int) → State → Heap → Prop} {mi N0 M0 : Nat} {pc : Nat} {ls st r : List PV} {S : PS}
theorem pn_call {H : Heap} {locs : List Loc} {cells slots mc ms : Nat} {lsr : Array Slot} {st0 rest : List Value} {S1 : PS} {v : PV} {a : Array Value} (hr : va_Run p l e R s m args below meth c H locs cells slots mc ms (F0 m pc lsr st0) rest (pm_Q D E S1 v a) (fun q => E.1 ≤ q)) (hS : va_S (fun q => E.1 ≤ q) s.heap H locs)
    (kk : ∀ (H1 : Heap) (locs1 : List Loc), va_P D vwCl (pm_wd E S1) H1 → va_S (fun q => E.1 ≤ q) s.heap H1 locs1 → W p l e R s m args below meth c H1 locs1 (cells + mc) (slots + ms) Q (F0 m (pc + 3) lsr ((pm_rtv E v).toList ++ rest))) : W p l e R s m args below meth c H locs cells slots Q (F0 m pc lsr st0) := by
  intro T hT X
  obtain ⟨v', st₀, t, T', L, h0, X', hL, e1, e2, ⟨⟨hv, hP1⟩, hz, hk⟩, st⟩ := hr T hT X
  cases hv
  rw [h0] at hz hk
  obtain ⟨t2, a1, b1⟩ := kk T'.heap (locs ++ L) (by rw [e1]; exact hP1) ⟨Nat.le_trans hS.1 (by rw [e1]; exact hz), fun q h1 h2 => by rw [e1, hk q (Nat.lt_of_lt_of_le h1 hS.1) h2]; exact hS.2.1 q h1 h2, fun q hq => by
      rcases List.mem_append.mp hq with h | h
      · exact hS.2.2 q h
      · exact hL q h⟩ T' rfl X'
  exact ⟨t2, st t2 a1, b1⟩
theorem pn_pre (hKS : pm_KSok E KS) (C : pm_X p s m args meth c D E KS mi N0) {H : Heap} {locs : List Loc} (hz : H.size = E.1 + S.1.1) (hH : pm_HR D E KS s S H locs) (av : List Value) : FrameBlind (va_Pc av (pm_Pre D E KS S)) ∧ ∀ U : State, U.heap = H → s.WarmedH U.vm → va_Pc av (pm_Pre D E KS S) av.toArray U := by
  obtain ⟨hx, hb, hml, ho, hts, hK, hin, h0, hbE, hKX⟩ := id C
  refine ⟨fun a U g mk q => ?_, fun U hU hW => ⟨rfl, by rw [hU]; exact hz, by rw [hU]; exact hH.1, pm_K.warm hW hK, ?_⟩⟩
  · obtain ⟨q0, q1, q2, q3, q4⟩ := q
    have hw : U.WarmedH (U.calling g mk a).vm := State.WarmedH.refl U
    exact ⟨q0, q1, q2, pm_K.warm hw q3, hKS.1 _ _ _ _ hw q4⟩
  · refine hKS.1 _ _ _ _ hW (hKS.2.1 _ _ _ _ hH.2.2 (fun q hq => ?_))
    rw [hU]
    exact hH.2.1.2.1 q (by omega) (by omega)
theorem pm_mck_sp {m' : Nat} (hm : m' < 308) : (Cond.initialized (pm_y m').cls) ∈ pm_tb ∧ (if pm_kd m' = 1 then (Cond.static (pm_y m')) ∈ pm_tb else (Cond.instanceMethod (pm_y m')) ∈ pm_tb) ∧ (pm_kd m' = 0 → (Cond.selects (pm_y m').cls (pm_y m') (pm_y m')) ∈ pm_tb) ∧ (pm_y m').cls = pm_cn (pm_cl m') ∧ plainName (pm_y m').cls = true ∧ (pm_y m').cls ≠ "java/lang/invoke/MethodHandle" ∧ (pm_y m').cls ≠ "java/lang/invoke/VarHandle" ∧ (parseMethodDescriptor (pm_y m').desc).map (fun d => d.parameters.length) = some (pm_np m') ∧ pm_ml m' ≤ 60 ∧ (pm_kd m' = 2 ↔ (pm_y m').name = "<init>") := by
  have h := pm_mt_ok m' hm
  unfold pm_mck at h
  simp only [Bool.and_eq_true, decide_eq_true_eq] at h
  obtain ⟨⟨⟨⟨⟨⟨⟨⟨⟨h1, h2⟩, h3⟩, h4⟩, h5⟩, h6⟩, h7⟩, h8⟩, h9⟩, h10⟩ := h
  refine ⟨pm_tb_in h1 rfl, ?_, fun hk => ?_, h4, h5, h6, h7, h8, h9, h10⟩
  · show if (pm_me m').2.2.2.2.2.2 = 1 then _ else _
    by_cases hk : (pm_me m').2.2.2.2.2.2 = 1
    · rw [if_pos hk] at h2 ⊢
      rw [decide_eq_true_eq] at h2
      exact pm_tb_in h2 rfl
    · rw [if_neg hk] at h2 ⊢
      rw [decide_eq_true_eq] at h2
      exact pm_tb_in h2 rfl
  · have hk' : (pm_me m').2.2.2.2.2.2 = 0 := hk
    rw [if_pos hk', decide_eq_true_eq] at h3
    exact pm_tb_in h3 rfl
theorem pm_link {c0 idx m' nest : Nat} (h : pm_mr c0 idx = some (m', nest)) (hm : m' < 900) : m' < 308 ∧ (nest = 0 → (Cond.methodLink (pm_cn c0) idx (pm_y m')) ∈ pm_tb) ∧ (nest ≠ 0 → ∀ U, pm_K D E U → va_Nw (.methodLinkNest (pm_cn c0) idx (pm_y m') "MoonTender") U) := by
  obtain ⟨e, h1, h2, h3, h4, h5⟩ := pm_mr_sp h
  have h6 := pm_mr_ok e h1 (by rw [h4]; exact hm)
  refine ⟨by rw [← h4]; exact h6.2, fun hn => ?_, fun hn U hU => ?_⟩
  · have h7 := h6.1
    unfold pm_lk at h7
    rw [if_pos (by rw [h5]; exact hn), h2, h3, h4] at h7
    exact pm_tb_in h7 rfl
  · have h7 := hU.2.2 e h1 (by rw [h4]; exact hm) (by rw [h5]; exact hn)
    rw [h2, h3, h4] at h7
    exact h7
set_option maxHeartbeats 1000000 in
theorem pm_simC {d m' : Nat} {i : Instr} {n : Nat} {as : List PV} {q : PC} {v : PV} {S1 : PS} (hKS : pm_KSok E KS) (C : pm_X p s m args meth c D E KS mi N0) (hR : d + 8 ≤ R.frames ∧ 100 * (d + 1) + 300 ≤ R.locals) (hM : m' < 308 → pm_Met l D E KS d m' as S v S1) (hmo : S.1.1 ≤ S1.1.1 ∧ S.1.2.1 ≤ S1.1.2.1 ∧ S1.1.2.2.2 = S.1.2.2.2) (hrc : S1.1.1 ≤ R.cells + N0) (hrs : S1.1.2.1 ≤ R.slots + M0) (hf : pm_fe mi pc = some (i, n)) (h : pm_step mi i n pc ls st S = some (.inr (.inr (m', as, q)))) (k : pm_Wc p l e R s m args below meth c Q D E KS (pm_ml mi) N0 M0 (q.1, q.2.1, pm_push v q.2.2.1, S1)) : q.2.2.2 = S ∧ pm_Wc p l e R s m args below meth c Q D E KS (pm_ml mi) N0 M0 (pc, ls, st, S) := by
  obtain ⟨hd, hn⟩ := pm_fe_sp hf
  obtain ⟨hx, hb, hml, ho, hts, hK, hin, h0, hbE, hKX⟩ := id C
  have fin : ∀ (rest : List PV) (H : Heap) (locs : List Loc) (lsr : Array Slot) (cells slots : Nat), pm_HR D E KS s S H locs → pm_L E (pm_ml mi) ls lsr → cells + N0 = S.1.1 → slots + M0 = S.1.2.1 → q = (pc + 3, ls, rest, S) → ∀ a : Array Value, va_Run p l e R s m args below meth c H locs cells slots (S1.1.1 - S.1.1) (S1.1.2.1 - S.1.2.1) (F0 m pc lsr (st.map (pm_rv E))) (rest.map (pm_rv E)) (pm_Q D E S1 v a) (fun q => E.1 ≤ q) → W p l e R s m args below meth c H locs cells slots Q (F0 m pc lsr (st.map (pm_rv E))) := by
    intro rest H locs lsr cells slots hH hL hc hs hq a hrun
    refine pn_call hrun hH.2.1 (fun H1 locs1 q1 q2 => ?_)
    rw [pm_rtv_push]
    rw [hq] at k
    exact k H1 locs1 lsr _ _ ⟨q1, q2, by rw [hmo.2.2]; exact hH.2.2⟩ hL (by show cells + (S1.1.1 - S.1.1) + N0 = S1.1.1; omega) (by show slots + (S1.1.2.1 - S.1.2.1) + M0 = S1.1.2.1; omega)
  cases i
  case invokevirtual idx =>
    obtain rfl : n = 3 := by simpa [pm_lok] using hn
    simp only [pm_step, pm_invv] at h
    split at h
    · rename_i m2 nest hmr
      split at h
      · rename_i hm9
        split at h
        · rename_i a rest hst
          split at h
          · rename_i hh
            simp only [Option.some.injEq, Sum.inr.injEq, Prod.mk.injEq] at h
            obtain ⟨rfl, rfl, rfl⟩ := h
            obtain ⟨y1, y2, ⟨y3, y4, y5⟩, y6, y7⟩ := hh
            obtain ⟨hm, hlk, -⟩ := pm_link (D := D) (E := E) hmr hm9
            obtain ⟨w1, w2, w3, w4, w5, w6, w7, w8, w9, w10⟩ := pm_mck_sp hm
            rw [if_neg (by rw [y1]; decide)] at w2
            refine ⟨rfl, fun H locs lsr cells slots hH hL hc hs => ?_⟩
            refine pn_size h0 hH hc (fun hz => ?_)
            have hc' : cells + N0 = S.1.1 := hc
            have hs' : slots + M0 = S.1.2.1 := hs
            have hpre := pn_pre hKS C hz hH ((.inr (.inr (.inl a)) :: (st.take (pm_np m2)).reverse).map (pm_rv E))
            have hci : pm_cl m2 < 13 := by
              have := pm_kd0 m2 hm y1
              exact this
            refine fin rest H locs lsr cells slots hH hL hc hs rfl _ (va_runV (C := pm_cn (pm_cl m2)) (b := E.1 + a.toNat) (As := (st.take (pm_np m2)).reverse.map (pm_rv E)) (rest := rest.map (pm_rv E)) (n := pm_np m2) (bytes := pm_cd m2) (maxL := pm_ml m2) (ret := pm_rt m2) (Ts := pm_tb) ⟨hx, hb, hml, ho, hts⟩ (hM hm) ⟨callB_of (pm_np m2) hts (pm_good m2 hm) rfl rfl rfl (hts _ w1) (hts _ (hlk y2)) ⟨w6, w7, w8⟩ ⟨hR.1, by show 8 + (pm_ml m2 + 11) + (100 * d + 300) ≤ R.locals; omega⟩, hts _ w2, by rw [← w4]; exact hts _ (w3 y1)⟩ ⟨hpre.1, ?_, fun U hU hW => ?_⟩ rfl (by simp; exact Nat.min_eq_left y6) (by show lsr.size = _; exact hL.2.1) ?_ (by rw [pm_cats]; show 2 * 0 + _ ≤ 8; omega) hd ⟨by omega, by omega⟩)
            · exact va_recv hK.1 hH.1 (pm_cls _ hci) (show (pm_wd E S)[a.toNat]? = _ by rw [pm_wd_at E y4, pm_ce_o y5 hci])
            · have := hpre.2 U hU hW
              simp only [List.map_cons, pm_rvA E y3] at this ⊢
              exact this
            · show st.map (pm_rv E) = _
              conv => lhs; rw [← List.take_append_drop (pm_np m2) st, hst]
              simp only [List.map_append, List.map_cons, pm_rvA E y3, List.map_reverse, List.reverse_reverse]
          · simp at h
        · simp at h
      · (repeat' split at h) <;> simp [pm_go] at h
    · simp at h
  case invokespecial idx =>
    obtain rfl : n = 3 := by simpa [pm_lok] using hn
    simp only [pm_step, pm_invi] at h
    split at h
    · rename_i m2 nest hmr
      split at h
      · rename_i a rest hst
        split at h
        · rename_i hw
          split at h
          · simp [pm_go] at h
          · rename_i hm0
            split at h
            · rename_i hh
              simp only [Option.some.injEq, Sum.inr.injEq, Prod.mk.injEq] at h
              obtain ⟨rfl, rfl, rfl⟩ := h
              obtain ⟨hm9, y1, y6⟩ := hh
              rw [if_neg hm0] at hst
              obtain ⟨hm, hlk, hlN⟩ := pm_link (D := D) (E := E) hmr hm9
              obtain ⟨w1, w2, w3, w4, w5, w6, w7, w8, w9, w10⟩ := pm_mck_sp hm
              rw [if_neg (by rw [y1]; decide)] at w2
              have hret : pm_rt m2 = none := pm_kd2 m2 hm y1
              refine ⟨rfl, fun H locs lsr cells slots hH hL hc hs => ?_⟩
              refine pn_size h0 hH hc (fun hz => ?_)
              have hc' : cells + N0 = S.1.1 := hc
              have hs' : slots + M0 = S.1.2.1 := hs
              have hpre := pn_pre hKS C hz hH ((.inr (.inr (.inl a)) :: (st.take (pm_np m2)).reverse).map (pm_rv E))
              have hp2 : PreS s H (va_Pc ((.inr (.inr (.inl a)) :: (st.take (pm_np m2)).reverse).map (pm_rv E)) (pm_Pre D E KS S)) (.ref (E.1 + a.toNat) :: (st.take (pm_np m2)).reverse.map (pm_rv E)) := by
                refine ⟨hpre.1, fun U hU hW => ?_⟩
                have := hpre.2 U hU hW
                simp only [List.map_cons, pm_rvA E hw.1] at this ⊢
                exact this
              have hstk : st.map (pm_rv E) = ((st.take (pm_np m2)).reverse.map (pm_rv E)).reverse ++ .ref (E.1 + a.toNat) :: rest.map (pm_rv E) := by
                conv => lhs; rw [← List.take_append_drop (pm_np m2) st, hst]
                simp only [List.map_append, List.map_cons, pm_rvA E hw.1, List.map_reverse, List.reverse_reverse]
              have hM2 := hM hm
              unfold pm_Met at hM2
              have hgd := pm_good m2 hm
              unfold pm_ws at hM2 hgd
              rw [hret] at hM2 hgd
              by_cases hne : nest = 0
              · exact fin rest H locs lsr cells slots hH hL hc hs rfl _ (va_runI (As := (st.take (pm_np m2)).reverse.map (pm_rv E)) (rest := rest.map (pm_rv E)) (n := pm_np m2) (bytes := pm_cd m2) (maxL := pm_ml m2) (Ts := pm_tb) ⟨hx, hb, hml, ho, hts⟩ hM2 ⟨callB_of (pm_np m2) hts hgd rfl rfl rfl (hts _ w1) (hts _ (hlk hne)) ⟨w6, w7, w8⟩ ⟨hR.1, by show 8 + (pm_ml m2 + 11) + (100 * d + 300) ≤ R.locals; omega⟩, w10.mp y1, hts _ w2⟩ hp2 rfl (by simp; exact Nat.min_eq_left y6) (by show lsr.size = _; exact hL.2.1) hstk (by rw [pm_cats]; show 2 * 0 + _ ≤ 8; omega) hd ⟨by omega, by omega⟩)
              · exact fin rest H locs lsr cells slots hH hL hc hs rfl _ (va_runIN (host := "MoonTender") (As := (st.take (pm_np m2)).reverse.map (pm_rv E)) (rest := rest.map (pm_rv E)) (n := pm_np m2) (bytes := pm_cd m2) (maxL := pm_ml m2) (Ts := pm_tb) ⟨hx, hb, hml, ho, hts⟩ hM2 ⟨va_cnB (pm_np m2) hts hgd rfl rfl rfl (hlN hne s hK) (hts _ w1) ⟨w6, w7, w8⟩ ⟨hR.1, by show 8 + (pm_ml m2 + 11) + (100 * d + 300) ≤ R.locals; omega⟩, w10.mp y1, hts _ w2⟩ hp2 rfl (by simp; exact Nat.min_eq_left y6) (by show lsr.size = _; exact hL.2.1) hstk (by rw [pm_cats]; show 2 * 0 + _ ≤ 8; omega) hd ⟨by omega, by omega⟩)
            · simp at h
        · simp at h
      · simp at h
    · simp at h
  case invokestatic idx =>
    obtain rfl : n = 3 := by simpa [pm_lok] using hn
    simp only [pm_step, pm_invs] at h
    split at h
    · rename_i m2 nest hmr
      split at h
      · simp only [pm_acpy, pm_go] at h
        (repeat' split at h) <;> simp at h
      · split at h
        · simp only [pm_m2, pm_go] at h
          (repeat' split at h) <;> simp at h
        · split at h
          · simp only [pm_m2, pm_go] at h
            (repeat' split at h) <;> simp at h
          · split at h
            · simp only [pm_m0, pm_go] at h
              (repeat' split at h) <;> simp at h
            · split at h
              · simp only [pm_m0, pm_go] at h
                (repeat' split at h) <;> simp at h
              · split at h
                · rename_i hh
                  simp only [Option.some.injEq, Sum.inr.injEq, Prod.mk.injEq] at h
                  obtain ⟨rfl, rfl, rfl⟩ := h
                  obtain ⟨hm9, y1, y6, y7⟩ := hh
                  obtain ⟨hm, hlk, hlN⟩ := pm_link (D := D) (E := E) hmr hm9
                  obtain ⟨w1, w2, w3, w4, w5, w6, w7, w8, w9, w10⟩ := pm_mck_sp hm
                  rw [if_pos y1] at w2
                  refine ⟨rfl, fun H locs lsr cells slots hH hL hc hs => ?_⟩
                  refine pn_size h0 hH hc (fun hz => ?_)
                  have hc' : cells + N0 = S.1.1 := hc
                  have hs' : slots + M0 = S.1.2.1 := hs
                  have hpre := pn_pre hKS C hz hH ((st.take (pm_np m2)).reverse.map (pm_rv E))
                  have hstk : st.map (pm_rv E) = ((st.take (pm_np m2)).reverse.map (pm_rv E)).reverse ++ (st.drop (pm_np m2)).map (pm_rv E) := by
                    conv => lhs; rw [← List.take_append_drop (pm_np m2) st]
                    simp only [List.map_append, List.map_reverse, List.reverse_reverse]
                  by_cases hne : nest = 0
                  · exact fin (st.drop (pm_np m2)) H locs lsr cells slots hH hL hc hs rfl _ (va_runS (As := (st.take (pm_np m2)).reverse.map (pm_rv E)) (rest := (st.drop (pm_np m2)).map (pm_rv E)) (n := pm_np m2) (bytes := pm_cd m2) (maxL := pm_ml m2) (ret := pm_rt m2) (Ts := pm_tb) ⟨hx, hb, hml, ho, hts⟩ (hM hm) ⟨callB_of (pm_np m2) hts (pm_good m2 hm) rfl rfl rfl (hts _ w1) (hts _ (hlk hne)) ⟨w6, w7, w8⟩ ⟨hR.1, by show 8 + (pm_ml m2 + 11) + (100 * d + 300) ≤ R.locals; omega⟩, hts _ w2⟩ hpre rfl (by simp; exact Nat.min_eq_left y6) (by show lsr.size = _; exact hL.2.1) hstk (by rw [pm_cats]; show 2 * 0 + _ ≤ 8; omega) hd ⟨by omega, by omega⟩)
                  · exact fin (st.drop (pm_np m2)) H locs lsr cells slots hH hL hc hs rfl _ (va_runSN (host := "MoonTender") (As := (st.take (pm_np m2)).reverse.map (pm_rv E)) (rest := (st.drop (pm_np m2)).map (pm_rv E)) (n := pm_np m2) (bytes := pm_cd m2) (maxL := pm_ml m2) (ret := pm_rt m2) (Ts := pm_tb) ⟨hx, hb, hml, ho, hts⟩ (hM hm) ⟨va_cnB (pm_np m2) hts (pm_good m2 hm) rfl rfl rfl (hlN hne s hK) (hts _ w1) ⟨w6, w7, w8⟩ ⟨hR.1, by show 8 + (pm_ml m2 + 11) + (100 * d + 300) ≤ R.locals; omega⟩, hts _ w2, trivial⟩ hpre rfl (by simp; exact Nat.min_eq_left y6) (by show lsr.size = _; exact hL.2.1) hstk (by rw [pm_cats]; show 2 * 0 + _ ≤ 8; omega) hd ⟨by omega, by omega⟩)
                · simp at h
    · simp at h
  all_goals
    exfalso
    simp only [pm_step, pm_ldi, pm_ldl, pm_lda, pm_sti, pm_stl, pm_sta, pm_b2, pm_d2, pm_l2, pm_ld2, pm_lsh, pm_u1, pm_iald, pm_bald, pm_lald, pm_aald, pm_iast, pm_bast, pm_last, pm_aast, pm_alen, pm_getf, pm_putf, pm_newo, pm_newa, pm_newr, pm_ldc, pm_ldc2, pm_tsw, pm_jmp, pm_go] at h
    first | (simp at h; done) | ((repeat' split at h) <;> simp at h; done)
end SIM
