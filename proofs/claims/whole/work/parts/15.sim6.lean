/-! One plain step, whichever it is. -/
section SIM
variable {p : Program} {l : Launch} {e : Env} {R : Room} {s : State} {m : MethodId} {args : Array Value} {below : List Frame} {meth : Method} {c : Code} {Q : State → Prop}
variable {D : va_G} {E : PE} {KS : Nat × (Nat → Int) → State → Heap → Prop} {mi N0 M0 : Nat} {pc : Nat} {ls st r : List PV} {S : PS}
set_option maxHeartbeats 4000000 in
set_option maxRecDepth 10000 in
theorem pm_sim1 {i : Instr} {n : Nat} {q : PC} (hP : pm_Prim l D E KS) (C : pm_X p s m args meth c D E KS mi N0) (hR8 : 8 ≤ R.frames ∧ 300 ≤ R.locals) (hf : pm_fe mi pc = some (i, n)) (h : pm_step mi i n pc ls st S = some (.inl q)) (hrc : q.2.2.2.1.1 ≤ R.cells + N0) (hrs : q.2.2.2.1.2.1 ≤ R.slots + M0) (k : pm_Wc p l e R s m args below meth c Q D E KS (pm_ml mi) N0 M0 q) : pm_Wc p l e R s m args below meth c Q D E KS (pm_ml mi) N0 M0 (pc, ls, st, S) := by
  have hR : 1 ≤ R.frames ∧ 60 ≤ R.locals := ⟨by have := hR8.1; omega, by have := hR8.2; omega⟩
  obtain ⟨hd, hn⟩ := pm_fe_sp hf
  obtain ⟨hx, hb, hml, ho, hts, hK, hin, h0, hbE, hKX⟩ := id C
  cases i
  case iload_n k9 =>
    obtain rfl : n = 1 := by simpa [pm_lok] using hn
    simp only [pm_step, pm_ldi] at h
    split at h
    · cases h
      exact ps_iload_n hx hb ‹_› hd k
    · cases h
  case iload k9 =>
    obtain rfl : n = 2 := by simpa [pm_lok] using hn
    simp only [pm_step, pm_ldi] at h
    split at h
    · cases h
      exact ps_iload hx hb ‹_› hd k
    · cases h
  case lload_n k9 =>
    obtain rfl : n = 1 := by simpa [pm_lok] using hn
    simp only [pm_step, pm_ldl] at h
    split at h
    · cases h
      exact ps_lload_n hx hb ‹_› hd k
    · cases h
  case lload k9 =>
    obtain rfl : n = 2 := by simpa [pm_lok] using hn
    simp only [pm_step, pm_ldl] at h
    split at h
    · cases h
      exact ps_lload hx hb ‹_› hd k
    · cases h
  case aload_n k9 =>
    obtain rfl : n = 1 := by simpa [pm_lok] using hn
    simp only [pm_step, pm_lda] at h
    split at h
    · cases h
      exact ps_aload_n hx hb ‹_› hd k
    · cases h
  case aload k9 =>
    obtain rfl : n = 2 := by simpa [pm_lok] using hn
    simp only [pm_step, pm_lda] at h
    split at h
    · cases h
      exact ps_aload hx hb ‹_› hd k
    · cases h
  case istore_n k9 =>
    obtain rfl : n = 1 := by simpa [pm_lok] using hn
    simp only [pm_step, pm_sti] at h
    split at h
    · split at h
      · cases h
        exact ps_istore_n hx hb ‹_› hd k
      · cases h
    · cases h
  case istore k9 =>
    obtain rfl : n = 2 := by simpa [pm_lok] using hn
    simp only [pm_step, pm_sti] at h
    split at h
    · split at h
      · cases h
        exact ps_istore hx hb ‹_› hd k
      · cases h
    · cases h
  case lstore_n k9 =>
    obtain rfl : n = 1 := by simpa [pm_lok] using hn
    simp only [pm_step, pm_stl] at h
    split at h
    · split at h
      · cases h
        exact ps_lstore_n hx hb ‹_› hd k
      · cases h
    · cases h
  case lstore k9 =>
    obtain rfl : n = 2 := by simpa [pm_lok] using hn
    simp only [pm_step, pm_stl] at h
    split at h
    · split at h
      · cases h
        exact ps_lstore hx hb ‹_› hd k
      · cases h
    · cases h
  case astore_n k9 =>
    obtain rfl : n = 1 := by simpa [pm_lok] using hn
    simp only [pm_step, pm_sta] at h
    split at h
    · split at h
      · cases h
        exact ps_astore_n hx hb ‹_› hd k
      · cases h
    · cases h
  case astore k9 =>
    obtain rfl : n = 2 := by simpa [pm_lok] using hn
    simp only [pm_step, pm_sta] at h
    split at h
    · split at h
      · cases h
        exact ps_astore hx hb ‹_› hd k
      · cases h
    · cases h
  case iinc k9 z =>
    obtain rfl : n = 3 := by simpa [pm_lok] using hn
    simp only [pm_step] at h
    split at h
    · cases h
      exact ps_iinc hx hb ‹_› hd k
    · cases h
  case iconst z =>
    obtain rfl : n = 1 := by simpa [pm_lok] using hn
    cases h
    exact ps_iconst hx hb hd k
  case bipush z =>
    obtain rfl : n = 2 := by simpa [pm_lok] using hn
    simp only [pm_step] at h
    split at h
    · cases h
      exact ps_bipush hx hb ‹_› hd k
    · cases h
  case sipush z =>
    obtain rfl : n = 3 := by simpa [pm_lok] using hn
    simp only [pm_step] at h
    split at h
    · cases h
      exact ps_sipush hx hb ‹_› hd k
    · cases h
  case lconst z =>
    obtain rfl : n = 1 := by simpa [pm_lok] using hn
    cases h
    exact ps_lconst hx hb hd k
  case ldc idx =>
    obtain rfl : n = 2 := by simpa [pm_lok] using hn
    have h0s := h
    simp only [pm_step, pm_ldc] at h
    split at h
    · rename_i x hxx
      cases h
      obtain ⟨e0, h1, h2, h3⟩ := pm_find hxx
      simp only [Bool.and_eq_true, beq_iff_eq] at h2
      have h4 := pm_ic_ok e0 h1
      rw [h2.1, h2.2, h3] at h4
      exact ps_ldc hx hb ho (hts _ (pm_tb_in h4 rfl)) hd k
    · split at h
      · split at h
        · cases h
          exact hP p e R s m args below meth c Q mi N0 M0 idx pc ls st S _ C hR8.1 hR8.2 hrc hrs (Or.inr (Or.inr ⟨hd, ‹_›, h0s⟩)) k
        · cases h
      · cases h
  case ldc_w idx =>
    obtain rfl : n = 3 := by simpa [pm_lok] using hn
    have h0s := h
    simp only [pm_step, pm_ldc] at h
    split at h
    · rename_i x hxx
      cases h
      obtain ⟨e0, h1, h2, h3⟩ := pm_find hxx
      simp only [Bool.and_eq_true, beq_iff_eq] at h2
      have h4 := pm_ic_ok e0 h1
      rw [h2.1, h2.2, h3] at h4
      exact ps_ldcw hx hb ho (hts _ (pm_tb_in h4 rfl)) hd k
    · split at h <;> simp at h
  case ldc2_w idx =>
    obtain rfl : n = 3 := by simpa [pm_lok] using hn
    simp only [pm_step, pm_ldc2] at h
    split at h
    · rename_i x hxx
      cases h
      obtain ⟨e0, h1, h2, h3⟩ := pm_find hxx
      simp only [Bool.and_eq_true, beq_iff_eq] at h2
      have h4 := pm_lc_ok e0 h1
      rw [h2.1, h2.2, h3] at h4
      exact ps_ldc2 hx hb ho (hts _ (pm_tb_in h4 rfl)) hd k
    · cases h
  case iadd =>
    obtain rfl : n = 1 := by simpa [pm_lok] using hn
    simp only [pm_step, pm_b2] at h
    split at h
    · cases h
      exact ps_iadd hx hb hd k
    · cases h
  case isub =>
    obtain rfl : n = 1 := by simpa [pm_lok] using hn
    simp only [pm_step, pm_b2] at h
    split at h
    · cases h
      exact ps_isub hx hb hd k
    · cases h
  case imul =>
    obtain rfl : n = 1 := by simpa [pm_lok] using hn
    simp only [pm_step, pm_b2] at h
    split at h
    · cases h
      exact ps_imul hx hb hd k
    · cases h
  case iand =>
    obtain rfl : n = 1 := by simpa [pm_lok] using hn
    simp only [pm_step, pm_b2] at h
    split at h
    · cases h
      exact ps_iand hx hb hd k
    · cases h
  case ior =>
    obtain rfl : n = 1 := by simpa [pm_lok] using hn
    simp only [pm_step, pm_b2] at h
    split at h
    · cases h
      exact ps_ior hx hb hd k
    · cases h
  case ixor =>
    obtain rfl : n = 1 := by simpa [pm_lok] using hn
    simp only [pm_step, pm_b2] at h
    split at h
    · cases h
      exact ps_ixor hx hb hd k
    · cases h
  case ishl =>
    obtain rfl : n = 1 := by simpa [pm_lok] using hn
    simp only [pm_step, pm_b2] at h
    split at h
    · cases h
      exact ps_ishl hx hb hd k
    · cases h
  case ishr =>
    obtain rfl : n = 1 := by simpa [pm_lok] using hn
    simp only [pm_step, pm_b2] at h
    split at h
    · cases h
      exact ps_ishr hx hb hd k
    · cases h
  case idiv =>
    obtain rfl : n = 1 := by simpa [pm_lok] using hn
    simp only [pm_step, pm_d2] at h
    split at h
    · split at h
      · cases h
      · cases h
        exact ps_idiv hx hb ‹_› hd k
    · cases h
  case irem =>
    obtain rfl : n = 1 := by simpa [pm_lok] using hn
    simp only [pm_step, pm_d2] at h
    split at h
    · split at h
      · cases h
      · cases h
        exact ps_irem hx hb ‹_› hd k
    · cases h
  case ladd =>
    obtain rfl : n = 1 := by simpa [pm_lok] using hn
    simp only [pm_step, pm_l2] at h
    split at h
    · cases h
      exact ps_ladd hx hb hd k
    · cases h
  case lsub =>
    obtain rfl : n = 1 := by simpa [pm_lok] using hn
    simp only [pm_step, pm_l2] at h
    split at h
    · cases h
      exact ps_lsub hx hb hd k
    · cases h
  case lmul =>
    obtain rfl : n = 1 := by simpa [pm_lok] using hn
    simp only [pm_step, pm_l2] at h
    split at h
    · cases h
      exact ps_lmul hx hb hd k
    · cases h
  case land =>
    obtain rfl : n = 1 := by simpa [pm_lok] using hn
    simp only [pm_step, pm_l2] at h
    split at h
    · cases h
      exact ps_land hx hb hd k
    · cases h
  case lor =>
    obtain rfl : n = 1 := by simpa [pm_lok] using hn
    simp only [pm_step, pm_l2] at h
    split at h
    · cases h
      exact ps_lor hx hb hd k
    · cases h
  case ldiv =>
    obtain rfl : n = 1 := by simpa [pm_lok] using hn
    simp only [pm_step, pm_ld2] at h
    split at h
    · split at h
      · cases h
      · cases h
        exact ps_ldiv hx hb ‹_› hd k
    · cases h
  case lrem =>
    obtain rfl : n = 1 := by simpa [pm_lok] using hn
    simp only [pm_step, pm_ld2] at h
    split at h
    · split at h
      · cases h
      · cases h
        exact ps_lrem hx hb ‹_› hd k
    · cases h
  case lshl =>
    obtain rfl : n = 1 := by simpa [pm_lok] using hn
    simp only [pm_step, pm_lsh] at h
    split at h
    · cases h
      exact ps_lshl hx hb hd k
    · cases h
  case lshr =>
    obtain rfl : n = 1 := by simpa [pm_lok] using hn
    simp only [pm_step, pm_lsh] at h
    split at h
    · cases h
      exact ps_lshr hx hb hd k
    · cases h
  case lcmp =>
    obtain rfl : n = 1 := by simpa [pm_lok] using hn
    simp only [pm_step] at h
    split at h
    · cases h
      exact ps_lcmp hx hb hd k
    · cases h
  case l2i =>
    obtain rfl : n = 1 := by simpa [pm_lok] using hn
    simp only [pm_step] at h
    split at h
    · cases h
      exact ps_l2i hx hb hd k
    · cases h
  case i2l =>
    obtain rfl : n = 1 := by simpa [pm_lok] using hn
    simp only [pm_step, pm_u1] at h
    split at h
    · cases h
      exact ps_i2l hx hb hd k
    · cases h
  case i2b =>
    obtain rfl : n = 1 := by simpa [pm_lok] using hn
    simp only [pm_step, pm_u1] at h
    split at h
    · cases h
      exact ps_i2b hx hb hd k
    · cases h
  case i2c =>
    obtain rfl : n = 1 := by simpa [pm_lok] using hn
    simp only [pm_step, pm_u1] at h
    split at h
    · cases h
      exact ps_i2c hx hb hd k
    · cases h
  case dup =>
    obtain rfl : n = 1 := by simpa [pm_lok] using hn
    simp only [pm_step] at h
    split at h
    · split at h
      · cases h
        exact ps_dup hx hb ‹_› hd k
      · cases h
    · cases h
  case pop =>
    obtain rfl : n = 1 := by simpa [pm_lok] using hn
    simp only [pm_step] at h
    split at h
    · split at h
      · cases h
        exact ps_pop hx hb ‹_› hd k
      · cases h
    · cases h
  case dup2 =>
    obtain rfl : n = 1 := by simpa [pm_lok] using hn
    simp only [pm_step] at h
    split at h
    · split at h
      · rename_i hh
        cases h
        exact ps_dup2 hx hb hh.1 hh.2 hd k
      · cases h
    · cases h
  case iaload =>
    obtain rfl : n = 1 := by simpa [pm_lok] using hn
    simp only [pm_step, pm_iald] at h
    split at h
    · split at h
      · cases h
        exact ps_iald hx hb hK.1 ‹_› hd k
      · split at h
        · rename_i hh
          cases h
          intro H locs lsr cells slots hH hL hc hs
          exact ps_sald hx hb (hKX _ _ hH.2.2) (by omega) hbE hh.1 hh.2.1 hh.2.2 hd k H locs lsr cells slots hH hL hc hs
        · cases h
    · cases h
  case baload =>
    obtain rfl : n = 1 := by simpa [pm_lok] using hn
    simp only [pm_step, pm_bald] at h
    split at h
    · split at h
      · rename_i hh
        cases h
        rcases hh with hh | hh
        · exact ps_bald hx hb hK.1 hh hd k
        · exact ps_zald hx hb hK.1 hh hd k
      · cases h
    · cases h
  case laload =>
    obtain rfl : n = 1 := by simpa [pm_lok] using hn
    simp only [pm_step, pm_lald] at h
    split at h
    · split at h
      · cases h
        exact ps_lald hx hb hK.1 ‹_› hd k
      · cases h
    · cases h
  case aaload =>
    obtain rfl : n = 1 := by simpa [pm_lok] using hn
    simp only [pm_step, pm_aald] at h
    split at h
    · split at h
      · rename_i hh
        cases h
        exact ps_aald hx hb hK.1 hh.1 hh.2 hd k
      · cases h
    · cases h
  case iastore =>
    obtain rfl : n = 1 := by simpa [pm_lok] using hn
    simp only [pm_step, pm_iast] at h
    split at h
    · split at h
      · cases h
        exact ps_iast hx hb hK.1 ‹_› hd k
      · cases h
    · cases h
  case lastore =>
    obtain rfl : n = 1 := by simpa [pm_lok] using hn
    simp only [pm_step, pm_last] at h
    split at h
    · split at h
      · cases h
        exact ps_last hx hb hK.1 ‹_› hd k
      · cases h
    · cases h
  case aastore =>
    obtain rfl : n = 1 := by simpa [pm_lok] using hn
    simp only [pm_step, pm_aast] at h
    split at h
    · split at h
      · rename_i hh
        cases h
        exact ps_aast hx hb hK.1 hh.1 hh.2 hd k
      · cases h
    · cases h
  case bastore =>
    obtain rfl : n = 1 := by simpa [pm_lok] using hn
    simp only [pm_step, pm_bast] at h
    split at h
    · split at h
      · cases h
        exact ps_bast hx hb hK.1 ‹_› hd k
      · split at h
        · rename_i hh
          cases h
          exact ps_zast hx hb hK.1 hh.1 hh.2 hd k
        · cases h
    · cases h
  case arraylength =>
    obtain rfl : n = 1 := by simpa [pm_lok] using hn
    simp only [pm_step, pm_alen] at h
    split at h
    · split at h
      · rename_i hh
        cases h
        exact ps_alen hx hb hK.1 hh.1 hh.2.1 hh.2.2.1 hh.2.2.2 hd k
      · split at h
        · rename_i hh
          cases h
          intro H locs lsr cells slots hH hL hc hs
          exact ps_slen hx hb (hKX _ _ hH.2.2) (by omega) hbE hh hd k H locs lsr cells slots hH hL hc hs
        · cases h
    · cases h
  case getfield idx =>
    obtain rfl : n = 3 := by simpa [pm_lok] using hn
    simp only [pm_step, pm_getf] at h
    split at h
    · rename_i hfr
      split at h
      · rename_i hh
        cases h
        exact ps_getf hx hb hts ho hK.1 hfr hh.2 hh.1 hd k
      · cases h
    · cases h
  case putfield idx =>
    obtain rfl : n = 3 := by simpa [pm_lok] using hn
    simp only [pm_step, pm_putf] at h
    split at h
    · rename_i hfr
      split at h
      · rename_i hh
        cases h
        exact ps_putI hx hb hts ho hK.1 hin hfr hh.2.1 hh.1 hh.2.2.1 hh.2.2.2 hd k
      · cases h
    · rename_i hfr
      split at h
      · rename_i hh
        cases h
        exact ps_putL hx hb hts ho hK.1 hin hfr hh.2.1 hh.1 hh.2.2.1 hh.2.2.2 hd k
      · cases h
    · rename_i hfr
      split at h
      · rename_i hh
        cases h
        exact ps_putR hx hb hts ho hK.1 hin hfr hh.2.1 hh.1 hh.2.2.1 hh.2.2.2.1 hh.2.2.2.2 hd k
      · cases h
    · cases h
  case new idx =>
    obtain rfl : n = 3 := by simpa [pm_lok] using hn
    simp only [pm_step, pm_newo] at h
    split at h
    · rename_i hfr
      split at h
      · cases h
        exact ps_newo hx hb hts ho hK.1 h0 hfr ‹_› hrc hrs hd k
      · cases h
    · cases h
  case newarray t =>
    obtain rfl : n = 2 := by simpa [pm_lok] using hn
    simp only [pm_step, pm_newa] at h
    split at h
    · split at h
      · rename_i hh
        cases t <;> simp only [reduceCtorEq] at h
        case boolean => cases h; exact ps_newaG (kd := 102) (t0 := 2) (ty := .boolean) hx hb hK.1 h0 rfl (hts _ pm_acZ) rfl (fun _ z => z) hh (by decide) (pm_ce_i (S := pm_al _ _ _) (by simp [pm_al]) (by decide)) (fun cA => by simp only [vp_cell, pm_al, if_true, pm_sa]; rfl) hrc hrs hd k
        case byte => cases h; exact ps_newaG (kd := 101) (t0 := 1) (ty := .byte) hx hb hK.1 h0 rfl (hts _ pm_acB) rfl (fun _ z => z) hh (by decide) (pm_ce_i (S := pm_al _ _ _) (by simp [pm_al]) (by decide)) (fun cA => by simp only [vp_cell, pm_al, if_true, pm_sa]; rfl) hrc hrs hd k
        case int => cases h; exact ps_newaG (kd := 100) (t0 := 0) (ty := .int) hx hb hK.1 h0 rfl (hts _ pm_acI) rfl (fun _ z => z) hh (by decide) (pm_ce_i (S := pm_al _ _ _) (by simp [pm_al]) (by decide)) (fun cA => by simp only [vp_cell, pm_al, if_true, pm_sa]; rfl) hrc hrs hd k
        case long => cases h; exact ps_newaG (kd := 103) (t0 := 3) (ty := .long) hx hb hK.1 h0 rfl (hts _ pm_acL) rfl (fun _ z => z) hh (by decide) (pm_ce_l (S := pm_al _ _ _) (by simp [pm_al])) (fun cA => by simp only [vp_cell, pm_al, if_true, pm_sa]; rfl) hrc hrs hd k
      · cases h
    · cases h
  case anewarray idx =>
    obtain rfl : n = 3 := by simpa [pm_lok] using hn
    simp only [pm_step, pm_newr] at h
    split at h
    · rename_i hfr
      split at h
      · rename_i hh
        cases h
        exact ps_newr hx hb hts ho hK.1 hK.2.1 h0 (by rw [hfr, hh.1]) hh.2 hrc hrs hd k
      · cases h
    · cases h
  case goto off =>
    obtain rfl : n = 3 := by simpa [pm_lok] using hn
    simp only [pm_step, pm_jmp] at h
    split at h
    · cases h
      exact ps_goto hx hb ‹_› hd k
    · cases h
  case ifCond o off =>
    obtain rfl : n = 3 := by simpa [pm_lok] using hn
    simp only [pm_step] at h
    split at h
    · split at h
      · rename_i hz
        cases o
        case eq =>
          split at h
          · rename_i hcd
            cases h
            exact ps_if_eq hx hb hz hd (by rw [if_pos hcd]; exact k)
          · rename_i hcd
            cases h
            exact ps_if_eq hx hb hz hd (by rw [if_neg hcd]; exact k)
        case ne =>
          split at h
          · rename_i hcd
            cases h
            exact ps_if_ne hx hb hz hd (by rw [if_pos hcd]; exact k)
          · rename_i hcd
            cases h
            exact ps_if_ne hx hb hz hd (by rw [if_neg hcd]; exact k)
        case lt =>
          split at h
          · rename_i hcd
            cases h
            exact ps_if_lt hx hb hz hd (by rw [if_pos hcd]; exact k)
          · rename_i hcd
            cases h
            exact ps_if_lt hx hb hz hd (by rw [if_neg hcd]; exact k)
        case ge =>
          split at h
          · rename_i hcd
            cases h
            exact ps_if_ge hx hb hz hd (by rw [if_pos hcd]; exact k)
          · rename_i hcd
            cases h
            exact ps_if_ge hx hb hz hd (by rw [if_neg hcd]; exact k)
        case gt =>
          split at h
          · rename_i hcd
            cases h
            exact ps_if_gt hx hb hz hd (by rw [if_pos hcd]; exact k)
          · rename_i hcd
            cases h
            exact ps_if_gt hx hb hz hd (by rw [if_neg hcd]; exact k)
        case le =>
          split at h
          · rename_i hcd
            cases h
            exact ps_if_le hx hb hz hd (by rw [if_pos hcd]; exact k)
          · rename_i hcd
            cases h
            exact ps_if_le hx hb hz hd (by rw [if_neg hcd]; exact k)
      · cases h
    · cases h
  case if_icmp o off =>
    obtain rfl : n = 3 := by simpa [pm_lok] using hn
    simp only [pm_step] at h
    split at h
    · split at h
      · rename_i hz
        cases o
        case eq =>
          split at h
          · rename_i hcd
            cases h
            exact ps_icmp_eq hx hb hz hd (by rw [if_pos hcd]; exact k)
          · rename_i hcd
            cases h
            exact ps_icmp_eq hx hb hz hd (by rw [if_neg hcd]; exact k)
        case ne =>
          split at h
          · rename_i hcd
            cases h
            exact ps_icmp_ne hx hb hz hd (by rw [if_pos hcd]; exact k)
          · rename_i hcd
            cases h
            exact ps_icmp_ne hx hb hz hd (by rw [if_neg hcd]; exact k)
        case lt =>
          split at h
          · rename_i hcd
            cases h
            exact ps_icmp_lt hx hb hz hd (by rw [if_pos hcd]; exact k)
          · rename_i hcd
            cases h
            exact ps_icmp_lt hx hb hz hd (by rw [if_neg hcd]; exact k)
        case ge =>
          split at h
          · rename_i hcd
            cases h
            exact ps_icmp_ge hx hb hz hd (by rw [if_pos hcd]; exact k)
          · rename_i hcd
            cases h
            exact ps_icmp_ge hx hb hz hd (by rw [if_neg hcd]; exact k)
        case gt =>
          split at h
          · rename_i hcd
            cases h
            exact ps_icmp_gt hx hb hz hd (by rw [if_pos hcd]; exact k)
          · rename_i hcd
            cases h
            exact ps_icmp_gt hx hb hz hd (by rw [if_neg hcd]; exact k)
        case le =>
          split at h
          · rename_i hcd
            cases h
            exact ps_icmp_le hx hb hz hd (by rw [if_pos hcd]; exact k)
          · rename_i hcd
            cases h
            exact ps_icmp_le hx hb hz hd (by rw [if_neg hcd]; exact k)
      · cases h
    · cases h
  case tableswitch dflt lo hi offs =>
    simp only [pm_step, pm_tsw] at h
    split at h
    · split at h
      · rename_i hh
        simp only [pm_jmp] at h
        split at h
        · cases h
          exact ps_tsOut hx hb ‹_› hh hd k
        · cases h
      · rename_i hh
        split at h
        · rename_i off hof
          simp only [pm_jmp] at h
          split at h
          · cases h
            exact ps_tsIn hx hb ‹_› hh hof hd k
          · cases h
        · cases h
    · cases h
  case invokevirtual idx =>
    obtain rfl : n = 3 := by simpa [pm_lok] using hn
    simp only [pm_step] at h
    exact pm_simV hP C hR8 hrc hrs hd h k
  case invokespecial idx =>
    obtain rfl : n = 3 := by simpa [pm_lok] using hn
    simp only [pm_step] at h
    exact pm_simI C hR hd h k
  case invokestatic idx =>
    obtain rfl : n = 3 := by simpa [pm_lok] using hn
    simp only [pm_step] at h
    exact pm_simS hP C hR8 hrc hrs hd h k
  case ireturn =>
    simp only [pm_step] at h
    split at h
    · split at h <;> cases h
    · cases h
  case lreturn =>
    simp only [pm_step] at h
    split at h
    · split at h <;> cases h
    · cases h
  case areturn =>
    simp only [pm_step] at h
    split at h
    · split at h <;> cases h
    · cases h
  case return_ =>
    simp only [pm_step] at h
    split at h
    · split at h <;> cases h
    · cases h
  all_goals exact absurd (show (none : Option PO) = some (.inl q) from h) (by simp)
end SIM
