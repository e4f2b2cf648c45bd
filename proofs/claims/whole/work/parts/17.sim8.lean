/-! Runs of a method, and its contract. -/
theorem pm_one_sp {mi : Nat} {c : PC} {w : PO} (h : pm_one mi c = some w) : ∃ i n, pm_fe mi c.1 = some (i, n) ∧ pm_step mi i n c.1 c.2.1 c.2.2.1 c.2.2.2 = some w := by
  unfold pm_one at h
  split at h
  · rename_i i n hf
    exact ⟨i, n, hf, h⟩
  · cases h
theorem pm_call_st {mi n pc : Nat} {i : Instr} {ls st : List PV} {S : PS} {m' : Nat} {as : List PV} {q : PC} (h : pm_step mi i n pc ls st S = some (.inr (.inr (m', as, q)))) : q.2.2.2 = S := by
  cases i <;> simp only [pm_step, pm_ldi, pm_ldl, pm_lda, pm_sti, pm_stl, pm_sta, pm_b2, pm_d2, pm_l2, pm_ld2, pm_lsh, pm_u1, pm_iald, pm_bald, pm_lald, pm_aald, pm_iast, pm_bast, pm_last, pm_aast, pm_alen, pm_getf, pm_putf, pm_newo, pm_newa, pm_newr, pm_invv, pm_invi, pm_acpy, pm_m2, pm_m0, pm_invs, pm_ldc, pm_ldc2, pm_tsw, pm_jmp, pm_go] at h <;> (repeat' split at h) <;> first | (simp at h; done) | (simp only [Option.some.injEq, Sum.inr.injEq, Prod.mk.injEq] at h; obtain ⟨rfl, rfl, rfl⟩ := h; rfl)
theorem pm_big_mono : ∀ (d m : Nat) (as : List PV) (S : PS) (r : PV) (S' : PS), pm_Big d m as S r S' → S.1.1 ≤ S'.1.1 ∧ S.1.2.1 ≤ S'.1.2.1 ∧ S'.1.2.2.2 = S.1.2.2.2
  | 0, _, _, _, _, _, h => h.elim
  | d + 1, m, as, S, r, S', h => by
    refine h.2 (fun c => c.2.2.2.1.1 ≤ S'.1.1 ∧ c.2.2.2.1.2.1 ≤ S'.1.2.1 ∧ S'.1.2.2.2 = c.2.2.2.1.2.2.2) (fun c hc => ?_)
    generalize ho : pm_one m c = w at hc
    match w, hc with
    | some (.inl q), hq =>
      obtain ⟨i, n, h1, h2⟩ := pm_one_sp ho
      obtain ⟨g1, g2, g3⟩ := pm_step_mono h2
      obtain ⟨k1, k2, k3⟩ := hq
      exact ⟨Nat.le_trans g1 k1, Nat.le_trans g2 k2, k3.trans g3⟩
    | some (.inr (.inl (v, S1))), hk =>
      obtain ⟨i, n, h1, h2⟩ := pm_one_sp ho
      have e1 := (pm_step_ret h2).1
      have e2 : S1 = S' := hk.2
      rw [← e1, e2]
      exact ⟨Nat.le_refl _, Nat.le_refl _, rfl⟩
    | some (.inr (.inr (m', as', q))), ⟨r1, S1, hb, hq⟩ =>
      obtain ⟨i, n, h1, h2⟩ := pm_one_sp ho
      have e1 := pm_call_st h2
      obtain ⟨g1, g2, g3⟩ := pm_big_mono d _ _ _ _ _ hb
      obtain ⟨k1, k2, k3⟩ := hq
      rw [← e1]
      exact ⟨Nat.le_trans g1 k1, Nat.le_trans g2 k2, k3.trans g3⟩
section SIM
variable {p : Program} {l : Launch} {e : Env} {R : Room} {s : State} {m : MethodId} {args : Array Value} {below : List Frame} {meth : Method} {c : Code} {Q : State → Prop}
variable {D : va_G} {E : PE} {KS : Nat × (Nat → Int) → State → Heap → Prop} {mi N0 M0 : Nat} {pc : Nat} {ls st r : List PV} {S : PS}
theorem pm_simR {d : Nat} {K : PV → PS → Prop} (hKS : pm_KSok E KS) (hP : pm_Prim l D E KS) (C : pm_X p s m args meth c D E KS mi N0) (hR : d + 8 ≤ R.frames ∧ 100 * (d + 1) + 300 ≤ R.locals) (hM : ∀ m' as S v S1, m' < 308 → pm_Big d m' as S v S1 → pm_Met l D E KS d m' as S v S1)
    (hfin : ∀ (pc : Nat) (ls st : List PV) (S : PS) (i : Instr) (n : Nat) (v : PV) (S1 : PS), pm_fe mi pc = some (i, n) → pm_step mi i n pc ls st S = some (.inr (.inl (v, S1))) → K v S1 → (S.1.1 ≤ R.cells + N0 ∧ S.1.2.1 ≤ R.slots + M0) ∧ pm_Wc p l e R s m args below meth c Q D E KS (pm_ml mi) N0 M0 (pc, ls, st, S)) {q : PC} (h : pm_R (pm_Big d) mi K q) : (q.2.2.2.1.1 ≤ R.cells + N0 ∧ q.2.2.2.1.2.1 ≤ R.slots + M0) ∧ pm_Wc p l e R s m args below meth c Q D E KS (pm_ml mi) N0 M0 q := by
  refine h (fun q => (q.2.2.2.1.1 ≤ R.cells + N0 ∧ q.2.2.2.1.2.1 ≤ R.slots + M0) ∧ pm_Wc p l e R s m args below meth c Q D E KS (pm_ml mi) N0 M0 q) (fun q hq => ?_)
  obtain ⟨pc, ls, st, S⟩ := q
  generalize ho : pm_one mi (pc, ls, st, S) = w at hq
  match w, hq with
  | some (.inl q'), hq' =>
    obtain ⟨i, n, h1, h2⟩ := pm_one_sp ho
    obtain ⟨g1, g2, g3⟩ := pm_step_mono h2
    obtain ⟨⟨k1, k2⟩, k3⟩ := hq'
    have e1 : S.1.1 ≤ R.cells + N0 := Nat.le_trans g1 k1
    have e2 : S.1.2.1 ≤ R.slots + M0 := Nat.le_trans g2 k2
    exact ⟨⟨e1, e2⟩, pm_sim1 hP C ⟨by omega, by omega⟩ h1 h2 k1 k2 k3⟩
  | some (.inr (.inl (v, S1))), hk =>
    obtain ⟨i, n, h1, h2⟩ := pm_one_sp ho
    exact hfin pc ls st S i n v S1 h1 h2 hk
  | some (.inr (.inr (m', as', q'))), ⟨r1, S1, hb, hq'⟩ =>
    obtain ⟨i, n, h1, h2⟩ := pm_one_sp ho
    have e1 := pm_call_st h2
    have e2 : q'.2.2.2 = S := e1
    have hb' : pm_Big d m' as' S r1 S1 := by rw [← e2]; exact hb
    have hmo := pm_big_mono d _ _ _ _ _ hb'
    obtain ⟨⟨k1, k2⟩, k3⟩ := hq'
    have k1' : S1.1.1 ≤ R.cells + N0 := k1
    have k2' : S1.1.2.1 ≤ R.slots + M0 := k2
    exact ⟨⟨Nat.le_trans hmo.1 k1', Nat.le_trans hmo.2.1 k2'⟩, (pm_simC hKS C hR (fun hm => hM m' as' S r1 S1 hm hb') hmo k1' k2' h1 h2 k3).2⟩
end SIM
set_option maxHeartbeats 1000000 in
theorem pm_sim {l : Launch} {D : va_G} {E : PE} {KS : Nat × (Nat → Int) → State → Heap → Prop} (hKS : pm_KSok E KS) (hbE : E.2.1 < E.1) (hP : pm_Prim l D E KS) : ∀ (d m' : Nat) (as : List PV) (S : PS) (v : PV) (S1 : PS), m' < 308 → pm_Big d m' as S v S1 → pm_Met l D E KS d m' as S v S1
  | 0, _, _, _, _, _, _, h => h.elim
  | d + 1, m', as, S, v, S1, hm, h => by
    have hmo := pm_big_mono (d + 1) _ _ _ _ _ h
    obtain ⟨w1, w2, w3, w4, w5, w6, w7, w8, w9, w10⟩ := pm_mck_sp hm
    refine Met.ofW (cc := pm_cd m') (maxL := pm_ml m') (ret := pm_rt m') w5 rfl ?_
    intro p e s m args below meth c s₁ B hml hv
    obtain ⟨rfl, hz, hP0, hK, hks⟩ := hv
    have hx := B.exec
    have hb := B.bytes
    have hr := B.returns
    have hts0 := atoms_spec (ws := pm_ws m') B.pre
    have hts : ∀ w ∈ pm_tb, w.before (as.map (pm_rv E)).toArray s = true := fun w hw => hts0 w (List.mem_cons_of_mem _ hw)
    have hown : s.vm.findClass (pm_cn (pm_cl m')) = some m.cls := by rw [← w4]; exact findClass_of_methodNamed B.named
    have hlocks := B.notSynchronized
    have hin : pm_kd m' = 2 → meth.name = "<init>" := fun z => by rw [(name_of_methodNamed B.named B.method).1]; exact w10.mp z
    have C : pm_X p s m (as.map (pm_rv E)).toArray meth c D E KS m' S.1.1 := ⟨hx, hb, hml, hown, hts, hK, hin, hz, hbE, fun X H hX => hKS.2.2 X s H hX⟩
    rw [lg_entry_eq]
    have hS0 : va_S (fun q => E.1 ≤ q) s.heap s.heap [] := va_S.rf
    have key := pm_simR (R := pm_rm (d + 1) (S1.1.1 - S.1.1) (S1.1.2.1 - S.1.2.1)) (M0 := S.1.2.1) (e := e) (below := below) (Q := MQ below (pm_Q D E S1 v) (as.map (pm_rv E)).toArray s (S1.1.1 - S.1.1) (S1.1.2.1 - S.1.2.1) (fun q => E.1 ≤ q)) (K := fun r' S' => r' = v ∧ S' = S1) hKS hP C ⟨Nat.le_refl _, Nat.le_refl _⟩ (fun m2 as2 S2 v2 S3 h2 h3 => pm_sim hKS hbE hP d m2 as2 S2 v2 S3 h2 h3) ?_ h.2
    · exact key.2 s.heap [] _ 0 0 ⟨hP0, hS0, hks⟩ (pm_L_ini h.1) (by show 0 + S.1.1 = S.1.1; omega) (by show 0 + S.1.2.1 = S.1.2.1; omega)
    · intro pc ls st S2 i n v2 S3 hf hstp hk
      obtain ⟨rfl, rfl⟩ := hk
      obtain ⟨hd, hn⟩ := pm_fe_sp hf
      obtain ⟨rfl, hcase⟩ := pm_step_ret hstp
      refine ⟨⟨by show S3.1.1 ≤ (S3.1.1 - S.1.1) + S.1.1; omega, by show S3.1.2.1 ≤ (S3.1.2.1 - S.1.2.1) + S.1.2.1; omega⟩, ?_⟩
      intro H locs lsr cells slots hH hL hc hs
      have hc' : cells + S.1.1 = S3.1.1 := hc
      have hs' : slots + S.1.2.1 = S3.1.2.1 := hs
      obtain rfl : cells = S3.1.1 - S.1.1 := by omega
      obtain rfl : slots = S3.1.2.1 - S.1.2.1 := by omega
      rcases hcase with ⟨rfl, x, rfl, rfl, hrt⟩ | ⟨rfl, x, rfl, rfl, hrt⟩ | ⟨rfl, x, rfl, rfl, hrt, hx0⟩ | ⟨rfl, rfl, rfl, hrt⟩
      · obtain rfl : n = 1 := by simpa [pm_lok] using hn
        rcases hrt with hrt | ⟨hrt, hz2⟩
        · exact W.iret hx hb (hr.trans hrt) (fun t ht hW => ⟨⟨rfl, by rw [ht]; exact hH.1⟩, hH.2.1.F ht⟩) hH.2.1.2.2 hd
        · exact W.zret hx hb (hr.trans hrt) (by rcases hz2 with z | z <;> subst z <;> rfl) (fun t ht hW => ⟨⟨rfl, by rw [ht]; exact hH.1⟩, hH.2.1.F ht⟩) hH.2.1.2.2 hd
      · obtain rfl : n = 1 := by simpa [pm_lok] using hn
        exact W.lret hx hb (hr.trans hrt) (fun t ht hW => ⟨⟨rfl, by rw [ht]; exact hH.1⟩, hH.2.1.F ht⟩) hH.2.1.2.2 hd
      · obtain rfl : n = 1 := by simpa [pm_lok] using hn
        exact W.aret hx hb (hr.trans hrt) (Or.inl ⟨_, rfl⟩) (Or.inr ⟨_, pm_rvA E hx0⟩) (fun t ht hW => ⟨⟨rfl, by rw [ht]; exact hH.1⟩, hH.2.1.F ht⟩) hH.2.1.2.2 hd
      · obtain rfl : n = 1 := by simpa [pm_lok] using hn
        exact W.vret hx hb (hr.trans hrt) (fun t ht hW => ⟨⟨rfl, by rw [ht]; exact hH.1⟩, hH.2.1.F ht⟩) hH.2.1.2.2 hd
