/-! Arrays and new cells. -/
section SIM
variable {p : Program} {l : Launch} {e : Env} {R : Room} {s : State} {m : MethodId} {args : Array Value} {below : List Frame} {meth : Method} {c : Code} {Q : State → Prop}
variable {D : va_G} {E : PE} {KS : Nat × (Nat → Int) → State → Heap → Prop} {nL N0 M0 : Nat} {pc : Nat} {ls st r : List PV} {S : PS} {cc : ByteArray}
theorem ps_iald {a j : Int} (hx : p.tables.exec = Jvm.exec) (hb : c.code = cc) (hK : va_K D vwCl (pm_tys E) s) (ha : pm_ar S.1 a 100 j) (hd : decode cc pc = .ok (.iaload, 1)) (kk : pm_Wc p l e R s m args below meth c Q D E KS nL N0 M0 (pc + 1, ls, .inl (S.2.1 a.toNat (pm_sg j).toNat) :: r, S)) : pm_Wc p l e R s m args below meth c Q D E KS nL N0 M0 (pc, ls, .inl j :: .inr (.inr (.inl a)) :: r, S) := by
  intro H locs lsr cells slots hH hL hc hs
  obtain ⟨⟨h1, h2, h3⟩, h4, h5⟩ := ha
  simp only [List.map_cons, pm_rvA E h1, pm_rvI]
  refine va_iald hx hb hK hH.1 a.toNat 0 (by rw [pm_wd_at E h2, pm_ce_i h3 (by decide)]) rfl (pm_inI h4 h5) hd (pn_w ?_ (kk H locs lsr cells slots hH hL hc hs))
  simp only [pm_clamp]
  rfl
theorem ps_bald {a j : Int} (hx : p.tables.exec = Jvm.exec) (hb : c.code = cc) (hK : va_K D vwCl (pm_tys E) s) (ha : pm_ar S.1 a 101 j) (hd : decode cc pc = .ok (.baload, 1)) (kk : pm_Wc p l e R s m args below meth c Q D E KS nL N0 M0 (pc + 1, ls, .inl (S.2.1 a.toNat (pm_sg j).toNat) :: r, S)) : pm_Wc p l e R s m args below meth c Q D E KS nL N0 M0 (pc, ls, .inl j :: .inr (.inr (.inl a)) :: r, S) := by
  intro H locs lsr cells slots hH hL hc hs
  obtain ⟨⟨h1, h2, h3⟩, h4, h5⟩ := ha
  simp only [List.map_cons, pm_rvA E h1, pm_rvI]
  refine va_bald hx hb hK hH.1 a.toNat 1 (by rw [pm_wd_at E h2, pm_ce_i h3 (by decide)]) rfl (pm_inI h4 h5) hd (pn_w ?_ (kk H locs lsr cells slots hH hL hc hs))
  simp only [pm_clamp]
  rfl
theorem ps_zald {a j : Int} (hx : p.tables.exec = Jvm.exec) (hb : c.code = cc) (hK : va_K D vwCl (pm_tys E) s) (ha : pm_ar S.1 a 102 j) (hd : decode cc pc = .ok (.baload, 1)) (kk : pm_Wc p l e R s m args below meth c Q D E KS nL N0 M0 (pc + 1, ls, .inl (S.2.1 a.toNat (pm_sg j).toNat) :: r, S)) : pm_Wc p l e R s m args below meth c Q D E KS nL N0 M0 (pc, ls, .inl j :: .inr (.inr (.inl a)) :: r, S) := by
  intro H locs lsr cells slots hH hL hc hs
  obtain ⟨⟨h1, h2, h3⟩, h4, h5⟩ := ha
  simp only [List.map_cons, pm_rvA E h1, pm_rvI]
  refine va_zald hx hb hK hH.1 a.toNat 2 (by rw [pm_wd_at E h2, pm_ce_i h3 (by decide)]) rfl (pm_inI h4 h5) hd (pn_w ?_ (kk H locs lsr cells slots hH hL hc hs))
  simp only [pm_clamp]
  rfl
theorem ps_lald {a j : Int} (hx : p.tables.exec = Jvm.exec) (hb : c.code = cc) (hK : va_K D vwCl (pm_tys E) s) (ha : pm_ar S.1 a 103 j) (hd : decode cc pc = .ok (.laload, 1)) (kk : pm_Wc p l e R s m args below meth c Q D E KS nL N0 M0 (pc + 1, ls, .inr (.inl (S.2.1 a.toNat (pm_sg j).toNat)) :: r, S)) : pm_Wc p l e R s m args below meth c Q D E KS nL N0 M0 (pc, ls, .inl j :: .inr (.inr (.inl a)) :: r, S) := by
  intro H locs lsr cells slots hH hL hc hs
  obtain ⟨⟨h1, h2, h3⟩, h4, h5⟩ := ha
  simp only [List.map_cons, pm_rvA E h1, pm_rvI]
  refine va_lald hx hb hK hH.1 a.toNat 3 (by rw [pm_wd_at E h2, pm_ce_l h3]) rfl (pm_inI h4 h5) hd (pn_w ?_ (kk H locs lsr cells slots hH hL hc hs))
  simp only [pm_clamp]
  rfl
theorem ps_aald {a j : Int} (hx : p.tables.exec = Jvm.exec) (hb : c.code = cc) (hK : va_K D vwCl (pm_tys E) s) (ha : pm_ar S.1 a 104 j) (hz : 0 ≤ S.2.2 a.toNat (pm_sg j).toNat) (hd : decode cc pc = .ok (.aaload, 1)) (kk : pm_Wc p l e R s m args below meth c Q D E KS nL N0 M0 (pc + 1, ls, .inr (.inr (.inl (S.2.2 a.toNat (pm_sg j).toNat))) :: r, S)) : pm_Wc p l e R s m args below meth c Q D E KS nL N0 M0 (pc, ls, .inl j :: .inr (.inr (.inl a)) :: r, S) := by
  intro H locs lsr cells slots hH hL hc hs
  obtain ⟨⟨h1, h2, h3⟩, h4, h5⟩ := ha
  simp only [List.map_cons, pm_rvA E h1, pm_rvI]
  refine va_aldq hx hb hK hH.1 a.toNat 4 (by rw [pm_wd_at E h2, pm_ce_q h3]) rfl (pm_inI h4 h5) hd (pn_w ?_ (kk H locs lsr cells slots hH hL hc hs))
  simp only [pm_clamp, if_pos hz, va_rf]
  exact (pm_rvA E hz).symm
theorem ps_sald {a j : Int} (hx : p.tables.exec = Jvm.exec) (hb : c.code = cc) (hX : va_X E.2.1 S.1.2.2.2.1 (fun j => Int32.ofInt (S.1.2.2.2.2 j)) s s.heap) (hbl : E.2.1 < s.heap.size) (hbE : E.2.1 < E.1) (ha : a = -2) (h4 : 0 ≤ pm_sg j) (h5 : pm_sg j < S.1.2.2.2.1) (hd : decode cc pc = .ok (.iaload, 1)) (kk : pm_Wc p l e R s m args below meth c Q D E KS nL N0 M0 (pc + 1, ls, .inl (S.1.2.2.2.2 (pm_sg j).toNat) :: r, S)) : pm_Wc p l e R s m args below meth c Q D E KS nL N0 M0 (pc, ls, .inl j :: .inr (.inr (.inl a)) :: r, S) := by
  intro H locs lsr cells slots hH hL hc hs
  subst ha
  simp only [List.map_cons, pm_rvS, pm_rvI]
  refine va_sld hx hb hX hbl (Nat.not_le.mpr hbE) hH.2.1 (pm_inI h4 h5) hd (pn_w ?_ (kk H locs lsr cells slots hH hL hc hs))
  simp only [pm_clamp]
  rfl
theorem ps_slen {a : Int} (hx : p.tables.exec = Jvm.exec) (hb : c.code = cc) (hX : va_X E.2.1 S.1.2.2.2.1 (fun j => Int32.ofInt (S.1.2.2.2.2 j)) s s.heap) (hbl : E.2.1 < s.heap.size) (hbE : E.2.1 < E.1) (ha : a = -2) (hd : decode cc pc = .ok (.arraylength, 1)) (kk : pm_Wc p l e R s m args below meth c Q D E KS nL N0 M0 (pc + 1, ls, .inl S.1.2.2.2.1 :: r, S)) : pm_Wc p l e R s m args below meth c Q D E KS nL N0 M0 (pc, ls, .inr (.inr (.inl a)) :: r, S) := by
  intro H locs lsr cells slots hH hL hc hs
  subst ha
  simp only [List.map_cons, pm_rvS]
  exact va_slen hx hb hX hbl (Nat.not_le.mpr hbE) hH.2.1 hd (pn_w (by rw [pm_rvI, Int32.ofInt_eq_ofNat]) (kk H locs lsr cells slots hH hL hc hs))
theorem ps_alen {a : Int} (hx : p.tables.exec = Jvm.exec) (hb : c.code = cc) (hK : va_K D vwCl (pm_tys E) s) (h1 : 0 ≤ a) (h2 : a.toNat < S.1.1) (h3 : 100 ≤ (S.1.2.2.1 a.toNat).1) (h4 : (S.1.2.2.1 a.toNat).1 ≤ 104) (hd : decode cc pc = .ok (.arraylength, 1)) (kk : pm_Wc p l e R s m args below meth c Q D E KS nL N0 M0 (pc + 1, ls, .inl (S.1.2.2.1 a.toNat).2 :: r, S)) : pm_Wc p l e R s m args below meth c Q D E KS nL N0 M0 (pc, ls, .inr (.inr (.inl a)) :: r, S) := by
  intro H locs lsr cells slots hH hL hc hs
  simp only [List.map_cons, pm_rvA E h1]
  have k2 := pn_w (v := .int (Int32.ofNat (S.1.2.2.1 a.toNat).2)) (by rw [pm_rvI, Int32.ofInt_eq_ofNat]) (kk H locs lsr cells slots hH hL hc hs)
  have hcase : (S.1.2.2.1 a.toNat).1 = 100 ∨ (S.1.2.2.1 a.toNat).1 = 101 ∨ (S.1.2.2.1 a.toNat).1 = 102 ∨ (S.1.2.2.1 a.toNat).1 = 103 ∨ (S.1.2.2.1 a.toNat).1 = 104 := by omega
  rcases hcase with h | h | h | h | h
  · exact va_alen hx hb hK hH.1 a.toNat 0 (by rw [pm_wd_at E h2, pm_ce_i h (by decide)]) rfl rfl hd k2
  · exact va_alen hx hb hK hH.1 a.toNat 1 (by rw [pm_wd_at E h2, pm_ce_i h (by decide)]) rfl rfl hd k2
  · exact va_alen hx hb hK hH.1 a.toNat 2 (by rw [pm_wd_at E h2, pm_ce_i h (by decide)]) rfl rfl hd k2
  · exact va_alen hx hb hK hH.1 a.toNat 3 (by rw [pm_wd_at E h2, pm_ce_l h]) rfl rfl hd k2
  · exact va_alen hx hb hK hH.1 a.toNat 4 (by rw [pm_wd_at E h2, pm_ce_q h]) rfl rfl hd k2
theorem ps_iast {a j x : Int} (hx : p.tables.exec = Jvm.exec) (hb : c.code = cc) (hK : va_K D vwCl (pm_tys E) s) (ha : pm_ar S.1 a 100 j) (hd : decode cc pc = .ok (.iastore, 1)) (kk : pm_Wc p l e R s m args below meth c Q D E KS nL N0 M0 (pc + 1, ls, r, (S.1, pm_sa S.2.1 a.toNat (pm_up (S.2.1 a.toNat) (pm_sg j).toNat x), S.2.2))) : pm_Wc p l e R s m args below meth c Q D E KS nL N0 M0 (pc, ls, .inl x :: .inl j :: .inr (.inr (.inl a)) :: r, S) := by
  intro H locs lsr cells slots hH hL hc hs
  obtain ⟨⟨h1, h2, h3⟩, h4, h5⟩ := ha
  simp only [List.map_cons, pm_rvA E h1, pm_rvI, pm_rvL]
  refine va_iast hx hb hK hH.1 (pm_wd_D E S) hH.2.1 a.toNat 0 (by rw [pm_wd_at E h2, pm_ce_i h3 (by decide)]) rfl (pm_inI h4 h5) hd (fun H1 locs1 q1 _ q2 => kk H1 locs1 lsr cells slots ⟨?_, q2, hH.2.2⟩ hL hc hs)
  have e1 : pm_ce E (S.1, pm_sa S.2.1 a.toNat (pm_up (S.2.1 a.toNat) (pm_sg j).toNat x), S.2.2) a.toNat = .inl (E.2.2.2 100, (S.1.2.2.1 a.toNat).2, .inl (upd (fun k => Int32.ofInt (S.2.1 a.toNat k)) (pm_sg j).toNat (Int32.ofInt x))) := by
    rw [pm_ce_i (S := (S.1, pm_sa S.2.1 a.toNat (pm_up (S.2.1 a.toNat) (pm_sg j).toNat x), S.2.2)) h3 (by decide)]
    simp only [pm_sa_s, pm_upd]
  have q3 : va_P D vwCl ((pm_wd E S).set a.toNat (E.1 + a.toNat, .inl (E.2.2.2 100, (S.1.2.2.1 a.toNat).2, .inl (upd (fun k => Int32.ofInt (S.2.1 a.toNat k)) (pm_sg j).toNat (Int32.ofInt x))))) H1 := by
    rw [pm_clamp] at q1
    exact q1
  rw [← e1, pm_wd_set (E := E) (S := S) (S' := (S.1, pm_sa S.2.1 a.toNat (pm_up (S.2.1 a.toNat) (pm_sg j).toNat x), S.2.2)) rfl (fun b hb => pm_ce_m hb)] at q3
  exact q3
theorem ps_bast {a j x : Int} (hx : p.tables.exec = Jvm.exec) (hb : c.code = cc) (hK : va_K D vwCl (pm_tys E) s) (ha : pm_ar S.1 a 101 j) (hd : decode cc pc = .ok (.bastore, 1)) (kk : pm_Wc p l e R s m args below meth c Q D E KS nL N0 M0 (pc + 1, ls, r, (S.1, pm_sa S.2.1 a.toNat (pm_up (S.2.1 a.toNat) (pm_sg j).toNat (pm_b8 x)), S.2.2))) : pm_Wc p l e R s m args below meth c Q D E KS nL N0 M0 (pc, ls, .inl x :: .inl j :: .inr (.inr (.inl a)) :: r, S) := by
  intro H locs lsr cells slots hH hL hc hs
  obtain ⟨⟨h1, h2, h3⟩, h4, h5⟩ := ha
  simp only [List.map_cons, pm_rvA E h1, pm_rvI, pm_rvL]
  refine va_bast hx hb hK hH.1 (pm_wd_D E S) hH.2.1 a.toNat 1 (by rw [pm_wd_at E h2, pm_ce_i h3 (by decide)]) rfl (pm_inI h4 h5) hd (fun H1 locs1 q1 _ q2 => kk H1 locs1 lsr cells slots ⟨?_, q2, hH.2.2⟩ hL hc hs)
  have e1 : pm_ce E (S.1, pm_sa S.2.1 a.toNat (pm_up (S.2.1 a.toNat) (pm_sg j).toNat (pm_b8 x)), S.2.2) a.toNat = .inl (E.2.2.2 101, (S.1.2.2.1 a.toNat).2, .inl (upd (fun k => Int32.ofInt (S.2.1 a.toNat k)) (pm_sg j).toNat (Int32.ofInt (pm_b8 x)))) := by
    rw [pm_ce_i (S := (S.1, pm_sa S.2.1 a.toNat (pm_up (S.2.1 a.toNat) (pm_sg j).toNat (pm_b8 x)), S.2.2)) h3 (by decide)]
    simp only [pm_sa_s, pm_upd]
  have q3 : va_P D vwCl ((pm_wd E S).set a.toNat (E.1 + a.toNat, .inl (E.2.2.2 101, (S.1.2.2.1 a.toNat).2, .inl (upd (fun k => Int32.ofInt (S.2.1 a.toNat k)) (pm_sg j).toNat (Int32.ofInt (pm_b8 x)))))) H1 := by
    rw [pm_clamp, vp_nar_byte, pn_b8] at q1
    exact q1
  rw [← e1, pm_wd_set (E := E) (S := S) (S' := (S.1, pm_sa S.2.1 a.toNat (pm_up (S.2.1 a.toNat) (pm_sg j).toNat (pm_b8 x)), S.2.2)) rfl (fun b hb => pm_ce_m hb)] at q3
  exact q3
theorem ps_zast {a j x : Int} (hx : p.tables.exec = Jvm.exec) (hb : c.code = cc) (hK : va_K D vwCl (pm_tys E) s) (ha : pm_ar S.1 a 102 j) (hz : x = 0 ∨ x = 1) (hd : decode cc pc = .ok (.bastore, 1)) (kk : pm_Wc p l e R s m args below meth c Q D E KS nL N0 M0 (pc + 1, ls, r, (S.1, pm_sa S.2.1 a.toNat (pm_up (S.2.1 a.toNat) (pm_sg j).toNat x), S.2.2))) : pm_Wc p l e R s m args below meth c Q D E KS nL N0 M0 (pc, ls, .inl x :: .inl j :: .inr (.inr (.inl a)) :: r, S) := by
  intro H locs lsr cells slots hH hL hc hs
  obtain ⟨⟨h1, h2, h3⟩, h4, h5⟩ := ha
  simp only [List.map_cons, pm_rvA E h1, pm_rvI, pm_rvL]
  refine va_zast hx hb hK hH.1 (pm_wd_D E S) hH.2.1 a.toNat 2 (by rw [pm_wd_at E h2, pm_ce_i h3 (by decide)]) rfl (pm_inI h4 h5) hd (fun H1 locs1 q1 _ q2 => kk H1 locs1 lsr cells slots ⟨?_, q2, hH.2.2⟩ hL hc hs)
  have e1 : pm_ce E (S.1, pm_sa S.2.1 a.toNat (pm_up (S.2.1 a.toNat) (pm_sg j).toNat x), S.2.2) a.toNat = .inl (E.2.2.2 102, (S.1.2.2.1 a.toNat).2, .inl (upd (fun k => Int32.ofInt (S.2.1 a.toNat k)) (pm_sg j).toNat (Int32.ofInt x))) := by
    rw [pm_ce_i (S := (S.1, pm_sa S.2.1 a.toNat (pm_up (S.2.1 a.toNat) (pm_sg j).toNat x), S.2.2)) h3 (by decide)]
    simp only [pm_sa_s, pm_upd]
  have q3 : va_P D vwCl ((pm_wd E S).set a.toNat (E.1 + a.toNat, .inl (E.2.2.2 102, (S.1.2.2.1 a.toNat).2, .inl (upd (fun k => Int32.ofInt (S.2.1 a.toNat k)) (pm_sg j).toNat (Int32.ofInt x))))) H1 := by
    rw [pm_clamp, (show vp_nar .boolean (Int32.ofInt x) = Int32.ofInt x by rcases hz with z | z <;> subst z <;> rfl)] at q1
    exact q1
  rw [← e1, pm_wd_set (E := E) (S := S) (S' := (S.1, pm_sa S.2.1 a.toNat (pm_up (S.2.1 a.toNat) (pm_sg j).toNat x), S.2.2)) rfl (fun b hb => pm_ce_m hb)] at q3
  exact q3
theorem ps_last {a j x : Int} (hx : p.tables.exec = Jvm.exec) (hb : c.code = cc) (hK : va_K D vwCl (pm_tys E) s) (ha : pm_ar S.1 a 103 j) (hd : decode cc pc = .ok (.lastore, 1)) (kk : pm_Wc p l e R s m args below meth c Q D E KS nL N0 M0 (pc + 1, ls, r, (S.1, pm_sa S.2.1 a.toNat (pm_up (S.2.1 a.toNat) (pm_sg j).toNat x), S.2.2))) : pm_Wc p l e R s m args below meth c Q D E KS nL N0 M0 (pc, ls, .inr (.inl x) :: .inl j :: .inr (.inr (.inl a)) :: r, S) := by
  intro H locs lsr cells slots hH hL hc hs
  obtain ⟨⟨h1, h2, h3⟩, h4, h5⟩ := ha
  simp only [List.map_cons, pm_rvA E h1, pm_rvI, pm_rvL]
  refine va_last hx hb hK hH.1 (pm_wd_D E S) hH.2.1 a.toNat 3 (by rw [pm_wd_at E h2, pm_ce_l h3]) rfl (pm_inI h4 h5) hd (fun H1 locs1 q1 _ q2 => kk H1 locs1 lsr cells slots ⟨?_, q2, hH.2.2⟩ hL hc hs)
  have e1 : pm_ce E (S.1, pm_sa S.2.1 a.toNat (pm_up (S.2.1 a.toNat) (pm_sg j).toNat x), S.2.2) a.toNat = .inl (E.2.2.2 103, (S.1.2.2.1 a.toNat).2, .inr (.inl (vp_updL (fun k => Int64.ofInt (S.2.1 a.toNat k)) (pm_sg j).toNat (Int64.ofInt x)))) := by
    rw [pm_ce_l (S := (S.1, pm_sa S.2.1 a.toNat (pm_up (S.2.1 a.toNat) (pm_sg j).toNat x), S.2.2)) h3]
    simp only [pm_sa_s, pm_updL]
  have q3 : va_P D vwCl ((pm_wd E S).set a.toNat (E.1 + a.toNat, .inl (E.2.2.2 103, (S.1.2.2.1 a.toNat).2, .inr (.inl (vp_updL (fun k => Int64.ofInt (S.2.1 a.toNat k)) (pm_sg j).toNat (Int64.ofInt x)))))) H1 := by
    rw [pm_clamp] at q1
    exact q1
  rw [← e1, pm_wd_set (E := E) (S := S) (S' := (S.1, pm_sa S.2.1 a.toNat (pm_up (S.2.1 a.toNat) (pm_sg j).toNat x), S.2.2)) rfl (fun b hb => pm_ce_m hb)] at q3
  exact q3
theorem ps_aast {a j x : Int} (hx : p.tables.exec = Jvm.exec) (hb : c.code = cc) (hK : va_K D vwCl (pm_tys E) s) (ha : pm_ar S.1 a 104 j) (hz : pm_ob S.1 x 5) (hd : decode cc pc = .ok (.aastore, 1)) (kk : pm_Wc p l e R s m args below meth c Q D E KS nL N0 M0 (pc + 1, ls, r, (S.1, S.2.1, pm_sa S.2.2 a.toNat (pm_up (S.2.2 a.toNat) (pm_sg j).toNat x)))) : pm_Wc p l e R s m args below meth c Q D E KS nL N0 M0 (pc, ls, .inr (.inr (.inl x)) :: .inl j :: .inr (.inr (.inl a)) :: r, S) := by
  intro H locs lsr cells slots hH hL hc hs
  obtain ⟨⟨h1, h2, h3⟩, h4, h5⟩ := ha
  obtain ⟨z1, z2, z3⟩ := hz
  simp only [List.map_cons, pm_rvA E h1, pm_rvI, pm_rvA E z1]
  refine va_astq hx hb hK hH.1 (pm_wd_D E S) hH.2.1 a.toNat 4 x.toNat 5 (r := (RX5, TX5, 6)) (by rw [pm_wd_at E h2, pm_ce_q h3]) rfl (by rw [pm_wd_at E z2, pm_ce_o z3 (by decide)]) rfl (pm_inI h4 h5) hd (fun H1 locs1 q1 _ q2 => kk H1 locs1 lsr cells slots ⟨?_, q2, hH.2.2⟩ hL hc hs)
  have e1 : pm_ce E (S.1, S.2.1, pm_sa S.2.2 a.toNat (pm_up (S.2.2 a.toNat) (pm_sg j).toNat x)) a.toNat = .inl (E.2.2.2 104, (S.1.2.2.1 a.toNat).2, .inr (.inr (.inr (.inr (va_up (fun k => if 0 ≤ S.2.2 a.toNat k then some (E.1 + (S.2.2 a.toNat k).toNat) else none) (pm_sg j).toNat (some (E.1 + x.toNat))))))) := by
    rw [pm_ce_q (S := (S.1, S.2.1, pm_sa S.2.2 a.toNat (pm_up (S.2.2 a.toNat) (pm_sg j).toNat x))) h3]
    simp only [pm_sa_s]
    refine congrArg (fun z => (Sum.inl (E.2.2.2 104, (S.1.2.2.1 a.toNat).2, Sum.inr (Sum.inr (Sum.inr (Sum.inr z)))) : va_E)) ?_
    funext k
    by_cases hk : k = (pm_sg j).toNat
    · subst hk; simp [pm_up, va_up, z1]
    · simp [pm_up, va_up, hk]
  have q3 : va_P D vwCl ((pm_wd E S).set a.toNat (E.1 + a.toNat, .inl (E.2.2.2 104, (S.1.2.2.1 a.toNat).2, .inr (.inr (.inr (.inr (va_up (fun k => if 0 ≤ S.2.2 a.toNat k then some (E.1 + (S.2.2 a.toNat k).toNat) else none) (pm_sg j).toNat (some (E.1 + x.toNat))))))))) H1 := by
    rw [pm_clamp] at q1
    exact q1
  rw [← e1, pm_wd_set (E := E) (S := S) (S' := (S.1, S.2.1, pm_sa S.2.2 a.toNat (pm_up (S.2.2 a.toNat) (pm_sg j).toNat x))) rfl (fun b hb => pm_ce_p hb)] at q3
  exact q3
end SIM
