/-! Steps that touch cells. -/
theorem pm_find {α : Type} {l : List α} {f : α → Bool} {β : Type} {g : α → β} {b : β} (h : (l.find? f).map g = some b) : ∃ a ∈ l, f a = true ∧ g a = b := by
  cases hf : l.find? f with
  | none => rw [hf] at h; cases h
  | some a =>
    rw [hf] at h
    exact ⟨a, List.mem_of_find?_eq_some hf, List.find?_some hf, Option.some.inj h⟩
theorem pm_fr_sp {c0 idx ci k : Nat} (h : pm_fr c0 idx = some (ci, k)) : (Cond.fieldLink (pm_cn c0) idx (pm_T ci k).1 (pm_T ci k).2.1 (pm_T ci k).2.2.1) ∈ pm_tb ∧ ci < 13 := by
  obtain ⟨e, h1, h2, h3⟩ := pm_find h
  simp only [Bool.and_eq_true, beq_iff_eq] at h2
  have h4 := pm_fr_ok e h1
  rw [h2.1, h2.2, h3] at h4
  exact ⟨pm_tb_in h4.1 rfl, h4.2⟩
theorem pm_cls : ∀ ci, ci < 13 → vwCl[ci]? = some (pm_cn ci, (fun k => pm_T ci k), pm_nf ci) := by
  intro ci h
  match ci, h with
  | 0, _ => rfl
  | 1, _ => rfl
  | 2, _ => rfl
  | 3, _ => rfl
  | 4, _ => rfl
  | 5, _ => rfl
  | 6, _ => rfl
  | 7, _ => rfl
  | 8, _ => rfl
  | 9, _ => rfl
  | 10, _ => rfl
  | 11, _ => rfl
  | 12, _ => rfl
theorem pm_tyk : ∀ ci, ci < 13 → ∀ k, k < pm_nf ci → parseFieldDescriptor (pm_T ci k).2.2.1 = some (pm_ft ci k) := by
  intro ci h
  match ci, h with
  | 0, _ => exact tyX0_ok
  | 1, _ => exact tyX1_ok
  | 2, _ => exact tyX2_ok
  | 3, _ => exact tyX3_ok
  | 4, _ => exact tyX4_ok
  | 5, _ => exact tyX5_ok
  | 6, _ => exact tyX6_ok
  | 7, _ => exact tyX7_ok
  | 8, _ => exact tyX8_ok
  | 9, _ => exact tyX9_ok
  | 10, _ => exact tyX10_ok
  | 11, _ => exact tyX11_ok
  | 12, _ => exact tyX12_ok
theorem pm_nmk : ∀ ci, ci < 13 → ∀ a, a < pm_nf ci → ∀ b, b < pm_nf ci → a ≠ b → (pm_T ci a).2.1 ≠ (pm_T ci b).2.1 := by
  intro ci h
  match ci, h with
  | 0, _ => exact nmX0
  | 1, _ => exact nmX1
  | 2, _ => exact nmX2
  | 3, _ => exact nmX3
  | 4, _ => exact nmX4
  | 5, _ => exact nmX5
  | 6, _ => exact nmX6
  | 7, _ => exact nmX7
  | 8, _ => exact nmX8
  | 9, _ => exact nmX9
  | 10, _ => exact nmX10
  | 11, _ => exact nmX11
  | 12, _ => exact nmX12
set_option maxRecDepth 100000 in
theorem pm_tyo : ∀ ci, ci < 13 → ∀ k, k < pm_nf ci → (match pm_ft ci k with
  | .int => true
  | .long => true
  | .boolean => true
  | .object _ => true
  | .array _ => true
  | _ => false) = true ∧ (pm_T ci k).1 = pm_cn ci := by decide +kernel
theorem pm_lays {ci : Nat} (h : ci < 13) : ∀ w ∈ u_ws (pm_cn ci) (fun k => pm_T ci k) (pm_nf ci), w ∈ pm_tb := by
  intro w hw
  obtain ⟨k, hk, e⟩ := List.mem_map.mp hw
  have h1 := pm_fp_ok ci h k (List.mem_range.mp hk)
  rw [← e]
  refine pm_tb_in h1 ?_
  unfold u_lay
  split <;> rfl
theorem pm_tg0 {t : FieldType} (h : pm_tag t = 0) : t = .int := by cases t <;> first | rfl | (simp [pm_tag] at h)
theorem pm_tg1 {t : FieldType} (h : pm_tag t = 1) : t = .long := by cases t <;> first | rfl | (simp [pm_tag] at h)
theorem pm_tg3 {t : FieldType} (h : pm_tag t = 3) : t = .boolean := by cases t <;> first | rfl | (simp [pm_tag] at h)
def pm_tys (E : PE) : List (ClassId × FieldType) := [(E.2.2.2 100, .int), (E.2.2.2 101, .byte), (E.2.2.2 102, .boolean), (E.2.2.2 103, .long), (E.2.2.2 104, .object RX5)]
theorem pm_fl {E : PE} {S : PS} {a ci k : Nat} (hk : k < pm_nf ci) : ((List.range (pm_nf ci)).map (fun k => pm_fv E S a ci k))[k]? = some (pm_fv E S a ci k) := by
  rw [List.getElem?_map, List.getElem?_range hk]
  rfl
/-- a field is put: the cell's fields then -/
theorem pm_fset {E : PE} {S S' : PS} {a ci k : Nat} {v : Value} (hk : k < pm_nf ci) (hv : pm_fv E S' a ci k = v) (hne : ∀ j, j ≠ k → pm_fv E S' a ci j = pm_fv E S a ci j) : ((List.range (pm_nf ci)).map (fun k => pm_fv E S a ci k)).set k v = (List.range (pm_nf ci)).map (fun k => pm_fv E S' a ci k) := by
  refine List.ext_getElem? (fun i => ?_)
  by_cases hi : i < pm_nf ci
  · by_cases e : k = i
    · subst e
      rw [List.getElem?_set_self (by simp; exact hi), pm_fl hi, hv]
    · rw [List.getElem?_set_ne e, pm_fl hi, pm_fl hi, hne i (fun z => e z.symm)]
  · rw [List.getElem?_eq_none (by simp; omega), List.getElem?_eq_none (by simp; omega)]
theorem pm_fvm {E : PE} {G : PG} {M T : PH} {a ci k j : Nat} {x : Int} (h : j ≠ k) : pm_fv E (G, pm_sa M a (pm_up (M a) k x), T) a ci j = pm_fv E (G, M, T) a ci j := by
  simp only [pm_fv, pm_gv, pm_sa, pm_up, if_neg h, if_pos]
theorem pm_fvp {E : PE} {G : PG} {M T : PH} {a ci k j : Nat} {x : Int} (h : j ≠ k) : pm_fv E (G, M, pm_sa T a (pm_up (T a) k x)) a ci j = pm_fv E (G, M, T) a ci j := by
  simp only [pm_fv, pm_gv, pm_sa, pm_up, if_neg h, if_pos]
theorem pm_upd {f : Nat → Int} {k : Nat} {x : Int} : (fun j => Int32.ofInt (pm_up f k x j)) = upd (fun j => Int32.ofInt (f j)) k (Int32.ofInt x) := by
  funext j
  by_cases h : j = k
  · subst h; simp [pm_up, upd]
  · simp [pm_up, upd, h]
theorem pm_updL {f : Nat → Int} {k : Nat} {x : Int} : (fun j => Int64.ofInt (pm_up f k x j)) = vp_updL (fun j => Int64.ofInt (f j)) k (Int64.ofInt x) := by
  funext j
  by_cases h : j = k
  · subst h; simp [pm_up, vp_updL]
  · simp [pm_up, vp_updL, h]
theorem pm_sa_s {M : PH} {a : Nat} {f : Nat → Int} : pm_sa M a f a = f := by simp [pm_sa]
section SIM
variable {p : Program} {l : Launch} {e : Env} {R : Room} {s : State} {m : MethodId} {args : Array Value} {below : List Frame} {meth : Method} {c : Code} {Q : State → Prop}
variable {D : va_G} {E : PE} {KS : Nat × (Nat → Int) → State → Heap → Prop} {nL N0 M0 : Nat} {pc : Nat} {ls st r : List PV} {S : PS} {cc : ByteArray}
/-- how large the heap is -/
theorem pn_size {H : Heap} {locs : List Loc} {cells slots : Nat} {g : JFrame} (h0 : s.heap.size = E.1 + N0) (hH : pm_HR D E KS s S H locs) (hc : cells + N0 = S.1.1) (k : H.size = E.1 + S.1.1 → W p l e R s m args below meth c H locs cells slots Q g) : W p l e R s m args below meth c H locs cells slots Q g := by
  intro T hT X
  have h1 := X.heapSize
  rw [hT] at h1
  refine k ?_ T hT X
  have h2 := hH.2.1.1
  by_cases hz : S.1.1 = 0
  · omega
  · have h3 := (hH.1 (S.1.1 - 1) _ (pm_wd_at E (by omega))).lt
    simp only at h3
    omega
theorem ps_getf {c0 idx ci k : Nat} {a : Int} (hx : p.tables.exec = Jvm.exec) (hb : c.code = cc) (hts : ∀ w ∈ pm_tb, w.before args s = true) (ho : s.vm.findClass (pm_cn c0) = some m.cls) (hK : va_K D vwCl (pm_tys E) s) (hr : pm_fr c0 idx = some (ci, k)) (hk : k < pm_nf ci) (ha : pm_ob S.1 a ci) (hd : decode cc pc = .ok (.getfield idx, 3))
    (kk : pm_Wc p l e R s m args below meth c Q D E KS nL N0 M0 (pc + 3, ls, pm_gv (pm_tag (pm_ft ci k)) a.toNat k S :: r, S)) : pm_Wc p l e R s m args below meth c Q D E KS nL N0 M0 (pc, ls, .inr (.inr (.inl a)) :: r, S) := by
  intro H locs lsr cells slots hH hL hc hs
  obtain ⟨h1, h2, h3⟩ := ha
  obtain ⟨hl, hci⟩ := pm_fr_sp hr
  have he : (pm_wd E S)[a.toNat]? = some (E.1 + a.toNat, .inr (ci, (List.range (pm_nf ci)).map (fun k => pm_fv E S a.toNat ci k))) := by rw [pm_wd_at E h2, pm_ce_o h3 hci]
  simp only [List.map_cons, pm_rvA E h1]
  exact va_get (D := D) (ci := ci) (C := pm_cn ci) (T := fun k => pm_T ci k) (N := pm_nf ci) hx hb hts (pm_lays hci) ho hK hH.1 a.toNat he (pm_cls ci hci) k hk (hts _ hl) (fun _ h => h) (pm_fl hk) hd (kk H locs lsr cells slots hH hL hc hs)
/-- a field is put: any value -/
theorem ps_putG {c0 mi idx ci k : Nat} {a : Int} {v : PV} {S' : PS} (hx : p.tables.exec = Jvm.exec) (hb : c.code = cc) (hts : ∀ w ∈ pm_tb, w.before args s = true) (ho : s.vm.findClass (pm_cn (pm_cl mi)) = some m.cls) (hK : va_K D vwCl (pm_tys E) s) (hm : pm_kd mi = 2 → meth.name = "<init>") (hr : pm_fr (pm_cl mi) idx = some (ci, k)) (hk : k < pm_nf ci) (ha : pm_ob S.1 a ci) (hmay : pm_may mi ci k) (hn : narrow (pm_ft ci k) (pm_rv E v) = pm_rv E v) (hfit : fits (pm_ft ci k) (pm_rv E v) = true)
    (hg : S'.1 = S.1) (hw : pm_fv E S' a.toNat ci k = pm_rv E v) (hne : ∀ j, j ≠ k → pm_fv E S' a.toNat ci j = pm_fv E S a.toNat ci j) (hce : ∀ b, b ≠ a.toNat → pm_ce E S' b = pm_ce E S b) (hd : decode cc pc = .ok (.putfield idx, 3))
    (kk : pm_Wc p l e R s m args below meth c Q D E KS nL N0 M0 (pc + 3, ls, r, S')) : pm_Wc p l e R s m args below meth c Q D E KS nL N0 M0 (pc, ls, v :: .inr (.inr (.inl a)) :: r, S) := by
  intro H locs lsr cells slots hH hL hc hs
  obtain ⟨h1, h2, h3⟩ := ha
  obtain ⟨hl, hci⟩ := pm_fr_sp hr
  have he : (pm_wd E S)[a.toNat]? = some (E.1 + a.toNat, .inr (ci, (List.range (pm_nf ci)).map (fun k => pm_fv E S a.toNat ci k))) := by rw [pm_wd_at E h2, pm_ce_o h3 hci]
  have hws : (pm_wd E S).set a.toNat (E.1 + a.toNat, .inr (ci, ((List.range (pm_nf ci)).map (fun k => pm_fv E S a.toNat ci k)).set k (pm_rv E v))) = pm_wd E S' := by
    rw [pm_fset (S' := S') hk hw hne, ← pm_ce_o (S := S') (by rw [hg]; exact h3) hci]
    exact pm_wd_set (by rw [hg]) hce
  have go : ∀ (H1 : Heap) (locs1 : List Loc), va_P D vwCl ((pm_wd E S).set a.toNat (E.1 + a.toNat, .inr (ci, ((List.range (pm_nf ci)).map (fun k => pm_fv E S a.toNat ci k)).set k (pm_rv E v)))) H1 → va_S (fun q => E.1 ≤ q) s.heap H1 locs1 → W p l e R s m args below meth c H1 locs1 cells slots Q (F0 m (pc + 3) lsr (r.map (pm_rv E))) := by
    intro H1 locs1 q1 q2
    rw [hws] at q1
    exact kk H1 locs1 lsr cells slots ⟨q1, q2, by rw [hg]; exact hH.2.2⟩ hL (by rw [hc]; simp only [hg]) (by rw [hs]; simp only [hg])
  simp only [List.map_cons, pm_rvA E h1]
  by_cases hf : pm_fin ci k = false
  · exact va_put (D := D) (ci := ci) (C := pm_cn ci) (T := fun k => pm_T ci k) (N := pm_nf ci) (ty := pm_ft ci k) hx hb hts (pm_lays hci) (fun k => pm_ft ci k) (pm_tyk ci hci) (pm_nmk ci hci) ho hK hH.1 (pm_wd_D E S) hH.2.1 a.toNat he (pm_cls ci hci) k hk (hts _ hl) (fun _ h => h) hf (pm_tyk ci hci k hk) hn hfit (by simp; exact hk) hd (fun H1 locs1 q1 _ q2 => go H1 locs1 q1 q2)
  · obtain ⟨y1, y2⟩ : pm_kd mi = 2 ∧ pm_cl mi = ci := by
      rcases hmay with z | z
      · exact absurd z hf
      · exact z
    have hft : pm_fin ci k = true := by cases hq : pm_fin ci k <;> simp_all
    exact va_putF (D := D) (ci := ci) (C := pm_cn ci) (T := fun k => pm_T ci k) (N := pm_nf ci) (ty := pm_ft ci k) hx hb hts (pm_lays hci) (fun k => pm_ft ci k) (pm_tyk ci hci) (pm_nmk ci hci) ho hK hH.1 (pm_wd_D E S) hH.2.1 a.toNat he (pm_cls ci hci) k hk (hts _ hl) (fun _ h => h) hft (hm y1) (by rw [y2]; exact (pm_tyo ci hci k hk).2) (pm_tyk ci hci k hk) hn hfit (by simp; exact hk) hd (fun H1 locs1 q1 _ q2 => go H1 locs1 q1 q2)
end SIM
