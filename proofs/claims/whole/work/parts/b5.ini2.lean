/-! At the start both sides are in one state. -/
def n0 (i : Nat) : Nat := if i = 5 then 20 else if i = 6 then 50 else 0
theorem Mi_z {a : Nat} (h : lk LM a = []) (k : Nat) : Mi a k = 0 := by
  rw [Mi_r, h]; rfl
set_option maxRecDepth 20000 in
theorem ini_c : isC Mi 9 n0 (fun _ _ => 0) (fun _ => []) := by
  refine ⟨by decide +kernel, fun m hm => absurd hm (Nat.not_lt_zero m), fun m hm => absurd hm (Nat.not_lt_zero m), fun m hm => absurd hm (Nat.not_lt_zero m), fun w hw => ?_, fun w hw => ?_⟩
  · exact ⟨0, Mi_z (by decide +kernel) w, Mi_z (by decide +kernel) w, Nat.zero_le _, fun j h => absurd h (Nat.not_lt_zero j)⟩
  · refine ⟨0, by decide, Mi_z (by decide +kernel) w, fun u hu => ?_⟩
    rw [Nat.zero_testBit]
    exact Iff.intro (fun z => Bool.noConfusion z) (fun z => absurd z List.not_mem_nil)
set_option maxRecDepth 20000 in
theorem ini_w : wC n0 (fun _ _ => 0) (fun _ => []) := by
  refine ⟨by decide, fun m hm => absurd hm (Nat.not_lt_zero m), fun m hm => absurd hm (Nat.not_lt_zero m), fun m hm => absurd hm (Nat.not_lt_zero m), fun w hw => ⟨_, rfl⟩⟩
set_option maxRecDepth 20000 in
theorem ini_m : wM n0 (fun _ _ => 0) := by
  refine ⟨by decide, fun m hm => absurd hm (Nat.not_lt_zero m), fun m hm => ⟨Int.le_refl 0, by show (0 : Int) ≤ 9; omega⟩, fun m hm => ⟨Int.le_refl 0, by show (0 : Int) ≤ 9999; omega⟩, fun m hm => ⟨Int.le_refl 0, by show (0 : Int) ≤ 20; omega, Int.le_refl 0, by show (0 : Int) ≤ 9999; omega⟩, fun m hm => ⟨rfl, rfl⟩, fun m hm => rfl, fun h m hm z => ⟨rfl, rfl⟩⟩
set_option maxRecDepth 20000 in
theorem ini_mo : mo Mi 3 = fun _ _ => 0 := by
  funext i k
  show (if k < len i then Mi (3 + i) k else 0) = 0
  by_cases h : k < len i
  · rw [if_pos h]
    match i, h with
    | 0, _ => rw [Mi_r, show lk LM (3 + 0) = List.replicate 6 0 from by decide +kernel, pz_rep]; rfl
    | 1, _ => exact Mi_z (by decide +kernel) k
    | 2, _ => exact Mi_z (by decide +kernel) k
    | 3, _ => exact Mi_z (by decide +kernel) k
    | 4, _ => exact Mi_z (by decide +kernel) k
    | 5, _ => exact Mi_z (by decide +kernel) k
    | i + 6, h => exact absurd h (Nat.not_lt_zero k)
  · rw [if_neg h]
set_option maxRecDepth 20000 in
theorem ini_IC : IC Mi vi n0 (fun _ _ => 0) (fun _ => []) (fun _ _ => 0) (fun _ => 0) 0 (fun _ => 0) 1 0 (fun _ _ _ => 0) 0 (fun _ => 0) (fun _ => 0) (0, fun _ => 0) (0, -1) 0 := by
  refine ⟨⟨9, Or.inl rfl, rfl, rfl, rfl, rfl, rfl, ini_c, fun m hm => absurd hm (Nat.not_lt_zero m), fun m hm => absurd hm (Nat.not_lt_zero m)⟩, ini_w, ⟨ini_mo, ini_m⟩, ⟨fun k hk => ⟨(Mi_z (by decide +kernel) k).trans (show (0 : Int) = pm_b8 0 from by decide), Int.le_refl 0, by show (0 : Int) ≤ 255; omega⟩, by decide, by decide +kernel, by decide +kernel, by decide, by decide⟩, fun k hk => ⟨Mi_z (by decide +kernel) k, Int.le_refl 0, Int.le_refl 0⟩, ⟨0, ?_⟩, ⟨⟨by decide +kernel, fun s hs => ?_⟩, ⟨by decide +kernel, Or.inl (by decide +kernel)⟩, Or.inl (by decide +kernel)⟩, ⟨⟨by decide, by decide +kernel, fun k hk => absurd hk (Nat.not_lt_zero k)⟩, Or.inl (by decide +kernel)⟩, ⟨⟨0, by decide, by decide, by decide +kernel, by decide +kernel, fun k hk => absurd hk (Nat.not_lt_zero k)⟩, fun k hk => absurd hk (Nat.not_lt_zero k)⟩, ⟨⟨by decide +kernel, fun k hk => absurd hk (Nat.not_lt_zero k)⟩, by decide⟩, ⟨by decide +kernel, by decide +kernel⟩, fun w hw => ?_⟩
  · refine ⟨by decide +kernel, by decide +kernel, fun z => absurd z (Nat.lt_irrefl 0), fun t ht => absurd ht (Nat.not_lt_zero t), ⟨?_, fun _ => ⟨by decide +kernel, by decide +kernel⟩, fun z => absurd rfl z⟩, by decide⟩
    rw [show bro n0 (fun _ _ => 0) (fun _ => []) (fun _ _ => 0) 0 = -1 from rfl]
    decide +kernel
  · rw [Mi_z (by decide +kernel) s]
    decide +kernel
  · rw [Mi_r, show lk LM 33 = KEYS from by decide +kernel]
    rfl
set_option maxRecDepth 20000 in
theorem ini_IR : IR Mi 0 n0 (fun _ _ => 0) (fun _ => []) (fun _ _ => 0) (fun _ => 0) 0 (fun _ => 0) 1 0 (fun _ _ _ => 0) 0 (fun _ => 0) (fun _ => 0) (0, fun _ => 0) (0, -1) := by
  refine ⟨⟨⟨⟨by decide, by decide +kernel⟩, ⟨by decide +kernel, by decide +kernel, by decide +kernel, by decide +kernel, by decide +kernel, by decide +kernel, by decide +kernel⟩, fun m hm => absurd hm (Nat.not_lt_zero m), fun m hm => absurd hm (Nat.not_lt_zero m), fun m hm => absurd hm (Nat.not_lt_zero m)⟩, ⟨fun _ => by decide +kernel, fun z => absurd rfl z, fun _ => by decide +kernel, fun z => absurd rfl z, fun c hc => absurd hc (Nat.not_lt_zero c)⟩, ini_w⟩, ⟨by decide, by decide +kernel, fun m hm => absurd hm (Nat.not_lt_zero m), fun m hm => absurd hm (Nat.not_lt_zero m), fun h m hm => absurd hm (Nat.not_lt_zero h)⟩, ⟨fun k hk => absurd hk (Nat.not_lt_zero k), by decide, by decide +kernel⟩, fun k hk => Mi_z (by decide +kernel) k, by decide +kernel, ⟨0, by decide, by decide, by decide +kernel, by decide +kernel, fun k hk => absurd hk (Nat.not_lt_zero k)⟩, ⟨by decide +kernel, fun k hk => absurd hk (Nat.not_lt_zero k)⟩, ⟨by decide +kernel, fun k hk => absurd hk (Nat.not_lt_zero k)⟩, ⟨by decide +kernel, by decide +kernel⟩, fun m hm => absurd hm (Nat.not_lt_zero m), fun m hm => absurd hm (Nat.not_lt_zero m)⟩
set_option maxRecDepth 20000 in
theorem ini_CP : CP Mi vi 0 := CP_i ini_IC ini_IR
section INI
variable {d : Nat} {X : Nat × (Nat → Int)} {K : PV → PS → Prop} {G : PG} {M T : PH}
theorem FR_as {kl : List (Nat × Nat)} {Lm Lt : List (Nat × List Int)} (h : FR G M T) (hm : ∀ x ∈ Lm, x.1 < G.1 + kl.length) (ht : ∀ x ∈ Lt, x.1 < G.1 + kl.length) : FR (alL G kl) (asM M Lm) (asT T Lt) := by
  intro q hq
  rw [alL_1] at hq
  rw [asM_n _ _ q (fun x hx => by have := hm x hx; omega), asT_n _ _ q (fun x hx => by have := ht x hx; omega)]
  exact h q (by omega)
set_option maxRecDepth 20000 in
theorem kl_len : kl131.length = 233 := by decide +kernel
set_option maxRecDepth 20000 in
theorem rm_k : (∀ x ∈ lm131, x.1 < 1 + 233) ∧ ∀ x ∈ lt131, x.1 < 1 + 233 := by decide +kernel
set_option maxRecDepth 20000 in
theorem law0 (hX : ∀ j, inR ((GF X).2.2.2.2 j)) (hL : X.1 ≤ 3072) (hK : ∀ M' v', K (vI 1) (GF X, M', PTF v')) : pm_Run (d + 60) 308 0 [.inr (.inr (.inl (-2))), PU, PU, PU] [] (G0 X, (fun _ => pz []), fun _ => rl []) K := by
  have hF : FR (G0 X) (fun _ => pz []) (fun _ => rl []) := fun _ _ => ⟨rfl, rfl⟩
  refine (px_nwO (idx := 7) (ci := 11) (n := 13) (by decide +kernel) hF).mpr ?_
  refine (px_go (by decide +kernel : pm_fe 308 3 = some (.dup, 1)) rfl).mpr ?_
  refine (px_i0 (idx := 9) (m' := 131) (nest := 0) (by decide +kernel)).mpr ⟨⟨Int.natCast_nonneg _, Nat.le_of_ble_eq_true rfl⟩, ?_⟩
  refine t131 (d + 56) _ _ _ _ (FR_al hF) rfl rfl rfl rfl ?_
  have e1 : (alL (alG (G0 X) 11 13) kl131).1 = 234 := by rw [alL_1, kl_len]; rfl
  have hF1 : FR (alL (alG (G0 X) 11 13) kl131) (asM (fun _ => pz []) (lm131)) (asT (fun _ => rl []) (lt131)) := FR_as (FR_al hF) (by rw [kl_len]; exact rm_k.1) (by rw [kl_len]; exact rm_k.2)
  refine (px_go (by decide +kernel : pm_fe 308 7 = some (.astore_n 1, 1)) rfl).mpr ?_
  refine (px_nwO (idx := 10) (ci := 12) (n := 76) (by decide +kernel) hF1).mpr ?_
  rw [e1]
  refine (px_go (by decide +kernel : pm_fe 308 11 = some (.dup, 1)) rfl).mpr ?_
  refine (px_i0 (idx := 12) (m' := 178) (nest := 0) (by decide +kernel)).mpr ⟨⟨Int.natCast_nonneg _, Nat.le_of_ble_eq_true rfl⟩, ?_⟩
  refine t178 (d + 59) _ _ _ _ (FR_al hF1) (by show (alL (alG (G0 X) 11 13) kl131).1 + 1 = 235; rw [e1]) (by have hk : (alG (alL (alG (G0 X) 11 13) kl131) 12 76).2.2.1 (alL (alG (G0 X) 11 13) kl131).1 = (12, 76) := kd_new; rw [e1] at hk; rw [hk]) (hF1 234 (by rw [e1]; exact Nat.le_refl _)).1 (hF1 234 (by rw [e1]; exact Nat.le_refl _)).2 ?_
  show pm_Run (d + 60) 308 15 [.inr (.inr (.inl (-2))), vA 0, PU, PU] [vA 234] (Gi X, Mi, Ti) K
  rw [Gi_e, Ti_e]
  refine b308_15.mpr ?_
  exact lw_loop hX hL hK 513 0 Mi vi 0 ini_CP (by omega) (by omega) (by omega) (by omega)
end INI
