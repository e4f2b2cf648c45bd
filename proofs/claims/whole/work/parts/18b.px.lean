section PXB
variable {d m pc : Nat} {ls st : List PV} {S : PS} {K : PV → PS → Prop}
theorem px_if_eq {off x : Int} {tgt : Nat} (h : pm_fe m pc = some (.ifCond .eq off, 3) ∧ (pc : Int) + off = (tgt : Int)) : pm_Run d m pc ls (.inl x :: st) S K ↔ if pm_sg x = 0 then pm_Run d m tgt ls st S K else pm_Run d m (pc + 3) ls st S K := by
  refine (px_ifo h).trans ?_
  by_cases hc : pm_sg x = 0
  · rw [if_pos hc, if_pos (by rw [pc_eq]; exact hc)]
  · rw [if_neg hc, if_neg (by rw [pc_eq]; exact hc)]
theorem px_ic_eq {off x y : Int} {tgt : Nat} (h : pm_fe m pc = some (.if_icmp .eq off, 3) ∧ (pc : Int) + off = (tgt : Int)) : pm_Run d m pc ls (.inl y :: .inl x :: st) S K ↔ if pm_sg x = pm_sg y then pm_Run d m tgt ls st S K else pm_Run d m (pc + 3) ls st S K := by
  refine (px_ico h).trans ?_
  by_cases hc : pm_sg x = pm_sg y
  · rw [if_pos hc, if_pos (by rw [pc_eq]; exact hc)]
  · rw [if_neg hc, if_neg (by rw [pc_eq]; exact hc)]
theorem px_if_ne {off x : Int} {tgt : Nat} (h : pm_fe m pc = some (.ifCond .ne off, 3) ∧ (pc : Int) + off = (tgt : Int)) : pm_Run d m pc ls (.inl x :: st) S K ↔ if pm_sg x ≠ 0 then pm_Run d m tgt ls st S K else pm_Run d m (pc + 3) ls st S K := by
  refine (px_ifo h).trans ?_
  by_cases hc : pm_sg x ≠ 0
  · rw [if_pos hc, if_pos (by rw [pc_ne]; exact hc)]
  · rw [if_neg hc, if_neg (by rw [pc_ne]; exact hc)]
theorem px_ic_ne {off x y : Int} {tgt : Nat} (h : pm_fe m pc = some (.if_icmp .ne off, 3) ∧ (pc : Int) + off = (tgt : Int)) : pm_Run d m pc ls (.inl y :: .inl x :: st) S K ↔ if pm_sg x ≠ pm_sg y then pm_Run d m tgt ls st S K else pm_Run d m (pc + 3) ls st S K := by
  refine (px_ico h).trans ?_
  by_cases hc : pm_sg x ≠ pm_sg y
  · rw [if_pos hc, if_pos (by rw [pc_ne]; exact hc)]
  · rw [if_neg hc, if_neg (by rw [pc_ne]; exact hc)]
theorem px_if_lt {off x : Int} {tgt : Nat} (h : pm_fe m pc = some (.ifCond .lt off, 3) ∧ (pc : Int) + off = (tgt : Int)) : pm_Run d m pc ls (.inl x :: st) S K ↔ if pm_sg x < 0 then pm_Run d m tgt ls st S K else pm_Run d m (pc + 3) ls st S K := by
  refine (px_ifo h).trans ?_
  by_cases hc : pm_sg x < 0
  · rw [if_pos hc, if_pos (by rw [pc_lt]; exact hc)]
  · rw [if_neg hc, if_neg (by rw [pc_lt]; exact hc)]
theorem px_ic_lt {off x y : Int} {tgt : Nat} (h : pm_fe m pc = some (.if_icmp .lt off, 3) ∧ (pc : Int) + off = (tgt : Int)) : pm_Run d m pc ls (.inl y :: .inl x :: st) S K ↔ if pm_sg x < pm_sg y then pm_Run d m tgt ls st S K else pm_Run d m (pc + 3) ls st S K := by
  refine (px_ico h).trans ?_
  by_cases hc : pm_sg x < pm_sg y
  · rw [if_pos hc, if_pos (by rw [pc_lt]; exact hc)]
  · rw [if_neg hc, if_neg (by rw [pc_lt]; exact hc)]
theorem px_if_ge {off x : Int} {tgt : Nat} (h : pm_fe m pc = some (.ifCond .ge off, 3) ∧ (pc : Int) + off = (tgt : Int)) : pm_Run d m pc ls (.inl x :: st) S K ↔ if 0 ≤ pm_sg x then pm_Run d m tgt ls st S K else pm_Run d m (pc + 3) ls st S K := by
  refine (px_ifo h).trans ?_
  by_cases hc : 0 ≤ pm_sg x
  · rw [if_pos hc, if_pos (by rw [pc_ge]; exact hc)]
  · rw [if_neg hc, if_neg (by rw [pc_ge]; exact hc)]
theorem px_ic_ge {off x y : Int} {tgt : Nat} (h : pm_fe m pc = some (.if_icmp .ge off, 3) ∧ (pc : Int) + off = (tgt : Int)) : pm_Run d m pc ls (.inl y :: .inl x :: st) S K ↔ if pm_sg y ≤ pm_sg x then pm_Run d m tgt ls st S K else pm_Run d m (pc + 3) ls st S K := by
  refine (px_ico h).trans ?_
  by_cases hc : pm_sg y ≤ pm_sg x
  · rw [if_pos hc, if_pos (by rw [pc_ge]; exact hc)]
  · rw [if_neg hc, if_neg (by rw [pc_ge]; exact hc)]
theorem px_if_gt {off x : Int} {tgt : Nat} (h : pm_fe m pc = some (.ifCond .gt off, 3) ∧ (pc : Int) + off = (tgt : Int)) : pm_Run d m pc ls (.inl x :: st) S K ↔ if 0 < pm_sg x then pm_Run d m tgt ls st S K else pm_Run d m (pc + 3) ls st S K := by
  refine (px_ifo h).trans ?_
  by_cases hc : 0 < pm_sg x
  · rw [if_pos hc, if_pos (by rw [pc_gt]; exact hc)]
  · rw [if_neg hc, if_neg (by rw [pc_gt]; exact hc)]
theorem px_ic_gt {off x y : Int} {tgt : Nat} (h : pm_fe m pc = some (.if_icmp .gt off, 3) ∧ (pc : Int) + off = (tgt : Int)) : pm_Run d m pc ls (.inl y :: .inl x :: st) S K ↔ if pm_sg y < pm_sg x then pm_Run d m tgt ls st S K else pm_Run d m (pc + 3) ls st S K := by
  refine (px_ico h).trans ?_
  by_cases hc : pm_sg y < pm_sg x
  · rw [if_pos hc, if_pos (by rw [pc_gt]; exact hc)]
  · rw [if_neg hc, if_neg (by rw [pc_gt]; exact hc)]
theorem px_if_le {off x : Int} {tgt : Nat} (h : pm_fe m pc = some (.ifCond .le off, 3) ∧ (pc : Int) + off = (tgt : Int)) : pm_Run d m pc ls (.inl x :: st) S K ↔ if pm_sg x ≤ 0 then pm_Run d m tgt ls st S K else pm_Run d m (pc + 3) ls st S K := by
  refine (px_ifo h).trans ?_
  by_cases hc : pm_sg x ≤ 0
  · rw [if_pos hc, if_pos (by rw [pc_le]; exact hc)]
  · rw [if_neg hc, if_neg (by rw [pc_le]; exact hc)]
theorem px_ic_le {off x y : Int} {tgt : Nat} (h : pm_fe m pc = some (.if_icmp .le off, 3) ∧ (pc : Int) + off = (tgt : Int)) : pm_Run d m pc ls (.inl y :: .inl x :: st) S K ↔ if pm_sg x ≤ pm_sg y then pm_Run d m tgt ls st S K else pm_Run d m (pc + 3) ls st S K := by
  refine (px_ico h).trans ?_
  by_cases hc : pm_sg x ≤ pm_sg y
  · rw [if_pos hc, if_pos (by rw [pc_le]; exact hc)]
  · rw [if_neg hc, if_neg (by rw [pc_le]; exact hc)]
end PXB
