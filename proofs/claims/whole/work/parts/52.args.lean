theorem o_0_40 (a : Int32) : (f_X6_outside a (0 : Int32) (40 : Int32) = 0) ↔ oI a 0 40 := out_0 (by decide) (by decide)
theorem y_0_40 (a : Int32) : (f_X7_in a.toInt64 (0 : Int64) (40 : Int64) = 0) ↔ ¬ oI a 0 40 := in_0 (wide a) (by decide) (by decide)
theorem o_0_5 (a : Int32) : (f_X6_outside a (0 : Int32) (5 : Int32) = 0) ↔ oI a 0 5 := out_0 (by decide) (by decide)
theorem y_0_5 (a : Int32) : (f_X7_in a.toInt64 (0 : Int64) (5 : Int64) = 0) ↔ ¬ oI a 0 5 := in_0 (wide a) (by decide) (by decide)
theorem o_1_9 (a : Int32) : (f_X6_outside a (1 : Int32) (9 : Int32) = 0) ↔ oI a 1 9 := out_0 (by decide) (by decide)
theorem y_1_9 (a : Int32) : (f_X7_in a.toInt64 (1 : Int64) (9 : Int64) = 0) ↔ ¬ oI a 1 9 := in_0 (wide a) (by decide) (by decide)
theorem o_1_20 (a : Int32) : (f_X6_outside a (1 : Int32) (20 : Int32) = 0) ↔ oI a 1 20 := out_0 (by decide) (by decide)
theorem y_1_20 (a : Int32) : (f_X7_in a.toInt64 (1 : Int64) (20 : Int64) = 0) ↔ ¬ oI a 1 20 := in_0 (wide a) (by decide) (by decide)
theorem o_0_8 (a : Int32) : (f_X6_outside a (0 : Int32) (8 : Int32) = 0) ↔ oI a 0 8 := out_0 (by decide) (by decide)
theorem y_0_8 (a : Int32) : (f_X7_in a.toInt64 (0 : Int64) (8 : Int64) = 0) ↔ ¬ oI a 0 8 := in_0 (wide a) (by decide) (by decide)
theorem o_0_127 (a : Int32) : (f_X6_outside a (0 : Int32) (127 : Int32) = 0) ↔ oI a 0 127 := out_0 (by decide) (by decide)
theorem y_0_127 (a : Int32) : (f_X7_in a.toInt64 (0 : Int64) (127 : Int64) = 0) ↔ ¬ oI a 0 127 := in_0 (wide a) (by decide) (by decide)
theorem o_0_4 (a : Int32) : (f_X6_outside a (0 : Int32) (4 : Int32) = 0) ↔ oI a 0 4 := out_0 (by decide) (by decide)
theorem y_0_4 (a : Int32) : (f_X7_in a.toInt64 (0 : Int64) (4 : Int64) = 0) ↔ ¬ oI a 0 4 := in_0 (wide a) (by decide) (by decide)
theorem o_0_7 (a : Int32) : (f_X6_outside a (0 : Int32) (7 : Int32) = 0) ↔ oI a 0 7 := out_0 (by decide) (by decide)
theorem y_0_7 (a : Int32) : (f_X7_in a.toInt64 (0 : Int64) (7 : Int64) = 0) ↔ ¬ oI a 0 7 := in_0 (wide a) (by decide) (by decide)
theorem o_0_6 (a : Int32) : (f_X6_outside a (0 : Int32) (6 : Int32) = 0) ↔ oI a 0 6 := out_0 (by decide) (by decide)
theorem y_0_6 (a : Int32) : (f_X7_in a.toInt64 (0 : Int64) (6 : Int64) = 0) ↔ ¬ oI a 0 6 := in_0 (wide a) (by decide) (by decide)
theorem o_0_1 (a : Int32) : (f_X6_outside a (0 : Int32) (1 : Int32) = 0) ↔ oI a 0 1 := out_0 (by decide) (by decide)
theorem y_0_1 (a : Int32) : (f_X7_in a.toInt64 (0 : Int64) (1 : Int64) = 0) ↔ ¬ oI a 0 1 := in_0 (wide a) (by decide) (by decide)
theorem o_0_2 (a : Int32) : (f_X6_outside a (0 : Int32) (2 : Int32) = 0) ↔ oI a 0 2 := out_0 (by decide) (by decide)
theorem y_0_2 (a : Int32) : (f_X7_in a.toInt64 (0 : Int64) (2 : Int64) = 0) ↔ ¬ oI a 0 2 := in_0 (wide a) (by decide) (by decide)
theorem o_0_60 (a : Int32) : (f_X6_outside a (0 : Int32) (60 : Int32) = 0) ↔ oI a 0 60 := out_0 (by decide) (by decide)
theorem y_0_60 (a : Int32) : (f_X7_in a.toInt64 (0 : Int64) (60 : Int64) = 0) ↔ ¬ oI a 0 60 := in_0 (wide a) (by decide) (by decide)
theorem o_0_99 (a : Int32) : (f_X6_outside a (0 : Int32) (99 : Int32) = 0) ↔ oI a 0 99 := out_0 (by decide) (by decide)
theorem y_0_99 (a : Int32) : (f_X7_in a.toInt64 (0 : Int64) (99 : Int64) = 0) ↔ ¬ oI a 0 99 := in_0 (wide a) (by decide) (by decide)
theorem o_m40_60 (a : Int32) : (f_X6_outside a ((-40) : Int32) (60 : Int32) = 0) ↔ oI a (-40) 60 := out_0 (by decide) (by decide)
theorem y_m40_60 (a : Int32) : (f_X7_in a.toInt64 ((-40) : Int64) (60 : Int64) = 0) ↔ ¬ oI a (-40) 60 := in_0 (wide a) (by decide) (by decide)
theorem o_0_10 (a : Int32) : (f_X6_outside a (0 : Int32) (10 : Int32) = 0) ↔ oI a 0 10 := out_0 (by decide) (by decide)
theorem y_0_10 (a : Int32) : (f_X7_in a.toInt64 (0 : Int64) (10 : Int64) = 0) ↔ ¬ oI a 0 10 := in_0 (wide a) (by decide) (by decide)
theorem o_0_999999 (a : Int32) : (f_X6_outside a (0 : Int32) (999999 : Int32) = 0) ↔ oI a 0 999999 := out_0 (by decide) (by decide)
theorem y_0_999999 (a : Int32) : (f_X7_in a.toInt64 (0 : Int64) (999999 : Int64) = 0) ↔ ¬ oI a 0 999999 := in_0 (wide a) (by decide) (by decide)
theorem o_hi (a : Int32) : (f_X6_notHigh a = 0) ↔ oI a (-40) 60 := by
  unfold f_X6_notHigh
  exact o_m40_60 a
theorem o_lb {M : Mem} {n : Nat} (a : Int32) (hn : n ≤ 7) (h : M.1 1 4 = nI n) : (f_X6_noLimb a M = 0) ↔ oI a 0 ((n : Int) - 1) := by
  unfold f_X6_noLimb
  refine out_0 (by decide) ?_
  rw [h]
  exact nI_sub1 (by omega)
theorem y_lb {N : Mem} {n : Nat} (a : Int32) (hn : n ≤ 7) (h : N.1 177 0 = nI n) : ∃ x, f_X7_isLimb a N = some x ∧ ((x = 0) ↔ ¬ oI a 0 ((n : Int) - 1)) := by
  unfold f_X7_isLimb
  rw [lit_n, rd_n (by rw [ln_177]; decide) (by decide), ob_e]
  refine ⟨_, rfl, ?_⟩
  refine in_0 (wide a) (by decide) ?_
  rw [wide, h]
  exact nI_sub1 (by omega)
