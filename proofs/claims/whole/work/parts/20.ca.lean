def f_X6_cell (o0 : Nat) (a1 : Int32) (M : Mem) : Option (Int32) :=
  if a1 < (0 : Int32) then (
    some (0 : Int32))
  else (
    if (nI (ln o0)) ≤ a1 then (
      some (0 : Int32))
    else (
      ob (rd M o0 a1) (fun x1 =>
      some x1)))
set_option maxHeartbeats 4000000 in
set_option maxRecDepth 100000 in
theorem c_X6_cell (l : Launch) (G : GT) {o0 : Nat} (h0 : kd o0 = 8) (a1 : Int32) (M : Mem) {r : Int32} (hk : f_X6_cell o0 a1 M = some r) : CMi l G true yX6_cell cX6_cell 2 (some .int) 0 [.ref (ad G o0), .int a1] M r M := by
  unfold f_X6_cell at hk
  refine CMi.of (by decide) (Nat.le_of_ble_eq_true rfl) ?_
  intro p e s m args below meth c Q hx hb hml hown hg hK hW hret ls hl
  have hl : lv_has ls 2 [(0, .ref (ad G o0)), (1, .int a1)] := hl
  refine lv_iload_n hx hb dX6_cell_0 rfl (lv_at hl 1 rfl) ?_
  refine lv_if_lt (tgt := 16) hx hb dX6_cell_1 (by decide) (fun c3 => ?_) (fun c3 => ?_)
  · replace hk := ite_t hk c3
    refine lv_iconst (v := (0 : Int32)) hx hb dX6_cell_16 (by decide) ?_
    obtain rfl := Option.some.inj hk
    exact hret _ _ _ _ hW dX6_cell_17
  · replace hk := ite_f hk c3
    refine lv_iload_n hx hb dX6_cell_4 rfl (lv_at hl 1 rfl) ?_
    refine lv_aload_n hx hb dX6_cell_5 rfl (lv_at hl 0 rfl) ?_
    refine w_len hx hb hK hW (inC h0 rfl) (shp8 h0) dX6_cell_6 ?_
    refine lv_icmp_ge (tgt := 16) hx hb dX6_cell_7 (by decide) (fun c2 => ?_) (fun c2 => ?_)
    · replace hk := ite_t hk c2
      refine lv_iconst (v := (0 : Int32)) hx hb dX6_cell_16 (by decide) ?_
      obtain rfl := Option.some.inj hk
      exact hret _ _ _ _ hW dX6_cell_17
    · replace hk := ite_f hk c2
      refine lv_aload_n hx hb dX6_cell_10 rfl (lv_at hl 0 rfl) ?_
      refine lv_iload_n hx hb dX6_cell_11 rfl (lv_at hl 1 rfl) ?_
      replace hk := ob_s hk
      obtain ⟨x1, hx1, hk⟩ := hk
      obtain ⟨hx1, ex1⟩ := rd_s hx1
      refine w_ald hx hb hK hW (inC h0 rfl) (shp8 h0) hx1 ex1 dX6_cell_12 ?_
      refine lv_goto (tgt := 17) hx hb dX6_cell_13 (by decide) ?_
      obtain rfl := Option.some.inj hk
      exact hret _ _ _ _ hW dX6_cell_17
def f_X6_holeAt (a0 : Int32) (a1 : Int32) (a2 : Int32) : Int32 :=
  (a0 + (a1 * (a2 - (4 : Int32))))
set_option maxHeartbeats 4000000 in
set_option maxRecDepth 100000 in
theorem c_X6_holeAt (l : Launch) (G : GT) (a0 : Int32) (a1 : Int32) (a2 : Int32) (M : Mem) : CMi l G true yX6_holeAt cX6_holeAt 3 (some .int) 0 [.int a0, .int a1, .int a2] M (f_X6_holeAt a0 a1 a2) M := by
  obtain ⟨r, hk⟩ : ∃ r, f_X6_holeAt a0 a1 a2 = r := ⟨_, rfl⟩
  rw [hk]
  unfold f_X6_holeAt at hk
  refine CMi.of (by decide) (Nat.le_of_ble_eq_true rfl) ?_
  intro p e s m args below meth c Q hx hb hml hown hg hK hW hret ls hl
  have hl : lv_has ls 3 [(0, .int a0), (1, .int a1), (2, .int a2)] := hl
  refine lv_iload_n hx hb dX6_holeAt_0 rfl (lv_at hl 0 rfl) ?_
  refine lv_iload_n hx hb dX6_holeAt_1 rfl (lv_at hl 1 rfl) ?_
  refine lv_iload_n hx hb dX6_holeAt_2 rfl (lv_at hl 2 rfl) ?_
  refine lv_iconst (v := (4 : Int32)) hx hb dX6_holeAt_3 (by decide) ?_
  refine lv_isub hx hb dX6_holeAt_4 ?_
  refine lv_imul hx hb dX6_holeAt_5 ?_
  refine lv_iadd hx hb dX6_holeAt_6 ?_
  subst hk
  exact hret _ _ _ _ hW dX6_holeAt_7
def f_X6_isSnapped (a0 : Int32) : Int32 :=
  if a0 < (99 : Int32) then (
    (0 : Int32))
  else (
    (1 : Int32))
theorem b_X6_isSnapped (a0 : Int32) : f_X6_isSnapped a0 = 0 ∨ f_X6_isSnapped a0 = 1 := by
  obtain ⟨r, hk⟩ : ∃ r, f_X6_isSnapped a0 = r := ⟨_, rfl⟩
  rw [hk]; unfold f_X6_isSnapped at hk
  first | (repeat' (split at hk)) | skip
  all_goals (rw [← hk]; first | exact Or.inl rfl | exact Or.inr rfl)
set_option maxHeartbeats 4000000 in
set_option maxRecDepth 100000 in
theorem c_X6_isSnapped (l : Launch) (G : GT) (a0 : Int32) (M : Mem) : CMi l G true yX6_isSnapped cX6_isSnapped 1 (some .boolean) 0 [.int a0] M (f_X6_isSnapped a0) M := by
  obtain ⟨r, hk⟩ : ∃ r, f_X6_isSnapped a0 = r := ⟨_, rfl⟩
  rw [hk]
  unfold f_X6_isSnapped at hk
  refine CMi.ofZ (by decide) (Nat.le_of_ble_eq_true rfl) ?_
  intro p e s m args below meth c Q hx hb hml hown hg hK hW hret ls hl
  have hl : lv_has ls 1 [(0, .int a0)] := hl
  refine lv_iload_n hx hb dX6_isSnapped_0 rfl (lv_at hl 0 rfl) ?_
  refine lv_bipush (v := (99 : Int32)) hx hb dX6_isSnapped_1 (by decide) ?_
  refine lv_icmp_lt (tgt := 10) hx hb dX6_isSnapped_3 (by decide) (fun c1 => ?_) (fun c1 => ?_)
  · replace hk := ite_t hk c1
    refine lv_iconst (v := (0 : Int32)) hx hb dX6_isSnapped_10 (by decide) ?_
    subst hk
    exact hret _ _ _ _ (Or.inl rfl) hW dX6_isSnapped_11
  · replace hk := ite_f hk c1
    refine lv_iconst (v := (1 : Int32)) hx hb dX6_isSnapped_6 (by decide) ?_
    refine lv_goto (tgt := 11) hx hb dX6_isSnapped_7 (by decide) ?_
    subst hk
    exact hret _ _ _ _ (Or.inr rfl) hW dX6_isSnapped_11
def f_X6_dropOf (a0 : Int32) (a1 : Int32) (a2 : Int32) (a3 : Int32) : Int32 :=
  lq (a1 + (a2 / (3 : Int32))) (fun x1 =>
  lq (a1 + a2) (fun x2 =>
  if a0 = (1 : Int32) then (
    x1)
  else (
  if a0 = (2 : Int32) then (
    x2)
  else (
  if a0 = (3 : Int32) then (
    if (a1 - a1 / (2 : Int32) * (2 : Int32)) = (0 : Int32) then (
      (a1 - (1 : Int32)))
    else (
      a1))
  else (
  if a0 = (4 : Int32) then (
    (x1 + (a3 / (10 : Int32))))
  else (
  if a0 = (5 : Int32) then (
    (if ((2 : Int32) * a1) < x2 then ((2 : Int32) * a1) else x2))
  else (
    a1)))))))
set_option maxHeartbeats 4000000 in
set_option maxRecDepth 100000 in
theorem c_X6_dropOf (l : Launch) (G : GT) (a0 : Int32) (a1 : Int32) (a2 : Int32) (a3 : Int32) (M : Mem) : CMi l G true yX6_dropOf cX6_dropOf 6 (some .int) 1 [.int a0, .int a1, .int a2, .int a3] M (f_X6_dropOf a0 a1 a2 a3) M := by
  obtain ⟨r, hk⟩ : ∃ r, f_X6_dropOf a0 a1 a2 a3 = r := ⟨_, rfl⟩
  rw [hk]
  unfold f_X6_dropOf at hk
  refine CMi.of (by decide) (Nat.le_of_ble_eq_true rfl) ?_
  intro p e s m args below meth c Q hx hb hml hown hg hK hW hret ls hl
  have hl : lv_has ls 6 [(0, .int a0), (1, .int a1), (2, .int a2), (3, .int a3)] := hl
  refine lv_iload_n hx hb dX6_dropOf_0 rfl (lv_at hl 1 rfl) ?_
  refine lv_iload_n hx hb dX6_dropOf_1 rfl (lv_at hl 2 rfl) ?_
  refine lv_iconst (v := (3 : Int32)) hx hb dX6_dropOf_2 (by decide) ?_
  refine lv_idiv hx hb dX6_dropOf_3 (by decide) ?_
  refine lv_iadd hx hb dX6_dropOf_4 ?_
  replace hk := lq_s hk
  obtain ⟨x1, ex1, hk⟩ := hk
  refine nm_i ex1 ?_
  refine lv_istore (lv' := [(4, .int x1), (0, .int a0), (1, .int a1), (2, .int a2), (3, .int a3)]) hx hb dX6_dropOf_5 hl (by decide) rfl (fun ls hl => ?_)
  refine lv_iload_n hx hb dX6_dropOf_7 rfl (lv_at hl 2 rfl) ?_
  refine lv_iload_n hx hb dX6_dropOf_8 rfl (lv_at hl 3 rfl) ?_
  refine lv_iadd hx hb dX6_dropOf_9 ?_
  replace hk := lq_s hk
  obtain ⟨x2, ex2, hk⟩ := hk
  refine nm_i ex2 ?_
  refine lv_istore (lv' := [(5, .int x2), (4, .int x1), (0, .int a0), (1, .int a1), (2, .int a2), (3, .int a3)]) hx hb dX6_dropOf_10 hl (by decide) rfl (fun ls hl => ?_)
  refine lv_iload_n hx hb dX6_dropOf_12 rfl (lv_at hl 2 rfl) ?_
  by_cases c4 : a0 = (1 : Int32)
  · replace hk := ite_t hk c4
    refine lv_tableIn (tgt := 48) hx hb dX6_dropOf_13 (by rw [c4]; decide) (by rw [c4]; decide) (by rw [c4]; rfl) (by decide) ?_
    refine lv_iload hx hb dX6_dropOf_48 (lv_at hl 1 rfl) ?_
    subst hk
    exact hret _ _ _ _ hW dX6_dropOf_50
  replace hk := ite_f hk c4
  have c4_0 := c4
  by_cases c4 : a0 = (2 : Int32)
  · replace hk := ite_t hk c4
    refine lv_tableIn (tgt := 51) hx hb dX6_dropOf_13 (by rw [c4]; decide) (by rw [c4]; decide) (by rw [c4]; rfl) (by decide) ?_
    refine lv_iload hx hb dX6_dropOf_51 (lv_at hl 0 rfl) ?_
    subst hk
    exact hret _ _ _ _ hW dX6_dropOf_53
  replace hk := ite_f hk c4
  have c4_1 := c4
  by_cases c4 : a0 = (3 : Int32)
  · replace hk := ite_t hk c4
    refine lv_tableIn (tgt := 54) hx hb dX6_dropOf_13 (by rw [c4]; decide) (by rw [c4]; decide) (by rw [c4]; rfl) (by decide) ?_
    refine lv_iload_n hx hb dX6_dropOf_54 rfl (lv_at hl 3 rfl) ?_
    refine lv_iconst (v := (2 : Int32)) hx hb dX6_dropOf_55 (by decide) ?_
    refine lv_irem hx hb dX6_dropOf_56 (by decide) ?_
    refine lv_if_ne (tgt := 66) hx hb dX6_dropOf_57 (by decide) (fun c3 => ?_) (fun c3 => ?_)
    · replace hk := ite_f hk c3
      refine lv_iload_n hx hb dX6_dropOf_66 rfl (lv_at hl 3 rfl) ?_
      subst hk
      exact hret _ _ _ _ hW dX6_dropOf_67
    · replace hk := ite_t hk c3
      refine lv_iload_n hx hb dX6_dropOf_60 rfl (lv_at hl 3 rfl) ?_
      refine lv_iconst (v := (1 : Int32)) hx hb dX6_dropOf_61 (by decide) ?_
      refine lv_isub hx hb dX6_dropOf_62 ?_
      refine lv_goto (tgt := 67) hx hb dX6_dropOf_63 (by decide) ?_
      subst hk
      exact hret _ _ _ _ hW dX6_dropOf_67
  replace hk := ite_f hk c4
  have c4_2 := c4
  by_cases c4 : a0 = (4 : Int32)
  · replace hk := ite_t hk c4
    refine lv_tableIn (tgt := 68) hx hb dX6_dropOf_13 (by rw [c4]; decide) (by rw [c4]; decide) (by rw [c4]; rfl) (by decide) ?_
    refine lv_iload hx hb dX6_dropOf_68 (lv_at hl 1 rfl) ?_
    refine lv_iload_n hx hb dX6_dropOf_70 rfl (lv_at hl 5 rfl) ?_
    refine lv_bipush (v := (10 : Int32)) hx hb dX6_dropOf_71 (by decide) ?_
    refine lv_idiv hx hb dX6_dropOf_73 (by decide) ?_
    refine lv_iadd hx hb dX6_dropOf_74 ?_
    subst hk
    exact hret _ _ _ _ hW dX6_dropOf_75
  replace hk := ite_f hk c4
  have c4_3 := c4
  by_cases c4 : a0 = (5 : Int32)
  · replace hk := ite_t hk c4
    refine lv_tableIn (tgt := 76) hx hb dX6_dropOf_13 (by rw [c4]; decide) (by rw [c4]; decide) (by rw [c4]; rfl) (by decide) ?_
    refine lv_iload hx hb dX6_dropOf_76 (lv_at hl 0 rfl) ?_
    refine lv_iconst (v := (2 : Int32)) hx hb dX6_dropOf_78 (by decide) ?_
    refine lv_iload_n hx hb dX6_dropOf_79 rfl (lv_at hl 3 rfl) ?_
    refine lv_imul hx hb dX6_dropOf_80 ?_
    refine mn_i g_437 g_438 g_5 g_439 hx hb hml hown hg hl.1 (by decide) (Nat.le_of_ble_eq_true rfl) dX6_dropOf_81 ?_
    subst hk
    exact hret _ _ _ _ hW dX6_dropOf_84
  replace hk := ite_f hk c4
  have c4_4 := c4
  refine lv_tableOut (tgt := 85) hx hb dX6_dropOf_13 (by have q0 := lv_neT c4_0 (a := 1) (by decide); have q1 := lv_neT c4_1 (a := 2) (by decide); have q2 := lv_neT c4_2 (a := 3) (by decide); have q3 := lv_neT c4_3 (a := 4) (by decide); have q4 := lv_neT c4_4 (a := 5) (by decide); omega) (by decide) ?_
  refine lv_iload_n hx hb dX6_dropOf_85 rfl (lv_at hl 3 rfl) ?_
  subst hk
  exact hret _ _ _ _ hW dX6_dropOf_86
def f_X6_highOf (a0 : Int32) (a1 : Int32) (a2 : Int32) : Int32 :=
  lq (if a1 < (2 : Int32) then (2 : Int32) else a1) (fun x1 =>
  lq (if (0 : Int32) < (if (9 : Int32) < a1 then (9 : Int32) else a1) then (if (9 : Int32) < a1 then (9 : Int32) else a1) else (0 : Int32)) (fun x2 =>
  if a0 = (1 : Int32) then (
    x1)
  else (
  if a0 = (2 : Int32) then (
    x2)
  else (
  if a0 = (3 : Int32) then (
    (x2 / (2 : Int32)))
  else (
  if a0 = (4 : Int32) then (
    if (a2 - a2 / (2 : Int32) * (2 : Int32)) = (0 : Int32) then (
      a1)
    else (
      (a1 - (1 : Int32))))
  else (
  if a0 = (5 : Int32) then (
    (x1 + (3 : Int32)))
  else (
    a1)))))))
set_option maxHeartbeats 4000000 in
set_option maxRecDepth 100000 in
theorem c_X6_highOf (l : Launch) (G : GT) (a0 : Int32) (a1 : Int32) (a2 : Int32) (M : Mem) : CMi l G true yX6_highOf cX6_highOf 5 (some .int) 1 [.int a0, .int a1, .int a2] M (f_X6_highOf a0 a1 a2) M := by
  obtain ⟨r, hk⟩ : ∃ r, f_X6_highOf a0 a1 a2 = r := ⟨_, rfl⟩
  rw [hk]
  unfold f_X6_highOf at hk
  refine CMi.of (by decide) (Nat.le_of_ble_eq_true rfl) ?_
  intro p e s m args below meth c Q hx hb hml hown hg hK hW hret ls hl
  have hl : lv_has ls 5 [(0, .int a0), (1, .int a1), (2, .int a2)] := hl
  refine lv_iload_n hx hb dX6_highOf_0 rfl (lv_at hl 1 rfl) ?_
  refine lv_iconst (v := (2 : Int32)) hx hb dX6_highOf_1 (by decide) ?_
  refine mx_i g_440 g_75 g_5 g_76 hx hb hml hown hg hl.1 (by decide) (Nat.le_of_ble_eq_true rfl) dX6_highOf_2 ?_
  replace hk := lq_s hk
  obtain ⟨x1, ex1, hk⟩ := hk
  refine nm_i ex1 ?_
  refine lv_istore_n (lv' := [(3, .int x1), (0, .int a0), (1, .int a1), (2, .int a2)]) hx hb dX6_highOf_5 rfl hl (by decide) rfl (fun ls hl => ?_)
  refine lv_iconst (v := (0 : Int32)) hx hb dX6_highOf_6 (by decide) ?_
  refine lv_iload_n hx hb dX6_highOf_7 rfl (lv_at hl 2 rfl) ?_
  refine lv_bipush (v := (9 : Int32)) hx hb dX6_highOf_8 (by decide) ?_
  refine mn_i g_437 g_438 g_5 g_439 hx hb hml hown hg hl.1 (by decide) (Nat.le_of_ble_eq_true rfl) dX6_highOf_10 ?_
  refine mx_i g_440 g_75 g_5 g_76 hx hb hml hown hg hl.1 (by decide) (Nat.le_of_ble_eq_true rfl) dX6_highOf_13 ?_
  replace hk := lq_s hk
  obtain ⟨x2, ex2, hk⟩ := hk
  refine nm_i ex2 ?_
  refine lv_istore (lv' := [(4, .int x2), (3, .int x1), (0, .int a0), (1, .int a1), (2, .int a2)]) hx hb dX6_highOf_16 hl (by decide) rfl (fun ls hl => ?_)
  refine lv_iload_n hx hb dX6_highOf_18 rfl (lv_at hl 2 rfl) ?_
  by_cases c4 : a0 = (1 : Int32)
  · replace hk := ite_t hk c4
    refine lv_tableIn (tgt := 52) hx hb dX6_highOf_19 (by rw [c4]; decide) (by rw [c4]; decide) (by rw [c4]; rfl) (by decide) ?_
    refine lv_iload_n hx hb dX6_highOf_52 rfl (lv_at hl 1 rfl) ?_
    subst hk
    exact hret _ _ _ _ hW dX6_highOf_53
  replace hk := ite_f hk c4
  have c4_0 := c4
  by_cases c4 : a0 = (2 : Int32)
  · replace hk := ite_t hk c4
    refine lv_tableIn (tgt := 54) hx hb dX6_highOf_19 (by rw [c4]; decide) (by rw [c4]; decide) (by rw [c4]; rfl) (by decide) ?_
    refine lv_iload hx hb dX6_highOf_54 (lv_at hl 0 rfl) ?_
    subst hk
    exact hret _ _ _ _ hW dX6_highOf_56
  replace hk := ite_f hk c4
  have c4_1 := c4
  by_cases c4 : a0 = (3 : Int32)
  · replace hk := ite_t hk c4
    refine lv_tableIn (tgt := 57) hx hb dX6_highOf_19 (by rw [c4]; decide) (by rw [c4]; decide) (by rw [c4]; rfl) (by decide) ?_
    refine lv_iload hx hb dX6_highOf_57 (lv_at hl 0 rfl) ?_
    refine lv_iconst (v := (2 : Int32)) hx hb dX6_highOf_59 (by decide) ?_
    refine lv_idiv hx hb dX6_highOf_60 (by decide) ?_
    subst hk
    exact hret _ _ _ _ hW dX6_highOf_61
  replace hk := ite_f hk c4
  have c4_2 := c4
  by_cases c4 : a0 = (4 : Int32)
  · replace hk := ite_t hk c4
    refine lv_tableIn (tgt := 62) hx hb dX6_highOf_19 (by rw [c4]; decide) (by rw [c4]; decide) (by rw [c4]; rfl) (by decide) ?_
    refine lv_iload_n hx hb dX6_highOf_62 rfl (lv_at hl 4 rfl) ?_
    refine lv_iconst (v := (2 : Int32)) hx hb dX6_highOf_63 (by decide) ?_
    refine lv_irem hx hb dX6_highOf_64 (by decide) ?_
    refine lv_if_ne (tgt := 72) hx hb dX6_highOf_65 (by decide) (fun c3 => ?_) (fun c3 => ?_)
    · replace hk := ite_f hk c3
      refine lv_iload_n hx hb dX6_highOf_72 rfl (lv_at hl 3 rfl) ?_
      refine lv_iconst (v := (1 : Int32)) hx hb dX6_highOf_73 (by decide) ?_
      refine lv_isub hx hb dX6_highOf_74 ?_
      subst hk
      exact hret _ _ _ _ hW dX6_highOf_75
    · replace hk := ite_t hk c3
      refine lv_iload_n hx hb dX6_highOf_68 rfl (lv_at hl 3 rfl) ?_
      refine lv_goto (tgt := 75) hx hb dX6_highOf_69 (by decide) ?_
      subst hk
      exact hret _ _ _ _ hW dX6_highOf_75
  replace hk := ite_f hk c4
  have c4_3 := c4
  by_cases c4 : a0 = (5 : Int32)
  · replace hk := ite_t hk c4
    refine lv_tableIn (tgt := 76) hx hb dX6_highOf_19 (by rw [c4]; decide) (by rw [c4]; decide) (by rw [c4]; rfl) (by decide) ?_
    refine lv_iload_n hx hb dX6_highOf_76 rfl (lv_at hl 1 rfl) ?_
    refine lv_iconst (v := (3 : Int32)) hx hb dX6_highOf_77 (by decide) ?_
    refine lv_iadd hx hb dX6_highOf_78 ?_
    subst hk
    exact hret _ _ _ _ hW dX6_highOf_79
  replace hk := ite_f hk c4
  have c4_4 := c4
  refine lv_tableOut (tgt := 80) hx hb dX6_highOf_19 (by have q0 := lv_neT c4_0 (a := 1) (by decide); have q1 := lv_neT c4_1 (a := 2) (by decide); have q2 := lv_neT c4_2 (a := 3) (by decide); have q3 := lv_neT c4_3 (a := 4) (by decide); have q4 := lv_neT c4_4 (a := 5) (by decide); omega) (by decide) ?_
  refine lv_iload_n hx hb dX6_highOf_80 rfl (lv_at hl 3 rfl) ?_
  subst hk
  exact hret _ _ _ _ hW dX6_highOf_81
def f_X2_highFrom (o0 : Nat) (a1 : Int32) (a2 : Int32) (a3 : Int32) (a4 : Int32) (M : Mem) : Option (Int32) :=
  if (f_X6_isSnapped a3) = (0 : Int32) then (
    ob (f_X6_cell (o0 + 2) a1 M) (fun x2 =>
    ob (f_X6_cell (o0 + 4) a1 M) (fun x3 =>
    ob (f_X6_cell (o0 + 3) a1 M) (fun x4 =>
    lq (f_X6_dropOf x2 x3 x4 a3) (fun x6 =>
    ob (f_X6_cell (o0 + 1) a1 M) (fun x7 =>
    some (f_X6_highOf x7 (a2 - x6) a4)))))))
  else (
    some ((-20) : Int32))
set_option maxHeartbeats 4000000 in
set_option maxRecDepth 100000 in
theorem c_X2_highFrom (l : Launch) (G : GT) {o0 : Nat} (h0 : kd o0 = 2) (a1 : Int32) (a2 : Int32) (a3 : Int32) (a4 : Int32) (M : Mem) {r : Int32} (hk : f_X2_highFrom o0 a1 a2 a3 a4 M = some r) : CMi l G true yX2_highFrom cX2_highFrom 6 (some .int) 2 [.ref (ad G o0), .int a1, .int a2, .int a3, .int a4] M r M := by
  unfold f_X2_highFrom at hk
  refine CMi.of (by decide) (Nat.le_of_ble_eq_true rfl) ?_
  intro p e s m args below meth c Q hx hb hml hown hg hK hW hret ls hl
  have hl : lv_has ls 6 [(0, .ref (ad G o0)), (1, .int a1), (2, .int a2), (3, .int a3), (4, .int a4)] := hl
  refine lv_iload_n hx hb dX2_highFrom_0 rfl (lv_at hl 3 rfl) ?_
  refine cl_i (rn_SN n_509 g_462 g_1 g_463 hd_X6_isSnapped (Nat.le_of_ble_eq_true rfl) hx hb hml hown hg hK hW (As := [.int a3]) (c_X6_isSnapped l G a3 M) (by decide) rfl hl.1 rfl (Nat.le_of_ble_eq_true rfl) dX2_highFrom_1) hW (fun H locs hW => ?_)
  refine lv_if_eq (tgt := 10) hx hb dX2_highFrom_4 (by decide) (fun c9 => ?_) (fun c9 => ?_)
  · replace hk := ite_t hk c9
    refine lv_aload_n hx hb dX2_highFrom_10 rfl (lv_at hl 0 rfl) ?_
    refine gt_X2_15 hx hb hg hown hK hW h0 dX2_highFrom_11 ?_
    refine lv_iload_n hx hb dX2_highFrom_14 rfl (lv_at hl 1 rfl) ?_
    replace hk := ob_s hk
    obtain ⟨x2, hx2, hk⟩ := hk
    refine cl_i (rn_SN n_444 g_346 g_1 g_347 hd_X6_cell (Nat.le_of_ble_eq_true rfl) hx hb hml hown hg hK hW (As := [.ref (ad G (o0 + 2)), .int a1]) (c_X6_cell l G (k2_2 h0) a1 M hx2) (by decide) rfl hl.1 rfl (Nat.le_of_ble_eq_true rfl) dX2_highFrom_15) hW (fun H locs hW => ?_)
    refine lv_aload_n hx hb dX2_highFrom_18 rfl (lv_at hl 0 rfl) ?_
    refine gt_X2_21 hx hb hg hown hK hW h0 dX2_highFrom_19 ?_
    refine lv_iload_n hx hb dX2_highFrom_22 rfl (lv_at hl 1 rfl) ?_
    replace hk := ob_s hk
    obtain ⟨x3, hx3, hk⟩ := hk
    refine cl_i (rn_SN n_444 g_346 g_1 g_347 hd_X6_cell (Nat.le_of_ble_eq_true rfl) hx hb hml hown hg hK hW (As := [.ref (ad G (o0 + 4)), .int a1]) (c_X6_cell l G (k2_4 h0) a1 M hx3) (by decide) rfl hl.1 rfl (Nat.le_of_ble_eq_true rfl) dX2_highFrom_23) hW (fun H locs hW => ?_)
    refine lv_aload_n hx hb dX2_highFrom_26 rfl (lv_at hl 0 rfl) ?_
    refine gt_X2_18 hx hb hg hown hK hW h0 dX2_highFrom_27 ?_
    refine lv_iload_n hx hb dX2_highFrom_30 rfl (lv_at hl 1 rfl) ?_
    replace hk := ob_s hk
    obtain ⟨x4, hx4, hk⟩ := hk
    refine cl_i (rn_SN n_444 g_346 g_1 g_347 hd_X6_cell (Nat.le_of_ble_eq_true rfl) hx hb hml hown hg hK hW (As := [.ref (ad G (o0 + 3)), .int a1]) (c_X6_cell l G (k2_3 h0) a1 M hx4) (by decide) rfl hl.1 rfl (Nat.le_of_ble_eq_true rfl) dX2_highFrom_31) hW (fun H locs hW => ?_)
    refine lv_iload_n hx hb dX2_highFrom_34 rfl (lv_at hl 3 rfl) ?_
    refine cl_i (rn_SN n_558 g_559 g_1 g_560 hd_X6_dropOf (Nat.le_of_ble_eq_true rfl) hx hb hml hown hg hK hW (As := [.int x2, .int x3, .int x4, .int a3]) (c_X6_dropOf l G x2 x3 x4 a3 M) (by decide) rfl hl.1 rfl (Nat.le_of_ble_eq_true rfl) dX2_highFrom_35) hW (fun H locs hW => ?_)
    replace hk := lq_s hk
    obtain ⟨x6, ex6, hk⟩ := hk
    refine nm_i ex6 ?_
    refine lv_istore (lv' := [(5, .int x6), (0, .ref (ad G o0)), (1, .int a1), (2, .int a2), (3, .int a3), (4, .int a4)]) hx hb dX2_highFrom_38 hl (by decide) rfl (fun ls hl => ?_)
    refine lv_aload_n hx hb dX2_highFrom_40 rfl (lv_at hl 1 rfl) ?_
    refine gt_X2_9 hx hb hg hown hK hW h0 dX2_highFrom_41 ?_
    refine lv_iload_n hx hb dX2_highFrom_44 rfl (lv_at hl 2 rfl) ?_
    replace hk := ob_s hk
    obtain ⟨x7, hx7, hk⟩ := hk
    refine cl_i (rn_SN n_444 g_346 g_1 g_347 hd_X6_cell (Nat.le_of_ble_eq_true rfl) hx hb hml hown hg hK hW (As := [.ref (ad G (o0 + 1)), .int a1]) (c_X6_cell l G (k2_1 h0) a1 M hx7) (by decide) rfl hl.1 rfl (Nat.le_of_ble_eq_true rfl) dX2_highFrom_45) hW (fun H locs hW => ?_)
    refine lv_iload_n hx hb dX2_highFrom_48 rfl (lv_at hl 3 rfl) ?_
    refine lv_iload hx hb dX2_highFrom_49 (lv_at hl 0 rfl) ?_
    refine lv_isub hx hb dX2_highFrom_51 ?_
    refine lv_iload hx hb dX2_highFrom_52 (lv_at hl 5 rfl) ?_
    refine cl_i (rn_SN n_561 g_562 g_1 g_563 hd_X6_highOf (Nat.le_of_ble_eq_true rfl) hx hb hml hown hg hK hW (As := [.int x7, .int (a2 - x6), .int a4]) (c_X6_highOf l G x7 (a2 - x6) a4 M) (by decide) rfl hl.1 rfl (Nat.le_of_ble_eq_true rfl) dX2_highFrom_54) hW (fun H locs hW => ?_)
    obtain rfl := Option.some.inj hk
    exact hret _ _ _ _ hW dX2_highFrom_57
  · replace hk := ite_f hk c9
    refine lv_bipush (v := ((-20) : Int32)) hx hb dX2_highFrom_7 (by decide) ?_
    obtain rfl := Option.some.inj hk
    exact hret _ _ _ _ hW dX2_highFrom_9
def f_X2_highIn (o0 : Nat) (o1 : Nat) (a2 : Int32) (M : Mem) : Option (Int32) :=
  ob (f_X6_cell (o1 + 1) a2 M) (fun x1 =>
  lq (f_X6_holeAt (M.1 o1 0) (M.1 o1 1) x1) (fun x3 =>
  ob (f_X6_cell (o1 + 2) a2 M) (fun x4 =>
  ob (f_X2_highFrom o0 a2 x3 x4 (M.1 o1 2) M) (fun x5 =>
  some x5))))
set_option maxHeartbeats 4000000 in
set_option maxRecDepth 100000 in
theorem c_X2_highIn (l : Launch) (G : GT) {o0 : Nat} (h0 : kd o0 = 2) {o1 : Nat} (h1 : kd o1 = 1) (a2 : Int32) (M : Mem) {r : Int32} (hk : f_X2_highIn o0 o1 a2 M = some r) : CMi l G true yX2_highIn cX2_highIn 4 (some .int) 3 [.ref (ad G o0), .ref (ad G o1), .int a2] M r M := by
  unfold f_X2_highIn at hk
  refine CMi.of (by decide) (Nat.le_of_ble_eq_true rfl) ?_
  intro p e s m args below meth c Q hx hb hml hown hg hK hW hret ls hl
  have hl : lv_has ls 4 [(0, .ref (ad G o0)), (1, .ref (ad G o1)), (2, .int a2)] := hl
  refine lv_aload_n hx hb dX2_highIn_0 rfl (lv_at hl 1 rfl) ?_
  refine gt_X2_106 hx hb hg hown hK hW h1 dX2_highIn_1 ?_
  refine lv_aload_n hx hb dX2_highIn_4 rfl (lv_at hl 1 rfl) ?_
  refine gt_X2_113 hx hb hg hown hK hW h1 dX2_highIn_5 ?_
  refine lv_aload_n hx hb dX2_highIn_8 rfl (lv_at hl 1 rfl) ?_
  refine gt_X2_96 hx hb hg hown hK hW h1 dX2_highIn_9 ?_
  refine lv_iload_n hx hb dX2_highIn_12 rfl (lv_at hl 2 rfl) ?_
  replace hk := ob_s hk
  obtain ⟨x1, hx1, hk⟩ := hk
  refine cl_i (rn_SN n_444 g_346 g_1 g_347 hd_X6_cell (Nat.le_of_ble_eq_true rfl) hx hb hml hown hg hK hW (As := [.ref (ad G (o1 + 1)), .int a2]) (c_X6_cell l G (k1_1 h1) a2 M hx1) (by decide) rfl hl.1 rfl (Nat.le_of_ble_eq_true rfl) dX2_highIn_13) hW (fun H locs hW => ?_)
  refine cl_i (rn_SN n_551 g_552 g_1 g_553 hd_X6_holeAt (Nat.le_of_ble_eq_true rfl) hx hb hml hown hg hK hW (As := [.int (M.1 o1 0), .int (M.1 o1 1), .int x1]) (c_X6_holeAt l G (M.1 o1 0) (M.1 o1 1) x1 M) (by decide) rfl hl.1 rfl (Nat.le_of_ble_eq_true rfl) dX2_highIn_16) hW (fun H locs hW => ?_)
  replace hk := lq_s hk
  obtain ⟨x3, ex3, hk⟩ := hk
  refine nm_i ex3 ?_
  refine lv_istore_n (lv' := [(3, .int x3), (0, .ref (ad G o0)), (1, .ref (ad G o1)), (2, .int a2)]) hx hb dX2_highIn_19 rfl hl (by decide) rfl (fun ls hl => ?_)
  refine lv_aload_n hx hb dX2_highIn_20 rfl (lv_at hl 1 rfl) ?_
  refine lv_iload_n hx hb dX2_highIn_21 rfl (lv_at hl 3 rfl) ?_
  refine lv_iload_n hx hb dX2_highIn_22 rfl (lv_at hl 0 rfl) ?_
  refine lv_aload_n hx hb dX2_highIn_23 rfl (lv_at hl 2 rfl) ?_
  refine gt_X2_99 hx hb hg hown hK hW h1 dX2_highIn_24 ?_
  refine lv_iload_n hx hb dX2_highIn_27 rfl (lv_at hl 3 rfl) ?_
  replace hk := ob_s hk
  obtain ⟨x4, hx4, hk⟩ := hk
  refine cl_i (rn_SN n_444 g_346 g_1 g_347 hd_X6_cell (Nat.le_of_ble_eq_true rfl) hx hb hml hown hg hK hW (As := [.ref (ad G (o1 + 2)), .int a2]) (c_X6_cell l G (k1_2 h1) a2 M hx4) (by decide) rfl hl.1 rfl (Nat.le_of_ble_eq_true rfl) dX2_highIn_28) hW (fun H locs hW => ?_)
  refine lv_aload_n hx hb dX2_highIn_31 rfl (lv_at hl 2 rfl) ?_
  refine gt_X2_119 hx hb hg hown hK hW h1 dX2_highIn_32 ?_
  replace hk := ob_s hk
  obtain ⟨x5, hx5, hk⟩ := hk
  refine cl_i (rn_V g_554 g_556 gs_35 g_2 g_557 hd_X2_highFrom (Nat.le_of_ble_eq_true rfl) (ci := 2) rfl (inC h0 rfl) (shp2 h0) hx hb hml hown hg hK hW (As := [.int a2, .int x3, .int x4, .int (M.1 o1 2)]) (c_X2_highFrom l G h0 a2 x3 x4 (M.1 o1 2) M hx5) (by decide) rfl hl.1 rfl (Nat.le_of_ble_eq_true rfl) dX2_highIn_35) hW (fun H locs hW => ?_)
  obtain rfl := Option.some.inj hk
  exact hret _ _ _ _ hW dX2_highIn_38
def f_X6_copyRow_L2 (o0 : Nat) (o1 : Nat) : Nat → Int32 → Mem → Option (Int32 × Mem)
  | 0, _, _ => none
  | n + 1, x1, M2 =>
    if (nI (ln o0)) ≤ x1 then (
      some (x1, M2))
    else (
      if (nI (ln o1)) ≤ x1 then (
        some (x1, M2))
      else (
        ob (rd M2 o0 x1) (fun x5 =>
        ob (wr M2 o1 x1 x5) (fun M6 =>
        lq (x1 + (1 : Int32)) (fun x7 =>
        f_X6_copyRow_L2 o0 o1 n x7 M6)))))
def f_X6_copyRow (o0 : Nat) (o1 : Nat) (M : Mem) : Option (Mem) :=
  ob2 (f_X6_copyRow_L2 o0 o1 FU (0 : Int32) M) (fun x3 M4 =>
  some M4)
set_option maxHeartbeats 4000000 in
set_option maxRecDepth 100000 in
theorem c_X6_copyRow (l : Launch) (G : GT) {o0 : Nat} (h0 : kd o0 = 8) {o1 : Nat} (h1 : kd o1 = 8) (M : Mem) {M' : Mem} (hk : f_X6_copyRow o0 o1 M = some M') : CMv l G true yX6_copyRow cX6_copyRow 3 none 0 [.ref (ad G o0), .ref (ad G o1)] M M' := by
  unfold f_X6_copyRow at hk
  refine CMv.of (by decide) (Nat.le_of_ble_eq_true rfl) ?_
  intro p e s m args below meth c Q hx hb hml hown hg hK hW hret ls hl
  have hl : lv_has ls 3 [(0, .ref (ad G o0)), (1, .ref (ad G o1))] := hl
  refine lv_iconst (v := (0 : Int32)) hx hb dX6_copyRow_0 (by decide) ?_
  refine lv_istore_n (lv' := [(2, .int (0 : Int32)), (0, .ref (ad G o0)), (1, .ref (ad G o1))]) hx hb dX6_copyRow_1 rfl hl (by decide) rfl (fun ls hl => ?_)
  replace hk := ob2_s hk
  obtain ⟨x3, M4, hz10, hk⟩ := hk
  have KX2 : ∀ (H : Heap) (locs : List Loc) (ls : Array Slot), Ws G true M4 s H locs → lv_has ls 3 [] → Wx p l e 0 s m args below meth c Q H locs 26 ls [] := by
    intro H locs ls hW hl
    obtain rfl := Option.some.inj hk
    exact hret _ _ _ _ hW dX6_copyRow_26
  clear hk
  have LH2 : ∀ (n : Nat) (x1 : Int32) (M2 : Mem) (H : Heap) (locs : List Loc) (ls : Array Slot), f_X6_copyRow_L2 o0 o1 n x1 M2 = some (x3, M4) → Ws G true M2 s H locs → lv_has ls 3 [(0, .ref (ad G o0)), (1, .ref (ad G o1)), (2, .int x1)] → Wx p l e 0 s m args below meth c Q H locs 2 ls [] := by
    clear hz10
    intro n
    induction n with
    | zero => intro _ _ _ _ _ hk; cases hk
    | succ n ih2 =>
      intro x1 M2 H locs ls hk hW hl
      rw [f_X6_copyRow_L2.eq_2] at hk
      refine lv_iload_n hx hb dX6_copyRow_2 rfl (lv_at hl 2 rfl) ?_
      refine lv_aload_n hx hb dX6_copyRow_3 rfl (lv_at hl 0 rfl) ?_
      refine w_len hx hb hK hW (inC h0 rfl) (shp8 h0) dX6_copyRow_4 ?_
      refine lv_icmp_ge (tgt := 26) hx hb dX6_copyRow_5 (by decide) (fun c9 => ?_) (fun c9 => ?_)
      · replace hk := ite_t hk c9
        obtain ⟨rfl, rfl⟩ := sp2 hk
        exact KX2 _ _ _ hW (lv_sub hl [] rfl)
      · replace hk := ite_f hk c9
        refine lv_iload_n hx hb dX6_copyRow_8 rfl (lv_at hl 2 rfl) ?_
        refine lv_aload_n hx hb dX6_copyRow_9 rfl (lv_at hl 1 rfl) ?_
        refine w_len hx hb hK hW (inC h1 rfl) (shp8 h1) dX6_copyRow_10 ?_
        refine lv_icmp_ge (tgt := 26) hx hb dX6_copyRow_11 (by decide) (fun c8 => ?_) (fun c8 => ?_)
        · replace hk := ite_t hk c8
          obtain ⟨rfl, rfl⟩ := sp2 hk
          exact KX2 _ _ _ hW (lv_sub hl [] rfl)
        · replace hk := ite_f hk c8
          refine lv_aload_n hx hb dX6_copyRow_14 rfl (lv_at hl 1 rfl) ?_
          refine lv_iload_n hx hb dX6_copyRow_15 rfl (lv_at hl 2 rfl) ?_
          refine lv_aload_n hx hb dX6_copyRow_16 rfl (lv_at hl 0 rfl) ?_
          refine lv_iload_n hx hb dX6_copyRow_17 rfl (lv_at hl 2 rfl) ?_
          replace hk := ob_s hk
          obtain ⟨x5, hx5, hk⟩ := hk
          obtain ⟨hx5, ex5⟩ := rd_s hx5
          refine w_ald hx hb hK hW (inC h0 rfl) (shp8 h0) hx5 ex5 dX6_copyRow_18 ?_
          replace hk := ob_s hk
          obtain ⟨M6, hM6, hk⟩ := hk
          obtain ⟨hM6, eM6⟩ := wr_s hM6
          refine w_ast hx hb hK hW (inC h1 rfl) (fun _ => (shp8 h1)) hM6 eM6 dX6_copyRow_19 (fun H locs hW => ?_)
          replace hk := lq_s hk
          obtain ⟨x7, ex7, hk⟩ := hk
          refine lv_iinc (v := x7) (lv' := [(2, .int x7), (0, .ref (ad G o0)), (1, .ref (ad G o1))]) hx hb dX6_copyRow_20 hl (k := 2) rfl (by rw [ex7]; rfl) (by decide) rfl (fun ls hl => ?_)
          refine lv_goto (tgt := 2) hx hb dX6_copyRow_23 (by decide) ?_
          exact ih2 _ _ _ _ _ hk hW (lv_sub hl [1, 2, 0] rfl)
  exact LH2 FU _ _ _ _ _ hz10 hW (lv_sub hl [1, 2, 0] rfl)
def f_X1_become (o0 : Nat) (o1 : Nat) (M : Mem) : Option (Mem) :=
  lq (s1 M o0 0 (M.1 o1 0)) (fun M1 =>
  lq (s1 M1 o0 1 (M1.1 o1 1)) (fun M2 =>
  lq (s1 M2 o0 2 (M2.1 o1 2)) (fun M3 =>
  ob (f_X6_copyRow (o1 + 1) (o0 + 1) M3) (fun M5 =>
  ob (f_X6_copyRow (o1 + 2) (o0 + 2) M5) (fun M7 =>
  some M7)))))
set_option maxHeartbeats 4000000 in
set_option maxRecDepth 100000 in
theorem c_X1_become (l : Launch) (G : GT) {o0 : Nat} (h0 : kd o0 = 1) {o1 : Nat} (h1 : kd o1 = 1) (M : Mem) {M' : Mem} (hk : f_X1_become o0 o1 M = some M') : CMv l G true yX1_become cX1_become 2 none 1 [.ref (ad G o0), .ref (ad G o1)] M M' := by
  unfold f_X1_become at hk
  refine CMv.of (by decide) (Nat.le_of_ble_eq_true rfl) ?_
  intro p e s m args below meth c Q hx hb hml hown hg hK hW hret ls hl
  have hl : lv_has ls 2 [(0, .ref (ad G o0)), (1, .ref (ad G o1))] := hl
  refine lv_aload_n hx hb dX1_become_0 rfl (lv_at hl 0 rfl) ?_
  refine lv_aload_n hx hb dX1_become_1 rfl (lv_at hl 1 rfl) ?_
  refine gt_X1_9 hx hb hg hown hK hW h1 dX1_become_2 ?_
  replace hk := lq_s hk
  obtain ⟨M1, eM1, hk⟩ := hk
  refine pt_X1_9 hx hb hg hown hK hW h0 eM1 dX1_become_5 (fun H locs hW => ?_)
  refine lv_aload_n hx hb dX1_become_8 rfl (lv_at hl 0 rfl) ?_
  refine lv_aload_n hx hb dX1_become_9 rfl (lv_at hl 1 rfl) ?_
  refine gt_X1_15 hx hb hg hown hK hW h1 dX1_become_10 ?_
  replace hk := lq_s hk
  obtain ⟨M2, eM2, hk⟩ := hk
  refine pt_X1_15 hx hb hg hown hK hW h0 eM2 dX1_become_13 (fun H locs hW => ?_)
  refine lv_aload_n hx hb dX1_become_16 rfl (lv_at hl 0 rfl) ?_
  refine lv_aload_n hx hb dX1_become_17 rfl (lv_at hl 1 rfl) ?_
  refine gt_X1_18 hx hb hg hown hK hW h1 dX1_become_18 ?_
  replace hk := lq_s hk
  obtain ⟨M3, eM3, hk⟩ := hk
  refine pt_X1_18 hx hb hg hown hK hW h0 eM3 dX1_become_21 (fun H locs hW => ?_)
  refine lv_aload_n hx hb dX1_become_24 rfl (lv_at hl 1 rfl) ?_
  refine gt_X1_21 hx hb hg hown hK hW h1 dX1_become_25 ?_
  refine lv_aload_n hx hb dX1_become_28 rfl (lv_at hl 0 rfl) ?_
  refine gt_X1_21 hx hb hg hown hK hW h0 dX1_become_29 ?_
  replace hk := ob_s hk
  obtain ⟨M5, hx4, hk⟩ := hk
  refine cl_v (rn_SN n_480 g_474 g_1 g_475 hd_X6_copyRow (Nat.le_of_ble_eq_true rfl) hx hb hml hown hg hK hW (As := [.ref (ad G (o1 + 1)), .ref (ad G (o0 + 1))]) (c_X6_copyRow l G (k1_1 h1) (k1_1 h0) M3 hx4) (by decide) rfl hl.1 rfl (Nat.le_of_ble_eq_true rfl) dX1_become_32) hW (fun H locs hW => ?_)
  refine lv_aload_n hx hb dX1_become_35 rfl (lv_at hl 1 rfl) ?_
  refine gt_X1_25 hx hb hg hown hK hW h1 dX1_become_36 ?_
  refine lv_aload_n hx hb dX1_become_39 rfl (lv_at hl 0 rfl) ?_
  refine gt_X1_25 hx hb hg hown hK hW h0 dX1_become_40 ?_
  replace hk := ob_s hk
  obtain ⟨M7, hx6, hk⟩ := hk
  refine cl_v (rn_SN n_480 g_474 g_1 g_475 hd_X6_copyRow (Nat.le_of_ble_eq_true rfl) hx hb hml hown hg hK hW (As := [.ref (ad G (o1 + 2)), .ref (ad G (o0 + 2))]) (c_X6_copyRow l G (k1_2 h1) (k1_2 h0) M5 hx6) (by decide) rfl hl.1 rfl (Nat.le_of_ble_eq_true rfl) dX1_become_43) hW (fun H locs hW => ?_)
  obtain rfl := Option.some.inj hk
  exact hret _ _ _ _ hW dX1_become_46
def f_X6_liftBehind (a0 : Int32) (a1 : Int32) : Int32 :=
  if a1 = (0 : Int32) then (
    (if (40 : Int32) < (a0 + (3 : Int32)) then (40 : Int32) else (a0 + (3 : Int32))))
  else (
    if a1 = (1 : Int32) then (
      (if (a0 - (3 : Int32)) < (0 : Int32) then (0 : Int32) else (a0 - (3 : Int32))))
    else (
      a0))
set_option maxHeartbeats 4000000 in
set_option maxRecDepth 100000 in
theorem c_X6_liftBehind (l : Launch) (G : GT) (a0 : Int32) (a1 : Int32) (M : Mem) : CMi l G true yX6_liftBehind cX6_liftBehind 2 (some .int) 1 [.int a0, .int a1] M (f_X6_liftBehind a0 a1) M := by
  obtain ⟨r, hk⟩ : ∃ r, f_X6_liftBehind a0 a1 = r := ⟨_, rfl⟩
  rw [hk]
  unfold f_X6_liftBehind at hk
  refine CMi.of (by decide) (Nat.le_of_ble_eq_true rfl) ?_
  intro p e s m args below meth c Q hx hb hml hown hg hK hW hret ls hl
  have hl : lv_has ls 2 [(0, .int a0), (1, .int a1)] := hl
  refine lv_iload_n hx hb dX6_liftBehind_0 rfl (lv_at hl 1 rfl) ?_
  refine lv_if_ne (tgt := 13) hx hb dX6_liftBehind_1 (by decide) (fun c2 => ?_) (fun c2 => ?_)
  · replace hk := ite_f hk c2
    refine lv_iload_n hx hb dX6_liftBehind_13 rfl (lv_at hl 1 rfl) ?_
    refine lv_iconst (v := (1 : Int32)) hx hb dX6_liftBehind_14 (by decide) ?_
    refine lv_icmp_ne (tgt := 28) hx hb dX6_liftBehind_15 (by decide) (fun c1 => ?_) (fun c1 => ?_)
    · replace hk := ite_f hk c1
      refine lv_iload_n hx hb dX6_liftBehind_28 rfl (lv_at hl 0 rfl) ?_
      subst hk
      exact hret _ _ _ _ hW dX6_liftBehind_29
    · replace hk := ite_t hk c1
      refine lv_iload_n hx hb dX6_liftBehind_18 rfl (lv_at hl 0 rfl) ?_
      refine lv_iconst (v := (3 : Int32)) hx hb dX6_liftBehind_19 (by decide) ?_
      refine lv_isub hx hb dX6_liftBehind_20 ?_
      refine lv_iconst (v := (0 : Int32)) hx hb dX6_liftBehind_21 (by decide) ?_
      refine mx_i g_440 g_75 g_5 g_76 hx hb hml hown hg hl.1 (by decide) (Nat.le_of_ble_eq_true rfl) dX6_liftBehind_22 ?_
      refine lv_goto (tgt := 29) hx hb dX6_liftBehind_25 (by decide) ?_
      subst hk
      exact hret _ _ _ _ hW dX6_liftBehind_29
  · replace hk := ite_t hk c2
    refine lv_iload_n hx hb dX6_liftBehind_4 rfl (lv_at hl 0 rfl) ?_
    refine lv_iconst (v := (3 : Int32)) hx hb dX6_liftBehind_5 (by decide) ?_
    refine lv_iadd hx hb dX6_liftBehind_6 ?_
    refine lv_bipush (v := (40 : Int32)) hx hb dX6_liftBehind_7 (by decide) ?_
    refine mn_i g_437 g_438 g_5 g_439 hx hb hml hown hg hl.1 (by decide) (Nat.le_of_ble_eq_true rfl) dX6_liftBehind_9 ?_
    subst hk
    exact hret _ _ _ _ hW dX6_liftBehind_12
def f_X6_tiltBehind (a0 : Int32) (a1 : Int32) : Int32 :=
  if a1 = (2 : Int32) then (
    (if (a0 - (1 : Int32)) < ((-4) : Int32) then ((-4) : Int32) else (a0 - (1 : Int32))))
  else (
    if a1 = (3 : Int32) then (
      (if (4 : Int32) < (a0 + (1 : Int32)) then (4 : Int32) else (a0 + (1 : Int32))))
    else (
      a0))
set_option maxHeartbeats 4000000 in
set_option maxRecDepth 100000 in
theorem c_X6_tiltBehind (l : Launch) (G : GT) (a0 : Int32) (a1 : Int32) (M : Mem) : CMi l G true yX6_tiltBehind cX6_tiltBehind 2 (some .int) 1 [.int a0, .int a1] M (f_X6_tiltBehind a0 a1) M := by
  obtain ⟨r, hk⟩ : ∃ r, f_X6_tiltBehind a0 a1 = r := ⟨_, rfl⟩
  rw [hk]
  unfold f_X6_tiltBehind at hk
  refine CMi.of (by decide) (Nat.le_of_ble_eq_true rfl) ?_
  intro p e s m args below meth c Q hx hb hml hown hg hK hW hret ls hl
  have hl : lv_has ls 2 [(0, .int a0), (1, .int a1)] := hl
  refine lv_iload_n hx hb dX6_tiltBehind_0 rfl (lv_at hl 1 rfl) ?_
  refine lv_iconst (v := (2 : Int32)) hx hb dX6_tiltBehind_1 (by decide) ?_
  refine lv_icmp_ne (tgt := 14) hx hb dX6_tiltBehind_2 (by decide) (fun c2 => ?_) (fun c2 => ?_)
  · replace hk := ite_f hk c2
    refine lv_iload_n hx hb dX6_tiltBehind_14 rfl (lv_at hl 1 rfl) ?_
    refine lv_iconst (v := (3 : Int32)) hx hb dX6_tiltBehind_15 (by decide) ?_
    refine lv_icmp_ne (tgt := 29) hx hb dX6_tiltBehind_16 (by decide) (fun c1 => ?_) (fun c1 => ?_)
    · replace hk := ite_f hk c1
      refine lv_iload_n hx hb dX6_tiltBehind_29 rfl (lv_at hl 0 rfl) ?_
      subst hk
      exact hret _ _ _ _ hW dX6_tiltBehind_30
    · replace hk := ite_t hk c1
      refine lv_iload_n hx hb dX6_tiltBehind_19 rfl (lv_at hl 0 rfl) ?_
      refine lv_iconst (v := (1 : Int32)) hx hb dX6_tiltBehind_20 (by decide) ?_
      refine lv_iadd hx hb dX6_tiltBehind_21 ?_
      refine lv_iconst (v := (4 : Int32)) hx hb dX6_tiltBehind_22 (by decide) ?_
      refine mn_i g_437 g_438 g_5 g_439 hx hb hml hown hg hl.1 (by decide) (Nat.le_of_ble_eq_true rfl) dX6_tiltBehind_23 ?_
      refine lv_goto (tgt := 30) hx hb dX6_tiltBehind_26 (by decide) ?_
      subst hk
      exact hret _ _ _ _ hW dX6_tiltBehind_30
  · replace hk := ite_t hk c2
    refine lv_iload_n hx hb dX6_tiltBehind_5 rfl (lv_at hl 0 rfl) ?_
    refine lv_iconst (v := (1 : Int32)) hx hb dX6_tiltBehind_6 (by decide) ?_
    refine lv_isub hx hb dX6_tiltBehind_7 ?_
    refine lv_bipush (v := ((-4) : Int32)) hx hb dX6_tiltBehind_8 (by decide) ?_
    refine mx_i g_440 g_75 g_5 g_76 hx hb hml hown hg hl.1 (by decide) (Nat.le_of_ble_eq_true rfl) dX6_tiltBehind_10 ?_
    subst hk
    exact hret _ _ _ _ hW dX6_tiltBehind_13
def f_X2_weightOf (o0 : Nat) (a1 : Int32) (M : Mem) : Option (Int32) :=
  ob (f_X6_cell (o0 + 3) a1 M) (fun x1 =>
  some x1)
set_option maxHeartbeats 4000000 in
set_option maxRecDepth 100000 in
theorem c_X2_weightOf (l : Launch) (G : GT) {o0 : Nat} (h0 : kd o0 = 2) (a1 : Int32) (M : Mem) {r : Int32} (hk : f_X2_weightOf o0 a1 M = some r) : CMi l G true yX2_weightOf cX2_weightOf 2 (some .int) 1 [.ref (ad G o0), .int a1] M r M := by
  unfold f_X2_weightOf at hk
  refine CMi.of (by decide) (Nat.le_of_ble_eq_true rfl) ?_
  intro p e s m args below meth c Q hx hb hml hown hg hK hW hret ls hl
  have hl : lv_has ls 2 [(0, .ref (ad G o0)), (1, .int a1)] := hl
  refine lv_aload_n hx hb dX2_weightOf_0 rfl (lv_at hl 0 rfl) ?_
  refine gt_X2_18 hx hb hg hown hK hW h0 dX2_weightOf_1 ?_
  refine lv_iload_n hx hb dX2_weightOf_4 rfl (lv_at hl 1 rfl) ?_
  replace hk := ob_s hk
  obtain ⟨x1, hx1, hk⟩ := hk
  refine cl_i (rn_SN n_444 g_346 g_1 g_347 hd_X6_cell (Nat.le_of_ble_eq_true rfl) hx hb hml hown hg hK hW (As := [.ref (ad G (o0 + 3)), .int a1]) (c_X6_cell l G (k2_3 h0) a1 M hx1) (by decide) rfl hl.1 rfl (Nat.le_of_ble_eq_true rfl) dX2_weightOf_5) hW (fun H locs hW => ?_)
  obtain rfl := Option.some.inj hk
  exact hret _ _ _ _ hW dX2_weightOf_8
def f_X6_wornBehind (a0 : Int32) (a1 : Int32) (a2 : Int32) : Int32 :=
  lq (
    if a2 = (4 : Int32) then (
      (1 : Int32))
    else (
      if a2 = ((-4) : Int32) then (
        (1 : Int32))
      else (
        (0 : Int32))))
   (fun x3 =>
  lq (
    if x3 = (0 : Int32) then (
      a1)
    else (
      ((2 : Int32) * a1)))
   (fun x5 =>
  (if (99 : Int32) < (a0 + x5) then (99 : Int32) else (a0 + x5))))
set_option maxHeartbeats 4000000 in
set_option maxRecDepth 100000 in
theorem c_X6_wornBehind (l : Launch) (G : GT) (a0 : Int32) (a1 : Int32) (a2 : Int32) (M : Mem) : CMi l G true yX6_wornBehind cX6_wornBehind 4 (some .int) 1 [.int a0, .int a1, .int a2] M (f_X6_wornBehind a0 a1 a2) M := by
  obtain ⟨r, hk⟩ : ∃ r, f_X6_wornBehind a0 a1 a2 = r := ⟨_, rfl⟩
  rw [hk]
  unfold f_X6_wornBehind at hk
  refine CMi.of (by decide) (Nat.le_of_ble_eq_true rfl) ?_
  intro p e s m args below meth c Q hx hb hml hown hg hK hW hret ls hl
  have hl : lv_has ls 4 [(0, .int a0), (1, .int a1), (2, .int a2)] := hl
  refine lv_iload_n hx hb dX6_wornBehind_0 rfl (lv_at hl 2 rfl) ?_
  refine lv_iconst (v := (4 : Int32)) hx hb dX6_wornBehind_1 (by decide) ?_
  replace hk := lq_s hk
  obtain ⟨x3, hr9, hk⟩ := hk
  have KJ8 : ∀ (H : Heap) (locs : List Loc) (ls : Array Slot), Ws G true M s H locs → lv_has ls 4 [(0, .int a0), (1, .int a1)] → Wx p l e 1 s m args below meth c Q H locs 16 ls [.int x3] := by
    intro H locs ls hW hl
    refine lv_istore_n (lv' := [(3, .int x3), (0, .int a0), (1, .int a1)]) hx hb dX6_wornBehind_16 rfl hl (by decide) rfl (fun ls hl => ?_)
    refine lv_iload_n hx hb dX6_wornBehind_17 rfl (lv_at hl 1 rfl) ?_
    refine lv_iload_n hx hb dX6_wornBehind_18 rfl (lv_at hl 0 rfl) ?_
    replace hk := lq_s hk
    obtain ⟨x5, hr7, hk⟩ := hk
    have KJ6 : ∀ (H : Heap) (locs : List Loc) (ls : Array Slot), Ws G true M s H locs → lv_has ls 4 [] → Wx p l e 1 s m args below meth c Q H locs 29 ls [.int x5, .int a0] := by
      intro H locs ls hW hl
      refine lv_iadd hx hb dX6_wornBehind_29 ?_
      refine lv_bipush (v := (99 : Int32)) hx hb dX6_wornBehind_30 (by decide) ?_
      refine mn_i g_437 g_438 g_5 g_439 hx hb hml hown hg hl.1 (by decide) (Nat.le_of_ble_eq_true rfl) dX6_wornBehind_32 ?_
      subst hk
      exact hret _ _ _ _ hW dX6_wornBehind_35
    clear hk
    have hk := hr7.symm
    clear hr7
    refine lv_if_eq (tgt := 28) hx hb dX6_wornBehind_19 (by decide) (fun c4 => ?_) (fun c4 => ?_)
    · replace hk := ite_t hk c4
      refine lv_iload_n hx hb dX6_wornBehind_28 rfl (lv_at hl 2 rfl) ?_
      subst hk
      exact KJ6 _ _ _ hW (lv_sub hl [] rfl)
    · replace hk := ite_f hk c4
      refine lv_iconst (v := (2 : Int32)) hx hb dX6_wornBehind_22 (by decide) ?_
      refine lv_iload_n hx hb dX6_wornBehind_23 rfl (lv_at hl 2 rfl) ?_
      refine lv_imul hx hb dX6_wornBehind_24 ?_
      refine lv_goto (tgt := 29) hx hb dX6_wornBehind_25 (by decide) ?_
      subst hk
      exact KJ6 _ _ _ hW (lv_sub hl [] rfl)
  clear hk
  have hk := hr9.symm
  clear hr9
  refine lv_icmp_eq (tgt := 11) hx hb dX6_wornBehind_2 (by decide) (fun c2 => ?_) (fun c2 => ?_)
  · replace hk := ite_t hk c2
    refine lv_iconst (v := (1 : Int32)) hx hb dX6_wornBehind_11 (by decide) ?_
    refine lv_goto (tgt := 16) hx hb dX6_wornBehind_12 (by decide) ?_
    subst hk
    exact KJ8 _ _ _ hW (lv_sub hl [0, 1] rfl)
  · replace hk := ite_f hk c2
    refine lv_iload_n hx hb dX6_wornBehind_5 rfl (lv_at hl 2 rfl) ?_
    refine lv_bipush (v := ((-4) : Int32)) hx hb dX6_wornBehind_6 (by decide) ?_
    refine lv_icmp_ne (tgt := 15) hx hb dX6_wornBehind_8 (by decide) (fun c1 => ?_) (fun c1 => ?_)
    · replace hk := ite_f hk c1
      refine lv_iconst (v := (0 : Int32)) hx hb dX6_wornBehind_15 (by decide) ?_
      subst hk
      exact KJ8 _ _ _ hW (lv_sub hl [0, 1] rfl)
    · replace hk := ite_t hk c1
      refine lv_iconst (v := (1 : Int32)) hx hb dX6_wornBehind_11 (by decide) ?_
      refine lv_goto (tgt := 16) hx hb dX6_wornBehind_12 (by decide) ?_
      subst hk
      exact KJ8 _ _ _ hW (lv_sub hl [0, 1] rfl)
def f_X6_put (o0 : Nat) (a1 : Int32) (a2 : Int32) (M : Mem) : Option (Mem) :=
  if a1 < (0 : Int32) then (
    some M)
  else (
    if (nI (ln o0)) ≤ a1 then (
      some M)
    else (
      ob (wr M o0 a1 a2) (fun M1 =>
      some M1)))
set_option maxHeartbeats 4000000 in
set_option maxRecDepth 100000 in
theorem c_X6_put (l : Launch) (G : GT) {o0 : Nat} (h0 : kd o0 = 8) (a1 : Int32) (a2 : Int32) (M : Mem) {M' : Mem} (hk : f_X6_put o0 a1 a2 M = some M') : CMv l G true yX6_put cX6_put 3 none 0 [.ref (ad G o0), .int a1, .int a2] M M' := by
  unfold f_X6_put at hk
  refine CMv.of (by decide) (Nat.le_of_ble_eq_true rfl) ?_
  intro p e s m args below meth c Q hx hb hml hown hg hK hW hret ls hl
  have hl : lv_has ls 3 [(0, .ref (ad G o0)), (1, .int a1), (2, .int a2)] := hl
  refine lv_iload_n hx hb dX6_put_0 rfl (lv_at hl 1 rfl) ?_
  refine lv_if_lt (tgt := 14) hx hb dX6_put_1 (by decide) (fun c3 => ?_) (fun c3 => ?_)
  · replace hk := ite_t hk c3
    obtain rfl := Option.some.inj hk
    exact hret _ _ _ _ hW dX6_put_14
  · replace hk := ite_f hk c3
    refine lv_iload_n hx hb dX6_put_4 rfl (lv_at hl 1 rfl) ?_
    refine lv_aload_n hx hb dX6_put_5 rfl (lv_at hl 0 rfl) ?_
    refine w_len hx hb hK hW (inC h0 rfl) (shp8 h0) dX6_put_6 ?_
    refine lv_icmp_ge (tgt := 14) hx hb dX6_put_7 (by decide) (fun c2 => ?_) (fun c2 => ?_)
    · replace hk := ite_t hk c2
      obtain rfl := Option.some.inj hk
      exact hret _ _ _ _ hW dX6_put_14
    · replace hk := ite_f hk c2
      refine lv_aload_n hx hb dX6_put_10 rfl (lv_at hl 0 rfl) ?_
      refine lv_iload_n hx hb dX6_put_11 rfl (lv_at hl 1 rfl) ?_
      refine lv_iload_n hx hb dX6_put_12 rfl (lv_at hl 2 rfl) ?_
      replace hk := ob_s hk
      obtain ⟨M1, hM1, hk⟩ := hk
      obtain ⟨hM1, eM1⟩ := wr_s hM1
      refine w_ast hx hb hK hW (inC h0 rfl) (fun _ => (shp8 h0)) hM1 eM1 dX6_put_13 (fun H locs hW => ?_)
      obtain rfl := Option.some.inj hk
      exact hret _ _ _ _ hW dX6_put_14
def f_X2_step_L36 (o0 : Nat) (o1 : Nat) : Nat → Int32 → Mem → Option (Int32 × Mem)
  | 0, _, _ => none
  | n + 1, x6, M7 =>
    if (M7.1 o0 4) ≤ x6 then (
      some (x6, M7))
    else (
      ob (f_X6_cell (o1 + 2) x6 M7) (fun x10 =>
      ob (f_X2_weightOf o0 x6 M7) (fun x11 =>
      ob (f_X6_put (o1 + 2) x6 (f_X6_wornBehind x10 x11 (M7.1 o1 1)) M7) (fun M14 =>
      lq (x6 + (1 : Int32)) (fun x15 =>
      f_X2_step_L36 o0 o1 n x15 M14)))))
def f_X2_step (o0 : Nat) (o1 : Nat) (a2 : Int32) (M : Mem) : Option (Mem) :=
  lq (s1 M o1 0 (f_X6_liftBehind (M.1 o1 0) a2)) (fun M2 =>
  lq (s1 M2 o1 1 (f_X6_tiltBehind (M2.1 o1 1) a2)) (fun M4 =>
  lq (s1 M4 o1 2 ((M4.1 o1 2) + (1 : Int32))) (fun M5 =>
  ob2 (f_X2_step_L36 o0 o1 FU (0 : Int32) M5) (fun x8 M9 =>
  some M9))))
set_option maxHeartbeats 4000000 in
set_option maxRecDepth 100000 in
theorem c_X2_step (l : Launch) (G : GT) {o0 : Nat} (h0 : kd o0 = 2) {o1 : Nat} (h1 : kd o1 = 1) (a2 : Int32) (M : Mem) {M' : Mem} (hk : f_X2_step o0 o1 a2 M = some M') : CMv l G true yX2_step cX2_step 4 none 2 [.ref (ad G o0), .ref (ad G o1), .int a2] M M' := by
  unfold f_X2_step at hk
  refine CMv.of (by decide) (Nat.le_of_ble_eq_true rfl) ?_
  intro p e s m args below meth c Q hx hb hml hown hg hK hW hret ls hl
  have hl : lv_has ls 4 [(0, .ref (ad G o0)), (1, .ref (ad G o1)), (2, .int a2)] := hl
  refine lv_aload_n hx hb dX2_step_0 rfl (lv_at hl 1 rfl) ?_
  refine lv_aload_n hx hb dX2_step_1 rfl (lv_at hl 1 rfl) ?_
  refine gt_X2_106 hx hb hg hown hK hW h1 dX2_step_2 ?_
  refine lv_iload_n hx hb dX2_step_5 rfl (lv_at hl 2 rfl) ?_
  refine cl_i (rn_SN n_434 g_435 g_1 g_436 hd_X6_liftBehind (Nat.le_of_ble_eq_true rfl) hx hb hml hown hg hK hW (As := [.int (M.1 o1 0), .int a2]) (c_X6_liftBehind l G (M.1 o1 0) a2 M) (by decide) rfl hl.1 rfl (Nat.le_of_ble_eq_true rfl) dX2_step_6) hW (fun H locs hW => ?_)
  replace hk := lq_s hk
  obtain ⟨M2, eM2, hk⟩ := hk
  refine pt_X2_106 hx hb hg hown hK hW h1 eM2 dX2_step_9 (fun H locs hW => ?_)
  refine lv_aload_n hx hb dX2_step_12 rfl (lv_at hl 1 rfl) ?_
  refine lv_aload_n hx hb dX2_step_13 rfl (lv_at hl 1 rfl) ?_
  refine gt_X2_113 hx hb hg hown hK hW h1 dX2_step_14 ?_
  refine lv_iload_n hx hb dX2_step_17 rfl (lv_at hl 2 rfl) ?_
  refine cl_i (rn_SN n_441 g_442 g_1 g_443 hd_X6_tiltBehind (Nat.le_of_ble_eq_true rfl) hx hb hml hown hg hK hW (As := [.int (M2.1 o1 1), .int a2]) (c_X6_tiltBehind l G (M2.1 o1 1) a2 M2) (by decide) rfl hl.1 rfl (Nat.le_of_ble_eq_true rfl) dX2_step_18) hW (fun H locs hW => ?_)
  replace hk := lq_s hk
  obtain ⟨M4, eM4, hk⟩ := hk
  refine pt_X2_113 hx hb hg hown hK hW h1 eM4 dX2_step_21 (fun H locs hW => ?_)
  refine lv_aload_n hx hb dX2_step_24 rfl (lv_at hl 1 rfl) ?_
  refine lv_dup hx hb dX2_step_25 rfl ?_
  refine gt_X2_119 hx hb hg hown hK hW h1 dX2_step_26 ?_
  refine lv_iconst (v := (1 : Int32)) hx hb dX2_step_29 (by decide) ?_
  refine lv_iadd hx hb dX2_step_30 ?_
  replace hk := lq_s hk
  obtain ⟨M5, eM5, hk⟩ := hk
  refine pt_X2_119 hx hb hg hown hK hW h1 eM5 dX2_step_31 (fun H locs hW => ?_)
  refine lv_iconst (v := (0 : Int32)) hx hb dX2_step_34 (by decide) ?_
  refine lv_istore_n (lv' := [(3, .int (0 : Int32)), (0, .ref (ad G o0)), (1, .ref (ad G o1)), (2, .int a2)]) hx hb dX2_step_35 rfl hl (by decide) rfl (fun ls hl => ?_)
  replace hk := ob2_s hk
  obtain ⟨x8, M9, hz17, hk⟩ := hk
  have KX36 : ∀ (H : Heap) (locs : List Loc) (ls : Array Slot), Ws G true M9 s H locs → lv_has ls 4 [] → Wx p l e 2 s m args below meth c Q H locs 78 ls [] := by
    intro H locs ls hW hl
    obtain rfl := Option.some.inj hk
    exact hret _ _ _ _ hW dX2_step_78
  clear hk
  have LH36 : ∀ (n : Nat) (x6 : Int32) (M7 : Mem) (H : Heap) (locs : List Loc) (ls : Array Slot), f_X2_step_L36 o0 o1 n x6 M7 = some (x8, M9) → Ws G true M7 s H locs → lv_has ls 4 [(0, .ref (ad G o0)), (1, .ref (ad G o1)), (3, .int x6)] → Wx p l e 2 s m args below meth c Q H locs 36 ls [] := by
    clear hz17
    intro n
    induction n with
    | zero => intro _ _ _ _ _ hk; cases hk
    | succ n ih36 =>
      intro x6 M7 H locs ls hk hW hl
      rw [f_X2_step_L36.eq_2] at hk
      refine lv_iload_n hx hb dX2_step_36 rfl (lv_at hl 2 rfl) ?_
      refine lv_aload_n hx hb dX2_step_37 rfl (lv_at hl 0 rfl) ?_
      refine gt_X2_24 hx hb hg hown hK hW h0 dX2_step_38 ?_
      refine lv_icmp_ge (tgt := 78) hx hb dX2_step_41 (by decide) (fun c16 => ?_) (fun c16 => ?_)
      · replace hk := ite_t hk c16
        obtain ⟨rfl, rfl⟩ := sp2 hk
        exact KX36 _ _ _ hW (lv_sub hl [] rfl)
      · replace hk := ite_f hk c16
        refine lv_aload_n hx hb dX2_step_44 rfl (lv_at hl 1 rfl) ?_
        refine gt_X2_99 hx hb hg hown hK hW h1 dX2_step_45 ?_
        refine lv_iload_n hx hb dX2_step_48 rfl (lv_at hl 2 rfl) ?_
        refine lv_aload_n hx hb dX2_step_49 rfl (lv_at hl 1 rfl) ?_
        refine gt_X2_99 hx hb hg hown hK hW h1 dX2_step_50 ?_
        refine lv_iload_n hx hb dX2_step_53 rfl (lv_at hl 2 rfl) ?_
        replace hk := ob_s hk
        obtain ⟨x10, hx10, hk⟩ := hk
        refine cl_i (rn_SN n_444 g_346 g_1 g_347 hd_X6_cell (Nat.le_of_ble_eq_true rfl) hx hb hml hown hg hK hW (As := [.ref (ad G (o1 + 2)), .int x6]) (c_X6_cell l G (k1_2 h1) x6 M7 hx10) (by decide) rfl hl.1 rfl (Nat.le_of_ble_eq_true rfl) dX2_step_54) hW (fun H locs hW => ?_)
        refine lv_aload_n hx hb dX2_step_57 rfl (lv_at hl 0 rfl) ?_
        refine lv_iload_n hx hb dX2_step_58 rfl (lv_at hl 2 rfl) ?_
        replace hk := ob_s hk
        obtain ⟨x11, hx11, hk⟩ := hk
        refine cl_i (rn_V g_445 g_447 gs_19 g_2 g_448 hd_X2_weightOf (Nat.le_of_ble_eq_true rfl) (ci := 2) rfl (inC h0 rfl) (shp2 h0) hx hb hml hown hg hK hW (As := [.int x6]) (c_X2_weightOf l G h0 x6 M7 hx11) (by decide) rfl hl.1 rfl (Nat.le_of_ble_eq_true rfl) dX2_step_59) hW (fun H locs hW => ?_)
        refine lv_aload_n hx hb dX2_step_62 rfl (lv_at hl 1 rfl) ?_
        refine gt_X2_113 hx hb hg hown hK hW h1 dX2_step_63 ?_
        refine cl_i (rn_SN n_449 g_450 g_1 g_451 hd_X6_wornBehind (Nat.le_of_ble_eq_true rfl) hx hb hml hown hg hK hW (As := [.int x10, .int x11, .int (M7.1 o1 1)]) (c_X6_wornBehind l G x10 x11 (M7.1 o1 1) M7) (by decide) rfl hl.1 rfl (Nat.le_of_ble_eq_true rfl) dX2_step_66) hW (fun H locs hW => ?_)
        replace hk := ob_s hk
        obtain ⟨M14, hx13, hk⟩ := hk
        refine cl_v (rn_SN n_293 g_294 g_1 g_295 hd_X6_put (Nat.le_of_ble_eq_true rfl) hx hb hml hown hg hK hW (As := [.ref (ad G (o1 + 2)), .int x6, .int (f_X6_wornBehind x10 x11 (M7.1 o1 1))]) (c_X6_put l G (k1_2 h1) x6 (f_X6_wornBehind x10 x11 (M7.1 o1 1)) M7 hx13) (by decide) rfl hl.1 rfl (Nat.le_of_ble_eq_true rfl) dX2_step_69) hW (fun H locs hW => ?_)
        replace hk := lq_s hk
        obtain ⟨x15, ex15, hk⟩ := hk
        refine lv_iinc (v := x15) (lv' := [(3, .int x15), (0, .ref (ad G o0)), (1, .ref (ad G o1))]) hx hb dX2_step_72 hl (k := 2) rfl (by rw [ex15]; rfl) (by decide) rfl (fun ls hl => ?_)
        refine lv_goto (tgt := 36) hx hb dX2_step_75 (by decide) ?_
        exact ih36 _ _ _ _ _ hk hW (lv_sub hl [1, 2, 0] rfl)
  exact LH36 FU _ _ _ _ _ hz17 hW (lv_sub hl [1, 2, 0] rfl)
def f_X0_place (a0 : Int32) (a1 : Int32) : Int32 :=
  ((a0 * (5 : Int32)) + a1)
set_option maxHeartbeats 4000000 in
set_option maxRecDepth 100000 in
theorem c_X0_place (l : Launch) (G : GT) (a0 : Int32) (a1 : Int32) (M : Mem) : CMi l G true yX0_place cX0_place 2 (some .int) 0 [.int a0, .int a1] M (f_X0_place a0 a1) M := by
  obtain ⟨r, hk⟩ : ∃ r, f_X0_place a0 a1 = r := ⟨_, rfl⟩
  rw [hk]
  unfold f_X0_place at hk
  refine CMi.of (by decide) (Nat.le_of_ble_eq_true rfl) ?_
  intro p e s m args below meth c Q hx hb hml hown hg hK hW hret ls hl
  have hl : lv_has ls 2 [(0, .int a0), (1, .int a1)] := hl
  refine lv_iload_n hx hb dX0_place_0 rfl (lv_at hl 0 rfl) ?_
  refine lv_iconst (v := (5 : Int32)) hx hb dX0_place_1 (by decide) ?_
  refine lv_imul hx hb dX0_place_2 ?_
  refine lv_iload_n hx hb dX0_place_3 rfl (lv_at hl 1 rfl) ?_
  refine lv_iadd hx hb dX0_place_4 ?_
  subst hk
  exact hret _ _ _ _ hW dX0_place_5
def f_X0_toll (a0 : Int32) : Int32 :=
  if a0 = (4 : Int32) then (
    (0 : Int32))
  else (
    (2 : Int32))
set_option maxHeartbeats 4000000 in
set_option maxRecDepth 100000 in
theorem c_X0_toll (l : Launch) (G : GT) (a0 : Int32) (M : Mem) : CMi l G true yX0_toll cX0_toll 1 (some .int) 0 [.int a0] M (f_X0_toll a0) M := by
  obtain ⟨r, hk⟩ : ∃ r, f_X0_toll a0 = r := ⟨_, rfl⟩
  rw [hk]
  unfold f_X0_toll at hk
  refine CMi.of (by decide) (Nat.le_of_ble_eq_true rfl) ?_
  intro p e s m args below meth c Q hx hb hml hown hg hK hW hret ls hl
  have hl : lv_has ls 1 [(0, .int a0)] := hl
  refine lv_iload_n hx hb dX0_toll_0 rfl (lv_at hl 0 rfl) ?_
  refine lv_iconst (v := (4 : Int32)) hx hb dX0_toll_1 (by decide) ?_
  refine lv_icmp_ne (tgt := 9) hx hb dX0_toll_2 (by decide) (fun c1 => ?_) (fun c1 => ?_)
  · replace hk := ite_f hk c1
    refine lv_iconst (v := (2 : Int32)) hx hb dX0_toll_9 (by decide) ?_
    subst hk
    exact hret _ _ _ _ hW dX0_toll_10
  · replace hk := ite_t hk c1
    refine lv_iconst (v := (0 : Int32)) hx hb dX0_toll_5 (by decide) ?_
    refine lv_goto (tgt := 10) hx hb dX0_toll_6 (by decide) ?_
    subst hk
    exact hret _ _ _ _ hW dX0_toll_10
