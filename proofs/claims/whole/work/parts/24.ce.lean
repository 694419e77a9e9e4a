def f_X6_refuseBad (a1 : Int32) (M : Mem) : Option (Int32 × Mem) :=
  lq (s1 M 0 13 ((M.1 0 13) + (1 : Int32))) (fun M1 =>
  some (a1, M1))
set_option maxHeartbeats 4000000 in
set_option maxRecDepth 100000 in
theorem c_X6_refuseBad (l : Launch) (G : GT) (a1 : Int32) (M : Mem) {r : Int32} {M' : Mem} (hk : f_X6_refuseBad a1 M = some (r, M')) : CMi l G true yX6_refuseBad cX6_refuseBad 2 (some .int) 0 [.ref (ad G 0), .int a1] M r M' := by
  unfold f_X6_refuseBad at hk
  refine CMi.of (by decide) (Nat.le_of_ble_eq_true rfl) ?_
  intro p e s m args below meth c Q hx hb hml hown hg hK hW hret ls hl
  have hl : lv_has ls 2 [(0, .ref (ad G 0)), (1, .int a1)] := hl
  refine lv_aload_n hx hb dX6_refuseBad_0 rfl (lv_at hl 0 rfl) ?_
  refine lv_dup hx hb dX6_refuseBad_1 rfl ?_
  refine gt_X6_71 hx hb hg hown hK hW kd_0 dX6_refuseBad_2 ?_
  refine lv_iconst (v := (1 : Int32)) hx hb dX6_refuseBad_5 (by decide) ?_
  refine lv_iadd hx hb dX6_refuseBad_6 ?_
  replace hk := lq_s hk
  obtain ⟨M1, eM1, hk⟩ := hk
  refine pt_X6_71 hx hb hg hown hK hW kd_0 eM1 dX6_refuseBad_7 (fun H locs hW => ?_)
  refine lv_iload_n hx hb dX6_refuseBad_10 rfl (lv_at hl 1 rfl) ?_
  obtain ⟨rfl, rfl⟩ := sp2 hk
  exact hret _ _ _ _ hW dX6_refuseBad_11
def f_X6_puppet (a1 : Int32) (M : Mem) : Option (Int32 × Mem) :=
  if (f_X6_outside a1 (0 : Int32) (40 : Int32)) = (0 : Int32) then (
    lq (M.1 1 4) (fun x2 =>
    ob (f_X2_begin 1 a1 M) (fun M4 =>
    some (x2, M4))))
  else (
    ob2 (f_X6_refuseBad ((-1002) : Int32) M) (fun x5 M6 =>
    some (x5, M6)))
set_option maxHeartbeats 4000000 in
set_option maxRecDepth 100000 in
theorem c_X6_puppet (l : Launch) (G : GT) (a1 : Int32) (M : Mem) {r : Int32} {M' : Mem} (hk : f_X6_puppet a1 M = some (r, M')) : CMi l G true yX6_puppet cX6_puppet 3 (some .int) 2 [.ref (ad G 0), .int a1] M r M' := by
  unfold f_X6_puppet at hk
  refine CMi.of (by decide) (Nat.le_of_ble_eq_true rfl) ?_
  intro p e s m args below meth c Q hx hb hml hown hg hK hW hret ls hl
  have hl : lv_has ls 3 [(0, .ref (ad G 0)), (1, .int a1)] := hl
  refine lv_iload_n hx hb dX6_puppet_0 rfl (lv_at hl 1 rfl) ?_
  refine lv_iconst (v := (0 : Int32)) hx hb dX6_puppet_1 (by decide) ?_
  refine lv_bipush (v := (40 : Int32)) hx hb dX6_puppet_2 (by decide) ?_
  refine cl_i (rn_S g_278 g_279 g_1 g_280 hd_X6_outside (Nat.le_of_ble_eq_true rfl) hx hb hml hown hg hK hW (As := [.int a1, .int (0 : Int32), .int (40 : Int32)]) (c_X6_outside l G a1 (0 : Int32) (40 : Int32) M) (by decide) rfl hl.1 rfl (Nat.le_of_ble_eq_true rfl) dX6_puppet_4) hW (fun H locs hW => ?_)
  refine lv_if_eq (tgt := 18) hx hb dX6_puppet_7 (by decide) (fun c7 => ?_) (fun c7 => ?_)
  · replace hk := ite_t hk c7
    refine lv_aload_n hx hb dX6_puppet_18 rfl (lv_at hl 0 rfl) ?_
    refine gt_X6_10 hx hb hg hown hK hW kd_0 dX6_puppet_19 ?_
    refine gt_X6_89 hx hb hg hown hK hW kd_1 dX6_puppet_22 ?_
    replace hk := lq_s hk
    obtain ⟨x2, ex2, hk⟩ := hk
    refine nm_i ex2 ?_
    refine lv_istore_n (lv' := [(2, .int x2), (0, .ref (ad G 0)), (1, .int a1)]) hx hb dX6_puppet_25 rfl hl (by decide) rfl (fun ls hl => ?_)
    refine lv_aload_n hx hb dX6_puppet_26 rfl (lv_at hl 1 rfl) ?_
    refine gt_X6_10 hx hb hg hown hK hW kd_0 dX6_puppet_27 ?_
    refine lv_iload_n hx hb dX6_puppet_30 rfl (lv_at hl 2 rfl) ?_
    replace hk := ob_s hk
    obtain ⟨M4, hx3, hk⟩ := hk
    refine cl_v (rn_VN n_285 g_287 gs_1 g_2 g_288 hd_X2_begin (Nat.le_of_ble_eq_true rfl) (ci := 2) rfl (inC kd_1 rfl) (shp2 kd_1) hx hb hml hown hg hK hW (As := [.int a1]) (c_X2_begin l G kd_1 a1 M hx3) (by decide) rfl hl.1 rfl (Nat.le_of_ble_eq_true rfl) dX6_puppet_31) hW (fun H locs hW => ?_)
    refine lv_iload_n hx hb dX6_puppet_34 rfl (lv_at hl 0 rfl) ?_
    obtain ⟨rfl, rfl⟩ := sp2 hk
    exact hret _ _ _ _ hW dX6_puppet_35
  · replace hk := ite_f hk c7
    refine lv_aload_n hx hb dX6_puppet_10 rfl (lv_at hl 0 rfl) ?_
    refine lv_sipush (v := ((-1002) : Int32)) hx hb dX6_puppet_11 (by decide) ?_
    replace hk := ob2_s hk
    obtain ⟨x5, M6, hx5, hk⟩ := hk
    refine cl_i (rn_V g_281 g_283 gs_0 g_1 g_284 hd_X6_refuseBad (Nat.le_of_ble_eq_true rfl) (ci := 6) rfl (inC kd_0 rfl) (shp6 kd_0) hx hb hml hown hg hK hW (As := [.int ((-1002) : Int32)]) (c_X6_refuseBad l G ((-1002) : Int32) M hx5) (by decide) rfl hl.1 rfl (Nat.le_of_ble_eq_true rfl) dX6_puppet_14) hW (fun H locs hW => ?_)
    obtain ⟨rfl, rfl⟩ := sp2 hk
    exact hret _ _ _ _ hW dX6_puppet_17
def f_X6_refuseFull (M : Mem) : Option (Int32 × Mem) :=
  lq (s1 M 0 15 ((M.1 0 15) + (1 : Int32))) (fun M1 =>
  some (((-1004) : Int32), M1))
set_option maxHeartbeats 4000000 in
set_option maxRecDepth 100000 in
theorem c_X6_refuseFull (l : Launch) (G : GT)  (M : Mem) {r : Int32} {M' : Mem} (hk : f_X6_refuseFull  M = some (r, M')) : CMi l G true yX6_refuseFull cX6_refuseFull 1 (some .int) 0 [.ref (ad G 0)] M r M' := by
  unfold f_X6_refuseFull at hk
  refine CMi.of (by decide) (Nat.le_of_ble_eq_true rfl) ?_
  intro p e s m args below meth c Q hx hb hml hown hg hK hW hret ls hl
  have hl : lv_has ls 1 [(0, .ref (ad G 0))] := hl
  refine lv_aload_n hx hb dX6_refuseFull_0 rfl (lv_at hl 0 rfl) ?_
  refine lv_dup hx hb dX6_refuseFull_1 rfl ?_
  refine gt_X6_78 hx hb hg hown hK hW kd_0 dX6_refuseFull_2 ?_
  refine lv_iconst (v := (1 : Int32)) hx hb dX6_refuseFull_5 (by decide) ?_
  refine lv_iadd hx hb dX6_refuseFull_6 ?_
  replace hk := lq_s hk
  obtain ⟨M1, eM1, hk⟩ := hk
  refine pt_X6_78 hx hb hg hown hK hW kd_0 eM1 dX6_refuseFull_7 (fun H locs hW => ?_)
  refine lv_sipush (v := ((-1004) : Int32)) hx hb dX6_refuseFull_10 (by decide) ?_
  obtain ⟨rfl, rfl⟩ := sp2 hk
  exact hret _ _ _ _ hW dX6_refuseFull_13
def f_X6_limb (a1 : Int32) (a2 : Int32) (a3 : Int32) (a4 : Int32) (a5 : Int32) (M : Mem) : Option (Int32 × Mem) :=
  if (f_X6_outside a1 (0 : Int32) (5 : Int32)) = (0 : Int32) then (
    if (f_X6_outside a2 (0 : Int32) (5 : Int32)) = (0 : Int32) then (
      if (f_X6_outside a3 (1 : Int32) (9 : Int32)) = (0 : Int32) then (
        if (f_X6_outside a4 (1 : Int32) (20 : Int32)) = (0 : Int32) then (
          if (f_X6_outside a5 (0 : Int32) (8 : Int32)) = (0 : Int32) then (
            if (M.1 1 4) < (7 : Int32) then (
              ob2 (f_X2_add 1 a1 a2 a3 a4 a5 M) (fun x14 M15 =>
              some (x14, M15)))
            else (
              ob2 (f_X6_refuseFull M) (fun x16 M17 =>
              some (x16, M17))))
          else (
            ob2 (f_X6_refuseBad ((-1002) : Int32) M) (fun x19 M20 =>
            some (x19, M20))))
        else (
          ob2 (f_X6_refuseBad ((-1002) : Int32) M) (fun x11 M12 =>
          some (x11, M12))))
      else (
        ob2 (f_X6_refuseBad ((-1002) : Int32) M) (fun x8 M9 =>
        some (x8, M9))))
    else (
      ob2 (f_X6_refuseBad ((-1002) : Int32) M) (fun x5 M6 =>
      some (x5, M6))))
  else (
    ob2 (f_X6_refuseBad ((-1002) : Int32) M) (fun x2 M3 =>
    some (x2, M3)))
set_option maxHeartbeats 4000000 in
set_option maxRecDepth 100000 in
theorem c_X6_limb (l : Launch) (G : GT) (a1 : Int32) (a2 : Int32) (a3 : Int32) (a4 : Int32) (a5 : Int32) (M : Mem) {r : Int32} {M' : Mem} (hk : f_X6_limb a1 a2 a3 a4 a5 M = some (r, M')) : CMi l G true yX6_limb cX6_limb 6 (some .int) 2 [.ref (ad G 0), .int a1, .int a2, .int a3, .int a4, .int a5] M r M' := by
  unfold f_X6_limb at hk
  refine CMi.of (by decide) (Nat.le_of_ble_eq_true rfl) ?_
  intro p e s m args below meth c Q hx hb hml hown hg hK hW hret ls hl
  have hl : lv_has ls 6 [(0, .ref (ad G 0)), (1, .int a1), (2, .int a2), (3, .int a3), (4, .int a4), (5, .int a5)] := hl
  refine lv_iload_n hx hb dX6_limb_0 rfl (lv_at hl 1 rfl) ?_
  refine lv_iconst (v := (0 : Int32)) hx hb dX6_limb_1 (by decide) ?_
  refine lv_iconst (v := (5 : Int32)) hx hb dX6_limb_2 (by decide) ?_
  refine cl_i (rn_S g_278 g_279 g_1 g_280 hd_X6_outside (Nat.le_of_ble_eq_true rfl) hx hb hml hown hg hK hW (As := [.int a1, .int (0 : Int32), .int (5 : Int32)]) (c_X6_outside l G a1 (0 : Int32) (5 : Int32) M) (by decide) rfl hl.1 rfl (Nat.le_of_ble_eq_true rfl) dX6_limb_3) hW (fun H locs hW => ?_)
  refine lv_if_ne (tgt := 50) hx hb dX6_limb_6 (by decide) (fun c25 => ?_) (fun c25 => ?_)
  · replace hk := ite_f hk c25
    refine lv_aload_n hx hb dX6_limb_50 rfl (lv_at hl 0 rfl) ?_
    refine lv_sipush (v := ((-1002) : Int32)) hx hb dX6_limb_51 (by decide) ?_
    replace hk := ob2_s hk
    obtain ⟨x2, M3, hx2, hk⟩ := hk
    refine cl_i (rn_V g_281 g_283 gs_0 g_1 g_284 hd_X6_refuseBad (Nat.le_of_ble_eq_true rfl) (ci := 6) rfl (inC kd_0 rfl) (shp6 kd_0) hx hb hml hown hg hK hW (As := [.int ((-1002) : Int32)]) (c_X6_refuseBad l G ((-1002) : Int32) M hx2) (by decide) rfl hl.1 rfl (Nat.le_of_ble_eq_true rfl) dX6_limb_54) hW (fun H locs hW => ?_)
    obtain ⟨rfl, rfl⟩ := sp2 hk
    exact hret _ _ _ _ hW dX6_limb_57
  · replace hk := ite_t hk c25
    refine lv_iload_n hx hb dX6_limb_9 rfl (lv_at hl 2 rfl) ?_
    refine lv_iconst (v := (0 : Int32)) hx hb dX6_limb_10 (by decide) ?_
    refine lv_iconst (v := (5 : Int32)) hx hb dX6_limb_11 (by decide) ?_
    refine cl_i (rn_S g_278 g_279 g_1 g_280 hd_X6_outside (Nat.le_of_ble_eq_true rfl) hx hb hml hown hg hK hW (As := [.int a2, .int (0 : Int32), .int (5 : Int32)]) (c_X6_outside l G a2 (0 : Int32) (5 : Int32) M) (by decide) rfl hl.1 rfl (Nat.le_of_ble_eq_true rfl) dX6_limb_12) hW (fun H locs hW => ?_)
    refine lv_if_ne (tgt := 50) hx hb dX6_limb_15 (by decide) (fun c24 => ?_) (fun c24 => ?_)
    · replace hk := ite_f hk c24
      refine lv_aload_n hx hb dX6_limb_50 rfl (lv_at hl 0 rfl) ?_
      refine lv_sipush (v := ((-1002) : Int32)) hx hb dX6_limb_51 (by decide) ?_
      replace hk := ob2_s hk
      obtain ⟨x5, M6, hx5, hk⟩ := hk
      refine cl_i (rn_V g_281 g_283 gs_0 g_1 g_284 hd_X6_refuseBad (Nat.le_of_ble_eq_true rfl) (ci := 6) rfl (inC kd_0 rfl) (shp6 kd_0) hx hb hml hown hg hK hW (As := [.int ((-1002) : Int32)]) (c_X6_refuseBad l G ((-1002) : Int32) M hx5) (by decide) rfl hl.1 rfl (Nat.le_of_ble_eq_true rfl) dX6_limb_54) hW (fun H locs hW => ?_)
      obtain ⟨rfl, rfl⟩ := sp2 hk
      exact hret _ _ _ _ hW dX6_limb_57
    · replace hk := ite_t hk c24
      refine lv_iload_n hx hb dX6_limb_18 rfl (lv_at hl 3 rfl) ?_
      refine lv_iconst (v := (1 : Int32)) hx hb dX6_limb_19 (by decide) ?_
      refine lv_bipush (v := (9 : Int32)) hx hb dX6_limb_20 (by decide) ?_
      refine cl_i (rn_S g_278 g_279 g_1 g_280 hd_X6_outside (Nat.le_of_ble_eq_true rfl) hx hb hml hown hg hK hW (As := [.int a3, .int (1 : Int32), .int (9 : Int32)]) (c_X6_outside l G a3 (1 : Int32) (9 : Int32) M) (by decide) rfl hl.1 rfl (Nat.le_of_ble_eq_true rfl) dX6_limb_22) hW (fun H locs hW => ?_)
      refine lv_if_ne (tgt := 50) hx hb dX6_limb_25 (by decide) (fun c23 => ?_) (fun c23 => ?_)
      · replace hk := ite_f hk c23
        refine lv_aload_n hx hb dX6_limb_50 rfl (lv_at hl 0 rfl) ?_
        refine lv_sipush (v := ((-1002) : Int32)) hx hb dX6_limb_51 (by decide) ?_
        replace hk := ob2_s hk
        obtain ⟨x8, M9, hx8, hk⟩ := hk
        refine cl_i (rn_V g_281 g_283 gs_0 g_1 g_284 hd_X6_refuseBad (Nat.le_of_ble_eq_true rfl) (ci := 6) rfl (inC kd_0 rfl) (shp6 kd_0) hx hb hml hown hg hK hW (As := [.int ((-1002) : Int32)]) (c_X6_refuseBad l G ((-1002) : Int32) M hx8) (by decide) rfl hl.1 rfl (Nat.le_of_ble_eq_true rfl) dX6_limb_54) hW (fun H locs hW => ?_)
        obtain ⟨rfl, rfl⟩ := sp2 hk
        exact hret _ _ _ _ hW dX6_limb_57
      · replace hk := ite_t hk c23
        refine lv_iload hx hb dX6_limb_28 (lv_at hl 4 rfl) ?_
        refine lv_iconst (v := (1 : Int32)) hx hb dX6_limb_30 (by decide) ?_
        refine lv_bipush (v := (20 : Int32)) hx hb dX6_limb_31 (by decide) ?_
        refine cl_i (rn_S g_278 g_279 g_1 g_280 hd_X6_outside (Nat.le_of_ble_eq_true rfl) hx hb hml hown hg hK hW (As := [.int a4, .int (1 : Int32), .int (20 : Int32)]) (c_X6_outside l G a4 (1 : Int32) (20 : Int32) M) (by decide) rfl hl.1 rfl (Nat.le_of_ble_eq_true rfl) dX6_limb_33) hW (fun H locs hW => ?_)
        refine lv_if_ne (tgt := 50) hx hb dX6_limb_36 (by decide) (fun c22 => ?_) (fun c22 => ?_)
        · replace hk := ite_f hk c22
          refine lv_aload_n hx hb dX6_limb_50 rfl (lv_at hl 0 rfl) ?_
          refine lv_sipush (v := ((-1002) : Int32)) hx hb dX6_limb_51 (by decide) ?_
          replace hk := ob2_s hk
          obtain ⟨x11, M12, hx11, hk⟩ := hk
          refine cl_i (rn_V g_281 g_283 gs_0 g_1 g_284 hd_X6_refuseBad (Nat.le_of_ble_eq_true rfl) (ci := 6) rfl (inC kd_0 rfl) (shp6 kd_0) hx hb hml hown hg hK hW (As := [.int ((-1002) : Int32)]) (c_X6_refuseBad l G ((-1002) : Int32) M hx11) (by decide) rfl hl.1 rfl (Nat.le_of_ble_eq_true rfl) dX6_limb_54) hW (fun H locs hW => ?_)
          obtain ⟨rfl, rfl⟩ := sp2 hk
          exact hret _ _ _ _ hW dX6_limb_57
        · replace hk := ite_t hk c22
          refine lv_iload hx hb dX6_limb_39 (lv_at hl 5 rfl) ?_
          refine lv_iconst (v := (0 : Int32)) hx hb dX6_limb_41 (by decide) ?_
          refine lv_bipush (v := (8 : Int32)) hx hb dX6_limb_42 (by decide) ?_
          refine cl_i (rn_S g_278 g_279 g_1 g_280 hd_X6_outside (Nat.le_of_ble_eq_true rfl) hx hb hml hown hg hK hW (As := [.int a5, .int (0 : Int32), .int (8 : Int32)]) (c_X6_outside l G a5 (0 : Int32) (8 : Int32) M) (by decide) rfl hl.1 rfl (Nat.le_of_ble_eq_true rfl) dX6_limb_44) hW (fun H locs hW => ?_)
          refine lv_if_eq (tgt := 58) hx hb dX6_limb_47 (by decide) (fun c21 => ?_) (fun c21 => ?_)
          · replace hk := ite_t hk c21
            refine lv_aload_n hx hb dX6_limb_58 rfl (lv_at hl 0 rfl) ?_
            refine gt_X6_10 hx hb hg hown hK hW kd_0 dX6_limb_59 ?_
            refine gt_X6_89 hx hb hg hown hK hW kd_1 dX6_limb_62 ?_
            refine lv_bipush (v := (7 : Int32)) hx hb dX6_limb_65 (by decide) ?_
            refine lv_icmp_lt (tgt := 75) hx hb dX6_limb_67 (by decide) (fun c18 => ?_) (fun c18 => ?_)
            · replace hk := ite_t hk c18
              refine lv_aload_n hx hb dX6_limb_75 rfl (lv_at hl 0 rfl) ?_
              refine gt_X6_10 hx hb hg hown hK hW kd_0 dX6_limb_76 ?_
              refine lv_iload_n hx hb dX6_limb_79 rfl (lv_at hl 1 rfl) ?_
              refine lv_iload_n hx hb dX6_limb_80 rfl (lv_at hl 2 rfl) ?_
              refine lv_iload_n hx hb dX6_limb_81 rfl (lv_at hl 3 rfl) ?_
              refine lv_iload hx hb dX6_limb_82 (lv_at hl 4 rfl) ?_
              refine lv_iload hx hb dX6_limb_84 (lv_at hl 5 rfl) ?_
              replace hk := ob2_s hk
              obtain ⟨x14, M15, hx14, hk⟩ := hk
              refine cl_i (rn_VN n_308 g_310 gs_5 g_2 g_311 hd_X2_add (Nat.le_of_ble_eq_true rfl) (ci := 2) rfl (inC kd_1 rfl) (shp2 kd_1) hx hb hml hown hg hK hW (As := [.int a1, .int a2, .int a3, .int a4, .int a5]) (c_X2_add l G kd_1 a1 a2 a3 a4 a5 M hx14) (by decide) rfl hl.1 rfl (Nat.le_of_ble_eq_true rfl) dX6_limb_86) hW (fun H locs hW => ?_)
              obtain ⟨rfl, rfl⟩ := sp2 hk
              exact hret _ _ _ _ hW dX6_limb_89
            · replace hk := ite_f hk c18
              refine lv_aload_n hx hb dX6_limb_70 rfl (lv_at hl 0 rfl) ?_
              replace hk := ob2_s hk
              obtain ⟨x16, M17, hx16, hk⟩ := hk
              refine cl_i (rn_V g_304 g_306 gs_4 g_1 g_307 hd_X6_refuseFull (Nat.le_of_ble_eq_true rfl) (ci := 6) rfl (inC kd_0 rfl) (shp6 kd_0) hx hb hml hown hg hK hW (As := []) (c_X6_refuseFull l G M hx16) (by decide) rfl hl.1 rfl (Nat.le_of_ble_eq_true rfl) dX6_limb_71) hW (fun H locs hW => ?_)
              obtain ⟨rfl, rfl⟩ := sp2 hk
              exact hret _ _ _ _ hW dX6_limb_74
          · replace hk := ite_f hk c21
            refine lv_aload_n hx hb dX6_limb_50 rfl (lv_at hl 0 rfl) ?_
            refine lv_sipush (v := ((-1002) : Int32)) hx hb dX6_limb_51 (by decide) ?_
            replace hk := ob2_s hk
            obtain ⟨x19, M20, hx19, hk⟩ := hk
            refine cl_i (rn_V g_281 g_283 gs_0 g_1 g_284 hd_X6_refuseBad (Nat.le_of_ble_eq_true rfl) (ci := 6) rfl (inC kd_0 rfl) (shp6 kd_0) hx hb hml hown hg hK hW (As := [.int ((-1002) : Int32)]) (c_X6_refuseBad l G ((-1002) : Int32) M hx19) (by decide) rfl hl.1 rfl (Nat.le_of_ble_eq_true rfl) dX6_limb_54) hW (fun H locs hW => ?_)
            obtain ⟨rfl, rfl⟩ := sp2 hk
            exact hret _ _ _ _ hW dX6_limb_57
def f_X6_type (a1 : Int32) (M : Mem) : Option (Int32 × Mem) :=
  if (f_X6_outside a1 (0 : Int32) (127 : Int32)) = (0 : Int32) then (
    if (M.1 165 1) < (150 : Int32) then (
      ob2 (f_X3_append 165 a1 M) (fun x2 M3 =>
      some (x2, M3)))
    else (
      ob2 (f_X6_refuseFull M) (fun x4 M5 =>
      some (x4, M5))))
  else (
    ob2 (f_X6_refuseBad ((-1002) : Int32) M) (fun x7 M8 =>
    some (x7, M8)))
set_option maxHeartbeats 4000000 in
set_option maxRecDepth 100000 in
theorem c_X6_type (l : Launch) (G : GT) (a1 : Int32) (M : Mem) {r : Int32} {M' : Mem} (hk : f_X6_type a1 M = some (r, M')) : CMi l G true yX6_type cX6_type 2 (some .int) 2 [.ref (ad G 0), .int a1] M r M' := by
  unfold f_X6_type at hk
  refine CMi.of (by decide) (Nat.le_of_ble_eq_true rfl) ?_
  intro p e s m args below meth c Q hx hb hml hown hg hK hW hret ls hl
  have hl : lv_has ls 2 [(0, .ref (ad G 0)), (1, .int a1)] := hl
  refine lv_iload_n hx hb dX6_type_0 rfl (lv_at hl 1 rfl) ?_
  refine lv_iconst (v := (0 : Int32)) hx hb dX6_type_1 (by decide) ?_
  refine lv_bipush (v := (127 : Int32)) hx hb dX6_type_2 (by decide) ?_
  refine cl_i (rn_S g_278 g_279 g_1 g_280 hd_X6_outside (Nat.le_of_ble_eq_true rfl) hx hb hml hown hg hK hW (As := [.int a1, .int (0 : Int32), .int (127 : Int32)]) (c_X6_outside l G a1 (0 : Int32) (127 : Int32) M) (by decide) rfl hl.1 rfl (Nat.le_of_ble_eq_true rfl) dX6_type_4) hW (fun H locs hW => ?_)
  refine lv_if_eq (tgt := 18) hx hb dX6_type_7 (by decide) (fun c9 => ?_) (fun c9 => ?_)
  · replace hk := ite_t hk c9
    refine lv_aload_n hx hb dX6_type_18 rfl (lv_at hl 0 rfl) ?_
    refine gt_X6_35 hx hb hg hown hK hW kd_0 dX6_type_19 ?_
    refine gt_X6_104 hx hb hg hown hK hW kd_165 dX6_type_22 ?_
    refine lv_sipush (v := (150 : Int32)) hx hb dX6_type_25 (by decide) ?_
    refine lv_icmp_lt (tgt := 36) hx hb dX6_type_28 (by decide) (fun c6 => ?_) (fun c6 => ?_)
    · replace hk := ite_t hk c6
      refine lv_aload_n hx hb dX6_type_36 rfl (lv_at hl 0 rfl) ?_
      refine gt_X6_35 hx hb hg hown hK hW kd_0 dX6_type_37 ?_
      refine lv_iload_n hx hb dX6_type_40 rfl (lv_at hl 1 rfl) ?_
      replace hk := ob2_s hk
      obtain ⟨x2, M3, hx2, hk⟩ := hk
      refine cl_i (rn_VN n_316 g_318 gs_6 g_6 g_319 hd_X3_append (Nat.le_of_ble_eq_true rfl) (ci := 3) rfl (inC kd_165 rfl) (shp3 kd_165) hx hb hml hown hg hK hW (As := [.int a1]) (c_X3_append l G kd_165 a1 M hx2) (by decide) rfl hl.1 rfl (Nat.le_of_ble_eq_true rfl) dX6_type_41) hW (fun H locs hW => ?_)
      obtain ⟨rfl, rfl⟩ := sp2 hk
      exact hret _ _ _ _ hW dX6_type_44
    · replace hk := ite_f hk c6
      refine lv_aload_n hx hb dX6_type_31 rfl (lv_at hl 0 rfl) ?_
      replace hk := ob2_s hk
      obtain ⟨x4, M5, hx4, hk⟩ := hk
      refine cl_i (rn_V g_304 g_306 gs_4 g_1 g_307 hd_X6_refuseFull (Nat.le_of_ble_eq_true rfl) (ci := 6) rfl (inC kd_0 rfl) (shp6 kd_0) hx hb hml hown hg hK hW (As := []) (c_X6_refuseFull l G M hx4) (by decide) rfl hl.1 rfl (Nat.le_of_ble_eq_true rfl) dX6_type_32) hW (fun H locs hW => ?_)
      obtain ⟨rfl, rfl⟩ := sp2 hk
      exact hret _ _ _ _ hW dX6_type_35
  · replace hk := ite_f hk c9
    refine lv_aload_n hx hb dX6_type_10 rfl (lv_at hl 0 rfl) ?_
    refine lv_sipush (v := ((-1002) : Int32)) hx hb dX6_type_11 (by decide) ?_
    replace hk := ob2_s hk
    obtain ⟨x7, M8, hx7, hk⟩ := hk
    refine cl_i (rn_V g_281 g_283 gs_0 g_1 g_284 hd_X6_refuseBad (Nat.le_of_ble_eq_true rfl) (ci := 6) rfl (inC kd_0 rfl) (shp6 kd_0) hx hb hml hown hg hK hW (As := [.int ((-1002) : Int32)]) (c_X6_refuseBad l G ((-1002) : Int32) M hx7) (by decide) rfl hl.1 rfl (Nat.le_of_ble_eq_true rfl) dX6_type_14) hW (fun H locs hW => ?_)
    obtain ⟨rfl, rfl⟩ := sp2 hk
    exact hret _ _ _ _ hW dX6_type_17
def f_X6_clear (M : Mem) : Option (Int32 × Mem) :=
  lq (M.1 165 1) (fun x1 =>
  lq (s1 M 165 1 (0 : Int32)) (fun M2 =>
  some (x1, M2)))
set_option maxHeartbeats 4000000 in
set_option maxRecDepth 100000 in
theorem c_X6_clear (l : Launch) (G : GT)  (M : Mem) {r : Int32} {M' : Mem} (hk : f_X6_clear  M = some (r, M')) : CMi l G true yX6_clear cX6_clear 2 (some .int) 0 [.ref (ad G 0)] M r M' := by
  unfold f_X6_clear at hk
  refine CMi.of (by decide) (Nat.le_of_ble_eq_true rfl) ?_
  intro p e s m args below meth c Q hx hb hml hown hg hK hW hret ls hl
  have hl : lv_has ls 2 [(0, .ref (ad G 0))] := hl
  refine lv_aload_n hx hb dX6_clear_0 rfl (lv_at hl 0 rfl) ?_
  refine gt_X6_35 hx hb hg hown hK hW kd_0 dX6_clear_1 ?_
  refine gt_X6_104 hx hb hg hown hK hW kd_165 dX6_clear_4 ?_
  replace hk := lq_s hk
  obtain ⟨x1, ex1, hk⟩ := hk
  refine nm_i ex1 ?_
  refine lv_istore_n (lv' := [(1, .int x1), (0, .ref (ad G 0))]) hx hb dX6_clear_7 rfl hl (by decide) rfl (fun ls hl => ?_)
  refine lv_aload_n hx hb dX6_clear_8 rfl (lv_at hl 1 rfl) ?_
  refine gt_X6_35 hx hb hg hown hK hW kd_0 dX6_clear_9 ?_
  refine lv_iconst (v := (0 : Int32)) hx hb dX6_clear_12 (by decide) ?_
  replace hk := lq_s hk
  obtain ⟨M2, eM2, hk⟩ := hk
  refine pt_X6_104 hx hb hg hown hK hW kd_165 eM2 dX6_clear_13 (fun H locs hW => ?_)
  refine lv_iload_n hx hb dX6_clear_16 rfl (lv_at hl 0 rfl) ?_
  obtain ⟨rfl, rfl⟩ := sp2 hk
  exact hret _ _ _ _ hW dX6_clear_17
def f_X6_refuseNo (M : Mem) : Option (Int32 × Mem) :=
  lq (s1 M 0 14 ((M.1 0 14) + (1 : Int32))) (fun M1 =>
  some (((-1003) : Int32), M1))
set_option maxHeartbeats 4000000 in
set_option maxRecDepth 100000 in
theorem c_X6_refuseNo (l : Launch) (G : GT)  (M : Mem) {r : Int32} {M' : Mem} (hk : f_X6_refuseNo  M = some (r, M')) : CMi l G true yX6_refuseNo cX6_refuseNo 1 (some .int) 0 [.ref (ad G 0)] M r M' := by
  unfold f_X6_refuseNo at hk
  refine CMi.of (by decide) (Nat.le_of_ble_eq_true rfl) ?_
  intro p e s m args below meth c Q hx hb hml hown hg hK hW hret ls hl
  have hl : lv_has ls 1 [(0, .ref (ad G 0))] := hl
  refine lv_aload_n hx hb dX6_refuseNo_0 rfl (lv_at hl 0 rfl) ?_
  refine lv_dup hx hb dX6_refuseNo_1 rfl ?_
  refine gt_X6_75 hx hb hg hown hK hW kd_0 dX6_refuseNo_2 ?_
  refine lv_iconst (v := (1 : Int32)) hx hb dX6_refuseNo_5 (by decide) ?_
  refine lv_iadd hx hb dX6_refuseNo_6 ?_
  replace hk := lq_s hk
  obtain ⟨M1, eM1, hk⟩ := hk
  refine pt_X6_75 hx hb hg hown hK hW kd_0 eM1 dX6_refuseNo_7 (fun H locs hW => ?_)
  refine lv_sipush (v := ((-1003) : Int32)) hx hb dX6_refuseNo_10 (by decide) ?_
  obtain ⟨rfl, rfl⟩ := sp2 hk
  exact hret _ _ _ _ hW dX6_refuseNo_13
def f_X6_moves (a1 : Int32) (M : Mem) : Option (Int32 × Mem) :=
  if (f_X6_outside a1 (0 : Int32) (4 : Int32)) = (0 : Int32) then (
    if (M.1 (1 + 5) 2) < (9999 : Int32) then (
      ob (f_X2_remember 1 M) (fun M3 =>
      ob (f_X2_step 1 (1 + 5) a1 M3) (fun M5 =>
      ob (f_X2_snappedIn 1 (1 + 5) M5) (fun x6 =>
      some (x6, M5)))))
    else (
      ob2 (f_X6_refuseNo M) (fun x7 M8 =>
      some (x7, M8))))
  else (
    ob2 (f_X6_refuseBad ((-1002) : Int32) M) (fun x10 M11 =>
    some (x10, M11)))
set_option maxHeartbeats 4000000 in
set_option maxRecDepth 100000 in
theorem c_X6_moves (l : Launch) (G : GT) (a1 : Int32) (M : Mem) {r : Int32} {M' : Mem} (hk : f_X6_moves a1 M = some (r, M')) : CMi l G true yX6_moves cX6_moves 2 (some .int) 3 [.ref (ad G 0), .int a1] M r M' := by
  unfold f_X6_moves at hk
  refine CMi.of (by decide) (Nat.le_of_ble_eq_true rfl) ?_
  intro p e s m args below meth c Q hx hb hml hown hg hK hW hret ls hl
  have hl : lv_has ls 2 [(0, .ref (ad G 0)), (1, .int a1)] := hl
  refine lv_iload_n hx hb dX6_moves_0 rfl (lv_at hl 1 rfl) ?_
  refine lv_iconst (v := (0 : Int32)) hx hb dX6_moves_1 (by decide) ?_
  refine lv_iconst (v := (4 : Int32)) hx hb dX6_moves_2 (by decide) ?_
  refine cl_i (rn_S g_278 g_279 g_1 g_280 hd_X6_outside (Nat.le_of_ble_eq_true rfl) hx hb hml hown hg hK hW (As := [.int a1, .int (0 : Int32), .int (4 : Int32)]) (c_X6_outside l G a1 (0 : Int32) (4 : Int32) M) (by decide) rfl hl.1 rfl (Nat.le_of_ble_eq_true rfl) dX6_moves_3) hW (fun H locs hW => ?_)
  refine lv_if_eq (tgt := 17) hx hb dX6_moves_6 (by decide) (fun c12 => ?_) (fun c12 => ?_)
  · replace hk := ite_t hk c12
    refine lv_aload_n hx hb dX6_moves_17 rfl (lv_at hl 0 rfl) ?_
    refine gt_X6_10 hx hb hg hown hK hW kd_0 dX6_moves_18 ?_
    refine gt_X6_118 hx hb hg hown hK hW kd_1 dX6_moves_21 ?_
    refine gt_X6_121 hx hb hg hown hK hW (k2_5 kd_1) dX6_moves_24 ?_
    refine lv_sipush (v := (9999 : Int32)) hx hb dX6_moves_27 (by decide) ?_
    refine lv_icmp_lt (tgt := 38) hx hb dX6_moves_30 (by decide) (fun c9 => ?_) (fun c9 => ?_)
    · replace hk := ite_t hk c9
      refine lv_aload_n hx hb dX6_moves_38 rfl (lv_at hl 0 rfl) ?_
      refine gt_X6_10 hx hb hg hown hK hW kd_0 dX6_moves_39 ?_
      replace hk := ob_s hk
      obtain ⟨M3, hx2, hk⟩ := hk
      refine cl_v (rn_VN n_499 g_501 gs_28 g_2 g_502 hd_X2_remember (Nat.le_of_ble_eq_true rfl) (ci := 2) rfl (inC kd_1 rfl) (shp2 kd_1) hx hb hml hown hg hK hW (As := []) (c_X2_remember l G kd_1 M hx2) (by decide) rfl hl.1 rfl (Nat.le_of_ble_eq_true rfl) dX6_moves_42) hW (fun H locs hW => ?_)
      refine lv_aload_n hx hb dX6_moves_45 rfl (lv_at hl 0 rfl) ?_
      refine gt_X6_10 hx hb hg hown hK hW kd_0 dX6_moves_46 ?_
      refine lv_aload_n hx hb dX6_moves_49 rfl (lv_at hl 0 rfl) ?_
      refine gt_X6_10 hx hb hg hown hK hW kd_0 dX6_moves_50 ?_
      refine gt_X6_118 hx hb hg hown hK hW kd_1 dX6_moves_53 ?_
      refine lv_iload_n hx hb dX6_moves_56 rfl (lv_at hl 1 rfl) ?_
      replace hk := ob_s hk
      obtain ⟨M5, hx4, hk⟩ := hk
      refine cl_v (rn_VN n_504 g_432 gs_18 g_2 g_433 hd_X2_step (Nat.le_of_ble_eq_true rfl) (ci := 2) rfl (inC kd_1 rfl) (shp2 kd_1) hx hb hml hown hg hK hW (As := [.ref (ad G (1 + 5)), .int a1]) (c_X2_step l G kd_1 (k2_5 kd_1) a1 M3 hx4) (by decide) rfl hl.1 rfl (Nat.le_of_ble_eq_true rfl) dX6_moves_57) hW (fun H locs hW => ?_)
      refine lv_aload_n hx hb dX6_moves_60 rfl (lv_at hl 0 rfl) ?_
      refine gt_X6_10 hx hb hg hown hK hW kd_0 dX6_moves_61 ?_
      refine lv_aload_n hx hb dX6_moves_64 rfl (lv_at hl 0 rfl) ?_
      refine gt_X6_10 hx hb hg hown hK hW kd_0 dX6_moves_65 ?_
      refine gt_X6_118 hx hb hg hown hK hW kd_1 dX6_moves_68 ?_
      replace hk := ob_s hk
      obtain ⟨x6, hx6, hk⟩ := hk
      refine cl_i (rn_VN n_505 g_507 gs_29 g_2 g_508 hd_X2_snappedIn (Nat.le_of_ble_eq_true rfl) (ci := 2) rfl (inC kd_1 rfl) (shp2 kd_1) hx hb hml hown hg hK hW (As := [.ref (ad G (1 + 5))]) (c_X2_snappedIn l G kd_1 (k2_5 kd_1) M5 hx6) (by decide) rfl hl.1 rfl (Nat.le_of_ble_eq_true rfl) dX6_moves_71) hW (fun H locs hW => ?_)
      obtain ⟨rfl, rfl⟩ := sp2 hk
      exact hret _ _ _ _ hW dX6_moves_74
    · replace hk := ite_f hk c9
      refine lv_aload_n hx hb dX6_moves_33 rfl (lv_at hl 0 rfl) ?_
      replace hk := ob2_s hk
      obtain ⟨x7, M8, hx7, hk⟩ := hk
      refine cl_i (rn_V g_495 g_497 gs_27 g_1 g_498 hd_X6_refuseNo (Nat.le_of_ble_eq_true rfl) (ci := 6) rfl (inC kd_0 rfl) (shp6 kd_0) hx hb hml hown hg hK hW (As := []) (c_X6_refuseNo l G M hx7) (by decide) rfl hl.1 rfl (Nat.le_of_ble_eq_true rfl) dX6_moves_34) hW (fun H locs hW => ?_)
      obtain ⟨rfl, rfl⟩ := sp2 hk
      exact hret _ _ _ _ hW dX6_moves_37
  · replace hk := ite_f hk c12
    refine lv_aload_n hx hb dX6_moves_9 rfl (lv_at hl 0 rfl) ?_
    refine lv_sipush (v := ((-1002) : Int32)) hx hb dX6_moves_10 (by decide) ?_
    replace hk := ob2_s hk
    obtain ⟨x10, M11, hx10, hk⟩ := hk
    refine cl_i (rn_V g_281 g_283 gs_0 g_1 g_284 hd_X6_refuseBad (Nat.le_of_ble_eq_true rfl) (ci := 6) rfl (inC kd_0 rfl) (shp6 kd_0) hx hb hml hown hg hK hW (As := [.int ((-1002) : Int32)]) (c_X6_refuseBad l G ((-1002) : Int32) M hx10) (by decide) rfl hl.1 rfl (Nat.le_of_ble_eq_true rfl) dX6_moves_13) hW (fun H locs hW => ?_)
    obtain ⟨rfl, rfl⟩ := sp2 hk
    exact hret _ _ _ _ hW dX6_moves_16
def f_X6_noLimb (a1 : Int32) (M : Mem) : Int32 :=
  (f_X6_outside a1 (0 : Int32) ((M.1 1 4) - (1 : Int32)))
theorem b_X6_noLimb (a1 : Int32) (M : Mem) : f_X6_noLimb a1 M = 0 ∨ f_X6_noLimb a1 M = 1 := by
  obtain ⟨r, hk⟩ : ∃ r, f_X6_noLimb a1 M = r := ⟨_, rfl⟩
  rw [hk]; unfold f_X6_noLimb at hk
  first | (repeat' (split at hk)) | skip
  all_goals (rw [← hk]; first | exact (b_X6_outside a1 (0 : Int32) ((M.1 1 4) - (1 : Int32))) | exact Or.inl rfl | exact Or.inr rfl)
set_option maxHeartbeats 4000000 in
set_option maxRecDepth 100000 in
theorem c_X6_noLimb (l : Launch) (G : GT) (a1 : Int32) (M : Mem) : CMi l G true yX6_noLimb cX6_noLimb 2 (some .boolean) 1 [.ref (ad G 0), .int a1] M (f_X6_noLimb a1 M) M := by
  obtain ⟨r, hk⟩ : ∃ r, f_X6_noLimb a1 M = r := ⟨_, rfl⟩
  rw [hk]
  unfold f_X6_noLimb at hk
  refine CMi.ofZ (by decide) (Nat.le_of_ble_eq_true rfl) ?_
  intro p e s m args below meth c Q hx hb hml hown hg hK hW hret ls hl
  have hl : lv_has ls 2 [(0, .ref (ad G 0)), (1, .int a1)] := hl
  refine lv_iload_n hx hb dX6_noLimb_0 rfl (lv_at hl 1 rfl) ?_
  refine lv_iconst (v := (0 : Int32)) hx hb dX6_noLimb_1 (by decide) ?_
  refine lv_aload_n hx hb dX6_noLimb_2 rfl (lv_at hl 0 rfl) ?_
  refine gt_X6_10 hx hb hg hown hK hW kd_0 dX6_noLimb_3 ?_
  refine gt_X6_89 hx hb hg hown hK hW kd_1 dX6_noLimb_6 ?_
  refine lv_iconst (v := (1 : Int32)) hx hb dX6_noLimb_9 (by decide) ?_
  refine lv_isub hx hb dX6_noLimb_10 ?_
  refine cl_i (rn_S g_278 g_279 g_1 g_280 hd_X6_outside (Nat.le_of_ble_eq_true rfl) hx hb hml hown hg hK hW (As := [.int a1, .int (0 : Int32), .int ((M.1 1 4) - (1 : Int32))]) (c_X6_outside l G a1 (0 : Int32) ((M.1 1 4) - (1 : Int32)) M) (by decide) rfl hl.1 rfl (Nat.le_of_ble_eq_true rfl) dX6_noLimb_11) hW (fun H locs hW => ?_)
  have hz := (b_X6_outside a1 (0 : Int32) ((M.1 1 4) - (1 : Int32)))
  subst hk
  exact hret _ _ _ _ hz hW dX6_noLimb_14
def f_X6_ties (a1 : Int32) (M : Mem) : Option (Int32 × Mem) :=
  if (f_X6_noLimb a1 M) = (0 : Int32) then (
    ob (f_X2_wornOf 1 a1 M) (fun x2 =>
    if (f_X6_isSnapped x2) = (0 : Int32) then (
      ob2 (f_X6_refuseNo M) (fun x9 M10 =>
      some (x9, M10)))
    else (
      ob (f_X2_wornOf 1 a1 M) (fun x4 =>
      ob (f_X2_remember 1 M) (fun M6 =>
      ob (f_X6_put ((1 + 5) + 2) a1 (0 : Int32) M6) (fun M8 =>
      some (x4, M8)))))))
  else (
    ob2 (f_X6_refuseBad ((-1002) : Int32) M) (fun x12 M13 =>
    some (x12, M13)))
set_option maxHeartbeats 4000000 in
set_option maxRecDepth 100000 in
theorem c_X6_ties (l : Launch) (G : GT) (a1 : Int32) (M : Mem) {r : Int32} {M' : Mem} (hk : f_X6_ties a1 M = some (r, M')) : CMi l G true yX6_ties cX6_ties 3 (some .int) 3 [.ref (ad G 0), .int a1] M r M' := by
  unfold f_X6_ties at hk
  refine CMi.of (by decide) (Nat.le_of_ble_eq_true rfl) ?_
  intro p e s m args below meth c Q hx hb hml hown hg hK hW hret ls hl
  have hl : lv_has ls 3 [(0, .ref (ad G 0)), (1, .int a1)] := hl
  refine lv_aload_n hx hb dX6_ties_0 rfl (lv_at hl 0 rfl) ?_
  refine lv_iload_n hx hb dX6_ties_1 rfl (lv_at hl 1 rfl) ?_
  refine cl_i (rn_V g_514 g_516 gs_30 g_1 g_517 hd_X6_noLimb (Nat.le_of_ble_eq_true rfl) (ci := 6) rfl (inC kd_0 rfl) (shp6 kd_0) hx hb hml hown hg hK hW (As := [.int a1]) (c_X6_noLimb l G a1 M) (by decide) rfl hl.1 rfl (Nat.le_of_ble_eq_true rfl) dX6_ties_2) hW (fun H locs hW => ?_)
  refine lv_if_eq (tgt := 16) hx hb dX6_ties_5 (by decide) (fun c14 => ?_) (fun c14 => ?_)
  · replace hk := ite_t hk c14
    refine lv_aload_n hx hb dX6_ties_16 rfl (lv_at hl 0 rfl) ?_
    refine gt_X6_10 hx hb hg hown hK hW kd_0 dX6_ties_17 ?_
    refine lv_iload_n hx hb dX6_ties_20 rfl (lv_at hl 1 rfl) ?_
    replace hk := ob_s hk
    obtain ⟨x2, hx2, hk⟩ := hk
    refine cl_i (rn_VN n_518 g_459 gs_21 g_2 g_460 hd_X2_wornOf (Nat.le_of_ble_eq_true rfl) (ci := 2) rfl (inC kd_1 rfl) (shp2 kd_1) hx hb hml hown hg hK hW (As := [.int a1]) (c_X2_wornOf l G kd_1 a1 M hx2) (by decide) rfl hl.1 rfl (Nat.le_of_ble_eq_true rfl) dX6_ties_21) hW (fun H locs hW => ?_)
    refine cl_i (rn_S g_519 g_462 g_1 g_463 hd_X6_isSnapped (Nat.le_of_ble_eq_true rfl) hx hb hml hown hg hK hW (As := [.int x2]) (c_X6_isSnapped l G x2 M) (by decide) rfl hl.1 rfl (Nat.le_of_ble_eq_true rfl) dX6_ties_24) hW (fun H locs hW => ?_)
    refine lv_if_ne (tgt := 35) hx hb dX6_ties_27 (by decide) (fun c11 => ?_) (fun c11 => ?_)
    · replace hk := ite_f hk c11
      refine lv_aload_n hx hb dX6_ties_35 rfl (lv_at hl 0 rfl) ?_
      refine gt_X6_10 hx hb hg hown hK hW kd_0 dX6_ties_36 ?_
      refine lv_iload_n hx hb dX6_ties_39 rfl (lv_at hl 1 rfl) ?_
      replace hk := ob_s hk
      obtain ⟨x4, hx4, hk⟩ := hk
      refine cl_i (rn_VN n_518 g_459 gs_21 g_2 g_460 hd_X2_wornOf (Nat.le_of_ble_eq_true rfl) (ci := 2) rfl (inC kd_1 rfl) (shp2 kd_1) hx hb hml hown hg hK hW (As := [.int a1]) (c_X2_wornOf l G kd_1 a1 M hx4) (by decide) rfl hl.1 rfl (Nat.le_of_ble_eq_true rfl) dX6_ties_40) hW (fun H locs hW => ?_)
      refine lv_istore_n (lv' := [(2, .int x4), (0, .ref (ad G 0)), (1, .int a1)]) hx hb dX6_ties_43 rfl hl (by decide) rfl (fun ls hl => ?_)
      refine lv_aload_n hx hb dX6_ties_44 rfl (lv_at hl 1 rfl) ?_
      refine gt_X6_10 hx hb hg hown hK hW kd_0 dX6_ties_45 ?_
      replace hk := ob_s hk
      obtain ⟨M6, hx5, hk⟩ := hk
      refine cl_v (rn_VN n_499 g_501 gs_28 g_2 g_502 hd_X2_remember (Nat.le_of_ble_eq_true rfl) (ci := 2) rfl (inC kd_1 rfl) (shp2 kd_1) hx hb hml hown hg hK hW (As := []) (c_X2_remember l G kd_1 M hx5) (by decide) rfl hl.1 rfl (Nat.le_of_ble_eq_true rfl) dX6_ties_48) hW (fun H locs hW => ?_)
      refine lv_aload_n hx hb dX6_ties_51 rfl (lv_at hl 1 rfl) ?_
      refine gt_X6_10 hx hb hg hown hK hW kd_0 dX6_ties_52 ?_
      refine gt_X6_118 hx hb hg hown hK hW kd_1 dX6_ties_55 ?_
      refine gt_X6_148 hx hb hg hown hK hW (k2_5 kd_1) dX6_ties_58 ?_
      refine lv_iload_n hx hb dX6_ties_61 rfl (lv_at hl 2 rfl) ?_
      refine lv_iconst (v := (0 : Int32)) hx hb dX6_ties_62 (by decide) ?_
      replace hk := ob_s hk
      obtain ⟨M8, hx7, hk⟩ := hk
      refine cl_v (rn_S g_520 g_294 g_1 g_295 hd_X6_put (Nat.le_of_ble_eq_true rfl) hx hb hml hown hg hK hW (As := [.ref (ad G ((1 + 5) + 2)), .int a1, .int (0 : Int32)]) (c_X6_put l G (k1_2 (k2_5 kd_1)) a1 (0 : Int32) M6 hx7) (by decide) rfl hl.1 rfl (Nat.le_of_ble_eq_true rfl) dX6_ties_63) hW (fun H locs hW => ?_)
      refine lv_iload_n hx hb dX6_ties_66 rfl (lv_at hl 0 rfl) ?_
      obtain ⟨rfl, rfl⟩ := sp2 hk
      exact hret _ _ _ _ hW dX6_ties_67
    · replace hk := ite_t hk c11
      refine lv_aload_n hx hb dX6_ties_30 rfl (lv_at hl 0 rfl) ?_
      replace hk := ob2_s hk
      obtain ⟨x9, M10, hx9, hk⟩ := hk
      refine cl_i (rn_V g_495 g_497 gs_27 g_1 g_498 hd_X6_refuseNo (Nat.le_of_ble_eq_true rfl) (ci := 6) rfl (inC kd_0 rfl) (shp6 kd_0) hx hb hml hown hg hK hW (As := []) (c_X6_refuseNo l G M hx9) (by decide) rfl hl.1 rfl (Nat.le_of_ble_eq_true rfl) dX6_ties_31) hW (fun H locs hW => ?_)
      obtain ⟨rfl, rfl⟩ := sp2 hk
      exact hret _ _ _ _ hW dX6_ties_34
  · replace hk := ite_f hk c14
    refine lv_aload_n hx hb dX6_ties_8 rfl (lv_at hl 0 rfl) ?_
    refine lv_sipush (v := ((-1002) : Int32)) hx hb dX6_ties_9 (by decide) ?_
    replace hk := ob2_s hk
    obtain ⟨x12, M13, hx12, hk⟩ := hk
    refine cl_i (rn_V g_281 g_283 gs_0 g_1 g_284 hd_X6_refuseBad (Nat.le_of_ble_eq_true rfl) (ci := 6) rfl (inC kd_0 rfl) (shp6 kd_0) hx hb hml hown hg hK hW (As := [.int ((-1002) : Int32)]) (c_X6_refuseBad l G ((-1002) : Int32) M hx12) (by decide) rfl hl.1 rfl (Nat.le_of_ble_eq_true rfl) dX6_ties_12) hW (fun H locs hW => ?_)
    obtain ⟨rfl, rfl⟩ := sp2 hk
    exact hret _ _ _ _ hW dX6_ties_15
def f_X6_hangs (a1 : Int32) (a2 : Int32) (M : Mem) : Option (Int32 × Mem) :=
  if (f_X6_noLimb a1 M) = (0 : Int32) then (
    if (f_X6_outside a2 (0 : Int32) (8 : Int32)) = (0 : Int32) then (
      ob (f_X2_holeOf 1 a1 M) (fun x5 =>
      if x5 = a2 then (
        ob2 (f_X6_refuseNo M) (fun x10 M11 =>
        some (x10, M11)))
      else (
        ob (f_X2_remember 1 M) (fun M7 =>
        ob (f_X6_put ((1 + 5) + 1) a1 a2 M7) (fun M9 =>
        some (x5, M9))))))
    else (
      ob2 (f_X6_refuseBad ((-1002) : Int32) M) (fun x13 M14 =>
      some (x13, M14))))
  else (
    ob2 (f_X6_refuseBad ((-1002) : Int32) M) (fun x2 M3 =>
    some (x2, M3)))
set_option maxHeartbeats 4000000 in
set_option maxRecDepth 100000 in
theorem c_X6_hangs (l : Launch) (G : GT) (a1 : Int32) (a2 : Int32) (M : Mem) {r : Int32} {M' : Mem} (hk : f_X6_hangs a1 a2 M = some (r, M')) : CMi l G true yX6_hangs cX6_hangs 4 (some .int) 3 [.ref (ad G 0), .int a1, .int a2] M r M' := by
  unfold f_X6_hangs at hk
  refine CMi.of (by decide) (Nat.le_of_ble_eq_true rfl) ?_
  intro p e s m args below meth c Q hx hb hml hown hg hK hW hret ls hl
  have hl : lv_has ls 4 [(0, .ref (ad G 0)), (1, .int a1), (2, .int a2)] := hl
  refine lv_aload_n hx hb dX6_hangs_0 rfl (lv_at hl 0 rfl) ?_
  refine lv_iload_n hx hb dX6_hangs_1 rfl (lv_at hl 1 rfl) ?_
  refine cl_i (rn_V g_514 g_516 gs_30 g_1 g_517 hd_X6_noLimb (Nat.le_of_ble_eq_true rfl) (ci := 6) rfl (inC kd_0 rfl) (shp6 kd_0) hx hb hml hown hg hK hW (As := [.int a1]) (c_X6_noLimb l G a1 M) (by decide) rfl hl.1 rfl (Nat.le_of_ble_eq_true rfl) dX6_hangs_2) hW (fun H locs hW => ?_)
  refine lv_if_ne (tgt := 18) hx hb dX6_hangs_5 (by decide) (fun c16 => ?_) (fun c16 => ?_)
  · replace hk := ite_f hk c16
    refine lv_aload_n hx hb dX6_hangs_18 rfl (lv_at hl 0 rfl) ?_
    refine lv_sipush (v := ((-1002) : Int32)) hx hb dX6_hangs_19 (by decide) ?_
    replace hk := ob2_s hk
    obtain ⟨x2, M3, hx2, hk⟩ := hk
    refine cl_i (rn_V g_281 g_283 gs_0 g_1 g_284 hd_X6_refuseBad (Nat.le_of_ble_eq_true rfl) (ci := 6) rfl (inC kd_0 rfl) (shp6 kd_0) hx hb hml hown hg hK hW (As := [.int ((-1002) : Int32)]) (c_X6_refuseBad l G ((-1002) : Int32) M hx2) (by decide) rfl hl.1 rfl (Nat.le_of_ble_eq_true rfl) dX6_hangs_22) hW (fun H locs hW => ?_)
    obtain ⟨rfl, rfl⟩ := sp2 hk
    exact hret _ _ _ _ hW dX6_hangs_25
  · replace hk := ite_t hk c16
    refine lv_iload_n hx hb dX6_hangs_8 rfl (lv_at hl 2 rfl) ?_
    refine lv_iconst (v := (0 : Int32)) hx hb dX6_hangs_9 (by decide) ?_
    refine lv_bipush (v := (8 : Int32)) hx hb dX6_hangs_10 (by decide) ?_
    refine cl_i (rn_S g_278 g_279 g_1 g_280 hd_X6_outside (Nat.le_of_ble_eq_true rfl) hx hb hml hown hg hK hW (As := [.int a2, .int (0 : Int32), .int (8 : Int32)]) (c_X6_outside l G a2 (0 : Int32) (8 : Int32) M) (by decide) rfl hl.1 rfl (Nat.le_of_ble_eq_true rfl) dX6_hangs_12) hW (fun H locs hW => ?_)
    refine lv_if_eq (tgt := 26) hx hb dX6_hangs_15 (by decide) (fun c15 => ?_) (fun c15 => ?_)
    · replace hk := ite_t hk c15
      refine lv_aload_n hx hb dX6_hangs_26 rfl (lv_at hl 0 rfl) ?_
      refine gt_X6_10 hx hb hg hown hK hW kd_0 dX6_hangs_27 ?_
      refine lv_iload_n hx hb dX6_hangs_30 rfl (lv_at hl 1 rfl) ?_
      replace hk := ob_s hk
      obtain ⟨x5, hx5, hk⟩ := hk
      refine cl_i (rn_VN n_525 g_527 gs_31 g_2 g_528 hd_X2_holeOf (Nat.le_of_ble_eq_true rfl) (ci := 2) rfl (inC kd_1 rfl) (shp2 kd_1) hx hb hml hown hg hK hW (As := [.int a1]) (c_X2_holeOf l G kd_1 a1 M hx5) (by decide) rfl hl.1 rfl (Nat.le_of_ble_eq_true rfl) dX6_hangs_31) hW (fun H locs hW => ?_)
      refine lv_istore_n (lv' := [(3, .int x5), (0, .ref (ad G 0)), (1, .int a1), (2, .int a2)]) hx hb dX6_hangs_34 rfl hl (by decide) rfl (fun ls hl => ?_)
      refine lv_iload_n hx hb dX6_hangs_35 rfl (lv_at hl 0 rfl) ?_
      refine lv_iload_n hx hb dX6_hangs_36 rfl (lv_at hl 3 rfl) ?_
      refine lv_icmp_ne (tgt := 45) hx hb dX6_hangs_37 (by decide) (fun c12 => ?_) (fun c12 => ?_)
      · replace hk := ite_f hk c12
        refine lv_aload_n hx hb dX6_hangs_45 rfl (lv_at hl 1 rfl) ?_
        refine gt_X6_10 hx hb hg hown hK hW kd_0 dX6_hangs_46 ?_
        replace hk := ob_s hk
        obtain ⟨M7, hx6, hk⟩ := hk
        refine cl_v (rn_VN n_499 g_501 gs_28 g_2 g_502 hd_X2_remember (Nat.le_of_ble_eq_true rfl) (ci := 2) rfl (inC kd_1 rfl) (shp2 kd_1) hx hb hml hown hg hK hW (As := []) (c_X2_remember l G kd_1 M hx6) (by decide) rfl hl.1 rfl (Nat.le_of_ble_eq_true rfl) dX6_hangs_49) hW (fun H locs hW => ?_)
        refine lv_aload_n hx hb dX6_hangs_52 rfl (lv_at hl 1 rfl) ?_
        refine gt_X6_10 hx hb hg hown hK hW kd_0 dX6_hangs_53 ?_
        refine gt_X6_118 hx hb hg hown hK hW kd_1 dX6_hangs_56 ?_
        refine gt_X6_158 hx hb hg hown hK hW (k2_5 kd_1) dX6_hangs_59 ?_
        refine lv_iload_n hx hb dX6_hangs_62 rfl (lv_at hl 2 rfl) ?_
        refine lv_iload_n hx hb dX6_hangs_63 rfl (lv_at hl 3 rfl) ?_
        replace hk := ob_s hk
        obtain ⟨M9, hx8, hk⟩ := hk
        refine cl_v (rn_S g_520 g_294 g_1 g_295 hd_X6_put (Nat.le_of_ble_eq_true rfl) hx hb hml hown hg hK hW (As := [.ref (ad G ((1 + 5) + 1)), .int a1, .int a2]) (c_X6_put l G (k1_1 (k2_5 kd_1)) a1 a2 M7 hx8) (by decide) rfl hl.1 rfl (Nat.le_of_ble_eq_true rfl) dX6_hangs_64) hW (fun H locs hW => ?_)
        refine lv_iload_n hx hb dX6_hangs_67 rfl (lv_at hl 0 rfl) ?_
        obtain ⟨rfl, rfl⟩ := sp2 hk
        exact hret _ _ _ _ hW dX6_hangs_68
      · replace hk := ite_t hk c12
        refine lv_aload_n hx hb dX6_hangs_40 rfl (lv_at hl 1 rfl) ?_
        replace hk := ob2_s hk
        obtain ⟨x10, M11, hx10, hk⟩ := hk
        refine cl_i (rn_V g_495 g_497 gs_27 g_1 g_498 hd_X6_refuseNo (Nat.le_of_ble_eq_true rfl) (ci := 6) rfl (inC kd_0 rfl) (shp6 kd_0) hx hb hml hown hg hK hW (As := []) (c_X6_refuseNo l G M hx10) (by decide) rfl hl.1 rfl (Nat.le_of_ble_eq_true rfl) dX6_hangs_41) hW (fun H locs hW => ?_)
        obtain ⟨rfl, rfl⟩ := sp2 hk
        exact hret _ _ _ _ hW dX6_hangs_44
    · replace hk := ite_f hk c15
      refine lv_aload_n hx hb dX6_hangs_18 rfl (lv_at hl 0 rfl) ?_
      refine lv_sipush (v := ((-1002) : Int32)) hx hb dX6_hangs_19 (by decide) ?_
      replace hk := ob2_s hk
      obtain ⟨x13, M14, hx13, hk⟩ := hk
      refine cl_i (rn_V g_281 g_283 gs_0 g_1 g_284 hd_X6_refuseBad (Nat.le_of_ble_eq_true rfl) (ci := 6) rfl (inC kd_0 rfl) (shp6 kd_0) hx hb hml hown hg hK hW (As := [.int ((-1002) : Int32)]) (c_X6_refuseBad l G ((-1002) : Int32) M hx13) (by decide) rfl hl.1 rfl (Nat.le_of_ble_eq_true rfl) dX6_hangs_22) hW (fun H locs hW => ?_)
      obtain ⟨rfl, rfl⟩ := sp2 hk
      exact hret _ _ _ _ hW dX6_hangs_25
def f_X6_undo (M : Mem) : Option (Int32 × Mem) :=
  if (0 : Int32) < (M.1 1 8) then (
    ob (f_X2_goBack 1 M) (fun M2 =>
    some ((M2.1 (1 + 5) 2), M2)))
  else (
    ob2 (f_X6_refuseNo M) (fun x3 M4 =>
    some (x3, M4)))
set_option maxHeartbeats 4000000 in
set_option maxRecDepth 100000 in
theorem c_X6_undo (l : Launch) (G : GT)  (M : Mem) {r : Int32} {M' : Mem} (hk : f_X6_undo  M = some (r, M')) : CMi l G true yX6_undo cX6_undo 1 (some .int) 3 [.ref (ad G 0)] M r M' := by
  unfold f_X6_undo at hk
  refine CMi.of (by decide) (Nat.le_of_ble_eq_true rfl) ?_
  intro p e s m args below meth c Q hx hb hml hown hg hK hW hret ls hl
  have hl : lv_has ls 1 [(0, .ref (ad G 0))] := hl
  refine lv_aload_n hx hb dX6_undo_0 rfl (lv_at hl 0 rfl) ?_
  refine gt_X6_10 hx hb hg hown hK hW kd_0 dX6_undo_1 ?_
  refine gt_X6_161 hx hb hg hown hK hW kd_1 dX6_undo_4 ?_
  refine lv_if_gt (tgt := 15) hx hb dX6_undo_7 (by decide) (fun c5 => ?_) (fun c5 => ?_)
  · replace hk := ite_t hk c5
    refine lv_aload_n hx hb dX6_undo_15 rfl (lv_at hl 0 rfl) ?_
    refine gt_X6_10 hx hb hg hown hK hW kd_0 dX6_undo_16 ?_
    replace hk := ob_s hk
    obtain ⟨M2, hx1, hk⟩ := hk
    refine cl_v (rn_VN n_533 g_535 gs_32 g_2 g_536 hd_X2_goBack (Nat.le_of_ble_eq_true rfl) (ci := 2) rfl (inC kd_1 rfl) (shp2 kd_1) hx hb hml hown hg hK hW (As := []) (c_X2_goBack l G kd_1 M hx1) (by decide) rfl hl.1 rfl (Nat.le_of_ble_eq_true rfl) dX6_undo_19) hW (fun H locs hW => ?_)
    refine lv_aload_n hx hb dX6_undo_22 rfl (lv_at hl 0 rfl) ?_
    refine gt_X6_10 hx hb hg hown hK hW kd_0 dX6_undo_23 ?_
    refine gt_X6_118 hx hb hg hown hK hW kd_1 dX6_undo_26 ?_
    refine gt_X6_121 hx hb hg hown hK hW (k2_5 kd_1) dX6_undo_29 ?_
    obtain ⟨rfl, rfl⟩ := sp2 hk
    exact hret _ _ _ _ hW dX6_undo_32
  · replace hk := ite_f hk c5
    refine lv_aload_n hx hb dX6_undo_10 rfl (lv_at hl 0 rfl) ?_
    replace hk := ob2_s hk
    obtain ⟨x3, M4, hx3, hk⟩ := hk
    refine cl_i (rn_V g_495 g_497 gs_27 g_1 g_498 hd_X6_refuseNo (Nat.le_of_ble_eq_true rfl) (ci := 6) rfl (inC kd_0 rfl) (shp6 kd_0) hx hb hml hown hg hK hW (As := []) (c_X6_refuseNo l G M hx3) (by decide) rfl hl.1 rfl (Nat.le_of_ble_eq_true rfl) dX6_undo_11) hW (fun H locs hW => ?_)
    obtain ⟨rfl, rfl⟩ := sp2 hk
    exact hret _ _ _ _ hW dX6_undo_14
def f_X6_of (a1 : Int32) (a2 : Int32) (M : Mem) : Option (Int32 × Mem) :=
  if (f_X6_noLimb a1 M) = (0 : Int32) then (
    if (f_X6_outside a2 (0 : Int32) (7 : Int32)) = (0 : Int32) then (
      ob (f_X2_tellOf 1 a1 a2 M) (fun x5 =>
      some (x5, M)))
    else (
      ob2 (f_X6_refuseBad ((-1002) : Int32) M) (fun x6 M7 =>
      some (x6, M7))))
  else (
    ob2 (f_X6_refuseBad ((-1002) : Int32) M) (fun x2 M3 =>
    some (x2, M3)))
set_option maxHeartbeats 4000000 in
set_option maxRecDepth 100000 in
theorem c_X6_of (l : Launch) (G : GT) (a1 : Int32) (a2 : Int32) (M : Mem) {r : Int32} {M' : Mem} (hk : f_X6_of a1 a2 M = some (r, M')) : CMi l G true yX6_of cX6_of 3 (some .int) 5 [.ref (ad G 0), .int a1, .int a2] M r M' := by
  unfold f_X6_of at hk
  refine CMi.of (by decide) (Nat.le_of_ble_eq_true rfl) ?_
  intro p e s m args below meth c Q hx hb hml hown hg hK hW hret ls hl
  have hl : lv_has ls 3 [(0, .ref (ad G 0)), (1, .int a1), (2, .int a2)] := hl
  refine lv_aload_n hx hb dX6_of_0 rfl (lv_at hl 0 rfl) ?_
  refine lv_iload_n hx hb dX6_of_1 rfl (lv_at hl 1 rfl) ?_
  refine cl_i (rn_V g_514 g_516 gs_30 g_1 g_517 hd_X6_noLimb (Nat.le_of_ble_eq_true rfl) (ci := 6) rfl (inC kd_0 rfl) (shp6 kd_0) hx hb hml hown hg hK hW (As := [.int a1]) (c_X6_noLimb l G a1 M) (by decide) rfl hl.1 rfl (Nat.le_of_ble_eq_true rfl) dX6_of_2) hW (fun H locs hW => ?_)
  refine lv_if_ne (tgt := 18) hx hb dX6_of_5 (by decide) (fun c9 => ?_) (fun c9 => ?_)
  · replace hk := ite_f hk c9
    refine lv_aload_n hx hb dX6_of_18 rfl (lv_at hl 0 rfl) ?_
    refine lv_sipush (v := ((-1002) : Int32)) hx hb dX6_of_19 (by decide) ?_
    replace hk := ob2_s hk
    obtain ⟨x2, M3, hx2, hk⟩ := hk
    refine cl_i (rn_V g_281 g_283 gs_0 g_1 g_284 hd_X6_refuseBad (Nat.le_of_ble_eq_true rfl) (ci := 6) rfl (inC kd_0 rfl) (shp6 kd_0) hx hb hml hown hg hK hW (As := [.int ((-1002) : Int32)]) (c_X6_refuseBad l G ((-1002) : Int32) M hx2) (by decide) rfl hl.1 rfl (Nat.le_of_ble_eq_true rfl) dX6_of_22) hW (fun H locs hW => ?_)
    obtain ⟨rfl, rfl⟩ := sp2 hk
    exact hret _ _ _ _ hW dX6_of_25
  · replace hk := ite_t hk c9
    refine lv_iload_n hx hb dX6_of_8 rfl (lv_at hl 2 rfl) ?_
    refine lv_iconst (v := (0 : Int32)) hx hb dX6_of_9 (by decide) ?_
    refine lv_bipush (v := (7 : Int32)) hx hb dX6_of_10 (by decide) ?_
    refine cl_i (rn_S g_278 g_279 g_1 g_280 hd_X6_outside (Nat.le_of_ble_eq_true rfl) hx hb hml hown hg hK hW (As := [.int a2, .int (0 : Int32), .int (7 : Int32)]) (c_X6_outside l G a2 (0 : Int32) (7 : Int32) M) (by decide) rfl hl.1 rfl (Nat.le_of_ble_eq_true rfl) dX6_of_12) hW (fun H locs hW => ?_)
    refine lv_if_eq (tgt := 26) hx hb dX6_of_15 (by decide) (fun c8 => ?_) (fun c8 => ?_)
    · replace hk := ite_t hk c8
      refine lv_aload_n hx hb dX6_of_26 rfl (lv_at hl 0 rfl) ?_
      refine gt_X6_10 hx hb hg hown hK hW kd_0 dX6_of_27 ?_
      refine lv_iload_n hx hb dX6_of_30 rfl (lv_at hl 1 rfl) ?_
      refine lv_iload_n hx hb dX6_of_31 rfl (lv_at hl 2 rfl) ?_
      replace hk := ob_s hk
      obtain ⟨x5, hx5, hk⟩ := hk
      refine cl_i (rn_VN n_541 g_543 gs_33 g_2 g_544 hd_X2_tellOf (Nat.le_of_ble_eq_true rfl) (ci := 2) rfl (inC kd_1 rfl) (shp2 kd_1) hx hb hml hown hg hK hW (As := [.int a1, .int a2]) (c_X2_tellOf l G kd_1 a1 a2 M hx5) (by decide) rfl hl.1 rfl (Nat.le_of_ble_eq_true rfl) dX6_of_32) hW (fun H locs hW => ?_)
      obtain ⟨rfl, rfl⟩ := sp2 hk
      exact hret _ _ _ _ hW dX6_of_35
    · replace hk := ite_f hk c8
      refine lv_aload_n hx hb dX6_of_18 rfl (lv_at hl 0 rfl) ?_
      refine lv_sipush (v := ((-1002) : Int32)) hx hb dX6_of_19 (by decide) ?_
      replace hk := ob2_s hk
      obtain ⟨x6, M7, hx6, hk⟩ := hk
      refine cl_i (rn_V g_281 g_283 gs_0 g_1 g_284 hd_X6_refuseBad (Nat.le_of_ble_eq_true rfl) (ci := 6) rfl (inC kd_0 rfl) (shp6 kd_0) hx hb hml hown hg hK hW (As := [.int ((-1002) : Int32)]) (c_X6_refuseBad l G ((-1002) : Int32) M hx6) (by decide) rfl hl.1 rfl (Nat.le_of_ble_eq_true rfl) dX6_of_22) hW (fun H locs hW => ?_)
      obtain ⟨rfl, rfl⟩ := sp2 hk
      exact hret _ _ _ _ hW dX6_of_25
def f_X6_touching (a1 : Int32) (a2 : Int32) (M : Mem) : Option (Int32) :=
  ob (f_X2_wornOf 1 a1 M) (fun x1 =>
  if (f_X6_isSnapped x1) = (0 : Int32) then (
    ob (f_X2_wornOf 1 a2 M) (fun x3 =>
    if (f_X6_isSnapped x3) = (0 : Int32) then (
      ob (f_X2_highIn 1 (1 + 5) a1 M) (fun x5 =>
      ob (f_X2_highIn 1 (1 + 5) a2 M) (fun x6 =>
      if x5 = x6 then (
        some (1 : Int32))
      else (
        some (0 : Int32)))))
    else (
      some (0 : Int32))))
  else (
    some (0 : Int32)))
set_option maxHeartbeats 4000000 in
set_option maxRecDepth 100000 in
theorem c_X6_touching (l : Launch) (G : GT) (a1 : Int32) (a2 : Int32) (M : Mem) {r : Int32} (hk : f_X6_touching a1 a2 M = some r) : CMi l G true yX6_touching cX6_touching 3 (some .boolean) 4 [.ref (ad G 0), .int a1, .int a2] M r M := by
  unfold f_X6_touching at hk
  refine CMi.ofZ (by decide) (Nat.le_of_ble_eq_true rfl) ?_
  intro p e s m args below meth c Q hx hb hml hown hg hK hW hret ls hl
  have hl : lv_has ls 3 [(0, .ref (ad G 0)), (1, .int a1), (2, .int a2)] := hl
  refine lv_aload_n hx hb dX6_touching_0 rfl (lv_at hl 0 rfl) ?_
  refine gt_X6_10 hx hb hg hown hK hW kd_0 dX6_touching_1 ?_
  refine lv_iload_n hx hb dX6_touching_4 rfl (lv_at hl 1 rfl) ?_
  replace hk := ob_s hk
  obtain ⟨x1, hx1, hk⟩ := hk
  refine cl_i (rn_VN n_518 g_459 gs_21 g_2 g_460 hd_X2_wornOf (Nat.le_of_ble_eq_true rfl) (ci := 2) rfl (inC kd_1 rfl) (shp2 kd_1) hx hb hml hown hg hK hW (As := [.int a1]) (c_X2_wornOf l G kd_1 a1 M hx1) (by decide) rfl hl.1 rfl (Nat.le_of_ble_eq_true rfl) dX6_touching_5) hW (fun H locs hW => ?_)
  refine cl_i (rn_S g_519 g_462 g_1 g_463 hd_X6_isSnapped (Nat.le_of_ble_eq_true rfl) hx hb hml hown hg hK hW (As := [.int x1]) (c_X6_isSnapped l G x1 M) (by decide) rfl hl.1 rfl (Nat.le_of_ble_eq_true rfl) dX6_touching_8) hW (fun H locs hW => ?_)
  refine lv_if_ne (tgt := 65) hx hb dX6_touching_11 (by decide) (fun c9 => ?_) (fun c9 => ?_)
  · replace hk := ite_f hk c9
    refine lv_iconst (v := (0 : Int32)) hx hb dX6_touching_65 (by decide) ?_
    obtain rfl := Option.some.inj hk
    exact hret _ _ _ _ (Or.inl rfl) hW dX6_touching_66
  · replace hk := ite_t hk c9
    refine lv_aload_n hx hb dX6_touching_14 rfl (lv_at hl 0 rfl) ?_
    refine gt_X6_10 hx hb hg hown hK hW kd_0 dX6_touching_15 ?_
    refine lv_iload_n hx hb dX6_touching_18 rfl (lv_at hl 2 rfl) ?_
    replace hk := ob_s hk
    obtain ⟨x3, hx3, hk⟩ := hk
    refine cl_i (rn_VN n_518 g_459 gs_21 g_2 g_460 hd_X2_wornOf (Nat.le_of_ble_eq_true rfl) (ci := 2) rfl (inC kd_1 rfl) (shp2 kd_1) hx hb hml hown hg hK hW (As := [.int a2]) (c_X2_wornOf l G kd_1 a2 M hx3) (by decide) rfl hl.1 rfl (Nat.le_of_ble_eq_true rfl) dX6_touching_19) hW (fun H locs hW => ?_)
    refine cl_i (rn_S g_519 g_462 g_1 g_463 hd_X6_isSnapped (Nat.le_of_ble_eq_true rfl) hx hb hml hown hg hK hW (As := [.int x3]) (c_X6_isSnapped l G x3 M) (by decide) rfl hl.1 rfl (Nat.le_of_ble_eq_true rfl) dX6_touching_22) hW (fun H locs hW => ?_)
    refine lv_if_ne (tgt := 65) hx hb dX6_touching_25 (by decide) (fun c8 => ?_) (fun c8 => ?_)
    · replace hk := ite_f hk c8
      refine lv_iconst (v := (0 : Int32)) hx hb dX6_touching_65 (by decide) ?_
      obtain rfl := Option.some.inj hk
      exact hret _ _ _ _ (Or.inl rfl) hW dX6_touching_66
    · replace hk := ite_t hk c8
      refine lv_aload_n hx hb dX6_touching_28 rfl (lv_at hl 0 rfl) ?_
      refine gt_X6_10 hx hb hg hown hK hW kd_0 dX6_touching_29 ?_
      refine lv_aload_n hx hb dX6_touching_32 rfl (lv_at hl 0 rfl) ?_
      refine gt_X6_10 hx hb hg hown hK hW kd_0 dX6_touching_33 ?_
      refine gt_X6_118 hx hb hg hown hK hW kd_1 dX6_touching_36 ?_
      refine lv_iload_n hx hb dX6_touching_39 rfl (lv_at hl 1 rfl) ?_
      replace hk := ob_s hk
      obtain ⟨x5, hx5, hk⟩ := hk
      refine cl_i (rn_VN n_572 g_549 gs_34 g_2 g_550 hd_X2_highIn (Nat.le_of_ble_eq_true rfl) (ci := 2) rfl (inC kd_1 rfl) (shp2 kd_1) hx hb hml hown hg hK hW (As := [.ref (ad G (1 + 5)), .int a1]) (c_X2_highIn l G kd_1 (k2_5 kd_1) a1 M hx5) (by decide) rfl hl.1 rfl (Nat.le_of_ble_eq_true rfl) dX6_touching_40) hW (fun H locs hW => ?_)
      refine lv_aload_n hx hb dX6_touching_43 rfl (lv_at hl 0 rfl) ?_
      refine gt_X6_10 hx hb hg hown hK hW kd_0 dX6_touching_44 ?_
      refine lv_aload_n hx hb dX6_touching_47 rfl (lv_at hl 0 rfl) ?_
      refine gt_X6_10 hx hb hg hown hK hW kd_0 dX6_touching_48 ?_
      refine gt_X6_118 hx hb hg hown hK hW kd_1 dX6_touching_51 ?_
      refine lv_iload_n hx hb dX6_touching_54 rfl (lv_at hl 2 rfl) ?_
      replace hk := ob_s hk
      obtain ⟨x6, hx6, hk⟩ := hk
      refine cl_i (rn_VN n_572 g_549 gs_34 g_2 g_550 hd_X2_highIn (Nat.le_of_ble_eq_true rfl) (ci := 2) rfl (inC kd_1 rfl) (shp2 kd_1) hx hb hml hown hg hK hW (As := [.ref (ad G (1 + 5)), .int a2]) (c_X2_highIn l G kd_1 (k2_5 kd_1) a2 M hx6) (by decide) rfl hl.1 rfl (Nat.le_of_ble_eq_true rfl) dX6_touching_55) hW (fun H locs hW => ?_)
      refine lv_icmp_ne (tgt := 65) hx hb dX6_touching_58 (by decide) (fun c7 => ?_) (fun c7 => ?_)
      · replace hk := ite_f hk c7
        refine lv_iconst (v := (0 : Int32)) hx hb dX6_touching_65 (by decide) ?_
        obtain rfl := Option.some.inj hk
        exact hret _ _ _ _ (Or.inl rfl) hW dX6_touching_66
      · replace hk := ite_t hk c7
        refine lv_iconst (v := (1 : Int32)) hx hb dX6_touching_61 (by decide) ?_
        refine lv_goto (tgt := 66) hx hb dX6_touching_62 (by decide) ?_
        obtain rfl := Option.some.inj hk
        exact hret _ _ _ _ (Or.inr rfl) hW dX6_touching_66
def f_X6_touch_L32 (a1 : Int32) (M : Mem) (x2 : Int32) : Nat → Int32 → Int32 → Option ((Int32) ⊕ (Int32 × Mem))
  | 0, _, _ => none
  | n + 1, x5, x6 =>
    if (M.1 1 4) ≤ x6 then (
      some (Sum.inl x5))
    else (
      ob (f_X6_touching x2 x6 M) (fun x8 =>
      if x8 = (0 : Int32) then (
        lq (x6 + (1 : Int32)) (fun x9 =>
        f_X6_touch_L32 a1 M x2 n x5 x9))
      else (
        if x5 = a1 then (
          some (Sum.inr ((((10 : Int32) * x2) + x6), M)))
        else (
          lq (x5 + (1 : Int32)) (fun x10 =>
          lq (x6 + (1 : Int32)) (fun x11 =>
          f_X6_touch_L32 a1 M x2 n x10 x11))))))
def f_X6_touch_L16 (a1 : Int32) (M : Mem) : Nat → Int32 → Int32 → Option ((Int32) ⊕ (Int32 × Mem))
  | 0, _, _ => none
  | n + 1, x1, x2 =>
    if (M.1 1 4) ≤ x2 then (
      some (Sum.inl x1))
    else (
      lq (x2 + (1 : Int32)) (fun x4 =>
      oeI1 (f_X6_touch_L32 a1 M x2 FU x1 x4) (fun x7 =>
      lq (x2 + (1 : Int32)) (fun x15 =>
      f_X6_touch_L16 a1 M n x7 x15))))
def f_X6_touch (a1 : Int32) (M : Mem) : Option (Int32 × Mem) :=
  if ((-1) : Int32) ≤ a1 then (
    oeT1 (f_X6_touch_L16 a1 M FU (0 : Int32) (0 : Int32)) (fun x3 =>
    if a1 = ((-1) : Int32) then (
      some (x3, M))
    else (
      some (((-5) : Int32), M))))
  else (
    ob2 (f_X6_refuseBad ((-10) : Int32) M) (fun x22 M23 =>
    some (x22, M23)))
set_option maxHeartbeats 4000000 in
set_option maxRecDepth 100000 in
theorem c_X6_touch (l : Launch) (G : GT) (a1 : Int32) (M : Mem) {r : Int32} {M' : Mem} (hk : f_X6_touch a1 M = some (r, M')) : CMi l G true yX6_touch cX6_touch 5 (some .int) 5 [.ref (ad G 0), .int a1] M r M' := by
  unfold f_X6_touch at hk
  refine CMi.of (by decide) (Nat.le_of_ble_eq_true rfl) ?_
  intro p e s m args below meth c Q hx hb hml hown hg hK hW hret ls hl
  have hl : lv_has ls 5 [(0, .ref (ad G 0)), (1, .int a1)] := hl
  refine lv_iload_n hx hb dX6_touch_0 rfl (lv_at hl 1 rfl) ?_
  refine lv_iconst (v := ((-1) : Int32)) hx hb dX6_touch_1 (by decide) ?_
  refine lv_icmp_ge (tgt := 12) hx hb dX6_touch_2 (by decide) (fun c24 => ?_) (fun c24 => ?_)
  · replace hk := ite_t hk c24
    refine lv_iconst (v := (0 : Int32)) hx hb dX6_touch_12 (by decide) ?_
    refine lv_istore_n (lv' := [(2, .int (0 : Int32)), (0, .ref (ad G 0)), (1, .int a1)]) hx hb dX6_touch_13 rfl hl (by decide) rfl (fun ls hl => ?_)
    refine lv_iconst (v := (0 : Int32)) hx hb dX6_touch_14 (by decide) ?_
    refine lv_istore_n (lv' := [(3, .int (0 : Int32)), (2, .int (0 : Int32)), (0, .ref (ad G 0)), (1, .int a1)]) hx hb dX6_touch_15 rfl hl (by decide) rfl (fun ls hl => ?_)
    replace hk := oeT1_s hk
    obtain ⟨z21, hz20, hk_16⟩ := hk
    have KX16 : ∀ (x3 : Int32), z21 = Sum.inl x3 → ∀ (H : Heap) (locs : List Loc) (ls : Array Slot), Ws G true M s H locs → lv_has ls 5 [(1, .int a1), (2, .int x3)] → Wx p l e 5 s m args below meth c Q H locs 82 ls [] := by
      intro x3 ez H locs ls hW hl
      have hk := hk_16.1 x3 ez
      refine lv_iload_n hx hb dX6_touch_82 rfl (lv_at hl 0 rfl) ?_
      refine lv_iconst (v := ((-1) : Int32)) hx hb dX6_touch_83 (by decide) ?_
      refine lv_icmp_ne (tgt := 91) hx hb dX6_touch_84 (by decide) (fun c19 => ?_) (fun c19 => ?_)
      · replace hk := ite_f hk c19
        refine lv_bipush (v := ((-5) : Int32)) hx hb dX6_touch_91 (by decide) ?_
        obtain ⟨rfl, rfl⟩ := sp2 hk
        exact hret _ _ _ _ hW dX6_touch_93
      · replace hk := ite_t hk c19
        refine lv_iload_n hx hb dX6_touch_87 rfl (lv_at hl 1 rfl) ?_
        refine lv_goto (tgt := 93) hx hb dX6_touch_88 (by decide) ?_
        obtain ⟨rfl, rfl⟩ := sp2 hk
        exact hret _ _ _ _ hW dX6_touch_93
    have LH16 : ∀ (n : Nat) (x1 : Int32) (x2 : Int32) (H : Heap) (locs : List Loc) (ls : Array Slot), f_X6_touch_L16 a1 M n x1 x2 = some z21 → Ws G true M s H locs → lv_has ls 5 [(0, .ref (ad G 0)), (1, .int a1), (2, .int x1), (3, .int x2)] → Wx p l e 5 s m args below meth c Q H locs 16 ls [] := by
      clear hz20
      intro n
      induction n with
      | zero => intro _ _ _ _ _ hk; cases hk
      | succ n ih16 =>
        intro x1 x2 H locs ls hk hW hl
        rw [f_X6_touch_L16.eq_2] at hk
        refine lv_iload_n hx hb dX6_touch_16 rfl (lv_at hl 3 rfl) ?_
        refine lv_aload_n hx hb dX6_touch_17 rfl (lv_at hl 0 rfl) ?_
        refine gt_X6_10 hx hb hg hown hK hW kd_0 dX6_touch_18 ?_
        refine gt_X6_89 hx hb hg hown hK hW kd_1 dX6_touch_21 ?_
        refine lv_icmp_ge (tgt := 82) hx hb dX6_touch_24 (by decide) (fun c18 => ?_) (fun c18 => ?_)
        · replace hk := ite_t hk c18
          obtain rfl := Option.some.inj hk
          exact KX16 _ rfl _ _ _ hW (lv_sub hl [1, 2] rfl)
        · replace hk := ite_f hk c18
          refine lv_iload_n hx hb dX6_touch_27 rfl (lv_at hl 3 rfl) ?_
          refine lv_iconst (v := (1 : Int32)) hx hb dX6_touch_28 (by decide) ?_
          refine lv_iadd hx hb dX6_touch_29 ?_
          replace hk := lq_s hk
          obtain ⟨x4, ex4, hk⟩ := hk
          refine nm_i ex4 ?_
          refine lv_istore (lv' := [(4, .int x4), (0, .ref (ad G 0)), (1, .int a1), (2, .int x1), (3, .int x2)]) hx hb dX6_touch_30 hl (by decide) rfl (fun ls hl => ?_)
          replace hk := oeI1_s hk
          obtain ⟨z17, hz16, hk_32⟩ := hk
          have KX32 : ∀ (x7 : Int32), z17 = Sum.inl x7 → ∀ (H : Heap) (locs : List Loc) (ls : Array Slot), Ws G true M s H locs → lv_has ls 5 [(0, .ref (ad G 0)), (1, .int a1), (2, .int x7), (3, .int x2)] → Wx p l e 5 s m args below meth c Q H locs 76 ls [] := by
            intro x7 ez H locs ls hW hl
            have hk := hk_32.1 x7 ez
            replace hk := lq_s hk
            obtain ⟨x15, ex15, hk⟩ := hk
            refine lv_iinc (v := x15) (lv' := [(3, .int x15), (0, .ref (ad G 0)), (1, .int a1), (2, .int x7)]) hx hb dX6_touch_76 hl (k := 3) rfl (by rw [ex15]; rfl) (by decide) rfl (fun ls hl => ?_)
            refine lv_goto (tgt := 16) hx hb dX6_touch_79 (by decide) ?_
            exact ih16 _ _ _ _ _ hk hW (lv_sub hl [1, 2, 3, 0] rfl)
          have LH32 : ∀ (n : Nat) (x5 : Int32) (x6 : Int32) (H : Heap) (locs : List Loc) (ls : Array Slot), f_X6_touch_L32 a1 M x2 n x5 x6 = some z17 → Ws G true M s H locs → lv_has ls 5 [(0, .ref (ad G 0)), (1, .int a1), (2, .int x5), (3, .int x2), (4, .int x6)] → Wx p l e 5 s m args below meth c Q H locs 32 ls [] := by
            clear hz16
            intro n
            induction n with
            | zero => intro _ _ _ _ _ hk; cases hk
            | succ n ih32 =>
              intro x5 x6 H locs ls hk hW hl
              rw [f_X6_touch_L32.eq_2] at hk
              refine lv_iload hx hb dX6_touch_32 (lv_at hl 4 rfl) ?_
              refine lv_aload_n hx hb dX6_touch_34 rfl (lv_at hl 0 rfl) ?_
              refine gt_X6_10 hx hb hg hown hK hW kd_0 dX6_touch_35 ?_
              refine gt_X6_89 hx hb hg hown hK hW kd_1 dX6_touch_38 ?_
              refine lv_icmp_ge (tgt := 76) hx hb dX6_touch_41 (by decide) (fun c14 => ?_) (fun c14 => ?_)
              · replace hk := ite_t hk c14
                obtain rfl := Option.some.inj hk
                exact KX32 _ rfl _ _ _ hW (lv_sub hl [0, 1, 2, 3] rfl)
              · replace hk := ite_f hk c14
                refine lv_aload_n hx hb dX6_touch_44 rfl (lv_at hl 0 rfl) ?_
                refine lv_iload_n hx hb dX6_touch_45 rfl (lv_at hl 3 rfl) ?_
                refine lv_iload hx hb dX6_touch_46 (lv_at hl 4 rfl) ?_
                replace hk := ob_s hk
                obtain ⟨x8, hx8, hk⟩ := hk
                refine cl_i (rn_V g_568 g_570 gs_36 g_1 g_571 hd_X6_touching (Nat.le_of_ble_eq_true rfl) (ci := 6) rfl (inC kd_0 rfl) (shp6 kd_0) hx hb hml hown hg hK hW (As := [.int x2, .int x6]) (c_X6_touching l G x2 x6 M hx8) (by decide) rfl hl.1 rfl (Nat.le_of_ble_eq_true rfl) dX6_touch_48) hW (fun H locs hW => ?_)
                refine lv_if_eq (tgt := 70) hx hb dX6_touch_51 (by decide) (fun c13 => ?_) (fun c13 => ?_)
                · replace hk := ite_t hk c13
                  replace hk := lq_s hk
                  obtain ⟨x9, ex9, hk⟩ := hk
                  refine lv_iinc (v := x9) (lv' := [(4, .int x9), (0, .ref (ad G 0)), (1, .int a1), (2, .int x5), (3, .int x2)]) hx hb dX6_touch_70 hl (k := 4) rfl (by rw [ex9]; rfl) (by decide) rfl (fun ls hl => ?_)
                  refine lv_goto (tgt := 32) hx hb dX6_touch_73 (by decide) ?_
                  exact ih32 _ _ _ _ _ hk hW (lv_sub hl [1, 2, 3, 4, 0] rfl)
                · replace hk := ite_f hk c13
                  refine lv_iload_n hx hb dX6_touch_54 rfl (lv_at hl 2 rfl) ?_
                  refine lv_iload_n hx hb dX6_touch_55 rfl (lv_at hl 1 rfl) ?_
                  refine lv_icmp_ne (tgt := 67) hx hb dX6_touch_56 (by decide) (fun c12 => ?_) (fun c12 => ?_)
                  · replace hk := ite_f hk c12
                    replace hk := lq_s hk
                    obtain ⟨x10, ex10, hk⟩ := hk
                    refine lv_iinc (v := x10) (lv' := [(2, .int x10), (0, .ref (ad G 0)), (1, .int a1), (3, .int x2), (4, .int x6)]) hx hb dX6_touch_67 hl (k := 2) rfl (by rw [ex10]; rfl) (by decide) rfl (fun ls hl => ?_)
                    replace hk := lq_s hk
                    obtain ⟨x11, ex11, hk⟩ := hk
                    refine lv_iinc (v := x11) (lv' := [(4, .int x11), (2, .int x10), (0, .ref (ad G 0)), (1, .int a1), (3, .int x2)]) hx hb dX6_touch_70 hl (k := 4) rfl (by rw [ex11]; rfl) (by decide) rfl (fun ls hl => ?_)
                    refine lv_goto (tgt := 32) hx hb dX6_touch_73 (by decide) ?_
                    exact ih32 _ _ _ _ _ hk hW (lv_sub hl [2, 3, 1, 4, 0] rfl)
                  · replace hk := ite_t hk c12
                    refine lv_bipush (v := (10 : Int32)) hx hb dX6_touch_59 (by decide) ?_
                    refine lv_iload_n hx hb dX6_touch_61 rfl (lv_at hl 3 rfl) ?_
                    refine lv_imul hx hb dX6_touch_62 ?_
                    refine lv_iload hx hb dX6_touch_63 (lv_at hl 4 rfl) ?_
                    refine lv_iadd hx hb dX6_touch_65 ?_
                    obtain rfl := Option.some.inj hk
                    have hk := hk_32.2 _ rfl
                    obtain rfl := Option.some.inj hk
                    have hk := hk_16.2 _ rfl
                    obtain ⟨rfl, rfl⟩ := sp2 hk
                    exact hret _ _ _ _ hW dX6_touch_66
          exact LH32 FU _ _ _ _ _ hz16 hW (lv_sub hl [1, 2, 3, 4, 0] rfl)
    exact LH16 FU _ _ _ _ _ hz20 hW (lv_sub hl [2, 3, 1, 0] rfl)
  · replace hk := ite_f hk c24
    refine lv_aload_n hx hb dX6_touch_5 rfl (lv_at hl 0 rfl) ?_
    refine lv_bipush (v := ((-10) : Int32)) hx hb dX6_touch_6 (by decide) ?_
    replace hk := ob2_s hk
    obtain ⟨x22, M23, hx22, hk⟩ := hk
    refine cl_i (rn_V g_281 g_283 gs_0 g_1 g_284 hd_X6_refuseBad (Nat.le_of_ble_eq_true rfl) (ci := 6) rfl (inC kd_0 rfl) (shp6 kd_0) hx hb hml hown hg hK hW (As := [.int ((-10) : Int32)]) (c_X6_refuseBad l G ((-10) : Int32) M hx22) (by decide) rfl hl.1 rfl (Nat.le_of_ble_eq_true rfl) dX6_touch_8) hW (fun H locs hW => ?_)
    obtain ⟨rfl, rfl⟩ := sp2 hk
    exact hret _ _ _ _ hW dX6_touch_11
def f_X6_safe_L27 (a1 : Int32) (M : Mem) : Nat → Int32 → Int32 → Option ((Int32 × Int32) ⊕ (Int32 × Mem))
  | 0, _, _ => none
  | n + 1, x3, x4 =>
    if (60 : Int32) < x4 then (
      some (Sum.inl (x3, x4)))
    else (
      if (f_X6_isSnapped x3) = (0 : Int32) then (
        ob (f_X2_weightOf 1 a1 M) (fun x8 =>
        lq (f_X6_wornBehind x3 x8 (M.1 (1 + 5) 1)) (fun x10 =>
        lq (x4 + (1 : Int32)) (fun x11 =>
        f_X6_safe_L27 a1 M n x10 x11))))
      else (
        some (Sum.inr (x4, M))))
def f_X6_safe (a1 : Int32) (M : Mem) : Option (Int32 × Mem) :=
  if (f_X6_noLimb a1 M) = (0 : Int32) then (
    ob (f_X2_wornOf 1 a1 M) (fun x2 =>
    oeT2 (f_X6_safe_L27 a1 M FU x2 (0 : Int32)) (fun x5 x6 =>
    some (((-1001) : Int32), M))))
  else (
    ob2 (f_X6_refuseBad ((-1002) : Int32) M) (fun x16 M17 =>
    some (x16, M17)))
set_option maxHeartbeats 4000000 in
set_option maxRecDepth 100000 in
theorem c_X6_safe (l : Launch) (G : GT) (a1 : Int32) (M : Mem) {r : Int32} {M' : Mem} (hk : f_X6_safe a1 M = some (r, M')) : CMi l G true yX6_safe cX6_safe 4 (some .int) 2 [.ref (ad G 0), .int a1] M r M' := by
  unfold f_X6_safe at hk
  refine CMi.of (by decide) (Nat.le_of_ble_eq_true rfl) ?_
  intro p e s m args below meth c Q hx hb hml hown hg hK hW hret ls hl
  have hl : lv_has ls 4 [(0, .ref (ad G 0)), (1, .int a1)] := hl
  refine lv_aload_n hx hb dX6_safe_0 rfl (lv_at hl 0 rfl) ?_
  refine lv_iload_n hx hb dX6_safe_1 rfl (lv_at hl 1 rfl) ?_
  refine cl_i (rn_V g_514 g_516 gs_30 g_1 g_517 hd_X6_noLimb (Nat.le_of_ble_eq_true rfl) (ci := 6) rfl (inC kd_0 rfl) (shp6 kd_0) hx hb hml hown hg hK hW (As := [.int a1]) (c_X6_noLimb l G a1 M) (by decide) rfl hl.1 rfl (Nat.le_of_ble_eq_true rfl) dX6_safe_2) hW (fun H locs hW => ?_)
  refine lv_if_eq (tgt := 16) hx hb dX6_safe_5 (by decide) (fun c18 => ?_) (fun c18 => ?_)
  · replace hk := ite_t hk c18
    refine lv_aload_n hx hb dX6_safe_16 rfl (lv_at hl 0 rfl) ?_
    refine gt_X6_10 hx hb hg hown hK hW kd_0 dX6_safe_17 ?_
    refine lv_iload_n hx hb dX6_safe_20 rfl (lv_at hl 1 rfl) ?_
    replace hk := ob_s hk
    obtain ⟨x2, hx2, hk⟩ := hk
    refine cl_i (rn_VN n_518 g_459 gs_21 g_2 g_460 hd_X2_wornOf (Nat.le_of_ble_eq_true rfl) (ci := 2) rfl (inC kd_1 rfl) (shp2 kd_1) hx hb hml hown hg hK hW (As := [.int a1]) (c_X2_wornOf l G kd_1 a1 M hx2) (by decide) rfl hl.1 rfl (Nat.le_of_ble_eq_true rfl) dX6_safe_21) hW (fun H locs hW => ?_)
    refine lv_istore_n (lv' := [(2, .int x2), (0, .ref (ad G 0)), (1, .int a1)]) hx hb dX6_safe_24 rfl hl (by decide) rfl (fun ls hl => ?_)
    refine lv_iconst (v := (0 : Int32)) hx hb dX6_safe_25 (by decide) ?_
    refine lv_istore_n (lv' := [(3, .int (0 : Int32)), (2, .int x2), (0, .ref (ad G 0)), (1, .int a1)]) hx hb dX6_safe_26 rfl hl (by decide) rfl (fun ls hl => ?_)
    replace hk := oeT2_s hk
    obtain ⟨z15, hz14, hk_27⟩ := hk
    have KX27 : ∀ (x5 : Int32) (x6 : Int32), z15 = Sum.inl (x5, x6) → ∀ (H : Heap) (locs : List Loc) (ls : Array Slot), Ws G true M s H locs → lv_has ls 4 [] → Wx p l e 2 s m args below meth c Q H locs 71 ls [] := by
      intro x5 x6 ez H locs ls hW hl
      have hk := hk_27.1 x5 x6 ez
      refine lv_sipush (v := ((-1001) : Int32)) hx hb dX6_safe_71 (by decide) ?_
      obtain ⟨rfl, rfl⟩ := sp2 hk
      exact hret _ _ _ _ hW dX6_safe_74
    have LH27 : ∀ (n : Nat) (x3 : Int32) (x4 : Int32) (H : Heap) (locs : List Loc) (ls : Array Slot), f_X6_safe_L27 a1 M n x3 x4 = some z15 → Ws G true M s H locs → lv_has ls 4 [(0, .ref (ad G 0)), (1, .int a1), (2, .int x3), (3, .int x4)] → Wx p l e 2 s m args below meth c Q H locs 27 ls [] := by
      clear hz14
      intro n
      induction n with
      | zero => intro _ _ _ _ _ hk; cases hk
      | succ n ih27 =>
        intro x3 x4 H locs ls hk hW hl
        rw [f_X6_safe_L27.eq_2] at hk
        refine lv_iload_n hx hb dX6_safe_27 rfl (lv_at hl 3 rfl) ?_
        refine lv_bipush (v := (60 : Int32)) hx hb dX6_safe_28 (by decide) ?_
        refine lv_icmp_gt (tgt := 71) hx hb dX6_safe_30 (by decide) (fun c13 => ?_) (fun c13 => ?_)
        · replace hk := ite_t hk c13
          obtain rfl := Option.some.inj hk
          exact KX27 _ _ rfl _ _ _ hW (lv_sub hl [] rfl)
        · replace hk := ite_f hk c13
          refine lv_iload_n hx hb dX6_safe_33 rfl (lv_at hl 2 rfl) ?_
          refine cl_i (rn_S g_519 g_462 g_1 g_463 hd_X6_isSnapped (Nat.le_of_ble_eq_true rfl) hx hb hml hown hg hK hW (As := [.int x3]) (c_X6_isSnapped l G x3 M) (by decide) rfl hl.1 rfl (Nat.le_of_ble_eq_true rfl) dX6_safe_34) hW (fun H locs hW => ?_)
          refine lv_if_eq (tgt := 42) hx hb dX6_safe_37 (by decide) (fun c12 => ?_) (fun c12 => ?_)
          · replace hk := ite_t hk c12
            refine lv_iload_n hx hb dX6_safe_42 rfl (lv_at hl 2 rfl) ?_
            refine lv_aload_n hx hb dX6_safe_43 rfl (lv_at hl 0 rfl) ?_
            refine gt_X6_10 hx hb hg hown hK hW kd_0 dX6_safe_44 ?_
            refine lv_iload_n hx hb dX6_safe_47 rfl (lv_at hl 1 rfl) ?_
            replace hk := ob_s hk
            obtain ⟨x8, hx8, hk⟩ := hk
            refine cl_i (rn_VN n_577 g_447 gs_19 g_2 g_448 hd_X2_weightOf (Nat.le_of_ble_eq_true rfl) (ci := 2) rfl (inC kd_1 rfl) (shp2 kd_1) hx hb hml hown hg hK hW (As := [.int a1]) (c_X2_weightOf l G kd_1 a1 M hx8) (by decide) rfl hl.1 rfl (Nat.le_of_ble_eq_true rfl) dX6_safe_48) hW (fun H locs hW => ?_)
            refine lv_aload_n hx hb dX6_safe_51 rfl (lv_at hl 0 rfl) ?_
            refine gt_X6_10 hx hb hg hown hK hW kd_0 dX6_safe_52 ?_
            refine gt_X6_118 hx hb hg hown hK hW kd_1 dX6_safe_55 ?_
            refine gt_X6_178 hx hb hg hown hK hW (k2_5 kd_1) dX6_safe_58 ?_
            refine cl_i (rn_S g_578 g_450 g_1 g_451 hd_X6_wornBehind (Nat.le_of_ble_eq_true rfl) hx hb hml hown hg hK hW (As := [.int x3, .int x8, .int (M.1 (1 + 5) 1)]) (c_X6_wornBehind l G x3 x8 (M.1 (1 + 5) 1) M) (by decide) rfl hl.1 rfl (Nat.le_of_ble_eq_true rfl) dX6_safe_61) hW (fun H locs hW => ?_)
            replace hk := lq_s hk
            obtain ⟨x10, ex10, hk⟩ := hk
            refine nm_i ex10 ?_
            refine lv_istore_n (lv' := [(2, .int x10), (0, .ref (ad G 0)), (1, .int a1), (3, .int x4)]) hx hb dX6_safe_64 rfl hl (by decide) rfl (fun ls hl => ?_)
            replace hk := lq_s hk
            obtain ⟨x11, ex11, hk⟩ := hk
            refine lv_iinc (v := x11) (lv' := [(3, .int x11), (2, .int x10), (0, .ref (ad G 0)), (1, .int a1)]) hx hb dX6_safe_65 hl (k := 3) rfl (by rw [ex11]; rfl) (by decide) rfl (fun ls hl => ?_)
            refine lv_goto (tgt := 27) hx hb dX6_safe_68 (by decide) ?_
            exact ih27 _ _ _ _ _ hk hW (lv_sub hl [2, 3, 1, 0] rfl)
          · replace hk := ite_f hk c12
            refine lv_iload_n hx hb dX6_safe_40 rfl (lv_at hl 3 rfl) ?_
            obtain rfl := Option.some.inj hk
            have hk := hk_27.2 _ rfl
            obtain ⟨rfl, rfl⟩ := sp2 hk
            exact hret _ _ _ _ hW dX6_safe_41
    exact LH27 FU _ _ _ _ _ hz14 hW (lv_sub hl [2, 3, 1, 0] rfl)
  · replace hk := ite_f hk c18
    refine lv_aload_n hx hb dX6_safe_8 rfl (lv_at hl 0 rfl) ?_
    refine lv_sipush (v := ((-1002) : Int32)) hx hb dX6_safe_9 (by decide) ?_
    replace hk := ob2_s hk
    obtain ⟨x16, M17, hx16, hk⟩ := hk
    refine cl_i (rn_V g_281 g_283 gs_0 g_1 g_284 hd_X6_refuseBad (Nat.le_of_ble_eq_true rfl) (ci := 6) rfl (inC kd_0 rfl) (shp6 kd_0) hx hb hml hown hg hK hW (As := [.int ((-1002) : Int32)]) (c_X6_refuseBad l G ((-1002) : Int32) M hx16) (by decide) rfl hl.1 rfl (Nat.le_of_ble_eq_true rfl) dX6_safe_12) hW (fun H locs hW => ?_)
    obtain ⟨rfl, rfl⟩ := sp2 hk
    exact hret _ _ _ _ hW dX6_safe_15
def f_X6_notHigh (a0 : Int32) : Int32 :=
  (f_X6_outside a0 ((-40) : Int32) (60 : Int32))
theorem b_X6_notHigh (a0 : Int32) : f_X6_notHigh a0 = 0 ∨ f_X6_notHigh a0 = 1 := by
  obtain ⟨r, hk⟩ : ∃ r, f_X6_notHigh a0 = r := ⟨_, rfl⟩
  rw [hk]; unfold f_X6_notHigh at hk
  first | (repeat' (split at hk)) | skip
  all_goals (rw [← hk]; first | exact (b_X6_outside a0 ((-40) : Int32) (60 : Int32)) | exact Or.inl rfl | exact Or.inr rfl)
set_option maxHeartbeats 4000000 in
set_option maxRecDepth 100000 in
theorem c_X6_notHigh (l : Launch) (G : GT) (a0 : Int32) (M : Mem) : CMi l G true yX6_notHigh cX6_notHigh 1 (some .boolean) 1 [.int a0] M (f_X6_notHigh a0) M := by
  obtain ⟨r, hk⟩ : ∃ r, f_X6_notHigh a0 = r := ⟨_, rfl⟩
  rw [hk]
  unfold f_X6_notHigh at hk
  refine CMi.ofZ (by decide) (Nat.le_of_ble_eq_true rfl) ?_
  intro p e s m args below meth c Q hx hb hml hown hg hK hW hret ls hl
  have hl : lv_has ls 1 [(0, .int a0)] := hl
  refine lv_iload_n hx hb dX6_notHigh_0 rfl (lv_at hl 0 rfl) ?_
  refine lv_bipush (v := ((-40) : Int32)) hx hb dX6_notHigh_1 (by decide) ?_
  refine lv_bipush (v := (60 : Int32)) hx hb dX6_notHigh_3 (by decide) ?_
  refine cl_i (rn_S g_278 g_279 g_1 g_280 hd_X6_outside (Nat.le_of_ble_eq_true rfl) hx hb hml hown hg hK hW (As := [.int a0, .int ((-40) : Int32), .int (60 : Int32)]) (c_X6_outside l G a0 ((-40) : Int32) (60 : Int32) M) (by decide) rfl hl.1 rfl (Nat.le_of_ble_eq_true rfl) dX6_notHigh_5) hW (fun H locs hW => ?_)
  have hz := (b_X6_outside a0 ((-40) : Int32) (60 : Int32))
  subst hk
  exact hret _ _ _ _ hz hW dX6_notHigh_8
def f_X6_few (a1 : Int32) (a2 : Int32) (a3 : Int32) (M : Mem) : Option (Int32 × Mem) :=
  if (f_X6_noLimb a1 M) = (0 : Int32) then (
    if (f_X6_notHigh a2) = (0 : Int32) then (
      if ((-1) : Int32) ≤ a3 then (
        ob2 (f_X4_fewest 167 1 a1 a2 a1 a2 M) (fun x7 M8 =>
        if (0 : Int32) ≤ x7 then (
          if a3 = ((-1) : Int32) then (
            some (x7, M8))
          else (
            if x7 ≤ a3 then (
              some (((-5) : Int32), M8))
            else (
              ob (f_X6_cell (167 + 1) a3 M8) (fun x9 =>
              some (x9, M8)))))
        else (
          some (((-6) : Int32), M8))))
      else (
        ob2 (f_X6_refuseBad ((-10) : Int32) M) (fun x13 M14 =>
        some (x13, M14))))
    else (
      ob2 (f_X6_refuseBad ((-10) : Int32) M) (fun x5 M6 =>
      some (x5, M6))))
  else (
    ob2 (f_X6_refuseBad ((-10) : Int32) M) (fun x2 M3 =>
    some (x2, M3)))
set_option maxHeartbeats 4000000 in
set_option maxRecDepth 100000 in
theorem c_X6_few (l : Launch) (G : GT) (a1 : Int32) (a2 : Int32) (a3 : Int32) (M : Mem) {r : Int32} {M' : Mem} (hk : f_X6_few a1 a2 a3 M = some (r, M')) : CMi l G true yX6_few cX6_few 5 (some .int) 14 [.ref (ad G 0), .int a1, .int a2, .int a3] M r M' := by
  unfold f_X6_few at hk
  refine CMi.of (by decide) (Nat.le_of_ble_eq_true rfl) ?_
  intro p e s m args below meth c Q hx hb hml hown hg hK hW hret ls hl
  have hl : lv_has ls 5 [(0, .ref (ad G 0)), (1, .int a1), (2, .int a2), (3, .int a3)] := hl
  refine lv_aload_n hx hb dX6_few_0 rfl (lv_at hl 0 rfl) ?_
  refine lv_iload_n hx hb dX6_few_1 rfl (lv_at hl 1 rfl) ?_
  refine cl_i (rn_V g_514 g_516 gs_30 g_1 g_517 hd_X6_noLimb (Nat.le_of_ble_eq_true rfl) (ci := 6) rfl (inC kd_0 rfl) (shp6 kd_0) hx hb hml hown hg hK hW (As := [.int a1]) (c_X6_noLimb l G a1 M) (by decide) rfl hl.1 rfl (Nat.le_of_ble_eq_true rfl) dX6_few_2) hW (fun H locs hW => ?_)
  refine lv_if_ne (tgt := 20) hx hb dX6_few_5 (by decide) (fun c17 => ?_) (fun c17 => ?_)
  · replace hk := ite_f hk c17
    refine lv_aload_n hx hb dX6_few_20 rfl (lv_at hl 0 rfl) ?_
    refine lv_bipush (v := ((-10) : Int32)) hx hb dX6_few_21 (by decide) ?_
    replace hk := ob2_s hk
    obtain ⟨x2, M3, hx2, hk⟩ := hk
    refine cl_i (rn_V g_281 g_283 gs_0 g_1 g_284 hd_X6_refuseBad (Nat.le_of_ble_eq_true rfl) (ci := 6) rfl (inC kd_0 rfl) (shp6 kd_0) hx hb hml hown hg hK hW (As := [.int ((-10) : Int32)]) (c_X6_refuseBad l G ((-10) : Int32) M hx2) (by decide) rfl hl.1 rfl (Nat.le_of_ble_eq_true rfl) dX6_few_23) hW (fun H locs hW => ?_)
    obtain ⟨rfl, rfl⟩ := sp2 hk
    exact hret _ _ _ _ hW dX6_few_26
  · replace hk := ite_t hk c17
    refine lv_iload_n hx hb dX6_few_8 rfl (lv_at hl 2 rfl) ?_
    refine cl_i (rn_S g_583 g_584 g_1 g_585 hd_X6_notHigh (Nat.le_of_ble_eq_true rfl) hx hb hml hown hg hK hW (As := [.int a2]) (c_X6_notHigh l G a2 M) (by decide) rfl hl.1 rfl (Nat.le_of_ble_eq_true rfl) dX6_few_9) hW (fun H locs hW => ?_)
    refine lv_if_ne (tgt := 20) hx hb dX6_few_12 (by decide) (fun c16 => ?_) (fun c16 => ?_)
    · replace hk := ite_f hk c16
      refine lv_aload_n hx hb dX6_few_20 rfl (lv_at hl 0 rfl) ?_
      refine lv_bipush (v := ((-10) : Int32)) hx hb dX6_few_21 (by decide) ?_
      replace hk := ob2_s hk
      obtain ⟨x5, M6, hx5, hk⟩ := hk
      refine cl_i (rn_V g_281 g_283 gs_0 g_1 g_284 hd_X6_refuseBad (Nat.le_of_ble_eq_true rfl) (ci := 6) rfl (inC kd_0 rfl) (shp6 kd_0) hx hb hml hown hg hK hW (As := [.int ((-10) : Int32)]) (c_X6_refuseBad l G ((-10) : Int32) M hx5) (by decide) rfl hl.1 rfl (Nat.le_of_ble_eq_true rfl) dX6_few_23) hW (fun H locs hW => ?_)
      obtain ⟨rfl, rfl⟩ := sp2 hk
      exact hret _ _ _ _ hW dX6_few_26
    · replace hk := ite_t hk c16
      refine lv_iload_n hx hb dX6_few_15 rfl (lv_at hl 3 rfl) ?_
      refine lv_iconst (v := ((-1) : Int32)) hx hb dX6_few_16 (by decide) ?_
      refine lv_icmp_ge (tgt := 27) hx hb dX6_few_17 (by decide) (fun c15 => ?_) (fun c15 => ?_)
      · replace hk := ite_t hk c15
        refine lv_aload_n hx hb dX6_few_27 rfl (lv_at hl 0 rfl) ?_
        refine gt_X6_42 hx hb hg hown hK hW kd_0 dX6_few_28 ?_
        refine lv_aload_n hx hb dX6_few_31 rfl (lv_at hl 0 rfl) ?_
        refine gt_X6_10 hx hb hg hown hK hW kd_0 dX6_few_32 ?_
        refine lv_iload_n hx hb dX6_few_35 rfl (lv_at hl 1 rfl) ?_
        refine lv_iload_n hx hb dX6_few_36 rfl (lv_at hl 2 rfl) ?_
        refine lv_iload_n hx hb dX6_few_37 rfl (lv_at hl 1 rfl) ?_
        refine lv_iload_n hx hb dX6_few_38 rfl (lv_at hl 2 rfl) ?_
        replace hk := ob2_s hk
        obtain ⟨x7, M8, hx7, hk⟩ := hk
        refine cl_i (rn_VN n_586 g_588 gs_37 g_7 g_589 hd_X4_fewest (Nat.le_of_ble_eq_true rfl) (ci := 4) rfl (inC kd_167 rfl) (shp4 kd_167) hx hb hml hown hg hK hW (As := [.ref (ad G 1), .int a1, .int a2, .int a1, .int a2]) (c_X4_fewest l G kd_167 kd_1 a1 a2 a1 a2 M hx7) (by decide) rfl hl.1 rfl (Nat.le_of_ble_eq_true rfl) dX6_few_39) hW (fun H locs hW => ?_)
        refine lv_istore (lv' := [(4, .int x7), (0, .ref (ad G 0)), (1, .int a1), (2, .int a2), (3, .int a3)]) hx hb dX6_few_42 hl (by decide) rfl (fun ls hl => ?_)
        refine lv_iload hx hb dX6_few_44 (lv_at hl 0 rfl) ?_
        refine lv_if_ge (tgt := 52) hx hb dX6_few_46 (by decide) (fun c12 => ?_) (fun c12 => ?_)
        · replace hk := ite_t hk c12
          refine lv_iload_n hx hb dX6_few_52 rfl (lv_at hl 4 rfl) ?_
          refine lv_iconst (v := ((-1) : Int32)) hx hb dX6_few_53 (by decide) ?_
          refine lv_icmp_ne (tgt := 60) hx hb dX6_few_54 (by decide) (fun c11 => ?_) (fun c11 => ?_)
          · replace hk := ite_f hk c11
            refine lv_iload_n hx hb dX6_few_60 rfl (lv_at hl 4 rfl) ?_
            refine lv_iload hx hb dX6_few_61 (lv_at hl 0 rfl) ?_
            refine lv_icmp_ge (tgt := 80) hx hb dX6_few_63 (by decide) (fun c10 => ?_) (fun c10 => ?_)
            · replace hk := ite_t hk c10
              refine lv_bipush (v := ((-5) : Int32)) hx hb dX6_few_80 (by decide) ?_
              obtain ⟨rfl, rfl⟩ := sp2 hk
              exact hret _ _ _ _ hW dX6_few_82
            · replace hk := ite_f hk c10
              refine lv_aload_n hx hb dX6_few_66 rfl (lv_at hl 1 rfl) ?_
              refine gt_X6_42 hx hb hg hown hK hW kd_0 dX6_few_67 ?_
              refine gt_X6_192 hx hb hg hown hK hW kd_167 dX6_few_70 ?_
              refine lv_iload_n hx hb dX6_few_73 rfl (lv_at hl 4 rfl) ?_
              replace hk := ob_s hk
              obtain ⟨x9, hx9, hk⟩ := hk
              refine cl_i (rn_S g_607 g_346 g_1 g_347 hd_X6_cell (Nat.le_of_ble_eq_true rfl) hx hb hml hown hg hK hW (As := [.ref (ad G (167 + 1)), .int a3]) (c_X6_cell l G (k4_1 kd_167) a3 M8 hx9) (by decide) rfl hl.1 rfl (Nat.le_of_ble_eq_true rfl) dX6_few_74) hW (fun H locs hW => ?_)
              refine lv_goto (tgt := 82) hx hb dX6_few_77 (by decide) ?_
              obtain ⟨rfl, rfl⟩ := sp2 hk
              exact hret _ _ _ _ hW dX6_few_82
          · replace hk := ite_t hk c11
            refine lv_iload hx hb dX6_few_57 (lv_at hl 0 rfl) ?_
            obtain ⟨rfl, rfl⟩ := sp2 hk
            exact hret _ _ _ _ hW dX6_few_59
        · replace hk := ite_f hk c12
          refine lv_bipush (v := ((-6) : Int32)) hx hb dX6_few_49 (by decide) ?_
          obtain ⟨rfl, rfl⟩ := sp2 hk
          exact hret _ _ _ _ hW dX6_few_51
      · replace hk := ite_f hk c15
        refine lv_aload_n hx hb dX6_few_20 rfl (lv_at hl 0 rfl) ?_
        refine lv_bipush (v := ((-10) : Int32)) hx hb dX6_few_21 (by decide) ?_
        replace hk := ob2_s hk
        obtain ⟨x13, M14, hx13, hk⟩ := hk
        refine cl_i (rn_V g_281 g_283 gs_0 g_1 g_284 hd_X6_refuseBad (Nat.le_of_ble_eq_true rfl) (ci := 6) rfl (inC kd_0 rfl) (shp6 kd_0) hx hb hml hown hg hK hW (As := [.int ((-10) : Int32)]) (c_X6_refuseBad l G ((-10) : Int32) M hx13) (by decide) rfl hl.1 rfl (Nat.le_of_ble_eq_true rfl) dX6_few_23) hW (fun H locs hW => ?_)
        obtain ⟨rfl, rfl⟩ := sp2 hk
        exact hret _ _ _ _ hW dX6_few_26
def f_X6_both (a1 : Int32) (a2 : Int32) (a3 : Int32) (a4 : Int32) (M : Mem) : Option (Int32 × Mem) :=
  if (f_X6_noLimb a1 M) = (0 : Int32) then (
    if (f_X6_notHigh a2) = (0 : Int32) then (
      if (f_X6_noLimb a3 M) = (0 : Int32) then (
        if (f_X6_notHigh a4) = (0 : Int32) then (
          if a1 = a3 then (
            ob2 (f_X6_refuseBad ((-1002) : Int32) M) (fun x16 M17 =>
            some (x16, M17)))
          else (
            ob2 (f_X4_fewest 167 1 a1 a2 a3 a4 M) (fun x13 M14 =>
            if (0 : Int32) ≤ x13 then (
              some (x13, M14))
            else (
              some (((-1001) : Int32), M14)))))
        else (
          ob2 (f_X6_refuseBad ((-1002) : Int32) M) (fun x11 M12 =>
          some (x11, M12))))
      else (
        ob2 (f_X6_refuseBad ((-1002) : Int32) M) (fun x8 M9 =>
        some (x8, M9))))
    else (
      ob2 (f_X6_refuseBad ((-1002) : Int32) M) (fun x5 M6 =>
      some (x5, M6))))
  else (
    ob2 (f_X6_refuseBad ((-1002) : Int32) M) (fun x2 M3 =>
    some (x2, M3)))
set_option maxHeartbeats 4000000 in
set_option maxRecDepth 100000 in
theorem c_X6_both (l : Launch) (G : GT) (a1 : Int32) (a2 : Int32) (a3 : Int32) (a4 : Int32) (M : Mem) {r : Int32} {M' : Mem} (hk : f_X6_both a1 a2 a3 a4 M = some (r, M')) : CMi l G true yX6_both cX6_both 6 (some .int) 14 [.ref (ad G 0), .int a1, .int a2, .int a3, .int a4] M r M' := by
  unfold f_X6_both at hk
  refine CMi.of (by decide) (Nat.le_of_ble_eq_true rfl) ?_
  intro p e s m args below meth c Q hx hb hml hown hg hK hW hret ls hl
  have hl : lv_has ls 6 [(0, .ref (ad G 0)), (1, .int a1), (2, .int a2), (3, .int a3), (4, .int a4)] := hl
  refine lv_aload_n hx hb dX6_both_0 rfl (lv_at hl 0 rfl) ?_
  refine lv_iload_n hx hb dX6_both_1 rfl (lv_at hl 1 rfl) ?_
  refine cl_i (rn_V g_514 g_516 gs_30 g_1 g_517 hd_X6_noLimb (Nat.le_of_ble_eq_true rfl) (ci := 6) rfl (inC kd_0 rfl) (shp6 kd_0) hx hb hml hown hg hK hW (As := [.int a1]) (c_X6_noLimb l G a1 M) (by decide) rfl hl.1 rfl (Nat.le_of_ble_eq_true rfl) dX6_both_2) hW (fun H locs hW => ?_)
  refine lv_if_ne (tgt := 36) hx hb dX6_both_5 (by decide) (fun c22 => ?_) (fun c22 => ?_)
  · replace hk := ite_f hk c22
    refine lv_aload_n hx hb dX6_both_36 rfl (lv_at hl 0 rfl) ?_
    refine lv_sipush (v := ((-1002) : Int32)) hx hb dX6_both_37 (by decide) ?_
    replace hk := ob2_s hk
    obtain ⟨x2, M3, hx2, hk⟩ := hk
    refine cl_i (rn_V g_281 g_283 gs_0 g_1 g_284 hd_X6_refuseBad (Nat.le_of_ble_eq_true rfl) (ci := 6) rfl (inC kd_0 rfl) (shp6 kd_0) hx hb hml hown hg hK hW (As := [.int ((-1002) : Int32)]) (c_X6_refuseBad l G ((-1002) : Int32) M hx2) (by decide) rfl hl.1 rfl (Nat.le_of_ble_eq_true rfl) dX6_both_40) hW (fun H locs hW => ?_)
    obtain ⟨rfl, rfl⟩ := sp2 hk
    exact hret _ _ _ _ hW dX6_both_43
  · replace hk := ite_t hk c22
    refine lv_iload_n hx hb dX6_both_8 rfl (lv_at hl 2 rfl) ?_
    refine cl_i (rn_S g_583 g_584 g_1 g_585 hd_X6_notHigh (Nat.le_of_ble_eq_true rfl) hx hb hml hown hg hK hW (As := [.int a2]) (c_X6_notHigh l G a2 M) (by decide) rfl hl.1 rfl (Nat.le_of_ble_eq_true rfl) dX6_both_9) hW (fun H locs hW => ?_)
    refine lv_if_ne (tgt := 36) hx hb dX6_both_12 (by decide) (fun c21 => ?_) (fun c21 => ?_)
    · replace hk := ite_f hk c21
      refine lv_aload_n hx hb dX6_both_36 rfl (lv_at hl 0 rfl) ?_
      refine lv_sipush (v := ((-1002) : Int32)) hx hb dX6_both_37 (by decide) ?_
      replace hk := ob2_s hk
      obtain ⟨x5, M6, hx5, hk⟩ := hk
      refine cl_i (rn_V g_281 g_283 gs_0 g_1 g_284 hd_X6_refuseBad (Nat.le_of_ble_eq_true rfl) (ci := 6) rfl (inC kd_0 rfl) (shp6 kd_0) hx hb hml hown hg hK hW (As := [.int ((-1002) : Int32)]) (c_X6_refuseBad l G ((-1002) : Int32) M hx5) (by decide) rfl hl.1 rfl (Nat.le_of_ble_eq_true rfl) dX6_both_40) hW (fun H locs hW => ?_)
      obtain ⟨rfl, rfl⟩ := sp2 hk
      exact hret _ _ _ _ hW dX6_both_43
    · replace hk := ite_t hk c21
      refine lv_aload_n hx hb dX6_both_15 rfl (lv_at hl 0 rfl) ?_
      refine lv_iload_n hx hb dX6_both_16 rfl (lv_at hl 3 rfl) ?_
      refine cl_i (rn_V g_514 g_516 gs_30 g_1 g_517 hd_X6_noLimb (Nat.le_of_ble_eq_true rfl) (ci := 6) rfl (inC kd_0 rfl) (shp6 kd_0) hx hb hml hown hg hK hW (As := [.int a3]) (c_X6_noLimb l G a3 M) (by decide) rfl hl.1 rfl (Nat.le_of_ble_eq_true rfl) dX6_both_17) hW (fun H locs hW => ?_)
      refine lv_if_ne (tgt := 36) hx hb dX6_both_20 (by decide) (fun c20 => ?_) (fun c20 => ?_)
      · replace hk := ite_f hk c20
        refine lv_aload_n hx hb dX6_both_36 rfl (lv_at hl 0 rfl) ?_
        refine lv_sipush (v := ((-1002) : Int32)) hx hb dX6_both_37 (by decide) ?_
        replace hk := ob2_s hk
        obtain ⟨x8, M9, hx8, hk⟩ := hk
        refine cl_i (rn_V g_281 g_283 gs_0 g_1 g_284 hd_X6_refuseBad (Nat.le_of_ble_eq_true rfl) (ci := 6) rfl (inC kd_0 rfl) (shp6 kd_0) hx hb hml hown hg hK hW (As := [.int ((-1002) : Int32)]) (c_X6_refuseBad l G ((-1002) : Int32) M hx8) (by decide) rfl hl.1 rfl (Nat.le_of_ble_eq_true rfl) dX6_both_40) hW (fun H locs hW => ?_)
        obtain ⟨rfl, rfl⟩ := sp2 hk
        exact hret _ _ _ _ hW dX6_both_43
      · replace hk := ite_t hk c20
        refine lv_iload hx hb dX6_both_23 (lv_at hl 4 rfl) ?_
        refine cl_i (rn_S g_583 g_584 g_1 g_585 hd_X6_notHigh (Nat.le_of_ble_eq_true rfl) hx hb hml hown hg hK hW (As := [.int a4]) (c_X6_notHigh l G a4 M) (by decide) rfl hl.1 rfl (Nat.le_of_ble_eq_true rfl) dX6_both_25) hW (fun H locs hW => ?_)
        refine lv_if_ne (tgt := 36) hx hb dX6_both_28 (by decide) (fun c19 => ?_) (fun c19 => ?_)
        · replace hk := ite_f hk c19
          refine lv_aload_n hx hb dX6_both_36 rfl (lv_at hl 0 rfl) ?_
          refine lv_sipush (v := ((-1002) : Int32)) hx hb dX6_both_37 (by decide) ?_
          replace hk := ob2_s hk
          obtain ⟨x11, M12, hx11, hk⟩ := hk
          refine cl_i (rn_V g_281 g_283 gs_0 g_1 g_284 hd_X6_refuseBad (Nat.le_of_ble_eq_true rfl) (ci := 6) rfl (inC kd_0 rfl) (shp6 kd_0) hx hb hml hown hg hK hW (As := [.int ((-1002) : Int32)]) (c_X6_refuseBad l G ((-1002) : Int32) M hx11) (by decide) rfl hl.1 rfl (Nat.le_of_ble_eq_true rfl) dX6_both_40) hW (fun H locs hW => ?_)
          obtain ⟨rfl, rfl⟩ := sp2 hk
          exact hret _ _ _ _ hW dX6_both_43
        · replace hk := ite_t hk c19
          refine lv_iload_n hx hb dX6_both_31 rfl (lv_at hl 1 rfl) ?_
          refine lv_iload_n hx hb dX6_both_32 rfl (lv_at hl 3 rfl) ?_
          refine lv_icmp_ne (tgt := 44) hx hb dX6_both_33 (by decide) (fun c18 => ?_) (fun c18 => ?_)
          · replace hk := ite_f hk c18
            refine lv_aload_n hx hb dX6_both_44 rfl (lv_at hl 0 rfl) ?_
            refine gt_X6_42 hx hb hg hown hK hW kd_0 dX6_both_45 ?_
            refine lv_aload_n hx hb dX6_both_48 rfl (lv_at hl 0 rfl) ?_
            refine gt_X6_10 hx hb hg hown hK hW kd_0 dX6_both_49 ?_
            refine lv_iload_n hx hb dX6_both_52 rfl (lv_at hl 1 rfl) ?_
            refine lv_iload_n hx hb dX6_both_53 rfl (lv_at hl 2 rfl) ?_
            refine lv_iload_n hx hb dX6_both_54 rfl (lv_at hl 3 rfl) ?_
            refine lv_iload hx hb dX6_both_55 (lv_at hl 4 rfl) ?_
            replace hk := ob2_s hk
            obtain ⟨x13, M14, hx13, hk⟩ := hk
            refine cl_i (rn_VN n_586 g_588 gs_37 g_7 g_589 hd_X4_fewest (Nat.le_of_ble_eq_true rfl) (ci := 4) rfl (inC kd_167 rfl) (shp4 kd_167) hx hb hml hown hg hK hW (As := [.ref (ad G 1), .int a1, .int a2, .int a3, .int a4]) (c_X4_fewest l G kd_167 kd_1 a1 a2 a3 a4 M hx13) (by decide) rfl hl.1 rfl (Nat.le_of_ble_eq_true rfl) dX6_both_57) hW (fun H locs hW => ?_)
            refine lv_istore (lv' := [(5, .int x13), (0, .ref (ad G 0)), (1, .int a1), (2, .int a2), (3, .int a3), (4, .int a4)]) hx hb dX6_both_60 hl (by decide) rfl (fun ls hl => ?_)
            refine lv_iload hx hb dX6_both_62 (lv_at hl 0 rfl) ?_
            refine lv_if_ge (tgt := 73) hx hb dX6_both_64 (by decide) (fun c15 => ?_) (fun c15 => ?_)
            · replace hk := ite_t hk c15
              refine lv_iload hx hb dX6_both_73 (lv_at hl 0 rfl) ?_
              obtain ⟨rfl, rfl⟩ := sp2 hk
              exact hret _ _ _ _ hW dX6_both_75
            · replace hk := ite_f hk c15
              refine lv_sipush (v := ((-1001) : Int32)) hx hb dX6_both_67 (by decide) ?_
              refine lv_goto (tgt := 75) hx hb dX6_both_70 (by decide) ?_
              obtain ⟨rfl, rfl⟩ := sp2 hk
              exact hret _ _ _ _ hW dX6_both_75
          · replace hk := ite_t hk c18
            refine lv_aload_n hx hb dX6_both_36 rfl (lv_at hl 0 rfl) ?_
            refine lv_sipush (v := ((-1002) : Int32)) hx hb dX6_both_37 (by decide) ?_
            replace hk := ob2_s hk
            obtain ⟨x16, M17, hx16, hk⟩ := hk
            refine cl_i (rn_V g_281 g_283 gs_0 g_1 g_284 hd_X6_refuseBad (Nat.le_of_ble_eq_true rfl) (ci := 6) rfl (inC kd_0 rfl) (shp6 kd_0) hx hb hml hown hg hK hW (As := [.int ((-1002) : Int32)]) (c_X6_refuseBad l G ((-1002) : Int32) M hx16) (by decide) rfl hl.1 rfl (Nat.le_of_ble_eq_true rfl) dX6_both_40) hW (fun H locs hW => ?_)
            obtain ⟨rfl, rfl⟩ := sp2 hk
            exact hret _ _ _ _ hW dX6_both_43
def f_X6_farFrom (a1 : Int32) (a2 : Int32) (a3 : Int32) (M : Mem) : Option (Int32) :=
  lq (f_X6_holeAt (M.1 (1 + 5) 0) (M.1 (1 + 5) 1) a3) (fun x2 =>
  ob (f_X2_wornOf 1 a1 M) (fun x3 =>
  ob (f_X2_highFrom 1 a1 x2 x3 (M.1 (1 + 5) 2) M) (fun x4 =>
  some (if 0 ≤ (x4 - a2) then (x4 - a2) else 0 - (x4 - a2)))))
set_option maxHeartbeats 4000000 in
set_option maxRecDepth 100000 in
theorem c_X6_farFrom (l : Launch) (G : GT) (a1 : Int32) (a2 : Int32) (a3 : Int32) (M : Mem) {r : Int32} (hk : f_X6_farFrom a1 a2 a3 M = some r) : CMi l G true yX6_farFrom cX6_farFrom 5 (some .int) 3 [.ref (ad G 0), .int a1, .int a2, .int a3] M r M := by
  unfold f_X6_farFrom at hk
  refine CMi.of (by decide) (Nat.le_of_ble_eq_true rfl) ?_
  intro p e s m args below meth c Q hx hb hml hown hg hK hW hret ls hl
  have hl : lv_has ls 5 [(0, .ref (ad G 0)), (1, .int a1), (2, .int a2), (3, .int a3)] := hl
  refine lv_aload_n hx hb dX6_farFrom_0 rfl (lv_at hl 0 rfl) ?_
  refine gt_X6_10 hx hb hg hown hK hW kd_0 dX6_farFrom_1 ?_
  refine gt_X6_118 hx hb hg hown hK hW kd_1 dX6_farFrom_4 ?_
  refine gt_X6_319 hx hb hg hown hK hW (k2_5 kd_1) dX6_farFrom_7 ?_
  refine lv_aload_n hx hb dX6_farFrom_10 rfl (lv_at hl 0 rfl) ?_
  refine gt_X6_10 hx hb hg hown hK hW kd_0 dX6_farFrom_11 ?_
  refine gt_X6_118 hx hb hg hown hK hW kd_1 dX6_farFrom_14 ?_
  refine gt_X6_178 hx hb hg hown hK hW (k2_5 kd_1) dX6_farFrom_17 ?_
  refine lv_iload_n hx hb dX6_farFrom_20 rfl (lv_at hl 3 rfl) ?_
  refine cl_i (rn_S g_620 g_552 g_1 g_553 hd_X6_holeAt (Nat.le_of_ble_eq_true rfl) hx hb hml hown hg hK hW (As := [.int (M.1 (1 + 5) 0), .int (M.1 (1 + 5) 1), .int a3]) (c_X6_holeAt l G (M.1 (1 + 5) 0) (M.1 (1 + 5) 1) a3 M) (by decide) rfl hl.1 rfl (Nat.le_of_ble_eq_true rfl) dX6_farFrom_21) hW (fun H locs hW => ?_)
  replace hk := lq_s hk
  obtain ⟨x2, ex2, hk⟩ := hk
  refine nm_i ex2 ?_
  refine lv_istore (lv' := [(4, .int x2), (0, .ref (ad G 0)), (1, .int a1), (2, .int a2), (3, .int a3)]) hx hb dX6_farFrom_24 hl (by decide) rfl (fun ls hl => ?_)
  refine lv_aload_n hx hb dX6_farFrom_26 rfl (lv_at hl 1 rfl) ?_
  refine gt_X6_10 hx hb hg hown hK hW kd_0 dX6_farFrom_27 ?_
  refine lv_iload_n hx hb dX6_farFrom_30 rfl (lv_at hl 2 rfl) ?_
  refine lv_iload hx hb dX6_farFrom_31 (lv_at hl 0 rfl) ?_
  refine lv_aload_n hx hb dX6_farFrom_33 rfl (lv_at hl 1 rfl) ?_
  refine gt_X6_10 hx hb hg hown hK hW kd_0 dX6_farFrom_34 ?_
  refine lv_iload_n hx hb dX6_farFrom_37 rfl (lv_at hl 2 rfl) ?_
  replace hk := ob_s hk
  obtain ⟨x3, hx3, hk⟩ := hk
  refine cl_i (rn_VN n_518 g_459 gs_21 g_2 g_460 hd_X2_wornOf (Nat.le_of_ble_eq_true rfl) (ci := 2) rfl (inC kd_1 rfl) (shp2 kd_1) hx hb hml hown hg hK hW (As := [.int a1]) (c_X2_wornOf l G kd_1 a1 M hx3) (by decide) rfl hl.1 rfl (Nat.le_of_ble_eq_true rfl) dX6_farFrom_38) hW (fun H locs hW => ?_)
  refine lv_aload_n hx hb dX6_farFrom_41 rfl (lv_at hl 1 rfl) ?_
  refine gt_X6_10 hx hb hg hown hK hW kd_0 dX6_farFrom_42 ?_
  refine gt_X6_118 hx hb hg hown hK hW kd_1 dX6_farFrom_45 ?_
  refine gt_X6_121 hx hb hg hown hK hW (k2_5 kd_1) dX6_farFrom_48 ?_
  replace hk := ob_s hk
  obtain ⟨x4, hx4, hk⟩ := hk
  refine cl_i (rn_VN n_621 g_556 gs_35 g_2 g_557 hd_X2_highFrom (Nat.le_of_ble_eq_true rfl) (ci := 2) rfl (inC kd_1 rfl) (shp2 kd_1) hx hb hml hown hg hK hW (As := [.int a1, .int x2, .int x3, .int (M.1 (1 + 5) 2)]) (c_X2_highFrom l G kd_1 a1 x2 x3 (M.1 (1 + 5) 2) M hx4) (by decide) rfl hl.1 rfl (Nat.le_of_ble_eq_true rfl) dX6_farFrom_51) hW (fun H locs hW => ?_)
  refine lv_iload_n hx hb dX6_farFrom_54 rfl (lv_at hl 3 rfl) ?_
  refine lv_isub hx hb dX6_farFrom_55 ?_
  refine ab_i g_622 g_623 g_5 g_624 hx hb hml hown hg hl.1 (by decide) (Nat.le_of_ble_eq_true rfl) dX6_farFrom_56 ?_
  obtain rfl := Option.some.inj hk
  exact hret _ _ _ _ hW dX6_farFrom_59
def f_X6_hole_L47 (a1 : Int32) (a2 : Int32) (M : Mem) : Nat → Int32 → Int32 → Int32 → Option (Int32 × Int32)
  | 0, _, _, _ => none
  | n + 1, x9, x10, x11 =>
    if (8 : Int32) < x11 then (
      some (x9, x10))
    else (
      ob (f_X6_farFrom a1 a2 x11 M) (fun x14 =>
      ob2 (
        if x10 ≤ x14 then (
          some (x9, x10))
        else (
          some (x11, x14)))
       (fun x16 x17 =>
      lq (x11 + (1 : Int32)) (fun x18 =>
      f_X6_hole_L47 a1 a2 M n x16 x17 x18))))
def f_X6_hole (a1 : Int32) (a2 : Int32) (a3 : Int32) (M : Mem) : Option (Int32 × Mem) :=
  if (f_X6_noLimb a1 M) = (0 : Int32) then (
    if (f_X6_notHigh a2) = (0 : Int32) then (
      if (f_X6_outside a3 (0 : Int32) (1 : Int32)) = (0 : Int32) then (
        ob (f_X6_farFrom a1 a2 (0 : Int32) M) (fun x8 =>
        ob2 (f_X6_hole_L47 a1 a2 M FU (0 : Int32) x8 (1 : Int32)) (fun x12 x13 =>
        if a3 = (0 : Int32) then (
          some (x12, M))
        else (
          some (x13, M)))))
      else (
        ob2 (f_X6_refuseBad ((-1002) : Int32) M) (fun x25 M26 =>
        some (x25, M26))))
    else (
      ob2 (f_X6_refuseBad ((-1002) : Int32) M) (fun x5 M6 =>
      some (x5, M6))))
  else (
    ob2 (f_X6_refuseBad ((-1002) : Int32) M) (fun x2 M3 =>
    some (x2, M3)))
set_option maxHeartbeats 4000000 in
set_option maxRecDepth 100000 in
theorem c_X6_hole (l : Launch) (G : GT) (a1 : Int32) (a2 : Int32) (a3 : Int32) (M : Mem) {r : Int32} {M' : Mem} (hk : f_X6_hole a1 a2 a3 M = some (r, M')) : CMi l G true yX6_hole cX6_hole 8 (some .int) 4 [.ref (ad G 0), .int a1, .int a2, .int a3] M r M' := by
  unfold f_X6_hole at hk
  refine CMi.of (by decide) (Nat.le_of_ble_eq_true rfl) ?_
  intro p e s m args below meth c Q hx hb hml hown hg hK hW hret ls hl
  have hl : lv_has ls 8 [(0, .ref (ad G 0)), (1, .int a1), (2, .int a2), (3, .int a3)] := hl
  refine lv_aload_n hx hb dX6_hole_0 rfl (lv_at hl 0 rfl) ?_
  refine lv_iload_n hx hb dX6_hole_1 rfl (lv_at hl 1 rfl) ?_
  refine cl_i (rn_V g_514 g_516 gs_30 g_1 g_517 hd_X6_noLimb (Nat.le_of_ble_eq_true rfl) (ci := 6) rfl (inC kd_0 rfl) (shp6 kd_0) hx hb hml hown hg hK hW (As := [.int a1]) (c_X6_noLimb l G a1 M) (by decide) rfl hl.1 rfl (Nat.le_of_ble_eq_true rfl) dX6_hole_2) hW (fun H locs hW => ?_)
  refine lv_if_ne (tgt := 24) hx hb dX6_hole_5 (by decide) (fun c29 => ?_) (fun c29 => ?_)
  · replace hk := ite_f hk c29
    refine lv_aload_n hx hb dX6_hole_24 rfl (lv_at hl 0 rfl) ?_
    refine lv_sipush (v := ((-1002) : Int32)) hx hb dX6_hole_25 (by decide) ?_
    replace hk := ob2_s hk
    obtain ⟨x2, M3, hx2, hk⟩ := hk
    refine cl_i (rn_V g_281 g_283 gs_0 g_1 g_284 hd_X6_refuseBad (Nat.le_of_ble_eq_true rfl) (ci := 6) rfl (inC kd_0 rfl) (shp6 kd_0) hx hb hml hown hg hK hW (As := [.int ((-1002) : Int32)]) (c_X6_refuseBad l G ((-1002) : Int32) M hx2) (by decide) rfl hl.1 rfl (Nat.le_of_ble_eq_true rfl) dX6_hole_28) hW (fun H locs hW => ?_)
    obtain ⟨rfl, rfl⟩ := sp2 hk
    exact hret _ _ _ _ hW dX6_hole_31
  · replace hk := ite_t hk c29
    refine lv_iload_n hx hb dX6_hole_8 rfl (lv_at hl 2 rfl) ?_
    refine cl_i (rn_S g_583 g_584 g_1 g_585 hd_X6_notHigh (Nat.le_of_ble_eq_true rfl) hx hb hml hown hg hK hW (As := [.int a2]) (c_X6_notHigh l G a2 M) (by decide) rfl hl.1 rfl (Nat.le_of_ble_eq_true rfl) dX6_hole_9) hW (fun H locs hW => ?_)
    refine lv_if_ne (tgt := 24) hx hb dX6_hole_12 (by decide) (fun c28 => ?_) (fun c28 => ?_)
    · replace hk := ite_f hk c28
      refine lv_aload_n hx hb dX6_hole_24 rfl (lv_at hl 0 rfl) ?_
      refine lv_sipush (v := ((-1002) : Int32)) hx hb dX6_hole_25 (by decide) ?_
      replace hk := ob2_s hk
      obtain ⟨x5, M6, hx5, hk⟩ := hk
      refine cl_i (rn_V g_281 g_283 gs_0 g_1 g_284 hd_X6_refuseBad (Nat.le_of_ble_eq_true rfl) (ci := 6) rfl (inC kd_0 rfl) (shp6 kd_0) hx hb hml hown hg hK hW (As := [.int ((-1002) : Int32)]) (c_X6_refuseBad l G ((-1002) : Int32) M hx5) (by decide) rfl hl.1 rfl (Nat.le_of_ble_eq_true rfl) dX6_hole_28) hW (fun H locs hW => ?_)
      obtain ⟨rfl, rfl⟩ := sp2 hk
      exact hret _ _ _ _ hW dX6_hole_31
    · replace hk := ite_t hk c28
      refine lv_iload_n hx hb dX6_hole_15 rfl (lv_at hl 3 rfl) ?_
      refine lv_iconst (v := (0 : Int32)) hx hb dX6_hole_16 (by decide) ?_
      refine lv_iconst (v := (1 : Int32)) hx hb dX6_hole_17 (by decide) ?_
      refine cl_i (rn_S g_278 g_279 g_1 g_280 hd_X6_outside (Nat.le_of_ble_eq_true rfl) hx hb hml hown hg hK hW (As := [.int a3, .int (0 : Int32), .int (1 : Int32)]) (c_X6_outside l G a3 (0 : Int32) (1 : Int32) M) (by decide) rfl hl.1 rfl (Nat.le_of_ble_eq_true rfl) dX6_hole_18) hW (fun H locs hW => ?_)
      refine lv_if_eq (tgt := 32) hx hb dX6_hole_21 (by decide) (fun c27 => ?_) (fun c27 => ?_)
      · replace hk := ite_t hk c27
        refine lv_iconst (v := (0 : Int32)) hx hb dX6_hole_32 (by decide) ?_
        refine lv_istore (lv' := [(4, .int (0 : Int32)), (0, .ref (ad G 0)), (1, .int a1), (2, .int a2), (3, .int a3)]) hx hb dX6_hole_33 hl (by decide) rfl (fun ls hl => ?_)
        refine lv_aload_n hx hb dX6_hole_35 rfl (lv_at hl 1 rfl) ?_
        refine lv_iload_n hx hb dX6_hole_36 rfl (lv_at hl 2 rfl) ?_
        refine lv_iload_n hx hb dX6_hole_37 rfl (lv_at hl 3 rfl) ?_
        refine lv_iconst (v := (0 : Int32)) hx hb dX6_hole_38 (by decide) ?_
        replace hk := ob_s hk
        obtain ⟨x8, hx8, hk⟩ := hk
        refine cl_i (rn_V g_616 g_618 gs_40 g_1 g_619 hd_X6_farFrom (Nat.le_of_ble_eq_true rfl) (ci := 6) rfl (inC kd_0 rfl) (shp6 kd_0) hx hb hml hown hg hK hW (As := [.int a1, .int a2, .int (0 : Int32)]) (c_X6_farFrom l G a1 a2 (0 : Int32) M hx8) (by decide) rfl hl.1 rfl (Nat.le_of_ble_eq_true rfl) dX6_hole_39) hW (fun H locs hW => ?_)
        refine lv_istore (lv' := [(5, .int x8), (4, .int (0 : Int32)), (0, .ref (ad G 0)), (1, .int a1), (2, .int a2), (3, .int a3)]) hx hb dX6_hole_42 hl (by decide) rfl (fun ls hl => ?_)
        refine lv_iconst (v := (1 : Int32)) hx hb dX6_hole_44 (by decide) ?_
        refine lv_istore (lv' := [(6, .int (1 : Int32)), (5, .int x8), (4, .int (0 : Int32)), (0, .ref (ad G 0)), (1, .int a1), (2, .int a2), (3, .int a3)]) hx hb dX6_hole_45 hl (by decide) rfl (fun ls hl => ?_)
        replace hk := ob2_s hk
        obtain ⟨x12, x13, hz23, hk⟩ := hk
        have KX47 : ∀ (H : Heap) (locs : List Loc) (ls : Array Slot), Ws G true M s H locs → lv_has ls 8 [(3, .int a3), (4, .int x12), (5, .int x13)] → Wx p l e 4 s m args below meth c Q H locs 85 ls [] := by
          intro H locs ls hW hl
          refine lv_iload_n hx hb dX6_hole_85 rfl (lv_at hl 0 rfl) ?_
          refine lv_if_ne (tgt := 94) hx hb dX6_hole_86 (by decide) (fun c22 => ?_) (fun c22 => ?_)
          · replace hk := ite_f hk c22
            refine lv_iload hx hb dX6_hole_94 (lv_at hl 2 rfl) ?_
            obtain ⟨rfl, rfl⟩ := sp2 hk
            exact hret _ _ _ _ hW dX6_hole_96
          · replace hk := ite_t hk c22
            refine lv_iload hx hb dX6_hole_89 (lv_at hl 1 rfl) ?_
            refine lv_goto (tgt := 96) hx hb dX6_hole_91 (by decide) ?_
            obtain ⟨rfl, rfl⟩ := sp2 hk
            exact hret _ _ _ _ hW dX6_hole_96
        clear hk
        have LH47 : ∀ (n : Nat) (x9 : Int32) (x10 : Int32) (x11 : Int32) (H : Heap) (locs : List Loc) (ls : Array Slot), f_X6_hole_L47 a1 a2 M n x9 x10 x11 = some (x12, x13) → Ws G true M s H locs → lv_has ls 8 [(0, .ref (ad G 0)), (1, .int a1), (2, .int a2), (3, .int a3), (4, .int x9), (5, .int x10), (6, .int x11)] → Wx p l e 4 s m args below meth c Q H locs 47 ls [] := by
          clear hz23
          intro n
          induction n with
          | zero => intro _ _ _ _ _ _ hk; cases hk
          | succ n ih47 =>
            intro x9 x10 x11 H locs ls hk hW hl
            rw [f_X6_hole_L47.eq_2] at hk
            refine lv_iload hx hb dX6_hole_47 (lv_at hl 6 rfl) ?_
            refine lv_bipush (v := (8 : Int32)) hx hb dX6_hole_49 (by decide) ?_
            refine lv_icmp_gt (tgt := 85) hx hb dX6_hole_51 (by decide) (fun c21 => ?_) (fun c21 => ?_)
            · replace hk := ite_t hk c21
              obtain ⟨rfl, rfl⟩ := sp2 hk
              exact KX47 _ _ _ hW (lv_sub hl [3, 4, 5] rfl)
            · replace hk := ite_f hk c21
              refine lv_aload_n hx hb dX6_hole_54 rfl (lv_at hl 0 rfl) ?_
              refine lv_iload_n hx hb dX6_hole_55 rfl (lv_at hl 1 rfl) ?_
              refine lv_iload_n hx hb dX6_hole_56 rfl (lv_at hl 2 rfl) ?_
              refine lv_iload hx hb dX6_hole_57 (lv_at hl 6 rfl) ?_
              replace hk := ob_s hk
              obtain ⟨x14, hx14, hk⟩ := hk
              refine cl_i (rn_V g_616 g_618 gs_40 g_1 g_619 hd_X6_farFrom (Nat.le_of_ble_eq_true rfl) (ci := 6) rfl (inC kd_0 rfl) (shp6 kd_0) hx hb hml hown hg hK hW (As := [.int a1, .int a2, .int x11]) (c_X6_farFrom l G a1 a2 x11 M hx14) (by decide) rfl hl.1 rfl (Nat.le_of_ble_eq_true rfl) dX6_hole_59) hW (fun H locs hW => ?_)
              refine lv_istore (lv' := [(7, .int x14), (0, .ref (ad G 0)), (1, .int a1), (2, .int a2), (3, .int a3), (4, .int x9), (5, .int x10), (6, .int x11)]) hx hb dX6_hole_62 hl (by decide) rfl (fun ls hl => ?_)
              refine lv_iload hx hb dX6_hole_64 (lv_at hl 0 rfl) ?_
              refine lv_iload hx hb dX6_hole_66 (lv_at hl 6 rfl) ?_
              replace hk := ob2_s hk
              obtain ⟨x16, x17, hr20, hk⟩ := hk
              have KJ19 : ∀ (H : Heap) (locs : List Loc) (ls : Array Slot), Ws G true M s H locs → lv_has ls 8 [(0, .ref (ad G 0)), (1, .int a1), (2, .int a2), (3, .int a3), (4, .int x16), (5, .int x17), (6, .int x11)] → Wx p l e 4 s m args below meth c Q H locs 79 ls [] := by
                intro H locs ls hW hl
                replace hk := lq_s hk
                obtain ⟨x18, ex18, hk⟩ := hk
                refine lv_iinc (v := x18) (lv' := [(6, .int x18), (0, .ref (ad G 0)), (1, .int a1), (2, .int a2), (3, .int a3), (4, .int x16), (5, .int x17)]) hx hb dX6_hole_79 hl (k := 6) rfl (by rw [ex18]; rfl) (by decide) rfl (fun ls hl => ?_)
                refine lv_goto (tgt := 47) hx hb dX6_hole_82 (by decide) ?_
                exact ih47 _ _ _ _ _ _ hk hW (lv_sub hl [1, 2, 3, 4, 5, 6, 0] rfl)
              clear hk
              have hk := hr20
              clear hr20
              refine lv_icmp_ge (tgt := 79) hx hb dX6_hole_68 (by decide) (fun c15 => ?_) (fun c15 => ?_)
              · replace hk := ite_t hk c15
                obtain ⟨rfl, rfl⟩ := sp2 hk
                exact KJ19 _ _ _ hW (lv_sub hl [1, 2, 3, 4, 5, 6, 7] rfl)
              · replace hk := ite_f hk c15
                refine lv_iload hx hb dX6_hole_71 (lv_at hl 7 rfl) ?_
                refine lv_istore (lv' := [(4, .int x11), (7, .int x14), (0, .ref (ad G 0)), (1, .int a1), (2, .int a2), (3, .int a3), (5, .int x10), (6, .int x11)]) hx hb dX6_hole_73 hl (by decide) rfl (fun ls hl => ?_)
                refine lv_iload hx hb dX6_hole_75 (lv_at hl 1 rfl) ?_
                refine lv_istore (lv' := [(5, .int x14), (4, .int x11), (7, .int x14), (0, .ref (ad G 0)), (1, .int a1), (2, .int a2), (3, .int a3), (6, .int x11)]) hx hb dX6_hole_77 hl (by decide) rfl (fun ls hl => ?_)
                obtain ⟨rfl, rfl⟩ := sp2 hk
                exact KJ19 _ _ _ hW (lv_sub hl [3, 4, 5, 6, 1, 0, 7] rfl)
        exact LH47 FU _ _ _ _ _ _ hz23 hW (lv_sub hl [3, 4, 5, 6, 2, 1, 0] rfl)
      · replace hk := ite_f hk c27
        refine lv_aload_n hx hb dX6_hole_24 rfl (lv_at hl 0 rfl) ?_
        refine lv_sipush (v := ((-1002) : Int32)) hx hb dX6_hole_25 (by decide) ?_
        replace hk := ob2_s hk
        obtain ⟨x25, M26, hx25, hk⟩ := hk
        refine cl_i (rn_V g_281 g_283 gs_0 g_1 g_284 hd_X6_refuseBad (Nat.le_of_ble_eq_true rfl) (ci := 6) rfl (inC kd_0 rfl) (shp6 kd_0) hx hb hml hown hg hK hW (As := [.int ((-1002) : Int32)]) (c_X6_refuseBad l G ((-1002) : Int32) M hx25) (by decide) rfl hl.1 rfl (Nat.le_of_ble_eq_true rfl) dX6_hole_28) hW (fun H locs hW => ?_)
        obtain ⟨rfl, rfl⟩ := sp2 hk
        exact hret _ _ _ _ hW dX6_hole_31
def f_X6_beat (a1 : Int32) (a2 : Int32) (a3 : Int32) (M : Mem) : Option (Int32 × Mem) :=
  if (f_X6_outside a1 (0 : Int32) (7 : Int32)) = (0 : Int32) then (
    if (f_X6_outside a2 (0 : Int32) (4 : Int32)) = (0 : Int32) then (
      if (f_X6_notHigh a3) = (0 : Int32) then (
        ob (f_X6_cell (1 + 33) a1 M) (fun x8 =>
        ob (f_X6_put (1 + 33) a1 a2 M) (fun M10 =>
        ob (f_X6_put (1 + 34) a1 a3 M10) (fun M12 =>
        some (x8, M12)))))
      else (
        ob2 (f_X6_refuseBad ((-1002) : Int32) M) (fun x13 M14 =>
        some (x13, M14))))
    else (
      ob2 (f_X6_refuseBad ((-1002) : Int32) M) (fun x5 M6 =>
      some (x5, M6))))
  else (
    ob2 (f_X6_refuseBad ((-1002) : Int32) M) (fun x2 M3 =>
    some (x2, M3)))
set_option maxHeartbeats 4000000 in
set_option maxRecDepth 100000 in
theorem c_X6_beat (l : Launch) (G : GT) (a1 : Int32) (a2 : Int32) (a3 : Int32) (M : Mem) {r : Int32} {M' : Mem} (hk : f_X6_beat a1 a2 a3 M = some (r, M')) : CMi l G true yX6_beat cX6_beat 5 (some .int) 2 [.ref (ad G 0), .int a1, .int a2, .int a3] M r M' := by
  unfold f_X6_beat at hk
  refine CMi.of (by decide) (Nat.le_of_ble_eq_true rfl) ?_
  intro p e s m args below meth c Q hx hb hml hown hg hK hW hret ls hl
  have hl : lv_has ls 5 [(0, .ref (ad G 0)), (1, .int a1), (2, .int a2), (3, .int a3)] := hl
  refine lv_iload_n hx hb dX6_beat_0 rfl (lv_at hl 1 rfl) ?_
  refine lv_iconst (v := (0 : Int32)) hx hb dX6_beat_1 (by decide) ?_
  refine lv_bipush (v := (7 : Int32)) hx hb dX6_beat_2 (by decide) ?_
  refine cl_i (rn_S g_278 g_279 g_1 g_280 hd_X6_outside (Nat.le_of_ble_eq_true rfl) hx hb hml hown hg hK hW (As := [.int a1, .int (0 : Int32), .int (7 : Int32)]) (c_X6_outside l G a1 (0 : Int32) (7 : Int32) M) (by decide) rfl hl.1 rfl (Nat.le_of_ble_eq_true rfl) dX6_beat_4) hW (fun H locs hW => ?_)
  refine lv_if_ne (tgt := 26) hx hb dX6_beat_7 (by decide) (fun c17 => ?_) (fun c17 => ?_)
  · replace hk := ite_f hk c17
    refine lv_aload_n hx hb dX6_beat_26 rfl (lv_at hl 0 rfl) ?_
    refine lv_sipush (v := ((-1002) : Int32)) hx hb dX6_beat_27 (by decide) ?_
    replace hk := ob2_s hk
    obtain ⟨x2, M3, hx2, hk⟩ := hk
    refine cl_i (rn_V g_281 g_283 gs_0 g_1 g_284 hd_X6_refuseBad (Nat.le_of_ble_eq_true rfl) (ci := 6) rfl (inC kd_0 rfl) (shp6 kd_0) hx hb hml hown hg hK hW (As := [.int ((-1002) : Int32)]) (c_X6_refuseBad l G ((-1002) : Int32) M hx2) (by decide) rfl hl.1 rfl (Nat.le_of_ble_eq_true rfl) dX6_beat_30) hW (fun H locs hW => ?_)
    obtain ⟨rfl, rfl⟩ := sp2 hk
    exact hret _ _ _ _ hW dX6_beat_33
  · replace hk := ite_t hk c17
    refine lv_iload_n hx hb dX6_beat_10 rfl (lv_at hl 2 rfl) ?_
    refine lv_iconst (v := (0 : Int32)) hx hb dX6_beat_11 (by decide) ?_
    refine lv_iconst (v := (4 : Int32)) hx hb dX6_beat_12 (by decide) ?_
    refine cl_i (rn_S g_278 g_279 g_1 g_280 hd_X6_outside (Nat.le_of_ble_eq_true rfl) hx hb hml hown hg hK hW (As := [.int a2, .int (0 : Int32), .int (4 : Int32)]) (c_X6_outside l G a2 (0 : Int32) (4 : Int32) M) (by decide) rfl hl.1 rfl (Nat.le_of_ble_eq_true rfl) dX6_beat_13) hW (fun H locs hW => ?_)
    refine lv_if_ne (tgt := 26) hx hb dX6_beat_16 (by decide) (fun c16 => ?_) (fun c16 => ?_)
    · replace hk := ite_f hk c16
      refine lv_aload_n hx hb dX6_beat_26 rfl (lv_at hl 0 rfl) ?_
      refine lv_sipush (v := ((-1002) : Int32)) hx hb dX6_beat_27 (by decide) ?_
      replace hk := ob2_s hk
      obtain ⟨x5, M6, hx5, hk⟩ := hk
      refine cl_i (rn_V g_281 g_283 gs_0 g_1 g_284 hd_X6_refuseBad (Nat.le_of_ble_eq_true rfl) (ci := 6) rfl (inC kd_0 rfl) (shp6 kd_0) hx hb hml hown hg hK hW (As := [.int ((-1002) : Int32)]) (c_X6_refuseBad l G ((-1002) : Int32) M hx5) (by decide) rfl hl.1 rfl (Nat.le_of_ble_eq_true rfl) dX6_beat_30) hW (fun H locs hW => ?_)
      obtain ⟨rfl, rfl⟩ := sp2 hk
      exact hret _ _ _ _ hW dX6_beat_33
    · replace hk := ite_t hk c16
      refine lv_iload_n hx hb dX6_beat_19 rfl (lv_at hl 3 rfl) ?_
      refine cl_i (rn_S g_583 g_584 g_1 g_585 hd_X6_notHigh (Nat.le_of_ble_eq_true rfl) hx hb hml hown hg hK hW (As := [.int a3]) (c_X6_notHigh l G a3 M) (by decide) rfl hl.1 rfl (Nat.le_of_ble_eq_true rfl) dX6_beat_20) hW (fun H locs hW => ?_)
      refine lv_if_eq (tgt := 34) hx hb dX6_beat_23 (by decide) (fun c15 => ?_) (fun c15 => ?_)
      · replace hk := ite_t hk c15
        refine lv_aload_n hx hb dX6_beat_34 rfl (lv_at hl 0 rfl) ?_
        refine gt_X6_10 hx hb hg hown hK hW kd_0 dX6_beat_35 ?_
        refine gt_X6_202 hx hb hg hown hK hW kd_1 dX6_beat_38 ?_
        refine lv_iload_n hx hb dX6_beat_41 rfl (lv_at hl 1 rfl) ?_
        replace hk := ob_s hk
        obtain ⟨x8, hx8, hk⟩ := hk
        refine cl_i (rn_S g_607 g_346 g_1 g_347 hd_X6_cell (Nat.le_of_ble_eq_true rfl) hx hb hml hown hg hK hW (As := [.ref (ad G (1 + 33)), .int a1]) (c_X6_cell l G (k2_33 kd_1) a1 M hx8) (by decide) rfl hl.1 rfl (Nat.le_of_ble_eq_true rfl) dX6_beat_42) hW (fun H locs hW => ?_)
        refine lv_istore (lv' := [(4, .int x8), (0, .ref (ad G 0)), (1, .int a1), (2, .int a2), (3, .int a3)]) hx hb dX6_beat_45 hl (by decide) rfl (fun ls hl => ?_)
        refine lv_aload_n hx hb dX6_beat_47 rfl (lv_at hl 1 rfl) ?_
        refine gt_X6_10 hx hb hg hown hK hW kd_0 dX6_beat_48 ?_
        refine gt_X6_202 hx hb hg hown hK hW kd_1 dX6_beat_51 ?_
        refine lv_iload_n hx hb dX6_beat_54 rfl (lv_at hl 2 rfl) ?_
        refine lv_iload_n hx hb dX6_beat_55 rfl (lv_at hl 3 rfl) ?_
        replace hk := ob_s hk
        obtain ⟨M10, hx9, hk⟩ := hk
        refine cl_v (rn_S g_520 g_294 g_1 g_295 hd_X6_put (Nat.le_of_ble_eq_true rfl) hx hb hml hown hg hK hW (As := [.ref (ad G (1 + 33)), .int a1, .int a2]) (c_X6_put l G (k2_33 kd_1) a1 a2 M hx9) (by decide) rfl hl.1 rfl (Nat.le_of_ble_eq_true rfl) dX6_beat_56) hW (fun H locs hW => ?_)
        refine lv_aload_n hx hb dX6_beat_59 rfl (lv_at hl 1 rfl) ?_
        refine gt_X6_10 hx hb hg hown hK hW kd_0 dX6_beat_60 ?_
        refine gt_X6_205 hx hb hg hown hK hW kd_1 dX6_beat_63 ?_
        refine lv_iload_n hx hb dX6_beat_66 rfl (lv_at hl 2 rfl) ?_
        refine lv_iload_n hx hb dX6_beat_67 rfl (lv_at hl 4 rfl) ?_
        replace hk := ob_s hk
        obtain ⟨M12, hx11, hk⟩ := hk
        refine cl_v (rn_S g_520 g_294 g_1 g_295 hd_X6_put (Nat.le_of_ble_eq_true rfl) hx hb hml hown hg hK hW (As := [.ref (ad G (1 + 34)), .int a1, .int a3]) (c_X6_put l G (k2_34 kd_1) a1 a3 M10 hx11) (by decide) rfl hl.1 rfl (Nat.le_of_ble_eq_true rfl) dX6_beat_68) hW (fun H locs hW => ?_)
        refine lv_iload hx hb dX6_beat_71 (lv_at hl 0 rfl) ?_
        obtain ⟨rfl, rfl⟩ := sp2 hk
        exact hret _ _ _ _ hW dX6_beat_73
      · replace hk := ite_f hk c15
        refine lv_aload_n hx hb dX6_beat_26 rfl (lv_at hl 0 rfl) ?_
        refine lv_sipush (v := ((-1002) : Int32)) hx hb dX6_beat_27 (by decide) ?_
        replace hk := ob2_s hk
        obtain ⟨x13, M14, hx13, hk⟩ := hk
        refine cl_i (rn_V g_281 g_283 gs_0 g_1 g_284 hd_X6_refuseBad (Nat.le_of_ble_eq_true rfl) (ci := 6) rfl (inC kd_0 rfl) (shp6 kd_0) hx hb hml hown hg hK hW (As := [.int ((-1002) : Int32)]) (c_X6_refuseBad l G ((-1002) : Int32) M hx13) (by decide) rfl hl.1 rfl (Nat.le_of_ble_eq_true rfl) dX6_beat_30) hW (fun H locs hW => ?_)
        obtain ⟨rfl, rfl⟩ := sp2 hk
        exact hret _ _ _ _ hW dX6_beat_33
def f_X6_dance (a1 : Int32) (M : Mem) : Option (Int32 × Mem) :=
  if (f_X6_outside a1 (0 : Int32) (6 : Int32)) = (0 : Int32) then (
    lq (M.1 1 11) (fun x2 =>
    lq (s1 M 1 11 a1) (fun M3 =>
    some (x2, M3))))
  else (
    ob2 (f_X6_refuseBad ((-1002) : Int32) M) (fun x4 M5 =>
    some (x4, M5)))
set_option maxHeartbeats 4000000 in
set_option maxRecDepth 100000 in
theorem c_X6_dance (l : Launch) (G : GT) (a1 : Int32) (M : Mem) {r : Int32} {M' : Mem} (hk : f_X6_dance a1 M = some (r, M')) : CMi l G true yX6_dance cX6_dance 3 (some .int) 1 [.ref (ad G 0), .int a1] M r M' := by
  unfold f_X6_dance at hk
  refine CMi.of (by decide) (Nat.le_of_ble_eq_true rfl) ?_
  intro p e s m args below meth c Q hx hb hml hown hg hK hW hret ls hl
  have hl : lv_has ls 3 [(0, .ref (ad G 0)), (1, .int a1)] := hl
  refine lv_iload_n hx hb dX6_dance_0 rfl (lv_at hl 1 rfl) ?_
  refine lv_iconst (v := (0 : Int32)) hx hb dX6_dance_1 (by decide) ?_
  refine lv_bipush (v := (6 : Int32)) hx hb dX6_dance_2 (by decide) ?_
  refine cl_i (rn_S g_278 g_279 g_1 g_280 hd_X6_outside (Nat.le_of_ble_eq_true rfl) hx hb hml hown hg hK hW (As := [.int a1, .int (0 : Int32), .int (6 : Int32)]) (c_X6_outside l G a1 (0 : Int32) (6 : Int32) M) (by decide) rfl hl.1 rfl (Nat.le_of_ble_eq_true rfl) dX6_dance_4) hW (fun H locs hW => ?_)
  refine lv_if_eq (tgt := 18) hx hb dX6_dance_7 (by decide) (fun c6 => ?_) (fun c6 => ?_)
  · replace hk := ite_t hk c6
    refine lv_aload_n hx hb dX6_dance_18 rfl (lv_at hl 0 rfl) ?_
    refine gt_X6_10 hx hb hg hown hK hW kd_0 dX6_dance_19 ?_
    refine gt_X6_208 hx hb hg hown hK hW kd_1 dX6_dance_22 ?_
    replace hk := lq_s hk
    obtain ⟨x2, ex2, hk⟩ := hk
    refine nm_i ex2 ?_
    refine lv_istore_n (lv' := [(2, .int x2), (0, .ref (ad G 0)), (1, .int a1)]) hx hb dX6_dance_25 rfl hl (by decide) rfl (fun ls hl => ?_)
    refine lv_aload_n hx hb dX6_dance_26 rfl (lv_at hl 1 rfl) ?_
    refine gt_X6_10 hx hb hg hown hK hW kd_0 dX6_dance_27 ?_
    refine lv_iload_n hx hb dX6_dance_30 rfl (lv_at hl 2 rfl) ?_
    replace hk := lq_s hk
    obtain ⟨M3, eM3, hk⟩ := hk
    refine pt_X6_208 hx hb hg hown hK hW kd_1 eM3 dX6_dance_31 (fun H locs hW => ?_)
    refine lv_iload_n hx hb dX6_dance_34 rfl (lv_at hl 0 rfl) ?_
    obtain ⟨rfl, rfl⟩ := sp2 hk
    exact hret _ _ _ _ hW dX6_dance_35
  · replace hk := ite_f hk c6
    refine lv_aload_n hx hb dX6_dance_10 rfl (lv_at hl 0 rfl) ?_
    refine lv_sipush (v := ((-1002) : Int32)) hx hb dX6_dance_11 (by decide) ?_
    replace hk := ob2_s hk
    obtain ⟨x4, M5, hx4, hk⟩ := hk
    refine cl_i (rn_V g_281 g_283 gs_0 g_1 g_284 hd_X6_refuseBad (Nat.le_of_ble_eq_true rfl) (ci := 6) rfl (inC kd_0 rfl) (shp6 kd_0) hx hb hml hown hg hK hW (As := [.int ((-1002) : Int32)]) (c_X6_refuseBad l G ((-1002) : Int32) M hx4) (by decide) rfl hl.1 rfl (Nat.le_of_ble_eq_true rfl) dX6_dance_14) hW (fun H locs hW => ?_)
    obtain ⟨rfl, rfl⟩ := sp2 hk
    exact hret _ _ _ _ hW dX6_dance_17
def f_X6_comesOut_L34 : Nat → Int32 → Int32 → Mem → Option (Int32 × Mem)
  | 0, _, _, _ => none
  | n + 1, x4, x5, M6 =>
    if (8 : Int32) ≤ x5 then (
      some (x4, M6))
    else (
      ob (f_X6_cell (1 + 33) x5 M6) (fun x9 =>
      ob (f_X2_step 1 172 x9 M6) (fun M11 =>
      ob (f_X2_highIn 1 172 (M11.1 1 11) M11) (fun x12 =>
      ob (f_X6_cell (1 + 34) x5 M11) (fun x13 =>
      lq (
        if x12 = x13 then (
          lq (x4 + (1 : Int32)) (fun x14 =>
          x14))
        else (
          x4))
       (fun x16 =>
      lq (x5 + (1 : Int32)) (fun x17 =>
      f_X6_comesOut_L34 n x16 x17 M11)))))))
def f_X6_comesOut (M : Mem) : Option (Int32 × Mem) :=
  if (f_X6_noLimb (M.1 1 11) M) = (0 : Int32) then (
    ob (f_X1_become 172 (1 + 5) M) (fun M3 =>
    ob2 (f_X6_comesOut_L34 FU (0 : Int32) (0 : Int32) M3) (fun x7 M8 =>
    some (x7, M8))))
  else (
    some ((0 : Int32), M))
set_option maxHeartbeats 4000000 in
set_option maxRecDepth 100000 in
theorem c_X6_comesOut (l : Launch) (G : GT)  (M : Mem) {r : Int32} {M' : Mem} (hk : f_X6_comesOut  M = some (r, M')) : CMi l G true yX6_comesOut cX6_comesOut 3 (some .int) 4 [.ref (ad G 0)] M r M' := by
  unfold f_X6_comesOut at hk
  refine CMi.of (by decide) (Nat.le_of_ble_eq_true rfl) ?_
  intro p e s m args below meth c Q hx hb hml hown hg hK hW hret ls hl
  have hl : lv_has ls 3 [(0, .ref (ad G 0))] := hl
  refine lv_aload_n hx hb dX6_comesOut_0 rfl (lv_at hl 0 rfl) ?_
  refine lv_aload_n hx hb dX6_comesOut_1 rfl (lv_at hl 0 rfl) ?_
  refine gt_X6_10 hx hb hg hown hK hW kd_0 dX6_comesOut_2 ?_
  refine gt_X6_208 hx hb hg hown hK hW kd_1 dX6_comesOut_5 ?_
  refine cl_i (rn_V g_514 g_516 gs_30 g_1 g_517 hd_X6_noLimb (Nat.le_of_ble_eq_true rfl) (ci := 6) rfl (inC kd_0 rfl) (shp6 kd_0) hx hb hml hown hg hK hW (As := [.int (M.1 1 11)]) (c_X6_noLimb l G (M.1 1 11) M) (by decide) rfl hl.1 rfl (Nat.le_of_ble_eq_true rfl) dX6_comesOut_8) hW (fun H locs hW => ?_)
  refine lv_if_eq (tgt := 16) hx hb dX6_comesOut_11 (by decide) (fun c23 => ?_) (fun c23 => ?_)
  · replace hk := ite_t hk c23
    refine lv_iconst (v := (0 : Int32)) hx hb dX6_comesOut_16 (by decide) ?_
    refine lv_istore_n (lv' := [(1, .int (0 : Int32)), (0, .ref (ad G 0))]) hx hb dX6_comesOut_17 rfl hl (by decide) rfl (fun ls hl => ?_)
    refine lv_aload_n hx hb dX6_comesOut_18 rfl (lv_at hl 1 rfl) ?_
    refine gt_X6_56 hx hb hg hown hK hW kd_0 dX6_comesOut_19 ?_
    refine lv_aload_n hx hb dX6_comesOut_22 rfl (lv_at hl 1 rfl) ?_
    refine gt_X6_10 hx hb hg hown hK hW kd_0 dX6_comesOut_23 ?_
    refine gt_X6_118 hx hb hg hown hK hW kd_1 dX6_comesOut_26 ?_
    replace hk := ob_s hk
    obtain ⟨M3, hx2, hk⟩ := hk
    refine cl_v (rn_VN n_637 g_478 gs_24 g_3 g_479 hd_X1_become (Nat.le_of_ble_eq_true rfl) (ci := 1) rfl (inC kd_172 rfl) (shp1 kd_172) hx hb hml hown hg hK hW (As := [.ref (ad G (1 + 5))]) (c_X1_become l G kd_172 (k2_5 kd_1) M hx2) (by decide) rfl hl.1 rfl (Nat.le_of_ble_eq_true rfl) dX6_comesOut_29) hW (fun H locs hW => ?_)
    refine lv_iconst (v := (0 : Int32)) hx hb dX6_comesOut_32 (by decide) ?_
    refine lv_istore_n (lv' := [(2, .int (0 : Int32)), (1, .int (0 : Int32)), (0, .ref (ad G 0))]) hx hb dX6_comesOut_33 rfl hl (by decide) rfl (fun ls hl => ?_)
    replace hk := ob2_s hk
    obtain ⟨x7, M8, hz21, hk⟩ := hk
    have KX34 : ∀ (H : Heap) (locs : List Loc) (ls : Array Slot), Ws G true M8 s H locs → lv_has ls 3 [(1, .int x7)] → Wx p l e 4 s m args below meth c Q H locs 103 ls [] := by
      intro H locs ls hW hl
      refine lv_iload_n hx hb dX6_comesOut_103 rfl (lv_at hl 0 rfl) ?_
      obtain ⟨rfl, rfl⟩ := sp2 hk
      exact hret _ _ _ _ hW dX6_comesOut_104
    clear hk
    have LH34 : ∀ (n : Nat) (x4 : Int32) (x5 : Int32) (M6 : Mem) (H : Heap) (locs : List Loc) (ls : Array Slot), f_X6_comesOut_L34 n x4 x5 M6 = some (x7, M8) → Ws G true M6 s H locs → lv_has ls 3 [(0, .ref (ad G 0)), (1, .int x4), (2, .int x5)] → Wx p l e 4 s m args below meth c Q H locs 34 ls [] := by
      clear hz21
      intro n
      induction n with
      | zero => intro _ _ _ _ _ _ hk; cases hk
      | succ n ih34 =>
        intro x4 x5 M6 H locs ls hk hW hl
        rw [f_X6_comesOut_L34.eq_2] at hk
        refine lv_iload_n hx hb dX6_comesOut_34 rfl (lv_at hl 2 rfl) ?_
        refine lv_bipush (v := (8 : Int32)) hx hb dX6_comesOut_35 (by decide) ?_
        refine lv_icmp_ge (tgt := 103) hx hb dX6_comesOut_37 (by decide) (fun c20 => ?_) (fun c20 => ?_)
        · replace hk := ite_t hk c20
          obtain ⟨rfl, rfl⟩ := sp2 hk
          exact KX34 _ _ _ hW (lv_sub hl [1] rfl)
        · replace hk := ite_f hk c20
          refine lv_aload_n hx hb dX6_comesOut_40 rfl (lv_at hl 0 rfl) ?_
          refine gt_X6_10 hx hb hg hown hK hW kd_0 dX6_comesOut_41 ?_
          refine lv_aload_n hx hb dX6_comesOut_44 rfl (lv_at hl 0 rfl) ?_
          refine gt_X6_56 hx hb hg hown hK hW kd_0 dX6_comesOut_45 ?_
          refine lv_aload_n hx hb dX6_comesOut_48 rfl (lv_at hl 0 rfl) ?_
          refine gt_X6_10 hx hb hg hown hK hW kd_0 dX6_comesOut_49 ?_
          refine gt_X6_202 hx hb hg hown hK hW kd_1 dX6_comesOut_52 ?_
          refine lv_iload_n hx hb dX6_comesOut_55 rfl (lv_at hl 2 rfl) ?_
          replace hk := ob_s hk
          obtain ⟨x9, hx9, hk⟩ := hk
          refine cl_i (rn_S g_607 g_346 g_1 g_347 hd_X6_cell (Nat.le_of_ble_eq_true rfl) hx hb hml hown hg hK hW (As := [.ref (ad G (1 + 33)), .int x5]) (c_X6_cell l G (k2_33 kd_1) x5 M6 hx9) (by decide) rfl hl.1 rfl (Nat.le_of_ble_eq_true rfl) dX6_comesOut_56) hW (fun H locs hW => ?_)
          replace hk := ob_s hk
          obtain ⟨M11, hx10, hk⟩ := hk
          refine cl_v (rn_VN n_504 g_432 gs_18 g_2 g_433 hd_X2_step (Nat.le_of_ble_eq_true rfl) (ci := 2) rfl (inC kd_1 rfl) (shp2 kd_1) hx hb hml hown hg hK hW (As := [.ref (ad G 172), .int x9]) (c_X2_step l G kd_1 kd_172 x9 M6 hx10) (by decide) rfl hl.1 rfl (Nat.le_of_ble_eq_true rfl) dX6_comesOut_59) hW (fun H locs hW => ?_)
          refine lv_aload_n hx hb dX6_comesOut_62 rfl (lv_at hl 0 rfl) ?_
          refine gt_X6_10 hx hb hg hown hK hW kd_0 dX6_comesOut_63 ?_
          refine lv_aload_n hx hb dX6_comesOut_66 rfl (lv_at hl 0 rfl) ?_
          refine gt_X6_56 hx hb hg hown hK hW kd_0 dX6_comesOut_67 ?_
          refine lv_aload_n hx hb dX6_comesOut_70 rfl (lv_at hl 0 rfl) ?_
          refine gt_X6_10 hx hb hg hown hK hW kd_0 dX6_comesOut_71 ?_
          refine gt_X6_208 hx hb hg hown hK hW kd_1 dX6_comesOut_74 ?_
          replace hk := ob_s hk
          obtain ⟨x12, hx12, hk⟩ := hk
          refine cl_i (rn_VN n_572 g_549 gs_34 g_2 g_550 hd_X2_highIn (Nat.le_of_ble_eq_true rfl) (ci := 2) rfl (inC kd_1 rfl) (shp2 kd_1) hx hb hml hown hg hK hW (As := [.ref (ad G 172), .int (M11.1 1 11)]) (c_X2_highIn l G kd_1 kd_172 (M11.1 1 11) M11 hx12) (by decide) rfl hl.1 rfl (Nat.le_of_ble_eq_true rfl) dX6_comesOut_77) hW (fun H locs hW => ?_)
          refine lv_aload_n hx hb dX6_comesOut_80 rfl (lv_at hl 0 rfl) ?_
          refine gt_X6_10 hx hb hg hown hK hW kd_0 dX6_comesOut_81 ?_
          refine gt_X6_205 hx hb hg hown hK hW kd_1 dX6_comesOut_84 ?_
          refine lv_iload_n hx hb dX6_comesOut_87 rfl (lv_at hl 2 rfl) ?_
          replace hk := ob_s hk
          obtain ⟨x13, hx13, hk⟩ := hk
          refine cl_i (rn_S g_607 g_346 g_1 g_347 hd_X6_cell (Nat.le_of_ble_eq_true rfl) hx hb hml hown hg hK hW (As := [.ref (ad G (1 + 34)), .int x5]) (c_X6_cell l G (k2_34 kd_1) x5 M11 hx13) (by decide) rfl hl.1 rfl (Nat.le_of_ble_eq_true rfl) dX6_comesOut_88) hW (fun H locs hW => ?_)
          replace hk := lq_s hk
          obtain ⟨x16, hr19, hk⟩ := hk
          have KJ18 : ∀ (H : Heap) (locs : List Loc) (ls : Array Slot), Ws G true M11 s H locs → lv_has ls 3 [(0, .ref (ad G 0)), (1, .int x16), (2, .int x5)] → Wx p l e 4 s m args below meth c Q H locs 97 ls [] := by
            intro H locs ls hW hl
            replace hk := lq_s hk
            obtain ⟨x17, ex17, hk⟩ := hk
            refine lv_iinc (v := x17) (lv' := [(2, .int x17), (0, .ref (ad G 0)), (1, .int x16)]) hx hb dX6_comesOut_97 hl (k := 2) rfl (by rw [ex17]; rfl) (by decide) rfl (fun ls hl => ?_)
            refine lv_goto (tgt := 34) hx hb dX6_comesOut_100 (by decide) ?_
            exact ih34 _ _ _ _ _ _ hk hW (lv_sub hl [1, 2, 0] rfl)
          clear hk
          have hk := hr19.symm
          clear hr19
          refine lv_icmp_ne (tgt := 97) hx hb dX6_comesOut_91 (by decide) (fun c15 => ?_) (fun c15 => ?_)
          · replace hk := ite_f hk c15
            subst hk
            exact KJ18 _ _ _ hW (lv_sub hl [0, 1, 2] rfl)
          · replace hk := ite_t hk c15
            replace hk := lq_s hk
            obtain ⟨x14, ex14, hk⟩ := hk
            refine lv_iinc (v := x14) (lv' := [(1, .int x14), (0, .ref (ad G 0)), (2, .int x5)]) hx hb dX6_comesOut_94 hl (k := 1) rfl (by rw [ex14]; rfl) (by decide) rfl (fun ls hl => ?_)
            subst hk
            exact KJ18 _ _ _ hW (lv_sub hl [1, 0, 2] rfl)
    exact LH34 FU _ _ _ _ _ _ hz21 hW (lv_sub hl [2, 1, 0] rfl)
  · replace hk := ite_f hk c23
    refine lv_iconst (v := (0 : Int32)) hx hb dX6_comesOut_14 (by decide) ?_
    obtain ⟨rfl, rfl⟩ := sp2 hk
    exact hret _ _ _ _ hW dX6_comesOut_15
def f_X6_snaps_L28 (x3 : Int32) : Nat → Int32 → Mem → Option ((Int32 × Mem) ⊕ (Int32 × Mem))
  | 0, _, _ => none
  | n + 1, x4, M5 =>
    if (8 : Int32) ≤ x4 then (
      some (Sum.inl (x4, M5)))
    else (
      ob (f_X6_cell (1 + 33) x4 M5) (fun x8 =>
      ob (f_X2_step 1 172 x8 M5) (fun M10 =>
      ob (f_X2_snappedIn 1 172 M10) (fun x11 =>
      if x11 ≤ x3 then (
        lq (x4 + (1 : Int32)) (fun x12 =>
        f_X6_snaps_L28 x3 n x12 M10))
      else (
        some (Sum.inr (x4, M10)))))))
def f_X6_snaps (M : Mem) : Option (Int32 × Mem) :=
  ob (f_X1_become 172 (1 + 5) M) (fun M2 =>
  ob (f_X2_snappedIn 1 172 M2) (fun x3 =>
  oeT2 (f_X6_snaps_L28 x3 FU (0 : Int32) M2) (fun x6 M7 =>
  some (((-1001) : Int32), M7))))
set_option maxHeartbeats 4000000 in
set_option maxRecDepth 100000 in
theorem c_X6_snaps (l : Launch) (G : GT)  (M : Mem) {r : Int32} {M' : Mem} (hk : f_X6_snaps  M = some (r, M')) : CMi l G true yX6_snaps cX6_snaps 3 (some .int) 3 [.ref (ad G 0)] M r M' := by
  unfold f_X6_snaps at hk
  refine CMi.of (by decide) (Nat.le_of_ble_eq_true rfl) ?_
  intro p e s m args below meth c Q hx hb hml hown hg hK hW hret ls hl
  have hl : lv_has ls 3 [(0, .ref (ad G 0))] := hl
  refine lv_aload_n hx hb dX6_snaps_0 rfl (lv_at hl 0 rfl) ?_
  refine gt_X6_56 hx hb hg hown hK hW kd_0 dX6_snaps_1 ?_
  refine lv_aload_n hx hb dX6_snaps_4 rfl (lv_at hl 0 rfl) ?_
  refine gt_X6_10 hx hb hg hown hK hW kd_0 dX6_snaps_5 ?_
  refine gt_X6_118 hx hb hg hown hK hW kd_1 dX6_snaps_8 ?_
  replace hk := ob_s hk
  obtain ⟨M2, hx1, hk⟩ := hk
  refine cl_v (rn_VN n_637 g_478 gs_24 g_3 g_479 hd_X1_become (Nat.le_of_ble_eq_true rfl) (ci := 1) rfl (inC kd_172 rfl) (shp1 kd_172) hx hb hml hown hg hK hW (As := [.ref (ad G (1 + 5))]) (c_X1_become l G kd_172 (k2_5 kd_1) M hx1) (by decide) rfl hl.1 rfl (Nat.le_of_ble_eq_true rfl) dX6_snaps_11) hW (fun H locs hW => ?_)
  refine lv_aload_n hx hb dX6_snaps_14 rfl (lv_at hl 0 rfl) ?_
  refine gt_X6_10 hx hb hg hown hK hW kd_0 dX6_snaps_15 ?_
  refine lv_aload_n hx hb dX6_snaps_18 rfl (lv_at hl 0 rfl) ?_
  refine gt_X6_56 hx hb hg hown hK hW kd_0 dX6_snaps_19 ?_
  replace hk := ob_s hk
  obtain ⟨x3, hx3, hk⟩ := hk
  refine cl_i (rn_VN n_505 g_507 gs_29 g_2 g_508 hd_X2_snappedIn (Nat.le_of_ble_eq_true rfl) (ci := 2) rfl (inC kd_1 rfl) (shp2 kd_1) hx hb hml hown hg hK hW (As := [.ref (ad G 172)]) (c_X2_snappedIn l G kd_1 kd_172 M2 hx3) (by decide) rfl hl.1 rfl (Nat.le_of_ble_eq_true rfl) dX6_snaps_22) hW (fun H locs hW => ?_)
  refine lv_istore_n (lv' := [(1, .int x3), (0, .ref (ad G 0))]) hx hb dX6_snaps_25 rfl hl (by decide) rfl (fun ls hl => ?_)
  refine lv_iconst (v := (0 : Int32)) hx hb dX6_snaps_26 (by decide) ?_
  refine lv_istore_n (lv' := [(2, .int (0 : Int32)), (1, .int x3), (0, .ref (ad G 0))]) hx hb dX6_snaps_27 rfl hl (by decide) rfl (fun ls hl => ?_)
  replace hk := oeT2_s hk
  obtain ⟨z16, hz15, hk_28⟩ := hk
  have KX28 : ∀ (x6 : Int32) (M7 : Mem), z16 = Sum.inl (x6, M7) → ∀ (H : Heap) (locs : List Loc) (ls : Array Slot), Ws G true M7 s H locs → lv_has ls 3 [] → Wx p l e 3 s m args below meth c Q H locs 79 ls [] := by
    intro x6 M7 ez H locs ls hW hl
    have hk := hk_28.1 x6 M7 ez
    refine lv_sipush (v := ((-1001) : Int32)) hx hb dX6_snaps_79 (by decide) ?_
    obtain ⟨rfl, rfl⟩ := sp2 hk
    exact hret _ _ _ _ hW dX6_snaps_82
  have LH28 : ∀ (n : Nat) (x4 : Int32) (M5 : Mem) (H : Heap) (locs : List Loc) (ls : Array Slot), f_X6_snaps_L28 x3 n x4 M5 = some z16 → Ws G true M5 s H locs → lv_has ls 3 [(0, .ref (ad G 0)), (1, .int x3), (2, .int x4)] → Wx p l e 3 s m args below meth c Q H locs 28 ls [] := by
    clear hz15
    intro n
    induction n with
    | zero => intro _ _ _ _ _ hk; cases hk
    | succ n ih28 =>
      intro x4 M5 H locs ls hk hW hl
      rw [f_X6_snaps_L28.eq_2] at hk
      refine lv_iload_n hx hb dX6_snaps_28 rfl (lv_at hl 2 rfl) ?_
      refine lv_bipush (v := (8 : Int32)) hx hb dX6_snaps_29 (by decide) ?_
      refine lv_icmp_ge (tgt := 79) hx hb dX6_snaps_31 (by decide) (fun c14 => ?_) (fun c14 => ?_)
      · replace hk := ite_t hk c14
        obtain rfl := Option.some.inj hk
        exact KX28 _ _ rfl _ _ _ hW (lv_sub hl [] rfl)
      · replace hk := ite_f hk c14
        refine lv_aload_n hx hb dX6_snaps_34 rfl (lv_at hl 0 rfl) ?_
        refine gt_X6_10 hx hb hg hown hK hW kd_0 dX6_snaps_35 ?_
        refine lv_aload_n hx hb dX6_snaps_38 rfl (lv_at hl 0 rfl) ?_
        refine gt_X6_56 hx hb hg hown hK hW kd_0 dX6_snaps_39 ?_
        refine lv_aload_n hx hb dX6_snaps_42 rfl (lv_at hl 0 rfl) ?_
        refine gt_X6_10 hx hb hg hown hK hW kd_0 dX6_snaps_43 ?_
        refine gt_X6_202 hx hb hg hown hK hW kd_1 dX6_snaps_46 ?_
        refine lv_iload_n hx hb dX6_snaps_49 rfl (lv_at hl 2 rfl) ?_
        replace hk := ob_s hk
        obtain ⟨x8, hx8, hk⟩ := hk
        refine cl_i (rn_S g_607 g_346 g_1 g_347 hd_X6_cell (Nat.le_of_ble_eq_true rfl) hx hb hml hown hg hK hW (As := [.ref (ad G (1 + 33)), .int x4]) (c_X6_cell l G (k2_33 kd_1) x4 M5 hx8) (by decide) rfl hl.1 rfl (Nat.le_of_ble_eq_true rfl) dX6_snaps_50) hW (fun H locs hW => ?_)
        replace hk := ob_s hk
        obtain ⟨M10, hx9, hk⟩ := hk
        refine cl_v (rn_VN n_504 g_432 gs_18 g_2 g_433 hd_X2_step (Nat.le_of_ble_eq_true rfl) (ci := 2) rfl (inC kd_1 rfl) (shp2 kd_1) hx hb hml hown hg hK hW (As := [.ref (ad G 172), .int x8]) (c_X2_step l G kd_1 kd_172 x8 M5 hx9) (by decide) rfl hl.1 rfl (Nat.le_of_ble_eq_true rfl) dX6_snaps_53) hW (fun H locs hW => ?_)
        refine lv_aload_n hx hb dX6_snaps_56 rfl (lv_at hl 0 rfl) ?_
        refine gt_X6_10 hx hb hg hown hK hW kd_0 dX6_snaps_57 ?_
        refine lv_aload_n hx hb dX6_snaps_60 rfl (lv_at hl 0 rfl) ?_
        refine gt_X6_56 hx hb hg hown hK hW kd_0 dX6_snaps_61 ?_
        replace hk := ob_s hk
        obtain ⟨x11, hx11, hk⟩ := hk
        refine cl_i (rn_VN n_505 g_507 gs_29 g_2 g_508 hd_X2_snappedIn (Nat.le_of_ble_eq_true rfl) (ci := 2) rfl (inC kd_1 rfl) (shp2 kd_1) hx hb hml hown hg hK hW (As := [.ref (ad G 172)]) (c_X2_snappedIn l G kd_1 kd_172 M10 hx11) (by decide) rfl hl.1 rfl (Nat.le_of_ble_eq_true rfl) dX6_snaps_64) hW (fun H locs hW => ?_)
        refine lv_iload_n hx hb dX6_snaps_67 rfl (lv_at hl 1 rfl) ?_
        refine lv_icmp_le (tgt := 73) hx hb dX6_snaps_68 (by decide) (fun c13 => ?_) (fun c13 => ?_)
        · replace hk := ite_t hk c13
          replace hk := lq_s hk
          obtain ⟨x12, ex12, hk⟩ := hk
          refine lv_iinc (v := x12) (lv' := [(2, .int x12), (0, .ref (ad G 0)), (1, .int x3)]) hx hb dX6_snaps_73 hl (k := 2) rfl (by rw [ex12]; rfl) (by decide) rfl (fun ls hl => ?_)
          refine lv_goto (tgt := 28) hx hb dX6_snaps_76 (by decide) ?_
          exact ih28 _ _ _ _ _ hk hW (lv_sub hl [1, 2, 0] rfl)
        · replace hk := ite_f hk c13
          refine lv_iload_n hx hb dX6_snaps_71 rfl (lv_at hl 2 rfl) ?_
          obtain rfl := Option.some.inj hk
          have hk := hk_28.2 _ rfl
          obtain ⟨rfl, rfl⟩ := sp2 hk
          exact hret _ _ _ _ hW dX6_snaps_72
  exact LH28 FU _ _ _ _ _ hz15 hW (lv_sub hl [2, 1, 0] rfl)
def f_X6_seen (a1 : Int32) (a2 : Int32) (a3 : Int32) (a4 : Int32) (M : Mem) : Option (Int32 × Mem) :=
  if (f_X6_noLimb a1 M) = (0 : Int32) then (
    if (f_X6_outside a2 (1 : Int32) (20 : Int32)) = (0 : Int32) then (
      if (f_X6_outside a3 (0 : Int32) (60 : Int32)) = (0 : Int32) then (
        if (f_X6_notHigh a4) = (0 : Int32) then (
          if (f_X5_isFull (1 + 35) M) = (0 : Int32) then (
            ob2 (f_X5_append (1 + 35) a1 a2 a3 a4 (0 : Int32) M) (fun x12 M13 =>
            some (x12, M13)))
          else (
            ob2 (f_X6_refuseFull M) (fun x14 M15 =>
            some (x14, M15))))
        else (
          ob2 (f_X6_refuseBad ((-1002) : Int32) M) (fun x17 M18 =>
          some (x17, M18))))
      else (
        ob2 (f_X6_refuseBad ((-1002) : Int32) M) (fun x8 M9 =>
        some (x8, M9))))
    else (
      ob2 (f_X6_refuseBad ((-1002) : Int32) M) (fun x5 M6 =>
      some (x5, M6))))
  else (
    ob2 (f_X6_refuseBad ((-1002) : Int32) M) (fun x2 M3 =>
    some (x2, M3)))
set_option maxHeartbeats 4000000 in
set_option maxRecDepth 100000 in
theorem c_X6_seen (l : Launch) (G : GT) (a1 : Int32) (a2 : Int32) (a3 : Int32) (a4 : Int32) (M : Mem) {r : Int32} {M' : Mem} (hk : f_X6_seen a1 a2 a3 a4 M = some (r, M')) : CMi l G true yX6_seen cX6_seen 5 (some .int) 2 [.ref (ad G 0), .int a1, .int a2, .int a3, .int a4] M r M' := by
  unfold f_X6_seen at hk
  refine CMi.of (by decide) (Nat.le_of_ble_eq_true rfl) ?_
  intro p e s m args below meth c Q hx hb hml hown hg hK hW hret ls hl
  have hl : lv_has ls 5 [(0, .ref (ad G 0)), (1, .int a1), (2, .int a2), (3, .int a3), (4, .int a4)] := hl
  refine lv_aload_n hx hb dX6_seen_0 rfl (lv_at hl 0 rfl) ?_
  refine lv_iload_n hx hb dX6_seen_1 rfl (lv_at hl 1 rfl) ?_
  refine cl_i (rn_V g_514 g_516 gs_30 g_1 g_517 hd_X6_noLimb (Nat.le_of_ble_eq_true rfl) (ci := 6) rfl (inC kd_0 rfl) (shp6 kd_0) hx hb hml hown hg hK hW (As := [.int a1]) (c_X6_noLimb l G a1 M) (by decide) rfl hl.1 rfl (Nat.le_of_ble_eq_true rfl) dX6_seen_2) hW (fun H locs hW => ?_)
  refine lv_if_ne (tgt := 36) hx hb dX6_seen_5 (by decide) (fun c22 => ?_) (fun c22 => ?_)
  · replace hk := ite_f hk c22
    refine lv_aload_n hx hb dX6_seen_36 rfl (lv_at hl 0 rfl) ?_
    refine lv_sipush (v := ((-1002) : Int32)) hx hb dX6_seen_37 (by decide) ?_
    replace hk := ob2_s hk
    obtain ⟨x2, M3, hx2, hk⟩ := hk
    refine cl_i (rn_V g_281 g_283 gs_0 g_1 g_284 hd_X6_refuseBad (Nat.le_of_ble_eq_true rfl) (ci := 6) rfl (inC kd_0 rfl) (shp6 kd_0) hx hb hml hown hg hK hW (As := [.int ((-1002) : Int32)]) (c_X6_refuseBad l G ((-1002) : Int32) M hx2) (by decide) rfl hl.1 rfl (Nat.le_of_ble_eq_true rfl) dX6_seen_40) hW (fun H locs hW => ?_)
    obtain ⟨rfl, rfl⟩ := sp2 hk
    exact hret _ _ _ _ hW dX6_seen_43
  · replace hk := ite_t hk c22
    refine lv_iload_n hx hb dX6_seen_8 rfl (lv_at hl 2 rfl) ?_
    refine lv_iconst (v := (1 : Int32)) hx hb dX6_seen_9 (by decide) ?_
    refine lv_bipush (v := (20 : Int32)) hx hb dX6_seen_10 (by decide) ?_
    refine cl_i (rn_S g_278 g_279 g_1 g_280 hd_X6_outside (Nat.le_of_ble_eq_true rfl) hx hb hml hown hg hK hW (As := [.int a2, .int (1 : Int32), .int (20 : Int32)]) (c_X6_outside l G a2 (1 : Int32) (20 : Int32) M) (by decide) rfl hl.1 rfl (Nat.le_of_ble_eq_true rfl) dX6_seen_12) hW (fun H locs hW => ?_)
    refine lv_if_ne (tgt := 36) hx hb dX6_seen_15 (by decide) (fun c21 => ?_) (fun c21 => ?_)
    · replace hk := ite_f hk c21
      refine lv_aload_n hx hb dX6_seen_36 rfl (lv_at hl 0 rfl) ?_
      refine lv_sipush (v := ((-1002) : Int32)) hx hb dX6_seen_37 (by decide) ?_
      replace hk := ob2_s hk
      obtain ⟨x5, M6, hx5, hk⟩ := hk
      refine cl_i (rn_V g_281 g_283 gs_0 g_1 g_284 hd_X6_refuseBad (Nat.le_of_ble_eq_true rfl) (ci := 6) rfl (inC kd_0 rfl) (shp6 kd_0) hx hb hml hown hg hK hW (As := [.int ((-1002) : Int32)]) (c_X6_refuseBad l G ((-1002) : Int32) M hx5) (by decide) rfl hl.1 rfl (Nat.le_of_ble_eq_true rfl) dX6_seen_40) hW (fun H locs hW => ?_)
      obtain ⟨rfl, rfl⟩ := sp2 hk
      exact hret _ _ _ _ hW dX6_seen_43
    · replace hk := ite_t hk c21
      refine lv_iload_n hx hb dX6_seen_18 rfl (lv_at hl 3 rfl) ?_
      refine lv_iconst (v := (0 : Int32)) hx hb dX6_seen_19 (by decide) ?_
      refine lv_bipush (v := (60 : Int32)) hx hb dX6_seen_20 (by decide) ?_
      refine cl_i (rn_S g_278 g_279 g_1 g_280 hd_X6_outside (Nat.le_of_ble_eq_true rfl) hx hb hml hown hg hK hW (As := [.int a3, .int (0 : Int32), .int (60 : Int32)]) (c_X6_outside l G a3 (0 : Int32) (60 : Int32) M) (by decide) rfl hl.1 rfl (Nat.le_of_ble_eq_true rfl) dX6_seen_22) hW (fun H locs hW => ?_)
      refine lv_if_ne (tgt := 36) hx hb dX6_seen_25 (by decide) (fun c20 => ?_) (fun c20 => ?_)
      · replace hk := ite_f hk c20
        refine lv_aload_n hx hb dX6_seen_36 rfl (lv_at hl 0 rfl) ?_
        refine lv_sipush (v := ((-1002) : Int32)) hx hb dX6_seen_37 (by decide) ?_
        replace hk := ob2_s hk
        obtain ⟨x8, M9, hx8, hk⟩ := hk
        refine cl_i (rn_V g_281 g_283 gs_0 g_1 g_284 hd_X6_refuseBad (Nat.le_of_ble_eq_true rfl) (ci := 6) rfl (inC kd_0 rfl) (shp6 kd_0) hx hb hml hown hg hK hW (As := [.int ((-1002) : Int32)]) (c_X6_refuseBad l G ((-1002) : Int32) M hx8) (by decide) rfl hl.1 rfl (Nat.le_of_ble_eq_true rfl) dX6_seen_40) hW (fun H locs hW => ?_)
        obtain ⟨rfl, rfl⟩ := sp2 hk
        exact hret _ _ _ _ hW dX6_seen_43
      · replace hk := ite_t hk c20
        refine lv_iload hx hb dX6_seen_28 (lv_at hl 4 rfl) ?_
        refine cl_i (rn_S g_583 g_584 g_1 g_585 hd_X6_notHigh (Nat.le_of_ble_eq_true rfl) hx hb hml hown hg hK hW (As := [.int a4]) (c_X6_notHigh l G a4 M) (by decide) rfl hl.1 rfl (Nat.le_of_ble_eq_true rfl) dX6_seen_30) hW (fun H locs hW => ?_)
        refine lv_if_eq (tgt := 44) hx hb dX6_seen_33 (by decide) (fun c19 => ?_) (fun c19 => ?_)
        · replace hk := ite_t hk c19
          refine lv_aload_n hx hb dX6_seen_44 rfl (lv_at hl 0 rfl) ?_
          refine gt_X6_10 hx hb hg hown hK hW kd_0 dX6_seen_45 ?_
          refine gt_X6_218 hx hb hg hown hK hW kd_1 dX6_seen_48 ?_
          refine cl_i (rn_VN n_646 g_648 gs_41 g_4 g_649 hd_X5_isFull (Nat.le_of_ble_eq_true rfl) (ci := 5) rfl (inC (k2_35 kd_1) rfl) (shp5 (k2_35 kd_1)) hx hb hml hown hg hK hW (As := []) (c_X5_isFull l G (k2_35 kd_1) M) (by decide) rfl hl.1 rfl (Nat.le_of_ble_eq_true rfl) dX6_seen_51) hW (fun H locs hW => ?_)
          refine lv_if_eq (tgt := 62) hx hb dX6_seen_54 (by decide) (fun c16 => ?_) (fun c16 => ?_)
          · replace hk := ite_t hk c16
            refine lv_aload_n hx hb dX6_seen_62 rfl (lv_at hl 0 rfl) ?_
            refine gt_X6_10 hx hb hg hown hK hW kd_0 dX6_seen_63 ?_
            refine gt_X6_218 hx hb hg hown hK hW kd_1 dX6_seen_66 ?_
            refine lv_iload_n hx hb dX6_seen_69 rfl (lv_at hl 1 rfl) ?_
            refine lv_iload_n hx hb dX6_seen_70 rfl (lv_at hl 2 rfl) ?_
            refine lv_iload_n hx hb dX6_seen_71 rfl (lv_at hl 3 rfl) ?_
            refine lv_iload hx hb dX6_seen_72 (lv_at hl 4 rfl) ?_
            refine lv_iconst (v := (0 : Int32)) hx hb dX6_seen_74 (by decide) ?_
            replace hk := ob2_s hk
            obtain ⟨x12, M13, hx12, hk⟩ := hk
            refine cl_i (rn_VN n_650 g_652 gs_42 g_4 g_653 hd_X5_append (Nat.le_of_ble_eq_true rfl) (ci := 5) rfl (inC (k2_35 kd_1) rfl) (shp5 (k2_35 kd_1)) hx hb hml hown hg hK hW (As := [.int a1, .int a2, .int a3, .int a4, .int (0 : Int32)]) (c_X5_append l G (k2_35 kd_1) a1 a2 a3 a4 (0 : Int32) M hx12) (by decide) rfl hl.1 rfl (Nat.le_of_ble_eq_true rfl) dX6_seen_75) hW (fun H locs hW => ?_)
            obtain ⟨rfl, rfl⟩ := sp2 hk
            exact hret _ _ _ _ hW dX6_seen_78
          · replace hk := ite_f hk c16
            refine lv_aload_n hx hb dX6_seen_57 rfl (lv_at hl 0 rfl) ?_
            replace hk := ob2_s hk
            obtain ⟨x14, M15, hx14, hk⟩ := hk
            refine cl_i (rn_V g_304 g_306 gs_4 g_1 g_307 hd_X6_refuseFull (Nat.le_of_ble_eq_true rfl) (ci := 6) rfl (inC kd_0 rfl) (shp6 kd_0) hx hb hml hown hg hK hW (As := []) (c_X6_refuseFull l G M hx14) (by decide) rfl hl.1 rfl (Nat.le_of_ble_eq_true rfl) dX6_seen_58) hW (fun H locs hW => ?_)
            obtain ⟨rfl, rfl⟩ := sp2 hk
            exact hret _ _ _ _ hW dX6_seen_61
        · replace hk := ite_f hk c19
          refine lv_aload_n hx hb dX6_seen_36 rfl (lv_at hl 0 rfl) ?_
          refine lv_sipush (v := ((-1002) : Int32)) hx hb dX6_seen_37 (by decide) ?_
          replace hk := ob2_s hk
          obtain ⟨x17, M18, hx17, hk⟩ := hk
          refine cl_i (rn_V g_281 g_283 gs_0 g_1 g_284 hd_X6_refuseBad (Nat.le_of_ble_eq_true rfl) (ci := 6) rfl (inC kd_0 rfl) (shp6 kd_0) hx hb hml hown hg hK hW (As := [.int ((-1002) : Int32)]) (c_X6_refuseBad l G ((-1002) : Int32) M hx17) (by decide) rfl hl.1 rfl (Nat.le_of_ble_eq_true rfl) dX6_seen_40) hW (fun H locs hW => ?_)
          obtain ⟨rfl, rfl⟩ := sp2 hk
          exact hret _ _ _ _ hW dX6_seen_43
def f_X6_freshHigh (a1 : Int32) (a2 : Int32) (a3 : Int32) (a4 : Int32) (M : Mem) : Option (Int32) :=
  ob (f_X6_cell (1 + 1) a1 M) (fun x1 =>
  ob (f_X6_cell (1 + 2) a1 M) (fun x2 =>
  some (f_X6_highOf x1 (a4 - (f_X6_dropOf x2 a2 a3 (0 : Int32))) (0 : Int32))))
set_option maxHeartbeats 4000000 in
set_option maxRecDepth 100000 in
theorem c_X6_freshHigh (l : Launch) (G : GT) (a1 : Int32) (a2 : Int32) (a3 : Int32) (a4 : Int32) (M : Mem) {r : Int32} (hk : f_X6_freshHigh a1 a2 a3 a4 M = some r) : CMi l G true yX6_freshHigh cX6_freshHigh 5 (some .int) 2 [.ref (ad G 0), .int a1, .int a2, .int a3, .int a4] M r M := by
  unfold f_X6_freshHigh at hk
  refine CMi.of (by decide) (Nat.le_of_ble_eq_true rfl) ?_
  intro p e s m args below meth c Q hx hb hml hown hg hK hW hret ls hl
  have hl : lv_has ls 5 [(0, .ref (ad G 0)), (1, .int a1), (2, .int a2), (3, .int a3), (4, .int a4)] := hl
  refine lv_aload_n hx hb dX6_freshHigh_0 rfl (lv_at hl 0 rfl) ?_
  refine gt_X6_10 hx hb hg hown hK hW kd_0 dX6_freshHigh_1 ?_
  refine gt_X6_359 hx hb hg hown hK hW kd_1 dX6_freshHigh_4 ?_
  refine lv_iload_n hx hb dX6_freshHigh_7 rfl (lv_at hl 1 rfl) ?_
  replace hk := ob_s hk
  obtain ⟨x1, hx1, hk⟩ := hk
  refine cl_i (rn_S g_607 g_346 g_1 g_347 hd_X6_cell (Nat.le_of_ble_eq_true rfl) hx hb hml hown hg hK hW (As := [.ref (ad G (1 + 1)), .int a1]) (c_X6_cell l G (k2_1 kd_1) a1 M hx1) (by decide) rfl hl.1 rfl (Nat.le_of_ble_eq_true rfl) dX6_freshHigh_8) hW (fun H locs hW => ?_)
  refine lv_iload hx hb dX6_freshHigh_11 (lv_at hl 4 rfl) ?_
  refine lv_aload_n hx hb dX6_freshHigh_13 rfl (lv_at hl 0 rfl) ?_
  refine gt_X6_10 hx hb hg hown hK hW kd_0 dX6_freshHigh_14 ?_
  refine gt_X6_362 hx hb hg hown hK hW kd_1 dX6_freshHigh_17 ?_
  refine lv_iload_n hx hb dX6_freshHigh_20 rfl (lv_at hl 1 rfl) ?_
  replace hk := ob_s hk
  obtain ⟨x2, hx2, hk⟩ := hk
  refine cl_i (rn_S g_607 g_346 g_1 g_347 hd_X6_cell (Nat.le_of_ble_eq_true rfl) hx hb hml hown hg hK hW (As := [.ref (ad G (1 + 2)), .int a1]) (c_X6_cell l G (k2_2 kd_1) a1 M hx2) (by decide) rfl hl.1 rfl (Nat.le_of_ble_eq_true rfl) dX6_freshHigh_21) hW (fun H locs hW => ?_)
  refine lv_iload_n hx hb dX6_freshHigh_24 rfl (lv_at hl 2 rfl) ?_
  refine lv_iload_n hx hb dX6_freshHigh_25 rfl (lv_at hl 3 rfl) ?_
  refine lv_iconst (v := (0 : Int32)) hx hb dX6_freshHigh_26 (by decide) ?_
  refine cl_i (rn_S g_676 g_559 g_1 g_560 hd_X6_dropOf (Nat.le_of_ble_eq_true rfl) hx hb hml hown hg hK hW (As := [.int x2, .int a2, .int a3, .int (0 : Int32)]) (c_X6_dropOf l G x2 a2 a3 (0 : Int32) M) (by decide) rfl hl.1 rfl (Nat.le_of_ble_eq_true rfl) dX6_freshHigh_27) hW (fun H locs hW => ?_)
  refine lv_isub hx hb dX6_freshHigh_30 ?_
  refine lv_iconst (v := (0 : Int32)) hx hb dX6_freshHigh_31 (by decide) ?_
  refine cl_i (rn_S g_677 g_562 g_1 g_563 hd_X6_highOf (Nat.le_of_ble_eq_true rfl) hx hb hml hown hg hK hW (As := [.int x1, .int (a4 - (f_X6_dropOf x2 a2 a3 (0 : Int32))), .int (0 : Int32)]) (c_X6_highOf l G x1 (a4 - (f_X6_dropOf x2 a2 a3 (0 : Int32))) (0 : Int32) M) (by decide) rfl hl.1 rfl (Nat.le_of_ble_eq_true rfl) dX6_freshHigh_32) hW (fun H locs hW => ?_)
  obtain rfl := Option.some.inj hk
  exact hret _ _ _ _ hW dX6_freshHigh_35
def f_X6_fitsSights_L11 (a1 : Int32) (a2 : Int32) (M : Mem) : Nat → Int32 → Option ((Int32) ⊕ (Int32))
  | 0, _ => none
  | n + 1, x1 =>
    if (M.1 (1 + 35) 3) ≤ x1 then (
      some (Sum.inl x1))
    else (
      ob (f_X5_value (1 + 35) x1 (0 : Int32) M) (fun x3 =>
      if x3 = a1 then (
        ob (f_X5_value (1 + 35) x1 (1 : Int32) M) (fun x5 =>
        ob (f_X5_value (1 + 35) x1 (2 : Int32) M) (fun x6 =>
        ob (f_X6_freshHigh a1 x5 a2 x6 M) (fun x7 =>
        ob (f_X5_value (1 + 35) x1 (3 : Int32) M) (fun x8 =>
        if x7 = x8 then (
          lq (x1 + (1 : Int32)) (fun x9 =>
          f_X6_fitsSights_L11 a1 a2 M n x9))
        else (
          some (Sum.inr (0 : Int32))))))))
      else (
        lq (x1 + (1 : Int32)) (fun x4 =>
        f_X6_fitsSights_L11 a1 a2 M n x4))))
def f_X6_fitsSights (a1 : Int32) (a2 : Int32) (M : Mem) : Option (Int32) :=
  oeT1 (f_X6_fitsSights_L11 a1 a2 M FU (0 : Int32)) (fun x2 =>
  some (1 : Int32))
set_option maxHeartbeats 4000000 in
set_option maxRecDepth 100000 in
theorem c_X6_fitsSights (l : Launch) (G : GT) (a1 : Int32) (a2 : Int32) (M : Mem) {r : Int32} (hk : f_X6_fitsSights a1 a2 M = some r) : CMi l G true yX6_fitsSights cX6_fitsSights 5 (some .boolean) 3 [.ref (ad G 0), .int a1, .int a2] M r M := by
  unfold f_X6_fitsSights at hk
  refine CMi.ofZ (by decide) (Nat.le_of_ble_eq_true rfl) ?_
  intro p e s m args below meth c Q hx hb hml hown hg hK hW hret ls hl
  have hl : lv_has ls 5 [(0, .ref (ad G 0)), (1, .int a1), (2, .int a2)] := hl
  refine lv_aload_n hx hb dX6_fitsSights_0 rfl (lv_at hl 0 rfl) ?_
  refine gt_X6_10 hx hb hg hown hK hW kd_0 dX6_fitsSights_1 ?_
  refine gt_X6_218 hx hb hg hown hK hW kd_1 dX6_fitsSights_4 ?_
  refine lv_astore_n (lv' := [(3, .ref (ad G (1 + 35))), (0, .ref (ad G 0)), (1, .int a1), (2, .int a2)]) hx hb dX6_fitsSights_7 rfl hl (by decide) rfl (fun ls hl => ?_)
  refine lv_iconst (v := (0 : Int32)) hx hb dX6_fitsSights_8 (by decide) ?_
  refine lv_istore (lv' := [(4, .int (0 : Int32)), (3, .ref (ad G (1 + 35))), (0, .ref (ad G 0)), (1, .int a1), (2, .int a2)]) hx hb dX6_fitsSights_9 hl (by decide) rfl (fun ls hl => ?_)
  replace hk := oeT1_s hk
  obtain ⟨z14, hz13, hk_11⟩ := hk
  have KX11 : ∀ (x2 : Int32), z14 = Sum.inl x2 → ∀ (H : Heap) (locs : List Loc) (ls : Array Slot), Ws G true M s H locs → lv_has ls 5 [] → Wx p l e 3 s m args below meth c Q H locs 69 ls [] := by
    intro x2 ez H locs ls hW hl
    have hk := hk_11.1 x2 ez
    refine lv_iconst (v := (1 : Int32)) hx hb dX6_fitsSights_69 (by decide) ?_
    obtain rfl := Option.some.inj hk
    exact hret _ _ _ _ (Or.inr rfl) hW dX6_fitsSights_70
  have LH11 : ∀ (n : Nat) (x1 : Int32) (H : Heap) (locs : List Loc) (ls : Array Slot), f_X6_fitsSights_L11 a1 a2 M n x1 = some z14 → Ws G true M s H locs → lv_has ls 5 [(0, .ref (ad G 0)), (1, .int a1), (2, .int a2), (3, .ref (ad G (1 + 35))), (4, .int x1)] → Wx p l e 3 s m args below meth c Q H locs 11 ls [] := by
    clear hz13
    intro n
    induction n with
    | zero => intro _ _ _ _ hk; cases hk
    | succ n ih11 =>
      intro x1 H locs ls hk hW hl
      rw [f_X6_fitsSights_L11.eq_2] at hk
      refine lv_iload hx hb dX6_fitsSights_11 (lv_at hl 4 rfl) ?_
      refine lv_aload_n hx hb dX6_fitsSights_13 rfl (lv_at hl 3 rfl) ?_
      refine gt_X6_325 hx hb hg hown hK hW (k2_35 kd_1) dX6_fitsSights_14 ?_
      refine lv_icmp_ge (tgt := 69) hx hb dX6_fitsSights_17 (by decide) (fun c12 => ?_) (fun c12 => ?_)
      · replace hk := ite_t hk c12
        obtain rfl := Option.some.inj hk
        exact KX11 _ rfl _ _ _ hW (lv_sub hl [] rfl)
      · replace hk := ite_f hk c12
        refine lv_aload_n hx hb dX6_fitsSights_20 rfl (lv_at hl 3 rfl) ?_
        refine lv_iload hx hb dX6_fitsSights_21 (lv_at hl 4 rfl) ?_
        refine lv_iconst (v := (0 : Int32)) hx hb dX6_fitsSights_23 (by decide) ?_
        replace hk := ob_s hk
        obtain ⟨x3, hx3, hk⟩ := hk
        refine cl_i (rn_VN n_667 g_669 gs_45 g_4 g_670 hd_X5_value (Nat.le_of_ble_eq_true rfl) (ci := 5) rfl (inC (k2_35 kd_1) rfl) (shp5 (k2_35 kd_1)) hx hb hml hown hg hK hW (As := [.int x1, .int (0 : Int32)]) (c_X5_value l G (k2_35 kd_1) x1 (0 : Int32) M hx3) (by decide) rfl hl.1 rfl (Nat.le_of_ble_eq_true rfl) dX6_fitsSights_24) hW (fun H locs hW => ?_)
        refine lv_iload_n hx hb dX6_fitsSights_27 rfl (lv_at hl 1 rfl) ?_
        refine lv_icmp_ne (tgt := 63) hx hb dX6_fitsSights_28 (by decide) (fun c11 => ?_) (fun c11 => ?_)
        · replace hk := ite_f hk c11
          replace hk := lq_s hk
          obtain ⟨x4, ex4, hk⟩ := hk
          refine lv_iinc (v := x4) (lv' := [(4, .int x4), (0, .ref (ad G 0)), (1, .int a1), (2, .int a2), (3, .ref (ad G (1 + 35)))]) hx hb dX6_fitsSights_63 hl (k := 4) rfl (by rw [ex4]; rfl) (by decide) rfl (fun ls hl => ?_)
          refine lv_goto (tgt := 11) hx hb dX6_fitsSights_66 (by decide) ?_
          exact ih11 _ _ _ _ hk hW (lv_sub hl [1, 2, 3, 4, 0] rfl)
        · replace hk := ite_t hk c11
          refine lv_aload_n hx hb dX6_fitsSights_31 rfl (lv_at hl 0 rfl) ?_
          refine lv_iload_n hx hb dX6_fitsSights_32 rfl (lv_at hl 1 rfl) ?_
          refine lv_aload_n hx hb dX6_fitsSights_33 rfl (lv_at hl 3 rfl) ?_
          refine lv_iload hx hb dX6_fitsSights_34 (lv_at hl 4 rfl) ?_
          refine lv_iconst (v := (1 : Int32)) hx hb dX6_fitsSights_36 (by decide) ?_
          replace hk := ob_s hk
          obtain ⟨x5, hx5, hk⟩ := hk
          refine cl_i (rn_VN n_667 g_669 gs_45 g_4 g_670 hd_X5_value (Nat.le_of_ble_eq_true rfl) (ci := 5) rfl (inC (k2_35 kd_1) rfl) (shp5 (k2_35 kd_1)) hx hb hml hown hg hK hW (As := [.int x1, .int (1 : Int32)]) (c_X5_value l G (k2_35 kd_1) x1 (1 : Int32) M hx5) (by decide) rfl hl.1 rfl (Nat.le_of_ble_eq_true rfl) dX6_fitsSights_37) hW (fun H locs hW => ?_)
          refine lv_iload_n hx hb dX6_fitsSights_40 rfl (lv_at hl 2 rfl) ?_
          refine lv_aload_n hx hb dX6_fitsSights_41 rfl (lv_at hl 3 rfl) ?_
          refine lv_iload hx hb dX6_fitsSights_42 (lv_at hl 4 rfl) ?_
          refine lv_iconst (v := (2 : Int32)) hx hb dX6_fitsSights_44 (by decide) ?_
          replace hk := ob_s hk
          obtain ⟨x6, hx6, hk⟩ := hk
          refine cl_i (rn_VN n_667 g_669 gs_45 g_4 g_670 hd_X5_value (Nat.le_of_ble_eq_true rfl) (ci := 5) rfl (inC (k2_35 kd_1) rfl) (shp5 (k2_35 kd_1)) hx hb hml hown hg hK hW (As := [.int x1, .int (2 : Int32)]) (c_X5_value l G (k2_35 kd_1) x1 (2 : Int32) M hx6) (by decide) rfl hl.1 rfl (Nat.le_of_ble_eq_true rfl) dX6_fitsSights_45) hW (fun H locs hW => ?_)
          replace hk := ob_s hk
          obtain ⟨x7, hx7, hk⟩ := hk
          refine cl_i (rn_V g_672 g_674 gs_46 g_1 g_675 hd_X6_freshHigh (Nat.le_of_ble_eq_true rfl) (ci := 6) rfl (inC kd_0 rfl) (shp6 kd_0) hx hb hml hown hg hK hW (As := [.int a1, .int x5, .int a2, .int x6]) (c_X6_freshHigh l G a1 x5 a2 x6 M hx7) (by decide) rfl hl.1 rfl (Nat.le_of_ble_eq_true rfl) dX6_fitsSights_48) hW (fun H locs hW => ?_)
          refine lv_aload_n hx hb dX6_fitsSights_51 rfl (lv_at hl 3 rfl) ?_
          refine lv_iload hx hb dX6_fitsSights_52 (lv_at hl 4 rfl) ?_
          refine lv_iconst (v := (3 : Int32)) hx hb dX6_fitsSights_54 (by decide) ?_
          replace hk := ob_s hk
          obtain ⟨x8, hx8, hk⟩ := hk
          refine cl_i (rn_VN n_667 g_669 gs_45 g_4 g_670 hd_X5_value (Nat.le_of_ble_eq_true rfl) (ci := 5) rfl (inC (k2_35 kd_1) rfl) (shp5 (k2_35 kd_1)) hx hb hml hown hg hK hW (As := [.int x1, .int (3 : Int32)]) (c_X5_value l G (k2_35 kd_1) x1 (3 : Int32) M hx8) (by decide) rfl hl.1 rfl (Nat.le_of_ble_eq_true rfl) dX6_fitsSights_55) hW (fun H locs hW => ?_)
          refine lv_icmp_eq (tgt := 63) hx hb dX6_fitsSights_58 (by decide) (fun c10 => ?_) (fun c10 => ?_)
          · replace hk := ite_t hk c10
            replace hk := lq_s hk
            obtain ⟨x9, ex9, hk⟩ := hk
            refine lv_iinc (v := x9) (lv' := [(4, .int x9), (0, .ref (ad G 0)), (1, .int a1), (2, .int a2), (3, .ref (ad G (1 + 35)))]) hx hb dX6_fitsSights_63 hl (k := 4) rfl (by rw [ex9]; rfl) (by decide) rfl (fun ls hl => ?_)
            refine lv_goto (tgt := 11) hx hb dX6_fitsSights_66 (by decide) ?_
            exact ih11 _ _ _ _ hk hW (lv_sub hl [1, 2, 3, 4, 0] rfl)
          · replace hk := ite_f hk c10
            refine lv_iconst (v := (0 : Int32)) hx hb dX6_fitsSights_61 (by decide) ?_
            obtain rfl := Option.some.inj hk
            have hk := hk_11.2 _ rfl
            obtain rfl := Option.some.inj hk
            exact hret _ _ _ _ (Or.inl rfl) hW dX6_fitsSights_62
  exact LH11 FU _ _ _ _ hz13 hW (lv_sub hl [2, 3, 4, 1, 0] rfl)
def f_X6_fittingWeights_L4 (a1 : Int32) (M : Mem) : Nat → Int32 → Int32 → Option (Int32)
  | 0, _, _ => none
  | n + 1, x1, x2 =>
    if (9 : Int32) < x2 then (
      some x1)
    else (
      ob (f_X6_fitsSights a1 x2 M) (fun x4 =>
      lq (
        if x4 = (0 : Int32) then (
          x1)
        else (
          lq (x1 ||| ((1 : Int32) <<< (x2 &&& 31))) (fun x5 =>
          x5)))
       (fun x7 =>
      lq (x2 + (1 : Int32)) (fun x8 =>
      f_X6_fittingWeights_L4 a1 M n x7 x8))))
def f_X6_fittingWeights (a1 : Int32) (M : Mem) : Option (Int32) :=
  ob (f_X6_fittingWeights_L4 a1 M FU (0 : Int32) (1 : Int32)) (fun x3 =>
  some x3)
set_option maxHeartbeats 4000000 in
set_option maxRecDepth 100000 in
theorem c_X6_fittingWeights (l : Launch) (G : GT) (a1 : Int32) (M : Mem) {r : Int32} (hk : f_X6_fittingWeights a1 M = some r) : CMi l G true yX6_fittingWeights cX6_fittingWeights 4 (some .int) 4 [.ref (ad G 0), .int a1] M r M := by
  unfold f_X6_fittingWeights at hk
  refine CMi.of (by decide) (Nat.le_of_ble_eq_true rfl) ?_
  intro p e s m args below meth c Q hx hb hml hown hg hK hW hret ls hl
  have hl : lv_has ls 4 [(0, .ref (ad G 0)), (1, .int a1)] := hl
  refine lv_iconst (v := (0 : Int32)) hx hb dX6_fittingWeights_0 (by decide) ?_
  refine lv_istore_n (lv' := [(2, .int (0 : Int32)), (0, .ref (ad G 0)), (1, .int a1)]) hx hb dX6_fittingWeights_1 rfl hl (by decide) rfl (fun ls hl => ?_)
  refine lv_iconst (v := (1 : Int32)) hx hb dX6_fittingWeights_2 (by decide) ?_
  refine lv_istore_n (lv' := [(3, .int (1 : Int32)), (2, .int (0 : Int32)), (0, .ref (ad G 0)), (1, .int a1)]) hx hb dX6_fittingWeights_3 rfl hl (by decide) rfl (fun ls hl => ?_)
  replace hk := ob_s hk
  obtain ⟨x3, hz12, hk⟩ := hk
  have KX4 : ∀ (H : Heap) (locs : List Loc) (ls : Array Slot), Ws G true M s H locs → lv_has ls 4 [(2, .int x3)] → Wx p l e 4 s m args below meth c Q H locs 31 ls [] := by
    intro H locs ls hW hl
    refine lv_iload_n hx hb dX6_fittingWeights_31 rfl (lv_at hl 0 rfl) ?_
    obtain rfl := Option.some.inj hk
    exact hret _ _ _ _ hW dX6_fittingWeights_32
  clear hk
  have LH4 : ∀ (n : Nat) (x1 : Int32) (x2 : Int32) (H : Heap) (locs : List Loc) (ls : Array Slot), f_X6_fittingWeights_L4 a1 M n x1 x2 = some x3 → Ws G true M s H locs → lv_has ls 4 [(0, .ref (ad G 0)), (1, .int a1), (2, .int x1), (3, .int x2)] → Wx p l e 4 s m args below meth c Q H locs 4 ls [] := by
    clear hz12
    intro n
    induction n with
    | zero => intro _ _ _ _ _ hk; cases hk
    | succ n ih4 =>
      intro x1 x2 H locs ls hk hW hl
      rw [f_X6_fittingWeights_L4.eq_2] at hk
      refine lv_iload_n hx hb dX6_fittingWeights_4 rfl (lv_at hl 3 rfl) ?_
      refine lv_bipush (v := (9 : Int32)) hx hb dX6_fittingWeights_5 (by decide) ?_
      refine lv_icmp_gt (tgt := 31) hx hb dX6_fittingWeights_7 (by decide) (fun c11 => ?_) (fun c11 => ?_)
      · replace hk := ite_t hk c11
        obtain rfl := Option.some.inj hk
        exact KX4 _ _ _ hW (lv_sub hl [2] rfl)
      · replace hk := ite_f hk c11
        refine lv_aload_n hx hb dX6_fittingWeights_10 rfl (lv_at hl 0 rfl) ?_
        refine lv_iload_n hx hb dX6_fittingWeights_11 rfl (lv_at hl 1 rfl) ?_
        refine lv_iload_n hx hb dX6_fittingWeights_12 rfl (lv_at hl 3 rfl) ?_
        replace hk := ob_s hk
        obtain ⟨x4, hx4, hk⟩ := hk
        refine cl_i (rn_V g_663 g_665 gs_44 g_1 g_666 hd_X6_fitsSights (Nat.le_of_ble_eq_true rfl) (ci := 6) rfl (inC kd_0 rfl) (shp6 kd_0) hx hb hml hown hg hK hW (As := [.int a1, .int x2]) (c_X6_fitsSights l G a1 x2 M hx4) (by decide) rfl hl.1 rfl (Nat.le_of_ble_eq_true rfl) dX6_fittingWeights_13) hW (fun H locs hW => ?_)
        replace hk := lq_s hk
        obtain ⟨x7, hr10, hk⟩ := hk
        have KJ9 : ∀ (H : Heap) (locs : List Loc) (ls : Array Slot), Ws G true M s H locs → lv_has ls 4 [(0, .ref (ad G 0)), (1, .int a1), (2, .int x7), (3, .int x2)] → Wx p l e 4 s m args below meth c Q H locs 25 ls [] := by
          intro H locs ls hW hl
          replace hk := lq_s hk
          obtain ⟨x8, ex8, hk⟩ := hk
          refine lv_iinc (v := x8) (lv' := [(3, .int x8), (0, .ref (ad G 0)), (1, .int a1), (2, .int x7)]) hx hb dX6_fittingWeights_25 hl (k := 3) rfl (by rw [ex8]; rfl) (by decide) rfl (fun ls hl => ?_)
          refine lv_goto (tgt := 4) hx hb dX6_fittingWeights_28 (by decide) ?_
          exact ih4 _ _ _ _ _ hk hW (lv_sub hl [1, 2, 3, 0] rfl)
        clear hk
        have hk := hr10.symm
        clear hr10
        refine lv_if_eq (tgt := 25) hx hb dX6_fittingWeights_16 (by decide) (fun c6 => ?_) (fun c6 => ?_)
        · replace hk := ite_t hk c6
          subst hk
          exact KJ9 _ _ _ hW (lv_sub hl [0, 1, 2, 3] rfl)
        · replace hk := ite_f hk c6
          refine lv_iload_n hx hb dX6_fittingWeights_19 rfl (lv_at hl 2 rfl) ?_
          refine lv_iconst (v := (1 : Int32)) hx hb dX6_fittingWeights_20 (by decide) ?_
          refine lv_iload_n hx hb dX6_fittingWeights_21 rfl (lv_at hl 3 rfl) ?_
          refine lv_ishl hx hb dX6_fittingWeights_22 ?_
          refine lv_ior hx hb dX6_fittingWeights_23 ?_
          replace hk := lq_s hk
          obtain ⟨x5, ex5, hk⟩ := hk
          refine nm_i ex5 ?_
          refine lv_istore_n (lv' := [(2, .int x5), (0, .ref (ad G 0)), (1, .int a1), (3, .int x2)]) hx hb dX6_fittingWeights_24 rfl hl (by decide) rfl (fun ls hl => ?_)
          subst hk
          exact KJ9 _ _ _ hW (lv_sub hl [1, 2, 0, 3] rfl)
  exact LH4 FU _ _ _ _ _ hz12 hW (lv_sub hl [2, 3, 1, 0] rfl)
def f_J6_bitCount_0f7a4 (a0 : Int32) : Int32 :=
  lq (a0 - ((a0.toUInt32 >>> ((1 : Int32).toUInt32 &&& Int32.toUInt32 31)).toInt32 &&& (1431655765 : Int32))) (fun x1 =>
  lq ((x1 &&& (858993459 : Int32)) + ((x1.toUInt32 >>> ((2 : Int32).toUInt32 &&& Int32.toUInt32 31)).toInt32 &&& (858993459 : Int32))) (fun x2 =>
  lq ((x2 + (x2.toUInt32 >>> ((4 : Int32).toUInt32 &&& Int32.toUInt32 31)).toInt32) &&& (252645135 : Int32)) (fun x3 =>
  lq (x3 + (x3.toUInt32 >>> ((8 : Int32).toUInt32 &&& Int32.toUInt32 31)).toInt32) (fun x4 =>
  lq (x4 + (x4.toUInt32 >>> ((16 : Int32).toUInt32 &&& Int32.toUInt32 31)).toInt32) (fun x5 =>
  (x5 &&& (63 : Int32)))))))
set_option maxHeartbeats 4000000 in
set_option maxRecDepth 100000 in
theorem c_J6_bitCount_0f7a4 (l : Launch) (G : GT) {t : Bool} (a0 : Int32) (M : Mem) : CMi l G t yJ6_bitCount_0f7a4 cJ6_bitCount_0f7a4 1 (some .int) 0 [.int a0] M (f_J6_bitCount_0f7a4 a0) M := by
  obtain ⟨r, hk⟩ : ∃ r, f_J6_bitCount_0f7a4 a0 = r := ⟨_, rfl⟩
  rw [hk]
  unfold f_J6_bitCount_0f7a4 at hk
  refine CMi.of (by decide) (Nat.le_of_ble_eq_true rfl) ?_
  intro p e s m args below meth c Q hx hb hml hown hg hK hW hret ls hl
  have hl : lv_has ls 1 [(0, .int a0)] := hl
  refine lv_iload_n hx hb dJ6_bitCount_0f7a4_0 rfl (lv_at hl 0 rfl) ?_
  refine lv_iload_n hx hb dJ6_bitCount_0f7a4_1 rfl (lv_at hl 0 rfl) ?_
  refine lv_iconst (v := (1 : Int32)) hx hb dJ6_bitCount_0f7a4_2 (by decide) ?_
  refine lv_iushr hx hb dJ6_bitCount_0f7a4_3 rfl ?_
  refine lv_ldcw hx hb hown (hg _ g_681) dJ6_bitCount_0f7a4_4 ?_
  refine lv_iand hx hb dJ6_bitCount_0f7a4_7 ?_
  refine lv_isub hx hb dJ6_bitCount_0f7a4_8 ?_
  replace hk := lq_s hk
  obtain ⟨x1, ex1, hk⟩ := hk
  refine nm_i ex1 ?_
  refine lv_istore_n (lv' := [(0, .int x1)]) hx hb dJ6_bitCount_0f7a4_9 rfl hl (by decide) rfl (fun ls hl => ?_)
  refine lv_iload_n hx hb dJ6_bitCount_0f7a4_10 rfl (lv_at hl 0 rfl) ?_
  refine lv_ldcw hx hb hown (hg _ g_682) dJ6_bitCount_0f7a4_11 ?_
  refine lv_iand hx hb dJ6_bitCount_0f7a4_14 ?_
  refine lv_iload_n hx hb dJ6_bitCount_0f7a4_15 rfl (lv_at hl 0 rfl) ?_
  refine lv_iconst (v := (2 : Int32)) hx hb dJ6_bitCount_0f7a4_16 (by decide) ?_
  refine lv_iushr hx hb dJ6_bitCount_0f7a4_17 rfl ?_
  refine lv_ldcw hx hb hown (hg _ g_682) dJ6_bitCount_0f7a4_18 ?_
  refine lv_iand hx hb dJ6_bitCount_0f7a4_21 ?_
  refine lv_iadd hx hb dJ6_bitCount_0f7a4_22 ?_
  replace hk := lq_s hk
  obtain ⟨x2, ex2, hk⟩ := hk
  refine nm_i ex2 ?_
  refine lv_istore_n (lv' := [(0, .int x2)]) hx hb dJ6_bitCount_0f7a4_23 rfl hl (by decide) rfl (fun ls hl => ?_)
  refine lv_iload_n hx hb dJ6_bitCount_0f7a4_24 rfl (lv_at hl 0 rfl) ?_
  refine lv_iload_n hx hb dJ6_bitCount_0f7a4_25 rfl (lv_at hl 0 rfl) ?_
  refine lv_iconst (v := (4 : Int32)) hx hb dJ6_bitCount_0f7a4_26 (by decide) ?_
  refine lv_iushr hx hb dJ6_bitCount_0f7a4_27 rfl ?_
  refine lv_iadd hx hb dJ6_bitCount_0f7a4_28 ?_
  refine lv_ldcw hx hb hown (hg _ g_683) dJ6_bitCount_0f7a4_29 ?_
  refine lv_iand hx hb dJ6_bitCount_0f7a4_32 ?_
  replace hk := lq_s hk
  obtain ⟨x3, ex3, hk⟩ := hk
  refine nm_i ex3 ?_
  refine lv_istore_n (lv' := [(0, .int x3)]) hx hb dJ6_bitCount_0f7a4_33 rfl hl (by decide) rfl (fun ls hl => ?_)
  refine lv_iload_n hx hb dJ6_bitCount_0f7a4_34 rfl (lv_at hl 0 rfl) ?_
  refine lv_iload_n hx hb dJ6_bitCount_0f7a4_35 rfl (lv_at hl 0 rfl) ?_
  refine lv_bipush (v := (8 : Int32)) hx hb dJ6_bitCount_0f7a4_36 (by decide) ?_
  refine lv_iushr hx hb dJ6_bitCount_0f7a4_38 rfl ?_
  refine lv_iadd hx hb dJ6_bitCount_0f7a4_39 ?_
  replace hk := lq_s hk
  obtain ⟨x4, ex4, hk⟩ := hk
  refine nm_i ex4 ?_
  refine lv_istore_n (lv' := [(0, .int x4)]) hx hb dJ6_bitCount_0f7a4_40 rfl hl (by decide) rfl (fun ls hl => ?_)
  refine lv_iload_n hx hb dJ6_bitCount_0f7a4_41 rfl (lv_at hl 0 rfl) ?_
  refine lv_iload_n hx hb dJ6_bitCount_0f7a4_42 rfl (lv_at hl 0 rfl) ?_
  refine lv_bipush (v := (16 : Int32)) hx hb dJ6_bitCount_0f7a4_43 (by decide) ?_
  refine lv_iushr hx hb dJ6_bitCount_0f7a4_45 rfl ?_
  refine lv_iadd hx hb dJ6_bitCount_0f7a4_46 ?_
  replace hk := lq_s hk
  obtain ⟨x5, ex5, hk⟩ := hk
  refine nm_i ex5 ?_
  refine lv_istore_n (lv' := [(0, .int x5)]) hx hb dJ6_bitCount_0f7a4_47 rfl hl (by decide) rfl (fun ls hl => ?_)
  refine lv_iload_n hx hb dJ6_bitCount_0f7a4_48 rfl (lv_at hl 0 rfl) ?_
  refine lv_bipush (v := (63 : Int32)) hx hb dJ6_bitCount_0f7a4_49 (by decide) ?_
  refine lv_iand hx hb dJ6_bitCount_0f7a4_51 ?_
  subst hk
  exact hret _ _ _ _ hW dJ6_bitCount_0f7a4_52
