def f_X7_tells (a1 : Int32) (a2 : Int32) (a3 : Int32) (a4 : Int32) (a5 : Int32) (a6 : Int32) (a7 : Int32) (a8 : Int32) (M : Mem) : Option (Int32 × Mem) :=
  ob (rd M 177 a1) (fun x1 =>
  if x1 = a3 then (
    ob2 (f_X7_full M) (fun x16 M17 =>
    some (x16, M17)))
  else (
    ob (rd M 177 a1) (fun x2 =>
    lq ((a1 + (1 : Int32)) + (a2 * x2)) (fun x3 =>
    ob (wr M 177 x3 a4) (fun M4 =>
    ob (wr M4 177 (x3 + (1 : Int32)) a5) (fun M5 =>
    ob (wr M5 177 (x3 + (2 : Int32)) a6) (fun M6 =>
    ob (wr M6 177 (x3 + (3 : Int32)) a7) (fun M7 =>
    ob (
      if a2 = (5 : Int32) then (
        ob (wr M7 177 (x3 + (4 : Int32)) a8) (fun M8 =>
        some M8))
      else (
        some M7))
     (fun M10 =>
    ob (rd M10 177 a1) (fun x11 =>
    ob (wr M10 177 a1 (x11 + (1 : Int32))) (fun M12 =>
    ob (rd M12 177 a1) (fun x13 =>
    some (x13, M12)))))))))))))
set_option maxHeartbeats 4000000 in
set_option maxRecDepth 100000 in
theorem c_X7_tells (l : Launch) (G : GT) (a1 : Int32) (a2 : Int32) (a3 : Int32) (a4 : Int32) (a5 : Int32) (a6 : Int32) (a7 : Int32) (a8 : Int32) (M : Mem) {r : Int32} {M' : Mem} (hk : f_X7_tells a1 a2 a3 a4 a5 a6 a7 a8 M = some (r, M')) : CMi l G false yX7_tells cX7_tells 10 (some .int) 1 [.ref (ad G 176), .int a1, .int a2, .int a3, .int a4, .int a5, .int a6, .int a7, .int a8] M r M' := by
  unfold f_X7_tells at hk
  refine CMi.of (by decide) (Nat.le_of_ble_eq_true rfl) ?_
  intro p e s m args below meth c Q hx hb hml hown hg hK hW hret ls hl
  have hl : lv_has ls 10 [(0, .ref (ad G 176)), (1, .int a1), (2, .int a2), (3, .int a3), (4, .int a4), (5, .int a5), (6, .int a6), (7, .int a7), (8, .int a8)] := hl
  refine lv_aload_n hx hb dX7_tells_0 rfl (lv_at hl 0 rfl) ?_
  refine gt_X7_7 hx hb hg hown hK hW kd_176 dX7_tells_1 ?_
  refine lv_iload_n hx hb dX7_tells_4 rfl (lv_at hl 1 rfl) ?_
  replace hk := ob_s hk
  obtain ⟨x1, hx1, hk⟩ := hk
  obtain ⟨hx1, ex1⟩ := rd_s hx1
  refine w_ald hx hb hK hW (inM kd_177 rfl) (shp10 kd_177) hx1 ex1 dX7_tells_5 ?_
  refine lv_iload_n hx hb dX7_tells_6 rfl (lv_at hl 3 rfl) ?_
  refine lv_icmp_ne (tgt := 15) hx hb dX7_tells_7 (by decide) (fun c18 => ?_) (fun c18 => ?_)
  · replace hk := ite_f hk c18
    refine lv_iload_n hx hb dX7_tells_15 rfl (lv_at hl 1 rfl) ?_
    refine lv_iconst (v := (1 : Int32)) hx hb dX7_tells_16 (by decide) ?_
    refine lv_iadd hx hb dX7_tells_17 ?_
    refine lv_iload_n hx hb dX7_tells_18 rfl (lv_at hl 2 rfl) ?_
    refine lv_aload_n hx hb dX7_tells_19 rfl (lv_at hl 0 rfl) ?_
    refine gt_X7_7 hx hb hg hown hK hW kd_176 dX7_tells_20 ?_
    refine lv_iload_n hx hb dX7_tells_23 rfl (lv_at hl 1 rfl) ?_
    replace hk := ob_s hk
    obtain ⟨x2, hx2, hk⟩ := hk
    obtain ⟨hx2, ex2⟩ := rd_s hx2
    refine w_ald hx hb hK hW (inM kd_177 rfl) (shp10 kd_177) hx2 ex2 dX7_tells_24 ?_
    refine lv_imul hx hb dX7_tells_25 ?_
    refine lv_iadd hx hb dX7_tells_26 ?_
    replace hk := lq_s hk
    obtain ⟨x3, ex3, hk⟩ := hk
    refine nm_i ex3 ?_
    refine lv_istore (lv' := [(9, .int x3), (0, .ref (ad G 176)), (1, .int a1), (2, .int a2), (3, .int a3), (4, .int a4), (5, .int a5), (6, .int a6), (7, .int a7), (8, .int a8)]) hx hb dX7_tells_27 hl (by decide) rfl (fun ls hl => ?_)
    refine lv_aload_n hx hb dX7_tells_29 rfl (lv_at hl 1 rfl) ?_
    refine gt_X7_7 hx hb hg hown hK hW kd_176 dX7_tells_30 ?_
    refine lv_iload hx hb dX7_tells_33 (lv_at hl 0 rfl) ?_
    refine lv_iload hx hb dX7_tells_35 (lv_at hl 5 rfl) ?_
    replace hk := ob_s hk
    obtain ⟨M4, hM4, hk⟩ := hk
    obtain ⟨hM4, eM4⟩ := wr_s hM4
    refine w_ast hx hb hK hW (inM kd_177 rfl) (fun _ => (shp10 kd_177)) hM4 eM4 dX7_tells_37 (fun H locs hW => ?_)
    refine lv_aload_n hx hb dX7_tells_38 rfl (lv_at hl 1 rfl) ?_
    refine gt_X7_7 hx hb hg hown hK hW kd_176 dX7_tells_39 ?_
    refine lv_iload hx hb dX7_tells_42 (lv_at hl 0 rfl) ?_
    refine lv_iconst (v := (1 : Int32)) hx hb dX7_tells_44 (by decide) ?_
    refine lv_iadd hx hb dX7_tells_45 ?_
    refine lv_iload hx hb dX7_tells_46 (lv_at hl 6 rfl) ?_
    replace hk := ob_s hk
    obtain ⟨M5, hM5, hk⟩ := hk
    obtain ⟨hM5, eM5⟩ := wr_s hM5
    refine w_ast hx hb hK hW (inM kd_177 rfl) (fun _ => (shp10 kd_177)) hM5 eM5 dX7_tells_48 (fun H locs hW => ?_)
    refine lv_aload_n hx hb dX7_tells_49 rfl (lv_at hl 1 rfl) ?_
    refine gt_X7_7 hx hb hg hown hK hW kd_176 dX7_tells_50 ?_
    refine lv_iload hx hb dX7_tells_53 (lv_at hl 0 rfl) ?_
    refine lv_iconst (v := (2 : Int32)) hx hb dX7_tells_55 (by decide) ?_
    refine lv_iadd hx hb dX7_tells_56 ?_
    refine lv_iload hx hb dX7_tells_57 (lv_at hl 7 rfl) ?_
    replace hk := ob_s hk
    obtain ⟨M6, hM6, hk⟩ := hk
    obtain ⟨hM6, eM6⟩ := wr_s hM6
    refine w_ast hx hb hK hW (inM kd_177 rfl) (fun _ => (shp10 kd_177)) hM6 eM6 dX7_tells_59 (fun H locs hW => ?_)
    refine lv_aload_n hx hb dX7_tells_60 rfl (lv_at hl 1 rfl) ?_
    refine gt_X7_7 hx hb hg hown hK hW kd_176 dX7_tells_61 ?_
    refine lv_iload hx hb dX7_tells_64 (lv_at hl 0 rfl) ?_
    refine lv_iconst (v := (3 : Int32)) hx hb dX7_tells_66 (by decide) ?_
    refine lv_iadd hx hb dX7_tells_67 ?_
    refine lv_iload hx hb dX7_tells_68 (lv_at hl 8 rfl) ?_
    replace hk := ob_s hk
    obtain ⟨M7, hM7, hk⟩ := hk
    obtain ⟨hM7, eM7⟩ := wr_s hM7
    refine w_ast hx hb hK hW (inM kd_177 rfl) (fun _ => (shp10 kd_177)) hM7 eM7 dX7_tells_70 (fun H locs hW => ?_)
    refine lv_iload_n hx hb dX7_tells_71 rfl (lv_at hl 3 rfl) ?_
    refine lv_iconst (v := (5 : Int32)) hx hb dX7_tells_72 (by decide) ?_
    replace hk := ob_s hk
    obtain ⟨M10, hr15, hk⟩ := hk
    have KJ14 : ∀ (H : Heap) (locs : List Loc) (ls : Array Slot), Ws G false M10 s H locs → lv_has ls 10 [(0, .ref (ad G 176)), (1, .int a1)] → Wx p l e 1 s m args below meth c Q H locs 87 ls [] := by
      intro H locs ls hW hl
      refine lv_aload_n hx hb dX7_tells_87 rfl (lv_at hl 0 rfl) ?_
      refine gt_X7_7 hx hb hg hown hK hW kd_176 dX7_tells_88 ?_
      refine lv_iload_n hx hb dX7_tells_91 rfl (lv_at hl 1 rfl) ?_
      refine lv_dup2_11 hx hb dX7_tells_92 rfl rfl ?_
      replace hk := ob_s hk
      obtain ⟨x11, hx11, hk⟩ := hk
      obtain ⟨hx11, ex11⟩ := rd_s hx11
      refine w_ald hx hb hK hW (inM kd_177 rfl) (shp10 kd_177) hx11 ex11 dX7_tells_93 ?_
      refine lv_iconst (v := (1 : Int32)) hx hb dX7_tells_94 (by decide) ?_
      refine lv_iadd hx hb dX7_tells_95 ?_
      replace hk := ob_s hk
      obtain ⟨M12, hM12, hk⟩ := hk
      obtain ⟨hM12, eM12⟩ := wr_s hM12
      refine w_ast hx hb hK hW (inM kd_177 rfl) (fun _ => (shp10 kd_177)) hM12 eM12 dX7_tells_96 (fun H locs hW => ?_)
      refine lv_aload_n hx hb dX7_tells_97 rfl (lv_at hl 0 rfl) ?_
      refine gt_X7_7 hx hb hg hown hK hW kd_176 dX7_tells_98 ?_
      refine lv_iload_n hx hb dX7_tells_101 rfl (lv_at hl 1 rfl) ?_
      replace hk := ob_s hk
      obtain ⟨x13, hx13, hk⟩ := hk
      obtain ⟨hx13, ex13⟩ := rd_s hx13
      refine w_ald hx hb hK hW (inM kd_177 rfl) (shp10 kd_177) hx13 ex13 dX7_tells_102 ?_
      obtain ⟨rfl, rfl⟩ := sp2 hk
      exact hret _ _ _ _ hW dX7_tells_103
    clear hk
    have hk := hr15
    clear hr15
    refine lv_icmp_ne (tgt := 87) hx hb dX7_tells_73 (by decide) (fun c9 => ?_) (fun c9 => ?_)
    · replace hk := ite_f hk c9
      obtain rfl := Option.some.inj hk
      exact KJ14 _ _ _ hW (lv_sub hl [1, 2] rfl)
    · replace hk := ite_t hk c9
      refine lv_aload_n hx hb dX7_tells_76 rfl (lv_at hl 1 rfl) ?_
      refine gt_X7_7 hx hb hg hown hK hW kd_176 dX7_tells_77 ?_
      refine lv_iload hx hb dX7_tells_80 (lv_at hl 0 rfl) ?_
      refine lv_iconst (v := (4 : Int32)) hx hb dX7_tells_82 (by decide) ?_
      refine lv_iadd hx hb dX7_tells_83 ?_
      refine lv_iload hx hb dX7_tells_84 (lv_at hl 9 rfl) ?_
      replace hk := ob_s hk
      obtain ⟨M8, hM8, hk⟩ := hk
      obtain ⟨hM8, eM8⟩ := wr_s hM8
      refine w_ast hx hb hK hW (inM kd_177 rfl) (fun _ => (shp10 kd_177)) hM8 eM8 dX7_tells_86 (fun H locs hW => ?_)
      obtain rfl := Option.some.inj hk
      exact KJ14 _ _ _ hW (lv_sub hl [1, 2] rfl)
  · replace hk := ite_t hk c18
    refine lv_aload_n hx hb dX7_tells_10 rfl (lv_at hl 0 rfl) ?_
    replace hk := ob2_s hk
    obtain ⟨x16, M17, hx16, hk⟩ := hk
    refine cl_i (rn_V g_939 g_941 gs_63 g_9 g_942 hd_X7_full (Nat.le_of_ble_eq_true rfl) (ci := 7) rfl (inM kd_176 rfl) (shp7 kd_176) hx hb hml hown hg hK hW (As := []) (c_X7_full l G M hx16) (by decide) rfl hl.1 rfl (Nat.le_of_ble_eq_true rfl) dX7_tells_11) hW (fun H locs hW => ?_)
    obtain ⟨rfl, rfl⟩ := sp2 hk
    exact hret _ _ _ _ hW dX7_tells_14
def f_X7_seen (a1 : Int32) (a2 : Int32) (a3 : Int32) (a4 : Int32) (M : Mem) : Option (Int32 × Mem) :=
  ob (f_X7_isLimb a1 M) (fun x1 =>
  if x1 = (0 : Int32) then (
    ob2 (f_X7_bad M) (fun x2 M3 =>
    some (x2, M3)))
  else (
    if (f_X7_in a2.toInt64 (1 : Int64) (20 : Int64)) = (0 : Int32) then (
      ob2 (f_X7_bad M) (fun x5 M6 =>
      some (x5, M6)))
    else (
      if (f_X7_in a3.toInt64 (0 : Int64) (60 : Int64)) = (0 : Int32) then (
        ob2 (f_X7_bad M) (fun x8 M9 =>
        some (x8, M9)))
      else (
        if (f_X7_in a4.toInt64 ((-40) : Int64) (60 : Int64)) = (0 : Int32) then (
          ob2 (f_X7_bad M) (fun x13 M14 =>
          some (x13, M14)))
        else (
          ob2 (f_X7_tells (70 : Int32) (4 : Int32) (5 : Int32) a1 a2 a3 a4 (0 : Int32) M) (fun x11 M12 =>
          some (x11, M12)))))))
set_option maxHeartbeats 4000000 in
set_option maxRecDepth 100000 in
theorem c_X7_seen (l : Launch) (G : GT) (a1 : Int32) (a2 : Int32) (a3 : Int32) (a4 : Int32) (M : Mem) {r : Int32} {M' : Mem} (hk : f_X7_seen a1 a2 a3 a4 M = some (r, M')) : CMi l G false yX7_seen cX7_seen 5 (some .int) 2 [.ref (ad G 176), .int a1, .int a2, .int a3, .int a4] M r M' := by
  unfold f_X7_seen at hk
  refine CMi.of (by decide) (Nat.le_of_ble_eq_true rfl) ?_
  intro p e s m args below meth c Q hx hb hml hown hg hK hW hret ls hl
  have hl : lv_has ls 5 [(0, .ref (ad G 176)), (1, .int a1), (2, .int a2), (3, .int a3), (4, .int a4)] := hl
  refine lv_aload_n hx hb dX7_seen_0 rfl (lv_at hl 0 rfl) ?_
  refine lv_iload_n hx hb dX7_seen_1 rfl (lv_at hl 1 rfl) ?_
  replace hk := ob_s hk
  obtain ⟨x1, hx1, hk⟩ := hk
  refine cl_i (rn_V g_1033 g_1035 gs_78 g_9 g_1036 hd_X7_isLimb (Nat.le_of_ble_eq_true rfl) (ci := 7) rfl (inM kd_176 rfl) (shp7 kd_176) hx hb hml hown hg hK hW (As := [.int a1]) (c_X7_isLimb l G a1 M hx1) (by decide) rfl hl.1 rfl (Nat.le_of_ble_eq_true rfl) dX7_seen_2) hW (fun H locs hW => ?_)
  refine lv_if_eq (tgt := 47) hx hb dX7_seen_5 (by decide) (fun c18 => ?_) (fun c18 => ?_)
  · replace hk := ite_t hk c18
    refine lv_aload_n hx hb dX7_seen_47 rfl (lv_at hl 0 rfl) ?_
    replace hk := ob2_s hk
    obtain ⟨x2, M3, hx2, hk⟩ := hk
    refine cl_i (rn_V g_924 g_926 gs_62 g_9 g_927 hd_X7_bad (Nat.le_of_ble_eq_true rfl) (ci := 7) rfl (inM kd_176 rfl) (shp7 kd_176) hx hb hml hown hg hK hW (As := []) (c_X7_bad l G M hx2) (by decide) rfl hl.1 rfl (Nat.le_of_ble_eq_true rfl) dX7_seen_48) hW (fun H locs hW => ?_)
    obtain ⟨rfl, rfl⟩ := sp2 hk
    exact hret _ _ _ _ hW dX7_seen_51
  · replace hk := ite_f hk c18
    refine lv_iload_n hx hb dX7_seen_8 rfl (lv_at hl 2 rfl) ?_
    refine lv_i2l hx hb dX7_seen_9 rfl ?_
    refine lv_lconst (v := (1 : Int64)) hx hb dX7_seen_10 (by decide) ?_
    refine lv_ldc2 hx hb hown (hg _ g_937) dX7_seen_11 ?_
    refine cl_i (rn_S g_921 g_922 g_9 g_923 hd_X7_in (Nat.le_of_ble_eq_true rfl) hx hb hml hown hg hK hW (As := [.long a2.toInt64, .long (1 : Int64), .long (20 : Int64)]) (c_X7_in l G a2.toInt64 (1 : Int64) (20 : Int64) M) (by decide) rfl hl.1 rfl (Nat.le_of_ble_eq_true rfl) dX7_seen_14) hW (fun H locs hW => ?_)
    refine lv_if_eq (tgt := 47) hx hb dX7_seen_17 (by decide) (fun c17 => ?_) (fun c17 => ?_)
    · replace hk := ite_t hk c17
      refine lv_aload_n hx hb dX7_seen_47 rfl (lv_at hl 0 rfl) ?_
      replace hk := ob2_s hk
      obtain ⟨x5, M6, hx5, hk⟩ := hk
      refine cl_i (rn_V g_924 g_926 gs_62 g_9 g_927 hd_X7_bad (Nat.le_of_ble_eq_true rfl) (ci := 7) rfl (inM kd_176 rfl) (shp7 kd_176) hx hb hml hown hg hK hW (As := []) (c_X7_bad l G M hx5) (by decide) rfl hl.1 rfl (Nat.le_of_ble_eq_true rfl) dX7_seen_48) hW (fun H locs hW => ?_)
      obtain ⟨rfl, rfl⟩ := sp2 hk
      exact hret _ _ _ _ hW dX7_seen_51
    · replace hk := ite_f hk c17
      refine lv_iload_n hx hb dX7_seen_20 rfl (lv_at hl 3 rfl) ?_
      refine lv_i2l hx hb dX7_seen_21 rfl ?_
      refine lv_lconst (v := (0 : Int64)) hx hb dX7_seen_22 (by decide) ?_
      refine lv_ldc2 hx hb hown (hg _ g_1117) dX7_seen_23 ?_
      refine cl_i (rn_S g_921 g_922 g_9 g_923 hd_X7_in (Nat.le_of_ble_eq_true rfl) hx hb hml hown hg hK hW (As := [.long a3.toInt64, .long (0 : Int64), .long (60 : Int64)]) (c_X7_in l G a3.toInt64 (0 : Int64) (60 : Int64) M) (by decide) rfl hl.1 rfl (Nat.le_of_ble_eq_true rfl) dX7_seen_26) hW (fun H locs hW => ?_)
      refine lv_if_eq (tgt := 47) hx hb dX7_seen_29 (by decide) (fun c16 => ?_) (fun c16 => ?_)
      · replace hk := ite_t hk c16
        refine lv_aload_n hx hb dX7_seen_47 rfl (lv_at hl 0 rfl) ?_
        replace hk := ob2_s hk
        obtain ⟨x8, M9, hx8, hk⟩ := hk
        refine cl_i (rn_V g_924 g_926 gs_62 g_9 g_927 hd_X7_bad (Nat.le_of_ble_eq_true rfl) (ci := 7) rfl (inM kd_176 rfl) (shp7 kd_176) hx hb hml hown hg hK hW (As := []) (c_X7_bad l G M hx8) (by decide) rfl hl.1 rfl (Nat.le_of_ble_eq_true rfl) dX7_seen_48) hW (fun H locs hW => ?_)
        obtain ⟨rfl, rfl⟩ := sp2 hk
        exact hret _ _ _ _ hW dX7_seen_51
      · replace hk := ite_f hk c16
        refine lv_iload hx hb dX7_seen_32 (lv_at hl 4 rfl) ?_
        refine lv_i2l hx hb dX7_seen_34 rfl ?_
        refine lv_ldc2 hx hb hown (hg _ g_1116) dX7_seen_35 ?_
        refine lv_ldc2 hx hb hown (hg _ g_1117) dX7_seen_38 ?_
        refine cl_i (rn_S g_921 g_922 g_9 g_923 hd_X7_in (Nat.le_of_ble_eq_true rfl) hx hb hml hown hg hK hW (As := [.long a4.toInt64, .long ((-40) : Int64), .long (60 : Int64)]) (c_X7_in l G a4.toInt64 ((-40) : Int64) (60 : Int64) M) (by decide) rfl hl.1 rfl (Nat.le_of_ble_eq_true rfl) dX7_seen_41) hW (fun H locs hW => ?_)
        refine lv_if_ne (tgt := 52) hx hb dX7_seen_44 (by decide) (fun c15 => ?_) (fun c15 => ?_)
        · replace hk := ite_f hk c15
          refine lv_aload_n hx hb dX7_seen_52 rfl (lv_at hl 0 rfl) ?_
          refine lv_bipush (v := (70 : Int32)) hx hb dX7_seen_53 (by decide) ?_
          refine lv_iconst (v := (4 : Int32)) hx hb dX7_seen_55 (by decide) ?_
          refine lv_iconst (v := (5 : Int32)) hx hb dX7_seen_56 (by decide) ?_
          refine lv_iload_n hx hb dX7_seen_57 rfl (lv_at hl 1 rfl) ?_
          refine lv_iload_n hx hb dX7_seen_58 rfl (lv_at hl 2 rfl) ?_
          refine lv_iload_n hx hb dX7_seen_59 rfl (lv_at hl 3 rfl) ?_
          refine lv_iload hx hb dX7_seen_60 (lv_at hl 4 rfl) ?_
          refine lv_iconst (v := (0 : Int32)) hx hb dX7_seen_62 (by decide) ?_
          replace hk := ob2_s hk
          obtain ⟨x11, M12, hx11, hk⟩ := hk
          refine cl_i (rn_V g_1158 g_1160 gs_91 g_9 g_1161 hd_X7_tells (Nat.le_of_ble_eq_true rfl) (ci := 7) rfl (inM kd_176 rfl) (shp7 kd_176) hx hb hml hown hg hK hW (As := [.int (70 : Int32), .int (4 : Int32), .int (5 : Int32), .int a1, .int a2, .int a3, .int a4, .int (0 : Int32)]) (c_X7_tells l G (70 : Int32) (4 : Int32) (5 : Int32) a1 a2 a3 a4 (0 : Int32) M hx11) (by decide) rfl hl.1 rfl (Nat.le_of_ble_eq_true rfl) dX7_seen_63) hW (fun H locs hW => ?_)
          obtain ⟨rfl, rfl⟩ := sp2 hk
          exact hret _ _ _ _ hW dX7_seen_66
        · replace hk := ite_t hk c15
          refine lv_aload_n hx hb dX7_seen_47 rfl (lv_at hl 0 rfl) ?_
          replace hk := ob2_s hk
          obtain ⟨x13, M14, hx13, hk⟩ := hk
          refine cl_i (rn_V g_924 g_926 gs_62 g_9 g_927 hd_X7_bad (Nat.le_of_ble_eq_true rfl) (ci := 7) rfl (inM kd_176 rfl) (shp7 kd_176) hx hb hml hown hg hK hW (As := []) (c_X7_bad l G M hx13) (by decide) rfl hl.1 rfl (Nat.le_of_ble_eq_true rfl) dX7_seen_48) hW (fun H locs hW => ?_)
          obtain ⟨rfl, rfl⟩ := sp2 hk
          exact hret _ _ _ _ hW dX7_seen_51
def f_X7_note (a1 : Int32) (a2 : Int32) (a3 : Int32) (a4 : Int32) (a5 : Int32) (M : Mem) : Option (Int32 × Mem) :=
  ob (f_X7_isLimb a1 M) (fun x1 =>
  if x1 = (0 : Int32) then (
    ob2 (f_X7_bad M) (fun x2 M3 =>
    some (x2, M3)))
  else (
    if (f_X7_in a2.toInt64 (1 : Int64) (20 : Int64)) = (0 : Int32) then (
      ob2 (f_X7_bad M) (fun x5 M6 =>
      some (x5, M6)))
    else (
      if (f_X7_in a3.toInt64 (1 : Int64) (9 : Int64)) = (0 : Int32) then (
        ob2 (f_X7_bad M) (fun x8 M9 =>
        some (x8, M9)))
      else (
        if (f_X7_in a4.toInt64 (0 : Int64) (99 : Int64)) = (0 : Int32) then (
          ob2 (f_X7_bad M) (fun x11 M12 =>
          some (x11, M12)))
        else (
          if (f_X7_in a5.toInt64 (0 : Int64) (60 : Int64)) = (0 : Int32) then (
            ob2 (f_X7_bad M) (fun x16 M17 =>
            some (x16, M17)))
          else (
            ob2 (f_X7_tells (91 : Int32) (5 : Int32) (6 : Int32) a1 a2 a3 a4 a5 M) (fun x14 M15 =>
            some (x14, M15))))))))
set_option maxHeartbeats 4000000 in
set_option maxRecDepth 100000 in
theorem c_X7_note (l : Launch) (G : GT) (a1 : Int32) (a2 : Int32) (a3 : Int32) (a4 : Int32) (a5 : Int32) (M : Mem) {r : Int32} {M' : Mem} (hk : f_X7_note a1 a2 a3 a4 a5 M = some (r, M')) : CMi l G false yX7_note cX7_note 6 (some .int) 2 [.ref (ad G 176), .int a1, .int a2, .int a3, .int a4, .int a5] M r M' := by
  unfold f_X7_note at hk
  refine CMi.of (by decide) (Nat.le_of_ble_eq_true rfl) ?_
  intro p e s m args below meth c Q hx hb hml hown hg hK hW hret ls hl
  have hl : lv_has ls 6 [(0, .ref (ad G 176)), (1, .int a1), (2, .int a2), (3, .int a3), (4, .int a4), (5, .int a5)] := hl
  refine lv_aload_n hx hb dX7_note_0 rfl (lv_at hl 0 rfl) ?_
  refine lv_iload_n hx hb dX7_note_1 rfl (lv_at hl 1 rfl) ?_
  replace hk := ob_s hk
  obtain ⟨x1, hx1, hk⟩ := hk
  refine cl_i (rn_V g_1033 g_1035 gs_78 g_9 g_1036 hd_X7_isLimb (Nat.le_of_ble_eq_true rfl) (ci := 7) rfl (inM kd_176 rfl) (shp7 kd_176) hx hb hml hown hg hK hW (As := [.int a1]) (c_X7_isLimb l G a1 M hx1) (by decide) rfl hl.1 rfl (Nat.le_of_ble_eq_true rfl) dX7_note_2) hW (fun H locs hW => ?_)
  refine lv_if_eq (tgt := 58) hx hb dX7_note_5 (by decide) (fun c22 => ?_) (fun c22 => ?_)
  · replace hk := ite_t hk c22
    refine lv_aload_n hx hb dX7_note_58 rfl (lv_at hl 0 rfl) ?_
    replace hk := ob2_s hk
    obtain ⟨x2, M3, hx2, hk⟩ := hk
    refine cl_i (rn_V g_924 g_926 gs_62 g_9 g_927 hd_X7_bad (Nat.le_of_ble_eq_true rfl) (ci := 7) rfl (inM kd_176 rfl) (shp7 kd_176) hx hb hml hown hg hK hW (As := []) (c_X7_bad l G M hx2) (by decide) rfl hl.1 rfl (Nat.le_of_ble_eq_true rfl) dX7_note_59) hW (fun H locs hW => ?_)
    obtain ⟨rfl, rfl⟩ := sp2 hk
    exact hret _ _ _ _ hW dX7_note_62
  · replace hk := ite_f hk c22
    refine lv_iload_n hx hb dX7_note_8 rfl (lv_at hl 2 rfl) ?_
    refine lv_i2l hx hb dX7_note_9 rfl ?_
    refine lv_lconst (v := (1 : Int64)) hx hb dX7_note_10 (by decide) ?_
    refine lv_ldc2 hx hb hown (hg _ g_937) dX7_note_11 ?_
    refine cl_i (rn_S g_921 g_922 g_9 g_923 hd_X7_in (Nat.le_of_ble_eq_true rfl) hx hb hml hown hg hK hW (As := [.long a2.toInt64, .long (1 : Int64), .long (20 : Int64)]) (c_X7_in l G a2.toInt64 (1 : Int64) (20 : Int64) M) (by decide) rfl hl.1 rfl (Nat.le_of_ble_eq_true rfl) dX7_note_14) hW (fun H locs hW => ?_)
    refine lv_if_eq (tgt := 58) hx hb dX7_note_17 (by decide) (fun c21 => ?_) (fun c21 => ?_)
    · replace hk := ite_t hk c21
      refine lv_aload_n hx hb dX7_note_58 rfl (lv_at hl 0 rfl) ?_
      replace hk := ob2_s hk
      obtain ⟨x5, M6, hx5, hk⟩ := hk
      refine cl_i (rn_V g_924 g_926 gs_62 g_9 g_927 hd_X7_bad (Nat.le_of_ble_eq_true rfl) (ci := 7) rfl (inM kd_176 rfl) (shp7 kd_176) hx hb hml hown hg hK hW (As := []) (c_X7_bad l G M hx5) (by decide) rfl hl.1 rfl (Nat.le_of_ble_eq_true rfl) dX7_note_59) hW (fun H locs hW => ?_)
      obtain ⟨rfl, rfl⟩ := sp2 hk
      exact hret _ _ _ _ hW dX7_note_62
    · replace hk := ite_f hk c21
      refine lv_iload_n hx hb dX7_note_20 rfl (lv_at hl 3 rfl) ?_
      refine lv_i2l hx hb dX7_note_21 rfl ?_
      refine lv_lconst (v := (1 : Int64)) hx hb dX7_note_22 (by decide) ?_
      refine lv_ldc2 hx hb hown (hg _ g_936) dX7_note_23 ?_
      refine cl_i (rn_S g_921 g_922 g_9 g_923 hd_X7_in (Nat.le_of_ble_eq_true rfl) hx hb hml hown hg hK hW (As := [.long a3.toInt64, .long (1 : Int64), .long (9 : Int64)]) (c_X7_in l G a3.toInt64 (1 : Int64) (9 : Int64) M) (by decide) rfl hl.1 rfl (Nat.le_of_ble_eq_true rfl) dX7_note_26) hW (fun H locs hW => ?_)
      refine lv_if_eq (tgt := 58) hx hb dX7_note_29 (by decide) (fun c20 => ?_) (fun c20 => ?_)
      · replace hk := ite_t hk c20
        refine lv_aload_n hx hb dX7_note_58 rfl (lv_at hl 0 rfl) ?_
        replace hk := ob2_s hk
        obtain ⟨x8, M9, hx8, hk⟩ := hk
        refine cl_i (rn_V g_924 g_926 gs_62 g_9 g_927 hd_X7_bad (Nat.le_of_ble_eq_true rfl) (ci := 7) rfl (inM kd_176 rfl) (shp7 kd_176) hx hb hml hown hg hK hW (As := []) (c_X7_bad l G M hx8) (by decide) rfl hl.1 rfl (Nat.le_of_ble_eq_true rfl) dX7_note_59) hW (fun H locs hW => ?_)
        obtain ⟨rfl, rfl⟩ := sp2 hk
        exact hret _ _ _ _ hW dX7_note_62
      · replace hk := ite_f hk c20
        refine lv_iload hx hb dX7_note_32 (lv_at hl 4 rfl) ?_
        refine lv_i2l hx hb dX7_note_34 rfl ?_
        refine lv_lconst (v := (0 : Int64)) hx hb dX7_note_35 (by decide) ?_
        refine lv_ldc2 hx hb hown (hg _ g_1166) dX7_note_36 ?_
        refine cl_i (rn_S g_921 g_922 g_9 g_923 hd_X7_in (Nat.le_of_ble_eq_true rfl) hx hb hml hown hg hK hW (As := [.long a4.toInt64, .long (0 : Int64), .long (99 : Int64)]) (c_X7_in l G a4.toInt64 (0 : Int64) (99 : Int64) M) (by decide) rfl hl.1 rfl (Nat.le_of_ble_eq_true rfl) dX7_note_39) hW (fun H locs hW => ?_)
        refine lv_if_eq (tgt := 58) hx hb dX7_note_42 (by decide) (fun c19 => ?_) (fun c19 => ?_)
        · replace hk := ite_t hk c19
          refine lv_aload_n hx hb dX7_note_58 rfl (lv_at hl 0 rfl) ?_
          replace hk := ob2_s hk
          obtain ⟨x11, M12, hx11, hk⟩ := hk
          refine cl_i (rn_V g_924 g_926 gs_62 g_9 g_927 hd_X7_bad (Nat.le_of_ble_eq_true rfl) (ci := 7) rfl (inM kd_176 rfl) (shp7 kd_176) hx hb hml hown hg hK hW (As := []) (c_X7_bad l G M hx11) (by decide) rfl hl.1 rfl (Nat.le_of_ble_eq_true rfl) dX7_note_59) hW (fun H locs hW => ?_)
          obtain ⟨rfl, rfl⟩ := sp2 hk
          exact hret _ _ _ _ hW dX7_note_62
        · replace hk := ite_f hk c19
          refine lv_iload hx hb dX7_note_45 (lv_at hl 5 rfl) ?_
          refine lv_i2l hx hb dX7_note_47 rfl ?_
          refine lv_lconst (v := (0 : Int64)) hx hb dX7_note_48 (by decide) ?_
          refine lv_ldc2 hx hb hown (hg _ g_1117) dX7_note_49 ?_
          refine cl_i (rn_S g_921 g_922 g_9 g_923 hd_X7_in (Nat.le_of_ble_eq_true rfl) hx hb hml hown hg hK hW (As := [.long a5.toInt64, .long (0 : Int64), .long (60 : Int64)]) (c_X7_in l G a5.toInt64 (0 : Int64) (60 : Int64) M) (by decide) rfl hl.1 rfl (Nat.le_of_ble_eq_true rfl) dX7_note_52) hW (fun H locs hW => ?_)
          refine lv_if_ne (tgt := 63) hx hb dX7_note_55 (by decide) (fun c18 => ?_) (fun c18 => ?_)
          · replace hk := ite_f hk c18
            refine lv_aload_n hx hb dX7_note_63 rfl (lv_at hl 0 rfl) ?_
            refine lv_bipush (v := (91 : Int32)) hx hb dX7_note_64 (by decide) ?_
            refine lv_iconst (v := (5 : Int32)) hx hb dX7_note_66 (by decide) ?_
            refine lv_bipush (v := (6 : Int32)) hx hb dX7_note_67 (by decide) ?_
            refine lv_iload_n hx hb dX7_note_69 rfl (lv_at hl 1 rfl) ?_
            refine lv_iload_n hx hb dX7_note_70 rfl (lv_at hl 2 rfl) ?_
            refine lv_iload_n hx hb dX7_note_71 rfl (lv_at hl 3 rfl) ?_
            refine lv_iload hx hb dX7_note_72 (lv_at hl 4 rfl) ?_
            refine lv_iload hx hb dX7_note_74 (lv_at hl 5 rfl) ?_
            replace hk := ob2_s hk
            obtain ⟨x14, M15, hx14, hk⟩ := hk
            refine cl_i (rn_V g_1158 g_1160 gs_91 g_9 g_1161 hd_X7_tells (Nat.le_of_ble_eq_true rfl) (ci := 7) rfl (inM kd_176 rfl) (shp7 kd_176) hx hb hml hown hg hK hW (As := [.int (91 : Int32), .int (5 : Int32), .int (6 : Int32), .int a1, .int a2, .int a3, .int a4, .int a5]) (c_X7_tells l G (91 : Int32) (5 : Int32) (6 : Int32) a1 a2 a3 a4 a5 M hx14) (by decide) rfl hl.1 rfl (Nat.le_of_ble_eq_true rfl) dX7_note_76) hW (fun H locs hW => ?_)
            obtain ⟨rfl, rfl⟩ := sp2 hk
            exact hret _ _ _ _ hW dX7_note_79
          · replace hk := ite_t hk c18
            refine lv_aload_n hx hb dX7_note_58 rfl (lv_at hl 0 rfl) ?_
            replace hk := ob2_s hk
            obtain ⟨x16, M17, hx16, hk⟩ := hk
            refine cl_i (rn_V g_924 g_926 gs_62 g_9 g_927 hd_X7_bad (Nat.le_of_ble_eq_true rfl) (ci := 7) rfl (inM kd_176 rfl) (shp7 kd_176) hx hb hml hown hg hK hW (As := []) (c_X7_bad l G M hx16) (by decide) rfl hl.1 rfl (Nat.le_of_ble_eq_true rfl) dX7_note_59) hW (fun H locs hW => ?_)
            obtain ⟨rfl, rfl⟩ := sp2 hk
            exact hret _ _ _ _ hW dX7_note_62
def f_X7_mark (a1 : Int32) (a2 : Int32) (a3 : Int32) (a4 : Int32) (M : Mem) : Option (Int32 × Mem) :=
  ob (f_X7_isLimb a1 M) (fun x1 =>
  if x1 = (0 : Int32) then (
    ob2 (f_X7_bad M) (fun x2 M3 =>
    some (x2, M3)))
  else (
    if (f_X7_in a2.toInt64 ((-40) : Int64) (60 : Int64)) = (0 : Int32) then (
      ob2 (f_X7_bad M) (fun x5 M6 =>
      some (x5, M6)))
    else (
      if (f_X7_in a3.toInt64 (0 : Int64) (99 : Int64)) = (0 : Int32) then (
        ob2 (f_X7_bad M) (fun x8 M9 =>
        some (x8, M9)))
      else (
        if (f_X7_in a4.toInt64 ((-40) : Int64) (60 : Int64)) = (0 : Int32) then (
          ob2 (f_X7_bad M) (fun x13 M14 =>
          some (x13, M14)))
        else (
          ob2 (f_X7_tells (122 : Int32) (4 : Int32) (6 : Int32) a1 a2 a3 a4 (0 : Int32) M) (fun x11 M12 =>
          some (x11, M12)))))))
set_option maxHeartbeats 4000000 in
set_option maxRecDepth 100000 in
theorem c_X7_mark (l : Launch) (G : GT) (a1 : Int32) (a2 : Int32) (a3 : Int32) (a4 : Int32) (M : Mem) {r : Int32} {M' : Mem} (hk : f_X7_mark a1 a2 a3 a4 M = some (r, M')) : CMi l G false yX7_mark cX7_mark 5 (some .int) 2 [.ref (ad G 176), .int a1, .int a2, .int a3, .int a4] M r M' := by
  unfold f_X7_mark at hk
  refine CMi.of (by decide) (Nat.le_of_ble_eq_true rfl) ?_
  intro p e s m args below meth c Q hx hb hml hown hg hK hW hret ls hl
  have hl : lv_has ls 5 [(0, .ref (ad G 176)), (1, .int a1), (2, .int a2), (3, .int a3), (4, .int a4)] := hl
  refine lv_aload_n hx hb dX7_mark_0 rfl (lv_at hl 0 rfl) ?_
  refine lv_iload_n hx hb dX7_mark_1 rfl (lv_at hl 1 rfl) ?_
  replace hk := ob_s hk
  obtain ⟨x1, hx1, hk⟩ := hk
  refine cl_i (rn_V g_1033 g_1035 gs_78 g_9 g_1036 hd_X7_isLimb (Nat.le_of_ble_eq_true rfl) (ci := 7) rfl (inM kd_176 rfl) (shp7 kd_176) hx hb hml hown hg hK hW (As := [.int a1]) (c_X7_isLimb l G a1 M hx1) (by decide) rfl hl.1 rfl (Nat.le_of_ble_eq_true rfl) dX7_mark_2) hW (fun H locs hW => ?_)
  refine lv_if_eq (tgt := 49) hx hb dX7_mark_5 (by decide) (fun c18 => ?_) (fun c18 => ?_)
  · replace hk := ite_t hk c18
    refine lv_aload_n hx hb dX7_mark_49 rfl (lv_at hl 0 rfl) ?_
    replace hk := ob2_s hk
    obtain ⟨x2, M3, hx2, hk⟩ := hk
    refine cl_i (rn_V g_924 g_926 gs_62 g_9 g_927 hd_X7_bad (Nat.le_of_ble_eq_true rfl) (ci := 7) rfl (inM kd_176 rfl) (shp7 kd_176) hx hb hml hown hg hK hW (As := []) (c_X7_bad l G M hx2) (by decide) rfl hl.1 rfl (Nat.le_of_ble_eq_true rfl) dX7_mark_50) hW (fun H locs hW => ?_)
    obtain ⟨rfl, rfl⟩ := sp2 hk
    exact hret _ _ _ _ hW dX7_mark_53
  · replace hk := ite_f hk c18
    refine lv_iload_n hx hb dX7_mark_8 rfl (lv_at hl 2 rfl) ?_
    refine lv_i2l hx hb dX7_mark_9 rfl ?_
    refine lv_ldc2 hx hb hown (hg _ g_1116) dX7_mark_10 ?_
    refine lv_ldc2 hx hb hown (hg _ g_1117) dX7_mark_13 ?_
    refine cl_i (rn_S g_921 g_922 g_9 g_923 hd_X7_in (Nat.le_of_ble_eq_true rfl) hx hb hml hown hg hK hW (As := [.long a2.toInt64, .long ((-40) : Int64), .long (60 : Int64)]) (c_X7_in l G a2.toInt64 ((-40) : Int64) (60 : Int64) M) (by decide) rfl hl.1 rfl (Nat.le_of_ble_eq_true rfl) dX7_mark_16) hW (fun H locs hW => ?_)
    refine lv_if_eq (tgt := 49) hx hb dX7_mark_19 (by decide) (fun c17 => ?_) (fun c17 => ?_)
    · replace hk := ite_t hk c17
      refine lv_aload_n hx hb dX7_mark_49 rfl (lv_at hl 0 rfl) ?_
      replace hk := ob2_s hk
      obtain ⟨x5, M6, hx5, hk⟩ := hk
      refine cl_i (rn_V g_924 g_926 gs_62 g_9 g_927 hd_X7_bad (Nat.le_of_ble_eq_true rfl) (ci := 7) rfl (inM kd_176 rfl) (shp7 kd_176) hx hb hml hown hg hK hW (As := []) (c_X7_bad l G M hx5) (by decide) rfl hl.1 rfl (Nat.le_of_ble_eq_true rfl) dX7_mark_50) hW (fun H locs hW => ?_)
      obtain ⟨rfl, rfl⟩ := sp2 hk
      exact hret _ _ _ _ hW dX7_mark_53
    · replace hk := ite_f hk c17
      refine lv_iload_n hx hb dX7_mark_22 rfl (lv_at hl 3 rfl) ?_
      refine lv_i2l hx hb dX7_mark_23 rfl ?_
      refine lv_lconst (v := (0 : Int64)) hx hb dX7_mark_24 (by decide) ?_
      refine lv_ldc2 hx hb hown (hg _ g_1166) dX7_mark_25 ?_
      refine cl_i (rn_S g_921 g_922 g_9 g_923 hd_X7_in (Nat.le_of_ble_eq_true rfl) hx hb hml hown hg hK hW (As := [.long a3.toInt64, .long (0 : Int64), .long (99 : Int64)]) (c_X7_in l G a3.toInt64 (0 : Int64) (99 : Int64) M) (by decide) rfl hl.1 rfl (Nat.le_of_ble_eq_true rfl) dX7_mark_28) hW (fun H locs hW => ?_)
      refine lv_if_eq (tgt := 49) hx hb dX7_mark_31 (by decide) (fun c16 => ?_) (fun c16 => ?_)
      · replace hk := ite_t hk c16
        refine lv_aload_n hx hb dX7_mark_49 rfl (lv_at hl 0 rfl) ?_
        replace hk := ob2_s hk
        obtain ⟨x8, M9, hx8, hk⟩ := hk
        refine cl_i (rn_V g_924 g_926 gs_62 g_9 g_927 hd_X7_bad (Nat.le_of_ble_eq_true rfl) (ci := 7) rfl (inM kd_176 rfl) (shp7 kd_176) hx hb hml hown hg hK hW (As := []) (c_X7_bad l G M hx8) (by decide) rfl hl.1 rfl (Nat.le_of_ble_eq_true rfl) dX7_mark_50) hW (fun H locs hW => ?_)
        obtain ⟨rfl, rfl⟩ := sp2 hk
        exact hret _ _ _ _ hW dX7_mark_53
      · replace hk := ite_f hk c16
        refine lv_iload hx hb dX7_mark_34 (lv_at hl 4 rfl) ?_
        refine lv_i2l hx hb dX7_mark_36 rfl ?_
        refine lv_ldc2 hx hb hown (hg _ g_1116) dX7_mark_37 ?_
        refine lv_ldc2 hx hb hown (hg _ g_1117) dX7_mark_40 ?_
        refine cl_i (rn_S g_921 g_922 g_9 g_923 hd_X7_in (Nat.le_of_ble_eq_true rfl) hx hb hml hown hg hK hW (As := [.long a4.toInt64, .long ((-40) : Int64), .long (60 : Int64)]) (c_X7_in l G a4.toInt64 ((-40) : Int64) (60 : Int64) M) (by decide) rfl hl.1 rfl (Nat.le_of_ble_eq_true rfl) dX7_mark_43) hW (fun H locs hW => ?_)
        refine lv_if_ne (tgt := 54) hx hb dX7_mark_46 (by decide) (fun c15 => ?_) (fun c15 => ?_)
        · replace hk := ite_f hk c15
          refine lv_aload_n hx hb dX7_mark_54 rfl (lv_at hl 0 rfl) ?_
          refine lv_bipush (v := (122 : Int32)) hx hb dX7_mark_55 (by decide) ?_
          refine lv_iconst (v := (4 : Int32)) hx hb dX7_mark_57 (by decide) ?_
          refine lv_bipush (v := (6 : Int32)) hx hb dX7_mark_58 (by decide) ?_
          refine lv_iload_n hx hb dX7_mark_60 rfl (lv_at hl 1 rfl) ?_
          refine lv_iload_n hx hb dX7_mark_61 rfl (lv_at hl 2 rfl) ?_
          refine lv_iload_n hx hb dX7_mark_62 rfl (lv_at hl 3 rfl) ?_
          refine lv_iload hx hb dX7_mark_63 (lv_at hl 4 rfl) ?_
          refine lv_iconst (v := (0 : Int32)) hx hb dX7_mark_65 (by decide) ?_
          replace hk := ob2_s hk
          obtain ⟨x11, M12, hx11, hk⟩ := hk
          refine cl_i (rn_V g_1158 g_1160 gs_91 g_9 g_1161 hd_X7_tells (Nat.le_of_ble_eq_true rfl) (ci := 7) rfl (inM kd_176 rfl) (shp7 kd_176) hx hb hml hown hg hK hW (As := [.int (122 : Int32), .int (4 : Int32), .int (6 : Int32), .int a1, .int a2, .int a3, .int a4, .int (0 : Int32)]) (c_X7_tells l G (122 : Int32) (4 : Int32) (6 : Int32) a1 a2 a3 a4 (0 : Int32) M hx11) (by decide) rfl hl.1 rfl (Nat.le_of_ble_eq_true rfl) dX7_mark_66) hW (fun H locs hW => ?_)
          obtain ⟨rfl, rfl⟩ := sp2 hk
          exact hret _ _ _ _ hW dX7_mark_69
        · replace hk := ite_t hk c15
          refine lv_aload_n hx hb dX7_mark_49 rfl (lv_at hl 0 rfl) ?_
          replace hk := ob2_s hk
          obtain ⟨x13, M14, hx13, hk⟩ := hk
          refine cl_i (rn_V g_924 g_926 gs_62 g_9 g_927 hd_X7_bad (Nat.le_of_ble_eq_true rfl) (ci := 7) rfl (inM kd_176 rfl) (shp7 kd_176) hx hb hml hown hg hK hW (As := []) (c_X7_bad l G M hx13) (by decide) rfl hl.1 rfl (Nat.le_of_ble_eq_true rfl) dX7_mark_50) hW (fun H locs hW => ?_)
          obtain ⟨rfl, rfl⟩ := sp2 hk
          exact hret _ _ _ _ hW dX7_mark_53
def f_X7_forget (a1 : Int32) (M : Mem) : Option (Int32 × Mem) :=
  if (f_X7_in a1.toInt64 (0 : Int64) (2 : Int64)) = (0 : Int32) then (
    ob2 (f_X7_bad M) (fun x9 M10 =>
    some (x9, M10)))
  else (
    lq (
      if a1 = (0 : Int32) then (
        (70 : Int32))
      else (
        if a1 = (1 : Int32) then (
          (91 : Int32))
        else (
          (122 : Int32))))
     (fun x4 =>
    ob (rd M 177 x4) (fun x5 =>
    ob (wr M 177 x4 (0 : Int32)) (fun M6 =>
    some (x5, M6)))))
set_option maxHeartbeats 4000000 in
set_option maxRecDepth 100000 in
theorem c_X7_forget (l : Launch) (G : GT) (a1 : Int32) (M : Mem) {r : Int32} {M' : Mem} (hk : f_X7_forget a1 M = some (r, M')) : CMi l G false yX7_forget cX7_forget 4 (some .int) 1 [.ref (ad G 176), .int a1] M r M' := by
  unfold f_X7_forget at hk
  refine CMi.of (by decide) (Nat.le_of_ble_eq_true rfl) ?_
  intro p e s m args below meth c Q hx hb hml hown hg hK hW hret ls hl
  have hl : lv_has ls 4 [(0, .ref (ad G 176)), (1, .int a1)] := hl
  refine lv_iload_n hx hb dX7_forget_0 rfl (lv_at hl 1 rfl) ?_
  refine lv_i2l hx hb dX7_forget_1 rfl ?_
  refine lv_lconst (v := (0 : Int64)) hx hb dX7_forget_2 (by decide) ?_
  refine lv_ldc2 hx hb hown (hg _ g_1175) dX7_forget_3 ?_
  refine cl_i (rn_S g_921 g_922 g_9 g_923 hd_X7_in (Nat.le_of_ble_eq_true rfl) hx hb hml hown hg hK hW (As := [.long a1.toInt64, .long (0 : Int64), .long (2 : Int64)]) (c_X7_in l G a1.toInt64 (0 : Int64) (2 : Int64) M) (by decide) rfl hl.1 rfl (Nat.le_of_ble_eq_true rfl) dX7_forget_6) hW (fun H locs hW => ?_)
  refine lv_if_ne (tgt := 17) hx hb dX7_forget_9 (by decide) (fun c11 => ?_) (fun c11 => ?_)
  · replace hk := ite_f hk c11
    refine lv_iload_n hx hb dX7_forget_17 rfl (lv_at hl 1 rfl) ?_
    replace hk := lq_s hk
    obtain ⟨x4, hr8, hk⟩ := hk
    have KJ7 : ∀ (H : Heap) (locs : List Loc) (ls : Array Slot), Ws G false M s H locs → lv_has ls 4 [(0, .ref (ad G 176))] → Wx p l e 1 s m args below meth c Q H locs 38 ls [.int x4] := by
      intro H locs ls hW hl
      refine lv_istore_n (lv' := [(2, .int x4), (0, .ref (ad G 176))]) hx hb dX7_forget_38 rfl hl (by decide) rfl (fun ls hl => ?_)
      refine lv_aload_n hx hb dX7_forget_39 rfl (lv_at hl 1 rfl) ?_
      refine gt_X7_7 hx hb hg hown hK hW kd_176 dX7_forget_40 ?_
      refine lv_iload_n hx hb dX7_forget_43 rfl (lv_at hl 0 rfl) ?_
      replace hk := ob_s hk
      obtain ⟨x5, hx5, hk⟩ := hk
      obtain ⟨hx5, ex5⟩ := rd_s hx5
      refine w_ald hx hb hK hW (inM kd_177 rfl) (shp10 kd_177) hx5 ex5 dX7_forget_44 ?_
      refine lv_istore_n (lv' := [(3, .int x5), (2, .int x4), (0, .ref (ad G 176))]) hx hb dX7_forget_45 rfl hl (by decide) rfl (fun ls hl => ?_)
      refine lv_aload_n hx hb dX7_forget_46 rfl (lv_at hl 2 rfl) ?_
      refine gt_X7_7 hx hb hg hown hK hW kd_176 dX7_forget_47 ?_
      refine lv_iload_n hx hb dX7_forget_50 rfl (lv_at hl 1 rfl) ?_
      refine lv_iconst (v := (0 : Int32)) hx hb dX7_forget_51 (by decide) ?_
      replace hk := ob_s hk
      obtain ⟨M6, hM6, hk⟩ := hk
      obtain ⟨hM6, eM6⟩ := wr_s hM6
      refine w_ast hx hb hK hW (inM kd_177 rfl) (fun _ => (shp10 kd_177)) hM6 eM6 dX7_forget_52 (fun H locs hW => ?_)
      refine lv_iload_n hx hb dX7_forget_53 rfl (lv_at hl 0 rfl) ?_
      obtain ⟨rfl, rfl⟩ := sp2 hk
      exact hret _ _ _ _ hW dX7_forget_54
    clear hk
    have hk := hr8.symm
    clear hr8
    refine lv_if_ne (tgt := 26) hx hb dX7_forget_18 (by decide) (fun c3 => ?_) (fun c3 => ?_)
    · replace hk := ite_f hk c3
      refine lv_iload_n hx hb dX7_forget_26 rfl (lv_at hl 1 rfl) ?_
      refine lv_iconst (v := (1 : Int32)) hx hb dX7_forget_27 (by decide) ?_
      refine lv_icmp_ne (tgt := 36) hx hb dX7_forget_28 (by decide) (fun c2 => ?_) (fun c2 => ?_)
      · replace hk := ite_f hk c2
        refine lv_bipush (v := (122 : Int32)) hx hb dX7_forget_36 (by decide) ?_
        subst hk
        exact KJ7 _ _ _ hW (lv_sub hl [0] rfl)
      · replace hk := ite_t hk c2
        refine lv_bipush (v := (91 : Int32)) hx hb dX7_forget_31 (by decide) ?_
        refine lv_goto (tgt := 38) hx hb dX7_forget_33 (by decide) ?_
        subst hk
        exact KJ7 _ _ _ hW (lv_sub hl [0] rfl)
    · replace hk := ite_t hk c3
      refine lv_bipush (v := (70 : Int32)) hx hb dX7_forget_21 (by decide) ?_
      refine lv_goto (tgt := 38) hx hb dX7_forget_23 (by decide) ?_
      subst hk
      exact KJ7 _ _ _ hW (lv_sub hl [0] rfl)
  · replace hk := ite_t hk c11
    refine lv_aload_n hx hb dX7_forget_12 rfl (lv_at hl 0 rfl) ?_
    replace hk := ob2_s hk
    obtain ⟨x9, M10, hx9, hk⟩ := hk
    refine cl_i (rn_V g_924 g_926 gs_62 g_9 g_927 hd_X7_bad (Nat.le_of_ble_eq_true rfl) (ci := 7) rfl (inM kd_176 rfl) (shp7 kd_176) hx hb hml hown hg hK hW (As := []) (c_X7_bad l G M hx9) (by decide) rfl hl.1 rfl (Nat.le_of_ble_eq_true rfl) dX7_forget_13) hW (fun H locs hW => ?_)
    obtain ⟨rfl, rfl⟩ := sp2 hk
    exact hret _ _ _ _ hW dX7_forget_16
def f_X7_heavyHigh (a1 : Int32) (a2 : Int32) (a3 : Int32) (a4 : Int32) (M : Mem) : Option (Int32) :=
  ob (f_X7_limbOf a1 (0 : Int32) M) (fun x1 =>
  ob (f_X7_limbOf a1 (1 : Int32) M) (fun x2 =>
  some (f_X7_comesTo x1 (a3 - (f_X7_drops x2 a2 a4 (0 : Int32))) (0 : Int32))))
set_option maxHeartbeats 4000000 in
set_option maxRecDepth 100000 in
theorem c_X7_heavyHigh (l : Launch) (G : GT) (a1 : Int32) (a2 : Int32) (a3 : Int32) (a4 : Int32) (M : Mem) {r : Int32} (hk : f_X7_heavyHigh a1 a2 a3 a4 M = some r) : CMi l G false yX7_heavyHigh cX7_heavyHigh 5 (some .int) 1 [.ref (ad G 176), .int a1, .int a2, .int a3, .int a4] M r M := by
  unfold f_X7_heavyHigh at hk
  refine CMi.of (by decide) (Nat.le_of_ble_eq_true rfl) ?_
  intro p e s m args below meth c Q hx hb hml hown hg hK hW hret ls hl
  have hl : lv_has ls 5 [(0, .ref (ad G 176)), (1, .int a1), (2, .int a2), (3, .int a3), (4, .int a4)] := hl
  refine lv_aload_n hx hb dX7_heavyHigh_0 rfl (lv_at hl 0 rfl) ?_
  refine lv_iload_n hx hb dX7_heavyHigh_1 rfl (lv_at hl 1 rfl) ?_
  refine lv_iconst (v := (0 : Int32)) hx hb dX7_heavyHigh_2 (by decide) ?_
  replace hk := ob_s hk
  obtain ⟨x1, hx1, hk⟩ := hk
  refine cl_i (rn_V g_1029 g_1031 gs_77 g_9 g_1032 hd_X7_limbOf (Nat.le_of_ble_eq_true rfl) (ci := 7) rfl (inM kd_176 rfl) (shp7 kd_176) hx hb hml hown hg hK hW (As := [.int a1, .int (0 : Int32)]) (c_X7_limbOf l G a1 (0 : Int32) M hx1) (by decide) rfl hl.1 rfl (Nat.le_of_ble_eq_true rfl) dX7_heavyHigh_3) hW (fun H locs hW => ?_)
  refine lv_iload_n hx hb dX7_heavyHigh_6 rfl (lv_at hl 3 rfl) ?_
  refine lv_aload_n hx hb dX7_heavyHigh_7 rfl (lv_at hl 0 rfl) ?_
  refine lv_iload_n hx hb dX7_heavyHigh_8 rfl (lv_at hl 1 rfl) ?_
  refine lv_iconst (v := (1 : Int32)) hx hb dX7_heavyHigh_9 (by decide) ?_
  replace hk := ob_s hk
  obtain ⟨x2, hx2, hk⟩ := hk
  refine cl_i (rn_V g_1029 g_1031 gs_77 g_9 g_1032 hd_X7_limbOf (Nat.le_of_ble_eq_true rfl) (ci := 7) rfl (inM kd_176 rfl) (shp7 kd_176) hx hb hml hown hg hK hW (As := [.int a1, .int (1 : Int32)]) (c_X7_limbOf l G a1 (1 : Int32) M hx2) (by decide) rfl hl.1 rfl (Nat.le_of_ble_eq_true rfl) dX7_heavyHigh_10) hW (fun H locs hW => ?_)
  refine lv_iload_n hx hb dX7_heavyHigh_13 rfl (lv_at hl 2 rfl) ?_
  refine lv_iload hx hb dX7_heavyHigh_14 (lv_at hl 4 rfl) ?_
  refine lv_iconst (v := (0 : Int32)) hx hb dX7_heavyHigh_16 (by decide) ?_
  refine cl_i (rn_S g_1082 g_1083 g_9 g_1084 hd_X7_drops (Nat.le_of_ble_eq_true rfl) hx hb hml hown hg hK hW (As := [.int x2, .int a2, .int a4, .int (0 : Int32)]) (c_X7_drops l G x2 a2 a4 (0 : Int32) M) (by decide) rfl hl.1 rfl (Nat.le_of_ble_eq_true rfl) dX7_heavyHigh_17) hW (fun H locs hW => ?_)
  refine lv_isub hx hb dX7_heavyHigh_20 ?_
  refine lv_iconst (v := (0 : Int32)) hx hb dX7_heavyHigh_21 (by decide) ?_
  refine cl_i (rn_S g_1085 g_1086 g_9 g_1087 hd_X7_comesTo (Nat.le_of_ble_eq_true rfl) hx hb hml hown hg hK hW (As := [.int x1, .int (a3 - (f_X7_drops x2 a2 a4 (0 : Int32))), .int (0 : Int32)]) (c_X7_comesTo l G x1 (a3 - (f_X7_drops x2 a2 a4 (0 : Int32))) (0 : Int32) M) (by decide) rfl hl.1 rfl (Nat.le_of_ble_eq_true rfl) dX7_heavyHigh_22) hW (fun H locs hW => ?_)
  obtain rfl := Option.some.inj hk
  exact hret _ _ _ _ hW dX7_heavyHigh_25
def f_X7_weights_L16 (a1 : Int32) (M : Mem) (x2 : Int32) : Nat → Int32 → Int32 → Option (Int32)
  | 0, _, _ => none
  | n + 1, x4, x5 =>
    ob (rd M 177 (70 : Int32)) (fun x7 =>
    if x7 ≤ x5 then (
      some x4)
    else (
      lq ((71 : Int32) + ((4 : Int32) * x5)) (fun x8 =>
      ob (
        if x4 = (0 : Int32) then (
          some (0 : Int32))
        else (
          ob (rd M 177 x8) (fun x9 =>
          if x9 = a1 then (
            ob (rd M 177 (x8 + (1 : Int32))) (fun x10 =>
            ob (rd M 177 (x8 + (2 : Int32))) (fun x11 =>
            ob (f_X7_heavyHigh a1 x10 x11 x2 M) (fun x12 =>
            ob (rd M 177 (x8 + (3 : Int32))) (fun x13 =>
            if x12 = x13 then (
              some (1 : Int32))
            else (
              some (0 : Int32)))))))
          else (
            some (1 : Int32)))))
       (fun x17 =>
      lq (x5 + (1 : Int32)) (fun x18 =>
      f_X7_weights_L16 a1 M x2 n x17 x18)))))
def f_X7_weights_L4 (a1 : Int32) (M : Mem) : Nat → Int32 → Int32 → Option (Int32)
  | 0, _, _ => none
  | n + 1, x1, x2 =>
    if (10 : Int32) ≤ x2 then (
      some x1)
    else (
      ob (f_X7_weights_L16 a1 M x2 FU (1 : Int32) (0 : Int32)) (fun x6 =>
      lq (
        if x6 = (0 : Int32) then (
          (0 : Int32))
        else (
          ((1 : Int32) <<< (x2 &&& 31))))
       (fun x23 =>
      lq (x1 ||| x23) (fun x24 =>
      lq (x2 + (1 : Int32)) (fun x25 =>
      f_X7_weights_L4 a1 M n x24 x25)))))
def f_X7_weights (a1 : Int32) (M : Mem) : Option (Int32) :=
  ob (f_X7_weights_L4 a1 M FU (0 : Int32) (1 : Int32)) (fun x3 =>
  some x3)
set_option maxHeartbeats 4000000 in
set_option maxRecDepth 100000 in
theorem c_X7_weights (l : Launch) (G : GT) (a1 : Int32) (M : Mem) {r : Int32} (hk : f_X7_weights a1 M = some r) : CMi l G false yX7_weights cX7_weights 7 (some .int) 2 [.ref (ad G 176), .int a1] M r M := by
  unfold f_X7_weights at hk
  refine CMi.of (by decide) (Nat.le_of_ble_eq_true rfl) ?_
  intro p e s m args below meth c Q hx hb hml hown hg hK hW hret ls hl
  have hl : lv_has ls 7 [(0, .ref (ad G 176)), (1, .int a1)] := hl
  refine lv_iconst (v := (0 : Int32)) hx hb dX7_weights_0 (by decide) ?_
  refine lv_istore_n (lv' := [(2, .int (0 : Int32)), (0, .ref (ad G 176)), (1, .int a1)]) hx hb dX7_weights_1 rfl hl (by decide) rfl (fun ls hl => ?_)
  refine lv_iconst (v := (1 : Int32)) hx hb dX7_weights_2 (by decide) ?_
  refine lv_istore_n (lv' := [(3, .int (1 : Int32)), (2, .int (0 : Int32)), (0, .ref (ad G 176)), (1, .int a1)]) hx hb dX7_weights_3 rfl hl (by decide) rfl (fun ls hl => ?_)
  replace hk := ob_s hk
  obtain ⟨x3, hz31, hk⟩ := hk
  have KX4 : ∀ (H : Heap) (locs : List Loc) (ls : Array Slot), Ws G false M s H locs → lv_has ls 7 [(2, .int x3)] → Wx p l e 2 s m args below meth c Q H locs 123 ls [] := by
    intro H locs ls hW hl
    refine lv_iload_n hx hb dX7_weights_123 rfl (lv_at hl 0 rfl) ?_
    obtain rfl := Option.some.inj hk
    exact hret _ _ _ _ hW dX7_weights_124
  clear hk
  have LH4 : ∀ (n : Nat) (x1 : Int32) (x2 : Int32) (H : Heap) (locs : List Loc) (ls : Array Slot), f_X7_weights_L4 a1 M n x1 x2 = some x3 → Ws G false M s H locs → lv_has ls 7 [(0, .ref (ad G 176)), (1, .int a1), (2, .int x1), (3, .int x2)] → Wx p l e 2 s m args below meth c Q H locs 4 ls [] := by
    clear hz31
    intro n
    induction n with
    | zero => intro _ _ _ _ _ hk; cases hk
    | succ n ih4 =>
      intro x1 x2 H locs ls hk hW hl
      rw [f_X7_weights_L4.eq_2] at hk
      refine lv_iload_n hx hb dX7_weights_4 rfl (lv_at hl 3 rfl) ?_
      refine lv_bipush (v := (10 : Int32)) hx hb dX7_weights_5 (by decide) ?_
      refine lv_icmp_ge (tgt := 123) hx hb dX7_weights_7 (by decide) (fun c30 => ?_) (fun c30 => ?_)
      · replace hk := ite_t hk c30
        obtain rfl := Option.some.inj hk
        exact KX4 _ _ _ hW (lv_sub hl [2] rfl)
      · replace hk := ite_f hk c30
        refine lv_iconst (v := (1 : Int32)) hx hb dX7_weights_10 (by decide) ?_
        refine lv_istore (lv' := [(4, .int (1 : Int32)), (0, .ref (ad G 176)), (1, .int a1), (2, .int x1), (3, .int x2)]) hx hb dX7_weights_11 hl (by decide) rfl (fun ls hl => ?_)
        refine lv_iconst (v := (0 : Int32)) hx hb dX7_weights_13 (by decide) ?_
        refine lv_istore (lv' := [(5, .int (0 : Int32)), (4, .int (1 : Int32)), (0, .ref (ad G 176)), (1, .int a1), (2, .int x1), (3, .int x2)]) hx hb dX7_weights_14 hl (by decide) rfl (fun ls hl => ?_)
        replace hk := ob_s hk
        obtain ⟨x6, hz28, hk⟩ := hk
        have KX16 : ∀ (H : Heap) (locs : List Loc) (ls : Array Slot), Ws G false M s H locs → lv_has ls 7 [(0, .ref (ad G 176)), (1, .int a1), (2, .int x1), (3, .int x2), (4, .int x6)] → Wx p l e 2 s m args below meth c Q H locs 102 ls [] := by
          intro H locs ls hW hl
          refine lv_iload_n hx hb dX7_weights_102 rfl (lv_at hl 2 rfl) ?_
          refine lv_iload hx hb dX7_weights_103 (lv_at hl 4 rfl) ?_
          replace hk := lq_s hk
          obtain ⟨x23, hr27, hk⟩ := hk
          have KJ26 : ∀ (H : Heap) (locs : List Loc) (ls : Array Slot), Ws G false M s H locs → lv_has ls 7 [(0, .ref (ad G 176)), (1, .int a1), (3, .int x2)] → Wx p l e 2 s m args below meth c Q H locs 115 ls [.int x23, .int x1] := by
            intro H locs ls hW hl
            refine lv_ior hx hb dX7_weights_115 ?_
            replace hk := lq_s hk
            obtain ⟨x24, ex24, hk⟩ := hk
            refine nm_i ex24 ?_
            refine lv_istore_n (lv' := [(2, .int x24), (0, .ref (ad G 176)), (1, .int a1), (3, .int x2)]) hx hb dX7_weights_116 rfl hl (by decide) rfl (fun ls hl => ?_)
            replace hk := lq_s hk
            obtain ⟨x25, ex25, hk⟩ := hk
            refine lv_iinc (v := x25) (lv' := [(3, .int x25), (2, .int x24), (0, .ref (ad G 176)), (1, .int a1)]) hx hb dX7_weights_117 hl (k := 3) rfl (by rw [ex25]; rfl) (by decide) rfl (fun ls hl => ?_)
            refine lv_goto (tgt := 4) hx hb dX7_weights_120 (by decide) ?_
            exact ih4 _ _ _ _ _ hk hW (lv_sub hl [2, 3, 1, 0] rfl)
          clear hk
          have hk := hr27.symm
          clear hr27
          refine lv_if_eq (tgt := 114) hx hb dX7_weights_105 (by decide) (fun c22 => ?_) (fun c22 => ?_)
          · replace hk := ite_t hk c22
            refine lv_iconst (v := (0 : Int32)) hx hb dX7_weights_114 (by decide) ?_
            subst hk
            exact KJ26 _ _ _ hW (lv_sub hl [0, 1, 3] rfl)
          · replace hk := ite_f hk c22
            refine lv_iconst (v := (1 : Int32)) hx hb dX7_weights_108 (by decide) ?_
            refine lv_iload_n hx hb dX7_weights_109 rfl (lv_at hl 3 rfl) ?_
            refine lv_ishl hx hb dX7_weights_110 ?_
            refine lv_goto (tgt := 115) hx hb dX7_weights_111 (by decide) ?_
            subst hk
            exact KJ26 _ _ _ hW (lv_sub hl [0, 1, 3] rfl)
        clear hk
        have LH16 : ∀ (n : Nat) (x4 : Int32) (x5 : Int32) (H : Heap) (locs : List Loc) (ls : Array Slot), f_X7_weights_L16 a1 M x2 n x4 x5 = some x6 → Ws G false M s H locs → lv_has ls 7 [(0, .ref (ad G 176)), (1, .int a1), (2, .int x1), (3, .int x2), (4, .int x4), (5, .int x5)] → Wx p l e 2 s m args below meth c Q H locs 16 ls [] := by
          clear hz28
          intro n
          induction n with
          | zero => intro _ _ _ _ _ hk; cases hk
          | succ n ih16 =>
            intro x4 x5 H locs ls hk hW hl
            rw [f_X7_weights_L16.eq_2] at hk
            refine lv_iload hx hb dX7_weights_16 (lv_at hl 5 rfl) ?_
            refine lv_aload_n hx hb dX7_weights_18 rfl (lv_at hl 0 rfl) ?_
            refine gt_X7_7 hx hb hg hown hK hW kd_176 dX7_weights_19 ?_
            refine lv_bipush (v := (70 : Int32)) hx hb dX7_weights_22 (by decide) ?_
            replace hk := ob_s hk
            obtain ⟨x7, hx7, hk⟩ := hk
            obtain ⟨hx7, ex7⟩ := rd_s hx7
            refine w_ald hx hb hK hW (inM kd_177 rfl) (shp10 kd_177) hx7 ex7 dX7_weights_24 ?_
            refine lv_icmp_ge (tgt := 102) hx hb dX7_weights_25 (by decide) (fun c21 => ?_) (fun c21 => ?_)
            · replace hk := ite_t hk c21
              obtain rfl := Option.some.inj hk
              exact KX16 _ _ _ hW (lv_sub hl [0, 1, 2, 3, 4] rfl)
            · replace hk := ite_f hk c21
              refine lv_bipush (v := (71 : Int32)) hx hb dX7_weights_28 (by decide) ?_
              refine lv_iconst (v := (4 : Int32)) hx hb dX7_weights_30 (by decide) ?_
              refine lv_iload hx hb dX7_weights_31 (lv_at hl 5 rfl) ?_
              refine lv_imul hx hb dX7_weights_33 ?_
              refine lv_iadd hx hb dX7_weights_34 ?_
              replace hk := lq_s hk
              obtain ⟨x8, ex8, hk⟩ := hk
              refine nm_i ex8 ?_
              refine lv_istore (lv' := [(6, .int x8), (0, .ref (ad G 176)), (1, .int a1), (2, .int x1), (3, .int x2), (4, .int x4), (5, .int x5)]) hx hb dX7_weights_35 hl (by decide) rfl (fun ls hl => ?_)
              refine lv_iload hx hb dX7_weights_37 (lv_at hl 5 rfl) ?_
              replace hk := ob_s hk
              obtain ⟨x17, hr20, hk⟩ := hk
              have KJ19 : ∀ (H : Heap) (locs : List Loc) (ls : Array Slot), Ws G false M s H locs → lv_has ls 7 [(0, .ref (ad G 176)), (1, .int a1), (2, .int x1), (3, .int x2), (5, .int x5)] → Wx p l e 2 s m args below meth c Q H locs 94 ls [.int x17] := by
                intro H locs ls hW hl
                refine lv_istore (lv' := [(4, .int x17), (0, .ref (ad G 176)), (1, .int a1), (2, .int x1), (3, .int x2), (5, .int x5)]) hx hb dX7_weights_94 hl (by decide) rfl (fun ls hl => ?_)
                replace hk := lq_s hk
                obtain ⟨x18, ex18, hk⟩ := hk
                refine lv_iinc (v := x18) (lv' := [(5, .int x18), (4, .int x17), (0, .ref (ad G 176)), (1, .int a1), (2, .int x1), (3, .int x2)]) hx hb dX7_weights_96 hl (k := 5) rfl (by rw [ex18]; rfl) (by decide) rfl (fun ls hl => ?_)
                refine lv_goto (tgt := 16) hx hb dX7_weights_99 (by decide) ?_
                exact ih16 _ _ _ _ _ hk hW (lv_sub hl [2, 3, 4, 5, 1, 0] rfl)
              clear hk
              have hk := hr20
              clear hr20
              refine lv_if_eq (tgt := 93) hx hb dX7_weights_39 (by decide) (fun c16 => ?_) (fun c16 => ?_)
              · replace hk := ite_t hk c16
                refine lv_iconst (v := (0 : Int32)) hx hb dX7_weights_93 (by decide) ?_
                obtain rfl := Option.some.inj hk
                exact KJ19 _ _ _ hW (lv_sub hl [1, 2, 3, 4, 6] rfl)
              · replace hk := ite_f hk c16
                refine lv_aload_n hx hb dX7_weights_42 rfl (lv_at hl 1 rfl) ?_
                refine gt_X7_7 hx hb hg hown hK hW kd_176 dX7_weights_43 ?_
                refine lv_iload hx hb dX7_weights_46 (lv_at hl 0 rfl) ?_
                replace hk := ob_s hk
                obtain ⟨x9, hx9, hk⟩ := hk
                obtain ⟨hx9, ex9⟩ := rd_s hx9
                refine w_ald hx hb hK hW (inM kd_177 rfl) (shp10 kd_177) hx9 ex9 dX7_weights_48 ?_
                refine lv_iload_n hx hb dX7_weights_49 rfl (lv_at hl 2 rfl) ?_
                refine lv_icmp_ne (tgt := 89) hx hb dX7_weights_50 (by decide) (fun c15 => ?_) (fun c15 => ?_)
                · replace hk := ite_f hk c15
                  refine lv_iconst (v := (1 : Int32)) hx hb dX7_weights_89 (by decide) ?_
                  refine lv_goto (tgt := 94) hx hb dX7_weights_90 (by decide) ?_
                  obtain rfl := Option.some.inj hk
                  exact KJ19 _ _ _ hW (lv_sub hl [1, 2, 3, 4, 6] rfl)
                · replace hk := ite_t hk c15
                  refine lv_aload_n hx hb dX7_weights_53 rfl (lv_at hl 1 rfl) ?_
                  refine lv_iload_n hx hb dX7_weights_54 rfl (lv_at hl 2 rfl) ?_
                  refine lv_aload_n hx hb dX7_weights_55 rfl (lv_at hl 1 rfl) ?_
                  refine gt_X7_7 hx hb hg hown hK hW kd_176 dX7_weights_56 ?_
                  refine lv_iload hx hb dX7_weights_59 (lv_at hl 0 rfl) ?_
                  refine lv_iconst (v := (1 : Int32)) hx hb dX7_weights_61 (by decide) ?_
                  refine lv_iadd hx hb dX7_weights_62 ?_
                  replace hk := ob_s hk
                  obtain ⟨x10, hx10, hk⟩ := hk
                  obtain ⟨hx10, ex10⟩ := rd_s hx10
                  refine w_ald hx hb hK hW (inM kd_177 rfl) (shp10 kd_177) hx10 ex10 dX7_weights_63 ?_
                  refine lv_aload_n hx hb dX7_weights_64 rfl (lv_at hl 1 rfl) ?_
                  refine gt_X7_7 hx hb hg hown hK hW kd_176 dX7_weights_65 ?_
                  refine lv_iload hx hb dX7_weights_68 (lv_at hl 0 rfl) ?_
                  refine lv_iconst (v := (2 : Int32)) hx hb dX7_weights_70 (by decide) ?_
                  refine lv_iadd hx hb dX7_weights_71 ?_
                  replace hk := ob_s hk
                  obtain ⟨x11, hx11, hk⟩ := hk
                  obtain ⟨hx11, ex11⟩ := rd_s hx11
                  refine w_ald hx hb hK hW (inM kd_177 rfl) (shp10 kd_177) hx11 ex11 dX7_weights_72 ?_
                  refine lv_iload_n hx hb dX7_weights_73 rfl (lv_at hl 4 rfl) ?_
                  replace hk := ob_s hk
                  obtain ⟨x12, hx12, hk⟩ := hk
                  refine cl_i (rn_V g_1184 g_1186 gs_93 g_9 g_1187 hd_X7_heavyHigh (Nat.le_of_ble_eq_true rfl) (ci := 7) rfl (inM kd_176 rfl) (shp7 kd_176) hx hb hml hown hg hK hW (As := [.int a1, .int x10, .int x11, .int x2]) (c_X7_heavyHigh l G a1 x10 x11 x2 M hx12) (by decide) rfl hl.1 rfl (Nat.le_of_ble_eq_true rfl) dX7_weights_74) hW (fun H locs hW => ?_)
                  refine lv_aload_n hx hb dX7_weights_77 rfl (lv_at hl 1 rfl) ?_
                  refine gt_X7_7 hx hb hg hown hK hW kd_176 dX7_weights_78 ?_
                  refine lv_iload hx hb dX7_weights_81 (lv_at hl 0 rfl) ?_
                  refine lv_iconst (v := (3 : Int32)) hx hb dX7_weights_83 (by decide) ?_
                  refine lv_iadd hx hb dX7_weights_84 ?_
                  replace hk := ob_s hk
                  obtain ⟨x13, hx13, hk⟩ := hk
                  obtain ⟨hx13, ex13⟩ := rd_s hx13
                  refine w_ald hx hb hK hW (inM kd_177 rfl) (shp10 kd_177) hx13 ex13 dX7_weights_85 ?_
                  refine lv_icmp_ne (tgt := 93) hx hb dX7_weights_86 (by decide) (fun c14 => ?_) (fun c14 => ?_)
                  · replace hk := ite_f hk c14
                    refine lv_iconst (v := (0 : Int32)) hx hb dX7_weights_93 (by decide) ?_
                    obtain rfl := Option.some.inj hk
                    exact KJ19 _ _ _ hW (lv_sub hl [1, 2, 3, 4, 6] rfl)
                  · replace hk := ite_t hk c14
                    refine lv_iconst (v := (1 : Int32)) hx hb dX7_weights_89 (by decide) ?_
                    refine lv_goto (tgt := 94) hx hb dX7_weights_90 (by decide) ?_
                    obtain rfl := Option.some.inj hk
                    exact KJ19 _ _ _ hW (lv_sub hl [1, 2, 3, 4, 6] rfl)
        exact LH16 FU _ _ _ _ _ hz28 hW (lv_sub hl [2, 3, 4, 5, 1, 0] rfl)
  exact LH4 FU _ _ _ _ _ hz31 hW (lv_sub hl [2, 3, 1, 0] rfl)
def f_X7_heavy_L47 (x5 : Int32) : Nat → Int32 → Int32 → Int32 → Int32 → Option (Int32 × Int32 × Int32)
  | 0, _, _, _, _ => none
  | n + 1, x6, x7, x8, x9 =>
    if (10 : Int32) ≤ x9 then (
      some (x6, x7, x8))
    else (
      lq (
        if ((x5 >>> (x9 &&& 31)) &&& (1 : Int32)) = (1 : Int32) then (
          (1 : Int32))
        else (
          (0 : Int32)))
       (fun x14 =>
      lq (
        if x14 = (0 : Int32) then (
          x7)
        else (
          if x6 = (0 : Int32) then (
            x9)
          else (
            x7)))
       (fun x17 =>
      lq (
        if x14 = (0 : Int32) then (
          x8)
        else (
          x9))
       (fun x19 =>
      lq (
        if x14 = (0 : Int32) then (
          (0 : Int32))
        else (
          (1 : Int32)))
       (fun x21 =>
      lq (x6 + x21) (fun x22 =>
      lq (x9 + (1 : Int32)) (fun x23 =>
      f_X7_heavy_L47 x5 n x22 x17 x19 x23)))))))
def f_X7_heavy (a1 : Int32) (a2 : Int32) (M : Mem) : Option (Int32 × Mem) :=
  ob (f_X7_isLimb a1 M) (fun x1 =>
  if x1 = (0 : Int32) then (
    ob2 (f_X7_bad M) (fun x2 M3 =>
    some (x2, M3)))
  else (
    if (f_X7_in a2.toInt64 (0 : Int64) (2 : Int64)) = (0 : Int32) then (
      ob2 (f_X7_bad M) (fun x37 M38 =>
      some (x37, M38)))
    else (
      ob (f_X7_weights a1 M) (fun x5 =>
      ob3 (f_X7_heavy_L47 x5 FU (0 : Int32) ((-1001) : Int32) ((-1001) : Int32) (1 : Int32)) (fun x10 x11 x12 =>
      if a2 = (0 : Int32) then (
        some (x10, M))
      else (
        if a2 = (1 : Int32) then (
          some (x11, M))
        else (
          some (x12, M))))))))
set_option maxHeartbeats 4000000 in
set_option maxRecDepth 100000 in
theorem c_X7_heavy (l : Launch) (G : GT) (a1 : Int32) (a2 : Int32) (M : Mem) {r : Int32} {M' : Mem} (hk : f_X7_heavy a1 a2 M = some (r, M')) : CMi l G false yX7_heavy cX7_heavy 9 (some .int) 3 [.ref (ad G 176), .int a1, .int a2] M r M' := by
  unfold f_X7_heavy at hk
  refine CMi.of (by decide) (Nat.le_of_ble_eq_true rfl) ?_
  intro p e s m args below meth c Q hx hb hml hown hg hK hW hret ls hl
  have hl : lv_has ls 9 [(0, .ref (ad G 176)), (1, .int a1), (2, .int a2)] := hl
  refine lv_aload_n hx hb dX7_heavy_0 rfl (lv_at hl 0 rfl) ?_
  refine lv_iload_n hx hb dX7_heavy_1 rfl (lv_at hl 1 rfl) ?_
  replace hk := ob_s hk
  obtain ⟨x1, hx1, hk⟩ := hk
  refine cl_i (rn_V g_1033 g_1035 gs_78 g_9 g_1036 hd_X7_isLimb (Nat.le_of_ble_eq_true rfl) (ci := 7) rfl (inM kd_176 rfl) (shp7 kd_176) hx hb hml hown hg hK hW (As := [.int a1]) (c_X7_isLimb l G a1 M hx1) (by decide) rfl hl.1 rfl (Nat.le_of_ble_eq_true rfl) dX7_heavy_2) hW (fun H locs hW => ?_)
  refine lv_if_eq (tgt := 20) hx hb dX7_heavy_5 (by decide) (fun c40 => ?_) (fun c40 => ?_)
  · replace hk := ite_t hk c40
    refine lv_aload_n hx hb dX7_heavy_20 rfl (lv_at hl 0 rfl) ?_
    replace hk := ob2_s hk
    obtain ⟨x2, M3, hx2, hk⟩ := hk
    refine cl_i (rn_V g_924 g_926 gs_62 g_9 g_927 hd_X7_bad (Nat.le_of_ble_eq_true rfl) (ci := 7) rfl (inM kd_176 rfl) (shp7 kd_176) hx hb hml hown hg hK hW (As := []) (c_X7_bad l G M hx2) (by decide) rfl hl.1 rfl (Nat.le_of_ble_eq_true rfl) dX7_heavy_21) hW (fun H locs hW => ?_)
    obtain ⟨rfl, rfl⟩ := sp2 hk
    exact hret _ _ _ _ hW dX7_heavy_24
  · replace hk := ite_f hk c40
    refine lv_iload_n hx hb dX7_heavy_8 rfl (lv_at hl 2 rfl) ?_
    refine lv_i2l hx hb dX7_heavy_9 rfl ?_
    refine lv_lconst (v := (0 : Int64)) hx hb dX7_heavy_10 (by decide) ?_
    refine lv_ldc2 hx hb hown (hg _ g_1175) dX7_heavy_11 ?_
    refine cl_i (rn_S g_921 g_922 g_9 g_923 hd_X7_in (Nat.le_of_ble_eq_true rfl) hx hb hml hown hg hK hW (As := [.long a2.toInt64, .long (0 : Int64), .long (2 : Int64)]) (c_X7_in l G a2.toInt64 (0 : Int64) (2 : Int64) M) (by decide) rfl hl.1 rfl (Nat.le_of_ble_eq_true rfl) dX7_heavy_14) hW (fun H locs hW => ?_)
    refine lv_if_ne (tgt := 25) hx hb dX7_heavy_17 (by decide) (fun c39 => ?_) (fun c39 => ?_)
    · replace hk := ite_f hk c39
      refine lv_aload_n hx hb dX7_heavy_25 rfl (lv_at hl 0 rfl) ?_
      refine lv_iload_n hx hb dX7_heavy_26 rfl (lv_at hl 1 rfl) ?_
      replace hk := ob_s hk
      obtain ⟨x5, hx5, hk⟩ := hk
      refine cl_i (rn_V g_1180 g_1182 gs_92 g_9 g_1183 hd_X7_weights (Nat.le_of_ble_eq_true rfl) (ci := 7) rfl (inM kd_176 rfl) (shp7 kd_176) hx hb hml hown hg hK hW (As := [.int a1]) (c_X7_weights l G a1 M hx5) (by decide) rfl hl.1 rfl (Nat.le_of_ble_eq_true rfl) dX7_heavy_27) hW (fun H locs hW => ?_)
      refine lv_istore_n (lv' := [(3, .int x5), (0, .ref (ad G 176)), (1, .int a1), (2, .int a2)]) hx hb dX7_heavy_30 rfl hl (by decide) rfl (fun ls hl => ?_)
      refine lv_iconst (v := (0 : Int32)) hx hb dX7_heavy_31 (by decide) ?_
      refine lv_istore (lv' := [(4, .int (0 : Int32)), (3, .int x5), (0, .ref (ad G 176)), (1, .int a1), (2, .int a2)]) hx hb dX7_heavy_32 hl (by decide) rfl (fun ls hl => ?_)
      refine lv_sipush (v := ((-1001) : Int32)) hx hb dX7_heavy_34 (by decide) ?_
      refine lv_istore (lv' := [(5, .int ((-1001) : Int32)), (4, .int (0 : Int32)), (3, .int x5), (0, .ref (ad G 176)), (1, .int a1), (2, .int a2)]) hx hb dX7_heavy_37 hl (by decide) rfl (fun ls hl => ?_)
      refine lv_sipush (v := ((-1001) : Int32)) hx hb dX7_heavy_39 (by decide) ?_
      refine lv_istore (lv' := [(6, .int ((-1001) : Int32)), (5, .int ((-1001) : Int32)), (4, .int (0 : Int32)), (3, .int x5), (0, .ref (ad G 176)), (1, .int a1), (2, .int a2)]) hx hb dX7_heavy_42 hl (by decide) rfl (fun ls hl => ?_)
      refine lv_iconst (v := (1 : Int32)) hx hb dX7_heavy_44 (by decide) ?_
      refine lv_istore (lv' := [(7, .int (1 : Int32)), (6, .int ((-1001) : Int32)), (5, .int ((-1001) : Int32)), (4, .int (0 : Int32)), (3, .int x5), (0, .ref (ad G 176)), (1, .int a1), (2, .int a2)]) hx hb dX7_heavy_45 hl (by decide) rfl (fun ls hl => ?_)
      replace hk := ob3_s hk
      obtain ⟨x10, x11, x12, hz35, hk⟩ := hk
      have KX47 : ∀ (H : Heap) (locs : List Loc) (ls : Array Slot), Ws G false M s H locs → lv_has ls 9 [(2, .int a2), (4, .int x10), (5, .int x11), (6, .int x12)] → Wx p l e 3 s m args below meth c Q H locs 125 ls [] := by
        intro H locs ls hW hl
        refine lv_iload_n hx hb dX7_heavy_125 rfl (lv_at hl 0 rfl) ?_
        refine lv_if_ne (tgt := 134) hx hb dX7_heavy_126 (by decide) (fun c34 => ?_) (fun c34 => ?_)
        · replace hk := ite_f hk c34
          refine lv_iload_n hx hb dX7_heavy_134 rfl (lv_at hl 0 rfl) ?_
          refine lv_iconst (v := (1 : Int32)) hx hb dX7_heavy_135 (by decide) ?_
          refine lv_icmp_ne (tgt := 144) hx hb dX7_heavy_136 (by decide) (fun c33 => ?_) (fun c33 => ?_)
          · replace hk := ite_f hk c33
            refine lv_iload hx hb dX7_heavy_144 (lv_at hl 3 rfl) ?_
            obtain ⟨rfl, rfl⟩ := sp2 hk
            exact hret _ _ _ _ hW dX7_heavy_146
          · replace hk := ite_t hk c33
            refine lv_iload hx hb dX7_heavy_139 (lv_at hl 2 rfl) ?_
            refine lv_goto (tgt := 146) hx hb dX7_heavy_141 (by decide) ?_
            obtain ⟨rfl, rfl⟩ := sp2 hk
            exact hret _ _ _ _ hW dX7_heavy_146
        · replace hk := ite_t hk c34
          refine lv_iload hx hb dX7_heavy_129 (lv_at hl 1 rfl) ?_
          refine lv_goto (tgt := 146) hx hb dX7_heavy_131 (by decide) ?_
          obtain ⟨rfl, rfl⟩ := sp2 hk
          exact hret _ _ _ _ hW dX7_heavy_146
      clear hk
      have LH47 : ∀ (n : Nat) (x6 : Int32) (x7 : Int32) (x8 : Int32) (x9 : Int32) (H : Heap) (locs : List Loc) (ls : Array Slot), f_X7_heavy_L47 x5 n x6 x7 x8 x9 = some (x10, x11, x12) → Ws G false M s H locs → lv_has ls 9 [(2, .int a2), (3, .int x5), (4, .int x6), (5, .int x7), (6, .int x8), (7, .int x9)] → Wx p l e 3 s m args below meth c Q H locs 47 ls [] := by
        clear hz35
        intro n
        induction n with
        | zero => intro _ _ _ _ _ _ _ hk; cases hk
        | succ n ih47 =>
          intro x6 x7 x8 x9 H locs ls hk hW hl
          rw [f_X7_heavy_L47.eq_2] at hk
          refine lv_iload hx hb dX7_heavy_47 (lv_at hl 5 rfl) ?_
          refine lv_bipush (v := (10 : Int32)) hx hb dX7_heavy_49 (by decide) ?_
          refine lv_icmp_ge (tgt := 125) hx hb dX7_heavy_51 (by decide) (fun c32 => ?_) (fun c32 => ?_)
          · replace hk := ite_t hk c32
            obtain ⟨rfl, rfl, rfl⟩ := sp3 hk
            exact KX47 _ _ _ hW (lv_sub hl [0, 2, 3, 4] rfl)
          · replace hk := ite_f hk c32
            refine lv_iload_n hx hb dX7_heavy_54 rfl (lv_at hl 1 rfl) ?_
            refine lv_iload hx hb dX7_heavy_55 (lv_at hl 5 rfl) ?_
            refine lv_ishr hx hb dX7_heavy_57 ?_
            refine lv_iconst (v := (1 : Int32)) hx hb dX7_heavy_58 (by decide) ?_
            refine lv_iand hx hb dX7_heavy_59 ?_
            refine lv_iconst (v := (1 : Int32)) hx hb dX7_heavy_60 (by decide) ?_
            replace hk := lq_s hk
            obtain ⟨x14, hr31, hk⟩ := hk
            have KJ30 : ∀ (H : Heap) (locs : List Loc) (ls : Array Slot), Ws G false M s H locs → lv_has ls 9 [(2, .int a2), (3, .int x5), (4, .int x6), (5, .int x7), (6, .int x8), (7, .int x9)] → Wx p l e 3 s m args below meth c Q H locs 69 ls [.int x14] := by
              intro H locs ls hW hl
              refine lv_istore (lv' := [(8, .int x14), (2, .int a2), (3, .int x5), (4, .int x6), (5, .int x7), (6, .int x8), (7, .int x9)]) hx hb dX7_heavy_69 hl (by decide) rfl (fun ls hl => ?_)
              refine lv_iload hx hb dX7_heavy_71 (lv_at hl 0 rfl) ?_
              replace hk := lq_s hk
              obtain ⟨x17, hr29, hk⟩ := hk
              have KJ28 : ∀ (H : Heap) (locs : List Loc) (ls : Array Slot), Ws G false M s H locs → lv_has ls 9 [(2, .int a2), (3, .int x5), (4, .int x6), (6, .int x8), (7, .int x9), (8, .int x14)] → Wx p l e 3 s m args below meth c Q H locs 88 ls [.int x17] := by
                intro H locs ls hW hl
                refine lv_istore (lv' := [(5, .int x17), (2, .int a2), (3, .int x5), (4, .int x6), (6, .int x8), (7, .int x9), (8, .int x14)]) hx hb dX7_heavy_88 hl (by decide) rfl (fun ls hl => ?_)
                refine lv_iload hx hb dX7_heavy_90 (lv_at hl 6 rfl) ?_
                replace hk := lq_s hk
                obtain ⟨x19, hr27, hk⟩ := hk
                have KJ26 : ∀ (H : Heap) (locs : List Loc) (ls : Array Slot), Ws G false M s H locs → lv_has ls 9 [(2, .int a2), (3, .int x5), (4, .int x6), (5, .int x17), (7, .int x9), (8, .int x14)] → Wx p l e 3 s m args below meth c Q H locs 102 ls [.int x19] := by
                  intro H locs ls hW hl
                  refine lv_istore (lv' := [(6, .int x19), (2, .int a2), (3, .int x5), (4, .int x6), (5, .int x17), (7, .int x9), (8, .int x14)]) hx hb dX7_heavy_102 hl (by decide) rfl (fun ls hl => ?_)
                  refine lv_iload hx hb dX7_heavy_104 (lv_at hl 3 rfl) ?_
                  refine lv_iload hx hb dX7_heavy_106 (lv_at hl 6 rfl) ?_
                  replace hk := lq_s hk
                  obtain ⟨x21, hr25, hk⟩ := hk
                  have KJ24 : ∀ (H : Heap) (locs : List Loc) (ls : Array Slot), Ws G false M s H locs → lv_has ls 9 [(2, .int a2), (3, .int x5), (5, .int x17), (6, .int x19), (7, .int x9)] → Wx p l e 3 s m args below meth c Q H locs 116 ls [.int x21, .int x6] := by
                    intro H locs ls hW hl
                    refine lv_iadd hx hb dX7_heavy_116 ?_
                    replace hk := lq_s hk
                    obtain ⟨x22, ex22, hk⟩ := hk
                    refine nm_i ex22 ?_
                    refine lv_istore (lv' := [(4, .int x22), (2, .int a2), (3, .int x5), (5, .int x17), (6, .int x19), (7, .int x9)]) hx hb dX7_heavy_117 hl (by decide) rfl (fun ls hl => ?_)
                    replace hk := lq_s hk
                    obtain ⟨x23, ex23, hk⟩ := hk
                    refine lv_iinc (v := x23) (lv' := [(7, .int x23), (4, .int x22), (2, .int a2), (3, .int x5), (5, .int x17), (6, .int x19)]) hx hb dX7_heavy_119 hl (k := 5) rfl (by rw [ex23]; rfl) (by decide) rfl (fun ls hl => ?_)
                    refine lv_goto (tgt := 47) hx hb dX7_heavy_122 (by decide) ?_
                    exact ih47 _ _ _ _ _ _ _ hk hW (lv_sub hl [2, 3, 1, 4, 5, 0] rfl)
                  clear hk
                  have hk := hr25.symm
                  clear hr25
                  refine lv_if_eq (tgt := 115) hx hb dX7_heavy_108 (by decide) (fun c20 => ?_) (fun c20 => ?_)
                  · replace hk := ite_t hk c20
                    refine lv_iconst (v := (0 : Int32)) hx hb dX7_heavy_115 (by decide) ?_
                    subst hk
                    exact KJ24 _ _ _ hW (lv_sub hl [1, 2, 4, 0, 5] rfl)
                  · replace hk := ite_f hk c20
                    refine lv_iconst (v := (1 : Int32)) hx hb dX7_heavy_111 (by decide) ?_
                    refine lv_goto (tgt := 116) hx hb dX7_heavy_112 (by decide) ?_
                    subst hk
                    exact KJ24 _ _ _ hW (lv_sub hl [1, 2, 4, 0, 5] rfl)
                clear hk
                have hk := hr27.symm
                clear hr27
                refine lv_if_eq (tgt := 100) hx hb dX7_heavy_92 (by decide) (fun c18 => ?_) (fun c18 => ?_)
                · replace hk := ite_t hk c18
                  refine lv_iload hx hb dX7_heavy_100 (lv_at hl 4 rfl) ?_
                  subst hk
                  exact KJ26 _ _ _ hW (lv_sub hl [1, 2, 3, 0, 5, 6] rfl)
                · replace hk := ite_f hk c18
                  refine lv_iload hx hb dX7_heavy_95 (lv_at hl 5 rfl) ?_
                  refine lv_goto (tgt := 102) hx hb dX7_heavy_97 (by decide) ?_
                  subst hk
                  exact KJ26 _ _ _ hW (lv_sub hl [1, 2, 3, 0, 5, 6] rfl)
              clear hk
              have hk := hr29.symm
              clear hr29
              refine lv_if_eq (tgt := 86) hx hb dX7_heavy_73 (by decide) (fun c16 => ?_) (fun c16 => ?_)
              · replace hk := ite_t hk c16
                refine lv_iload hx hb dX7_heavy_86 (lv_at hl 4 rfl) ?_
                subst hk
                exact KJ28 _ _ _ hW (lv_sub hl [1, 2, 3, 5, 6, 0] rfl)
              · replace hk := ite_f hk c16
                refine lv_iload hx hb dX7_heavy_76 (lv_at hl 3 rfl) ?_
                refine lv_if_ne (tgt := 86) hx hb dX7_heavy_78 (by decide) (fun c15 => ?_) (fun c15 => ?_)
                · replace hk := ite_f hk c15
                  refine lv_iload hx hb dX7_heavy_86 (lv_at hl 4 rfl) ?_
                  subst hk
                  exact KJ28 _ _ _ hW (lv_sub hl [1, 2, 3, 5, 6, 0] rfl)
                · replace hk := ite_t hk c15
                  refine lv_iload hx hb dX7_heavy_81 (lv_at hl 6 rfl) ?_
                  refine lv_goto (tgt := 88) hx hb dX7_heavy_83 (by decide) ?_
                  subst hk
                  exact KJ28 _ _ _ hW (lv_sub hl [1, 2, 3, 5, 6, 0] rfl)
            clear hk
            have hk := hr31.symm
            clear hr31
            refine lv_icmp_ne (tgt := 68) hx hb dX7_heavy_61 (by decide) (fun c13 => ?_) (fun c13 => ?_)
            · replace hk := ite_f hk c13
              refine lv_iconst (v := (0 : Int32)) hx hb dX7_heavy_68 (by decide) ?_
              subst hk
              exact KJ30 _ _ _ hW (lv_sub hl [0, 1, 2, 3, 4, 5] rfl)
            · replace hk := ite_t hk c13
              refine lv_iconst (v := (1 : Int32)) hx hb dX7_heavy_64 (by decide) ?_
              refine lv_goto (tgt := 69) hx hb dX7_heavy_65 (by decide) ?_
              subst hk
              exact KJ30 _ _ _ hW (lv_sub hl [0, 1, 2, 3, 4, 5] rfl)
      exact LH47 FU _ _ _ _ _ _ _ hz35 hW (lv_sub hl [7, 4, 3, 2, 1, 0] rfl)
    · replace hk := ite_t hk c39
      refine lv_aload_n hx hb dX7_heavy_20 rfl (lv_at hl 0 rfl) ?_
      replace hk := ob2_s hk
      obtain ⟨x37, M38, hx37, hk⟩ := hk
      refine cl_i (rn_V g_924 g_926 gs_62 g_9 g_927 hd_X7_bad (Nat.le_of_ble_eq_true rfl) (ci := 7) rfl (inM kd_176 rfl) (shp7 kd_176) hx hb hml hown hg hK hW (As := []) (c_X7_bad l G M hx37) (by decide) rfl hl.1 rfl (Nat.le_of_ble_eq_true rfl) dX7_heavy_21) hW (fun H locs hW => ?_)
      obtain ⟨rfl, rfl⟩ := sp2 hk
      exact hret _ _ _ _ hW dX7_heavy_24
def f_X7_parted_L17 (a1 : Int32) (a2 : Int32) (M : Mem) (x2 : Int32) : Nat → Int32 → Int32 → Option (Int32)
  | 0, _, _ => none
  | n + 1, x4, x5 =>
    if a2 ≤ x5 then (
      some x4)
    else (
      ob (
        if (((a1 >>> (x2 &&& 31)) &&& (a1 >>> (x5 &&& 31))) &&& (1 : Int32)) = (1 : Int32) then (
          ob (rd M 181 x2) (fun x7 =>
          ob (rd M 181 x5) (fun x8 =>
          if x7 = x8 then (
            some (1 : Int32))
          else (
            some (0 : Int32)))))
        else (
          some (0 : Int32)))
       (fun x11 =>
      lq (x4 + x11) (fun x12 =>
      lq (x5 + (1 : Int32)) (fun x13 =>
      f_X7_parted_L17 a1 a2 M x2 n x12 x13))))
def f_X7_parted_L5 (a1 : Int32) (a2 : Int32) (M : Mem) : Nat → Int32 → Int32 → Option (Int32)
  | 0, _, _ => none
  | n + 1, x1, x2 =>
    if a2 ≤ x2 then (
      some x1)
    else (
      ob (f_X7_parted_L17 a1 a2 M x2 FU (0 : Int32) (0 : Int32)) (fun x6 =>
      lq (
        if x6 ≤ x1 then (
          x1)
        else (
          x6))
       (fun x18 =>
      lq (x2 + (1 : Int32)) (fun x19 =>
      f_X7_parted_L5 a1 a2 M n x18 x19))))
def f_X7_parted (a1 : Int32) (a2 : Int32) (M : Mem) : Option (Int32) :=
  ob (f_X7_parted_L5 a1 a2 M FU (0 : Int32) (0 : Int32)) (fun x3 =>
  some x3)
set_option maxHeartbeats 4000000 in
set_option maxRecDepth 100000 in
theorem c_X7_parted (l : Launch) (G : GT) (a1 : Int32) (a2 : Int32) (M : Mem) {r : Int32} (hk : f_X7_parted a1 a2 M = some r) : CMi l G false yX7_parted cX7_parted 7 (some .int) 0 [.ref (ad G 176), .int a1, .int a2] M r M := by
  unfold f_X7_parted at hk
  refine CMi.of (by decide) (Nat.le_of_ble_eq_true rfl) ?_
  intro p e s m args below meth c Q hx hb hml hown hg hK hW hret ls hl
  have hl : lv_has ls 7 [(0, .ref (ad G 176)), (1, .int a1), (2, .int a2)] := hl
  refine lv_iconst (v := (0 : Int32)) hx hb dX7_parted_0 (by decide) ?_
  refine lv_istore_n (lv' := [(3, .int (0 : Int32)), (0, .ref (ad G 176)), (1, .int a1), (2, .int a2)]) hx hb dX7_parted_1 rfl hl (by decide) rfl (fun ls hl => ?_)
  refine lv_iconst (v := (0 : Int32)) hx hb dX7_parted_2 (by decide) ?_
  refine lv_istore (lv' := [(4, .int (0 : Int32)), (3, .int (0 : Int32)), (0, .ref (ad G 176)), (1, .int a1), (2, .int a2)]) hx hb dX7_parted_3 hl (by decide) rfl (fun ls hl => ?_)
  replace hk := ob_s hk
  obtain ⟨x3, hz25, hk⟩ := hk
  have KX5 : ∀ (H : Heap) (locs : List Loc) (ls : Array Slot), Ws G false M s H locs → lv_has ls 7 [(3, .int x3)] → Wx p l e 0 s m args below meth c Q H locs 90 ls [] := by
    intro H locs ls hW hl
    refine lv_iload_n hx hb dX7_parted_90 rfl (lv_at hl 0 rfl) ?_
    obtain rfl := Option.some.inj hk
    exact hret _ _ _ _ hW dX7_parted_91
  clear hk
  have LH5 : ∀ (n : Nat) (x1 : Int32) (x2 : Int32) (H : Heap) (locs : List Loc) (ls : Array Slot), f_X7_parted_L5 a1 a2 M n x1 x2 = some x3 → Ws G false M s H locs → lv_has ls 7 [(0, .ref (ad G 176)), (1, .int a1), (2, .int a2), (3, .int x1), (4, .int x2)] → Wx p l e 0 s m args below meth c Q H locs 5 ls [] := by
    clear hz25
    intro n
    induction n with
    | zero => intro _ _ _ _ _ hk; cases hk
    | succ n ih5 =>
      intro x1 x2 H locs ls hk hW hl
      rw [f_X7_parted_L5.eq_2] at hk
      refine lv_iload hx hb dX7_parted_5 (lv_at hl 4 rfl) ?_
      refine lv_iload_n hx hb dX7_parted_7 rfl (lv_at hl 2 rfl) ?_
      refine lv_icmp_ge (tgt := 90) hx hb dX7_parted_8 (by decide) (fun c24 => ?_) (fun c24 => ?_)
      · replace hk := ite_t hk c24
        obtain rfl := Option.some.inj hk
        exact KX5 _ _ _ hW (lv_sub hl [3] rfl)
      · replace hk := ite_f hk c24
        refine lv_iconst (v := (0 : Int32)) hx hb dX7_parted_11 (by decide) ?_
        refine lv_istore (lv' := [(5, .int (0 : Int32)), (0, .ref (ad G 176)), (1, .int a1), (2, .int a2), (3, .int x1), (4, .int x2)]) hx hb dX7_parted_12 hl (by decide) rfl (fun ls hl => ?_)
        refine lv_iconst (v := (0 : Int32)) hx hb dX7_parted_14 (by decide) ?_
        refine lv_istore (lv' := [(6, .int (0 : Int32)), (5, .int (0 : Int32)), (0, .ref (ad G 176)), (1, .int a1), (2, .int a2), (3, .int x1), (4, .int x2)]) hx hb dX7_parted_15 hl (by decide) rfl (fun ls hl => ?_)
        replace hk := ob_s hk
        obtain ⟨x6, hz22, hk⟩ := hk
        have KX17 : ∀ (H : Heap) (locs : List Loc) (ls : Array Slot), Ws G false M s H locs → lv_has ls 7 [(0, .ref (ad G 176)), (1, .int a1), (2, .int a2), (3, .int x1), (4, .int x2), (5, .int x6)] → Wx p l e 0 s m args below meth c Q H locs 71 ls [] := by
          intro H locs ls hW hl
          refine lv_iload hx hb dX7_parted_71 (lv_at hl 5 rfl) ?_
          refine lv_iload_n hx hb dX7_parted_73 rfl (lv_at hl 3 rfl) ?_
          replace hk := lq_s hk
          obtain ⟨x18, hr21, hk⟩ := hk
          have KJ20 : ∀ (H : Heap) (locs : List Loc) (ls : Array Slot), Ws G false M s H locs → lv_has ls 7 [(0, .ref (ad G 176)), (1, .int a1), (2, .int a2), (4, .int x2)] → Wx p l e 0 s m args below meth c Q H locs 83 ls [.int x18] := by
            intro H locs ls hW hl
            refine lv_istore_n (lv' := [(3, .int x18), (0, .ref (ad G 176)), (1, .int a1), (2, .int a2), (4, .int x2)]) hx hb dX7_parted_83 rfl hl (by decide) rfl (fun ls hl => ?_)
            replace hk := lq_s hk
            obtain ⟨x19, ex19, hk⟩ := hk
            refine lv_iinc (v := x19) (lv' := [(4, .int x19), (3, .int x18), (0, .ref (ad G 176)), (1, .int a1), (2, .int a2)]) hx hb dX7_parted_84 hl (k := 4) rfl (by rw [ex19]; rfl) (by decide) rfl (fun ls hl => ?_)
            refine lv_goto (tgt := 5) hx hb dX7_parted_87 (by decide) ?_
            exact ih5 _ _ _ _ _ hk hW (lv_sub hl [2, 3, 4, 1, 0] rfl)
          clear hk
          have hk := hr21.symm
          clear hr21
          refine lv_icmp_le (tgt := 82) hx hb dX7_parted_74 (by decide) (fun c17 => ?_) (fun c17 => ?_)
          · replace hk := ite_t hk c17
            refine lv_iload_n hx hb dX7_parted_82 rfl (lv_at hl 3 rfl) ?_
            subst hk
            exact KJ20 _ _ _ hW (lv_sub hl [0, 1, 2, 4] rfl)
          · replace hk := ite_f hk c17
            refine lv_iload hx hb dX7_parted_77 (lv_at hl 5 rfl) ?_
            refine lv_goto (tgt := 83) hx hb dX7_parted_79 (by decide) ?_
            subst hk
            exact KJ20 _ _ _ hW (lv_sub hl [0, 1, 2, 4] rfl)
        clear hk
        have LH17 : ∀ (n : Nat) (x4 : Int32) (x5 : Int32) (H : Heap) (locs : List Loc) (ls : Array Slot), f_X7_parted_L17 a1 a2 M x2 n x4 x5 = some x6 → Ws G false M s H locs → lv_has ls 7 [(0, .ref (ad G 176)), (1, .int a1), (2, .int a2), (3, .int x1), (4, .int x2), (5, .int x4), (6, .int x5)] → Wx p l e 0 s m args below meth c Q H locs 17 ls [] := by
          clear hz22
          intro n
          induction n with
          | zero => intro _ _ _ _ _ hk; cases hk
          | succ n ih17 =>
            intro x4 x5 H locs ls hk hW hl
            rw [f_X7_parted_L17.eq_2] at hk
            refine lv_iload hx hb dX7_parted_17 (lv_at hl 6 rfl) ?_
            refine lv_iload_n hx hb dX7_parted_19 rfl (lv_at hl 2 rfl) ?_
            refine lv_icmp_ge (tgt := 71) hx hb dX7_parted_20 (by decide) (fun c16 => ?_) (fun c16 => ?_)
            · replace hk := ite_t hk c16
              obtain rfl := Option.some.inj hk
              exact KX17 _ _ _ hW (lv_sub hl [0, 1, 2, 3, 4, 5] rfl)
            · replace hk := ite_f hk c16
              refine lv_iload hx hb dX7_parted_23 (lv_at hl 5 rfl) ?_
              refine lv_iload_n hx hb dX7_parted_25 rfl (lv_at hl 1 rfl) ?_
              refine lv_iload hx hb dX7_parted_26 (lv_at hl 4 rfl) ?_
              refine lv_ishr hx hb dX7_parted_28 ?_
              refine lv_iload_n hx hb dX7_parted_29 rfl (lv_at hl 1 rfl) ?_
              refine lv_iload hx hb dX7_parted_30 (lv_at hl 6 rfl) ?_
              refine lv_ishr hx hb dX7_parted_32 ?_
              refine lv_iand hx hb dX7_parted_33 ?_
              refine lv_iconst (v := (1 : Int32)) hx hb dX7_parted_34 (by decide) ?_
              refine lv_iand hx hb dX7_parted_35 ?_
              refine lv_iconst (v := (1 : Int32)) hx hb dX7_parted_36 (by decide) ?_
              replace hk := ob_s hk
              obtain ⟨x11, hr15, hk⟩ := hk
              have KJ14 : ∀ (H : Heap) (locs : List Loc) (ls : Array Slot), Ws G false M s H locs → lv_has ls 7 [(0, .ref (ad G 176)), (1, .int a1), (2, .int a2), (3, .int x1), (4, .int x2), (6, .int x5)] → Wx p l e 0 s m args below meth c Q H locs 62 ls [.int x11, .int x4] := by
                intro H locs ls hW hl
                refine lv_iadd hx hb dX7_parted_62 ?_
                replace hk := lq_s hk
                obtain ⟨x12, ex12, hk⟩ := hk
                refine nm_i ex12 ?_
                refine lv_istore (lv' := [(5, .int x12), (0, .ref (ad G 176)), (1, .int a1), (2, .int a2), (3, .int x1), (4, .int x2), (6, .int x5)]) hx hb dX7_parted_63 hl (by decide) rfl (fun ls hl => ?_)
                replace hk := lq_s hk
                obtain ⟨x13, ex13, hk⟩ := hk
                refine lv_iinc (v := x13) (lv' := [(6, .int x13), (5, .int x12), (0, .ref (ad G 176)), (1, .int a1), (2, .int a2), (3, .int x1), (4, .int x2)]) hx hb dX7_parted_65 hl (k := 6) rfl (by rw [ex13]; rfl) (by decide) rfl (fun ls hl => ?_)
                refine lv_goto (tgt := 17) hx hb dX7_parted_68 (by decide) ?_
                exact ih17 _ _ _ _ _ hk hW (lv_sub hl [2, 3, 4, 5, 6, 1, 0] rfl)
              clear hk
              have hk := hr15
              clear hr15
              refine lv_icmp_ne (tgt := 61) hx hb dX7_parted_37 (by decide) (fun c10 => ?_) (fun c10 => ?_)
              · replace hk := ite_f hk c10
                refine lv_iconst (v := (0 : Int32)) hx hb dX7_parted_61 (by decide) ?_
                obtain rfl := Option.some.inj hk
                exact KJ14 _ _ _ hW (lv_sub hl [0, 1, 2, 3, 4, 6] rfl)
              · replace hk := ite_t hk c10
                refine lv_aload_n hx hb dX7_parted_40 rfl (lv_at hl 0 rfl) ?_
                refine gt_X7_26 hx hb hg hown hK hW kd_176 dX7_parted_41 ?_
                refine lv_iload hx hb dX7_parted_44 (lv_at hl 4 rfl) ?_
                replace hk := ob_s hk
                obtain ⟨x7, hx7, hk⟩ := hk
                obtain ⟨hx7, ex7⟩ := rd_s hx7
                refine w_ald hx hb hK hW (inM kd_181 rfl) (shp10 kd_181) hx7 ex7 dX7_parted_46 ?_
                refine lv_aload_n hx hb dX7_parted_47 rfl (lv_at hl 0 rfl) ?_
                refine gt_X7_26 hx hb hg hown hK hW kd_176 dX7_parted_48 ?_
                refine lv_iload hx hb dX7_parted_51 (lv_at hl 6 rfl) ?_
                replace hk := ob_s hk
                obtain ⟨x8, hx8, hk⟩ := hk
                obtain ⟨hx8, ex8⟩ := rd_s hx8
                refine w_ald hx hb hK hW (inM kd_181 rfl) (shp10 kd_181) hx8 ex8 dX7_parted_53 ?_
                refine lv_icmp_ne (tgt := 61) hx hb dX7_parted_54 (by decide) (fun c9 => ?_) (fun c9 => ?_)
                · replace hk := ite_f hk c9
                  refine lv_iconst (v := (0 : Int32)) hx hb dX7_parted_61 (by decide) ?_
                  obtain rfl := Option.some.inj hk
                  exact KJ14 _ _ _ hW (lv_sub hl [0, 1, 2, 3, 4, 6] rfl)
                · replace hk := ite_t hk c9
                  refine lv_iconst (v := (1 : Int32)) hx hb dX7_parted_57 (by decide) ?_
                  refine lv_goto (tgt := 62) hx hb dX7_parted_58 (by decide) ?_
                  obtain rfl := Option.some.inj hk
                  exact KJ14 _ _ _ hW (lv_sub hl [0, 1, 2, 3, 4, 6] rfl)
        exact LH17 FU _ _ _ _ _ hz22 hW (lv_sub hl [2, 3, 4, 5, 6, 1, 0] rfl)
  exact LH5 FU _ _ _ _ _ hz25 hW (lv_sub hl [2, 3, 4, 1, 0] rfl)
def f_X7_tell_L44 (a1 : Int32) (x5 : Int32) : Nat → Int32 → Mem → Option (Int32 × Mem)
  | 0, _, _ => none
  | n + 1, x9, M10 =>
    if (10 : Int32) ≤ x9 then (
      some (x9, M10))
    else (
      ob (f_X7_heavyHigh a1 x5 (30 : Int32) x9 M10) (fun x13 =>
      ob (wr M10 181 x9 x13) (fun M14 =>
      lq (x9 + (1 : Int32)) (fun x15 =>
      f_X7_tell_L44 a1 x5 n x15 M14))))
def f_X7_tell_L30 (a1 : Int32) (x2 : Int32) : Nat → Int32 → Int32 → Int32 → Mem → Option (Int32 × Mem)
  | 0, _, _, _, _ => none
  | n + 1, x3, x4, x5, M6 =>
    if (21 : Int32) ≤ x5 then (
      some (x3, M6))
    else (
      if x2 = (0 : Int32) then (
        some (x3, M6))
      else (
        ob2 (f_X7_tell_L44 a1 x5 FU (0 : Int32) M6) (fun x11 M12 =>
        ob (f_X7_parted x2 (10 : Int32) M12) (fun x17 =>
        lq (
          if x4 ≤ x17 then (
            x3)
          else (
            x5))
         (fun x19 =>
        lq (
          if x4 ≤ x17 then (
            x4)
          else (
            x17))
         (fun x21 =>
        lq (x5 + (1 : Int32)) (fun x22 =>
        f_X7_tell_L30 a1 x2 n x19 x21 x22 M12)))))))
def f_X7_tell (a1 : Int32) (M : Mem) : Option (Int32 × Mem) :=
  ob (f_X7_isLimb a1 M) (fun x1 =>
  if x1 = (0 : Int32) then (
    ob2 (f_X7_bad M) (fun x33 M34 =>
    some (x33, M34)))
  else (
    ob (f_X7_weights a1 M) (fun x2 =>
    ob2 (f_X7_tell_L30 a1 x2 FU ((-1001) : Int32) (99 : Int32) (1 : Int32) M) (fun x7 M8 =>
    some (x7, M8)))))
set_option maxHeartbeats 4000000 in
set_option maxRecDepth 100000 in
theorem c_X7_tell (l : Launch) (G : GT) (a1 : Int32) (M : Mem) {r : Int32} {M' : Mem} (hk : f_X7_tell a1 M = some (r, M')) : CMi l G false yX7_tell cX7_tell 7 (some .int) 3 [.ref (ad G 176), .int a1] M r M' := by
  unfold f_X7_tell at hk
  refine CMi.of (by decide) (Nat.le_of_ble_eq_true rfl) ?_
  intro p e s m args below meth c Q hx hb hml hown hg hK hW hret ls hl
  have hl : lv_has ls 7 [(0, .ref (ad G 176)), (1, .int a1)] := hl
  refine lv_aload_n hx hb dX7_tell_0 rfl (lv_at hl 0 rfl) ?_
  refine lv_iload_n hx hb dX7_tell_1 rfl (lv_at hl 1 rfl) ?_
  replace hk := ob_s hk
  obtain ⟨x1, hx1, hk⟩ := hk
  refine cl_i (rn_V g_1033 g_1035 gs_78 g_9 g_1036 hd_X7_isLimb (Nat.le_of_ble_eq_true rfl) (ci := 7) rfl (inM kd_176 rfl) (shp7 kd_176) hx hb hml hown hg hK hW (As := [.int a1]) (c_X7_isLimb l G a1 M hx1) (by decide) rfl hl.1 rfl (Nat.le_of_ble_eq_true rfl) dX7_tell_2) hW (fun H locs hW => ?_)
  refine lv_if_ne (tgt := 13) hx hb dX7_tell_5 (by decide) (fun c35 => ?_) (fun c35 => ?_)
  · replace hk := ite_f hk c35
    refine lv_aload_n hx hb dX7_tell_13 rfl (lv_at hl 0 rfl) ?_
    refine lv_iload_n hx hb dX7_tell_14 rfl (lv_at hl 1 rfl) ?_
    replace hk := ob_s hk
    obtain ⟨x2, hx2, hk⟩ := hk
    refine cl_i (rn_V g_1180 g_1182 gs_92 g_9 g_1183 hd_X7_weights (Nat.le_of_ble_eq_true rfl) (ci := 7) rfl (inM kd_176 rfl) (shp7 kd_176) hx hb hml hown hg hK hW (As := [.int a1]) (c_X7_weights l G a1 M hx2) (by decide) rfl hl.1 rfl (Nat.le_of_ble_eq_true rfl) dX7_tell_15) hW (fun H locs hW => ?_)
    refine lv_istore_n (lv' := [(2, .int x2), (0, .ref (ad G 176)), (1, .int a1)]) hx hb dX7_tell_18 rfl hl (by decide) rfl (fun ls hl => ?_)
    refine lv_sipush (v := ((-1001) : Int32)) hx hb dX7_tell_19 (by decide) ?_
    refine lv_istore_n (lv' := [(3, .int ((-1001) : Int32)), (2, .int x2), (0, .ref (ad G 176)), (1, .int a1)]) hx hb dX7_tell_22 rfl hl (by decide) rfl (fun ls hl => ?_)
    refine lv_bipush (v := (99 : Int32)) hx hb dX7_tell_23 (by decide) ?_
    refine lv_istore (lv' := [(4, .int (99 : Int32)), (3, .int ((-1001) : Int32)), (2, .int x2), (0, .ref (ad G 176)), (1, .int a1)]) hx hb dX7_tell_25 hl (by decide) rfl (fun ls hl => ?_)
    refine lv_iconst (v := (1 : Int32)) hx hb dX7_tell_27 (by decide) ?_
    refine lv_istore (lv' := [(5, .int (1 : Int32)), (4, .int (99 : Int32)), (3, .int ((-1001) : Int32)), (2, .int x2), (0, .ref (ad G 176)), (1, .int a1)]) hx hb dX7_tell_28 hl (by decide) rfl (fun ls hl => ?_)
    replace hk := ob2_s hk
    obtain ⟨x7, M8, hz31, hk⟩ := hk
    have KX30 : ∀ (H : Heap) (locs : List Loc) (ls : Array Slot), Ws G false M8 s H locs → lv_has ls 7 [(3, .int x7)] → Wx p l e 3 s m args below meth c Q H locs 120 ls [] := by
      intro H locs ls hW hl
      refine lv_iload_n hx hb dX7_tell_120 rfl (lv_at hl 0 rfl) ?_
      obtain ⟨rfl, rfl⟩ := sp2 hk
      exact hret _ _ _ _ hW dX7_tell_121
    clear hk
    have LH30 : ∀ (n : Nat) (x3 : Int32) (x4 : Int32) (x5 : Int32) (M6 : Mem) (H : Heap) (locs : List Loc) (ls : Array Slot), f_X7_tell_L30 a1 x2 n x3 x4 x5 M6 = some (x7, M8) → Ws G false M6 s H locs → lv_has ls 7 [(0, .ref (ad G 176)), (1, .int a1), (2, .int x2), (3, .int x3), (4, .int x4), (5, .int x5)] → Wx p l e 3 s m args below meth c Q H locs 30 ls [] := by
      clear hz31
      intro n
      induction n with
      | zero => intro _ _ _ _ _ _ _ hk; cases hk
      | succ n ih30 =>
        intro x3 x4 x5 M6 H locs ls hk hW hl
        rw [f_X7_tell_L30.eq_2] at hk
        refine lv_iload hx hb dX7_tell_30 (lv_at hl 5 rfl) ?_
        refine lv_bipush (v := (21 : Int32)) hx hb dX7_tell_32 (by decide) ?_
        refine lv_icmp_ge (tgt := 120) hx hb dX7_tell_34 (by decide) (fun c30 => ?_) (fun c30 => ?_)
        · replace hk := ite_t hk c30
          obtain ⟨rfl, rfl⟩ := sp2 hk
          exact KX30 _ _ _ hW (lv_sub hl [3] rfl)
        · replace hk := ite_f hk c30
          refine lv_iload_n hx hb dX7_tell_37 rfl (lv_at hl 2 rfl) ?_
          refine lv_if_eq (tgt := 120) hx hb dX7_tell_38 (by decide) (fun c29 => ?_) (fun c29 => ?_)
          · replace hk := ite_t hk c29
            obtain ⟨rfl, rfl⟩ := sp2 hk
            exact KX30 _ _ _ hW (lv_sub hl [3] rfl)
          · replace hk := ite_f hk c29
            refine lv_iconst (v := (0 : Int32)) hx hb dX7_tell_41 (by decide) ?_
            refine lv_istore (lv' := [(6, .int (0 : Int32)), (0, .ref (ad G 176)), (1, .int a1), (2, .int x2), (3, .int x3), (4, .int x4), (5, .int x5)]) hx hb dX7_tell_42 hl (by decide) rfl (fun ls hl => ?_)
            replace hk := ob2_s hk
            obtain ⟨x11, M12, hz27, hk⟩ := hk
            have KX44 : ∀ (H : Heap) (locs : List Loc) (ls : Array Slot), Ws G false M12 s H locs → lv_has ls 7 [(0, .ref (ad G 176)), (1, .int a1), (2, .int x2), (3, .int x3), (4, .int x4), (5, .int x5)] → Wx p l e 3 s m args below meth c Q H locs 75 ls [] := by
              intro H locs ls hW hl
              refine lv_aload_n hx hb dX7_tell_75 rfl (lv_at hl 0 rfl) ?_
              refine lv_iload_n hx hb dX7_tell_76 rfl (lv_at hl 2 rfl) ?_
              refine lv_bipush (v := (10 : Int32)) hx hb dX7_tell_77 (by decide) ?_
              replace hk := ob_s hk
              obtain ⟨x17, hx17, hk⟩ := hk
              refine cl_i (rn_V g_1192 g_1194 gs_94 g_9 g_1195 hd_X7_parted (Nat.le_of_ble_eq_true rfl) (ci := 7) rfl (inM kd_176 rfl) (shp7 kd_176) hx hb hml hown hg hK hW (As := [.int x2, .int (10 : Int32)]) (c_X7_parted l G x2 (10 : Int32) M12 hx17) (by decide) rfl hl.1 rfl (Nat.le_of_ble_eq_true rfl) dX7_tell_79) hW (fun H locs hW => ?_)
              refine lv_istore (lv' := [(6, .int x17), (0, .ref (ad G 176)), (1, .int a1), (2, .int x2), (3, .int x3), (4, .int x4), (5, .int x5)]) hx hb dX7_tell_82 hl (by decide) rfl (fun ls hl => ?_)
              refine lv_iload hx hb dX7_tell_84 (lv_at hl 0 rfl) ?_
              refine lv_iload hx hb dX7_tell_86 (lv_at hl 5 rfl) ?_
              replace hk := lq_s hk
              obtain ⟨x19, hr26, hk⟩ := hk
              have KJ25 : ∀ (H : Heap) (locs : List Loc) (ls : Array Slot), Ws G false M12 s H locs → lv_has ls 7 [(0, .ref (ad G 176)), (1, .int a1), (2, .int x2), (4, .int x4), (5, .int x5), (6, .int x17)] → Wx p l e 3 s m args below meth c Q H locs 97 ls [.int x19] := by
                intro H locs ls hW hl
                refine lv_istore_n (lv' := [(3, .int x19), (0, .ref (ad G 176)), (1, .int a1), (2, .int x2), (4, .int x4), (5, .int x5), (6, .int x17)]) hx hb dX7_tell_97 rfl hl (by decide) rfl (fun ls hl => ?_)
                refine lv_iload hx hb dX7_tell_98 (lv_at hl 6 rfl) ?_
                refine lv_iload hx hb dX7_tell_100 (lv_at hl 4 rfl) ?_
                replace hk := lq_s hk
                obtain ⟨x21, hr24, hk⟩ := hk
                have KJ23 : ∀ (H : Heap) (locs : List Loc) (ls : Array Slot), Ws G false M12 s H locs → lv_has ls 7 [(0, .ref (ad G 176)), (1, .int a1), (2, .int x2), (3, .int x19), (5, .int x5)] → Wx p l e 3 s m args below meth c Q H locs 112 ls [.int x21] := by
                  intro H locs ls hW hl
                  refine lv_istore (lv' := [(4, .int x21), (0, .ref (ad G 176)), (1, .int a1), (2, .int x2), (3, .int x19), (5, .int x5)]) hx hb dX7_tell_112 hl (by decide) rfl (fun ls hl => ?_)
                  replace hk := lq_s hk
                  obtain ⟨x22, ex22, hk⟩ := hk
                  refine lv_iinc (v := x22) (lv' := [(5, .int x22), (4, .int x21), (0, .ref (ad G 176)), (1, .int a1), (2, .int x2), (3, .int x19)]) hx hb dX7_tell_114 hl (k := 5) rfl (by rw [ex22]; rfl) (by decide) rfl (fun ls hl => ?_)
                  refine lv_goto (tgt := 30) hx hb dX7_tell_117 (by decide) ?_
                  exact ih30 _ _ _ _ _ _ _ hk hW (lv_sub hl [2, 3, 4, 5, 1, 0] rfl)
                clear hk
                have hk := hr24.symm
                clear hr24
                refine lv_icmp_ge (tgt := 110) hx hb dX7_tell_102 (by decide) (fun c20 => ?_) (fun c20 => ?_)
                · replace hk := ite_t hk c20
                  refine lv_iload hx hb dX7_tell_110 (lv_at hl 4 rfl) ?_
                  subst hk
                  exact KJ23 _ _ _ hW (lv_sub hl [1, 2, 3, 0, 5] rfl)
                · replace hk := ite_f hk c20
                  refine lv_iload hx hb dX7_tell_105 (lv_at hl 6 rfl) ?_
                  refine lv_goto (tgt := 112) hx hb dX7_tell_107 (by decide) ?_
                  subst hk
                  exact KJ23 _ _ _ hW (lv_sub hl [1, 2, 3, 0, 5] rfl)
              clear hk
              have hk := hr26.symm
              clear hr26
              refine lv_icmp_ge (tgt := 96) hx hb dX7_tell_88 (by decide) (fun c18 => ?_) (fun c18 => ?_)
              · replace hk := ite_t hk c18
                refine lv_iload_n hx hb dX7_tell_96 rfl (lv_at hl 4 rfl) ?_
                subst hk
                exact KJ25 _ _ _ hW (lv_sub hl [1, 2, 3, 5, 6, 0] rfl)
              · replace hk := ite_f hk c18
                refine lv_iload hx hb dX7_tell_91 (lv_at hl 6 rfl) ?_
                refine lv_goto (tgt := 97) hx hb dX7_tell_93 (by decide) ?_
                subst hk
                exact KJ25 _ _ _ hW (lv_sub hl [1, 2, 3, 5, 6, 0] rfl)
            clear hk
            have LH44 : ∀ (n : Nat) (x9 : Int32) (M10 : Mem) (H : Heap) (locs : List Loc) (ls : Array Slot), f_X7_tell_L44 a1 x5 n x9 M10 = some (x11, M12) → Ws G false M10 s H locs → lv_has ls 7 [(0, .ref (ad G 176)), (1, .int a1), (2, .int x2), (3, .int x3), (4, .int x4), (5, .int x5), (6, .int x9)] → Wx p l e 3 s m args below meth c Q H locs 44 ls [] := by
              clear hz27
              intro n
              induction n with
              | zero => intro _ _ _ _ _ hk; cases hk
              | succ n ih44 =>
                intro x9 M10 H locs ls hk hW hl
                rw [f_X7_tell_L44.eq_2] at hk
                refine lv_iload hx hb dX7_tell_44 (lv_at hl 6 rfl) ?_
                refine lv_bipush (v := (10 : Int32)) hx hb dX7_tell_46 (by decide) ?_
                refine lv_icmp_ge (tgt := 75) hx hb dX7_tell_48 (by decide) (fun c16 => ?_) (fun c16 => ?_)
                · replace hk := ite_t hk c16
                  obtain ⟨rfl, rfl⟩ := sp2 hk
                  exact KX44 _ _ _ hW (lv_sub hl [0, 1, 2, 3, 4, 5] rfl)
                · replace hk := ite_f hk c16
                  refine lv_aload_n hx hb dX7_tell_51 rfl (lv_at hl 0 rfl) ?_
                  refine gt_X7_26 hx hb hg hown hK hW kd_176 dX7_tell_52 ?_
                  refine lv_iload hx hb dX7_tell_55 (lv_at hl 6 rfl) ?_
                  refine lv_aload_n hx hb dX7_tell_57 rfl (lv_at hl 0 rfl) ?_
                  refine lv_iload_n hx hb dX7_tell_58 rfl (lv_at hl 1 rfl) ?_
                  refine lv_iload hx hb dX7_tell_59 (lv_at hl 5 rfl) ?_
                  refine lv_bipush (v := (30 : Int32)) hx hb dX7_tell_61 (by decide) ?_
                  refine lv_iload hx hb dX7_tell_63 (lv_at hl 6 rfl) ?_
                  replace hk := ob_s hk
                  obtain ⟨x13, hx13, hk⟩ := hk
                  refine cl_i (rn_V g_1184 g_1186 gs_93 g_9 g_1187 hd_X7_heavyHigh (Nat.le_of_ble_eq_true rfl) (ci := 7) rfl (inM kd_176 rfl) (shp7 kd_176) hx hb hml hown hg hK hW (As := [.int a1, .int x5, .int (30 : Int32), .int x9]) (c_X7_heavyHigh l G a1 x5 (30 : Int32) x9 M10 hx13) (by decide) rfl hl.1 rfl (Nat.le_of_ble_eq_true rfl) dX7_tell_65) hW (fun H locs hW => ?_)
                  replace hk := ob_s hk
                  obtain ⟨M14, hM14, hk⟩ := hk
                  obtain ⟨hM14, eM14⟩ := wr_s hM14
                  refine w_ast hx hb hK hW (inM kd_181 rfl) (fun _ => (shp10 kd_181)) hM14 eM14 dX7_tell_68 (fun H locs hW => ?_)
                  replace hk := lq_s hk
                  obtain ⟨x15, ex15, hk⟩ := hk
                  refine lv_iinc (v := x15) (lv' := [(6, .int x15), (0, .ref (ad G 176)), (1, .int a1), (2, .int x2), (3, .int x3), (4, .int x4), (5, .int x5)]) hx hb dX7_tell_69 hl (k := 6) rfl (by rw [ex15]; rfl) (by decide) rfl (fun ls hl => ?_)
                  refine lv_goto (tgt := 44) hx hb dX7_tell_72 (by decide) ?_
                  exact ih44 _ _ _ _ _ hk hW (lv_sub hl [1, 2, 3, 4, 5, 6, 0] rfl)
            exact LH44 FU _ _ _ _ _ hz27 hW (lv_sub hl [1, 2, 3, 4, 5, 6, 0] rfl)
    exact LH30 FU _ _ _ _ _ _ _ hz31 hW (lv_sub hl [4, 5, 3, 2, 1, 0] rfl)
  · replace hk := ite_t hk c35
    refine lv_aload_n hx hb dX7_tell_8 rfl (lv_at hl 0 rfl) ?_
    replace hk := ob2_s hk
    obtain ⟨x33, M34, hx33, hk⟩ := hk
    refine cl_i (rn_V g_924 g_926 gs_62 g_9 g_927 hd_X7_bad (Nat.le_of_ble_eq_true rfl) (ci := 7) rfl (inM kd_176 rfl) (shp7 kd_176) hx hb hml hown hg hK hW (As := []) (c_X7_bad l G M hx33) (by decide) rfl hl.1 rfl (Nat.le_of_ble_eq_true rfl) dX7_tell_9) hW (fun H locs hW => ?_)
    obtain ⟨rfl, rfl⟩ := sp2 hk
    exact hret _ _ _ _ hW dX7_tell_12
def f_X7_stringsOf_L16 (a1 : Int32) (M : Mem) (x2 : Int32) : Nat → Int32 → Int32 → Option (Int32)
  | 0, _, _ => none
  | n + 1, x4, x5 =>
    ob (rd M 177 (91 : Int32)) (fun x7 =>
    if x7 ≤ x5 then (
      some x4)
    else (
      lq ((92 : Int32) + ((5 : Int32) * x5)) (fun x8 =>
      ob (
        if x4 = (0 : Int32) then (
          some (0 : Int32))
        else (
          ob (rd M 177 x8) (fun x9 =>
          if x9 = a1 then (
            ob (rd M 177 (x8 + (1 : Int32))) (fun x10 =>
            ob (rd M 177 (x8 + (2 : Int32))) (fun x11 =>
            ob (rd M 177 (x8 + (3 : Int32))) (fun x12 =>
            ob (rd M 177 (x8 + (4 : Int32))) (fun x14 =>
            if (f_X7_drops x2 x10 x11 x12) = x14 then (
              some (1 : Int32))
            else (
              some (0 : Int32)))))))
          else (
            some (1 : Int32)))))
       (fun x18 =>
      lq (x5 + (1 : Int32)) (fun x19 =>
      f_X7_stringsOf_L16 a1 M x2 n x18 x19)))))
def f_X7_stringsOf_L4 (a1 : Int32) (M : Mem) : Nat → Int32 → Int32 → Option (Int32)
  | 0, _, _ => none
  | n + 1, x1, x2 =>
    if (6 : Int32) ≤ x2 then (
      some x1)
    else (
      ob (f_X7_stringsOf_L16 a1 M x2 FU (1 : Int32) (0 : Int32)) (fun x6 =>
      lq (
        if x6 = (0 : Int32) then (
          (0 : Int32))
        else (
          ((1 : Int32) <<< (x2 &&& 31))))
       (fun x24 =>
      lq (x1 ||| x24) (fun x25 =>
      lq (x2 + (1 : Int32)) (fun x26 =>
      f_X7_stringsOf_L4 a1 M n x25 x26)))))
def f_X7_stringsOf (a1 : Int32) (M : Mem) : Option (Int32) :=
  ob (f_X7_stringsOf_L4 a1 M FU (0 : Int32) (0 : Int32)) (fun x3 =>
  some x3)
set_option maxHeartbeats 4000000 in
set_option maxRecDepth 100000 in
theorem c_X7_stringsOf (l : Launch) (G : GT) (a1 : Int32) (M : Mem) {r : Int32} (hk : f_X7_stringsOf a1 M = some r) : CMi l G false yX7_stringsOf cX7_stringsOf 7 (some .int) 1 [.ref (ad G 176), .int a1] M r M := by
  unfold f_X7_stringsOf at hk
  refine CMi.of (by decide) (Nat.le_of_ble_eq_true rfl) ?_
  intro p e s m args below meth c Q hx hb hml hown hg hK hW hret ls hl
  have hl : lv_has ls 7 [(0, .ref (ad G 176)), (1, .int a1)] := hl
  refine lv_iconst (v := (0 : Int32)) hx hb dX7_stringsOf_0 (by decide) ?_
  refine lv_istore_n (lv' := [(2, .int (0 : Int32)), (0, .ref (ad G 176)), (1, .int a1)]) hx hb dX7_stringsOf_1 rfl hl (by decide) rfl (fun ls hl => ?_)
  refine lv_iconst (v := (0 : Int32)) hx hb dX7_stringsOf_2 (by decide) ?_
  refine lv_istore_n (lv' := [(3, .int (0 : Int32)), (2, .int (0 : Int32)), (0, .ref (ad G 176)), (1, .int a1)]) hx hb dX7_stringsOf_3 rfl hl (by decide) rfl (fun ls hl => ?_)
  replace hk := ob_s hk
  obtain ⟨x3, hz32, hk⟩ := hk
  have KX4 : ∀ (H : Heap) (locs : List Loc) (ls : Array Slot), Ws G false M s H locs → lv_has ls 7 [(2, .int x3)] → Wx p l e 1 s m args below meth c Q H locs 130 ls [] := by
    intro H locs ls hW hl
    refine lv_iload_n hx hb dX7_stringsOf_130 rfl (lv_at hl 0 rfl) ?_
    obtain rfl := Option.some.inj hk
    exact hret _ _ _ _ hW dX7_stringsOf_131
  clear hk
  have LH4 : ∀ (n : Nat) (x1 : Int32) (x2 : Int32) (H : Heap) (locs : List Loc) (ls : Array Slot), f_X7_stringsOf_L4 a1 M n x1 x2 = some x3 → Ws G false M s H locs → lv_has ls 7 [(0, .ref (ad G 176)), (1, .int a1), (2, .int x1), (3, .int x2)] → Wx p l e 1 s m args below meth c Q H locs 4 ls [] := by
    clear hz32
    intro n
    induction n with
    | zero => intro _ _ _ _ _ hk; cases hk
    | succ n ih4 =>
      intro x1 x2 H locs ls hk hW hl
      rw [f_X7_stringsOf_L4.eq_2] at hk
      refine lv_iload_n hx hb dX7_stringsOf_4 rfl (lv_at hl 3 rfl) ?_
      refine lv_bipush (v := (6 : Int32)) hx hb dX7_stringsOf_5 (by decide) ?_
      refine lv_icmp_ge (tgt := 130) hx hb dX7_stringsOf_7 (by decide) (fun c31 => ?_) (fun c31 => ?_)
      · replace hk := ite_t hk c31
        obtain rfl := Option.some.inj hk
        exact KX4 _ _ _ hW (lv_sub hl [2] rfl)
      · replace hk := ite_f hk c31
        refine lv_iconst (v := (1 : Int32)) hx hb dX7_stringsOf_10 (by decide) ?_
        refine lv_istore (lv' := [(4, .int (1 : Int32)), (0, .ref (ad G 176)), (1, .int a1), (2, .int x1), (3, .int x2)]) hx hb dX7_stringsOf_11 hl (by decide) rfl (fun ls hl => ?_)
        refine lv_iconst (v := (0 : Int32)) hx hb dX7_stringsOf_13 (by decide) ?_
        refine lv_istore (lv' := [(5, .int (0 : Int32)), (4, .int (1 : Int32)), (0, .ref (ad G 176)), (1, .int a1), (2, .int x1), (3, .int x2)]) hx hb dX7_stringsOf_14 hl (by decide) rfl (fun ls hl => ?_)
        replace hk := ob_s hk
        obtain ⟨x6, hz29, hk⟩ := hk
        have KX16 : ∀ (H : Heap) (locs : List Loc) (ls : Array Slot), Ws G false M s H locs → lv_has ls 7 [(0, .ref (ad G 176)), (1, .int a1), (2, .int x1), (3, .int x2), (4, .int x6)] → Wx p l e 1 s m args below meth c Q H locs 109 ls [] := by
          intro H locs ls hW hl
          refine lv_iload_n hx hb dX7_stringsOf_109 rfl (lv_at hl 2 rfl) ?_
          refine lv_iload hx hb dX7_stringsOf_110 (lv_at hl 4 rfl) ?_
          replace hk := lq_s hk
          obtain ⟨x24, hr28, hk⟩ := hk
          have KJ27 : ∀ (H : Heap) (locs : List Loc) (ls : Array Slot), Ws G false M s H locs → lv_has ls 7 [(0, .ref (ad G 176)), (1, .int a1), (3, .int x2)] → Wx p l e 1 s m args below meth c Q H locs 122 ls [.int x24, .int x1] := by
            intro H locs ls hW hl
            refine lv_ior hx hb dX7_stringsOf_122 ?_
            replace hk := lq_s hk
            obtain ⟨x25, ex25, hk⟩ := hk
            refine nm_i ex25 ?_
            refine lv_istore_n (lv' := [(2, .int x25), (0, .ref (ad G 176)), (1, .int a1), (3, .int x2)]) hx hb dX7_stringsOf_123 rfl hl (by decide) rfl (fun ls hl => ?_)
            replace hk := lq_s hk
            obtain ⟨x26, ex26, hk⟩ := hk
            refine lv_iinc (v := x26) (lv' := [(3, .int x26), (2, .int x25), (0, .ref (ad G 176)), (1, .int a1)]) hx hb dX7_stringsOf_124 hl (k := 3) rfl (by rw [ex26]; rfl) (by decide) rfl (fun ls hl => ?_)
            refine lv_goto (tgt := 4) hx hb dX7_stringsOf_127 (by decide) ?_
            exact ih4 _ _ _ _ _ hk hW (lv_sub hl [2, 3, 1, 0] rfl)
          clear hk
          have hk := hr28.symm
          clear hr28
          refine lv_if_eq (tgt := 121) hx hb dX7_stringsOf_112 (by decide) (fun c23 => ?_) (fun c23 => ?_)
          · replace hk := ite_t hk c23
            refine lv_iconst (v := (0 : Int32)) hx hb dX7_stringsOf_121 (by decide) ?_
            subst hk
            exact KJ27 _ _ _ hW (lv_sub hl [0, 1, 3] rfl)
          · replace hk := ite_f hk c23
            refine lv_iconst (v := (1 : Int32)) hx hb dX7_stringsOf_115 (by decide) ?_
            refine lv_iload_n hx hb dX7_stringsOf_116 rfl (lv_at hl 3 rfl) ?_
            refine lv_ishl hx hb dX7_stringsOf_117 ?_
            refine lv_goto (tgt := 122) hx hb dX7_stringsOf_118 (by decide) ?_
            subst hk
            exact KJ27 _ _ _ hW (lv_sub hl [0, 1, 3] rfl)
        clear hk
        have LH16 : ∀ (n : Nat) (x4 : Int32) (x5 : Int32) (H : Heap) (locs : List Loc) (ls : Array Slot), f_X7_stringsOf_L16 a1 M x2 n x4 x5 = some x6 → Ws G false M s H locs → lv_has ls 7 [(0, .ref (ad G 176)), (1, .int a1), (2, .int x1), (3, .int x2), (4, .int x4), (5, .int x5)] → Wx p l e 1 s m args below meth c Q H locs 16 ls [] := by
          clear hz29
          intro n
          induction n with
          | zero => intro _ _ _ _ _ hk; cases hk
          | succ n ih16 =>
            intro x4 x5 H locs ls hk hW hl
            rw [f_X7_stringsOf_L16.eq_2] at hk
            refine lv_iload hx hb dX7_stringsOf_16 (lv_at hl 5 rfl) ?_
            refine lv_aload_n hx hb dX7_stringsOf_18 rfl (lv_at hl 0 rfl) ?_
            refine gt_X7_7 hx hb hg hown hK hW kd_176 dX7_stringsOf_19 ?_
            refine lv_bipush (v := (91 : Int32)) hx hb dX7_stringsOf_22 (by decide) ?_
            replace hk := ob_s hk
            obtain ⟨x7, hx7, hk⟩ := hk
            obtain ⟨hx7, ex7⟩ := rd_s hx7
            refine w_ald hx hb hK hW (inM kd_177 rfl) (shp10 kd_177) hx7 ex7 dX7_stringsOf_24 ?_
            refine lv_icmp_ge (tgt := 109) hx hb dX7_stringsOf_25 (by decide) (fun c22 => ?_) (fun c22 => ?_)
            · replace hk := ite_t hk c22
              obtain rfl := Option.some.inj hk
              exact KX16 _ _ _ hW (lv_sub hl [0, 1, 2, 3, 4] rfl)
            · replace hk := ite_f hk c22
              refine lv_bipush (v := (92 : Int32)) hx hb dX7_stringsOf_28 (by decide) ?_
              refine lv_iconst (v := (5 : Int32)) hx hb dX7_stringsOf_30 (by decide) ?_
              refine lv_iload hx hb dX7_stringsOf_31 (lv_at hl 5 rfl) ?_
              refine lv_imul hx hb dX7_stringsOf_33 ?_
              refine lv_iadd hx hb dX7_stringsOf_34 ?_
              replace hk := lq_s hk
              obtain ⟨x8, ex8, hk⟩ := hk
              refine nm_i ex8 ?_
              refine lv_istore (lv' := [(6, .int x8), (0, .ref (ad G 176)), (1, .int a1), (2, .int x1), (3, .int x2), (4, .int x4), (5, .int x5)]) hx hb dX7_stringsOf_35 hl (by decide) rfl (fun ls hl => ?_)
              refine lv_iload hx hb dX7_stringsOf_37 (lv_at hl 5 rfl) ?_
              replace hk := ob_s hk
              obtain ⟨x18, hr21, hk⟩ := hk
              have KJ20 : ∀ (H : Heap) (locs : List Loc) (ls : Array Slot), Ws G false M s H locs → lv_has ls 7 [(0, .ref (ad G 176)), (1, .int a1), (2, .int x1), (3, .int x2), (5, .int x5)] → Wx p l e 1 s m args below meth c Q H locs 101 ls [.int x18] := by
                intro H locs ls hW hl
                refine lv_istore (lv' := [(4, .int x18), (0, .ref (ad G 176)), (1, .int a1), (2, .int x1), (3, .int x2), (5, .int x5)]) hx hb dX7_stringsOf_101 hl (by decide) rfl (fun ls hl => ?_)
                replace hk := lq_s hk
                obtain ⟨x19, ex19, hk⟩ := hk
                refine lv_iinc (v := x19) (lv' := [(5, .int x19), (4, .int x18), (0, .ref (ad G 176)), (1, .int a1), (2, .int x1), (3, .int x2)]) hx hb dX7_stringsOf_103 hl (k := 5) rfl (by rw [ex19]; rfl) (by decide) rfl (fun ls hl => ?_)
                refine lv_goto (tgt := 16) hx hb dX7_stringsOf_106 (by decide) ?_
                exact ih16 _ _ _ _ _ hk hW (lv_sub hl [2, 3, 4, 5, 1, 0] rfl)
              clear hk
              have hk := hr21
              clear hr21
              refine lv_if_eq (tgt := 100) hx hb dX7_stringsOf_39 (by decide) (fun c17 => ?_) (fun c17 => ?_)
              · replace hk := ite_t hk c17
                refine lv_iconst (v := (0 : Int32)) hx hb dX7_stringsOf_100 (by decide) ?_
                obtain rfl := Option.some.inj hk
                exact KJ20 _ _ _ hW (lv_sub hl [1, 2, 3, 4, 6] rfl)
              · replace hk := ite_f hk c17
                refine lv_aload_n hx hb dX7_stringsOf_42 rfl (lv_at hl 1 rfl) ?_
                refine gt_X7_7 hx hb hg hown hK hW kd_176 dX7_stringsOf_43 ?_
                refine lv_iload hx hb dX7_stringsOf_46 (lv_at hl 0 rfl) ?_
                replace hk := ob_s hk
                obtain ⟨x9, hx9, hk⟩ := hk
                obtain ⟨hx9, ex9⟩ := rd_s hx9
                refine w_ald hx hb hK hW (inM kd_177 rfl) (shp10 kd_177) hx9 ex9 dX7_stringsOf_48 ?_
                refine lv_iload_n hx hb dX7_stringsOf_49 rfl (lv_at hl 2 rfl) ?_
                refine lv_icmp_ne (tgt := 96) hx hb dX7_stringsOf_50 (by decide) (fun c16 => ?_) (fun c16 => ?_)
                · replace hk := ite_f hk c16
                  refine lv_iconst (v := (1 : Int32)) hx hb dX7_stringsOf_96 (by decide) ?_
                  refine lv_goto (tgt := 101) hx hb dX7_stringsOf_97 (by decide) ?_
                  obtain rfl := Option.some.inj hk
                  exact KJ20 _ _ _ hW (lv_sub hl [1, 2, 3, 4, 6] rfl)
                · replace hk := ite_t hk c16
                  refine lv_iload_n hx hb dX7_stringsOf_53 rfl (lv_at hl 4 rfl) ?_
                  refine lv_aload_n hx hb dX7_stringsOf_54 rfl (lv_at hl 1 rfl) ?_
                  refine gt_X7_7 hx hb hg hown hK hW kd_176 dX7_stringsOf_55 ?_
                  refine lv_iload hx hb dX7_stringsOf_58 (lv_at hl 0 rfl) ?_
                  refine lv_iconst (v := (1 : Int32)) hx hb dX7_stringsOf_60 (by decide) ?_
                  refine lv_iadd hx hb dX7_stringsOf_61 ?_
                  replace hk := ob_s hk
                  obtain ⟨x10, hx10, hk⟩ := hk
                  obtain ⟨hx10, ex10⟩ := rd_s hx10
                  refine w_ald hx hb hK hW (inM kd_177 rfl) (shp10 kd_177) hx10 ex10 dX7_stringsOf_62 ?_
                  refine lv_aload_n hx hb dX7_stringsOf_63 rfl (lv_at hl 1 rfl) ?_
                  refine gt_X7_7 hx hb hg hown hK hW kd_176 dX7_stringsOf_64 ?_
                  refine lv_iload hx hb dX7_stringsOf_67 (lv_at hl 0 rfl) ?_
                  refine lv_iconst (v := (2 : Int32)) hx hb dX7_stringsOf_69 (by decide) ?_
                  refine lv_iadd hx hb dX7_stringsOf_70 ?_
                  replace hk := ob_s hk
                  obtain ⟨x11, hx11, hk⟩ := hk
                  obtain ⟨hx11, ex11⟩ := rd_s hx11
                  refine w_ald hx hb hK hW (inM kd_177 rfl) (shp10 kd_177) hx11 ex11 dX7_stringsOf_71 ?_
                  refine lv_aload_n hx hb dX7_stringsOf_72 rfl (lv_at hl 1 rfl) ?_
                  refine gt_X7_7 hx hb hg hown hK hW kd_176 dX7_stringsOf_73 ?_
                  refine lv_iload hx hb dX7_stringsOf_76 (lv_at hl 0 rfl) ?_
                  refine lv_iconst (v := (3 : Int32)) hx hb dX7_stringsOf_78 (by decide) ?_
                  refine lv_iadd hx hb dX7_stringsOf_79 ?_
                  replace hk := ob_s hk
                  obtain ⟨x12, hx12, hk⟩ := hk
                  obtain ⟨hx12, ex12⟩ := rd_s hx12
                  refine w_ald hx hb hK hW (inM kd_177 rfl) (shp10 kd_177) hx12 ex12 dX7_stringsOf_80 ?_
                  refine cl_i (rn_S g_1082 g_1083 g_9 g_1084 hd_X7_drops (Nat.le_of_ble_eq_true rfl) hx hb hml hown hg hK hW (As := [.int x2, .int x10, .int x11, .int x12]) (c_X7_drops l G x2 x10 x11 x12 M) (by decide) rfl hl.1 rfl (Nat.le_of_ble_eq_true rfl) dX7_stringsOf_81) hW (fun H locs hW => ?_)
                  refine lv_aload_n hx hb dX7_stringsOf_84 rfl (lv_at hl 1 rfl) ?_
                  refine gt_X7_7 hx hb hg hown hK hW kd_176 dX7_stringsOf_85 ?_
                  refine lv_iload hx hb dX7_stringsOf_88 (lv_at hl 0 rfl) ?_
                  refine lv_iconst (v := (4 : Int32)) hx hb dX7_stringsOf_90 (by decide) ?_
                  refine lv_iadd hx hb dX7_stringsOf_91 ?_
                  replace hk := ob_s hk
                  obtain ⟨x14, hx14, hk⟩ := hk
                  obtain ⟨hx14, ex14⟩ := rd_s hx14
                  refine w_ald hx hb hK hW (inM kd_177 rfl) (shp10 kd_177) hx14 ex14 dX7_stringsOf_92 ?_
                  refine lv_icmp_ne (tgt := 100) hx hb dX7_stringsOf_93 (by decide) (fun c15 => ?_) (fun c15 => ?_)
                  · replace hk := ite_f hk c15
                    refine lv_iconst (v := (0 : Int32)) hx hb dX7_stringsOf_100 (by decide) ?_
                    obtain rfl := Option.some.inj hk
                    exact KJ20 _ _ _ hW (lv_sub hl [1, 2, 3, 4, 6] rfl)
                  · replace hk := ite_t hk c15
                    refine lv_iconst (v := (1 : Int32)) hx hb dX7_stringsOf_96 (by decide) ?_
                    refine lv_goto (tgt := 101) hx hb dX7_stringsOf_97 (by decide) ?_
                    obtain rfl := Option.some.inj hk
                    exact KJ20 _ _ _ hW (lv_sub hl [1, 2, 3, 4, 6] rfl)
        exact LH16 FU _ _ _ _ _ hz29 hW (lv_sub hl [2, 3, 4, 5, 1, 0] rfl)
  exact LH4 FU _ _ _ _ _ hz32 hW (lv_sub hl [2, 3, 1, 0] rfl)
def f_X7_is (a1 : Int32) (M : Mem) : Option (Int32 × Mem) :=
  ob (f_X7_isLimb a1 M) (fun x1 =>
  if x1 = (0 : Int32) then (
    ob2 (f_X7_bad M) (fun x2 M3 =>
    some (x2, M3)))
  else (
    ob (f_X7_stringsOf a1 M) (fun x4 =>
    some (x4, M))))
set_option maxHeartbeats 4000000 in
set_option maxRecDepth 100000 in
theorem c_X7_is (l : Launch) (G : GT) (a1 : Int32) (M : Mem) {r : Int32} {M' : Mem} (hk : f_X7_is a1 M = some (r, M')) : CMi l G false yX7_is cX7_is 2 (some .int) 2 [.ref (ad G 176), .int a1] M r M' := by
  unfold f_X7_is at hk
  refine CMi.of (by decide) (Nat.le_of_ble_eq_true rfl) ?_
  intro p e s m args below meth c Q hx hb hml hown hg hK hW hret ls hl
  have hl : lv_has ls 2 [(0, .ref (ad G 176)), (1, .int a1)] := hl
  refine lv_aload_n hx hb dX7_is_0 rfl (lv_at hl 0 rfl) ?_
  refine lv_iload_n hx hb dX7_is_1 rfl (lv_at hl 1 rfl) ?_
  replace hk := ob_s hk
  obtain ⟨x1, hx1, hk⟩ := hk
  refine cl_i (rn_V g_1033 g_1035 gs_78 g_9 g_1036 hd_X7_isLimb (Nat.le_of_ble_eq_true rfl) (ci := 7) rfl (inM kd_176 rfl) (shp7 kd_176) hx hb hml hown hg hK hW (As := [.int a1]) (c_X7_isLimb l G a1 M hx1) (by decide) rfl hl.1 rfl (Nat.le_of_ble_eq_true rfl) dX7_is_2) hW (fun H locs hW => ?_)
  refine lv_if_eq (tgt := 16) hx hb dX7_is_5 (by decide) (fun c5 => ?_) (fun c5 => ?_)
  · replace hk := ite_t hk c5
    refine lv_aload_n hx hb dX7_is_16 rfl (lv_at hl 0 rfl) ?_
    replace hk := ob2_s hk
    obtain ⟨x2, M3, hx2, hk⟩ := hk
    refine cl_i (rn_V g_924 g_926 gs_62 g_9 g_927 hd_X7_bad (Nat.le_of_ble_eq_true rfl) (ci := 7) rfl (inM kd_176 rfl) (shp7 kd_176) hx hb hml hown hg hK hW (As := []) (c_X7_bad l G M hx2) (by decide) rfl hl.1 rfl (Nat.le_of_ble_eq_true rfl) dX7_is_17) hW (fun H locs hW => ?_)
    obtain ⟨rfl, rfl⟩ := sp2 hk
    exact hret _ _ _ _ hW dX7_is_20
  · replace hk := ite_f hk c5
    refine lv_aload_n hx hb dX7_is_8 rfl (lv_at hl 0 rfl) ?_
    refine lv_iload_n hx hb dX7_is_9 rfl (lv_at hl 1 rfl) ?_
    replace hk := ob_s hk
    obtain ⟨x4, hx4, hk⟩ := hk
    refine cl_i (rn_V g_1200 g_1202 gs_95 g_9 g_1203 hd_X7_stringsOf (Nat.le_of_ble_eq_true rfl) (ci := 7) rfl (inM kd_176 rfl) (shp7 kd_176) hx hb hml hown hg hK hW (As := [.int a1]) (c_X7_stringsOf l G a1 M hx4) (by decide) rfl hl.1 rfl (Nat.le_of_ble_eq_true rfl) dX7_is_10) hW (fun H locs hW => ?_)
    refine lv_goto (tgt := 20) hx hb dX7_is_13 (by decide) ?_
    obtain ⟨rfl, rfl⟩ := sp2 hk
    exact hret _ _ _ _ hW dX7_is_20
def f_X7_look_L62 (a1 : Int32) (x5 : Int32) : Nat → Int32 → Mem → Option (Int32 × Mem)
  | 0, _, _ => none
  | n + 1, x10, M11 =>
    if (6 : Int32) ≤ x10 then (
      some (x10, M11))
    else (
      ob (f_X7_limbOf a1 (5 : Int32) M11) (fun x14 =>
      ob (wr M11 181 x10 (f_X7_drops x10 (x5 - x5 / (100 : Int32) * (100 : Int32)) (x5 / (100 : Int32)) x14)) (fun M16 =>
      lq (x10 + (1 : Int32)) (fun x17 =>
      f_X7_look_L62 a1 x5 n x17 M16))))
def f_X7_look_L31 (a1 : Int32) (x2 : Int32) : Nat → Int32 → Int32 → Int32 → Mem → Option (Int32 × Mem)
  | 0, _, _, _, _ => none
  | n + 1, x3, x4, x5, M6 =>
    if (1000 : Int32) ≤ x5 then (
      some (x3, M6))
    else (
      if x2 = (0 : Int32) then (
        some (x3, M6))
      else (
        ob3 (
          if (f_X7_in ((x5 - x5 / (100 : Int32) * (100 : Int32)).toInt64) (1 : Int64) (20 : Int64)) = (0 : Int32) then (
            some (x3, x4, M6))
          else (
            ob2 (f_X7_look_L62 a1 x5 FU (0 : Int32) M6) (fun x12 M13 =>
            ob (f_X7_parted x2 (6 : Int32) M13) (fun x19 =>
            lq (
              if x4 ≤ x19 then (
                x3)
              else (
                x5))
             (fun x21 =>
            lq (
              if x4 ≤ x19 then (
                x4)
              else (
                x19))
             (fun x23 =>
            some (x21, x23, M13)))))))
         (fun x31 x32 M33 =>
        lq (x5 + (1 : Int32)) (fun x34 =>
        f_X7_look_L31 a1 x2 n x31 x32 x34 M33))))
def f_X7_look (a1 : Int32) (M : Mem) : Option (Int32 × Mem) :=
  ob (f_X7_isLimb a1 M) (fun x1 =>
  if x1 = (0 : Int32) then (
    ob2 (f_X7_bad M) (fun x41 M42 =>
    some (x41, M42)))
  else (
    ob (f_X7_stringsOf a1 M) (fun x2 =>
    ob2 (f_X7_look_L31 a1 x2 FU ((-1001) : Int32) (99 : Int32) (101 : Int32) M) (fun x7 M8 =>
    some (x7, M8)))))
set_option maxHeartbeats 4000000 in
set_option maxRecDepth 100000 in
theorem c_X7_look (l : Launch) (G : GT) (a1 : Int32) (M : Mem) {r : Int32} {M' : Mem} (hk : f_X7_look a1 M = some (r, M')) : CMi l G false yX7_look cX7_look 7 (some .int) 2 [.ref (ad G 176), .int a1] M r M' := by
  unfold f_X7_look at hk
  refine CMi.of (by decide) (Nat.le_of_ble_eq_true rfl) ?_
  intro p e s m args below meth c Q hx hb hml hown hg hK hW hret ls hl
  have hl : lv_has ls 7 [(0, .ref (ad G 176)), (1, .int a1)] := hl
  refine lv_aload_n hx hb dX7_look_0 rfl (lv_at hl 0 rfl) ?_
  refine lv_iload_n hx hb dX7_look_1 rfl (lv_at hl 1 rfl) ?_
  replace hk := ob_s hk
  obtain ⟨x1, hx1, hk⟩ := hk
  refine cl_i (rn_V g_1033 g_1035 gs_78 g_9 g_1036 hd_X7_isLimb (Nat.le_of_ble_eq_true rfl) (ci := 7) rfl (inM kd_176 rfl) (shp7 kd_176) hx hb hml hown hg hK hW (As := [.int a1]) (c_X7_isLimb l G a1 M hx1) (by decide) rfl hl.1 rfl (Nat.le_of_ble_eq_true rfl) dX7_look_2) hW (fun H locs hW => ?_)
  refine lv_if_ne (tgt := 13) hx hb dX7_look_5 (by decide) (fun c43 => ?_) (fun c43 => ?_)
  · replace hk := ite_f hk c43
    refine lv_aload_n hx hb dX7_look_13 rfl (lv_at hl 0 rfl) ?_
    refine lv_iload_n hx hb dX7_look_14 rfl (lv_at hl 1 rfl) ?_
    replace hk := ob_s hk
    obtain ⟨x2, hx2, hk⟩ := hk
    refine cl_i (rn_V g_1200 g_1202 gs_95 g_9 g_1203 hd_X7_stringsOf (Nat.le_of_ble_eq_true rfl) (ci := 7) rfl (inM kd_176 rfl) (shp7 kd_176) hx hb hml hown hg hK hW (As := [.int a1]) (c_X7_stringsOf l G a1 M hx2) (by decide) rfl hl.1 rfl (Nat.le_of_ble_eq_true rfl) dX7_look_15) hW (fun H locs hW => ?_)
    refine lv_istore_n (lv' := [(2, .int x2), (0, .ref (ad G 176)), (1, .int a1)]) hx hb dX7_look_18 rfl hl (by decide) rfl (fun ls hl => ?_)
    refine lv_sipush (v := ((-1001) : Int32)) hx hb dX7_look_19 (by decide) ?_
    refine lv_istore_n (lv' := [(3, .int ((-1001) : Int32)), (2, .int x2), (0, .ref (ad G 176)), (1, .int a1)]) hx hb dX7_look_22 rfl hl (by decide) rfl (fun ls hl => ?_)
    refine lv_bipush (v := (99 : Int32)) hx hb dX7_look_23 (by decide) ?_
    refine lv_istore (lv' := [(4, .int (99 : Int32)), (3, .int ((-1001) : Int32)), (2, .int x2), (0, .ref (ad G 176)), (1, .int a1)]) hx hb dX7_look_25 hl (by decide) rfl (fun ls hl => ?_)
    refine lv_bipush (v := (101 : Int32)) hx hb dX7_look_27 (by decide) ?_
    refine lv_istore (lv' := [(5, .int (101 : Int32)), (4, .int (99 : Int32)), (3, .int ((-1001) : Int32)), (2, .int x2), (0, .ref (ad G 176)), (1, .int a1)]) hx hb dX7_look_29 hl (by decide) rfl (fun ls hl => ?_)
    replace hk := ob2_s hk
    obtain ⟨x7, M8, hz39, hk⟩ := hk
    have KX31 : ∀ (H : Heap) (locs : List Loc) (ls : Array Slot), Ws G false M8 s H locs → lv_has ls 7 [(3, .int x7)] → Wx p l e 2 s m args below meth c Q H locs 148 ls [] := by
      intro H locs ls hW hl
      refine lv_iload_n hx hb dX7_look_148 rfl (lv_at hl 0 rfl) ?_
      obtain ⟨rfl, rfl⟩ := sp2 hk
      exact hret _ _ _ _ hW dX7_look_149
    clear hk
    have LH31 : ∀ (n : Nat) (x3 : Int32) (x4 : Int32) (x5 : Int32) (M6 : Mem) (H : Heap) (locs : List Loc) (ls : Array Slot), f_X7_look_L31 a1 x2 n x3 x4 x5 M6 = some (x7, M8) → Ws G false M6 s H locs → lv_has ls 7 [(0, .ref (ad G 176)), (1, .int a1), (2, .int x2), (3, .int x3), (4, .int x4), (5, .int x5)] → Wx p l e 2 s m args below meth c Q H locs 31 ls [] := by
      clear hz39
      intro n
      induction n with
      | zero => intro _ _ _ _ _ _ _ hk; cases hk
      | succ n ih31 =>
        intro x3 x4 x5 M6 H locs ls hk hW hl
        rw [f_X7_look_L31.eq_2] at hk
        refine lv_iload hx hb dX7_look_31 (lv_at hl 5 rfl) ?_
        refine lv_sipush (v := (1000 : Int32)) hx hb dX7_look_33 (by decide) ?_
        refine lv_icmp_ge (tgt := 148) hx hb dX7_look_36 (by decide) (fun c38 => ?_) (fun c38 => ?_)
        · replace hk := ite_t hk c38
          obtain ⟨rfl, rfl⟩ := sp2 hk
          exact KX31 _ _ _ hW (lv_sub hl [3] rfl)
        · replace hk := ite_f hk c38
          refine lv_iload_n hx hb dX7_look_39 rfl (lv_at hl 2 rfl) ?_
          refine lv_if_eq (tgt := 148) hx hb dX7_look_40 (by decide) (fun c37 => ?_) (fun c37 => ?_)
          · replace hk := ite_t hk c37
            obtain ⟨rfl, rfl⟩ := sp2 hk
            exact KX31 _ _ _ hW (lv_sub hl [3] rfl)
          · replace hk := ite_f hk c37
            refine lv_iload hx hb dX7_look_43 (lv_at hl 5 rfl) ?_
            refine lv_bipush (v := (100 : Int32)) hx hb dX7_look_45 (by decide) ?_
            refine lv_irem hx hb dX7_look_47 (by decide) ?_
            refine lv_i2l hx hb dX7_look_48 rfl ?_
            refine lv_lconst (v := (1 : Int64)) hx hb dX7_look_49 (by decide) ?_
            refine lv_ldc2 hx hb hown (hg _ g_937) dX7_look_50 ?_
            refine cl_i (rn_S g_921 g_922 g_9 g_923 hd_X7_in (Nat.le_of_ble_eq_true rfl) hx hb hml hown hg hK hW (As := [.long ((x5 - x5 / (100 : Int32) * (100 : Int32)).toInt64), .long (1 : Int64), .long (20 : Int64)]) (c_X7_in l G ((x5 - x5 / (100 : Int32) * (100 : Int32)).toInt64) (1 : Int64) (20 : Int64) M6) (by decide) rfl hl.1 rfl (Nat.le_of_ble_eq_true rfl) dX7_look_53) hW (fun H locs hW => ?_)
            replace hk := ob3_s hk
            obtain ⟨x31, x32, M33, hr36, hk⟩ := hk
            have KJ35 : ∀ (H : Heap) (locs : List Loc) (ls : Array Slot), Ws G false M33 s H locs → lv_has ls 7 [(0, .ref (ad G 176)), (1, .int a1), (2, .int x2), (3, .int x31), (4, .int x32), (5, .int x5)] → Wx p l e 2 s m args below meth c Q H locs 142 ls [] := by
              intro H locs ls hW hl
              replace hk := lq_s hk
              obtain ⟨x34, ex34, hk⟩ := hk
              refine lv_iinc (v := x34) (lv' := [(5, .int x34), (0, .ref (ad G 176)), (1, .int a1), (2, .int x2), (3, .int x31), (4, .int x32)]) hx hb dX7_look_142 hl (k := 5) rfl (by rw [ex34]; rfl) (by decide) rfl (fun ls hl => ?_)
              refine lv_goto (tgt := 31) hx hb dX7_look_145 (by decide) ?_
              exact ih31 _ _ _ _ _ _ _ hk hW (lv_sub hl [1, 2, 3, 4, 5, 0] rfl)
            clear hk
            have hk := hr36
            clear hr36
            refine lv_if_eq (tgt := 142) hx hb dX7_look_56 (by decide) (fun c30 => ?_) (fun c30 => ?_)
            · replace hk := ite_t hk c30
              obtain ⟨rfl, rfl, rfl⟩ := sp3 hk
              exact KJ35 _ _ _ hW (lv_sub hl [0, 1, 2, 3, 4, 5] rfl)
            · replace hk := ite_f hk c30
              refine lv_iconst (v := (0 : Int32)) hx hb dX7_look_59 (by decide) ?_
              refine lv_istore (lv' := [(6, .int (0 : Int32)), (0, .ref (ad G 176)), (1, .int a1), (2, .int x2), (3, .int x3), (4, .int x4), (5, .int x5)]) hx hb dX7_look_60 hl (by decide) rfl (fun ls hl => ?_)
              replace hk := ob2_s hk
              obtain ⟨x12, M13, hz28, hk⟩ := hk
              have KX62 : ∀ (H : Heap) (locs : List Loc) (ls : Array Slot), Ws G false M13 s H locs → lv_has ls 7 [(0, .ref (ad G 176)), (1, .int a1), (2, .int x2), (3, .int x3), (4, .int x4), (5, .int x5)] → Wx p l e 2 s m args below meth c Q H locs 103 ls [] := by
                intro H locs ls hW hl
                refine lv_aload_n hx hb dX7_look_103 rfl (lv_at hl 0 rfl) ?_
                refine lv_iload_n hx hb dX7_look_104 rfl (lv_at hl 2 rfl) ?_
                refine lv_bipush (v := (6 : Int32)) hx hb dX7_look_105 (by decide) ?_
                replace hk := ob_s hk
                obtain ⟨x19, hx19, hk⟩ := hk
                refine cl_i (rn_V g_1192 g_1194 gs_94 g_9 g_1195 hd_X7_parted (Nat.le_of_ble_eq_true rfl) (ci := 7) rfl (inM kd_176 rfl) (shp7 kd_176) hx hb hml hown hg hK hW (As := [.int x2, .int (6 : Int32)]) (c_X7_parted l G x2 (6 : Int32) M13 hx19) (by decide) rfl hl.1 rfl (Nat.le_of_ble_eq_true rfl) dX7_look_107) hW (fun H locs hW => ?_)
                refine lv_istore (lv' := [(6, .int x19), (0, .ref (ad G 176)), (1, .int a1), (2, .int x2), (3, .int x3), (4, .int x4), (5, .int x5)]) hx hb dX7_look_110 hl (by decide) rfl (fun ls hl => ?_)
                refine lv_iload hx hb dX7_look_112 (lv_at hl 0 rfl) ?_
                refine lv_iload hx hb dX7_look_114 (lv_at hl 5 rfl) ?_
                replace hk := lq_s hk
                obtain ⟨x21, hr27, hk⟩ := hk
                have KJ26 : ∀ (H : Heap) (locs : List Loc) (ls : Array Slot), Ws G false M13 s H locs → lv_has ls 7 [(0, .ref (ad G 176)), (1, .int a1), (2, .int x2), (4, .int x4), (5, .int x5), (6, .int x19)] → Wx p l e 2 s m args below meth c Q H locs 125 ls [.int x21] := by
                  intro H locs ls hW hl
                  refine lv_istore_n (lv' := [(3, .int x21), (0, .ref (ad G 176)), (1, .int a1), (2, .int x2), (4, .int x4), (5, .int x5), (6, .int x19)]) hx hb dX7_look_125 rfl hl (by decide) rfl (fun ls hl => ?_)
                  refine lv_iload hx hb dX7_look_126 (lv_at hl 6 rfl) ?_
                  refine lv_iload hx hb dX7_look_128 (lv_at hl 4 rfl) ?_
                  replace hk := lq_s hk
                  obtain ⟨x23, hr25, hk⟩ := hk
                  have KJ24 : ∀ (H : Heap) (locs : List Loc) (ls : Array Slot), Ws G false M13 s H locs → lv_has ls 7 [(0, .ref (ad G 176)), (1, .int a1), (2, .int x2), (3, .int x21), (5, .int x5)] → Wx p l e 2 s m args below meth c Q H locs 140 ls [.int x23] := by
                    intro H locs ls hW hl
                    refine lv_istore (lv' := [(4, .int x23), (0, .ref (ad G 176)), (1, .int a1), (2, .int x2), (3, .int x21), (5, .int x5)]) hx hb dX7_look_140 hl (by decide) rfl (fun ls hl => ?_)
                    obtain ⟨rfl, rfl, rfl⟩ := sp3 hk
                    exact KJ35 _ _ _ hW (lv_sub hl [1, 2, 3, 4, 0, 5] rfl)
                  clear hk
                  have hk := hr25.symm
                  clear hr25
                  refine lv_icmp_ge (tgt := 138) hx hb dX7_look_130 (by decide) (fun c22 => ?_) (fun c22 => ?_)
                  · replace hk := ite_t hk c22
                    refine lv_iload hx hb dX7_look_138 (lv_at hl 4 rfl) ?_
                    subst hk
                    exact KJ24 _ _ _ hW (lv_sub hl [1, 2, 3, 0, 5] rfl)
                  · replace hk := ite_f hk c22
                    refine lv_iload hx hb dX7_look_133 (lv_at hl 6 rfl) ?_
                    refine lv_goto (tgt := 140) hx hb dX7_look_135 (by decide) ?_
                    subst hk
                    exact KJ24 _ _ _ hW (lv_sub hl [1, 2, 3, 0, 5] rfl)
                clear hk
                have hk := hr27.symm
                clear hr27
                refine lv_icmp_ge (tgt := 124) hx hb dX7_look_116 (by decide) (fun c20 => ?_) (fun c20 => ?_)
                · replace hk := ite_t hk c20
                  refine lv_iload_n hx hb dX7_look_124 rfl (lv_at hl 4 rfl) ?_
                  subst hk
                  exact KJ26 _ _ _ hW (lv_sub hl [1, 2, 3, 5, 6, 0] rfl)
                · replace hk := ite_f hk c20
                  refine lv_iload hx hb dX7_look_119 (lv_at hl 6 rfl) ?_
                  refine lv_goto (tgt := 125) hx hb dX7_look_121 (by decide) ?_
                  subst hk
                  exact KJ26 _ _ _ hW (lv_sub hl [1, 2, 3, 5, 6, 0] rfl)
              clear hk
              have LH62 : ∀ (n : Nat) (x10 : Int32) (M11 : Mem) (H : Heap) (locs : List Loc) (ls : Array Slot), f_X7_look_L62 a1 x5 n x10 M11 = some (x12, M13) → Ws G false M11 s H locs → lv_has ls 7 [(0, .ref (ad G 176)), (1, .int a1), (2, .int x2), (3, .int x3), (4, .int x4), (5, .int x5), (6, .int x10)] → Wx p l e 2 s m args below meth c Q H locs 62 ls [] := by
                clear hz28
                intro n
                induction n with
                | zero => intro _ _ _ _ _ hk; cases hk
                | succ n ih62 =>
                  intro x10 M11 H locs ls hk hW hl
                  rw [f_X7_look_L62.eq_2] at hk
                  refine lv_iload hx hb dX7_look_62 (lv_at hl 6 rfl) ?_
                  refine lv_bipush (v := (6 : Int32)) hx hb dX7_look_64 (by decide) ?_
                  refine lv_icmp_ge (tgt := 103) hx hb dX7_look_66 (by decide) (fun c18 => ?_) (fun c18 => ?_)
                  · replace hk := ite_t hk c18
                    obtain ⟨rfl, rfl⟩ := sp2 hk
                    exact KX62 _ _ _ hW (lv_sub hl [0, 1, 2, 3, 4, 5] rfl)
                  · replace hk := ite_f hk c18
                    refine lv_aload_n hx hb dX7_look_69 rfl (lv_at hl 0 rfl) ?_
                    refine gt_X7_26 hx hb hg hown hK hW kd_176 dX7_look_70 ?_
                    refine lv_iload hx hb dX7_look_73 (lv_at hl 6 rfl) ?_
                    refine lv_iload hx hb dX7_look_75 (lv_at hl 6 rfl) ?_
                    refine lv_iload hx hb dX7_look_77 (lv_at hl 5 rfl) ?_
                    refine lv_bipush (v := (100 : Int32)) hx hb dX7_look_79 (by decide) ?_
                    refine lv_irem hx hb dX7_look_81 (by decide) ?_
                    refine lv_iload hx hb dX7_look_82 (lv_at hl 5 rfl) ?_
                    refine lv_bipush (v := (100 : Int32)) hx hb dX7_look_84 (by decide) ?_
                    refine lv_idiv hx hb dX7_look_86 (by decide) ?_
                    refine lv_aload_n hx hb dX7_look_87 rfl (lv_at hl 0 rfl) ?_
                    refine lv_iload_n hx hb dX7_look_88 rfl (lv_at hl 1 rfl) ?_
                    refine lv_iconst (v := (5 : Int32)) hx hb dX7_look_89 (by decide) ?_
                    replace hk := ob_s hk
                    obtain ⟨x14, hx14, hk⟩ := hk
                    refine cl_i (rn_V g_1029 g_1031 gs_77 g_9 g_1032 hd_X7_limbOf (Nat.le_of_ble_eq_true rfl) (ci := 7) rfl (inM kd_176 rfl) (shp7 kd_176) hx hb hml hown hg hK hW (As := [.int a1, .int (5 : Int32)]) (c_X7_limbOf l G a1 (5 : Int32) M11 hx14) (by decide) rfl hl.1 rfl (Nat.le_of_ble_eq_true rfl) dX7_look_90) hW (fun H locs hW => ?_)
                    refine cl_i (rn_S g_1082 g_1083 g_9 g_1084 hd_X7_drops (Nat.le_of_ble_eq_true rfl) hx hb hml hown hg hK hW (As := [.int x10, .int (x5 - x5 / (100 : Int32) * (100 : Int32)), .int (x5 / (100 : Int32)), .int x14]) (c_X7_drops l G x10 (x5 - x5 / (100 : Int32) * (100 : Int32)) (x5 / (100 : Int32)) x14 M11) (by decide) rfl hl.1 rfl (Nat.le_of_ble_eq_true rfl) dX7_look_93) hW (fun H locs hW => ?_)
                    replace hk := ob_s hk
                    obtain ⟨M16, hM16, hk⟩ := hk
                    obtain ⟨hM16, eM16⟩ := wr_s hM16
                    refine w_ast hx hb hK hW (inM kd_181 rfl) (fun _ => (shp10 kd_181)) hM16 eM16 dX7_look_96 (fun H locs hW => ?_)
                    replace hk := lq_s hk
                    obtain ⟨x17, ex17, hk⟩ := hk
                    refine lv_iinc (v := x17) (lv' := [(6, .int x17), (0, .ref (ad G 176)), (1, .int a1), (2, .int x2), (3, .int x3), (4, .int x4), (5, .int x5)]) hx hb dX7_look_97 hl (k := 6) rfl (by rw [ex17]; rfl) (by decide) rfl (fun ls hl => ?_)
                    refine lv_goto (tgt := 62) hx hb dX7_look_100 (by decide) ?_
                    exact ih62 _ _ _ _ _ hk hW (lv_sub hl [1, 2, 3, 4, 5, 6, 0] rfl)
              exact LH62 FU _ _ _ _ _ hz28 hW (lv_sub hl [1, 2, 3, 4, 5, 6, 0] rfl)
    exact LH31 FU _ _ _ _ _ _ _ hz39 hW (lv_sub hl [4, 5, 3, 2, 1, 0] rfl)
  · replace hk := ite_t hk c43
    refine lv_aload_n hx hb dX7_look_8 rfl (lv_at hl 0 rfl) ?_
    replace hk := ob2_s hk
    obtain ⟨x41, M42, hx41, hk⟩ := hk
    refine cl_i (rn_V g_924 g_926 gs_62 g_9 g_927 hd_X7_bad (Nat.le_of_ble_eq_true rfl) (ci := 7) rfl (inM kd_176 rfl) (shp7 kd_176) hx hb hml hown hg hK hW (As := []) (c_X7_bad l G M hx41) (by decide) rfl hl.1 rfl (Nat.le_of_ble_eq_true rfl) dX7_look_9) hW (fun H locs hW => ?_)
    obtain ⟨rfl, rfl⟩ := sp2 hk
    exact hret _ _ _ _ hW dX7_look_12
def f_X7_kindsOf_L16 (a1 : Int32) (M : Mem) (x2 : Int32) : Nat → Int32 → Int32 → Option (Int32)
  | 0, _, _ => none
  | n + 1, x4, x5 =>
    ob (rd M 177 (122 : Int32)) (fun x7 =>
    if x7 ≤ x5 then (
      some x4)
    else (
      lq ((123 : Int32) + ((4 : Int32) * x5)) (fun x8 =>
      ob (
        if x4 = (0 : Int32) then (
          some (0 : Int32))
        else (
          ob (rd M 177 x8) (fun x9 =>
          if x9 = a1 then (
            ob (rd M 177 (x8 + (1 : Int32))) (fun x10 =>
            ob (rd M 177 (x8 + (2 : Int32))) (fun x11 =>
            ob (rd M 177 (x8 + (3 : Int32))) (fun x13 =>
            if (f_X7_comesTo x2 x10 x11) = x13 then (
              some (1 : Int32))
            else (
              some (0 : Int32))))))
          else (
            some (1 : Int32)))))
       (fun x17 =>
      lq (x5 + (1 : Int32)) (fun x18 =>
      f_X7_kindsOf_L16 a1 M x2 n x17 x18)))))
def f_X7_kindsOf_L4 (a1 : Int32) (M : Mem) : Nat → Int32 → Int32 → Option (Int32)
  | 0, _, _ => none
  | n + 1, x1, x2 =>
    if (6 : Int32) ≤ x2 then (
      some x1)
    else (
      ob (f_X7_kindsOf_L16 a1 M x2 FU (1 : Int32) (0 : Int32)) (fun x6 =>
      lq (
        if x6 = (0 : Int32) then (
          (0 : Int32))
        else (
          ((1 : Int32) <<< (x2 &&& 31))))
       (fun x23 =>
      lq (x1 ||| x23) (fun x24 =>
      lq (x2 + (1 : Int32)) (fun x25 =>
      f_X7_kindsOf_L4 a1 M n x24 x25)))))
def f_X7_kindsOf (a1 : Int32) (M : Mem) : Option (Int32) :=
  ob (f_X7_kindsOf_L4 a1 M FU (0 : Int32) (0 : Int32)) (fun x3 =>
  some x3)
set_option maxHeartbeats 4000000 in
set_option maxRecDepth 100000 in
theorem c_X7_kindsOf (l : Launch) (G : GT) (a1 : Int32) (M : Mem) {r : Int32} (hk : f_X7_kindsOf a1 M = some r) : CMi l G false yX7_kindsOf cX7_kindsOf 7 (some .int) 1 [.ref (ad G 176), .int a1] M r M := by
  unfold f_X7_kindsOf at hk
  refine CMi.of (by decide) (Nat.le_of_ble_eq_true rfl) ?_
  intro p e s m args below meth c Q hx hb hml hown hg hK hW hret ls hl
  have hl : lv_has ls 7 [(0, .ref (ad G 176)), (1, .int a1)] := hl
  refine lv_iconst (v := (0 : Int32)) hx hb dX7_kindsOf_0 (by decide) ?_
  refine lv_istore_n (lv' := [(2, .int (0 : Int32)), (0, .ref (ad G 176)), (1, .int a1)]) hx hb dX7_kindsOf_1 rfl hl (by decide) rfl (fun ls hl => ?_)
  refine lv_iconst (v := (0 : Int32)) hx hb dX7_kindsOf_2 (by decide) ?_
  refine lv_istore_n (lv' := [(3, .int (0 : Int32)), (2, .int (0 : Int32)), (0, .ref (ad G 176)), (1, .int a1)]) hx hb dX7_kindsOf_3 rfl hl (by decide) rfl (fun ls hl => ?_)
  replace hk := ob_s hk
  obtain ⟨x3, hz31, hk⟩ := hk
  have KX4 : ∀ (H : Heap) (locs : List Loc) (ls : Array Slot), Ws G false M s H locs → lv_has ls 7 [(2, .int x3)] → Wx p l e 1 s m args below meth c Q H locs 121 ls [] := by
    intro H locs ls hW hl
    refine lv_iload_n hx hb dX7_kindsOf_121 rfl (lv_at hl 0 rfl) ?_
    obtain rfl := Option.some.inj hk
    exact hret _ _ _ _ hW dX7_kindsOf_122
  clear hk
  have LH4 : ∀ (n : Nat) (x1 : Int32) (x2 : Int32) (H : Heap) (locs : List Loc) (ls : Array Slot), f_X7_kindsOf_L4 a1 M n x1 x2 = some x3 → Ws G false M s H locs → lv_has ls 7 [(0, .ref (ad G 176)), (1, .int a1), (2, .int x1), (3, .int x2)] → Wx p l e 1 s m args below meth c Q H locs 4 ls [] := by
    clear hz31
    intro n
    induction n with
    | zero => intro _ _ _ _ _ hk; cases hk
    | succ n ih4 =>
      intro x1 x2 H locs ls hk hW hl
      rw [f_X7_kindsOf_L4.eq_2] at hk
      refine lv_iload_n hx hb dX7_kindsOf_4 rfl (lv_at hl 3 rfl) ?_
      refine lv_bipush (v := (6 : Int32)) hx hb dX7_kindsOf_5 (by decide) ?_
      refine lv_icmp_ge (tgt := 121) hx hb dX7_kindsOf_7 (by decide) (fun c30 => ?_) (fun c30 => ?_)
      · replace hk := ite_t hk c30
        obtain rfl := Option.some.inj hk
        exact KX4 _ _ _ hW (lv_sub hl [2] rfl)
      · replace hk := ite_f hk c30
        refine lv_iconst (v := (1 : Int32)) hx hb dX7_kindsOf_10 (by decide) ?_
        refine lv_istore (lv' := [(4, .int (1 : Int32)), (0, .ref (ad G 176)), (1, .int a1), (2, .int x1), (3, .int x2)]) hx hb dX7_kindsOf_11 hl (by decide) rfl (fun ls hl => ?_)
        refine lv_iconst (v := (0 : Int32)) hx hb dX7_kindsOf_13 (by decide) ?_
        refine lv_istore (lv' := [(5, .int (0 : Int32)), (4, .int (1 : Int32)), (0, .ref (ad G 176)), (1, .int a1), (2, .int x1), (3, .int x2)]) hx hb dX7_kindsOf_14 hl (by decide) rfl (fun ls hl => ?_)
        replace hk := ob_s hk
        obtain ⟨x6, hz28, hk⟩ := hk
        have KX16 : ∀ (H : Heap) (locs : List Loc) (ls : Array Slot), Ws G false M s H locs → lv_has ls 7 [(0, .ref (ad G 176)), (1, .int a1), (2, .int x1), (3, .int x2), (4, .int x6)] → Wx p l e 1 s m args below meth c Q H locs 100 ls [] := by
          intro H locs ls hW hl
          refine lv_iload_n hx hb dX7_kindsOf_100 rfl (lv_at hl 2 rfl) ?_
          refine lv_iload hx hb dX7_kindsOf_101 (lv_at hl 4 rfl) ?_
          replace hk := lq_s hk
          obtain ⟨x23, hr27, hk⟩ := hk
          have KJ26 : ∀ (H : Heap) (locs : List Loc) (ls : Array Slot), Ws G false M s H locs → lv_has ls 7 [(0, .ref (ad G 176)), (1, .int a1), (3, .int x2)] → Wx p l e 1 s m args below meth c Q H locs 113 ls [.int x23, .int x1] := by
            intro H locs ls hW hl
            refine lv_ior hx hb dX7_kindsOf_113 ?_
            replace hk := lq_s hk
            obtain ⟨x24, ex24, hk⟩ := hk
            refine nm_i ex24 ?_
            refine lv_istore_n (lv' := [(2, .int x24), (0, .ref (ad G 176)), (1, .int a1), (3, .int x2)]) hx hb dX7_kindsOf_114 rfl hl (by decide) rfl (fun ls hl => ?_)
            replace hk := lq_s hk
            obtain ⟨x25, ex25, hk⟩ := hk
            refine lv_iinc (v := x25) (lv' := [(3, .int x25), (2, .int x24), (0, .ref (ad G 176)), (1, .int a1)]) hx hb dX7_kindsOf_115 hl (k := 3) rfl (by rw [ex25]; rfl) (by decide) rfl (fun ls hl => ?_)
            refine lv_goto (tgt := 4) hx hb dX7_kindsOf_118 (by decide) ?_
            exact ih4 _ _ _ _ _ hk hW (lv_sub hl [2, 3, 1, 0] rfl)
          clear hk
          have hk := hr27.symm
          clear hr27
          refine lv_if_eq (tgt := 112) hx hb dX7_kindsOf_103 (by decide) (fun c22 => ?_) (fun c22 => ?_)
          · replace hk := ite_t hk c22
            refine lv_iconst (v := (0 : Int32)) hx hb dX7_kindsOf_112 (by decide) ?_
            subst hk
            exact KJ26 _ _ _ hW (lv_sub hl [0, 1, 3] rfl)
          · replace hk := ite_f hk c22
            refine lv_iconst (v := (1 : Int32)) hx hb dX7_kindsOf_106 (by decide) ?_
            refine lv_iload_n hx hb dX7_kindsOf_107 rfl (lv_at hl 3 rfl) ?_
            refine lv_ishl hx hb dX7_kindsOf_108 ?_
            refine lv_goto (tgt := 113) hx hb dX7_kindsOf_109 (by decide) ?_
            subst hk
            exact KJ26 _ _ _ hW (lv_sub hl [0, 1, 3] rfl)
        clear hk
        have LH16 : ∀ (n : Nat) (x4 : Int32) (x5 : Int32) (H : Heap) (locs : List Loc) (ls : Array Slot), f_X7_kindsOf_L16 a1 M x2 n x4 x5 = some x6 → Ws G false M s H locs → lv_has ls 7 [(0, .ref (ad G 176)), (1, .int a1), (2, .int x1), (3, .int x2), (4, .int x4), (5, .int x5)] → Wx p l e 1 s m args below meth c Q H locs 16 ls [] := by
          clear hz28
          intro n
          induction n with
          | zero => intro _ _ _ _ _ hk; cases hk
          | succ n ih16 =>
            intro x4 x5 H locs ls hk hW hl
            rw [f_X7_kindsOf_L16.eq_2] at hk
            refine lv_iload hx hb dX7_kindsOf_16 (lv_at hl 5 rfl) ?_
            refine lv_aload_n hx hb dX7_kindsOf_18 rfl (lv_at hl 0 rfl) ?_
            refine gt_X7_7 hx hb hg hown hK hW kd_176 dX7_kindsOf_19 ?_
            refine lv_bipush (v := (122 : Int32)) hx hb dX7_kindsOf_22 (by decide) ?_
            replace hk := ob_s hk
            obtain ⟨x7, hx7, hk⟩ := hk
            obtain ⟨hx7, ex7⟩ := rd_s hx7
            refine w_ald hx hb hK hW (inM kd_177 rfl) (shp10 kd_177) hx7 ex7 dX7_kindsOf_24 ?_
            refine lv_icmp_ge (tgt := 100) hx hb dX7_kindsOf_25 (by decide) (fun c21 => ?_) (fun c21 => ?_)
            · replace hk := ite_t hk c21
              obtain rfl := Option.some.inj hk
              exact KX16 _ _ _ hW (lv_sub hl [0, 1, 2, 3, 4] rfl)
            · replace hk := ite_f hk c21
              refine lv_bipush (v := (123 : Int32)) hx hb dX7_kindsOf_28 (by decide) ?_
              refine lv_iconst (v := (4 : Int32)) hx hb dX7_kindsOf_30 (by decide) ?_
              refine lv_iload hx hb dX7_kindsOf_31 (lv_at hl 5 rfl) ?_
              refine lv_imul hx hb dX7_kindsOf_33 ?_
              refine lv_iadd hx hb dX7_kindsOf_34 ?_
              replace hk := lq_s hk
              obtain ⟨x8, ex8, hk⟩ := hk
              refine nm_i ex8 ?_
              refine lv_istore (lv' := [(6, .int x8), (0, .ref (ad G 176)), (1, .int a1), (2, .int x1), (3, .int x2), (4, .int x4), (5, .int x5)]) hx hb dX7_kindsOf_35 hl (by decide) rfl (fun ls hl => ?_)
              refine lv_iload hx hb dX7_kindsOf_37 (lv_at hl 5 rfl) ?_
              replace hk := ob_s hk
              obtain ⟨x17, hr20, hk⟩ := hk
              have KJ19 : ∀ (H : Heap) (locs : List Loc) (ls : Array Slot), Ws G false M s H locs → lv_has ls 7 [(0, .ref (ad G 176)), (1, .int a1), (2, .int x1), (3, .int x2), (5, .int x5)] → Wx p l e 1 s m args below meth c Q H locs 92 ls [.int x17] := by
                intro H locs ls hW hl
                refine lv_istore (lv' := [(4, .int x17), (0, .ref (ad G 176)), (1, .int a1), (2, .int x1), (3, .int x2), (5, .int x5)]) hx hb dX7_kindsOf_92 hl (by decide) rfl (fun ls hl => ?_)
                replace hk := lq_s hk
                obtain ⟨x18, ex18, hk⟩ := hk
                refine lv_iinc (v := x18) (lv' := [(5, .int x18), (4, .int x17), (0, .ref (ad G 176)), (1, .int a1), (2, .int x1), (3, .int x2)]) hx hb dX7_kindsOf_94 hl (k := 5) rfl (by rw [ex18]; rfl) (by decide) rfl (fun ls hl => ?_)
                refine lv_goto (tgt := 16) hx hb dX7_kindsOf_97 (by decide) ?_
                exact ih16 _ _ _ _ _ hk hW (lv_sub hl [2, 3, 4, 5, 1, 0] rfl)
              clear hk
              have hk := hr20
              clear hr20
              refine lv_if_eq (tgt := 91) hx hb dX7_kindsOf_39 (by decide) (fun c16 => ?_) (fun c16 => ?_)
              · replace hk := ite_t hk c16
                refine lv_iconst (v := (0 : Int32)) hx hb dX7_kindsOf_91 (by decide) ?_
                obtain rfl := Option.some.inj hk
                exact KJ19 _ _ _ hW (lv_sub hl [1, 2, 3, 4, 6] rfl)
              · replace hk := ite_f hk c16
                refine lv_aload_n hx hb dX7_kindsOf_42 rfl (lv_at hl 1 rfl) ?_
                refine gt_X7_7 hx hb hg hown hK hW kd_176 dX7_kindsOf_43 ?_
                refine lv_iload hx hb dX7_kindsOf_46 (lv_at hl 0 rfl) ?_
                replace hk := ob_s hk
                obtain ⟨x9, hx9, hk⟩ := hk
                obtain ⟨hx9, ex9⟩ := rd_s hx9
                refine w_ald hx hb hK hW (inM kd_177 rfl) (shp10 kd_177) hx9 ex9 dX7_kindsOf_48 ?_
                refine lv_iload_n hx hb dX7_kindsOf_49 rfl (lv_at hl 2 rfl) ?_
                refine lv_icmp_ne (tgt := 87) hx hb dX7_kindsOf_50 (by decide) (fun c15 => ?_) (fun c15 => ?_)
                · replace hk := ite_f hk c15
                  refine lv_iconst (v := (1 : Int32)) hx hb dX7_kindsOf_87 (by decide) ?_
                  refine lv_goto (tgt := 92) hx hb dX7_kindsOf_88 (by decide) ?_
                  obtain rfl := Option.some.inj hk
                  exact KJ19 _ _ _ hW (lv_sub hl [1, 2, 3, 4, 6] rfl)
                · replace hk := ite_t hk c15
                  refine lv_iload_n hx hb dX7_kindsOf_53 rfl (lv_at hl 4 rfl) ?_
                  refine lv_aload_n hx hb dX7_kindsOf_54 rfl (lv_at hl 1 rfl) ?_
                  refine gt_X7_7 hx hb hg hown hK hW kd_176 dX7_kindsOf_55 ?_
                  refine lv_iload hx hb dX7_kindsOf_58 (lv_at hl 0 rfl) ?_
                  refine lv_iconst (v := (1 : Int32)) hx hb dX7_kindsOf_60 (by decide) ?_
                  refine lv_iadd hx hb dX7_kindsOf_61 ?_
                  replace hk := ob_s hk
                  obtain ⟨x10, hx10, hk⟩ := hk
                  obtain ⟨hx10, ex10⟩ := rd_s hx10
                  refine w_ald hx hb hK hW (inM kd_177 rfl) (shp10 kd_177) hx10 ex10 dX7_kindsOf_62 ?_
                  refine lv_aload_n hx hb dX7_kindsOf_63 rfl (lv_at hl 1 rfl) ?_
                  refine gt_X7_7 hx hb hg hown hK hW kd_176 dX7_kindsOf_64 ?_
                  refine lv_iload hx hb dX7_kindsOf_67 (lv_at hl 0 rfl) ?_
                  refine lv_iconst (v := (2 : Int32)) hx hb dX7_kindsOf_69 (by decide) ?_
                  refine lv_iadd hx hb dX7_kindsOf_70 ?_
                  replace hk := ob_s hk
                  obtain ⟨x11, hx11, hk⟩ := hk
                  obtain ⟨hx11, ex11⟩ := rd_s hx11
                  refine w_ald hx hb hK hW (inM kd_177 rfl) (shp10 kd_177) hx11 ex11 dX7_kindsOf_71 ?_
                  refine cl_i (rn_S g_1085 g_1086 g_9 g_1087 hd_X7_comesTo (Nat.le_of_ble_eq_true rfl) hx hb hml hown hg hK hW (As := [.int x2, .int x10, .int x11]) (c_X7_comesTo l G x2 x10 x11 M) (by decide) rfl hl.1 rfl (Nat.le_of_ble_eq_true rfl) dX7_kindsOf_72) hW (fun H locs hW => ?_)
                  refine lv_aload_n hx hb dX7_kindsOf_75 rfl (lv_at hl 1 rfl) ?_
                  refine gt_X7_7 hx hb hg hown hK hW kd_176 dX7_kindsOf_76 ?_
                  refine lv_iload hx hb dX7_kindsOf_79 (lv_at hl 0 rfl) ?_
                  refine lv_iconst (v := (3 : Int32)) hx hb dX7_kindsOf_81 (by decide) ?_
                  refine lv_iadd hx hb dX7_kindsOf_82 ?_
                  replace hk := ob_s hk
                  obtain ⟨x13, hx13, hk⟩ := hk
                  obtain ⟨hx13, ex13⟩ := rd_s hx13
                  refine w_ald hx hb hK hW (inM kd_177 rfl) (shp10 kd_177) hx13 ex13 dX7_kindsOf_83 ?_
                  refine lv_icmp_ne (tgt := 91) hx hb dX7_kindsOf_84 (by decide) (fun c14 => ?_) (fun c14 => ?_)
                  · replace hk := ite_f hk c14
                    refine lv_iconst (v := (0 : Int32)) hx hb dX7_kindsOf_91 (by decide) ?_
                    obtain rfl := Option.some.inj hk
                    exact KJ19 _ _ _ hW (lv_sub hl [1, 2, 3, 4, 6] rfl)
                  · replace hk := ite_t hk c14
                    refine lv_iconst (v := (1 : Int32)) hx hb dX7_kindsOf_87 (by decide) ?_
                    refine lv_goto (tgt := 92) hx hb dX7_kindsOf_88 (by decide) ?_
                    obtain rfl := Option.some.inj hk
                    exact KJ19 _ _ _ hW (lv_sub hl [1, 2, 3, 4, 6] rfl)
        exact LH16 FU _ _ _ _ _ hz28 hW (lv_sub hl [2, 3, 4, 5, 1, 0] rfl)
  exact LH4 FU _ _ _ _ _ hz31 hW (lv_sub hl [2, 3, 1, 0] rfl)
def f_X7_kinds (a1 : Int32) (M : Mem) : Option (Int32 × Mem) :=
  ob (f_X7_isLimb a1 M) (fun x1 =>
  if x1 = (0 : Int32) then (
    ob2 (f_X7_bad M) (fun x2 M3 =>
    some (x2, M3)))
  else (
    ob (f_X7_kindsOf a1 M) (fun x4 =>
    some (x4, M))))
set_option maxHeartbeats 4000000 in
set_option maxRecDepth 100000 in
theorem c_X7_kinds (l : Launch) (G : GT) (a1 : Int32) (M : Mem) {r : Int32} {M' : Mem} (hk : f_X7_kinds a1 M = some (r, M')) : CMi l G false yX7_kinds cX7_kinds 2 (some .int) 2 [.ref (ad G 176), .int a1] M r M' := by
  unfold f_X7_kinds at hk
  refine CMi.of (by decide) (Nat.le_of_ble_eq_true rfl) ?_
  intro p e s m args below meth c Q hx hb hml hown hg hK hW hret ls hl
  have hl : lv_has ls 2 [(0, .ref (ad G 176)), (1, .int a1)] := hl
  refine lv_aload_n hx hb dX7_kinds_0 rfl (lv_at hl 0 rfl) ?_
  refine lv_iload_n hx hb dX7_kinds_1 rfl (lv_at hl 1 rfl) ?_
  replace hk := ob_s hk
  obtain ⟨x1, hx1, hk⟩ := hk
  refine cl_i (rn_V g_1033 g_1035 gs_78 g_9 g_1036 hd_X7_isLimb (Nat.le_of_ble_eq_true rfl) (ci := 7) rfl (inM kd_176 rfl) (shp7 kd_176) hx hb hml hown hg hK hW (As := [.int a1]) (c_X7_isLimb l G a1 M hx1) (by decide) rfl hl.1 rfl (Nat.le_of_ble_eq_true rfl) dX7_kinds_2) hW (fun H locs hW => ?_)
  refine lv_if_eq (tgt := 16) hx hb dX7_kinds_5 (by decide) (fun c5 => ?_) (fun c5 => ?_)
  · replace hk := ite_t hk c5
    refine lv_aload_n hx hb dX7_kinds_16 rfl (lv_at hl 0 rfl) ?_
    replace hk := ob2_s hk
    obtain ⟨x2, M3, hx2, hk⟩ := hk
    refine cl_i (rn_V g_924 g_926 gs_62 g_9 g_927 hd_X7_bad (Nat.le_of_ble_eq_true rfl) (ci := 7) rfl (inM kd_176 rfl) (shp7 kd_176) hx hb hml hown hg hK hW (As := []) (c_X7_bad l G M hx2) (by decide) rfl hl.1 rfl (Nat.le_of_ble_eq_true rfl) dX7_kinds_17) hW (fun H locs hW => ?_)
    obtain ⟨rfl, rfl⟩ := sp2 hk
    exact hret _ _ _ _ hW dX7_kinds_20
  · replace hk := ite_f hk c5
    refine lv_aload_n hx hb dX7_kinds_8 rfl (lv_at hl 0 rfl) ?_
    refine lv_iload_n hx hb dX7_kinds_9 rfl (lv_at hl 1 rfl) ?_
    replace hk := ob_s hk
    obtain ⟨x4, hx4, hk⟩ := hk
    refine cl_i (rn_V g_1212 g_1214 gs_96 g_9 g_1215 hd_X7_kindsOf (Nat.le_of_ble_eq_true rfl) (ci := 7) rfl (inM kd_176 rfl) (shp7 kd_176) hx hb hml hown hg hK hW (As := [.int a1]) (c_X7_kindsOf l G a1 M hx4) (by decide) rfl hl.1 rfl (Nat.le_of_ble_eq_true rfl) dX7_kinds_10) hW (fun H locs hW => ?_)
    refine lv_goto (tgt := 20) hx hb dX7_kinds_13 (by decide) ?_
    obtain ⟨rfl, rfl⟩ := sp2 hk
    exact hret _ _ _ _ hW dX7_kinds_20
def f_X7_ask_L54 (x5 : Int32) : Nat → Int32 → Mem → Option (Int32 × Mem)
  | 0, _, _ => none
  | n + 1, x9, M10 =>
    if (6 : Int32) ≤ x9 then (
      some (x9, M10))
    else (
      ob (wr M10 181 x9 (f_X7_comesTo x9 (x5 / (10 : Int32)) (x5 - x5 / (10 : Int32) * (10 : Int32)))) (fun M14 =>
      lq (x9 + (1 : Int32)) (fun x15 =>
      f_X7_ask_L54 x5 n x15 M14)))
def f_X7_ask_L30 (x2 : Int32) : Nat → Int32 → Int32 → Int32 → Mem → Option (Int32 × Mem)
  | 0, _, _, _, _ => none
  | n + 1, x3, x4, x5, M6 =>
    if (202 : Int32) ≤ x5 then (
      some (x3, M6))
    else (
      if x2 = (0 : Int32) then (
        some (x3, M6))
      else (
        ob3 (
          if (2 : Int32) ≤ (x5 - x5 / (10 : Int32) * (10 : Int32)) then (
            some (x3, x4, M6))
          else (
            ob2 (f_X7_ask_L54 x5 FU (0 : Int32) M6) (fun x11 M12 =>
            ob (f_X7_parted x2 (6 : Int32) M12) (fun x17 =>
            lq (
              if x4 ≤ x17 then (
                x3)
              else (
                x5))
             (fun x19 =>
            lq (
              if x4 ≤ x17 then (
                x4)
              else (
                x17))
             (fun x21 =>
            some (x19, x21, M12)))))))
         (fun x29 x30 M31 =>
        lq (x5 + (1 : Int32)) (fun x32 =>
        f_X7_ask_L30 x2 n x29 x30 x32 M31))))
def f_X7_ask (a1 : Int32) (M : Mem) : Option (Int32 × Mem) :=
  ob (f_X7_isLimb a1 M) (fun x1 =>
  if x1 = (0 : Int32) then (
    ob2 (f_X7_bad M) (fun x39 M40 =>
    some (x39, M40)))
  else (
    ob (f_X7_kindsOf a1 M) (fun x2 =>
    ob2 (f_X7_ask_L30 x2 FU ((-1001) : Int32) (99 : Int32) (0 : Int32) M) (fun x7 M8 =>
    some (x7, M8)))))
set_option maxHeartbeats 4000000 in
set_option maxRecDepth 100000 in
theorem c_X7_ask (l : Launch) (G : GT) (a1 : Int32) (M : Mem) {r : Int32} {M' : Mem} (hk : f_X7_ask a1 M = some (r, M')) : CMi l G false yX7_ask cX7_ask 7 (some .int) 2 [.ref (ad G 176), .int a1] M r M' := by
  unfold f_X7_ask at hk
  refine CMi.of (by decide) (Nat.le_of_ble_eq_true rfl) ?_
  intro p e s m args below meth c Q hx hb hml hown hg hK hW hret ls hl
  have hl : lv_has ls 7 [(0, .ref (ad G 176)), (1, .int a1)] := hl
  refine lv_aload_n hx hb dX7_ask_0 rfl (lv_at hl 0 rfl) ?_
  refine lv_iload_n hx hb dX7_ask_1 rfl (lv_at hl 1 rfl) ?_
  replace hk := ob_s hk
  obtain ⟨x1, hx1, hk⟩ := hk
  refine cl_i (rn_V g_1033 g_1035 gs_78 g_9 g_1036 hd_X7_isLimb (Nat.le_of_ble_eq_true rfl) (ci := 7) rfl (inM kd_176 rfl) (shp7 kd_176) hx hb hml hown hg hK hW (As := [.int a1]) (c_X7_isLimb l G a1 M hx1) (by decide) rfl hl.1 rfl (Nat.le_of_ble_eq_true rfl) dX7_ask_2) hW (fun H locs hW => ?_)
  refine lv_if_ne (tgt := 13) hx hb dX7_ask_5 (by decide) (fun c41 => ?_) (fun c41 => ?_)
  · replace hk := ite_f hk c41
    refine lv_aload_n hx hb dX7_ask_13 rfl (lv_at hl 0 rfl) ?_
    refine lv_iload_n hx hb dX7_ask_14 rfl (lv_at hl 1 rfl) ?_
    replace hk := ob_s hk
    obtain ⟨x2, hx2, hk⟩ := hk
    refine cl_i (rn_V g_1212 g_1214 gs_96 g_9 g_1215 hd_X7_kindsOf (Nat.le_of_ble_eq_true rfl) (ci := 7) rfl (inM kd_176 rfl) (shp7 kd_176) hx hb hml hown hg hK hW (As := [.int a1]) (c_X7_kindsOf l G a1 M hx2) (by decide) rfl hl.1 rfl (Nat.le_of_ble_eq_true rfl) dX7_ask_15) hW (fun H locs hW => ?_)
    refine lv_istore_n (lv' := [(2, .int x2), (0, .ref (ad G 176)), (1, .int a1)]) hx hb dX7_ask_18 rfl hl (by decide) rfl (fun ls hl => ?_)
    refine lv_sipush (v := ((-1001) : Int32)) hx hb dX7_ask_19 (by decide) ?_
    refine lv_istore_n (lv' := [(3, .int ((-1001) : Int32)), (2, .int x2), (0, .ref (ad G 176)), (1, .int a1)]) hx hb dX7_ask_22 rfl hl (by decide) rfl (fun ls hl => ?_)
    refine lv_bipush (v := (99 : Int32)) hx hb dX7_ask_23 (by decide) ?_
    refine lv_istore (lv' := [(4, .int (99 : Int32)), (3, .int ((-1001) : Int32)), (2, .int x2), (0, .ref (ad G 176)), (1, .int a1)]) hx hb dX7_ask_25 hl (by decide) rfl (fun ls hl => ?_)
    refine lv_iconst (v := (0 : Int32)) hx hb dX7_ask_27 (by decide) ?_
    refine lv_istore (lv' := [(5, .int (0 : Int32)), (4, .int (99 : Int32)), (3, .int ((-1001) : Int32)), (2, .int x2), (0, .ref (ad G 176)), (1, .int a1)]) hx hb dX7_ask_28 hl (by decide) rfl (fun ls hl => ?_)
    replace hk := ob2_s hk
    obtain ⟨x7, M8, hz37, hk⟩ := hk
    have KX30 : ∀ (H : Heap) (locs : List Loc) (ls : Array Slot), Ws G false M8 s H locs → lv_has ls 7 [(3, .int x7)] → Wx p l e 2 s m args below meth c Q H locs 134 ls [] := by
      intro H locs ls hW hl
      refine lv_iload_n hx hb dX7_ask_134 rfl (lv_at hl 0 rfl) ?_
      obtain ⟨rfl, rfl⟩ := sp2 hk
      exact hret _ _ _ _ hW dX7_ask_135
    clear hk
    have LH30 : ∀ (n : Nat) (x3 : Int32) (x4 : Int32) (x5 : Int32) (M6 : Mem) (H : Heap) (locs : List Loc) (ls : Array Slot), f_X7_ask_L30 x2 n x3 x4 x5 M6 = some (x7, M8) → Ws G false M6 s H locs → lv_has ls 7 [(0, .ref (ad G 176)), (2, .int x2), (3, .int x3), (4, .int x4), (5, .int x5)] → Wx p l e 2 s m args below meth c Q H locs 30 ls [] := by
      clear hz37
      intro n
      induction n with
      | zero => intro _ _ _ _ _ _ _ hk; cases hk
      | succ n ih30 =>
        intro x3 x4 x5 M6 H locs ls hk hW hl
        rw [f_X7_ask_L30.eq_2] at hk
        refine lv_iload hx hb dX7_ask_30 (lv_at hl 4 rfl) ?_
        refine lv_sipush (v := (202 : Int32)) hx hb dX7_ask_32 (by decide) ?_
        refine lv_icmp_ge (tgt := 134) hx hb dX7_ask_35 (by decide) (fun c36 => ?_) (fun c36 => ?_)
        · replace hk := ite_t hk c36
          obtain ⟨rfl, rfl⟩ := sp2 hk
          exact KX30 _ _ _ hW (lv_sub hl [2] rfl)
        · replace hk := ite_f hk c36
          refine lv_iload_n hx hb dX7_ask_38 rfl (lv_at hl 1 rfl) ?_
          refine lv_if_eq (tgt := 134) hx hb dX7_ask_39 (by decide) (fun c35 => ?_) (fun c35 => ?_)
          · replace hk := ite_t hk c35
            obtain ⟨rfl, rfl⟩ := sp2 hk
            exact KX30 _ _ _ hW (lv_sub hl [2] rfl)
          · replace hk := ite_f hk c35
            refine lv_iload hx hb dX7_ask_42 (lv_at hl 4 rfl) ?_
            refine lv_bipush (v := (10 : Int32)) hx hb dX7_ask_44 (by decide) ?_
            refine lv_irem hx hb dX7_ask_46 (by decide) ?_
            refine lv_iconst (v := (2 : Int32)) hx hb dX7_ask_47 (by decide) ?_
            replace hk := ob3_s hk
            obtain ⟨x29, x30, M31, hr34, hk⟩ := hk
            have KJ33 : ∀ (H : Heap) (locs : List Loc) (ls : Array Slot), Ws G false M31 s H locs → lv_has ls 7 [(0, .ref (ad G 176)), (2, .int x2), (3, .int x29), (4, .int x30), (5, .int x5)] → Wx p l e 2 s m args below meth c Q H locs 128 ls [] := by
              intro H locs ls hW hl
              replace hk := lq_s hk
              obtain ⟨x32, ex32, hk⟩ := hk
              refine lv_iinc (v := x32) (lv' := [(5, .int x32), (0, .ref (ad G 176)), (2, .int x2), (3, .int x29), (4, .int x30)]) hx hb dX7_ask_128 hl (k := 4) rfl (by rw [ex32]; rfl) (by decide) rfl (fun ls hl => ?_)
              refine lv_goto (tgt := 30) hx hb dX7_ask_131 (by decide) ?_
              exact ih30 _ _ _ _ _ _ _ hk hW (lv_sub hl [1, 2, 3, 4, 0] rfl)
            clear hk
            have hk := hr34
            clear hr34
            refine lv_icmp_ge (tgt := 128) hx hb dX7_ask_48 (by decide) (fun c28 => ?_) (fun c28 => ?_)
            · replace hk := ite_t hk c28
              obtain ⟨rfl, rfl, rfl⟩ := sp3 hk
              exact KJ33 _ _ _ hW (lv_sub hl [0, 1, 2, 3, 4] rfl)
            · replace hk := ite_f hk c28
              refine lv_iconst (v := (0 : Int32)) hx hb dX7_ask_51 (by decide) ?_
              refine lv_istore (lv' := [(6, .int (0 : Int32)), (0, .ref (ad G 176)), (2, .int x2), (3, .int x3), (4, .int x4), (5, .int x5)]) hx hb dX7_ask_52 hl (by decide) rfl (fun ls hl => ?_)
              replace hk := ob2_s hk
              obtain ⟨x11, M12, hz26, hk⟩ := hk
              have KX54 : ∀ (H : Heap) (locs : List Loc) (ls : Array Slot), Ws G false M12 s H locs → lv_has ls 7 [(0, .ref (ad G 176)), (2, .int x2), (3, .int x3), (4, .int x4), (5, .int x5)] → Wx p l e 2 s m args below meth c Q H locs 89 ls [] := by
                intro H locs ls hW hl
                refine lv_aload_n hx hb dX7_ask_89 rfl (lv_at hl 0 rfl) ?_
                refine lv_iload_n hx hb dX7_ask_90 rfl (lv_at hl 1 rfl) ?_
                refine lv_bipush (v := (6 : Int32)) hx hb dX7_ask_91 (by decide) ?_
                replace hk := ob_s hk
                obtain ⟨x17, hx17, hk⟩ := hk
                refine cl_i (rn_V g_1192 g_1194 gs_94 g_9 g_1195 hd_X7_parted (Nat.le_of_ble_eq_true rfl) (ci := 7) rfl (inM kd_176 rfl) (shp7 kd_176) hx hb hml hown hg hK hW (As := [.int x2, .int (6 : Int32)]) (c_X7_parted l G x2 (6 : Int32) M12 hx17) (by decide) rfl hl.1 rfl (Nat.le_of_ble_eq_true rfl) dX7_ask_93) hW (fun H locs hW => ?_)
                refine lv_istore (lv' := [(6, .int x17), (0, .ref (ad G 176)), (2, .int x2), (3, .int x3), (4, .int x4), (5, .int x5)]) hx hb dX7_ask_96 hl (by decide) rfl (fun ls hl => ?_)
                refine lv_iload hx hb dX7_ask_98 (lv_at hl 0 rfl) ?_
                refine lv_iload hx hb dX7_ask_100 (lv_at hl 4 rfl) ?_
                replace hk := lq_s hk
                obtain ⟨x19, hr25, hk⟩ := hk
                have KJ24 : ∀ (H : Heap) (locs : List Loc) (ls : Array Slot), Ws G false M12 s H locs → lv_has ls 7 [(0, .ref (ad G 176)), (2, .int x2), (4, .int x4), (5, .int x5), (6, .int x17)] → Wx p l e 2 s m args below meth c Q H locs 111 ls [.int x19] := by
                  intro H locs ls hW hl
                  refine lv_istore_n (lv' := [(3, .int x19), (0, .ref (ad G 176)), (2, .int x2), (4, .int x4), (5, .int x5), (6, .int x17)]) hx hb dX7_ask_111 rfl hl (by decide) rfl (fun ls hl => ?_)
                  refine lv_iload hx hb dX7_ask_112 (lv_at hl 5 rfl) ?_
                  refine lv_iload hx hb dX7_ask_114 (lv_at hl 3 rfl) ?_
                  replace hk := lq_s hk
                  obtain ⟨x21, hr23, hk⟩ := hk
                  have KJ22 : ∀ (H : Heap) (locs : List Loc) (ls : Array Slot), Ws G false M12 s H locs → lv_has ls 7 [(0, .ref (ad G 176)), (2, .int x2), (3, .int x19), (5, .int x5)] → Wx p l e 2 s m args below meth c Q H locs 126 ls [.int x21] := by
                    intro H locs ls hW hl
                    refine lv_istore (lv' := [(4, .int x21), (0, .ref (ad G 176)), (2, .int x2), (3, .int x19), (5, .int x5)]) hx hb dX7_ask_126 hl (by decide) rfl (fun ls hl => ?_)
                    obtain ⟨rfl, rfl, rfl⟩ := sp3 hk
                    exact KJ33 _ _ _ hW (lv_sub hl [1, 2, 3, 0, 4] rfl)
                  clear hk
                  have hk := hr23.symm
                  clear hr23
                  refine lv_icmp_ge (tgt := 124) hx hb dX7_ask_116 (by decide) (fun c20 => ?_) (fun c20 => ?_)
                  · replace hk := ite_t hk c20
                    refine lv_iload hx hb dX7_ask_124 (lv_at hl 3 rfl) ?_
                    subst hk
                    exact KJ22 _ _ _ hW (lv_sub hl [1, 2, 0, 4] rfl)
                  · replace hk := ite_f hk c20
                    refine lv_iload hx hb dX7_ask_119 (lv_at hl 5 rfl) ?_
                    refine lv_goto (tgt := 126) hx hb dX7_ask_121 (by decide) ?_
                    subst hk
                    exact KJ22 _ _ _ hW (lv_sub hl [1, 2, 0, 4] rfl)
                clear hk
                have hk := hr25.symm
                clear hr25
                refine lv_icmp_ge (tgt := 110) hx hb dX7_ask_102 (by decide) (fun c18 => ?_) (fun c18 => ?_)
                · replace hk := ite_t hk c18
                  refine lv_iload_n hx hb dX7_ask_110 rfl (lv_at hl 3 rfl) ?_
                  subst hk
                  exact KJ24 _ _ _ hW (lv_sub hl [1, 2, 4, 5, 0] rfl)
                · replace hk := ite_f hk c18
                  refine lv_iload hx hb dX7_ask_105 (lv_at hl 5 rfl) ?_
                  refine lv_goto (tgt := 111) hx hb dX7_ask_107 (by decide) ?_
                  subst hk
                  exact KJ24 _ _ _ hW (lv_sub hl [1, 2, 4, 5, 0] rfl)
              clear hk
              have LH54 : ∀ (n : Nat) (x9 : Int32) (M10 : Mem) (H : Heap) (locs : List Loc) (ls : Array Slot), f_X7_ask_L54 x5 n x9 M10 = some (x11, M12) → Ws G false M10 s H locs → lv_has ls 7 [(0, .ref (ad G 176)), (2, .int x2), (3, .int x3), (4, .int x4), (5, .int x5), (6, .int x9)] → Wx p l e 2 s m args below meth c Q H locs 54 ls [] := by
                clear hz26
                intro n
                induction n with
                | zero => intro _ _ _ _ _ hk; cases hk
                | succ n ih54 =>
                  intro x9 M10 H locs ls hk hW hl
                  rw [f_X7_ask_L54.eq_2] at hk
                  refine lv_iload hx hb dX7_ask_54 (lv_at hl 5 rfl) ?_
                  refine lv_bipush (v := (6 : Int32)) hx hb dX7_ask_56 (by decide) ?_
                  refine lv_icmp_ge (tgt := 89) hx hb dX7_ask_58 (by decide) (fun c16 => ?_) (fun c16 => ?_)
                  · replace hk := ite_t hk c16
                    obtain ⟨rfl, rfl⟩ := sp2 hk
                    exact KX54 _ _ _ hW (lv_sub hl [0, 1, 2, 3, 4] rfl)
                  · replace hk := ite_f hk c16
                    refine lv_aload_n hx hb dX7_ask_61 rfl (lv_at hl 0 rfl) ?_
                    refine gt_X7_26 hx hb hg hown hK hW kd_176 dX7_ask_62 ?_
                    refine lv_iload hx hb dX7_ask_65 (lv_at hl 5 rfl) ?_
                    refine lv_iload hx hb dX7_ask_67 (lv_at hl 5 rfl) ?_
                    refine lv_iload hx hb dX7_ask_69 (lv_at hl 4 rfl) ?_
                    refine lv_bipush (v := (10 : Int32)) hx hb dX7_ask_71 (by decide) ?_
                    refine lv_idiv hx hb dX7_ask_73 (by decide) ?_
                    refine lv_iload hx hb dX7_ask_74 (lv_at hl 4 rfl) ?_
                    refine lv_bipush (v := (10 : Int32)) hx hb dX7_ask_76 (by decide) ?_
                    refine lv_irem hx hb dX7_ask_78 (by decide) ?_
                    refine cl_i (rn_S g_1085 g_1086 g_9 g_1087 hd_X7_comesTo (Nat.le_of_ble_eq_true rfl) hx hb hml hown hg hK hW (As := [.int x9, .int (x5 / (10 : Int32)), .int (x5 - x5 / (10 : Int32) * (10 : Int32))]) (c_X7_comesTo l G x9 (x5 / (10 : Int32)) (x5 - x5 / (10 : Int32) * (10 : Int32)) M10) (by decide) rfl hl.1 rfl (Nat.le_of_ble_eq_true rfl) dX7_ask_79) hW (fun H locs hW => ?_)
                    replace hk := ob_s hk
                    obtain ⟨M14, hM14, hk⟩ := hk
                    obtain ⟨hM14, eM14⟩ := wr_s hM14
                    refine w_ast hx hb hK hW (inM kd_181 rfl) (fun _ => (shp10 kd_181)) hM14 eM14 dX7_ask_82 (fun H locs hW => ?_)
                    replace hk := lq_s hk
                    obtain ⟨x15, ex15, hk⟩ := hk
                    refine lv_iinc (v := x15) (lv' := [(6, .int x15), (0, .ref (ad G 176)), (2, .int x2), (3, .int x3), (4, .int x4), (5, .int x5)]) hx hb dX7_ask_83 hl (k := 5) rfl (by rw [ex15]; rfl) (by decide) rfl (fun ls hl => ?_)
                    refine lv_goto (tgt := 54) hx hb dX7_ask_86 (by decide) ?_
                    exact ih54 _ _ _ _ _ hk hW (lv_sub hl [1, 2, 3, 4, 5, 0] rfl)
              exact LH54 FU _ _ _ _ _ hz26 hW (lv_sub hl [1, 2, 3, 4, 5, 0] rfl)
    exact LH30 FU _ _ _ _ _ _ _ hz37 hW (lv_sub hl [4, 3, 2, 1, 0] rfl)
  · replace hk := ite_t hk c41
    refine lv_aload_n hx hb dX7_ask_8 rfl (lv_at hl 0 rfl) ?_
    replace hk := ob2_s hk
    obtain ⟨x39, M40, hx39, hk⟩ := hk
    refine cl_i (rn_V g_924 g_926 gs_62 g_9 g_927 hd_X7_bad (Nat.le_of_ble_eq_true rfl) (ci := 7) rfl (inM kd_176 rfl) (shp7 kd_176) hx hb hml hown hg hK hW (As := []) (c_X7_bad l G M hx39) (by decide) rfl hl.1 rfl (Nat.le_of_ble_eq_true rfl) dX7_ask_9) hW (fun H locs hW => ?_)
    obtain ⟨rfl, rfl⟩ := sp2 hk
    exact hret _ _ _ _ hW dX7_ask_12
def f_X7_rests_L5 (a1 : Int32) (a2 : Int32) (M : Mem) : Nat → Int32 → Int32 → Option (Int32)
  | 0, _, _ => none
  | n + 1, x1, x2 =>
    if (5 : Int32) ≤ x2 then (
      some x1)
    else (
      ob (
        if x1 = (0 : Int32) then (
          some (0 : Int32))
        else (
          ob (rd M 182 (((5 : Int32) * x2) + a2)) (fun x4 =>
          ob (rd M 182 (((5 : Int32) * a1) + a2)) (fun x5 =>
          if x5 < x4 then (
            some (0 : Int32))
          else (
            ob (rd M 183 (((5 : Int32) * a1) + x2)) (fun x6 =>
            ob (rd M 183 (((5 : Int32) * a1) + a2)) (fun x7 =>
            if x7 < x6 then (
              some (0 : Int32))
            else (
              some (1 : Int32)))))))))
       (fun x11 =>
      lq (x2 + (1 : Int32)) (fun x12 =>
      f_X7_rests_L5 a1 a2 M n x11 x12)))
def f_X7_rests (a1 : Int32) (a2 : Int32) (M : Mem) : Option (Int32) :=
  ob (f_X7_rests_L5 a1 a2 M FU (1 : Int32) (0 : Int32)) (fun x3 =>
  if x3 = 0 ∨ x3 = 1 then some x3 else none)
set_option maxHeartbeats 4000000 in
set_option maxRecDepth 100000 in
theorem c_X7_rests (l : Launch) (G : GT) (a1 : Int32) (a2 : Int32) (M : Mem) {r : Int32} (hk : f_X7_rests a1 a2 M = some r) : CMi l G false yX7_rests cX7_rests 5 (some .boolean) 0 [.ref (ad G 176), .int a1, .int a2] M r M := by
  unfold f_X7_rests at hk
  refine CMi.ofZ (by decide) (Nat.le_of_ble_eq_true rfl) ?_
  intro p e s m args below meth c Q hx hb hml hown hg hK hW hret ls hl
  have hl : lv_has ls 5 [(0, .ref (ad G 176)), (1, .int a1), (2, .int a2)] := hl
  refine lv_iconst (v := (1 : Int32)) hx hb dX7_rests_0 (by decide) ?_
  refine lv_istore_n (lv' := [(3, .int (1 : Int32)), (0, .ref (ad G 176)), (1, .int a1), (2, .int a2)]) hx hb dX7_rests_1 rfl hl (by decide) rfl (fun ls hl => ?_)
  refine lv_iconst (v := (0 : Int32)) hx hb dX7_rests_2 (by decide) ?_
  refine lv_istore (lv' := [(4, .int (0 : Int32)), (3, .int (1 : Int32)), (0, .ref (ad G 176)), (1, .int a1), (2, .int a2)]) hx hb dX7_rests_3 hl (by decide) rfl (fun ls hl => ?_)
  replace hk := ob_s hk
  obtain ⟨x3, hz16, hk⟩ := hk
  have KX5 : ∀ (H : Heap) (locs : List Loc) (ls : Array Slot), Ws G false M s H locs → lv_has ls 5 [(3, .int x3)] → Wx p l e 0 s m args below meth c Q H locs 75 ls [] := by
    intro H locs ls hW hl
    refine lv_iload_n hx hb dX7_rests_75 rfl (lv_at hl 0 rfl) ?_
    by_cases hz : x3 = 0 ∨ x3 = 1
    · replace hk := ite_t hk hz
      obtain rfl := Option.some.inj hk
      exact hret _ _ _ _ hz hW dX7_rests_76
    · replace hk := ite_f hk hz
      cases hk
  clear hk
  have LH5 : ∀ (n : Nat) (x1 : Int32) (x2 : Int32) (H : Heap) (locs : List Loc) (ls : Array Slot), f_X7_rests_L5 a1 a2 M n x1 x2 = some x3 → Ws G false M s H locs → lv_has ls 5 [(0, .ref (ad G 176)), (1, .int a1), (2, .int a2), (3, .int x1), (4, .int x2)] → Wx p l e 0 s m args below meth c Q H locs 5 ls [] := by
    clear hz16
    intro n
    induction n with
    | zero => intro _ _ _ _ _ hk; cases hk
    | succ n ih5 =>
      intro x1 x2 H locs ls hk hW hl
      rw [f_X7_rests_L5.eq_2] at hk
      refine lv_iload hx hb dX7_rests_5 (lv_at hl 4 rfl) ?_
      refine lv_iconst (v := (5 : Int32)) hx hb dX7_rests_7 (by decide) ?_
      refine lv_icmp_ge (tgt := 75) hx hb dX7_rests_8 (by decide) (fun c15 => ?_) (fun c15 => ?_)
      · replace hk := ite_t hk c15
        obtain rfl := Option.some.inj hk
        exact KX5 _ _ _ hW (lv_sub hl [3] rfl)
      · replace hk := ite_f hk c15
        refine lv_iload_n hx hb dX7_rests_11 rfl (lv_at hl 3 rfl) ?_
        replace hk := ob_s hk
        obtain ⟨x11, hr14, hk⟩ := hk
        have KJ13 : ∀ (H : Heap) (locs : List Loc) (ls : Array Slot), Ws G false M s H locs → lv_has ls 5 [(0, .ref (ad G 176)), (1, .int a1), (2, .int a2), (4, .int x2)] → Wx p l e 0 s m args below meth c Q H locs 68 ls [.int x11] := by
          intro H locs ls hW hl
          refine lv_istore_n (lv' := [(3, .int x11), (0, .ref (ad G 176)), (1, .int a1), (2, .int a2), (4, .int x2)]) hx hb dX7_rests_68 rfl hl (by decide) rfl (fun ls hl => ?_)
          replace hk := lq_s hk
          obtain ⟨x12, ex12, hk⟩ := hk
          refine lv_iinc (v := x12) (lv' := [(4, .int x12), (3, .int x11), (0, .ref (ad G 176)), (1, .int a1), (2, .int a2)]) hx hb dX7_rests_69 hl (k := 4) rfl (by rw [ex12]; rfl) (by decide) rfl (fun ls hl => ?_)
          refine lv_goto (tgt := 5) hx hb dX7_rests_72 (by decide) ?_
          exact ih5 _ _ _ _ _ hk hW (lv_sub hl [2, 3, 4, 1, 0] rfl)
        clear hk
        have hk := hr14
        clear hr14
        refine lv_if_eq (tgt := 67) hx hb dX7_rests_12 (by decide) (fun c10 => ?_) (fun c10 => ?_)
        · replace hk := ite_t hk c10
          refine lv_iconst (v := (0 : Int32)) hx hb dX7_rests_67 (by decide) ?_
          obtain rfl := Option.some.inj hk
          exact KJ13 _ _ _ hW (lv_sub hl [0, 1, 2, 4] rfl)
        · replace hk := ite_f hk c10
          refine lv_aload_n hx hb dX7_rests_15 rfl (lv_at hl 0 rfl) ?_
          refine gt_X7_29 hx hb hg hown hK hW kd_176 dX7_rests_16 ?_
          refine lv_iconst (v := (5 : Int32)) hx hb dX7_rests_19 (by decide) ?_
          refine lv_iload hx hb dX7_rests_20 (lv_at hl 4 rfl) ?_
          refine lv_imul hx hb dX7_rests_22 ?_
          refine lv_iload_n hx hb dX7_rests_23 rfl (lv_at hl 2 rfl) ?_
          refine lv_iadd hx hb dX7_rests_24 ?_
          replace hk := ob_s hk
          obtain ⟨x4, hx4, hk⟩ := hk
          obtain ⟨hx4, ex4⟩ := rd_s hx4
          refine w_ald hx hb hK hW (inM kd_182 rfl) (shp10 kd_182) hx4 ex4 dX7_rests_25 ?_
          refine lv_aload_n hx hb dX7_rests_26 rfl (lv_at hl 0 rfl) ?_
          refine gt_X7_29 hx hb hg hown hK hW kd_176 dX7_rests_27 ?_
          refine lv_iconst (v := (5 : Int32)) hx hb dX7_rests_30 (by decide) ?_
          refine lv_iload_n hx hb dX7_rests_31 rfl (lv_at hl 1 rfl) ?_
          refine lv_imul hx hb dX7_rests_32 ?_
          refine lv_iload_n hx hb dX7_rests_33 rfl (lv_at hl 2 rfl) ?_
          refine lv_iadd hx hb dX7_rests_34 ?_
          replace hk := ob_s hk
          obtain ⟨x5, hx5, hk⟩ := hk
          obtain ⟨hx5, ex5⟩ := rd_s hx5
          refine w_ald hx hb hK hW (inM kd_182 rfl) (shp10 kd_182) hx5 ex5 dX7_rests_35 ?_
          refine lv_icmp_gt (tgt := 67) hx hb dX7_rests_36 (by decide) (fun c9 => ?_) (fun c9 => ?_)
          · replace hk := ite_t hk c9
            refine lv_iconst (v := (0 : Int32)) hx hb dX7_rests_67 (by decide) ?_
            obtain rfl := Option.some.inj hk
            exact KJ13 _ _ _ hW (lv_sub hl [0, 1, 2, 4] rfl)
          · replace hk := ite_f hk c9
            refine lv_aload_n hx hb dX7_rests_39 rfl (lv_at hl 0 rfl) ?_
            refine gt_X7_32 hx hb hg hown hK hW kd_176 dX7_rests_40 ?_
            refine lv_iconst (v := (5 : Int32)) hx hb dX7_rests_43 (by decide) ?_
            refine lv_iload_n hx hb dX7_rests_44 rfl (lv_at hl 1 rfl) ?_
            refine lv_imul hx hb dX7_rests_45 ?_
            refine lv_iload hx hb dX7_rests_46 (lv_at hl 4 rfl) ?_
            refine lv_iadd hx hb dX7_rests_48 ?_
            replace hk := ob_s hk
            obtain ⟨x6, hx6, hk⟩ := hk
            obtain ⟨hx6, ex6⟩ := rd_s hx6
            refine w_ald hx hb hK hW (inM kd_183 rfl) (shp10 kd_183) hx6 ex6 dX7_rests_49 ?_
            refine lv_aload_n hx hb dX7_rests_50 rfl (lv_at hl 0 rfl) ?_
            refine gt_X7_32 hx hb hg hown hK hW kd_176 dX7_rests_51 ?_
            refine lv_iconst (v := (5 : Int32)) hx hb dX7_rests_54 (by decide) ?_
            refine lv_iload_n hx hb dX7_rests_55 rfl (lv_at hl 1 rfl) ?_
            refine lv_imul hx hb dX7_rests_56 ?_
            refine lv_iload_n hx hb dX7_rests_57 rfl (lv_at hl 2 rfl) ?_
            refine lv_iadd hx hb dX7_rests_58 ?_
            replace hk := ob_s hk
            obtain ⟨x7, hx7, hk⟩ := hk
            obtain ⟨hx7, ex7⟩ := rd_s hx7
            refine w_ald hx hb hK hW (inM kd_183 rfl) (shp10 kd_183) hx7 ex7 dX7_rests_59 ?_
            refine lv_icmp_gt (tgt := 67) hx hb dX7_rests_60 (by decide) (fun c8 => ?_) (fun c8 => ?_)
            · replace hk := ite_t hk c8
              refine lv_iconst (v := (0 : Int32)) hx hb dX7_rests_67 (by decide) ?_
              obtain rfl := Option.some.inj hk
              exact KJ13 _ _ _ hW (lv_sub hl [0, 1, 2, 4] rfl)
            · replace hk := ite_f hk c8
              refine lv_iconst (v := (1 : Int32)) hx hb dX7_rests_63 (by decide) ?_
              refine lv_goto (tgt := 68) hx hb dX7_rests_64 (by decide) ?_
              obtain rfl := Option.some.inj hk
              exact KJ13 _ _ _ hW (lv_sub hl [0, 1, 2, 4] rfl)
  exact LH5 FU _ _ _ _ _ hz16 hW (lv_sub hl [2, 3, 4, 1, 0] rfl)
def f_X7_hands_L61 (a1 : Int32) (a2 : Int32) (x9 : Int32) (x10 : Int32) (x13 : Int32) : Nat → Int32 → Mem → Option (Int32 × Mem)
  | 0, _, _ => none
  | n + 1, x17, M18 =>
    if (5 : Int32) ≤ x17 then (
      some (x17, M18))
    else (
      ob (f_X7_goes x13 M18) (fun M22 =>
      ob (f_X7_goes x17 M22) (fun M24 =>
      ob (f_X7_high a1 M24) (fun x25 =>
      lq (
        if x13 = (4 : Int32) then (
          (0 : Int32))
        else (
          (2 : Int32)))
       (fun x27 =>
      ob (wr M24 182 (((5 : Int32) * x13) + x17) ((x25 - x9) - x27)) (fun M28 =>
      ob (f_X7_high a2 M28) (fun x29 =>
      lq (
        if x17 = (4 : Int32) then (
          (0 : Int32))
        else (
          (2 : Int32)))
       (fun x31 =>
      ob (wr M28 183 (((5 : Int32) * x13) + x17) ((x29 - x10) - x31)) (fun M32 =>
      ob (f_X7_backs M32) (fun M34 =>
      lq (x17 + (1 : Int32)) (fun x35 =>
      f_X7_hands_L61 a1 a2 x9 x10 x13 n x35 M34)))))))))))
def f_X7_hands_L52 (a1 : Int32) (a2 : Int32) (x9 : Int32) (x10 : Int32) : Nat → Int32 → Mem → Option (Int32 × Mem)
  | 0, _, _ => none
  | n + 1, x13, M14 =>
    if (5 : Int32) ≤ x13 then (
      some (x13, M14))
    else (
      ob2 (f_X7_hands_L61 a1 a2 x9 x10 x13 FU (0 : Int32) M14) (fun x19 M20 =>
      lq (x13 + (1 : Int32)) (fun x41 =>
      f_X7_hands_L52 a1 a2 x9 x10 n x41 M20)))
def f_X7_hands_L177 (a3 : Int32) (M16 : Mem) (x47 : Int32) : Nat → Int32 → Int32 → Int32 → Option (Int32 × Int32)
  | 0, _, _, _ => none
  | n + 1, x50, x51, x52 =>
    if (5 : Int32) ≤ x52 then (
      some (x50, x51))
    else (
      ob (f_X7_rests x47 x52 M16) (fun x55 =>
      ob2 (
        if x55 = (0 : Int32) then (
          some (x50, x51))
        else (
          lq (
            if x50 = a3 then (
              (((10 : Int32) * x47) + x52))
            else (
              x51))
           (fun x57 =>
          lq (x50 + (1 : Int32)) (fun x58 =>
          some (x58, x57)))))
       (fun x62 x63 =>
      lq (x52 + (1 : Int32)) (fun x64 =>
      f_X7_hands_L177 a3 M16 x47 n x62 x63 x64))))
def f_X7_hands_L168 (a3 : Int32) (M16 : Mem) : Nat → Int32 → Int32 → Int32 → Option (Int32 × Int32)
  | 0, _, _, _ => none
  | n + 1, x45, x46, x47 =>
    if (5 : Int32) ≤ x47 then (
      some (x45, x46))
    else (
      ob2 (f_X7_hands_L177 a3 M16 x47 FU x45 x46 (0 : Int32)) (fun x53 x54 =>
      lq (x47 + (1 : Int32)) (fun x68 =>
      f_X7_hands_L168 a3 M16 n x53 x54 x68)))
def f_X7_hands (a1 : Int32) (a2 : Int32) (a3 : Int32) (M : Mem) : Option (Int32 × Mem) :=
  ob (f_X7_isLimb a1 M) (fun x1 =>
  if x1 = (0 : Int32) then (
    ob2 (f_X7_badTen M) (fun x2 M3 =>
    some (x2, M3)))
  else (
    ob (f_X7_isLimb a2 M) (fun x4 =>
    if x4 = (0 : Int32) then (
      ob2 (f_X7_badTen M) (fun x5 M6 =>
      some (x5, M6)))
    else (
      if a1 = a2 then (
        ob2 (f_X7_badTen M) (fun x7 M8 =>
        some (x7, M8)))
      else (
        if ((-1) : Int32) ≤ a3 then (
          ob (f_X7_high a1 M) (fun x9 =>
          ob (f_X7_high a2 M) (fun x10 =>
          ob (f_X7_asides M) (fun M12 =>
          ob2 (f_X7_hands_L52 a1 a2 x9 x10 FU (0 : Int32) M12) (fun x15 M16 =>
          ob2 (f_X7_hands_L168 a3 M16 FU (0 : Int32) (0 : Int32) (0 : Int32)) (fun x48 x49 =>
          some ((f_X7_found x48 a3 x49), M16)))))))
        else (
          ob2 (f_X7_badTen M) (fun x77 M78 =>
          some (x77, M78))))))))
set_option maxHeartbeats 4000000 in
set_option maxRecDepth 100000 in
theorem c_X7_hands (l : Launch) (G : GT) (a1 : Int32) (a2 : Int32) (a3 : Int32) (M : Mem) {r : Int32} {M' : Mem} (hk : f_X7_hands a1 a2 a3 M = some (r, M')) : CMi l G false yX7_hands cX7_hands 10 (some .int) 4 [.ref (ad G 176), .int a1, .int a2, .int a3] M r M' := by
  unfold f_X7_hands at hk
  refine CMi.of (by decide) (Nat.le_of_ble_eq_true rfl) ?_
  intro p e s m args below meth c Q hx hb hml hown hg hK hW hret ls hl
  have hl : lv_has ls 10 [(0, .ref (ad G 176)), (1, .int a1), (2, .int a2), (3, .int a3)] := hl
  refine lv_aload_n hx hb dX7_hands_0 rfl (lv_at hl 0 rfl) ?_
  refine lv_iload_n hx hb dX7_hands_1 rfl (lv_at hl 1 rfl) ?_
  replace hk := ob_s hk
  obtain ⟨x1, hx1, hk⟩ := hk
  refine cl_i (rn_V g_1033 g_1035 gs_78 g_9 g_1036 hd_X7_isLimb (Nat.le_of_ble_eq_true rfl) (ci := 7) rfl (inM kd_176 rfl) (shp7 kd_176) hx hb hml hown hg hK hW (As := [.int a1]) (c_X7_isLimb l G a1 M hx1) (by decide) rfl hl.1 rfl (Nat.le_of_ble_eq_true rfl) dX7_hands_2) hW (fun H locs hW => ?_)
  refine lv_if_eq (tgt := 26) hx hb dX7_hands_5 (by decide) (fun c82 => ?_) (fun c82 => ?_)
  · replace hk := ite_t hk c82
    refine lv_aload_n hx hb dX7_hands_26 rfl (lv_at hl 0 rfl) ?_
    replace hk := ob2_s hk
    obtain ⟨x2, M3, hx2, hk⟩ := hk
    refine cl_i (rn_V g_1092 g_1094 gs_85 g_9 g_1095 hd_X7_badTen (Nat.le_of_ble_eq_true rfl) (ci := 7) rfl (inM kd_176 rfl) (shp7 kd_176) hx hb hml hown hg hK hW (As := []) (c_X7_badTen l G M hx2) (by decide) rfl hl.1 rfl (Nat.le_of_ble_eq_true rfl) dX7_hands_27) hW (fun H locs hW => ?_)
    obtain ⟨rfl, rfl⟩ := sp2 hk
    exact hret _ _ _ _ hW dX7_hands_30
  · replace hk := ite_f hk c82
    refine lv_aload_n hx hb dX7_hands_8 rfl (lv_at hl 0 rfl) ?_
    refine lv_iload_n hx hb dX7_hands_9 rfl (lv_at hl 2 rfl) ?_
    replace hk := ob_s hk
    obtain ⟨x4, hx4, hk⟩ := hk
    refine cl_i (rn_V g_1033 g_1035 gs_78 g_9 g_1036 hd_X7_isLimb (Nat.le_of_ble_eq_true rfl) (ci := 7) rfl (inM kd_176 rfl) (shp7 kd_176) hx hb hml hown hg hK hW (As := [.int a2]) (c_X7_isLimb l G a2 M hx4) (by decide) rfl hl.1 rfl (Nat.le_of_ble_eq_true rfl) dX7_hands_10) hW (fun H locs hW => ?_)
    refine lv_if_eq (tgt := 26) hx hb dX7_hands_13 (by decide) (fun c81 => ?_) (fun c81 => ?_)
    · replace hk := ite_t hk c81
      refine lv_aload_n hx hb dX7_hands_26 rfl (lv_at hl 0 rfl) ?_
      replace hk := ob2_s hk
      obtain ⟨x5, M6, hx5, hk⟩ := hk
      refine cl_i (rn_V g_1092 g_1094 gs_85 g_9 g_1095 hd_X7_badTen (Nat.le_of_ble_eq_true rfl) (ci := 7) rfl (inM kd_176 rfl) (shp7 kd_176) hx hb hml hown hg hK hW (As := []) (c_X7_badTen l G M hx5) (by decide) rfl hl.1 rfl (Nat.le_of_ble_eq_true rfl) dX7_hands_27) hW (fun H locs hW => ?_)
      obtain ⟨rfl, rfl⟩ := sp2 hk
      exact hret _ _ _ _ hW dX7_hands_30
    · replace hk := ite_f hk c81
      refine lv_iload_n hx hb dX7_hands_16 rfl (lv_at hl 1 rfl) ?_
      refine lv_iload_n hx hb dX7_hands_17 rfl (lv_at hl 2 rfl) ?_
      refine lv_icmp_eq (tgt := 26) hx hb dX7_hands_18 (by decide) (fun c80 => ?_) (fun c80 => ?_)
      · replace hk := ite_t hk c80
        refine lv_aload_n hx hb dX7_hands_26 rfl (lv_at hl 0 rfl) ?_
        replace hk := ob2_s hk
        obtain ⟨x7, M8, hx7, hk⟩ := hk
        refine cl_i (rn_V g_1092 g_1094 gs_85 g_9 g_1095 hd_X7_badTen (Nat.le_of_ble_eq_true rfl) (ci := 7) rfl (inM kd_176 rfl) (shp7 kd_176) hx hb hml hown hg hK hW (As := []) (c_X7_badTen l G M hx7) (by decide) rfl hl.1 rfl (Nat.le_of_ble_eq_true rfl) dX7_hands_27) hW (fun H locs hW => ?_)
        obtain ⟨rfl, rfl⟩ := sp2 hk
        exact hret _ _ _ _ hW dX7_hands_30
      · replace hk := ite_f hk c80
        refine lv_iload_n hx hb dX7_hands_21 rfl (lv_at hl 3 rfl) ?_
        refine lv_iconst (v := ((-1) : Int32)) hx hb dX7_hands_22 (by decide) ?_
        refine lv_icmp_ge (tgt := 31) hx hb dX7_hands_23 (by decide) (fun c79 => ?_) (fun c79 => ?_)
        · replace hk := ite_t hk c79
          refine lv_aload_n hx hb dX7_hands_31 rfl (lv_at hl 0 rfl) ?_
          refine lv_iload_n hx hb dX7_hands_32 rfl (lv_at hl 1 rfl) ?_
          replace hk := ob_s hk
          obtain ⟨x9, hx9, hk⟩ := hk
          refine cl_i (rn_V g_1074 g_1076 gs_83 g_9 g_1077 hd_X7_high (Nat.le_of_ble_eq_true rfl) (ci := 7) rfl (inM kd_176 rfl) (shp7 kd_176) hx hb hml hown hg hK hW (As := [.int a1]) (c_X7_high l G a1 M hx9) (by decide) rfl hl.1 rfl (Nat.le_of_ble_eq_true rfl) dX7_hands_33) hW (fun H locs hW => ?_)
          refine lv_istore (lv' := [(4, .int x9), (0, .ref (ad G 176)), (1, .int a1), (2, .int a2), (3, .int a3)]) hx hb dX7_hands_36 hl (by decide) rfl (fun ls hl => ?_)
          refine lv_aload_n hx hb dX7_hands_38 rfl (lv_at hl 1 rfl) ?_
          refine lv_iload_n hx hb dX7_hands_39 rfl (lv_at hl 3 rfl) ?_
          replace hk := ob_s hk
          obtain ⟨x10, hx10, hk⟩ := hk
          refine cl_i (rn_V g_1074 g_1076 gs_83 g_9 g_1077 hd_X7_high (Nat.le_of_ble_eq_true rfl) (ci := 7) rfl (inM kd_176 rfl) (shp7 kd_176) hx hb hml hown hg hK hW (As := [.int a2]) (c_X7_high l G a2 M hx10) (by decide) rfl hl.1 rfl (Nat.le_of_ble_eq_true rfl) dX7_hands_40) hW (fun H locs hW => ?_)
          refine lv_istore (lv' := [(5, .int x10), (4, .int x9), (0, .ref (ad G 176)), (1, .int a1), (2, .int a2), (3, .int a3)]) hx hb dX7_hands_43 hl (by decide) rfl (fun ls hl => ?_)
          refine lv_aload_n hx hb dX7_hands_45 rfl (lv_at hl 2 rfl) ?_
          replace hk := ob_s hk
          obtain ⟨M12, hx11, hk⟩ := hk
          refine cl_v (rn_V g_1104 g_1106 gs_87 g_9 g_1107 hd_X7_asides (Nat.le_of_ble_eq_true rfl) (ci := 7) rfl (inM kd_176 rfl) (shp7 kd_176) hx hb hml hown hg hK hW (As := []) (c_X7_asides l G M hx11) (by decide) rfl hl.1 rfl (Nat.le_of_ble_eq_true rfl) dX7_hands_46) hW (fun H locs hW => ?_)
          refine lv_iconst (v := (0 : Int32)) hx hb dX7_hands_49 (by decide) ?_
          refine lv_istore (lv' := [(6, .int (0 : Int32)), (5, .int x10), (4, .int x9), (0, .ref (ad G 176)), (1, .int a1), (2, .int a2), (3, .int a3)]) hx hb dX7_hands_50 hl (by decide) rfl (fun ls hl => ?_)
          replace hk := ob2_s hk
          obtain ⟨x15, M16, hz75, hk⟩ := hk
          have KX52 : ∀ (H : Heap) (locs : List Loc) (ls : Array Slot), Ws G false M16 s H locs → lv_has ls 10 [(0, .ref (ad G 176)), (3, .int a3)] → Wx p l e 4 s m args below meth c Q H locs 159 ls [] := by
            intro H locs ls hW hl
            refine lv_iconst (v := (0 : Int32)) hx hb dX7_hands_159 (by decide) ?_
            refine lv_istore (lv' := [(6, .int (0 : Int32)), (0, .ref (ad G 176)), (3, .int a3)]) hx hb dX7_hands_160 hl (by decide) rfl (fun ls hl => ?_)
            refine lv_iconst (v := (0 : Int32)) hx hb dX7_hands_162 (by decide) ?_
            refine lv_istore (lv' := [(7, .int (0 : Int32)), (6, .int (0 : Int32)), (0, .ref (ad G 176)), (3, .int a3)]) hx hb dX7_hands_163 hl (by decide) rfl (fun ls hl => ?_)
            refine lv_iconst (v := (0 : Int32)) hx hb dX7_hands_165 (by decide) ?_
            refine lv_istore (lv' := [(8, .int (0 : Int32)), (7, .int (0 : Int32)), (6, .int (0 : Int32)), (0, .ref (ad G 176)), (3, .int a3)]) hx hb dX7_hands_166 hl (by decide) rfl (fun ls hl => ?_)
            replace hk := ob2_s hk
            obtain ⟨x48, x49, hz73, hk⟩ := hk
            have KX168 : ∀ (H : Heap) (locs : List Loc) (ls : Array Slot), Ws G false M16 s H locs → lv_has ls 10 [(0, .ref (ad G 176)), (3, .int a3), (6, .int x48), (7, .int x49)] → Wx p l e 4 s m args below meth c Q H locs 230 ls [] := by
              intro H locs ls hW hl
              refine lv_aload_n hx hb dX7_hands_230 rfl (lv_at hl 0 rfl) ?_
              refine lv_iload hx hb dX7_hands_231 (lv_at hl 2 rfl) ?_
              refine lv_iload_n hx hb dX7_hands_233 rfl (lv_at hl 1 rfl) ?_
              refine lv_iload hx hb dX7_hands_234 (lv_at hl 3 rfl) ?_
              refine cl_i (rn_V g_1096 g_1098 gs_86 g_9 g_1099 hd_X7_found (Nat.le_of_ble_eq_true rfl) (ci := 7) rfl (inM kd_176 rfl) (shp7 kd_176) hx hb hml hown hg hK hW (As := [.int x48, .int a3, .int x49]) (c_X7_found l G x48 a3 x49 M16) (by decide) rfl hl.1 rfl (Nat.le_of_ble_eq_true rfl) dX7_hands_236) hW (fun H locs hW => ?_)
              obtain ⟨rfl, rfl⟩ := sp2 hk
              exact hret _ _ _ _ hW dX7_hands_239
            clear hk
            have LH168 : ∀ (n : Nat) (x45 : Int32) (x46 : Int32) (x47 : Int32) (H : Heap) (locs : List Loc) (ls : Array Slot), f_X7_hands_L168 a3 M16 n x45 x46 x47 = some (x48, x49) → Ws G false M16 s H locs → lv_has ls 10 [(0, .ref (ad G 176)), (3, .int a3), (6, .int x45), (7, .int x46), (8, .int x47)] → Wx p l e 4 s m args below meth c Q H locs 168 ls [] := by
              clear hz73
              intro n
              induction n with
              | zero => intro _ _ _ _ _ _ hk; cases hk
              | succ n ih168 =>
                intro x45 x46 x47 H locs ls hk hW hl
                rw [f_X7_hands_L168.eq_2] at hk
                refine lv_iload hx hb dX7_hands_168 (lv_at hl 4 rfl) ?_
                refine lv_iconst (v := (5 : Int32)) hx hb dX7_hands_170 (by decide) ?_
                refine lv_icmp_ge (tgt := 230) hx hb dX7_hands_171 (by decide) (fun c71 => ?_) (fun c71 => ?_)
                · replace hk := ite_t hk c71
                  obtain ⟨rfl, rfl⟩ := sp2 hk
                  exact KX168 _ _ _ hW (lv_sub hl [0, 1, 2, 3] rfl)
                · replace hk := ite_f hk c71
                  refine lv_iconst (v := (0 : Int32)) hx hb dX7_hands_174 (by decide) ?_
                  refine lv_istore (lv' := [(9, .int (0 : Int32)), (0, .ref (ad G 176)), (3, .int a3), (6, .int x45), (7, .int x46), (8, .int x47)]) hx hb dX7_hands_175 hl (by decide) rfl (fun ls hl => ?_)
                  replace hk := ob2_s hk
                  obtain ⟨x53, x54, hz69, hk⟩ := hk
                  have KX177 : ∀ (H : Heap) (locs : List Loc) (ls : Array Slot), Ws G false M16 s H locs → lv_has ls 10 [(0, .ref (ad G 176)), (3, .int a3), (6, .int x53), (7, .int x54), (8, .int x47)] → Wx p l e 4 s m args below meth c Q H locs 224 ls [] := by
                    intro H locs ls hW hl
                    replace hk := lq_s hk
                    obtain ⟨x68, ex68, hk⟩ := hk
                    refine lv_iinc (v := x68) (lv' := [(8, .int x68), (0, .ref (ad G 176)), (3, .int a3), (6, .int x53), (7, .int x54)]) hx hb dX7_hands_224 hl (k := 4) rfl (by rw [ex68]; rfl) (by decide) rfl (fun ls hl => ?_)
                    refine lv_goto (tgt := 168) hx hb dX7_hands_227 (by decide) ?_
                    exact ih168 _ _ _ _ _ _ hk hW (lv_sub hl [1, 2, 3, 4, 0] rfl)
                  clear hk
                  have LH177 : ∀ (n : Nat) (x50 : Int32) (x51 : Int32) (x52 : Int32) (H : Heap) (locs : List Loc) (ls : Array Slot), f_X7_hands_L177 a3 M16 x47 n x50 x51 x52 = some (x53, x54) → Ws G false M16 s H locs → lv_has ls 10 [(0, .ref (ad G 176)), (3, .int a3), (6, .int x50), (7, .int x51), (8, .int x47), (9, .int x52)] → Wx p l e 4 s m args below meth c Q H locs 177 ls [] := by
                    clear hz69
                    intro n
                    induction n with
                    | zero => intro _ _ _ _ _ _ hk; cases hk
                    | succ n ih177 =>
                      intro x50 x51 x52 H locs ls hk hW hl
                      rw [f_X7_hands_L177.eq_2] at hk
                      refine lv_iload hx hb dX7_hands_177 (lv_at hl 5 rfl) ?_
                      refine lv_iconst (v := (5 : Int32)) hx hb dX7_hands_179 (by decide) ?_
                      refine lv_icmp_ge (tgt := 224) hx hb dX7_hands_180 (by decide) (fun c67 => ?_) (fun c67 => ?_)
                      · replace hk := ite_t hk c67
                        obtain ⟨rfl, rfl⟩ := sp2 hk
                        exact KX177 _ _ _ hW (lv_sub hl [0, 1, 2, 3, 4] rfl)
                      · replace hk := ite_f hk c67
                        refine lv_aload_n hx hb dX7_hands_183 rfl (lv_at hl 0 rfl) ?_
                        refine lv_iload hx hb dX7_hands_184 (lv_at hl 4 rfl) ?_
                        refine lv_iload hx hb dX7_hands_186 (lv_at hl 5 rfl) ?_
                        replace hk := ob_s hk
                        obtain ⟨x55, hx55, hk⟩ := hk
                        refine cl_i (rn_V g_1224 g_1226 gs_97 g_9 g_1227 hd_X7_rests (Nat.le_of_ble_eq_true rfl) (ci := 7) rfl (inM kd_176 rfl) (shp7 kd_176) hx hb hml hown hg hK hW (As := [.int x47, .int x52]) (c_X7_rests l G x47 x52 M16 hx55) (by decide) rfl hl.1 rfl (Nat.le_of_ble_eq_true rfl) dX7_hands_188) hW (fun H locs hW => ?_)
                        replace hk := ob2_s hk
                        obtain ⟨x62, x63, hr66, hk⟩ := hk
                        have KJ65 : ∀ (H : Heap) (locs : List Loc) (ls : Array Slot), Ws G false M16 s H locs → lv_has ls 10 [(0, .ref (ad G 176)), (3, .int a3), (6, .int x62), (7, .int x63), (8, .int x47), (9, .int x52)] → Wx p l e 4 s m args below meth c Q H locs 218 ls [] := by
                          intro H locs ls hW hl
                          replace hk := lq_s hk
                          obtain ⟨x64, ex64, hk⟩ := hk
                          refine lv_iinc (v := x64) (lv' := [(9, .int x64), (0, .ref (ad G 176)), (3, .int a3), (6, .int x62), (7, .int x63), (8, .int x47)]) hx hb dX7_hands_218 hl (k := 5) rfl (by rw [ex64]; rfl) (by decide) rfl (fun ls hl => ?_)
                          refine lv_goto (tgt := 177) hx hb dX7_hands_221 (by decide) ?_
                          exact ih177 _ _ _ _ _ _ hk hW (lv_sub hl [1, 2, 3, 4, 5, 0] rfl)
                        clear hk
                        have hk := hr66
                        clear hr66
                        refine lv_if_eq (tgt := 218) hx hb dX7_hands_191 (by decide) (fun c61 => ?_) (fun c61 => ?_)
                        · replace hk := ite_t hk c61
                          obtain ⟨rfl, rfl⟩ := sp2 hk
                          exact KJ65 _ _ _ hW (lv_sub hl [0, 1, 2, 3, 4, 5] rfl)
                        · replace hk := ite_f hk c61
                          refine lv_iload hx hb dX7_hands_194 (lv_at hl 2 rfl) ?_
                          refine lv_iload_n hx hb dX7_hands_196 rfl (lv_at hl 1 rfl) ?_
                          replace hk := lq_s hk
                          obtain ⟨x57, hr60, hk⟩ := hk
                          have KJ59 : ∀ (H : Heap) (locs : List Loc) (ls : Array Slot), Ws G false M16 s H locs → lv_has ls 10 [(0, .ref (ad G 176)), (3, .int a3), (6, .int x50), (8, .int x47), (9, .int x52)] → Wx p l e 4 s m args below meth c Q H locs 213 ls [.int x57] := by
                            intro H locs ls hW hl
                            refine lv_istore (lv' := [(7, .int x57), (0, .ref (ad G 176)), (3, .int a3), (6, .int x50), (8, .int x47), (9, .int x52)]) hx hb dX7_hands_213 hl (by decide) rfl (fun ls hl => ?_)
                            replace hk := lq_s hk
                            obtain ⟨x58, ex58, hk⟩ := hk
                            refine lv_iinc (v := x58) (lv' := [(6, .int x58), (7, .int x57), (0, .ref (ad G 176)), (3, .int a3), (8, .int x47), (9, .int x52)]) hx hb dX7_hands_215 hl (k := 3) rfl (by rw [ex58]; rfl) (by decide) rfl (fun ls hl => ?_)
                            obtain ⟨rfl, rfl⟩ := sp2 hk
                            exact KJ65 _ _ _ hW (lv_sub hl [2, 3, 0, 1, 4, 5] rfl)
                          clear hk
                          have hk := hr60.symm
                          clear hr60
                          refine lv_icmp_ne (tgt := 211) hx hb dX7_hands_197 (by decide) (fun c56 => ?_) (fun c56 => ?_)
                          · replace hk := ite_f hk c56
                            refine lv_iload hx hb dX7_hands_211 (lv_at hl 3 rfl) ?_
                            subst hk
                            exact KJ59 _ _ _ hW (lv_sub hl [0, 1, 2, 4, 5] rfl)
                          · replace hk := ite_t hk c56
                            refine lv_bipush (v := (10 : Int32)) hx hb dX7_hands_200 (by decide) ?_
                            refine lv_iload hx hb dX7_hands_202 (lv_at hl 4 rfl) ?_
                            refine lv_imul hx hb dX7_hands_204 ?_
                            refine lv_iload hx hb dX7_hands_205 (lv_at hl 5 rfl) ?_
                            refine lv_iadd hx hb dX7_hands_207 ?_
                            refine lv_goto (tgt := 213) hx hb dX7_hands_208 (by decide) ?_
                            subst hk
                            exact KJ59 _ _ _ hW (lv_sub hl [0, 1, 2, 4, 5] rfl)
                  exact LH177 FU _ _ _ _ _ _ hz69 hW (lv_sub hl [1, 2, 3, 4, 5, 0] rfl)
            exact LH168 FU _ _ _ _ _ _ hz73 hW (lv_sub hl [3, 4, 2, 1, 0] rfl)
          clear hk
          have LH52 : ∀ (n : Nat) (x13 : Int32) (M14 : Mem) (H : Heap) (locs : List Loc) (ls : Array Slot), f_X7_hands_L52 a1 a2 x9 x10 n x13 M14 = some (x15, M16) → Ws G false M14 s H locs → lv_has ls 10 [(0, .ref (ad G 176)), (1, .int a1), (2, .int a2), (3, .int a3), (4, .int x9), (5, .int x10), (6, .int x13)] → Wx p l e 4 s m args below meth c Q H locs 52 ls [] := by
            clear hz75
            intro n
            induction n with
            | zero => intro _ _ _ _ _ hk; cases hk
            | succ n ih52 =>
              intro x13 M14 H locs ls hk hW hl
              rw [f_X7_hands_L52.eq_2] at hk
              refine lv_iload hx hb dX7_hands_52 (lv_at hl 6 rfl) ?_
              refine lv_iconst (v := (5 : Int32)) hx hb dX7_hands_54 (by decide) ?_
              refine lv_icmp_ge (tgt := 159) hx hb dX7_hands_55 (by decide) (fun c44 => ?_) (fun c44 => ?_)
              · replace hk := ite_t hk c44
                obtain ⟨rfl, rfl⟩ := sp2 hk
                exact KX52 _ _ _ hW (lv_sub hl [0, 3] rfl)
              · replace hk := ite_f hk c44
                refine lv_iconst (v := (0 : Int32)) hx hb dX7_hands_58 (by decide) ?_
                refine lv_istore (lv' := [(7, .int (0 : Int32)), (0, .ref (ad G 176)), (1, .int a1), (2, .int a2), (3, .int a3), (4, .int x9), (5, .int x10), (6, .int x13)]) hx hb dX7_hands_59 hl (by decide) rfl (fun ls hl => ?_)
                replace hk := ob2_s hk
                obtain ⟨x19, M20, hz42, hk⟩ := hk
                have KX61 : ∀ (H : Heap) (locs : List Loc) (ls : Array Slot), Ws G false M20 s H locs → lv_has ls 10 [(0, .ref (ad G 176)), (1, .int a1), (2, .int a2), (3, .int a3), (4, .int x9), (5, .int x10), (6, .int x13)] → Wx p l e 4 s m args below meth c Q H locs 153 ls [] := by
                  intro H locs ls hW hl
                  replace hk := lq_s hk
                  obtain ⟨x41, ex41, hk⟩ := hk
                  refine lv_iinc (v := x41) (lv' := [(6, .int x41), (0, .ref (ad G 176)), (1, .int a1), (2, .int a2), (3, .int a3), (4, .int x9), (5, .int x10)]) hx hb dX7_hands_153 hl (k := 6) rfl (by rw [ex41]; rfl) (by decide) rfl (fun ls hl => ?_)
                  refine lv_goto (tgt := 52) hx hb dX7_hands_156 (by decide) ?_
                  exact ih52 _ _ _ _ _ hk hW (lv_sub hl [1, 2, 3, 4, 5, 6, 0] rfl)
                clear hk
                have LH61 : ∀ (n : Nat) (x17 : Int32) (M18 : Mem) (H : Heap) (locs : List Loc) (ls : Array Slot), f_X7_hands_L61 a1 a2 x9 x10 x13 n x17 M18 = some (x19, M20) → Ws G false M18 s H locs → lv_has ls 10 [(0, .ref (ad G 176)), (1, .int a1), (2, .int a2), (3, .int a3), (4, .int x9), (5, .int x10), (6, .int x13), (7, .int x17)] → Wx p l e 4 s m args below meth c Q H locs 61 ls [] := by
                  clear hz42
                  intro n
                  induction n with
                  | zero => intro _ _ _ _ _ hk; cases hk
                  | succ n ih61 =>
                    intro x17 M18 H locs ls hk hW hl
                    rw [f_X7_hands_L61.eq_2] at hk
                    refine lv_iload hx hb dX7_hands_61 (lv_at hl 7 rfl) ?_
                    refine lv_iconst (v := (5 : Int32)) hx hb dX7_hands_63 (by decide) ?_
                    refine lv_icmp_ge (tgt := 153) hx hb dX7_hands_64 (by decide) (fun c40 => ?_) (fun c40 => ?_)
                    · replace hk := ite_t hk c40
                      obtain ⟨rfl, rfl⟩ := sp2 hk
                      exact KX61 _ _ _ hW (lv_sub hl [0, 1, 2, 3, 4, 5, 6] rfl)
                    · replace hk := ite_f hk c40
                      refine lv_aload_n hx hb dX7_hands_67 rfl (lv_at hl 0 rfl) ?_
                      refine lv_iload hx hb dX7_hands_68 (lv_at hl 6 rfl) ?_
                      replace hk := ob_s hk
                      obtain ⟨M22, hx21, hk⟩ := hk
                      refine cl_v (rn_V g_1017 g_1019 gs_74 g_9 g_1020 hd_X7_goes (Nat.le_of_ble_eq_true rfl) (ci := 7) rfl (inM kd_176 rfl) (shp7 kd_176) hx hb hml hown hg hK hW (As := [.int x13]) (c_X7_goes l G x13 M18 hx21) (by decide) rfl hl.1 rfl (Nat.le_of_ble_eq_true rfl) dX7_hands_70) hW (fun H locs hW => ?_)
                      refine lv_aload_n hx hb dX7_hands_73 rfl (lv_at hl 0 rfl) ?_
                      refine lv_iload hx hb dX7_hands_74 (lv_at hl 7 rfl) ?_
                      replace hk := ob_s hk
                      obtain ⟨M24, hx23, hk⟩ := hk
                      refine cl_v (rn_V g_1017 g_1019 gs_74 g_9 g_1020 hd_X7_goes (Nat.le_of_ble_eq_true rfl) (ci := 7) rfl (inM kd_176 rfl) (shp7 kd_176) hx hb hml hown hg hK hW (As := [.int x17]) (c_X7_goes l G x17 M22 hx23) (by decide) rfl hl.1 rfl (Nat.le_of_ble_eq_true rfl) dX7_hands_76) hW (fun H locs hW => ?_)
                      refine lv_aload_n hx hb dX7_hands_79 rfl (lv_at hl 0 rfl) ?_
                      refine gt_X7_29 hx hb hg hown hK hW kd_176 dX7_hands_80 ?_
                      refine lv_iconst (v := (5 : Int32)) hx hb dX7_hands_83 (by decide) ?_
                      refine lv_iload hx hb dX7_hands_84 (lv_at hl 6 rfl) ?_
                      refine lv_imul hx hb dX7_hands_86 ?_
                      refine lv_iload hx hb dX7_hands_87 (lv_at hl 7 rfl) ?_
                      refine lv_iadd hx hb dX7_hands_89 ?_
                      refine lv_aload_n hx hb dX7_hands_90 rfl (lv_at hl 0 rfl) ?_
                      refine lv_iload_n hx hb dX7_hands_91 rfl (lv_at hl 1 rfl) ?_
                      replace hk := ob_s hk
                      obtain ⟨x25, hx25, hk⟩ := hk
                      refine cl_i (rn_V g_1074 g_1076 gs_83 g_9 g_1077 hd_X7_high (Nat.le_of_ble_eq_true rfl) (ci := 7) rfl (inM kd_176 rfl) (shp7 kd_176) hx hb hml hown hg hK hW (As := [.int a1]) (c_X7_high l G a1 M24 hx25) (by decide) rfl hl.1 rfl (Nat.le_of_ble_eq_true rfl) dX7_hands_92) hW (fun H locs hW => ?_)
                      refine lv_iload hx hb dX7_hands_95 (lv_at hl 4 rfl) ?_
                      refine lv_isub hx hb dX7_hands_97 ?_
                      refine lv_iload hx hb dX7_hands_98 (lv_at hl 6 rfl) ?_
                      refine lv_iconst (v := (4 : Int32)) hx hb dX7_hands_100 (by decide) ?_
                      replace hk := lq_s hk
                      obtain ⟨x27, hr39, hk⟩ := hk
                      have KJ38 : ∀ (H : Heap) (locs : List Loc) (ls : Array Slot), Ws G false M24 s H locs → lv_has ls 10 [(0, .ref (ad G 176)), (1, .int a1), (2, .int a2), (3, .int a3), (4, .int x9), (5, .int x10), (6, .int x13), (7, .int x17)] → Wx p l e 4 s m args below meth c Q H locs 109 ls [.int x27, .int (x25 - x9), .int (((5 : Int32) * x13) + x17), .ref (ad G 182)] := by
                        intro H locs ls hW hl
                        refine lv_isub hx hb dX7_hands_109 ?_
                        replace hk := ob_s hk
                        obtain ⟨M28, hM28, hk⟩ := hk
                        obtain ⟨hM28, eM28⟩ := wr_s hM28
                        refine w_ast hx hb hK hW (inM kd_182 rfl) (fun _ => (shp10 kd_182)) hM28 eM28 dX7_hands_110 (fun H locs hW => ?_)
                        refine lv_aload_n hx hb dX7_hands_111 rfl (lv_at hl 0 rfl) ?_
                        refine gt_X7_32 hx hb hg hown hK hW kd_176 dX7_hands_112 ?_
                        refine lv_iconst (v := (5 : Int32)) hx hb dX7_hands_115 (by decide) ?_
                        refine lv_iload hx hb dX7_hands_116 (lv_at hl 6 rfl) ?_
                        refine lv_imul hx hb dX7_hands_118 ?_
                        refine lv_iload hx hb dX7_hands_119 (lv_at hl 7 rfl) ?_
                        refine lv_iadd hx hb dX7_hands_121 ?_
                        refine lv_aload_n hx hb dX7_hands_122 rfl (lv_at hl 0 rfl) ?_
                        refine lv_iload_n hx hb dX7_hands_123 rfl (lv_at hl 2 rfl) ?_
                        replace hk := ob_s hk
                        obtain ⟨x29, hx29, hk⟩ := hk
                        refine cl_i (rn_V g_1074 g_1076 gs_83 g_9 g_1077 hd_X7_high (Nat.le_of_ble_eq_true rfl) (ci := 7) rfl (inM kd_176 rfl) (shp7 kd_176) hx hb hml hown hg hK hW (As := [.int a2]) (c_X7_high l G a2 M28 hx29) (by decide) rfl hl.1 rfl (Nat.le_of_ble_eq_true rfl) dX7_hands_124) hW (fun H locs hW => ?_)
                        refine lv_iload hx hb dX7_hands_127 (lv_at hl 5 rfl) ?_
                        refine lv_isub hx hb dX7_hands_129 ?_
                        refine lv_iload hx hb dX7_hands_130 (lv_at hl 7 rfl) ?_
                        refine lv_iconst (v := (4 : Int32)) hx hb dX7_hands_132 (by decide) ?_
                        replace hk := lq_s hk
                        obtain ⟨x31, hr37, hk⟩ := hk
                        have KJ36 : ∀ (H : Heap) (locs : List Loc) (ls : Array Slot), Ws G false M28 s H locs → lv_has ls 10 [(0, .ref (ad G 176)), (1, .int a1), (2, .int a2), (3, .int a3), (4, .int x9), (5, .int x10), (6, .int x13), (7, .int x17)] → Wx p l e 4 s m args below meth c Q H locs 141 ls [.int x31, .int (x29 - x10), .int (((5 : Int32) * x13) + x17), .ref (ad G 183)] := by
                          intro H locs ls hW hl
                          refine lv_isub hx hb dX7_hands_141 ?_
                          replace hk := ob_s hk
                          obtain ⟨M32, hM32, hk⟩ := hk
                          obtain ⟨hM32, eM32⟩ := wr_s hM32
                          refine w_ast hx hb hK hW (inM kd_183 rfl) (fun _ => (shp10 kd_183)) hM32 eM32 dX7_hands_142 (fun H locs hW => ?_)
                          refine lv_aload_n hx hb dX7_hands_143 rfl (lv_at hl 0 rfl) ?_
                          replace hk := ob_s hk
                          obtain ⟨M34, hx33, hk⟩ := hk
                          refine cl_v (rn_V g_1108 g_1110 gs_88 g_9 g_1111 hd_X7_backs (Nat.le_of_ble_eq_true rfl) (ci := 7) rfl (inM kd_176 rfl) (shp7 kd_176) hx hb hml hown hg hK hW (As := []) (c_X7_backs l G M32 hx33) (by decide) rfl hl.1 rfl (Nat.le_of_ble_eq_true rfl) dX7_hands_144) hW (fun H locs hW => ?_)
                          replace hk := lq_s hk
                          obtain ⟨x35, ex35, hk⟩ := hk
                          refine lv_iinc (v := x35) (lv' := [(7, .int x35), (0, .ref (ad G 176)), (1, .int a1), (2, .int a2), (3, .int a3), (4, .int x9), (5, .int x10), (6, .int x13)]) hx hb dX7_hands_147 hl (k := 7) rfl (by rw [ex35]; rfl) (by decide) rfl (fun ls hl => ?_)
                          refine lv_goto (tgt := 61) hx hb dX7_hands_150 (by decide) ?_
                          exact ih61 _ _ _ _ _ hk hW (lv_sub hl [1, 2, 3, 4, 5, 6, 7, 0] rfl)
                        clear hk
                        have hk := hr37.symm
                        clear hr37
                        refine lv_icmp_ne (tgt := 140) hx hb dX7_hands_133 (by decide) (fun c30 => ?_) (fun c30 => ?_)
                        · replace hk := ite_f hk c30
                          refine lv_iconst (v := (2 : Int32)) hx hb dX7_hands_140 (by decide) ?_
                          subst hk
                          exact KJ36 _ _ _ hW (lv_sub hl [0, 1, 2, 3, 4, 5, 6, 7] rfl)
                        · replace hk := ite_t hk c30
                          refine lv_iconst (v := (0 : Int32)) hx hb dX7_hands_136 (by decide) ?_
                          refine lv_goto (tgt := 141) hx hb dX7_hands_137 (by decide) ?_
                          subst hk
                          exact KJ36 _ _ _ hW (lv_sub hl [0, 1, 2, 3, 4, 5, 6, 7] rfl)
                      clear hk
                      have hk := hr39.symm
                      clear hr39
                      refine lv_icmp_ne (tgt := 108) hx hb dX7_hands_101 (by decide) (fun c26 => ?_) (fun c26 => ?_)
                      · replace hk := ite_f hk c26
                        refine lv_iconst (v := (2 : Int32)) hx hb dX7_hands_108 (by decide) ?_
                        subst hk
                        exact KJ38 _ _ _ hW (lv_sub hl [0, 1, 2, 3, 4, 5, 6, 7] rfl)
                      · replace hk := ite_t hk c26
                        refine lv_iconst (v := (0 : Int32)) hx hb dX7_hands_104 (by decide) ?_
                        refine lv_goto (tgt := 109) hx hb dX7_hands_105 (by decide) ?_
                        subst hk
                        exact KJ38 _ _ _ hW (lv_sub hl [0, 1, 2, 3, 4, 5, 6, 7] rfl)
                exact LH61 FU _ _ _ _ _ hz42 hW (lv_sub hl [1, 2, 3, 4, 5, 6, 7, 0] rfl)
          exact LH52 FU _ _ _ _ _ hz75 hW (lv_sub hl [3, 4, 5, 6, 2, 1, 0] rfl)
        · replace hk := ite_f hk c79
          refine lv_aload_n hx hb dX7_hands_26 rfl (lv_at hl 0 rfl) ?_
          replace hk := ob2_s hk
          obtain ⟨x77, M78, hx77, hk⟩ := hk
          refine cl_i (rn_V g_1092 g_1094 gs_85 g_9 g_1095 hd_X7_badTen (Nat.le_of_ble_eq_true rfl) (ci := 7) rfl (inM kd_176 rfl) (shp7 kd_176) hx hb hml hown hg hK hW (As := []) (c_X7_badTen l G M hx77) (by decide) rfl hl.1 rfl (Nat.le_of_ble_eq_true rfl) dX7_hands_27) hW (fun H locs hW => ?_)
          obtain ⟨rfl, rfl⟩ := sp2 hk
          exact hret _ _ _ _ hW dX7_hands_30
def f_X7_fraction_L6 : Nat → Int64 → Int64 → Option (Int64)
  | 0, _, _ => none
  | n + 1, x1, x2 =>
    if (lg_cmp x2 (0 : Int64)) = (0 : Int32) then (
      some x1)
    else (
      ob (rmL x1 x2) (fun x4 =>
      f_X7_fraction_L6 n x2 x4))
def f_X7_fraction (a1 : Int64) (a3 : Int64) (M : Mem) : Option (Int32 × Mem) :=
  ob (f_X7_fraction_L6 FU a1 a3) (fun x3 =>
  ob (dvL a1 x3) (fun x6 =>
  lq (s2 M 176 4 x6) (fun M7 =>
  ob (dvL a3 x3) (fun x8 =>
  lq (s2 M7 176 5 x8) (fun M9 =>
  some ((1 : Int32), M9))))))
set_option maxHeartbeats 4000000 in
set_option maxRecDepth 100000 in
theorem c_X7_fraction (l : Launch) (G : GT) (a1 : Int64) (a3 : Int64) (M : Mem) {r : Int32} {M' : Mem} (hk : f_X7_fraction a1 a3 M = some (r, M')) : CMi l G false yX7_fraction cX7_fraction 11 (some .int) 0 [.ref (ad G 176), .long a1, .long a3] M r M' := by
  unfold f_X7_fraction at hk
  refine CMi.of (by decide) (Nat.le_of_ble_eq_true rfl) ?_
  intro p e s m args below meth c Q hx hb hml hown hg hK hW hret ls hl
  have hl : lv_has ls 11 [(0, .ref (ad G 176)), (1, .long a1), (3, .long a3)] := hl
  refine lv_lload_n hx hb dX7_fraction_0 rfl (lv_at hl 1 rfl) ?_
  refine lv_lstore (lv' := [(5, .long a1), (0, .ref (ad G 176)), (1, .long a1), (3, .long a3)]) hx hb dX7_fraction_1 hl (by decide) rfl (fun ls hl => ?_)
  refine lv_lload_n hx hb dX7_fraction_3 rfl (lv_at hl 3 rfl) ?_
  refine lv_lstore (lv' := [(7, .long a3), (5, .long a1), (0, .ref (ad G 176)), (1, .long a1), (3, .long a3)]) hx hb dX7_fraction_4 hl (by decide) rfl (fun ls hl => ?_)
  replace hk := ob_s hk
  obtain ⟨x3, hz10, hk⟩ := hk
  have KX6 : ∀ (H : Heap) (locs : List Loc) (ls : Array Slot), Ws G false M s H locs → lv_has ls 11 [(0, .ref (ad G 176)), (1, .long a1), (3, .long a3), (5, .long x3)] → Wx p l e 0 s m args below meth c Q H locs 31 ls [] := by
    intro H locs ls hW hl
    refine lv_aload_n hx hb dX7_fraction_31 rfl (lv_at hl 0 rfl) ?_
    refine lv_lload_n hx hb dX7_fraction_32 rfl (lv_at hl 1 rfl) ?_
    refine lv_lload hx hb dX7_fraction_33 (lv_at hl 3 rfl) ?_
    replace hk := ob_s hk
    obtain ⟨x6, hx6, hk⟩ := hk
    obtain ⟨hx6, ex6⟩ := dvL_s hx6
    refine lv_ldiv hx hb dX7_fraction_35 hx6 ?_
    refine nm_l ex6 ?_
    replace hk := lq_s hk
    obtain ⟨M7, eM7, hk⟩ := hk
    refine pt_X7_274 hx hb hg hown hK hW kd_176 eM7 dX7_fraction_36 (fun H locs hW => ?_)
    refine lv_aload_n hx hb dX7_fraction_39 rfl (lv_at hl 0 rfl) ?_
    refine lv_lload_n hx hb dX7_fraction_40 rfl (lv_at hl 2 rfl) ?_
    refine lv_lload hx hb dX7_fraction_41 (lv_at hl 3 rfl) ?_
    replace hk := ob_s hk
    obtain ⟨x8, hx8, hk⟩ := hk
    obtain ⟨hx8, ex8⟩ := dvL_s hx8
    refine lv_ldiv hx hb dX7_fraction_43 hx8 ?_
    refine nm_l ex8 ?_
    replace hk := lq_s hk
    obtain ⟨M9, eM9, hk⟩ := hk
    refine pt_X7_13 hx hb hg hown hK hW kd_176 eM9 dX7_fraction_44 (fun H locs hW => ?_)
    refine lv_iconst (v := (1 : Int32)) hx hb dX7_fraction_47 (by decide) ?_
    obtain ⟨rfl, rfl⟩ := sp2 hk
    exact hret _ _ _ _ hW dX7_fraction_48
  clear hk
  have LH6 : ∀ (n : Nat) (x1 : Int64) (x2 : Int64) (H : Heap) (locs : List Loc) (ls : Array Slot), f_X7_fraction_L6 n x1 x2 = some x3 → Ws G false M s H locs → lv_has ls 11 [(0, .ref (ad G 176)), (1, .long a1), (3, .long a3), (5, .long x1), (7, .long x2)] → Wx p l e 0 s m args below meth c Q H locs 6 ls [] := by
    clear hz10
    intro n
    induction n with
    | zero => intro _ _ _ _ _ hk; cases hk
    | succ n ih6 =>
      intro x1 x2 H locs ls hk hW hl
      rw [f_X7_fraction_L6.eq_2] at hk
      refine lv_lload hx hb dX7_fraction_6 (lv_at hl 4 rfl) ?_
      refine lv_lconst (v := (0 : Int64)) hx hb dX7_fraction_8 (by decide) ?_
      refine W.lcmp hx hb dX7_fraction_9 ?_
      refine lv_if_eq (tgt := 31) hx hb dX7_fraction_10 (by decide) (fun c5 => ?_) (fun c5 => ?_)
      · replace hk := ite_t hk c5
        obtain rfl := Option.some.inj hk
        exact KX6 _ _ _ hW (lv_sub hl [0, 1, 2, 3] rfl)
      · replace hk := ite_f hk c5
        refine lv_lload hx hb dX7_fraction_13 (lv_at hl 3 rfl) ?_
        refine lv_lload hx hb dX7_fraction_15 (lv_at hl 4 rfl) ?_
        replace hk := ob_s hk
        obtain ⟨x4, hx4, hk⟩ := hk
        obtain ⟨hx4, ex4⟩ := rmL_s hx4
        refine lv_lrem hx hb dX7_fraction_17 hx4 ?_
        refine nm_l ex4 ?_
        refine lv_lstore (lv' := [(9, .long x4), (0, .ref (ad G 176)), (1, .long a1), (3, .long a3), (5, .long x1), (7, .long x2)]) hx hb dX7_fraction_18 hl (by decide) rfl (fun ls hl => ?_)
        refine lv_lload hx hb dX7_fraction_20 (lv_at hl 5 rfl) ?_
        refine lv_lstore (lv' := [(5, .long x2), (9, .long x4), (0, .ref (ad G 176)), (1, .long a1), (3, .long a3), (7, .long x2)]) hx hb dX7_fraction_22 hl (by decide) rfl (fun ls hl => ?_)
        refine lv_lload hx hb dX7_fraction_24 (lv_at hl 1 rfl) ?_
        refine lv_lstore (lv' := [(7, .long x4), (5, .long x2), (9, .long x4), (0, .ref (ad G 176)), (1, .long a1), (3, .long a3)]) hx hb dX7_fraction_26 hl (by decide) rfl (fun ls hl => ?_)
        refine lv_goto (tgt := 6) hx hb dX7_fraction_28 (by decide) ?_
        exact ih6 _ _ _ _ _ hk hW (lv_sub hl [3, 4, 5, 1, 0] rfl)
  exact LH6 FU _ _ _ _ _ hz10 hW (lv_sub hl [2, 3, 4, 1, 0] rfl)
def f_X7_slack_L55 (a1 : Int32) (a2 : Int32) (x9 : Int32) : Nat → Int64 → Int32 → Mem → Option (Int64 × Mem)
  | 0, _, _, _ => none
  | n + 1, x14, x15, M16 =>
    if a1 ≤ x15 then (
      some (x14, M16))
    else (
      lq (
        if ((x9 >>> (x15 &&& 31)) &&& (1 : Int32)) = (1 : Int32) then (
          (1 : Int32))
        else (
          (0 : Int32)))
       (fun x20 =>
      lq (
        if x20 = (0 : Int32) then (
          ((10 : Int32) - a2).toInt64)
        else (
          a2.toInt64))
       (fun x22 =>
      lq (x14 * x22) (fun x23 =>
      ob (
        if x20 = (0 : Int32) then (
          ob (rd M16 177 ((54 : Int32) + ((2 : Int32) * x15))) (fun x24 =>
          some x24))
        else (
          some (4 : Int32)))
       (fun x26 =>
      ob (f_X7_goes x26 M16) (fun M28 =>
      lq (x15 + (1 : Int32)) (fun x29 =>
      f_X7_slack_L55 a1 a2 x9 n x23 x29 M28)))))))
def f_X7_slack_L41 (a1 : Int32) (a2 : Int32) : Nat → Int64 → Int64 → Int32 → Mem → Option (Int64 × Int64 × Mem)
  | 0, _, _, _, _ => none
  | n + 1, x7, x8, x9, M10 =>
    if ((1 : Int32) <<< (a1 &&& 31)) ≤ x9 then (
      some (x7, x8, M10))
    else (
      ob2 (f_X7_slack_L55 a1 a2 x9 FU (1 : Int64) (0 : Int32) M10) (fun x17 M18 =>
      ob (
        if a1 = (0 : Int32) then (
          some (1 : Int32))
        else (
          ob (rd M18 177 (53 : Int32)) (fun x37 =>
          ob (f_X7_isLimb x37 M18) (fun x38 =>
          if x38 = (0 : Int32) then (
            some (0 : Int32))
          else (
            ob (rd M18 177 (53 : Int32)) (fun x39 =>
            ob (f_X7_high x39 M18) (fun x40 =>
            ob (rd M18 177 (((54 : Int32) + ((2 : Int32) * a1)) - (1 : Int32))) (fun x41 =>
            if x40 = x41 then (
              some (1 : Int32))
            else (
              some (0 : Int32))))))))))
       (fun x45 =>
      lq (x8 + x17) (fun x46 =>
      lq (
        if x45 = (0 : Int32) then (
          (0 : Int64))
        else (
          x17))
       (fun x48 =>
      lq (x7 + x48) (fun x49 =>
      ob (f_X7_backs M18) (fun M51 =>
      lq (x9 + (1 : Int32)) (fun x52 =>
      f_X7_slack_L41 a1 a2 n x49 x46 x52 M51))))))))
def f_X7_slack (a1 : Int32) (a2 : Int32) (M : Mem) : Option (Int32 × Mem) :=
  if (f_X7_in a1.toInt64 (0 : Int64) (6 : Int64)) = (0 : Int32) then (
    ob2 (f_X7_bad M) (fun x2 M3 =>
    some (x2, M3)))
  else (
    if (f_X7_in a2.toInt64 (0 : Int64) (10 : Int64)) = (0 : Int32) then (
      ob2 (f_X7_bad M) (fun x64 M65 =>
      some (x64, M65)))
    else (
      ob (f_X7_asides M) (fun M6 =>
      ob3 (f_X7_slack_L41 a1 a2 FU (0 : Int64) (0 : Int64) (0 : Int32) M6) (fun x11 x12 M13 =>
      ob2 (f_X7_fraction x11 x12 M13) (fun x60 M61 =>
      some (x60, M61))))))
set_option maxHeartbeats 4000000 in
set_option maxRecDepth 100000 in
theorem c_X7_slack (l : Launch) (G : GT) (a1 : Int32) (a2 : Int32) (M : Mem) {r : Int32} {M' : Mem} (hk : f_X7_slack a1 a2 M = some (r, M')) : CMi l G false yX7_slack cX7_slack 12 (some .int) 4 [.ref (ad G 176), .int a1, .int a2] M r M' := by
  unfold f_X7_slack at hk
  refine CMi.of (by decide) (Nat.le_of_ble_eq_true rfl) ?_
  intro p e s m args below meth c Q hx hb hml hown hg hK hW hret ls hl
  have hl : lv_has ls 12 [(0, .ref (ad G 176)), (1, .int a1), (2, .int a2)] := hl
  refine lv_iload_n hx hb dX7_slack_0 rfl (lv_at hl 1 rfl) ?_
  refine lv_i2l hx hb dX7_slack_1 rfl ?_
  refine lv_lconst (v := (0 : Int64)) hx hb dX7_slack_2 (by decide) ?_
  refine lv_ldc2 hx hb hown (hg _ g_1145) dX7_slack_3 ?_
  refine cl_i (rn_S g_921 g_922 g_9 g_923 hd_X7_in (Nat.le_of_ble_eq_true rfl) hx hb hml hown hg hK hW (As := [.long a1.toInt64, .long (0 : Int64), .long (6 : Int64)]) (c_X7_in l G a1.toInt64 (0 : Int64) (6 : Int64) M) (by decide) rfl hl.1 rfl (Nat.le_of_ble_eq_true rfl) dX7_slack_6) hW (fun H locs hW => ?_)
  refine lv_if_eq (tgt := 24) hx hb dX7_slack_9 (by decide) (fun c67 => ?_) (fun c67 => ?_)
  · replace hk := ite_t hk c67
    refine lv_aload_n hx hb dX7_slack_24 rfl (lv_at hl 0 rfl) ?_
    replace hk := ob2_s hk
    obtain ⟨x2, M3, hx2, hk⟩ := hk
    refine cl_i (rn_V g_924 g_926 gs_62 g_9 g_927 hd_X7_bad (Nat.le_of_ble_eq_true rfl) (ci := 7) rfl (inM kd_176 rfl) (shp7 kd_176) hx hb hml hown hg hK hW (As := []) (c_X7_bad l G M hx2) (by decide) rfl hl.1 rfl (Nat.le_of_ble_eq_true rfl) dX7_slack_25) hW (fun H locs hW => ?_)
    obtain ⟨rfl, rfl⟩ := sp2 hk
    exact hret _ _ _ _ hW dX7_slack_28
  · replace hk := ite_f hk c67
    refine lv_iload_n hx hb dX7_slack_12 rfl (lv_at hl 2 rfl) ?_
    refine lv_i2l hx hb dX7_slack_13 rfl ?_
    refine lv_lconst (v := (0 : Int64)) hx hb dX7_slack_14 (by decide) ?_
    refine lv_ldc2 hx hb hown (hg _ g_1232) dX7_slack_15 ?_
    refine cl_i (rn_S g_921 g_922 g_9 g_923 hd_X7_in (Nat.le_of_ble_eq_true rfl) hx hb hml hown hg hK hW (As := [.long a2.toInt64, .long (0 : Int64), .long (10 : Int64)]) (c_X7_in l G a2.toInt64 (0 : Int64) (10 : Int64) M) (by decide) rfl hl.1 rfl (Nat.le_of_ble_eq_true rfl) dX7_slack_18) hW (fun H locs hW => ?_)
    refine lv_if_ne (tgt := 29) hx hb dX7_slack_21 (by decide) (fun c66 => ?_) (fun c66 => ?_)
    · replace hk := ite_f hk c66
      refine lv_lconst (v := (0 : Int64)) hx hb dX7_slack_29 (by decide) ?_
      refine lv_lstore_n (lv' := [(3, .long (0 : Int64)), (0, .ref (ad G 176)), (1, .int a1), (2, .int a2)]) hx hb dX7_slack_30 rfl hl (by decide) rfl (fun ls hl => ?_)
      refine lv_lconst (v := (0 : Int64)) hx hb dX7_slack_31 (by decide) ?_
      refine lv_lstore (lv' := [(5, .long (0 : Int64)), (3, .long (0 : Int64)), (0, .ref (ad G 176)), (1, .int a1), (2, .int a2)]) hx hb dX7_slack_32 hl (by decide) rfl (fun ls hl => ?_)
      refine lv_aload_n hx hb dX7_slack_34 rfl (lv_at hl 2 rfl) ?_
      replace hk := ob_s hk
      obtain ⟨M6, hx5, hk⟩ := hk
      refine cl_v (rn_V g_1104 g_1106 gs_87 g_9 g_1107 hd_X7_asides (Nat.le_of_ble_eq_true rfl) (ci := 7) rfl (inM kd_176 rfl) (shp7 kd_176) hx hb hml hown hg hK hW (As := []) (c_X7_asides l G M hx5) (by decide) rfl hl.1 rfl (Nat.le_of_ble_eq_true rfl) dX7_slack_35) hW (fun H locs hW => ?_)
      refine lv_iconst (v := (0 : Int32)) hx hb dX7_slack_38 (by decide) ?_
      refine lv_istore (lv' := [(7, .int (0 : Int32)), (5, .long (0 : Int64)), (3, .long (0 : Int64)), (0, .ref (ad G 176)), (1, .int a1), (2, .int a2)]) hx hb dX7_slack_39 hl (by decide) rfl (fun ls hl => ?_)
      replace hk := ob3_s hk
      obtain ⟨x11, x12, M13, hz62, hk⟩ := hk
      have KX41 : ∀ (H : Heap) (locs : List Loc) (ls : Array Slot), Ws G false M13 s H locs → lv_has ls 12 [(0, .ref (ad G 176)), (3, .long x11), (5, .long x12)] → Wx p l e 4 s m args below meth c Q H locs 213 ls [] := by
        intro H locs ls hW hl
        refine lv_aload_n hx hb dX7_slack_213 rfl (lv_at hl 0 rfl) ?_
        refine lv_lload_n hx hb dX7_slack_214 rfl (lv_at hl 1 rfl) ?_
        refine lv_lload hx hb dX7_slack_215 (lv_at hl 2 rfl) ?_
        replace hk := ob2_s hk
        obtain ⟨x60, M61, hx60, hk⟩ := hk
        refine cl_i (rn_V g_1233 g_1235 gs_98 g_9 g_1236 hd_X7_fraction (Nat.le_of_ble_eq_true rfl) (ci := 7) rfl (inM kd_176 rfl) (shp7 kd_176) hx hb hml hown hg hK hW (As := [.long x11, .long x12]) (c_X7_fraction l G x11 x12 M13 hx60) (by decide) rfl hl.1 rfl (Nat.le_of_ble_eq_true rfl) dX7_slack_217) hW (fun H locs hW => ?_)
        obtain ⟨rfl, rfl⟩ := sp2 hk
        exact hret _ _ _ _ hW dX7_slack_220
      clear hk
      have LH41 : ∀ (n : Nat) (x7 : Int64) (x8 : Int64) (x9 : Int32) (M10 : Mem) (H : Heap) (locs : List Loc) (ls : Array Slot), f_X7_slack_L41 a1 a2 n x7 x8 x9 M10 = some (x11, x12, M13) → Ws G false M10 s H locs → lv_has ls 12 [(0, .ref (ad G 176)), (1, .int a1), (2, .int a2), (3, .long x7), (5, .long x8), (7, .int x9)] → Wx p l e 4 s m args below meth c Q H locs 41 ls [] := by
        clear hz62
        intro n
        induction n with
        | zero => intro _ _ _ _ _ _ _ hk; cases hk
        | succ n ih41 =>
          intro x7 x8 x9 M10 H locs ls hk hW hl
          rw [f_X7_slack_L41.eq_2] at hk
          refine lv_iload hx hb dX7_slack_41 (lv_at hl 5 rfl) ?_
          refine lv_iconst (v := (1 : Int32)) hx hb dX7_slack_43 (by decide) ?_
          refine lv_iload_n hx hb dX7_slack_44 rfl (lv_at hl 1 rfl) ?_
          refine lv_ishl hx hb dX7_slack_45 ?_
          refine lv_icmp_ge (tgt := 213) hx hb dX7_slack_46 (by decide) (fun c59 => ?_) (fun c59 => ?_)
          · replace hk := ite_t hk c59
            obtain ⟨rfl, rfl, rfl⟩ := sp3 hk
            exact KX41 _ _ _ hW (lv_sub hl [0, 3, 4] rfl)
          · replace hk := ite_f hk c59
            refine lv_lconst (v := (1 : Int64)) hx hb dX7_slack_49 (by decide) ?_
            refine lv_lstore (lv' := [(8, .long (1 : Int64)), (0, .ref (ad G 176)), (1, .int a1), (2, .int a2), (3, .long x7), (5, .long x8), (7, .int x9)]) hx hb dX7_slack_50 hl (by decide) rfl (fun ls hl => ?_)
            refine lv_iconst (v := (0 : Int32)) hx hb dX7_slack_52 (by decide) ?_
            refine lv_istore (lv' := [(10, .int (0 : Int32)), (8, .long (1 : Int64)), (0, .ref (ad G 176)), (1, .int a1), (2, .int a2), (3, .long x7), (5, .long x8), (7, .int x9)]) hx hb dX7_slack_53 hl (by decide) rfl (fun ls hl => ?_)
            replace hk := ob2_s hk
            obtain ⟨x17, M18, hz57, hk⟩ := hk
            have KX55 : ∀ (H : Heap) (locs : List Loc) (ls : Array Slot), Ws G false M18 s H locs → lv_has ls 12 [(0, .ref (ad G 176)), (1, .int a1), (2, .int a2), (3, .long x7), (5, .long x8), (7, .int x9), (8, .long x17)] → Wx p l e 4 s m args below meth c Q H locs 130 ls [] := by
              intro H locs ls hW hl
              refine lv_iload_n hx hb dX7_slack_130 rfl (lv_at hl 1 rfl) ?_
              replace hk := ob_s hk
              obtain ⟨x45, hr56, hk⟩ := hk
              have KJ55 : ∀ (H : Heap) (locs : List Loc) (ls : Array Slot), Ws G false M18 s H locs → lv_has ls 12 [(0, .ref (ad G 176)), (1, .int a1), (2, .int a2), (3, .long x7), (5, .long x8), (7, .int x9), (8, .long x17)] → Wx p l e 4 s m args below meth c Q H locs 180 ls [.int x45] := by
                intro H locs ls hW hl
                refine lv_istore (lv' := [(10, .int x45), (0, .ref (ad G 176)), (1, .int a1), (2, .int a2), (3, .long x7), (5, .long x8), (7, .int x9), (8, .long x17)]) hx hb dX7_slack_180 hl (by decide) rfl (fun ls hl => ?_)
                refine lv_lload hx hb dX7_slack_182 (lv_at hl 5 rfl) ?_
                refine lv_lload hx hb dX7_slack_184 (lv_at hl 7 rfl) ?_
                refine lv_ladd hx hb dX7_slack_186 ?_
                replace hk := lq_s hk
                obtain ⟨x46, ex46, hk⟩ := hk
                refine nm_l ex46 ?_
                refine lv_lstore (lv' := [(5, .long x46), (10, .int x45), (0, .ref (ad G 176)), (1, .int a1), (2, .int a2), (3, .long x7), (7, .int x9), (8, .long x17)]) hx hb dX7_slack_187 hl (by decide) rfl (fun ls hl => ?_)
                refine lv_lload_n hx hb dX7_slack_189 rfl (lv_at hl 5 rfl) ?_
                refine lv_iload hx hb dX7_slack_190 (lv_at hl 1 rfl) ?_
                replace hk := lq_s hk
                obtain ⟨x48, hr54, hk⟩ := hk
                have KJ53 : ∀ (H : Heap) (locs : List Loc) (ls : Array Slot), Ws G false M18 s H locs → lv_has ls 12 [(0, .ref (ad G 176)), (1, .int a1), (2, .int a2), (5, .long x46), (7, .int x9)] → Wx p l e 4 s m args below meth c Q H locs 201 ls [.long x48, .long x7] := by
                  intro H locs ls hW hl
                  refine lv_ladd hx hb dX7_slack_201 ?_
                  replace hk := lq_s hk
                  obtain ⟨x49, ex49, hk⟩ := hk
                  refine nm_l ex49 ?_
                  refine lv_lstore_n (lv' := [(3, .long x49), (0, .ref (ad G 176)), (1, .int a1), (2, .int a2), (5, .long x46), (7, .int x9)]) hx hb dX7_slack_202 rfl hl (by decide) rfl (fun ls hl => ?_)
                  refine lv_aload_n hx hb dX7_slack_203 rfl (lv_at hl 1 rfl) ?_
                  replace hk := ob_s hk
                  obtain ⟨M51, hx50, hk⟩ := hk
                  refine cl_v (rn_V g_1108 g_1110 gs_88 g_9 g_1111 hd_X7_backs (Nat.le_of_ble_eq_true rfl) (ci := 7) rfl (inM kd_176 rfl) (shp7 kd_176) hx hb hml hown hg hK hW (As := []) (c_X7_backs l G M18 hx50) (by decide) rfl hl.1 rfl (Nat.le_of_ble_eq_true rfl) dX7_slack_204) hW (fun H locs hW => ?_)
                  replace hk := lq_s hk
                  obtain ⟨x52, ex52, hk⟩ := hk
                  refine lv_iinc (v := x52) (lv' := [(7, .int x52), (3, .long x49), (0, .ref (ad G 176)), (1, .int a1), (2, .int a2), (5, .long x46)]) hx hb dX7_slack_207 hl (k := 5) rfl (by rw [ex52]; rfl) (by decide) rfl (fun ls hl => ?_)
                  refine lv_goto (tgt := 41) hx hb dX7_slack_210 (by decide) ?_
                  exact ih41 _ _ _ _ _ _ _ hk hW (lv_sub hl [2, 3, 4, 1, 5, 0] rfl)
                clear hk
                have hk := hr54.symm
                clear hr54
                refine lv_if_eq (tgt := 200) hx hb dX7_slack_192 (by decide) (fun c47 => ?_) (fun c47 => ?_)
                · replace hk := ite_t hk c47
                  refine lv_lconst (v := (0 : Int64)) hx hb dX7_slack_200 (by decide) ?_
                  subst hk
                  exact KJ53 _ _ _ hW (lv_sub hl [2, 3, 4, 0, 6] rfl)
                · replace hk := ite_f hk c47
                  refine lv_lload hx hb dX7_slack_195 (lv_at hl 7 rfl) ?_
                  refine lv_goto (tgt := 201) hx hb dX7_slack_197 (by decide) ?_
                  subst hk
                  exact KJ53 _ _ _ hW (lv_sub hl [2, 3, 4, 0, 6] rfl)
              clear hk
              have hk := hr56
              clear hr56
              refine lv_if_eq (tgt := 175) hx hb dX7_slack_131 (by decide) (fun c44 => ?_) (fun c44 => ?_)
              · replace hk := ite_t hk c44
                refine lv_iconst (v := (1 : Int32)) hx hb dX7_slack_175 (by decide) ?_
                refine lv_goto (tgt := 180) hx hb dX7_slack_176 (by decide) ?_
                obtain rfl := Option.some.inj hk
                exact KJ55 _ _ _ hW (lv_sub hl [0, 1, 2, 3, 4, 5, 6] rfl)
              · replace hk := ite_f hk c44
                refine lv_aload_n hx hb dX7_slack_134 rfl (lv_at hl 0 rfl) ?_
                refine lv_aload_n hx hb dX7_slack_135 rfl (lv_at hl 0 rfl) ?_
                refine gt_X7_7 hx hb hg hown hK hW kd_176 dX7_slack_136 ?_
                refine lv_bipush (v := (53 : Int32)) hx hb dX7_slack_139 (by decide) ?_
                replace hk := ob_s hk
                obtain ⟨x37, hx37, hk⟩ := hk
                obtain ⟨hx37, ex37⟩ := rd_s hx37
                refine w_ald hx hb hK hW (inM kd_177 rfl) (shp10 kd_177) hx37 ex37 dX7_slack_141 ?_
                replace hk := ob_s hk
                obtain ⟨x38, hx38, hk⟩ := hk
                refine cl_i (rn_V g_1033 g_1035 gs_78 g_9 g_1036 hd_X7_isLimb (Nat.le_of_ble_eq_true rfl) (ci := 7) rfl (inM kd_176 rfl) (shp7 kd_176) hx hb hml hown hg hK hW (As := [.int x37]) (c_X7_isLimb l G x37 M18 hx38) (by decide) rfl hl.1 rfl (Nat.le_of_ble_eq_true rfl) dX7_slack_142) hW (fun H locs hW => ?_)
                refine lv_if_eq (tgt := 179) hx hb dX7_slack_145 (by decide) (fun c43 => ?_) (fun c43 => ?_)
                · replace hk := ite_t hk c43
                  refine lv_iconst (v := (0 : Int32)) hx hb dX7_slack_179 (by decide) ?_
                  obtain rfl := Option.some.inj hk
                  exact KJ55 _ _ _ hW (lv_sub hl [0, 1, 2, 3, 4, 5, 6] rfl)
                · replace hk := ite_f hk c43
                  refine lv_aload_n hx hb dX7_slack_148 rfl (lv_at hl 0 rfl) ?_
                  refine lv_aload_n hx hb dX7_slack_149 rfl (lv_at hl 0 rfl) ?_
                  refine gt_X7_7 hx hb hg hown hK hW kd_176 dX7_slack_150 ?_
                  refine lv_bipush (v := (53 : Int32)) hx hb dX7_slack_153 (by decide) ?_
                  replace hk := ob_s hk
                  obtain ⟨x39, hx39, hk⟩ := hk
                  obtain ⟨hx39, ex39⟩ := rd_s hx39
                  refine w_ald hx hb hK hW (inM kd_177 rfl) (shp10 kd_177) hx39 ex39 dX7_slack_155 ?_
                  replace hk := ob_s hk
                  obtain ⟨x40, hx40, hk⟩ := hk
                  refine cl_i (rn_V g_1074 g_1076 gs_83 g_9 g_1077 hd_X7_high (Nat.le_of_ble_eq_true rfl) (ci := 7) rfl (inM kd_176 rfl) (shp7 kd_176) hx hb hml hown hg hK hW (As := [.int x39]) (c_X7_high l G x39 M18 hx40) (by decide) rfl hl.1 rfl (Nat.le_of_ble_eq_true rfl) dX7_slack_156) hW (fun H locs hW => ?_)
                  refine lv_aload_n hx hb dX7_slack_159 rfl (lv_at hl 0 rfl) ?_
                  refine gt_X7_7 hx hb hg hown hK hW kd_176 dX7_slack_160 ?_
                  refine lv_bipush (v := (54 : Int32)) hx hb dX7_slack_163 (by decide) ?_
                  refine lv_iconst (v := (2 : Int32)) hx hb dX7_slack_165 (by decide) ?_
                  refine lv_iload_n hx hb dX7_slack_166 rfl (lv_at hl 1 rfl) ?_
                  refine lv_imul hx hb dX7_slack_167 ?_
                  refine lv_iadd hx hb dX7_slack_168 ?_
                  refine lv_iconst (v := (1 : Int32)) hx hb dX7_slack_169 (by decide) ?_
                  refine lv_isub hx hb dX7_slack_170 ?_
                  replace hk := ob_s hk
                  obtain ⟨x41, hx41, hk⟩ := hk
                  obtain ⟨hx41, ex41⟩ := rd_s hx41
                  refine w_ald hx hb hK hW (inM kd_177 rfl) (shp10 kd_177) hx41 ex41 dX7_slack_171 ?_
                  refine lv_icmp_ne (tgt := 179) hx hb dX7_slack_172 (by decide) (fun c42 => ?_) (fun c42 => ?_)
                  · replace hk := ite_f hk c42
                    refine lv_iconst (v := (0 : Int32)) hx hb dX7_slack_179 (by decide) ?_
                    obtain rfl := Option.some.inj hk
                    exact KJ55 _ _ _ hW (lv_sub hl [0, 1, 2, 3, 4, 5, 6] rfl)
                  · replace hk := ite_t hk c42
                    refine lv_iconst (v := (1 : Int32)) hx hb dX7_slack_175 (by decide) ?_
                    refine lv_goto (tgt := 180) hx hb dX7_slack_176 (by decide) ?_
                    obtain rfl := Option.some.inj hk
                    exact KJ55 _ _ _ hW (lv_sub hl [0, 1, 2, 3, 4, 5, 6] rfl)
            clear hk
            have LH55 : ∀ (n : Nat) (x14 : Int64) (x15 : Int32) (M16 : Mem) (H : Heap) (locs : List Loc) (ls : Array Slot), f_X7_slack_L55 a1 a2 x9 n x14 x15 M16 = some (x17, M18) → Ws G false M16 s H locs → lv_has ls 12 [(0, .ref (ad G 176)), (1, .int a1), (2, .int a2), (3, .long x7), (5, .long x8), (7, .int x9), (8, .long x14), (10, .int x15)] → Wx p l e 4 s m args below meth c Q H locs 55 ls [] := by
              clear hz57
              intro n
              induction n with
              | zero => intro _ _ _ _ _ _ hk; cases hk
              | succ n ih55 =>
                intro x14 x15 M16 H locs ls hk hW hl
                rw [f_X7_slack_L55.eq_2] at hk
                refine lv_iload hx hb dX7_slack_55 (lv_at hl 7 rfl) ?_
                refine lv_iload_n hx hb dX7_slack_57 rfl (lv_at hl 1 rfl) ?_
                refine lv_icmp_ge (tgt := 130) hx hb dX7_slack_58 (by decide) (fun c36 => ?_) (fun c36 => ?_)
                · replace hk := ite_t hk c36
                  obtain ⟨rfl, rfl⟩ := sp2 hk
                  exact KX55 _ _ _ hW (lv_sub hl [0, 1, 2, 3, 4, 5, 6] rfl)
                · replace hk := ite_f hk c36
                  refine lv_iload hx hb dX7_slack_61 (lv_at hl 5 rfl) ?_
                  refine lv_iload hx hb dX7_slack_63 (lv_at hl 7 rfl) ?_
                  refine lv_ishr hx hb dX7_slack_65 ?_
                  refine lv_iconst (v := (1 : Int32)) hx hb dX7_slack_66 (by decide) ?_
                  refine lv_iand hx hb dX7_slack_67 ?_
                  refine lv_iconst (v := (1 : Int32)) hx hb dX7_slack_68 (by decide) ?_
                  replace hk := lq_s hk
                  obtain ⟨x20, hr35, hk⟩ := hk
                  have KJ34 : ∀ (H : Heap) (locs : List Loc) (ls : Array Slot), Ws G false M16 s H locs → lv_has ls 12 [(0, .ref (ad G 176)), (1, .int a1), (2, .int a2), (3, .long x7), (5, .long x8), (7, .int x9), (8, .long x14), (10, .int x15)] → Wx p l e 4 s m args below meth c Q H locs 77 ls [.int x20] := by
                    intro H locs ls hW hl
                    refine lv_istore (lv' := [(11, .int x20), (0, .ref (ad G 176)), (1, .int a1), (2, .int a2), (3, .long x7), (5, .long x8), (7, .int x9), (8, .long x14), (10, .int x15)]) hx hb dX7_slack_77 hl (by decide) rfl (fun ls hl => ?_)
                    refine lv_lload hx hb dX7_slack_79 (lv_at hl 7 rfl) ?_
                    refine lv_iload hx hb dX7_slack_81 (lv_at hl 0 rfl) ?_
                    replace hk := lq_s hk
                    obtain ⟨x22, hr33, hk⟩ := hk
                    have KJ32 : ∀ (H : Heap) (locs : List Loc) (ls : Array Slot), Ws G false M16 s H locs → lv_has ls 12 [(0, .ref (ad G 176)), (1, .int a1), (2, .int a2), (3, .long x7), (5, .long x8), (7, .int x9), (10, .int x15), (11, .int x20)] → Wx p l e 4 s m args below meth c Q H locs 96 ls [.long x22, .long x14] := by
                      intro H locs ls hW hl
                      refine lv_lmul hx hb dX7_slack_96 ?_
                      replace hk := lq_s hk
                      obtain ⟨x23, ex23, hk⟩ := hk
                      refine nm_l ex23 ?_
                      refine lv_lstore (lv' := [(8, .long x23), (0, .ref (ad G 176)), (1, .int a1), (2, .int a2), (3, .long x7), (5, .long x8), (7, .int x9), (10, .int x15), (11, .int x20)]) hx hb dX7_slack_97 hl (by decide) rfl (fun ls hl => ?_)
                      refine lv_aload_n hx hb dX7_slack_99 rfl (lv_at hl 1 rfl) ?_
                      refine lv_iload hx hb dX7_slack_100 (lv_at hl 8 rfl) ?_
                      replace hk := ob_s hk
                      obtain ⟨x26, hr31, hk⟩ := hk
                      have KJ30 : ∀ (H : Heap) (locs : List Loc) (ls : Array Slot), Ws G false M16 s H locs → lv_has ls 12 [(0, .ref (ad G 176)), (1, .int a1), (2, .int a2), (3, .long x7), (5, .long x8), (7, .int x9), (8, .long x23), (10, .int x15)] → Wx p l e 4 s m args below meth c Q H locs 121 ls [.int x26, .ref (ad G 176)] := by
                        intro H locs ls hW hl
                        replace hk := ob_s hk
                        obtain ⟨M28, hx27, hk⟩ := hk
                        refine cl_v (rn_V g_1017 g_1019 gs_74 g_9 g_1020 hd_X7_goes (Nat.le_of_ble_eq_true rfl) (ci := 7) rfl (inM kd_176 rfl) (shp7 kd_176) hx hb hml hown hg hK hW (As := [.int x26]) (c_X7_goes l G x26 M16 hx27) (by decide) rfl hl.1 rfl (Nat.le_of_ble_eq_true rfl) dX7_slack_121) hW (fun H locs hW => ?_)
                        replace hk := lq_s hk
                        obtain ⟨x29, ex29, hk⟩ := hk
                        refine lv_iinc (v := x29) (lv' := [(10, .int x29), (0, .ref (ad G 176)), (1, .int a1), (2, .int a2), (3, .long x7), (5, .long x8), (7, .int x9), (8, .long x23)]) hx hb dX7_slack_124 hl (k := 7) rfl (by rw [ex29]; rfl) (by decide) rfl (fun ls hl => ?_)
                        refine lv_goto (tgt := 55) hx hb dX7_slack_127 (by decide) ?_
                        exact ih55 _ _ _ _ _ _ hk hW (lv_sub hl [1, 2, 3, 4, 5, 6, 7, 0] rfl)
                      clear hk
                      have hk := hr31
                      clear hr31
                      refine lv_if_eq (tgt := 109) hx hb dX7_slack_102 (by decide) (fun c25 => ?_) (fun c25 => ?_)
                      · replace hk := ite_t hk c25
                        refine lv_aload_n hx hb dX7_slack_109 rfl (lv_at hl 1 rfl) ?_
                        refine gt_X7_7 hx hb hg hown hK hW kd_176 dX7_slack_110 ?_
                        refine lv_bipush (v := (54 : Int32)) hx hb dX7_slack_113 (by decide) ?_
                        refine lv_iconst (v := (2 : Int32)) hx hb dX7_slack_115 (by decide) ?_
                        refine lv_iload hx hb dX7_slack_116 (lv_at hl 7 rfl) ?_
                        refine lv_imul hx hb dX7_slack_118 ?_
                        refine lv_iadd hx hb dX7_slack_119 ?_
                        replace hk := ob_s hk
                        obtain ⟨x24, hx24, hk⟩ := hk
                        obtain ⟨hx24, ex24⟩ := rd_s hx24
                        refine w_ald hx hb hK hW (inM kd_177 rfl) (shp10 kd_177) hx24 ex24 dX7_slack_120 ?_
                        obtain rfl := Option.some.inj hk
                        exact KJ30 _ _ _ hW (lv_sub hl [1, 2, 3, 4, 5, 6, 0, 7] rfl)
                      · replace hk := ite_f hk c25
                        refine lv_iconst (v := (4 : Int32)) hx hb dX7_slack_105 (by decide) ?_
                        refine lv_goto (tgt := 121) hx hb dX7_slack_106 (by decide) ?_
                        obtain rfl := Option.some.inj hk
                        exact KJ30 _ _ _ hW (lv_sub hl [1, 2, 3, 4, 5, 6, 0, 7] rfl)
                    clear hk
                    have hk := hr33.symm
                    clear hr33
                    refine lv_if_eq (tgt := 91) hx hb dX7_slack_83 (by decide) (fun c21 => ?_) (fun c21 => ?_)
                    · replace hk := ite_t hk c21
                      refine lv_bipush (v := (10 : Int32)) hx hb dX7_slack_91 (by decide) ?_
                      refine lv_iload_n hx hb dX7_slack_93 rfl (lv_at hl 3 rfl) ?_
                      refine lv_isub hx hb dX7_slack_94 ?_
                      refine lv_i2l hx hb dX7_slack_95 rfl ?_
                      subst hk
                      exact KJ32 _ _ _ hW (lv_sub hl [1, 2, 3, 4, 5, 6, 8, 0] rfl)
                    · replace hk := ite_f hk c21
                      refine lv_iload_n hx hb dX7_slack_86 rfl (lv_at hl 3 rfl) ?_
                      refine lv_i2l hx hb dX7_slack_87 rfl ?_
                      refine lv_goto (tgt := 96) hx hb dX7_slack_88 (by decide) ?_
                      subst hk
                      exact KJ32 _ _ _ hW (lv_sub hl [1, 2, 3, 4, 5, 6, 8, 0] rfl)
                  clear hk
                  have hk := hr35.symm
                  clear hr35
                  refine lv_icmp_ne (tgt := 76) hx hb dX7_slack_69 (by decide) (fun c19 => ?_) (fun c19 => ?_)
                  · replace hk := ite_f hk c19
                    refine lv_iconst (v := (0 : Int32)) hx hb dX7_slack_76 (by decide) ?_
                    subst hk
                    exact KJ34 _ _ _ hW (lv_sub hl [0, 1, 2, 3, 4, 5, 6, 7] rfl)
                  · replace hk := ite_t hk c19
                    refine lv_iconst (v := (1 : Int32)) hx hb dX7_slack_72 (by decide) ?_
                    refine lv_goto (tgt := 77) hx hb dX7_slack_73 (by decide) ?_
                    subst hk
                    exact KJ34 _ _ _ hW (lv_sub hl [0, 1, 2, 3, 4, 5, 6, 7] rfl)
            exact LH55 FU _ _ _ _ _ _ hz57 hW (lv_sub hl [2, 3, 4, 5, 6, 7, 1, 0] rfl)
      exact LH41 FU _ _ _ _ _ _ _ hz62 hW (lv_sub hl [3, 4, 5, 2, 1, 0] rfl)
    · replace hk := ite_t hk c66
      refine lv_aload_n hx hb dX7_slack_24 rfl (lv_at hl 0 rfl) ?_
      replace hk := ob2_s hk
      obtain ⟨x64, M65, hx64, hk⟩ := hk
      refine cl_i (rn_V g_924 g_926 gs_62 g_9 g_927 hd_X7_bad (Nat.le_of_ble_eq_true rfl) (ci := 7) rfl (inM kd_176 rfl) (shp7 kd_176) hx hb hml hown hg hK hW (As := []) (c_X7_bad l G M hx64) (by decide) rfl hl.1 rfl (Nat.le_of_ble_eq_true rfl) dX7_slack_25) hW (fun H locs hW => ?_)
      obtain ⟨rfl, rfl⟩ := sp2 hk
      exact hret _ _ _ _ hW dX7_slack_28
def f_X7_nights_L39 (a2 : Int32) : Nat → Int64 → Int32 → Mem → Option (Int64 × Int32 × Mem)
  | 0, _, _, _ => none
  | n + 1, x8, x9, M10 =>
    if a2 ≤ x9 then (
      some (x8, x9, M10))
    else (
      lq (((x8 * (1103515245 : Int64)) + (12345 : Int64)) - ((x8 * (1103515245 : Int64)) + (12345 : Int64)) / (2147483648 : Int64) * (2147483648 : Int64)) (fun x14 =>
      ob (f_X7_goes (((x14 / (65536 : Int64)) - (x14 / (65536 : Int64)) / (5 : Int64) * (5 : Int64)).toInt32) M10) (fun M16 =>
      lq (x9 + (1 : Int32)) (fun x17 =>
      f_X7_nights_L39 a2 n x14 x17 M16))))
def f_X7_nights (a1 : Int32) (a2 : Int32) (M : Mem) : Option (Int32 × Mem) :=
  if (f_X7_in a1.toInt64 (0 : Int64) (999999 : Int64)) = (0 : Int32) then (
    ob2 (f_X7_bad M) (fun x2 M3 =>
    some (x2, M3)))
  else (
    if (f_X7_in a2.toInt64 (0 : Int64) (60 : Int64)) = (0 : Int32) then (
      ob2 (f_X7_bad M) (fun x24 M25 =>
      some (x24, M25)))
    else (
      ob (f_X7_asides M) (fun M6 =>
      lq a1.toInt64 (fun x7 =>
      ob3 (f_X7_nights_L39 a2 FU x7 (0 : Int32) M6) (fun x11 x12 M13 =>
      ob (f_X7_snapped M13) (fun x19 =>
      ob (f_X7_backs M13) (fun M21 =>
      some (x19, M21))))))))
set_option maxHeartbeats 4000000 in
set_option maxRecDepth 100000 in
theorem c_X7_nights (l : Launch) (G : GT) (a1 : Int32) (a2 : Int32) (M : Mem) {r : Int32} {M' : Mem} (hk : f_X7_nights a1 a2 M = some (r, M')) : CMi l G false yX7_nights cX7_nights 6 (some .int) 4 [.ref (ad G 176), .int a1, .int a2] M r M' := by
  unfold f_X7_nights at hk
  refine CMi.of (by decide) (Nat.le_of_ble_eq_true rfl) ?_
  intro p e s m args below meth c Q hx hb hml hown hg hK hW hret ls hl
  have hl : lv_has ls 6 [(0, .ref (ad G 176)), (1, .int a1), (2, .int a2)] := hl
  refine lv_iload_n hx hb dX7_nights_0 rfl (lv_at hl 1 rfl) ?_
  refine lv_i2l hx hb dX7_nights_1 rfl ?_
  refine lv_lconst (v := (0 : Int64)) hx hb dX7_nights_2 (by decide) ?_
  refine lv_ldc2 hx hb hown (hg _ g_1241) dX7_nights_3 ?_
  refine cl_i (rn_S g_921 g_922 g_9 g_923 hd_X7_in (Nat.le_of_ble_eq_true rfl) hx hb hml hown hg hK hW (As := [.long a1.toInt64, .long (0 : Int64), .long (999999 : Int64)]) (c_X7_in l G a1.toInt64 (0 : Int64) (999999 : Int64) M) (by decide) rfl hl.1 rfl (Nat.le_of_ble_eq_true rfl) dX7_nights_6) hW (fun H locs hW => ?_)
  refine lv_if_eq (tgt := 24) hx hb dX7_nights_9 (by decide) (fun c27 => ?_) (fun c27 => ?_)
  · replace hk := ite_t hk c27
    refine lv_aload_n hx hb dX7_nights_24 rfl (lv_at hl 0 rfl) ?_
    replace hk := ob2_s hk
    obtain ⟨x2, M3, hx2, hk⟩ := hk
    refine cl_i (rn_V g_924 g_926 gs_62 g_9 g_927 hd_X7_bad (Nat.le_of_ble_eq_true rfl) (ci := 7) rfl (inM kd_176 rfl) (shp7 kd_176) hx hb hml hown hg hK hW (As := []) (c_X7_bad l G M hx2) (by decide) rfl hl.1 rfl (Nat.le_of_ble_eq_true rfl) dX7_nights_25) hW (fun H locs hW => ?_)
    obtain ⟨rfl, rfl⟩ := sp2 hk
    exact hret _ _ _ _ hW dX7_nights_28
  · replace hk := ite_f hk c27
    refine lv_iload_n hx hb dX7_nights_12 rfl (lv_at hl 2 rfl) ?_
    refine lv_i2l hx hb dX7_nights_13 rfl ?_
    refine lv_lconst (v := (0 : Int64)) hx hb dX7_nights_14 (by decide) ?_
    refine lv_ldc2 hx hb hown (hg _ g_1117) dX7_nights_15 ?_
    refine cl_i (rn_S g_921 g_922 g_9 g_923 hd_X7_in (Nat.le_of_ble_eq_true rfl) hx hb hml hown hg hK hW (As := [.long a2.toInt64, .long (0 : Int64), .long (60 : Int64)]) (c_X7_in l G a2.toInt64 (0 : Int64) (60 : Int64) M) (by decide) rfl hl.1 rfl (Nat.le_of_ble_eq_true rfl) dX7_nights_18) hW (fun H locs hW => ?_)
    refine lv_if_ne (tgt := 29) hx hb dX7_nights_21 (by decide) (fun c26 => ?_) (fun c26 => ?_)
    · replace hk := ite_f hk c26
      refine lv_aload_n hx hb dX7_nights_29 rfl (lv_at hl 0 rfl) ?_
      replace hk := ob_s hk
      obtain ⟨M6, hx5, hk⟩ := hk
      refine cl_v (rn_V g_1104 g_1106 gs_87 g_9 g_1107 hd_X7_asides (Nat.le_of_ble_eq_true rfl) (ci := 7) rfl (inM kd_176 rfl) (shp7 kd_176) hx hb hml hown hg hK hW (As := []) (c_X7_asides l G M hx5) (by decide) rfl hl.1 rfl (Nat.le_of_ble_eq_true rfl) dX7_nights_30) hW (fun H locs hW => ?_)
      refine lv_iload_n hx hb dX7_nights_33 rfl (lv_at hl 1 rfl) ?_
      refine lv_i2l hx hb dX7_nights_34 rfl ?_
      replace hk := lq_s hk
      obtain ⟨x7, ex7, hk⟩ := hk
      refine nm_l ex7 ?_
      refine lv_lstore_n (lv' := [(3, .long x7), (0, .ref (ad G 176)), (1, .int a1), (2, .int a2)]) hx hb dX7_nights_35 rfl hl (by decide) rfl (fun ls hl => ?_)
      refine lv_iconst (v := (0 : Int32)) hx hb dX7_nights_36 (by decide) ?_
      refine lv_istore (lv' := [(5, .int (0 : Int32)), (3, .long x7), (0, .ref (ad G 176)), (1, .int a1), (2, .int a2)]) hx hb dX7_nights_37 hl (by decide) rfl (fun ls hl => ?_)
      replace hk := ob3_s hk
      obtain ⟨x11, x12, M13, hz22, hk⟩ := hk
      have KX39 : ∀ (H : Heap) (locs : List Loc) (ls : Array Slot), Ws G false M13 s H locs → lv_has ls 6 [(0, .ref (ad G 176))] → Wx p l e 4 s m args below meth c Q H locs 79 ls [] := by
        intro H locs ls hW hl
        refine lv_aload_n hx hb dX7_nights_79 rfl (lv_at hl 0 rfl) ?_
        replace hk := ob_s hk
        obtain ⟨x19, hx19, hk⟩ := hk
        refine cl_i (rn_V g_1053 g_1055 gs_82 g_9 g_1056 hd_X7_snapped (Nat.le_of_ble_eq_true rfl) (ci := 7) rfl (inM kd_176 rfl) (shp7 kd_176) hx hb hml hown hg hK hW (As := []) (c_X7_snapped l G M13 hx19) (by decide) rfl hl.1 rfl (Nat.le_of_ble_eq_true rfl) dX7_nights_80) hW (fun H locs hW => ?_)
        refine lv_istore (lv' := [(5, .int x19), (0, .ref (ad G 176))]) hx hb dX7_nights_83 hl (by decide) rfl (fun ls hl => ?_)
        refine lv_aload_n hx hb dX7_nights_85 rfl (lv_at hl 1 rfl) ?_
        replace hk := ob_s hk
        obtain ⟨M21, hx20, hk⟩ := hk
        refine cl_v (rn_V g_1108 g_1110 gs_88 g_9 g_1111 hd_X7_backs (Nat.le_of_ble_eq_true rfl) (ci := 7) rfl (inM kd_176 rfl) (shp7 kd_176) hx hb hml hown hg hK hW (As := []) (c_X7_backs l G M13 hx20) (by decide) rfl hl.1 rfl (Nat.le_of_ble_eq_true rfl) dX7_nights_86) hW (fun H locs hW => ?_)
        refine lv_iload hx hb dX7_nights_89 (lv_at hl 0 rfl) ?_
        obtain ⟨rfl, rfl⟩ := sp2 hk
        exact hret _ _ _ _ hW dX7_nights_91
      clear hk
      have LH39 : ∀ (n : Nat) (x8 : Int64) (x9 : Int32) (M10 : Mem) (H : Heap) (locs : List Loc) (ls : Array Slot), f_X7_nights_L39 a2 n x8 x9 M10 = some (x11, x12, M13) → Ws G false M10 s H locs → lv_has ls 6 [(0, .ref (ad G 176)), (2, .int a2), (3, .long x8), (5, .int x9)] → Wx p l e 4 s m args below meth c Q H locs 39 ls [] := by
        clear hz22
        intro n
        induction n with
        | zero => intro _ _ _ _ _ _ hk; cases hk
        | succ n ih39 =>
          intro x8 x9 M10 H locs ls hk hW hl
          rw [f_X7_nights_L39.eq_2] at hk
          refine lv_iload hx hb dX7_nights_39 (lv_at hl 3 rfl) ?_
          refine lv_iload_n hx hb dX7_nights_41 rfl (lv_at hl 1 rfl) ?_
          refine lv_icmp_ge (tgt := 79) hx hb dX7_nights_42 (by decide) (fun c18 => ?_) (fun c18 => ?_)
          · replace hk := ite_t hk c18
            obtain ⟨rfl, rfl, rfl⟩ := sp3 hk
            exact KX39 _ _ _ hW (lv_sub hl [0] rfl)
          · replace hk := ite_f hk c18
            refine lv_lload_n hx hb dX7_nights_45 rfl (lv_at hl 2 rfl) ?_
            refine lv_ldc2 hx hb hown (hg _ g_1242) dX7_nights_46 ?_
            refine lv_lmul hx hb dX7_nights_49 ?_
            refine lv_ldc2 hx hb hown (hg _ g_1243) dX7_nights_50 ?_
            refine lv_ladd hx hb dX7_nights_53 ?_
            refine lv_ldc2 hx hb hown (hg _ g_1244) dX7_nights_54 ?_
            refine lv_lrem hx hb dX7_nights_57 (by decide) ?_
            replace hk := lq_s hk
            obtain ⟨x14, ex14, hk⟩ := hk
            refine nm_l ex14 ?_
            refine lv_lstore_n (lv' := [(3, .long x14), (0, .ref (ad G 176)), (2, .int a2), (5, .int x9)]) hx hb dX7_nights_58 rfl hl (by decide) rfl (fun ls hl => ?_)
            refine lv_aload_n hx hb dX7_nights_59 rfl (lv_at hl 1 rfl) ?_
            refine lv_lload_n hx hb dX7_nights_60 rfl (lv_at hl 0 rfl) ?_
            refine lv_ldc2 hx hb hown (hg _ g_1245) dX7_nights_61 ?_
            refine lv_ldiv hx hb dX7_nights_64 (by decide) ?_
            refine lv_ldc2 hx hb hown (hg _ g_935) dX7_nights_65 ?_
            refine lv_lrem hx hb dX7_nights_68 (by decide) ?_
            refine lv_l2i hx hb dX7_nights_69 rfl ?_
            replace hk := ob_s hk
            obtain ⟨M16, hx15, hk⟩ := hk
            refine cl_v (rn_V g_1017 g_1019 gs_74 g_9 g_1020 hd_X7_goes (Nat.le_of_ble_eq_true rfl) (ci := 7) rfl (inM kd_176 rfl) (shp7 kd_176) hx hb hml hown hg hK hW (As := [.int (((x14 / (65536 : Int64)) - (x14 / (65536 : Int64)) / (5 : Int64) * (5 : Int64)).toInt32)]) (c_X7_goes l G (((x14 / (65536 : Int64)) - (x14 / (65536 : Int64)) / (5 : Int64) * (5 : Int64)).toInt32) M10 hx15) (by decide) rfl hl.1 rfl (Nat.le_of_ble_eq_true rfl) dX7_nights_70) hW (fun H locs hW => ?_)
            replace hk := lq_s hk
            obtain ⟨x17, ex17, hk⟩ := hk
            refine lv_iinc (v := x17) (lv' := [(5, .int x17), (3, .long x14), (0, .ref (ad G 176)), (2, .int a2)]) hx hb dX7_nights_73 hl (k := 3) rfl (by rw [ex17]; rfl) (by decide) rfl (fun ls hl => ?_)
            refine lv_goto (tgt := 39) hx hb dX7_nights_76 (by decide) ?_
            exact ih39 _ _ _ _ _ _ hk hW (lv_sub hl [2, 3, 1, 0] rfl)
      exact LH39 FU _ _ _ _ _ _ hz22 hW (lv_sub hl [2, 4, 1, 0] rfl)
    · replace hk := ite_t hk c26
      refine lv_aload_n hx hb dX7_nights_24 rfl (lv_at hl 0 rfl) ?_
      replace hk := ob2_s hk
      obtain ⟨x24, M25, hx24, hk⟩ := hk
      refine cl_i (rn_V g_924 g_926 gs_62 g_9 g_927 hd_X7_bad (Nat.le_of_ble_eq_true rfl) (ci := 7) rfl (inM kd_176 rfl) (shp7 kd_176) hx hb hml hown hg hK hW (As := []) (c_X7_bad l G M hx24) (by decide) rfl hl.1 rfl (Nat.le_of_ble_eq_true rfl) dX7_nights_25) hW (fun H locs hW => ?_)
      obtain ⟨rfl, rfl⟩ := sp2 hk
      exact hret _ _ _ _ hW dX7_nights_28
def f_X7_part (a1 : Int32) (M : Mem) : Option (Int64 × Mem) :=
  if (f_X7_in a1.toInt64 (0 : Int64) (1 : Int64)) = (0 : Int32) then (
    ob2 (f_X7_bad M) (fun x3 M4 =>
    some (x3.toInt64, M4)))
  else (
    if a1 = (0 : Int32) then (
      some ((M.2 176 4), M))
    else (
      some ((M.2 176 5), M)))
set_option maxHeartbeats 4000000 in
set_option maxRecDepth 100000 in
theorem c_X7_part (l : Launch) (G : GT) (a1 : Int32) (M : Mem) {r : Int64} {M' : Mem} (hk : f_X7_part a1 M = some (r, M')) : CMl l G false yX7_part cX7_part 2 (some .long) 1 [.ref (ad G 176), .int a1] M r M' := by
  unfold f_X7_part at hk
  refine CMl.of (by decide) (Nat.le_of_ble_eq_true rfl) ?_
  intro p e s m args below meth c Q hx hb hml hown hg hK hW hret ls hl
  have hl : lv_has ls 2 [(0, .ref (ad G 176)), (1, .int a1)] := hl
  refine lv_iload_n hx hb dX7_part_0 rfl (lv_at hl 1 rfl) ?_
  refine lv_i2l hx hb dX7_part_1 rfl ?_
  refine lv_lconst (v := (0 : Int64)) hx hb dX7_part_2 (by decide) ?_
  refine lv_lconst (v := (1 : Int64)) hx hb dX7_part_3 (by decide) ?_
  refine cl_i (rn_S g_921 g_922 g_9 g_923 hd_X7_in (Nat.le_of_ble_eq_true rfl) hx hb hml hown hg hK hW (As := [.long a1.toInt64, .long (0 : Int64), .long (1 : Int64)]) (c_X7_in l G a1.toInt64 (0 : Int64) (1 : Int64) M) (by decide) rfl hl.1 rfl (Nat.le_of_ble_eq_true rfl) dX7_part_4) hW (fun H locs hW => ?_)
  refine lv_if_ne (tgt := 16) hx hb dX7_part_7 (by decide) (fun c5 => ?_) (fun c5 => ?_)
  · replace hk := ite_f hk c5
    refine lv_iload_n hx hb dX7_part_16 rfl (lv_at hl 1 rfl) ?_
    refine lv_if_ne (tgt := 27) hx hb dX7_part_17 (by decide) (fun c2 => ?_) (fun c2 => ?_)
    · replace hk := ite_f hk c2
      refine lv_aload_n hx hb dX7_part_27 rfl (lv_at hl 0 rfl) ?_
      refine gt_X7_13 hx hb hg hown hK hW kd_176 dX7_part_28 ?_
      obtain ⟨rfl, rfl⟩ := sp2 hk
      exact hret _ _ _ _ hW dX7_part_31
    · replace hk := ite_t hk c2
      refine lv_aload_n hx hb dX7_part_20 rfl (lv_at hl 0 rfl) ?_
      refine gt_X7_274 hx hb hg hown hK hW kd_176 dX7_part_21 ?_
      refine lv_goto (tgt := 31) hx hb dX7_part_24 (by decide) ?_
      obtain ⟨rfl, rfl⟩ := sp2 hk
      exact hret _ _ _ _ hW dX7_part_31
  · replace hk := ite_t hk c5
    refine lv_aload_n hx hb dX7_part_10 rfl (lv_at hl 0 rfl) ?_
    replace hk := ob2_s hk
    obtain ⟨x3, M4, hx3, hk⟩ := hk
    refine cl_i (rn_V g_924 g_926 gs_62 g_9 g_927 hd_X7_bad (Nat.le_of_ble_eq_true rfl) (ci := 7) rfl (inM kd_176 rfl) (shp7 kd_176) hx hb hml hown hg hK hW (As := []) (c_X7_bad l G M hx3) (by decide) rfl hl.1 rfl (Nat.le_of_ble_eq_true rfl) dX7_part_11) hW (fun H locs hW => ?_)
    refine lv_i2l hx hb dX7_part_14 rfl ?_
    obtain ⟨rfl, rfl⟩ := sp2 hk
    exact hret _ _ _ _ hW dX7_part_15
def f_X7_image_L17 (a1 : Int32) : Nat → Int32 → Mem → Option (Int32 × Mem)
  | 0, _, _ => none
  | n + 1, x2, M3 =>
    if (340 : Int32) ≤ x2 then (
      some (x2, M3))
    else (
      ob (rd M3 177 x2) (fun x6 =>
      ob (wr M3 184 (((340 : Int32) * a1) + x2) x6) (fun M7 =>
      lq (x2 + (1 : Int32)) (fun x8 =>
      f_X7_image_L17 a1 n x8 M7))))
def f_X7_image (a1 : Int32) (M : Mem) : Option (Int32 × Mem) :=
  if (f_X7_in a1.toInt64 (0 : Int64) (1 : Int64)) = (0 : Int32) then (
    ob2 (f_X7_bad M) (fun x13 M14 =>
    some (x13, M14)))
  else (
    ob2 (f_X7_image_L17 a1 FU (0 : Int32) M) (fun x4 M5 =>
    lq (s1 M5 176 20 ((M5.1 176 20) ||| ((1 : Int32) <<< (a1 &&& 31)))) (fun M10 =>
    some ((1 : Int32), M10))))
set_option maxHeartbeats 4000000 in
set_option maxRecDepth 100000 in
theorem c_X7_image (l : Launch) (G : GT) (a1 : Int32) (M : Mem) {r : Int32} {M' : Mem} (hk : f_X7_image a1 M = some (r, M')) : CMi l G false yX7_image cX7_image 3 (some .int) 1 [.ref (ad G 176), .int a1] M r M' := by
  unfold f_X7_image at hk
  refine CMi.of (by decide) (Nat.le_of_ble_eq_true rfl) ?_
  intro p e s m args below meth c Q hx hb hml hown hg hK hW hret ls hl
  have hl : lv_has ls 3 [(0, .ref (ad G 176)), (1, .int a1)] := hl
  refine lv_iload_n hx hb dX7_image_0 rfl (lv_at hl 1 rfl) ?_
  refine lv_i2l hx hb dX7_image_1 rfl ?_
  refine lv_lconst (v := (0 : Int64)) hx hb dX7_image_2 (by decide) ?_
  refine lv_lconst (v := (1 : Int64)) hx hb dX7_image_3 (by decide) ?_
  refine cl_i (rn_S g_921 g_922 g_9 g_923 hd_X7_in (Nat.le_of_ble_eq_true rfl) hx hb hml hown hg hK hW (As := [.long a1.toInt64, .long (0 : Int64), .long (1 : Int64)]) (c_X7_in l G a1.toInt64 (0 : Int64) (1 : Int64) M) (by decide) rfl hl.1 rfl (Nat.le_of_ble_eq_true rfl) dX7_image_4) hW (fun H locs hW => ?_)
  refine lv_if_ne (tgt := 15) hx hb dX7_image_7 (by decide) (fun c15 => ?_) (fun c15 => ?_)
  · replace hk := ite_f hk c15
    refine lv_iconst (v := (0 : Int32)) hx hb dX7_image_15 (by decide) ?_
    refine lv_istore_n (lv' := [(2, .int (0 : Int32)), (0, .ref (ad G 176)), (1, .int a1)]) hx hb dX7_image_16 rfl hl (by decide) rfl (fun ls hl => ?_)
    replace hk := ob2_s hk
    obtain ⟨x4, M5, hz11, hk⟩ := hk
    have KX17 : ∀ (H : Heap) (locs : List Loc) (ls : Array Slot), Ws G false M5 s H locs → lv_has ls 3 [(0, .ref (ad G 176)), (1, .int a1)] → Wx p l e 1 s m args below meth c Q H locs 48 ls [] := by
      intro H locs ls hW hl
      refine lv_aload_n hx hb dX7_image_48 rfl (lv_at hl 0 rfl) ?_
      refine lv_dup hx hb dX7_image_49 rfl ?_
      refine gt_X7_293 hx hb hg hown hK hW kd_176 dX7_image_50 ?_
      refine lv_iconst (v := (1 : Int32)) hx hb dX7_image_53 (by decide) ?_
      refine lv_iload_n hx hb dX7_image_54 rfl (lv_at hl 1 rfl) ?_
      refine lv_ishl hx hb dX7_image_55 ?_
      refine lv_ior hx hb dX7_image_56 ?_
      replace hk := lq_s hk
      obtain ⟨M10, eM10, hk⟩ := hk
      refine pt_X7_293 hx hb hg hown hK hW kd_176 eM10 dX7_image_57 (fun H locs hW => ?_)
      refine lv_iconst (v := (1 : Int32)) hx hb dX7_image_60 (by decide) ?_
      obtain ⟨rfl, rfl⟩ := sp2 hk
      exact hret _ _ _ _ hW dX7_image_61
    clear hk
    have LH17 : ∀ (n : Nat) (x2 : Int32) (M3 : Mem) (H : Heap) (locs : List Loc) (ls : Array Slot), f_X7_image_L17 a1 n x2 M3 = some (x4, M5) → Ws G false M3 s H locs → lv_has ls 3 [(0, .ref (ad G 176)), (1, .int a1), (2, .int x2)] → Wx p l e 1 s m args below meth c Q H locs 17 ls [] := by
      clear hz11
      intro n
      induction n with
      | zero => intro _ _ _ _ _ hk; cases hk
      | succ n ih17 =>
        intro x2 M3 H locs ls hk hW hl
        rw [f_X7_image_L17.eq_2] at hk
        refine lv_iload_n hx hb dX7_image_17 rfl (lv_at hl 2 rfl) ?_
        refine lv_sipush (v := (340 : Int32)) hx hb dX7_image_18 (by decide) ?_
        refine lv_icmp_ge (tgt := 48) hx hb dX7_image_21 (by decide) (fun c9 => ?_) (fun c9 => ?_)
        · replace hk := ite_t hk c9
          obtain ⟨rfl, rfl⟩ := sp2 hk
          exact KX17 _ _ _ hW (lv_sub hl [0, 1] rfl)
        · replace hk := ite_f hk c9
          refine lv_aload_n hx hb dX7_image_24 rfl (lv_at hl 0 rfl) ?_
          refine gt_X7_35 hx hb hg hown hK hW kd_176 dX7_image_25 ?_
          refine lv_sipush (v := (340 : Int32)) hx hb dX7_image_28 (by decide) ?_
          refine lv_iload_n hx hb dX7_image_31 rfl (lv_at hl 1 rfl) ?_
          refine lv_imul hx hb dX7_image_32 ?_
          refine lv_iload_n hx hb dX7_image_33 rfl (lv_at hl 2 rfl) ?_
          refine lv_iadd hx hb dX7_image_34 ?_
          refine lv_aload_n hx hb dX7_image_35 rfl (lv_at hl 0 rfl) ?_
          refine gt_X7_7 hx hb hg hown hK hW kd_176 dX7_image_36 ?_
          refine lv_iload_n hx hb dX7_image_39 rfl (lv_at hl 2 rfl) ?_
          replace hk := ob_s hk
          obtain ⟨x6, hx6, hk⟩ := hk
          obtain ⟨hx6, ex6⟩ := rd_s hx6
          refine w_ald hx hb hK hW (inM kd_177 rfl) (shp10 kd_177) hx6 ex6 dX7_image_40 ?_
          replace hk := ob_s hk
          obtain ⟨M7, hM7, hk⟩ := hk
          obtain ⟨hM7, eM7⟩ := wr_s hM7
          refine w_ast hx hb hK hW (inM kd_184 rfl) (fun _ => (shp10 kd_184)) hM7 eM7 dX7_image_41 (fun H locs hW => ?_)
          replace hk := lq_s hk
          obtain ⟨x8, ex8, hk⟩ := hk
          refine lv_iinc (v := x8) (lv' := [(2, .int x8), (0, .ref (ad G 176)), (1, .int a1)]) hx hb dX7_image_42 hl (k := 2) rfl (by rw [ex8]; rfl) (by decide) rfl (fun ls hl => ?_)
          refine lv_goto (tgt := 17) hx hb dX7_image_45 (by decide) ?_
          exact ih17 _ _ _ _ _ hk hW (lv_sub hl [1, 2, 0] rfl)
    exact LH17 FU _ _ _ _ _ hz11 hW (lv_sub hl [1, 2, 0] rfl)
  · replace hk := ite_t hk c15
    refine lv_aload_n hx hb dX7_image_10 rfl (lv_at hl 0 rfl) ?_
    replace hk := ob2_s hk
    obtain ⟨x13, M14, hx13, hk⟩ := hk
    refine cl_i (rn_V g_924 g_926 gs_62 g_9 g_927 hd_X7_bad (Nat.le_of_ble_eq_true rfl) (ci := 7) rfl (inM kd_176 rfl) (shp7 kd_176) hx hb hml hown hg hK hW (As := []) (c_X7_bad l G M hx13) (by decide) rfl hl.1 rfl (Nat.le_of_ble_eq_true rfl) dX7_image_11) hW (fun H locs hW => ?_)
    obtain ⟨rfl, rfl⟩ := sp2 hk
    exact hret _ _ _ _ hW dX7_image_14
def f_X7_from_L33 (a1 : Int32) : Nat → Int32 → Mem → Option (Int32 × Mem)
  | 0, _, _ => none
  | n + 1, x2, M3 =>
    if (340 : Int32) ≤ x2 then (
      some (x2, M3))
    else (
      ob (rd M3 184 (((340 : Int32) * a1) + x2)) (fun x6 =>
      ob (wr M3 177 x2 x6) (fun M7 =>
      lq (x2 + (1 : Int32)) (fun x8 =>
      f_X7_from_L33 a1 n x8 M7))))
def f_X7_from (a1 : Int32) (M : Mem) : Option (Int32 × Mem) :=
  if (f_X7_in a1.toInt64 (0 : Int64) (1 : Int64)) = (0 : Int32) then (
    ob2 (f_X7_bad M) (fun x15 M16 =>
    some (x15, M16)))
  else (
    if (((M.1 176 20) >>> (a1 &&& 31)) &&& (1 : Int32)) = (0 : Int32) then (
      ob2 (f_X7_no M) (fun x12 M13 =>
      some (x12, M13)))
    else (
      ob2 (f_X7_from_L33 a1 FU (0 : Int32) M) (fun x4 M5 =>
      some ((1 : Int32), M5))))
set_option maxHeartbeats 4000000 in
set_option maxRecDepth 100000 in
theorem c_X7_from (l : Launch) (G : GT) (a1 : Int32) (M : Mem) {r : Int32} {M' : Mem} (hk : f_X7_from a1 M = some (r, M')) : CMi l G false yX7_from cX7_from 3 (some .int) 1 [.ref (ad G 176), .int a1] M r M' := by
  unfold f_X7_from at hk
  refine CMi.of (by decide) (Nat.le_of_ble_eq_true rfl) ?_
  intro p e s m args below meth c Q hx hb hml hown hg hK hW hret ls hl
  have hl : lv_has ls 3 [(0, .ref (ad G 176)), (1, .int a1)] := hl
  refine lv_iload_n hx hb dX7_from_0 rfl (lv_at hl 1 rfl) ?_
  refine lv_i2l hx hb dX7_from_1 rfl ?_
  refine lv_lconst (v := (0 : Int64)) hx hb dX7_from_2 (by decide) ?_
  refine lv_lconst (v := (1 : Int64)) hx hb dX7_from_3 (by decide) ?_
  refine cl_i (rn_S g_921 g_922 g_9 g_923 hd_X7_in (Nat.le_of_ble_eq_true rfl) hx hb hml hown hg hK hW (As := [.long a1.toInt64, .long (0 : Int64), .long (1 : Int64)]) (c_X7_in l G a1.toInt64 (0 : Int64) (1 : Int64) M) (by decide) rfl hl.1 rfl (Nat.le_of_ble_eq_true rfl) dX7_from_4) hW (fun H locs hW => ?_)
  refine lv_if_ne (tgt := 15) hx hb dX7_from_7 (by decide) (fun c17 => ?_) (fun c17 => ?_)
  · replace hk := ite_f hk c17
    refine lv_aload_n hx hb dX7_from_15 rfl (lv_at hl 0 rfl) ?_
    refine gt_X7_293 hx hb hg hown hK hW kd_176 dX7_from_16 ?_
    refine lv_iload_n hx hb dX7_from_19 rfl (lv_at hl 1 rfl) ?_
    refine lv_ishr hx hb dX7_from_20 ?_
    refine lv_iconst (v := (1 : Int32)) hx hb dX7_from_21 (by decide) ?_
    refine lv_iand hx hb dX7_from_22 ?_
    refine lv_if_ne (tgt := 31) hx hb dX7_from_23 (by decide) (fun c14 => ?_) (fun c14 => ?_)
    · replace hk := ite_f hk c14
      refine lv_iconst (v := (0 : Int32)) hx hb dX7_from_31 (by decide) ?_
      refine lv_istore_n (lv' := [(2, .int (0 : Int32)), (0, .ref (ad G 176)), (1, .int a1)]) hx hb dX7_from_32 rfl hl (by decide) rfl (fun ls hl => ?_)
      replace hk := ob2_s hk
      obtain ⟨x4, M5, hz10, hk⟩ := hk
      have KX33 : ∀ (H : Heap) (locs : List Loc) (ls : Array Slot), Ws G false M5 s H locs → lv_has ls 3 [] → Wx p l e 1 s m args below meth c Q H locs 64 ls [] := by
        intro H locs ls hW hl
        refine lv_iconst (v := (1 : Int32)) hx hb dX7_from_64 (by decide) ?_
        obtain ⟨rfl, rfl⟩ := sp2 hk
        exact hret _ _ _ _ hW dX7_from_65
      clear hk
      have LH33 : ∀ (n : Nat) (x2 : Int32) (M3 : Mem) (H : Heap) (locs : List Loc) (ls : Array Slot), f_X7_from_L33 a1 n x2 M3 = some (x4, M5) → Ws G false M3 s H locs → lv_has ls 3 [(0, .ref (ad G 176)), (1, .int a1), (2, .int x2)] → Wx p l e 1 s m args below meth c Q H locs 33 ls [] := by
        clear hz10
        intro n
        induction n with
        | zero => intro _ _ _ _ _ hk; cases hk
        | succ n ih33 =>
          intro x2 M3 H locs ls hk hW hl
          rw [f_X7_from_L33.eq_2] at hk
          refine lv_iload_n hx hb dX7_from_33 rfl (lv_at hl 2 rfl) ?_
          refine lv_sipush (v := (340 : Int32)) hx hb dX7_from_34 (by decide) ?_
          refine lv_icmp_ge (tgt := 64) hx hb dX7_from_37 (by decide) (fun c9 => ?_) (fun c9 => ?_)
          · replace hk := ite_t hk c9
            obtain ⟨rfl, rfl⟩ := sp2 hk
            exact KX33 _ _ _ hW (lv_sub hl [] rfl)
          · replace hk := ite_f hk c9
            refine lv_aload_n hx hb dX7_from_40 rfl (lv_at hl 0 rfl) ?_
            refine gt_X7_7 hx hb hg hown hK hW kd_176 dX7_from_41 ?_
            refine lv_iload_n hx hb dX7_from_44 rfl (lv_at hl 2 rfl) ?_
            refine lv_aload_n hx hb dX7_from_45 rfl (lv_at hl 0 rfl) ?_
            refine gt_X7_35 hx hb hg hown hK hW kd_176 dX7_from_46 ?_
            refine lv_sipush (v := (340 : Int32)) hx hb dX7_from_49 (by decide) ?_
            refine lv_iload_n hx hb dX7_from_52 rfl (lv_at hl 1 rfl) ?_
            refine lv_imul hx hb dX7_from_53 ?_
            refine lv_iload_n hx hb dX7_from_54 rfl (lv_at hl 2 rfl) ?_
            refine lv_iadd hx hb dX7_from_55 ?_
            replace hk := ob_s hk
            obtain ⟨x6, hx6, hk⟩ := hk
            obtain ⟨hx6, ex6⟩ := rd_s hx6
            refine w_ald hx hb hK hW (inM kd_184 rfl) (shp10 kd_184) hx6 ex6 dX7_from_56 ?_
            replace hk := ob_s hk
            obtain ⟨M7, hM7, hk⟩ := hk
            obtain ⟨hM7, eM7⟩ := wr_s hM7
            refine w_ast hx hb hK hW (inM kd_177 rfl) (fun _ => (shp10 kd_177)) hM7 eM7 dX7_from_57 (fun H locs hW => ?_)
            replace hk := lq_s hk
            obtain ⟨x8, ex8, hk⟩ := hk
            refine lv_iinc (v := x8) (lv' := [(2, .int x8), (0, .ref (ad G 176)), (1, .int a1)]) hx hb dX7_from_58 hl (k := 2) rfl (by rw [ex8]; rfl) (by decide) rfl (fun ls hl => ?_)
            refine lv_goto (tgt := 33) hx hb dX7_from_61 (by decide) ?_
            exact ih33 _ _ _ _ _ hk hW (lv_sub hl [1, 2, 0] rfl)
      exact LH33 FU _ _ _ _ _ hz10 hW (lv_sub hl [1, 2, 0] rfl)
    · replace hk := ite_t hk c14
      refine lv_aload_n hx hb dX7_from_26 rfl (lv_at hl 0 rfl) ?_
      replace hk := ob2_s hk
      obtain ⟨x12, M13, hx12, hk⟩ := hk
      refine cl_i (rn_V g_1045 g_1047 gs_80 g_9 g_1048 hd_X7_no (Nat.le_of_ble_eq_true rfl) (ci := 7) rfl (inM kd_176 rfl) (shp7 kd_176) hx hb hml hown hg hK hW (As := []) (c_X7_no l G M hx12) (by decide) rfl hl.1 rfl (Nat.le_of_ble_eq_true rfl) dX7_from_27) hW (fun H locs hW => ?_)
      obtain ⟨rfl, rfl⟩ := sp2 hk
      exact hret _ _ _ _ hW dX7_from_30
  · replace hk := ite_t hk c17
    refine lv_aload_n hx hb dX7_from_10 rfl (lv_at hl 0 rfl) ?_
    replace hk := ob2_s hk
    obtain ⟨x15, M16, hx15, hk⟩ := hk
    refine cl_i (rn_V g_924 g_926 gs_62 g_9 g_927 hd_X7_bad (Nat.le_of_ble_eq_true rfl) (ci := 7) rfl (inM kd_176 rfl) (shp7 kd_176) hx hb hml hown hg hK hW (As := []) (c_X7_bad l G M hx15) (by decide) rfl hl.1 rfl (Nat.le_of_ble_eq_true rfl) dX7_from_11) hW (fun H locs hW => ?_)
    obtain ⟨rfl, rfl⟩ := sp2 hk
    exact hret _ _ _ _ hW dX7_from_14
def f_X7_status (a1 : Int32) (M : Mem) : Option (Int32 × Mem) :=
  if a1 = (0 : Int32) then (
    some ((M.1 176 1), M))
  else (
  if a1 = (1 : Int32) then (
    some ((M.1 176 2), M))
  else (
  if a1 = (2 : Int32) then (
    some ((M.1 176 3), M))
  else (
    lq (s1 M 176 1 ((M.1 176 1) + (1 : Int32))) (fun M1 =>
    some (((-1) : Int32), M1)))))
set_option maxHeartbeats 4000000 in
set_option maxRecDepth 100000 in
theorem c_X7_status (l : Launch) (G : GT) (a1 : Int32) (M : Mem) {r : Int32} {M' : Mem} (hk : f_X7_status a1 M = some (r, M')) : CMi l G false yX7_status cX7_status 2 (some .int) 0 [.ref (ad G 176), .int a1] M r M' := by
  unfold f_X7_status at hk
  refine CMi.of (by decide) (Nat.le_of_ble_eq_true rfl) ?_
  intro p e s m args below meth c Q hx hb hml hown hg hK hW hret ls hl
  have hl : lv_has ls 2 [(0, .ref (ad G 176)), (1, .int a1)] := hl
  refine lv_iload_n hx hb dX7_status_0 rfl (lv_at hl 1 rfl) ?_
  by_cases c2 : a1 = (0 : Int32)
  · replace hk := ite_t hk c2
    refine lv_tableIn (tgt := 28) hx hb dX7_status_1 (by rw [c2]; decide) (by rw [c2]; decide) (by rw [c2]; rfl) (by decide) ?_
    refine lv_aload_n hx hb dX7_status_28 rfl (lv_at hl 0 rfl) ?_
    refine gt_X7_42 hx hb hg hown hK hW kd_176 dX7_status_29 ?_
    obtain ⟨rfl, rfl⟩ := sp2 hk
    exact hret _ _ _ _ hW dX7_status_32
  replace hk := ite_f hk c2
  have c2_0 := c2
  by_cases c2 : a1 = (1 : Int32)
  · replace hk := ite_t hk c2
    refine lv_tableIn (tgt := 33) hx hb dX7_status_1 (by rw [c2]; decide) (by rw [c2]; decide) (by rw [c2]; rfl) (by decide) ?_
    refine lv_aload_n hx hb dX7_status_33 rfl (lv_at hl 0 rfl) ?_
    refine gt_X7_46 hx hb hg hown hK hW kd_176 dX7_status_34 ?_
    obtain ⟨rfl, rfl⟩ := sp2 hk
    exact hret _ _ _ _ hW dX7_status_37
  replace hk := ite_f hk c2
  have c2_1 := c2
  by_cases c2 : a1 = (2 : Int32)
  · replace hk := ite_t hk c2
    refine lv_tableIn (tgt := 38) hx hb dX7_status_1 (by rw [c2]; decide) (by rw [c2]; decide) (by rw [c2]; rfl) (by decide) ?_
    refine lv_aload_n hx hb dX7_status_38 rfl (lv_at hl 0 rfl) ?_
    refine gt_X7_49 hx hb hg hown hK hW kd_176 dX7_status_39 ?_
    obtain ⟨rfl, rfl⟩ := sp2 hk
    exact hret _ _ _ _ hW dX7_status_42
  replace hk := ite_f hk c2
  have c2_2 := c2
  refine lv_tableOut (tgt := 43) hx hb dX7_status_1 (by have q0 := lv_neT c2_0 (a := 0) (by decide); have q1 := lv_neT c2_1 (a := 1) (by decide); have q2 := lv_neT c2_2 (a := 2) (by decide); omega) (by decide) ?_
  refine lv_aload_n hx hb dX7_status_43 rfl (lv_at hl 0 rfl) ?_
  refine lv_dup hx hb dX7_status_44 rfl ?_
  refine gt_X7_42 hx hb hg hown hK hW kd_176 dX7_status_45 ?_
  refine lv_iconst (v := (1 : Int32)) hx hb dX7_status_48 (by decide) ?_
  refine lv_iadd hx hb dX7_status_49 ?_
  replace hk := lq_s hk
  obtain ⟨M1, eM1, hk⟩ := hk
  refine pt_X7_42 hx hb hg hown hK hW kd_176 eM1 dX7_status_50 (fun H locs hW => ?_)
  refine lv_iconst (v := ((-1) : Int32)) hx hb dX7_status_53 (by decide) ?_
  obtain ⟨rfl, rfl⟩ := sp2 hk
  exact hret _ _ _ _ hW dX7_status_54
def f_X7_counted_L4 (M : Mem) : Nat → Int32 → Int32 → Option (Int32)
  | 0, _, _ => none
  | n + 1, x1, x2 =>
    ob (rd M 177 (0 : Int32)) (fun x4 =>
    if x4 ≤ x2 then (
      some x1)
    else (
      ob (f_X7_limbOf x2 (5 : Int32) M) (fun x5 =>
      lq (x1 + x5) (fun x6 =>
      lq (x2 + (1 : Int32)) (fun x7 =>
      f_X7_counted_L4 M n x6 x7)))))
def f_X7_counted (a1 : Int32) (M : Mem) : Option (Int32) :=
  ob (f_X7_counted_L4 M FU (0 : Int32) (0 : Int32)) (fun x3 =>
  if a1 = (0 : Int32) then (
    ob (rd M 177 (0 : Int32)) (fun x9 =>
    some x9))
  else (
  if a1 = (1 : Int32) then (
    ob (f_X7_snapped M) (fun x10 =>
    some x10))
  else (
  if a1 = (2 : Int32) then (
    ob (rd M 177 (1 : Int32)) (fun x11 =>
    some x11))
  else (
  if a1 = (3 : Int32) then (
    ob (rd M 177 (2 : Int32)) (fun x12 =>
    some x12))
  else (
  if a1 = (4 : Int32) then (
    ob (rd M 177 (3 : Int32)) (fun x13 =>
    some x13))
  else (
  if a1 = (5 : Int32) then (
    some x3)
  else (
  if a1 = (6 : Int32) then (
    ob (rd M 177 (70 : Int32)) (fun x14 =>
    some x14))
  else (
  if a1 = (7 : Int32) then (
    ob (rd M 177 (91 : Int32)) (fun x15 =>
    some x15))
  else (
  if a1 = (8 : Int32) then (
    ob (rd M 177 (122 : Int32)) (fun x16 =>
    some x16))
  else (
  if a1 = (9 : Int32) then (
    ob (rd M 177 (147 : Int32)) (fun x17 =>
    some x17))
  else (
    some (M.1 176 7))))))))))))
set_option maxHeartbeats 4000000 in
set_option maxRecDepth 100000 in
theorem c_X7_counted (l : Launch) (G : GT) (a1 : Int32) (M : Mem) {r : Int32} (hk : f_X7_counted a1 M = some r) : CMi l G false yX7_counted cX7_counted 4 (some .int) 2 [.ref (ad G 176), .int a1] M r M := by
  unfold f_X7_counted at hk
  refine CMi.of (by decide) (Nat.le_of_ble_eq_true rfl) ?_
  intro p e s m args below meth c Q hx hb hml hown hg hK hW hret ls hl
  have hl : lv_has ls 4 [(0, .ref (ad G 176)), (1, .int a1)] := hl
  refine lv_iconst (v := (0 : Int32)) hx hb dX7_counted_0 (by decide) ?_
  refine lv_istore_n (lv' := [(2, .int (0 : Int32)), (0, .ref (ad G 176)), (1, .int a1)]) hx hb dX7_counted_1 rfl hl (by decide) rfl (fun ls hl => ?_)
  refine lv_iconst (v := (0 : Int32)) hx hb dX7_counted_2 (by decide) ?_
  refine lv_istore_n (lv' := [(3, .int (0 : Int32)), (2, .int (0 : Int32)), (0, .ref (ad G 176)), (1, .int a1)]) hx hb dX7_counted_3 rfl hl (by decide) rfl (fun ls hl => ?_)
  replace hk := ob_s hk
  obtain ⟨x3, hz19, hk⟩ := hk
  have KX4 : ∀ (H : Heap) (locs : List Loc) (ls : Array Slot), Ws G false M s H locs → lv_has ls 4 [(0, .ref (ad G 176)), (1, .int a1), (2, .int x3)] → Wx p l e 2 s m args below meth c Q H locs 29 ls [] := by
    intro H locs ls hW hl
    refine lv_iload_n hx hb dX7_counted_29 rfl (lv_at hl 1 rfl) ?_
    by_cases c18 : a1 = (0 : Int32)
    · replace hk := ite_t hk c18
      refine lv_tableIn (tgt := 84) hx hb dX7_counted_30 (by rw [c18]; decide) (by rw [c18]; decide) (by rw [c18]; rfl) (by decide) ?_
      refine lv_aload_n hx hb dX7_counted_84 rfl (lv_at hl 0 rfl) ?_
      refine gt_X7_7 hx hb hg hown hK hW kd_176 dX7_counted_85 ?_
      refine lv_iconst (v := (0 : Int32)) hx hb dX7_counted_88 (by decide) ?_
      replace hk := ob_s hk
      obtain ⟨x9, hx9, hk⟩ := hk
      obtain ⟨hx9, ex9⟩ := rd_s hx9
      refine w_ald hx hb hK hW (inM kd_177 rfl) (shp10 kd_177) hx9 ex9 dX7_counted_89 ?_
      obtain rfl := Option.some.inj hk
      exact hret _ _ _ _ hW dX7_counted_90
    replace hk := ite_f hk c18
    have c18_0 := c18
    by_cases c18 : a1 = (1 : Int32)
    · replace hk := ite_t hk c18
      refine lv_tableIn (tgt := 91) hx hb dX7_counted_30 (by rw [c18]; decide) (by rw [c18]; decide) (by rw [c18]; rfl) (by decide) ?_
      refine lv_aload_n hx hb dX7_counted_91 rfl (lv_at hl 0 rfl) ?_
      replace hk := ob_s hk
      obtain ⟨x10, hx10, hk⟩ := hk
      refine cl_i (rn_V g_1053 g_1055 gs_82 g_9 g_1056 hd_X7_snapped (Nat.le_of_ble_eq_true rfl) (ci := 7) rfl (inM kd_176 rfl) (shp7 kd_176) hx hb hml hown hg hK hW (As := []) (c_X7_snapped l G M hx10) (by decide) rfl hl.1 rfl (Nat.le_of_ble_eq_true rfl) dX7_counted_92) hW (fun H locs hW => ?_)
      obtain rfl := Option.some.inj hk
      exact hret _ _ _ _ hW dX7_counted_95
    replace hk := ite_f hk c18
    have c18_1 := c18
    by_cases c18 : a1 = (2 : Int32)
    · replace hk := ite_t hk c18
      refine lv_tableIn (tgt := 96) hx hb dX7_counted_30 (by rw [c18]; decide) (by rw [c18]; decide) (by rw [c18]; rfl) (by decide) ?_
      refine lv_aload_n hx hb dX7_counted_96 rfl (lv_at hl 0 rfl) ?_
      refine gt_X7_7 hx hb hg hown hK hW kd_176 dX7_counted_97 ?_
      refine lv_iconst (v := (1 : Int32)) hx hb dX7_counted_100 (by decide) ?_
      replace hk := ob_s hk
      obtain ⟨x11, hx11, hk⟩ := hk
      obtain ⟨hx11, ex11⟩ := rd_s hx11
      refine w_ald hx hb hK hW (inM kd_177 rfl) (shp10 kd_177) hx11 ex11 dX7_counted_101 ?_
      obtain rfl := Option.some.inj hk
      exact hret _ _ _ _ hW dX7_counted_102
    replace hk := ite_f hk c18
    have c18_2 := c18
    by_cases c18 : a1 = (3 : Int32)
    · replace hk := ite_t hk c18
      refine lv_tableIn (tgt := 103) hx hb dX7_counted_30 (by rw [c18]; decide) (by rw [c18]; decide) (by rw [c18]; rfl) (by decide) ?_
      refine lv_aload_n hx hb dX7_counted_103 rfl (lv_at hl 0 rfl) ?_
      refine gt_X7_7 hx hb hg hown hK hW kd_176 dX7_counted_104 ?_
      refine lv_iconst (v := (2 : Int32)) hx hb dX7_counted_107 (by decide) ?_
      replace hk := ob_s hk
      obtain ⟨x12, hx12, hk⟩ := hk
      obtain ⟨hx12, ex12⟩ := rd_s hx12
      refine w_ald hx hb hK hW (inM kd_177 rfl) (shp10 kd_177) hx12 ex12 dX7_counted_108 ?_
      obtain rfl := Option.some.inj hk
      exact hret _ _ _ _ hW dX7_counted_109
    replace hk := ite_f hk c18
    have c18_3 := c18
    by_cases c18 : a1 = (4 : Int32)
    · replace hk := ite_t hk c18
      refine lv_tableIn (tgt := 110) hx hb dX7_counted_30 (by rw [c18]; decide) (by rw [c18]; decide) (by rw [c18]; rfl) (by decide) ?_
      refine lv_aload_n hx hb dX7_counted_110 rfl (lv_at hl 0 rfl) ?_
      refine gt_X7_7 hx hb hg hown hK hW kd_176 dX7_counted_111 ?_
      refine lv_iconst (v := (3 : Int32)) hx hb dX7_counted_114 (by decide) ?_
      replace hk := ob_s hk
      obtain ⟨x13, hx13, hk⟩ := hk
      obtain ⟨hx13, ex13⟩ := rd_s hx13
      refine w_ald hx hb hK hW (inM kd_177 rfl) (shp10 kd_177) hx13 ex13 dX7_counted_115 ?_
      obtain rfl := Option.some.inj hk
      exact hret _ _ _ _ hW dX7_counted_116
    replace hk := ite_f hk c18
    have c18_4 := c18
    by_cases c18 : a1 = (5 : Int32)
    · replace hk := ite_t hk c18
      refine lv_tableIn (tgt := 117) hx hb dX7_counted_30 (by rw [c18]; decide) (by rw [c18]; decide) (by rw [c18]; rfl) (by decide) ?_
      refine lv_iload_n hx hb dX7_counted_117 rfl (lv_at hl 2 rfl) ?_
      obtain rfl := Option.some.inj hk
      exact hret _ _ _ _ hW dX7_counted_118
    replace hk := ite_f hk c18
    have c18_5 := c18
    by_cases c18 : a1 = (6 : Int32)
    · replace hk := ite_t hk c18
      refine lv_tableIn (tgt := 119) hx hb dX7_counted_30 (by rw [c18]; decide) (by rw [c18]; decide) (by rw [c18]; rfl) (by decide) ?_
      refine lv_aload_n hx hb dX7_counted_119 rfl (lv_at hl 0 rfl) ?_
      refine gt_X7_7 hx hb hg hown hK hW kd_176 dX7_counted_120 ?_
      refine lv_bipush (v := (70 : Int32)) hx hb dX7_counted_123 (by decide) ?_
      replace hk := ob_s hk
      obtain ⟨x14, hx14, hk⟩ := hk
      obtain ⟨hx14, ex14⟩ := rd_s hx14
      refine w_ald hx hb hK hW (inM kd_177 rfl) (shp10 kd_177) hx14 ex14 dX7_counted_125 ?_
      obtain rfl := Option.some.inj hk
      exact hret _ _ _ _ hW dX7_counted_126
    replace hk := ite_f hk c18
    have c18_6 := c18
    by_cases c18 : a1 = (7 : Int32)
    · replace hk := ite_t hk c18
      refine lv_tableIn (tgt := 127) hx hb dX7_counted_30 (by rw [c18]; decide) (by rw [c18]; decide) (by rw [c18]; rfl) (by decide) ?_
      refine lv_aload_n hx hb dX7_counted_127 rfl (lv_at hl 0 rfl) ?_
      refine gt_X7_7 hx hb hg hown hK hW kd_176 dX7_counted_128 ?_
      refine lv_bipush (v := (91 : Int32)) hx hb dX7_counted_131 (by decide) ?_
      replace hk := ob_s hk
      obtain ⟨x15, hx15, hk⟩ := hk
      obtain ⟨hx15, ex15⟩ := rd_s hx15
      refine w_ald hx hb hK hW (inM kd_177 rfl) (shp10 kd_177) hx15 ex15 dX7_counted_133 ?_
      obtain rfl := Option.some.inj hk
      exact hret _ _ _ _ hW dX7_counted_134
    replace hk := ite_f hk c18
    have c18_7 := c18
    by_cases c18 : a1 = (8 : Int32)
    · replace hk := ite_t hk c18
      refine lv_tableIn (tgt := 135) hx hb dX7_counted_30 (by rw [c18]; decide) (by rw [c18]; decide) (by rw [c18]; rfl) (by decide) ?_
      refine lv_aload_n hx hb dX7_counted_135 rfl (lv_at hl 0 rfl) ?_
      refine gt_X7_7 hx hb hg hown hK hW kd_176 dX7_counted_136 ?_
      refine lv_bipush (v := (122 : Int32)) hx hb dX7_counted_139 (by decide) ?_
      replace hk := ob_s hk
      obtain ⟨x16, hx16, hk⟩ := hk
      obtain ⟨hx16, ex16⟩ := rd_s hx16
      refine w_ald hx hb hK hW (inM kd_177 rfl) (shp10 kd_177) hx16 ex16 dX7_counted_141 ?_
      obtain rfl := Option.some.inj hk
      exact hret _ _ _ _ hW dX7_counted_142
    replace hk := ite_f hk c18
    have c18_8 := c18
    by_cases c18 : a1 = (9 : Int32)
    · replace hk := ite_t hk c18
      refine lv_tableIn (tgt := 143) hx hb dX7_counted_30 (by rw [c18]; decide) (by rw [c18]; decide) (by rw [c18]; rfl) (by decide) ?_
      refine lv_aload_n hx hb dX7_counted_143 rfl (lv_at hl 0 rfl) ?_
      refine gt_X7_7 hx hb hg hown hK hW kd_176 dX7_counted_144 ?_
      refine lv_sipush (v := (147 : Int32)) hx hb dX7_counted_147 (by decide) ?_
      replace hk := ob_s hk
      obtain ⟨x17, hx17, hk⟩ := hk
      obtain ⟨hx17, ex17⟩ := rd_s hx17
      refine w_ald hx hb hK hW (inM kd_177 rfl) (shp10 kd_177) hx17 ex17 dX7_counted_150 ?_
      obtain rfl := Option.some.inj hk
      exact hret _ _ _ _ hW dX7_counted_151
    replace hk := ite_f hk c18
    have c18_9 := c18
    refine lv_tableOut (tgt := 152) hx hb dX7_counted_30 (by have q0 := lv_neT c18_0 (a := 0) (by decide); have q1 := lv_neT c18_1 (a := 1) (by decide); have q2 := lv_neT c18_2 (a := 2) (by decide); have q3 := lv_neT c18_3 (a := 3) (by decide); have q4 := lv_neT c18_4 (a := 4) (by decide); have q5 := lv_neT c18_5 (a := 5) (by decide); have q6 := lv_neT c18_6 (a := 6) (by decide); have q7 := lv_neT c18_7 (a := 7) (by decide); have q8 := lv_neT c18_8 (a := 8) (by decide); have q9 := lv_neT c18_9 (a := 9) (by decide); omega) (by decide) ?_
    refine lv_aload_n hx hb dX7_counted_152 rfl (lv_at hl 0 rfl) ?_
    refine gt_X7_109 hx hb hg hown hK hW kd_176 dX7_counted_153 ?_
    obtain rfl := Option.some.inj hk
    exact hret _ _ _ _ hW dX7_counted_156
  clear hk
  have LH4 : ∀ (n : Nat) (x1 : Int32) (x2 : Int32) (H : Heap) (locs : List Loc) (ls : Array Slot), f_X7_counted_L4 M n x1 x2 = some x3 → Ws G false M s H locs → lv_has ls 4 [(0, .ref (ad G 176)), (1, .int a1), (2, .int x1), (3, .int x2)] → Wx p l e 2 s m args below meth c Q H locs 4 ls [] := by
    clear hz19
    intro n
    induction n with
    | zero => intro _ _ _ _ _ hk; cases hk
    | succ n ih4 =>
      intro x1 x2 H locs ls hk hW hl
      rw [f_X7_counted_L4.eq_2] at hk
      refine lv_iload_n hx hb dX7_counted_4 rfl (lv_at hl 3 rfl) ?_
      refine lv_aload_n hx hb dX7_counted_5 rfl (lv_at hl 0 rfl) ?_
      refine gt_X7_7 hx hb hg hown hK hW kd_176 dX7_counted_6 ?_
      refine lv_iconst (v := (0 : Int32)) hx hb dX7_counted_9 (by decide) ?_
      replace hk := ob_s hk
      obtain ⟨x4, hx4, hk⟩ := hk
      obtain ⟨hx4, ex4⟩ := rd_s hx4
      refine w_ald hx hb hK hW (inM kd_177 rfl) (shp10 kd_177) hx4 ex4 dX7_counted_10 ?_
      refine lv_icmp_ge (tgt := 29) hx hb dX7_counted_11 (by decide) (fun c8 => ?_) (fun c8 => ?_)
      · replace hk := ite_t hk c8
        obtain rfl := Option.some.inj hk
        exact KX4 _ _ _ hW (lv_sub hl [0, 1, 2] rfl)
      · replace hk := ite_f hk c8
        refine lv_iload_n hx hb dX7_counted_14 rfl (lv_at hl 2 rfl) ?_
        refine lv_aload_n hx hb dX7_counted_15 rfl (lv_at hl 0 rfl) ?_
        refine lv_iload_n hx hb dX7_counted_16 rfl (lv_at hl 3 rfl) ?_
        refine lv_iconst (v := (5 : Int32)) hx hb dX7_counted_17 (by decide) ?_
        replace hk := ob_s hk
        obtain ⟨x5, hx5, hk⟩ := hk
        refine cl_i (rn_V g_1029 g_1031 gs_77 g_9 g_1032 hd_X7_limbOf (Nat.le_of_ble_eq_true rfl) (ci := 7) rfl (inM kd_176 rfl) (shp7 kd_176) hx hb hml hown hg hK hW (As := [.int x2, .int (5 : Int32)]) (c_X7_limbOf l G x2 (5 : Int32) M hx5) (by decide) rfl hl.1 rfl (Nat.le_of_ble_eq_true rfl) dX7_counted_18) hW (fun H locs hW => ?_)
        refine lv_iadd hx hb dX7_counted_21 ?_
        replace hk := lq_s hk
        obtain ⟨x6, ex6, hk⟩ := hk
        refine nm_i ex6 ?_
        refine lv_istore_n (lv' := [(2, .int x6), (0, .ref (ad G 176)), (1, .int a1), (3, .int x2)]) hx hb dX7_counted_22 rfl hl (by decide) rfl (fun ls hl => ?_)
        replace hk := lq_s hk
        obtain ⟨x7, ex7, hk⟩ := hk
        refine lv_iinc (v := x7) (lv' := [(3, .int x7), (2, .int x6), (0, .ref (ad G 176)), (1, .int a1)]) hx hb dX7_counted_23 hl (k := 3) rfl (by rw [ex7]; rfl) (by decide) rfl (fun ls hl => ?_)
        refine lv_goto (tgt := 4) hx hb dX7_counted_26 (by decide) ?_
        exact ih4 _ _ _ _ _ hk hW (lv_sub hl [2, 3, 1, 0] rfl)
  exact LH4 FU _ _ _ _ _ hz19 hW (lv_sub hl [2, 3, 1, 0] rfl)
def f_X7_count (a1 : Int32) (M : Mem) : Option (Int32 × Mem) :=
  if (f_X7_in a1.toInt64 (0 : Int64) (10 : Int64)) = (0 : Int32) then (
    ob2 (f_X7_bad M) (fun x2 M3 =>
    some (x2, M3)))
  else (
    ob (f_X7_counted a1 M) (fun x4 =>
    some (x4, M)))
set_option maxHeartbeats 4000000 in
set_option maxRecDepth 100000 in
theorem c_X7_count (l : Launch) (G : GT) (a1 : Int32) (M : Mem) {r : Int32} {M' : Mem} (hk : f_X7_count a1 M = some (r, M')) : CMi l G false yX7_count cX7_count 2 (some .int) 3 [.ref (ad G 176), .int a1] M r M' := by
  unfold f_X7_count at hk
  refine CMi.of (by decide) (Nat.le_of_ble_eq_true rfl) ?_
  intro p e s m args below meth c Q hx hb hml hown hg hK hW hret ls hl
  have hl : lv_has ls 2 [(0, .ref (ad G 176)), (1, .int a1)] := hl
  refine lv_iload_n hx hb dX7_count_0 rfl (lv_at hl 1 rfl) ?_
  refine lv_i2l hx hb dX7_count_1 rfl ?_
  refine lv_lconst (v := (0 : Int64)) hx hb dX7_count_2 (by decide) ?_
  refine lv_ldc2 hx hb hown (hg _ g_1232) dX7_count_3 ?_
  refine cl_i (rn_S g_921 g_922 g_9 g_923 hd_X7_in (Nat.le_of_ble_eq_true rfl) hx hb hml hown hg hK hW (As := [.long a1.toInt64, .long (0 : Int64), .long (10 : Int64)]) (c_X7_in l G a1.toInt64 (0 : Int64) (10 : Int64) M) (by decide) rfl hl.1 rfl (Nat.le_of_ble_eq_true rfl) dX7_count_6) hW (fun H locs hW => ?_)
  refine lv_if_eq (tgt := 20) hx hb dX7_count_9 (by decide) (fun c5 => ?_) (fun c5 => ?_)
  · replace hk := ite_t hk c5
    refine lv_aload_n hx hb dX7_count_20 rfl (lv_at hl 0 rfl) ?_
    replace hk := ob2_s hk
    obtain ⟨x2, M3, hx2, hk⟩ := hk
    refine cl_i (rn_V g_924 g_926 gs_62 g_9 g_927 hd_X7_bad (Nat.le_of_ble_eq_true rfl) (ci := 7) rfl (inM kd_176 rfl) (shp7 kd_176) hx hb hml hown hg hK hW (As := []) (c_X7_bad l G M hx2) (by decide) rfl hl.1 rfl (Nat.le_of_ble_eq_true rfl) dX7_count_21) hW (fun H locs hW => ?_)
    obtain ⟨rfl, rfl⟩ := sp2 hk
    exact hret _ _ _ _ hW dX7_count_24
  · replace hk := ite_f hk c5
    refine lv_aload_n hx hb dX7_count_12 rfl (lv_at hl 0 rfl) ?_
    refine lv_iload_n hx hb dX7_count_13 rfl (lv_at hl 1 rfl) ?_
    replace hk := ob_s hk
    obtain ⟨x4, hx4, hk⟩ := hk
    refine cl_i (rn_V g_1266 g_1268 gs_99 g_9 g_1269 hd_X7_counted (Nat.le_of_ble_eq_true rfl) (ci := 7) rfl (inM kd_176 rfl) (shp7 kd_176) hx hb hml hown hg hK hW (As := [.int a1]) (c_X7_counted l G a1 M hx4) (by decide) rfl hl.1 rfl (Nat.le_of_ble_eq_true rfl) dX7_count_14) hW (fun H locs hW => ?_)
    refine lv_goto (tgt := 24) hx hb dX7_count_17 (by decide) ?_
    obtain ⟨rfl, rfl⟩ := sp2 hk
    exact hret _ _ _ _ hW dX7_count_24
def f_X7_over_L6 (a3 : Int32) (a4 : Int32) (M : Mem) : Nat → Int64 → Int32 → Option (Int64)
  | 0, _, _ => none
  | n + 1, x1, x2 =>
    ob (rd M 177 a3) (fun x4 =>
    if (a4 * x4) ≤ x2 then (
      some x1)
    else (
      ob (rd M 177 ((a3 + (1 : Int32)) + x2)) (fun x5 =>
      lq (((31 : Int64) * x1) + x5.toInt64) (fun x6 =>
      lq (x2 + (1 : Int32)) (fun x7 =>
      f_X7_over_L6 a3 a4 M n x6 x7)))))
def f_X7_over (a1 : Int64) (a3 : Int32) (a4 : Int32) (M : Mem) : Option (Int64) :=
  ob (f_X7_over_L6 a3 a4 M FU a1 (0 : Int32)) (fun x3 =>
  some x3)
set_option maxHeartbeats 4000000 in
set_option maxRecDepth 100000 in
theorem c_X7_over (l : Launch) (G : GT) (a1 : Int64) (a3 : Int32) (a4 : Int32) (M : Mem) {r : Int64} (hk : f_X7_over a1 a3 a4 M = some r) : CMl l G false yX7_over cX7_over 8 (some .long) 0 [.ref (ad G 176), .long a1, .int a3, .int a4] M r M := by
  unfold f_X7_over at hk
  refine CMl.of (by decide) (Nat.le_of_ble_eq_true rfl) ?_
  intro p e s m args below meth c Q hx hb hml hown hg hK hW hret ls hl
  have hl : lv_has ls 8 [(0, .ref (ad G 176)), (1, .long a1), (3, .int a3), (4, .int a4)] := hl
  refine lv_lload_n hx hb dX7_over_0 rfl (lv_at hl 1 rfl) ?_
  refine lv_lstore (lv' := [(5, .long a1), (0, .ref (ad G 176)), (1, .long a1), (3, .int a3), (4, .int a4)]) hx hb dX7_over_1 hl (by decide) rfl (fun ls hl => ?_)
  refine lv_iconst (v := (0 : Int32)) hx hb dX7_over_3 (by decide) ?_
  refine lv_istore (lv' := [(7, .int (0 : Int32)), (5, .long a1), (0, .ref (ad G 176)), (1, .long a1), (3, .int a3), (4, .int a4)]) hx hb dX7_over_4 hl (by decide) rfl (fun ls hl => ?_)
  replace hk := ob_s hk
  obtain ⟨x3, hz9, hk⟩ := hk
  have KX6 : ∀ (H : Heap) (locs : List Loc) (ls : Array Slot), Ws G false M s H locs → lv_has ls 8 [(5, .long x3)] → Wx p l e 0 s m args below meth c Q H locs 47 ls [] := by
    intro H locs ls hW hl
    refine lv_lload hx hb dX7_over_47 (lv_at hl 0 rfl) ?_
    obtain rfl := Option.some.inj hk
    exact hret _ _ _ _ hW dX7_over_49
  clear hk
  have LH6 : ∀ (n : Nat) (x1 : Int64) (x2 : Int32) (H : Heap) (locs : List Loc) (ls : Array Slot), f_X7_over_L6 a3 a4 M n x1 x2 = some x3 → Ws G false M s H locs → lv_has ls 8 [(0, .ref (ad G 176)), (3, .int a3), (4, .int a4), (5, .long x1), (7, .int x2)] → Wx p l e 0 s m args below meth c Q H locs 6 ls [] := by
    clear hz9
    intro n
    induction n with
    | zero => intro _ _ _ _ _ hk; cases hk
    | succ n ih6 =>
      intro x1 x2 H locs ls hk hW hl
      rw [f_X7_over_L6.eq_2] at hk
      refine lv_iload hx hb dX7_over_6 (lv_at hl 4 rfl) ?_
      refine lv_iload hx hb dX7_over_8 (lv_at hl 2 rfl) ?_
      refine lv_aload_n hx hb dX7_over_10 rfl (lv_at hl 0 rfl) ?_
      refine gt_X7_7 hx hb hg hown hK hW kd_176 dX7_over_11 ?_
      refine lv_iload_n hx hb dX7_over_14 rfl (lv_at hl 1 rfl) ?_
      replace hk := ob_s hk
      obtain ⟨x4, hx4, hk⟩ := hk
      obtain ⟨hx4, ex4⟩ := rd_s hx4
      refine w_ald hx hb hK hW (inM kd_177 rfl) (shp10 kd_177) hx4 ex4 dX7_over_15 ?_
      refine lv_imul hx hb dX7_over_16 ?_
      refine lv_icmp_ge (tgt := 47) hx hb dX7_over_17 (by decide) (fun c8 => ?_) (fun c8 => ?_)
      · replace hk := ite_t hk c8
        obtain rfl := Option.some.inj hk
        exact KX6 _ _ _ hW (lv_sub hl [3] rfl)
      · replace hk := ite_f hk c8
        refine lv_ldc2 hx hb hown (hg _ g_1275) dX7_over_20 ?_
        refine lv_lload hx hb dX7_over_23 (lv_at hl 3 rfl) ?_
        refine lv_lmul hx hb dX7_over_25 ?_
        refine lv_aload_n hx hb dX7_over_26 rfl (lv_at hl 0 rfl) ?_
        refine gt_X7_7 hx hb hg hown hK hW kd_176 dX7_over_27 ?_
        refine lv_iload_n hx hb dX7_over_30 rfl (lv_at hl 1 rfl) ?_
        refine lv_iconst (v := (1 : Int32)) hx hb dX7_over_31 (by decide) ?_
        refine lv_iadd hx hb dX7_over_32 ?_
        refine lv_iload hx hb dX7_over_33 (lv_at hl 4 rfl) ?_
        refine lv_iadd hx hb dX7_over_35 ?_
        replace hk := ob_s hk
        obtain ⟨x5, hx5, hk⟩ := hk
        obtain ⟨hx5, ex5⟩ := rd_s hx5
        refine w_ald hx hb hK hW (inM kd_177 rfl) (shp10 kd_177) hx5 ex5 dX7_over_36 ?_
        refine lv_i2l hx hb dX7_over_37 rfl ?_
        refine lv_ladd hx hb dX7_over_38 ?_
        replace hk := lq_s hk
        obtain ⟨x6, ex6, hk⟩ := hk
        refine nm_l ex6 ?_
        refine lv_lstore (lv' := [(5, .long x6), (0, .ref (ad G 176)), (3, .int a3), (4, .int a4), (7, .int x2)]) hx hb dX7_over_39 hl (by decide) rfl (fun ls hl => ?_)
        replace hk := lq_s hk
        obtain ⟨x7, ex7, hk⟩ := hk
        refine lv_iinc (v := x7) (lv' := [(7, .int x7), (5, .long x6), (0, .ref (ad G 176)), (3, .int a3), (4, .int a4)]) hx hb dX7_over_41 hl (k := 4) rfl (by rw [ex7]; rfl) (by decide) rfl (fun ls hl => ?_)
        refine lv_goto (tgt := 6) hx hb dX7_over_44 (by decide) ?_
        exact ih6 _ _ _ _ _ hk hW (lv_sub hl [2, 3, 4, 1, 0] rfl)
  exact LH6 FU _ _ _ _ _ hz9 hW (lv_sub hl [2, 4, 5, 1, 0] rfl)
def f_X7_digest_L6 (M : Mem) : Nat → Int64 → Int32 → Option (Int64)
  | 0, _, _ => none
  | n + 1, x1, x2 =>
    if (11 : Int32) ≤ x2 then (
      some x1)
    else (
      ob (f_X7_counted x2 M) (fun x4 =>
      lq (((31 : Int64) * x1) + x4.toInt64) (fun x5 =>
      lq (x2 + (1 : Int32)) (fun x6 =>
      f_X7_digest_L6 M n x5 x6))))
def f_X7_digest_L33 (M : Mem) : Nat → Int64 → Int32 → Option (Int64)
  | 0, _, _ => none
  | n + 1, x8, x9 =>
    ob (rd M 177 (0 : Int32)) (fun x11 =>
    if ((7 : Int32) * x11) ≤ x9 then (
      some x8)
    else (
      ob (rd M 177 ((4 : Int32) + x9)) (fun x12 =>
      lq (((31 : Int64) * x8) + x12.toInt64) (fun x13 =>
      lq (x9 + (1 : Int32)) (fun x14 =>
      f_X7_digest_L33 M n x13 x14)))))
def f_X7_digest_L70 (M : Mem) : Nat → Int64 → Int32 → Option (Int64)
  | 0, _, _ => none
  | n + 1, x16, x17 =>
    if (16 : Int32) ≤ x17 then (
      some x16)
    else (
      ob (rd M 177 ((54 : Int32) + x17)) (fun x19 =>
      lq (((31 : Int64) * x16) + x19.toInt64) (fun x20 =>
      lq (x17 + (1 : Int32)) (fun x21 =>
      f_X7_digest_L70 M n x20 x21))))
def f_X7_digest (M : Mem) : Option (Int64) :=
  ob (f_X7_digest_L6 M FU (1783 : Int64) (0 : Int32)) (fun x3 =>
  ob (f_X7_digest_L33 M FU x3 (0 : Int32)) (fun x10 =>
  ob (f_X7_digest_L70 M FU x10 (0 : Int32)) (fun x18 =>
  ob (rd M 177 (53 : Int32)) (fun x23 =>
  lq (((31 : Int64) * x18) + x23.toInt64) (fun x24 =>
  ob (f_X7_over x24 (70 : Int32) (4 : Int32) M) (fun x25 =>
  ob (f_X7_over x25 (91 : Int32) (5 : Int32) M) (fun x26 =>
  ob (f_X7_over x26 (122 : Int32) (4 : Int32) M) (fun x27 =>
  some (((31 : Int64) * (((31 : Int64) * x27) + (M.2 176 4))) + (M.2 176 5))))))))))
set_option maxHeartbeats 4000000 in
set_option maxRecDepth 100000 in
theorem c_X7_digest (l : Launch) (G : GT)  (M : Mem) {r : Int64} (hk : f_X7_digest  M = some r) : CMl l G false yX7_digest cX7_digest 4 (some .long) 3 [.ref (ad G 176)] M r M := by
  unfold f_X7_digest at hk
  refine CMl.of (by decide) (Nat.le_of_ble_eq_true rfl) ?_
  intro p e s m args below meth c Q hx hb hml hown hg hK hW hret ls hl
  have hl : lv_has ls 4 [(0, .ref (ad G 176))] := hl
  refine lv_ldc2 hx hb hown (hg _ g_1274) dX7_digest_0 ?_
  refine lv_lstore_n (lv' := [(1, .long (1783 : Int64)), (0, .ref (ad G 176))]) hx hb dX7_digest_3 rfl hl (by decide) rfl (fun ls hl => ?_)
  refine lv_iconst (v := (0 : Int32)) hx hb dX7_digest_4 (by decide) ?_
  refine lv_istore_n (lv' := [(3, .int (0 : Int32)), (1, .long (1783 : Int64)), (0, .ref (ad G 176))]) hx hb dX7_digest_5 rfl hl (by decide) rfl (fun ls hl => ?_)
  replace hk := ob_s hk
  obtain ⟨x3, hz32, hk⟩ := hk
  have KX6 : ∀ (H : Heap) (locs : List Loc) (ls : Array Slot), Ws G false M s H locs → lv_has ls 4 [(0, .ref (ad G 176)), (1, .long x3)] → Wx p l e 3 s m args below meth c Q H locs 31 ls [] := by
    intro H locs ls hW hl
    refine lv_iconst (v := (0 : Int32)) hx hb dX7_digest_31 (by decide) ?_
    refine lv_istore_n (lv' := [(3, .int (0 : Int32)), (0, .ref (ad G 176)), (1, .long x3)]) hx hb dX7_digest_32 rfl hl (by decide) rfl (fun ls hl => ?_)
    replace hk := ob_s hk
    obtain ⟨x10, hz30, hk⟩ := hk
    have KX33 : ∀ (H : Heap) (locs : List Loc) (ls : Array Slot), Ws G false M s H locs → lv_has ls 4 [(0, .ref (ad G 176)), (1, .long x10)] → Wx p l e 3 s m args below meth c Q H locs 68 ls [] := by
      intro H locs ls hW hl
      refine lv_iconst (v := (0 : Int32)) hx hb dX7_digest_68 (by decide) ?_
      refine lv_istore_n (lv' := [(3, .int (0 : Int32)), (0, .ref (ad G 176)), (1, .long x10)]) hx hb dX7_digest_69 rfl hl (by decide) rfl (fun ls hl => ?_)
      replace hk := ob_s hk
      obtain ⟨x18, hz28, hk⟩ := hk
      have KX70 : ∀ (H : Heap) (locs : List Loc) (ls : Array Slot), Ws G false M s H locs → lv_has ls 4 [(0, .ref (ad G 176)), (1, .long x18)] → Wx p l e 3 s m args below meth c Q H locs 99 ls [] := by
        intro H locs ls hW hl
        refine lv_ldc2 hx hb hown (hg _ g_1275) dX7_digest_99 ?_
        refine lv_lload_n hx hb dX7_digest_102 rfl (lv_at hl 1 rfl) ?_
        refine lv_lmul hx hb dX7_digest_103 ?_
        refine lv_aload_n hx hb dX7_digest_104 rfl (lv_at hl 0 rfl) ?_
        refine gt_X7_7 hx hb hg hown hK hW kd_176 dX7_digest_105 ?_
        refine lv_bipush (v := (53 : Int32)) hx hb dX7_digest_108 (by decide) ?_
        replace hk := ob_s hk
        obtain ⟨x23, hx23, hk⟩ := hk
        obtain ⟨hx23, ex23⟩ := rd_s hx23
        refine w_ald hx hb hK hW (inM kd_177 rfl) (shp10 kd_177) hx23 ex23 dX7_digest_110 ?_
        refine lv_i2l hx hb dX7_digest_111 rfl ?_
        refine lv_ladd hx hb dX7_digest_112 ?_
        replace hk := lq_s hk
        obtain ⟨x24, ex24, hk⟩ := hk
        refine nm_l ex24 ?_
        refine lv_lstore_n (lv' := [(1, .long x24), (0, .ref (ad G 176))]) hx hb dX7_digest_113 rfl hl (by decide) rfl (fun ls hl => ?_)
        refine lv_aload_n hx hb dX7_digest_114 rfl (lv_at hl 1 rfl) ?_
        refine lv_lload_n hx hb dX7_digest_115 rfl (lv_at hl 0 rfl) ?_
        refine lv_bipush (v := (70 : Int32)) hx hb dX7_digest_116 (by decide) ?_
        refine lv_iconst (v := (4 : Int32)) hx hb dX7_digest_118 (by decide) ?_
        replace hk := ob_s hk
        obtain ⟨x25, hx25, hk⟩ := hk
        refine cl_l (rn_V g_1276 g_1278 gs_100 g_9 g_1279 hd_X7_over (Nat.le_of_ble_eq_true rfl) (ci := 7) rfl (inM kd_176 rfl) (shp7 kd_176) hx hb hml hown hg hK hW (As := [.long x24, .int (70 : Int32), .int (4 : Int32)]) (c_X7_over l G x24 (70 : Int32) (4 : Int32) M hx25) (by decide) rfl hl.1 rfl (Nat.le_of_ble_eq_true rfl) dX7_digest_119) hW (fun H locs hW => ?_)
        refine lv_lstore_n (lv' := [(1, .long x25), (0, .ref (ad G 176))]) hx hb dX7_digest_122 rfl hl (by decide) rfl (fun ls hl => ?_)
        refine lv_aload_n hx hb dX7_digest_123 rfl (lv_at hl 1 rfl) ?_
        refine lv_lload_n hx hb dX7_digest_124 rfl (lv_at hl 0 rfl) ?_
        refine lv_bipush (v := (91 : Int32)) hx hb dX7_digest_125 (by decide) ?_
        refine lv_iconst (v := (5 : Int32)) hx hb dX7_digest_127 (by decide) ?_
        replace hk := ob_s hk
        obtain ⟨x26, hx26, hk⟩ := hk
        refine cl_l (rn_V g_1276 g_1278 gs_100 g_9 g_1279 hd_X7_over (Nat.le_of_ble_eq_true rfl) (ci := 7) rfl (inM kd_176 rfl) (shp7 kd_176) hx hb hml hown hg hK hW (As := [.long x25, .int (91 : Int32), .int (5 : Int32)]) (c_X7_over l G x25 (91 : Int32) (5 : Int32) M hx26) (by decide) rfl hl.1 rfl (Nat.le_of_ble_eq_true rfl) dX7_digest_128) hW (fun H locs hW => ?_)
        refine lv_lstore_n (lv' := [(1, .long x26), (0, .ref (ad G 176))]) hx hb dX7_digest_131 rfl hl (by decide) rfl (fun ls hl => ?_)
        refine lv_aload_n hx hb dX7_digest_132 rfl (lv_at hl 1 rfl) ?_
        refine lv_lload_n hx hb dX7_digest_133 rfl (lv_at hl 0 rfl) ?_
        refine lv_bipush (v := (122 : Int32)) hx hb dX7_digest_134 (by decide) ?_
        refine lv_iconst (v := (4 : Int32)) hx hb dX7_digest_136 (by decide) ?_
        replace hk := ob_s hk
        obtain ⟨x27, hx27, hk⟩ := hk
        refine cl_l (rn_V g_1276 g_1278 gs_100 g_9 g_1279 hd_X7_over (Nat.le_of_ble_eq_true rfl) (ci := 7) rfl (inM kd_176 rfl) (shp7 kd_176) hx hb hml hown hg hK hW (As := [.long x26, .int (122 : Int32), .int (4 : Int32)]) (c_X7_over l G x26 (122 : Int32) (4 : Int32) M hx27) (by decide) rfl hl.1 rfl (Nat.le_of_ble_eq_true rfl) dX7_digest_137) hW (fun H locs hW => ?_)
        refine lv_lstore_n (lv' := [(1, .long x27), (0, .ref (ad G 176))]) hx hb dX7_digest_140 rfl hl (by decide) rfl (fun ls hl => ?_)
        refine lv_ldc2 hx hb hown (hg _ g_1275) dX7_digest_141 ?_
        refine lv_ldc2 hx hb hown (hg _ g_1275) dX7_digest_144 ?_
        refine lv_lload_n hx hb dX7_digest_147 rfl (lv_at hl 0 rfl) ?_
        refine lv_lmul hx hb dX7_digest_148 ?_
        refine lv_aload_n hx hb dX7_digest_149 rfl (lv_at hl 1 rfl) ?_
        refine gt_X7_274 hx hb hg hown hK hW kd_176 dX7_digest_150 ?_
        refine lv_ladd hx hb dX7_digest_153 ?_
        refine lv_lmul hx hb dX7_digest_154 ?_
        refine lv_aload_n hx hb dX7_digest_155 rfl (lv_at hl 1 rfl) ?_
        refine gt_X7_13 hx hb hg hown hK hW kd_176 dX7_digest_156 ?_
        refine lv_ladd hx hb dX7_digest_159 ?_
        obtain rfl := Option.some.inj hk
        exact hret _ _ _ _ hW dX7_digest_160
      clear hk
      have LH70 : ∀ (n : Nat) (x16 : Int64) (x17 : Int32) (H : Heap) (locs : List Loc) (ls : Array Slot), f_X7_digest_L70 M n x16 x17 = some x18 → Ws G false M s H locs → lv_has ls 4 [(0, .ref (ad G 176)), (1, .long x16), (3, .int x17)] → Wx p l e 3 s m args below meth c Q H locs 70 ls [] := by
        clear hz28
        intro n
        induction n with
        | zero => intro _ _ _ _ _ hk; cases hk
        | succ n ih70 =>
          intro x16 x17 H locs ls hk hW hl
          rw [f_X7_digest_L70.eq_2] at hk
          refine lv_iload_n hx hb dX7_digest_70 rfl (lv_at hl 2 rfl) ?_
          refine lv_bipush (v := (16 : Int32)) hx hb dX7_digest_71 (by decide) ?_
          refine lv_icmp_ge (tgt := 99) hx hb dX7_digest_73 (by decide) (fun c22 => ?_) (fun c22 => ?_)
          · replace hk := ite_t hk c22
            obtain rfl := Option.some.inj hk
            exact KX70 _ _ _ hW (lv_sub hl [0, 1] rfl)
          · replace hk := ite_f hk c22
            refine lv_ldc2 hx hb hown (hg _ g_1275) dX7_digest_76 ?_
            refine lv_lload_n hx hb dX7_digest_79 rfl (lv_at hl 1 rfl) ?_
            refine lv_lmul hx hb dX7_digest_80 ?_
            refine lv_aload_n hx hb dX7_digest_81 rfl (lv_at hl 0 rfl) ?_
            refine gt_X7_7 hx hb hg hown hK hW kd_176 dX7_digest_82 ?_
            refine lv_bipush (v := (54 : Int32)) hx hb dX7_digest_85 (by decide) ?_
            refine lv_iload_n hx hb dX7_digest_87 rfl (lv_at hl 2 rfl) ?_
            refine lv_iadd hx hb dX7_digest_88 ?_
            replace hk := ob_s hk
            obtain ⟨x19, hx19, hk⟩ := hk
            obtain ⟨hx19, ex19⟩ := rd_s hx19
            refine w_ald hx hb hK hW (inM kd_177 rfl) (shp10 kd_177) hx19 ex19 dX7_digest_89 ?_
            refine lv_i2l hx hb dX7_digest_90 rfl ?_
            refine lv_ladd hx hb dX7_digest_91 ?_
            replace hk := lq_s hk
            obtain ⟨x20, ex20, hk⟩ := hk
            refine nm_l ex20 ?_
            refine lv_lstore_n (lv' := [(1, .long x20), (0, .ref (ad G 176)), (3, .int x17)]) hx hb dX7_digest_92 rfl hl (by decide) rfl (fun ls hl => ?_)
            replace hk := lq_s hk
            obtain ⟨x21, ex21, hk⟩ := hk
            refine lv_iinc (v := x21) (lv' := [(3, .int x21), (1, .long x20), (0, .ref (ad G 176))]) hx hb dX7_digest_93 hl (k := 2) rfl (by rw [ex21]; rfl) (by decide) rfl (fun ls hl => ?_)
            refine lv_goto (tgt := 70) hx hb dX7_digest_96 (by decide) ?_
            exact ih70 _ _ _ _ _ hk hW (lv_sub hl [2, 1, 0] rfl)
      exact LH70 FU _ _ _ _ _ hz28 hW (lv_sub hl [1, 2, 0] rfl)
    clear hk
    have LH33 : ∀ (n : Nat) (x8 : Int64) (x9 : Int32) (H : Heap) (locs : List Loc) (ls : Array Slot), f_X7_digest_L33 M n x8 x9 = some x10 → Ws G false M s H locs → lv_has ls 4 [(0, .ref (ad G 176)), (1, .long x8), (3, .int x9)] → Wx p l e 3 s m args below meth c Q H locs 33 ls [] := by
      clear hz30
      intro n
      induction n with
      | zero => intro _ _ _ _ _ hk; cases hk
      | succ n ih33 =>
        intro x8 x9 H locs ls hk hW hl
        rw [f_X7_digest_L33.eq_2] at hk
        refine lv_iload_n hx hb dX7_digest_33 rfl (lv_at hl 2 rfl) ?_
        refine lv_bipush (v := (7 : Int32)) hx hb dX7_digest_34 (by decide) ?_
        refine lv_aload_n hx hb dX7_digest_36 rfl (lv_at hl 0 rfl) ?_
        refine gt_X7_7 hx hb hg hown hK hW kd_176 dX7_digest_37 ?_
        refine lv_iconst (v := (0 : Int32)) hx hb dX7_digest_40 (by decide) ?_
        replace hk := ob_s hk
        obtain ⟨x11, hx11, hk⟩ := hk
        obtain ⟨hx11, ex11⟩ := rd_s hx11
        refine w_ald hx hb hK hW (inM kd_177 rfl) (shp10 kd_177) hx11 ex11 dX7_digest_41 ?_
        refine lv_imul hx hb dX7_digest_42 ?_
        refine lv_icmp_ge (tgt := 68) hx hb dX7_digest_43 (by decide) (fun c15 => ?_) (fun c15 => ?_)
        · replace hk := ite_t hk c15
          obtain rfl := Option.some.inj hk
          exact KX33 _ _ _ hW (lv_sub hl [0, 1] rfl)
        · replace hk := ite_f hk c15
          refine lv_ldc2 hx hb hown (hg _ g_1275) dX7_digest_46 ?_
          refine lv_lload_n hx hb dX7_digest_49 rfl (lv_at hl 1 rfl) ?_
          refine lv_lmul hx hb dX7_digest_50 ?_
          refine lv_aload_n hx hb dX7_digest_51 rfl (lv_at hl 0 rfl) ?_
          refine gt_X7_7 hx hb hg hown hK hW kd_176 dX7_digest_52 ?_
          refine lv_iconst (v := (4 : Int32)) hx hb dX7_digest_55 (by decide) ?_
          refine lv_iload_n hx hb dX7_digest_56 rfl (lv_at hl 2 rfl) ?_
          refine lv_iadd hx hb dX7_digest_57 ?_
          replace hk := ob_s hk
          obtain ⟨x12, hx12, hk⟩ := hk
          obtain ⟨hx12, ex12⟩ := rd_s hx12
          refine w_ald hx hb hK hW (inM kd_177 rfl) (shp10 kd_177) hx12 ex12 dX7_digest_58 ?_
          refine lv_i2l hx hb dX7_digest_59 rfl ?_
          refine lv_ladd hx hb dX7_digest_60 ?_
          replace hk := lq_s hk
          obtain ⟨x13, ex13, hk⟩ := hk
          refine nm_l ex13 ?_
          refine lv_lstore_n (lv' := [(1, .long x13), (0, .ref (ad G 176)), (3, .int x9)]) hx hb dX7_digest_61 rfl hl (by decide) rfl (fun ls hl => ?_)
          replace hk := lq_s hk
          obtain ⟨x14, ex14, hk⟩ := hk
          refine lv_iinc (v := x14) (lv' := [(3, .int x14), (1, .long x13), (0, .ref (ad G 176))]) hx hb dX7_digest_62 hl (k := 2) rfl (by rw [ex14]; rfl) (by decide) rfl (fun ls hl => ?_)
          refine lv_goto (tgt := 33) hx hb dX7_digest_65 (by decide) ?_
          exact ih33 _ _ _ _ _ hk hW (lv_sub hl [2, 1, 0] rfl)
    exact LH33 FU _ _ _ _ _ hz30 hW (lv_sub hl [1, 2, 0] rfl)
  clear hk
  have LH6 : ∀ (n : Nat) (x1 : Int64) (x2 : Int32) (H : Heap) (locs : List Loc) (ls : Array Slot), f_X7_digest_L6 M n x1 x2 = some x3 → Ws G false M s H locs → lv_has ls 4 [(0, .ref (ad G 176)), (1, .long x1), (3, .int x2)] → Wx p l e 3 s m args below meth c Q H locs 6 ls [] := by
    clear hz32
    intro n
    induction n with
    | zero => intro _ _ _ _ _ hk; cases hk
    | succ n ih6 =>
      intro x1 x2 H locs ls hk hW hl
      rw [f_X7_digest_L6.eq_2] at hk
      refine lv_iload_n hx hb dX7_digest_6 rfl (lv_at hl 2 rfl) ?_
      refine lv_bipush (v := (11 : Int32)) hx hb dX7_digest_7 (by decide) ?_
      refine lv_icmp_ge (tgt := 31) hx hb dX7_digest_9 (by decide) (fun c7 => ?_) (fun c7 => ?_)
      · replace hk := ite_t hk c7
        obtain rfl := Option.some.inj hk
        exact KX6 _ _ _ hW (lv_sub hl [0, 1] rfl)
      · replace hk := ite_f hk c7
        refine lv_ldc2 hx hb hown (hg _ g_1275) dX7_digest_12 ?_
        refine lv_lload_n hx hb dX7_digest_15 rfl (lv_at hl 1 rfl) ?_
        refine lv_lmul hx hb dX7_digest_16 ?_
        refine lv_aload_n hx hb dX7_digest_17 rfl (lv_at hl 0 rfl) ?_
        refine lv_iload_n hx hb dX7_digest_18 rfl (lv_at hl 2 rfl) ?_
        replace hk := ob_s hk
        obtain ⟨x4, hx4, hk⟩ := hk
        refine cl_i (rn_V g_1266 g_1268 gs_99 g_9 g_1269 hd_X7_counted (Nat.le_of_ble_eq_true rfl) (ci := 7) rfl (inM kd_176 rfl) (shp7 kd_176) hx hb hml hown hg hK hW (As := [.int x2]) (c_X7_counted l G x2 M hx4) (by decide) rfl hl.1 rfl (Nat.le_of_ble_eq_true rfl) dX7_digest_19) hW (fun H locs hW => ?_)
        refine lv_i2l hx hb dX7_digest_22 rfl ?_
        refine lv_ladd hx hb dX7_digest_23 ?_
        replace hk := lq_s hk
        obtain ⟨x5, ex5, hk⟩ := hk
        refine nm_l ex5 ?_
        refine lv_lstore_n (lv' := [(1, .long x5), (0, .ref (ad G 176)), (3, .int x2)]) hx hb dX7_digest_24 rfl hl (by decide) rfl (fun ls hl => ?_)
        replace hk := lq_s hk
        obtain ⟨x6, ex6, hk⟩ := hk
        refine lv_iinc (v := x6) (lv' := [(3, .int x6), (1, .long x5), (0, .ref (ad G 176))]) hx hb dX7_digest_25 hl (k := 2) rfl (by rw [ex6]; rfl) (by decide) rfl (fun ls hl => ?_)
        refine lv_goto (tgt := 6) hx hb dX7_digest_28 (by decide) ?_
        exact ih6 _ _ _ _ _ hk hW (lv_sub hl [2, 1, 0] rfl)
  exact LH6 FU _ _ _ _ _ hz32 hW (lv_sub hl [2, 1, 0] rfl)
