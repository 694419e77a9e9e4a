def f_X5_become (o0 : Nat) (o1 : Nat) (M : Mem) : Option (Mem) :=
  ob (f_X6_copyRow (o1 + 1) (o0 + 1) M) (fun M2 =>
  lq (s1 M2 o0 3 (M2.1 o1 3)) (fun M3 =>
  some M3))
set_option maxHeartbeats 4000000 in
set_option maxRecDepth 100000 in
theorem c_X5_become (l : Launch) (G : GT) {o0 : Nat} (h0 : kd o0 = 5) {o1 : Nat} (h1 : kd o1 = 5) (M : Mem) {M' : Mem} (hk : f_X5_become o0 o1 M = some M') : CMv l G true yX5_become cX5_become 2 none 1 [.ref (ad G o0), .ref (ad G o1)] M M' := by
  unfold f_X5_become at hk
  refine CMv.of (by decide) (Nat.le_of_ble_eq_true rfl) ?_
  intro p e s m args below meth c Q hx hb hml hown hg hK hW hret ls hl
  have hl : lv_has ls 2 [(0, .ref (ad G o0)), (1, .ref (ad G o1))] := hl
  refine lv_aload_n hx hb dX5_become_0 rfl (lv_at hl 1 rfl) ?_
  refine gt_X5_25 hx hb hg hown hK hW h1 dX5_become_1 ?_
  refine lv_aload_n hx hb dX5_become_4 rfl (lv_at hl 0 rfl) ?_
  refine gt_X5_25 hx hb hg hown hK hW h0 dX5_become_5 ?_
  replace hk := ob_s hk
  obtain ⟨M2, hx1, hk⟩ := hk
  refine cl_v (rn_SN n_489 g_474 g_1 g_475 hd_X6_copyRow (Nat.le_of_ble_eq_true rfl) hx hb hml hown hg hK hW (As := [.ref (ad G (o1 + 1)), .ref (ad G (o0 + 1))]) (c_X6_copyRow l G (k5_1 h1) (k5_1 h0) M hx1) (by decide) rfl hl.1 rfl (Nat.le_of_ble_eq_true rfl) dX5_become_8) hW (fun H locs hW => ?_)
  refine lv_aload_n hx hb dX5_become_11 rfl (lv_at hl 0 rfl) ?_
  refine lv_aload_n hx hb dX5_become_12 rfl (lv_at hl 1 rfl) ?_
  refine gt_X5_7 hx hb hg hown hK hW h1 dX5_become_13 ?_
  replace hk := lq_s hk
  obtain ⟨M3, eM3, hk⟩ := hk
  refine pt_X5_7 hx hb hg hown hK hW h0 eM3 dX5_become_16 (fun H locs hW => ?_)
  obtain rfl := Option.some.inj hk
  exact hret _ _ _ _ hW dX5_become_19
def f_X2_become_L65 (o0 : Nat) (o1 : Nat) : Nat → Int32 → Mem → Option (Int32 × Mem)
  | 0, _, _ => none
  | n + 1, x12, M13 =>
    if (8 : Int32) ≤ x12 then (
      some (x12, M13))
    else (
      ob (f_X2_pastAt o0 x12) (fun q16 =>
      ob (f_X2_pastAt o1 x12) (fun q17 =>
      ob (f_X1_become q16 q17 M13) (fun M19 =>
      lq (x12 + (1 : Int32)) (fun x20 =>
      f_X2_become_L65 o0 o1 n x20 M19)))))
def f_X2_become (o0 : Nat) (o1 : Nat) (M : Mem) : Option (Mem) :=
  ob (f_X6_copyRow (o1 + 1) (o0 + 1) M) (fun M2 =>
  ob (f_X6_copyRow (o1 + 2) (o0 + 2) M2) (fun M4 =>
  ob (f_X6_copyRow (o1 + 3) (o0 + 3) M4) (fun M6 =>
  ob (f_X6_copyRow (o1 + 4) (o0 + 4) M6) (fun M8 =>
  lq (s1 M8 o0 4 (M8.1 o1 4)) (fun M9 =>
  ob (f_X1_become (o0 + 5) (o1 + 5) M9) (fun M11 =>
  ob2 (f_X2_become_L65 o0 o1 FU (0 : Int32) M11) (fun x14 M15 =>
  lq (s1 M15 o0 7 (M15.1 o1 7)) (fun M22 =>
  lq (s1 M22 o0 8 (M22.1 o1 8)) (fun M23 =>
  ob (f_X6_copyRow (o1 + 33) (o0 + 33) M23) (fun M25 =>
  ob (f_X6_copyRow (o1 + 34) (o0 + 34) M25) (fun M27 =>
  lq (s1 M27 o0 11 (M27.1 o1 11)) (fun M28 =>
  ob (f_X5_become (o0 + 35) (o1 + 35) M28) (fun M30 =>
  ob (f_X5_become (o0 + 37) (o1 + 37) M30) (fun M32 =>
  ob (f_X5_become (o0 + 39) (o1 + 39) M32) (fun M34 =>
  some M34)))))))))))))))
set_option maxHeartbeats 4000000 in
set_option maxRecDepth 100000 in
theorem c_X2_become (l : Launch) (G : GT) {o0 : Nat} (h0 : kd o0 = 2) {o1 : Nat} (h1 : kd o1 = 2) (M : Mem) {M' : Mem} (hk : f_X2_become o0 o1 M = some M') : CMv l G true yX2_become cX2_become 3 none 2 [.ref (ad G o0), .ref (ad G o1)] M M' := by
  unfold f_X2_become at hk
  refine CMv.of (by decide) (Nat.le_of_ble_eq_true rfl) ?_
  intro p e s m args below meth c Q hx hb hml hown hg hK hW hret ls hl
  have hl : lv_has ls 3 [(0, .ref (ad G o0)), (1, .ref (ad G o1))] := hl
  refine lv_aload_n hx hb dX2_become_0 rfl (lv_at hl 1 rfl) ?_
  refine gt_X2_9 hx hb hg hown hK hW h1 dX2_become_1 ?_
  refine lv_aload_n hx hb dX2_become_4 rfl (lv_at hl 0 rfl) ?_
  refine gt_X2_9 hx hb hg hown hK hW h0 dX2_become_5 ?_
  replace hk := ob_s hk
  obtain ⟨M2, hx1, hk⟩ := hk
  refine cl_v (rn_SN n_473 g_474 g_1 g_475 hd_X6_copyRow (Nat.le_of_ble_eq_true rfl) hx hb hml hown hg hK hW (As := [.ref (ad G (o1 + 1)), .ref (ad G (o0 + 1))]) (c_X6_copyRow l G (k2_1 h1) (k2_1 h0) M hx1) (by decide) rfl hl.1 rfl (Nat.le_of_ble_eq_true rfl) dX2_become_8) hW (fun H locs hW => ?_)
  refine lv_aload_n hx hb dX2_become_11 rfl (lv_at hl 1 rfl) ?_
  refine gt_X2_15 hx hb hg hown hK hW h1 dX2_become_12 ?_
  refine lv_aload_n hx hb dX2_become_15 rfl (lv_at hl 0 rfl) ?_
  refine gt_X2_15 hx hb hg hown hK hW h0 dX2_become_16 ?_
  replace hk := ob_s hk
  obtain ⟨M4, hx3, hk⟩ := hk
  refine cl_v (rn_SN n_473 g_474 g_1 g_475 hd_X6_copyRow (Nat.le_of_ble_eq_true rfl) hx hb hml hown hg hK hW (As := [.ref (ad G (o1 + 2)), .ref (ad G (o0 + 2))]) (c_X6_copyRow l G (k2_2 h1) (k2_2 h0) M2 hx3) (by decide) rfl hl.1 rfl (Nat.le_of_ble_eq_true rfl) dX2_become_19) hW (fun H locs hW => ?_)
  refine lv_aload_n hx hb dX2_become_22 rfl (lv_at hl 1 rfl) ?_
  refine gt_X2_18 hx hb hg hown hK hW h1 dX2_become_23 ?_
  refine lv_aload_n hx hb dX2_become_26 rfl (lv_at hl 0 rfl) ?_
  refine gt_X2_18 hx hb hg hown hK hW h0 dX2_become_27 ?_
  replace hk := ob_s hk
  obtain ⟨M6, hx5, hk⟩ := hk
  refine cl_v (rn_SN n_473 g_474 g_1 g_475 hd_X6_copyRow (Nat.le_of_ble_eq_true rfl) hx hb hml hown hg hK hW (As := [.ref (ad G (o1 + 3)), .ref (ad G (o0 + 3))]) (c_X6_copyRow l G (k2_3 h1) (k2_3 h0) M4 hx5) (by decide) rfl hl.1 rfl (Nat.le_of_ble_eq_true rfl) dX2_become_30) hW (fun H locs hW => ?_)
  refine lv_aload_n hx hb dX2_become_33 rfl (lv_at hl 1 rfl) ?_
  refine gt_X2_21 hx hb hg hown hK hW h1 dX2_become_34 ?_
  refine lv_aload_n hx hb dX2_become_37 rfl (lv_at hl 0 rfl) ?_
  refine gt_X2_21 hx hb hg hown hK hW h0 dX2_become_38 ?_
  replace hk := ob_s hk
  obtain ⟨M8, hx7, hk⟩ := hk
  refine cl_v (rn_SN n_473 g_474 g_1 g_475 hd_X6_copyRow (Nat.le_of_ble_eq_true rfl) hx hb hml hown hg hK hW (As := [.ref (ad G (o1 + 4)), .ref (ad G (o0 + 4))]) (c_X6_copyRow l G (k2_4 h1) (k2_4 h0) M6 hx7) (by decide) rfl hl.1 rfl (Nat.le_of_ble_eq_true rfl) dX2_become_41) hW (fun H locs hW => ?_)
  refine lv_aload_n hx hb dX2_become_44 rfl (lv_at hl 0 rfl) ?_
  refine lv_aload_n hx hb dX2_become_45 rfl (lv_at hl 1 rfl) ?_
  refine gt_X2_24 hx hb hg hown hK hW h1 dX2_become_46 ?_
  replace hk := lq_s hk
  obtain ⟨M9, eM9, hk⟩ := hk
  refine pt_X2_24 hx hb hg hown hK hW h0 eM9 dX2_become_49 (fun H locs hW => ?_)
  refine lv_aload_n hx hb dX2_become_52 rfl (lv_at hl 0 rfl) ?_
  refine gt_X2_31 hx hb hg hown hK hW h0 dX2_become_53 ?_
  refine lv_aload_n hx hb dX2_become_56 rfl (lv_at hl 1 rfl) ?_
  refine gt_X2_31 hx hb hg hown hK hW h1 dX2_become_57 ?_
  replace hk := ob_s hk
  obtain ⟨M11, hx10, hk⟩ := hk
  refine cl_v (rn_VN n_476 g_478 gs_24 g_3 g_479 hd_X1_become (Nat.le_of_ble_eq_true rfl) (ci := 1) rfl (inC (k2_5 h0) rfl) (shp1 (k2_5 h0)) hx hb hml hown hg hK hW (As := [.ref (ad G (o1 + 5))]) (c_X1_become l G (k2_5 h0) (k2_5 h1) M9 hx10) (by decide) rfl hl.1 rfl (Nat.le_of_ble_eq_true rfl) dX2_become_60) hW (fun H locs hW => ?_)
  refine lv_iconst (v := (0 : Int32)) hx hb dX2_become_63 (by decide) ?_
  refine lv_istore_n (lv' := [(2, .int (0 : Int32)), (0, .ref (ad G o0)), (1, .ref (ad G o1))]) hx hb dX2_become_64 rfl hl (by decide) rfl (fun ls hl => ?_)
  replace hk := ob2_s hk
  obtain ⟨x14, M15, hz35, hk⟩ := hk
  have KX65 : ∀ (H : Heap) (locs : List Loc) (ls : Array Slot), Ws G true M15 s H locs → lv_has ls 3 [(0, .ref (ad G o0)), (1, .ref (ad G o1))] → Wx p l e 2 s m args below meth c Q H locs 90 ls [] := by
    intro H locs ls hW hl
    refine lv_aload_n hx hb dX2_become_90 rfl (lv_at hl 0 rfl) ?_
    refine lv_aload_n hx hb dX2_become_91 rfl (lv_at hl 1 rfl) ?_
    refine gt_X2_39 hx hb hg hown hK hW h1 dX2_become_92 ?_
    replace hk := lq_s hk
    obtain ⟨M22, eM22, hk⟩ := hk
    refine pt_X2_39 hx hb hg hown hK hW h0 eM22 dX2_become_95 (fun H locs hW => ?_)
    refine lv_aload_n hx hb dX2_become_98 rfl (lv_at hl 0 rfl) ?_
    refine lv_aload_n hx hb dX2_become_99 rfl (lv_at hl 1 rfl) ?_
    refine gt_X2_42 hx hb hg hown hK hW h1 dX2_become_100 ?_
    replace hk := lq_s hk
    obtain ⟨M23, eM23, hk⟩ := hk
    refine pt_X2_42 hx hb hg hown hK hW h0 eM23 dX2_become_103 (fun H locs hW => ?_)
    refine lv_aload_n hx hb dX2_become_106 rfl (lv_at hl 1 rfl) ?_
    refine gt_X2_45 hx hb hg hown hK hW h1 dX2_become_107 ?_
    refine lv_aload_n hx hb dX2_become_110 rfl (lv_at hl 0 rfl) ?_
    refine gt_X2_45 hx hb hg hown hK hW h0 dX2_become_111 ?_
    replace hk := ob_s hk
    obtain ⟨M25, hx24, hk⟩ := hk
    refine cl_v (rn_SN n_473 g_474 g_1 g_475 hd_X6_copyRow (Nat.le_of_ble_eq_true rfl) hx hb hml hown hg hK hW (As := [.ref (ad G (o1 + 33)), .ref (ad G (o0 + 33))]) (c_X6_copyRow l G (k2_33 h1) (k2_33 h0) M23 hx24) (by decide) rfl hl.1 rfl (Nat.le_of_ble_eq_true rfl) dX2_become_114) hW (fun H locs hW => ?_)
    refine lv_aload_n hx hb dX2_become_117 rfl (lv_at hl 1 rfl) ?_
    refine gt_X2_48 hx hb hg hown hK hW h1 dX2_become_118 ?_
    refine lv_aload_n hx hb dX2_become_121 rfl (lv_at hl 0 rfl) ?_
    refine gt_X2_48 hx hb hg hown hK hW h0 dX2_become_122 ?_
    replace hk := ob_s hk
    obtain ⟨M27, hx26, hk⟩ := hk
    refine cl_v (rn_SN n_473 g_474 g_1 g_475 hd_X6_copyRow (Nat.le_of_ble_eq_true rfl) hx hb hml hown hg hK hW (As := [.ref (ad G (o1 + 34)), .ref (ad G (o0 + 34))]) (c_X6_copyRow l G (k2_34 h1) (k2_34 h0) M25 hx26) (by decide) rfl hl.1 rfl (Nat.le_of_ble_eq_true rfl) dX2_become_125) hW (fun H locs hW => ?_)
    refine lv_aload_n hx hb dX2_become_128 rfl (lv_at hl 0 rfl) ?_
    refine lv_aload_n hx hb dX2_become_129 rfl (lv_at hl 1 rfl) ?_
    refine gt_X2_51 hx hb hg hown hK hW h1 dX2_become_130 ?_
    replace hk := lq_s hk
    obtain ⟨M28, eM28, hk⟩ := hk
    refine pt_X2_51 hx hb hg hown hK hW h0 eM28 dX2_become_133 (fun H locs hW => ?_)
    refine lv_aload_n hx hb dX2_become_136 rfl (lv_at hl 0 rfl) ?_
    refine gt_X2_59 hx hb hg hown hK hW h0 dX2_become_137 ?_
    refine lv_aload_n hx hb dX2_become_140 rfl (lv_at hl 1 rfl) ?_
    refine gt_X2_59 hx hb hg hown hK hW h1 dX2_become_141 ?_
    replace hk := ob_s hk
    obtain ⟨M30, hx29, hk⟩ := hk
    refine cl_v (rn_VN n_485 g_487 gs_26 g_4 g_488 hd_X5_become (Nat.le_of_ble_eq_true rfl) (ci := 5) rfl (inC (k2_35 h0) rfl) (shp5 (k2_35 h0)) hx hb hml hown hg hK hW (As := [.ref (ad G (o1 + 35))]) (c_X5_become l G (k2_35 h0) (k2_35 h1) M28 hx29) (by decide) rfl hl.1 rfl (Nat.le_of_ble_eq_true rfl) dX2_become_144) hW (fun H locs hW => ?_)
    refine lv_aload_n hx hb dX2_become_147 rfl (lv_at hl 0 rfl) ?_
    refine gt_X2_63 hx hb hg hown hK hW h0 dX2_become_148 ?_
    refine lv_aload_n hx hb dX2_become_151 rfl (lv_at hl 1 rfl) ?_
    refine gt_X2_63 hx hb hg hown hK hW h1 dX2_become_152 ?_
    replace hk := ob_s hk
    obtain ⟨M32, hx31, hk⟩ := hk
    refine cl_v (rn_VN n_485 g_487 gs_26 g_4 g_488 hd_X5_become (Nat.le_of_ble_eq_true rfl) (ci := 5) rfl (inC (k2_37 h0) rfl) (shp5 (k2_37 h0)) hx hb hml hown hg hK hW (As := [.ref (ad G (o1 + 37))]) (c_X5_become l G (k2_37 h0) (k2_37 h1) M30 hx31) (by decide) rfl hl.1 rfl (Nat.le_of_ble_eq_true rfl) dX2_become_155) hW (fun H locs hW => ?_)
    refine lv_aload_n hx hb dX2_become_158 rfl (lv_at hl 0 rfl) ?_
    refine gt_X2_66 hx hb hg hown hK hW h0 dX2_become_159 ?_
    refine lv_aload_n hx hb dX2_become_162 rfl (lv_at hl 1 rfl) ?_
    refine gt_X2_66 hx hb hg hown hK hW h1 dX2_become_163 ?_
    replace hk := ob_s hk
    obtain ⟨M34, hx33, hk⟩ := hk
    refine cl_v (rn_VN n_485 g_487 gs_26 g_4 g_488 hd_X5_become (Nat.le_of_ble_eq_true rfl) (ci := 5) rfl (inC (k2_39 h0) rfl) (shp5 (k2_39 h0)) hx hb hml hown hg hK hW (As := [.ref (ad G (o1 + 39))]) (c_X5_become l G (k2_39 h0) (k2_39 h1) M32 hx33) (by decide) rfl hl.1 rfl (Nat.le_of_ble_eq_true rfl) dX2_become_166) hW (fun H locs hW => ?_)
    obtain rfl := Option.some.inj hk
    exact hret _ _ _ _ hW dX2_become_169
  clear hk
  have LH65 : ∀ (n : Nat) (x12 : Int32) (M13 : Mem) (H : Heap) (locs : List Loc) (ls : Array Slot), f_X2_become_L65 o0 o1 n x12 M13 = some (x14, M15) → Ws G true M13 s H locs → lv_has ls 3 [(0, .ref (ad G o0)), (1, .ref (ad G o1)), (2, .int x12)] → Wx p l e 2 s m args below meth c Q H locs 65 ls [] := by
    clear hz35
    intro n
    induction n with
    | zero => intro _ _ _ _ _ hk; cases hk
    | succ n ih65 =>
      intro x12 M13 H locs ls hk hW hl
      rw [f_X2_become_L65.eq_2] at hk
      refine lv_iload_n hx hb dX2_become_65 rfl (lv_at hl 2 rfl) ?_
      refine lv_bipush (v := (8 : Int32)) hx hb dX2_become_66 (by decide) ?_
      refine lv_icmp_ge (tgt := 90) hx hb dX2_become_68 (by decide) (fun c21 => ?_) (fun c21 => ?_)
      · replace hk := ite_t hk c21
        obtain ⟨rfl, rfl⟩ := sp2 hk
        exact KX65 _ _ _ hW (lv_sub hl [0, 1] rfl)
      · replace hk := ite_f hk c21
        refine lv_aload_n hx hb dX2_become_71 rfl (lv_at hl 0 rfl) ?_
        refine lv_iload_n hx hb dX2_become_72 rfl (lv_at hl 2 rfl) ?_
        replace hk := ob_s hk
        obtain ⟨q16, hq16, hk⟩ := hk
        refine cl_r (rn_V g_481 g_483 gs_25 g_2 g_484 hd_X2_pastAt (Nat.le_of_ble_eq_true rfl) (ci := 2) rfl (inC h0 rfl) (shp2 h0) hx hb hml hown hg hK hW (As := [.int x12]) (c_X2_pastAt l G h0 x12 M13 hq16) (by decide) rfl hl.1 rfl (Nat.le_of_ble_eq_true rfl) dX2_become_73) hW (fun H locs hW => ?_)
        refine lv_aload_n hx hb dX2_become_76 rfl (lv_at hl 1 rfl) ?_
        refine lv_iload_n hx hb dX2_become_77 rfl (lv_at hl 2 rfl) ?_
        replace hk := ob_s hk
        obtain ⟨q17, hq17, hk⟩ := hk
        refine cl_r (rn_V g_481 g_483 gs_25 g_2 g_484 hd_X2_pastAt (Nat.le_of_ble_eq_true rfl) (ci := 2) rfl (inC h1 rfl) (shp2 h1) hx hb hml hown hg hK hW (As := [.int x12]) (c_X2_pastAt l G h1 x12 M13 hq17) (by decide) rfl hl.1 rfl (Nat.le_of_ble_eq_true rfl) dX2_become_78) hW (fun H locs hW => ?_)
        replace hk := ob_s hk
        obtain ⟨M19, hx18, hk⟩ := hk
        refine cl_v (rn_VN n_476 g_478 gs_24 g_3 g_479 hd_X1_become (Nat.le_of_ble_eq_true rfl) (ci := 1) rfl (inC (fk_X2_pastAt h0 hq16) rfl) (shp1 (fk_X2_pastAt h0 hq16)) hx hb hml hown hg hK hW (As := [.ref (ad G q17)]) (c_X1_become l G (fk_X2_pastAt h0 hq16) (fk_X2_pastAt h1 hq17) M13 hx18) (by decide) rfl hl.1 rfl (Nat.le_of_ble_eq_true rfl) dX2_become_81) hW (fun H locs hW => ?_)
        replace hk := lq_s hk
        obtain ⟨x20, ex20, hk⟩ := hk
        refine lv_iinc (v := x20) (lv' := [(2, .int x20), (0, .ref (ad G o0)), (1, .ref (ad G o1))]) hx hb dX2_become_84 hl (k := 2) rfl (by rw [ex20]; rfl) (by decide) rfl (fun ls hl => ?_)
        refine lv_goto (tgt := 65) hx hb dX2_become_87 (by decide) ?_
        exact ih65 _ _ _ _ _ hk hW (lv_sub hl [1, 2, 0] rfl)
  exact LH65 FU _ _ _ _ _ hz35 hW (lv_sub hl [1, 2, 0] rfl)
def f_X2_add (o0 : Nat) (a1 : Int32) (a2 : Int32) (a3 : Int32) (a4 : Int32) (a5 : Int32) (M : Mem) : Option (Int32 × Mem) :=
  lq (M.1 o0 4) (fun x1 =>
  ob (f_X6_put (o0 + 1) x1 a1 M) (fun M3 =>
  ob (f_X6_put (o0 + 2) x1 a2 M3) (fun M5 =>
  ob (f_X6_put (o0 + 3) x1 a3 M5) (fun M7 =>
  ob (f_X6_put (o0 + 4) x1 a4 M7) (fun M9 =>
  ob (f_X6_put ((o0 + 5) + 1) x1 a5 M9) (fun M11 =>
  ob (f_X6_put ((o0 + 5) + 2) x1 (0 : Int32) M11) (fun M13 =>
  lq (s1 M13 o0 4 ((M13.1 o0 4) + (1 : Int32))) (fun M14 =>
  lq (s1 M14 o0 8 (0 : Int32)) (fun M15 =>
  some (x1, M15))))))))))
set_option maxHeartbeats 4000000 in
set_option maxRecDepth 100000 in
theorem c_X2_add (l : Launch) (G : GT) {o0 : Nat} (h0 : kd o0 = 2) (a1 : Int32) (a2 : Int32) (a3 : Int32) (a4 : Int32) (a5 : Int32) (M : Mem) {r : Int32} {M' : Mem} (hk : f_X2_add o0 a1 a2 a3 a4 a5 M = some (r, M')) : CMi l G true yX2_add cX2_add 7 (some .int) 1 [.ref (ad G o0), .int a1, .int a2, .int a3, .int a4, .int a5] M r M' := by
  unfold f_X2_add at hk
  refine CMi.of (by decide) (Nat.le_of_ble_eq_true rfl) ?_
  intro p e s m args below meth c Q hx hb hml hown hg hK hW hret ls hl
  have hl : lv_has ls 7 [(0, .ref (ad G o0)), (1, .int a1), (2, .int a2), (3, .int a3), (4, .int a4), (5, .int a5)] := hl
  refine lv_aload_n hx hb dX2_add_0 rfl (lv_at hl 0 rfl) ?_
  refine gt_X2_24 hx hb hg hown hK hW h0 dX2_add_1 ?_
  replace hk := lq_s hk
  obtain ⟨x1, ex1, hk⟩ := hk
  refine nm_i ex1 ?_
  refine lv_istore (lv' := [(6, .int x1), (0, .ref (ad G o0)), (1, .int a1), (2, .int a2), (3, .int a3), (4, .int a4), (5, .int a5)]) hx hb dX2_add_4 hl (by decide) rfl (fun ls hl => ?_)
  refine lv_aload_n hx hb dX2_add_6 rfl (lv_at hl 1 rfl) ?_
  refine gt_X2_9 hx hb hg hown hK hW h0 dX2_add_7 ?_
  refine lv_iload hx hb dX2_add_10 (lv_at hl 0 rfl) ?_
  refine lv_iload_n hx hb dX2_add_12 rfl (lv_at hl 2 rfl) ?_
  replace hk := ob_s hk
  obtain ⟨M3, hx2, hk⟩ := hk
  refine cl_v (rn_SN n_293 g_294 g_1 g_295 hd_X6_put (Nat.le_of_ble_eq_true rfl) hx hb hml hown hg hK hW (As := [.ref (ad G (o0 + 1)), .int x1, .int a1]) (c_X6_put l G (k2_1 h0) x1 a1 M hx2) (by decide) rfl hl.1 rfl (Nat.le_of_ble_eq_true rfl) dX2_add_13) hW (fun H locs hW => ?_)
  refine lv_aload_n hx hb dX2_add_16 rfl (lv_at hl 1 rfl) ?_
  refine gt_X2_15 hx hb hg hown hK hW h0 dX2_add_17 ?_
  refine lv_iload hx hb dX2_add_20 (lv_at hl 0 rfl) ?_
  refine lv_iload_n hx hb dX2_add_22 rfl (lv_at hl 3 rfl) ?_
  replace hk := ob_s hk
  obtain ⟨M5, hx4, hk⟩ := hk
  refine cl_v (rn_SN n_293 g_294 g_1 g_295 hd_X6_put (Nat.le_of_ble_eq_true rfl) hx hb hml hown hg hK hW (As := [.ref (ad G (o0 + 2)), .int x1, .int a2]) (c_X6_put l G (k2_2 h0) x1 a2 M3 hx4) (by decide) rfl hl.1 rfl (Nat.le_of_ble_eq_true rfl) dX2_add_23) hW (fun H locs hW => ?_)
  refine lv_aload_n hx hb dX2_add_26 rfl (lv_at hl 1 rfl) ?_
  refine gt_X2_18 hx hb hg hown hK hW h0 dX2_add_27 ?_
  refine lv_iload hx hb dX2_add_30 (lv_at hl 0 rfl) ?_
  refine lv_iload_n hx hb dX2_add_32 rfl (lv_at hl 4 rfl) ?_
  replace hk := ob_s hk
  obtain ⟨M7, hx6, hk⟩ := hk
  refine cl_v (rn_SN n_293 g_294 g_1 g_295 hd_X6_put (Nat.le_of_ble_eq_true rfl) hx hb hml hown hg hK hW (As := [.ref (ad G (o0 + 3)), .int x1, .int a3]) (c_X6_put l G (k2_3 h0) x1 a3 M5 hx6) (by decide) rfl hl.1 rfl (Nat.le_of_ble_eq_true rfl) dX2_add_33) hW (fun H locs hW => ?_)
  refine lv_aload_n hx hb dX2_add_36 rfl (lv_at hl 1 rfl) ?_
  refine gt_X2_21 hx hb hg hown hK hW h0 dX2_add_37 ?_
  refine lv_iload hx hb dX2_add_40 (lv_at hl 0 rfl) ?_
  refine lv_iload hx hb dX2_add_42 (lv_at hl 5 rfl) ?_
  replace hk := ob_s hk
  obtain ⟨M9, hx8, hk⟩ := hk
  refine cl_v (rn_SN n_293 g_294 g_1 g_295 hd_X6_put (Nat.le_of_ble_eq_true rfl) hx hb hml hown hg hK hW (As := [.ref (ad G (o0 + 4)), .int x1, .int a4]) (c_X6_put l G (k2_4 h0) x1 a4 M7 hx8) (by decide) rfl hl.1 rfl (Nat.le_of_ble_eq_true rfl) dX2_add_44) hW (fun H locs hW => ?_)
  refine lv_aload_n hx hb dX2_add_47 rfl (lv_at hl 1 rfl) ?_
  refine gt_X2_31 hx hb hg hown hK hW h0 dX2_add_48 ?_
  refine gt_X2_96 hx hb hg hown hK hW (k2_5 h0) dX2_add_51 ?_
  refine lv_iload hx hb dX2_add_54 (lv_at hl 0 rfl) ?_
  refine lv_iload hx hb dX2_add_56 (lv_at hl 6 rfl) ?_
  replace hk := ob_s hk
  obtain ⟨M11, hx10, hk⟩ := hk
  refine cl_v (rn_SN n_293 g_294 g_1 g_295 hd_X6_put (Nat.le_of_ble_eq_true rfl) hx hb hml hown hg hK hW (As := [.ref (ad G ((o0 + 5) + 1)), .int x1, .int a5]) (c_X6_put l G (k1_1 (k2_5 h0)) x1 a5 M9 hx10) (by decide) rfl hl.1 rfl (Nat.le_of_ble_eq_true rfl) dX2_add_58) hW (fun H locs hW => ?_)
  refine lv_aload_n hx hb dX2_add_61 rfl (lv_at hl 1 rfl) ?_
  refine gt_X2_31 hx hb hg hown hK hW h0 dX2_add_62 ?_
  refine gt_X2_99 hx hb hg hown hK hW (k2_5 h0) dX2_add_65 ?_
  refine lv_iload hx hb dX2_add_68 (lv_at hl 0 rfl) ?_
  refine lv_iconst (v := (0 : Int32)) hx hb dX2_add_70 (by decide) ?_
  replace hk := ob_s hk
  obtain ⟨M13, hx12, hk⟩ := hk
  refine cl_v (rn_SN n_293 g_294 g_1 g_295 hd_X6_put (Nat.le_of_ble_eq_true rfl) hx hb hml hown hg hK hW (As := [.ref (ad G ((o0 + 5) + 2)), .int x1, .int (0 : Int32)]) (c_X6_put l G (k1_2 (k2_5 h0)) x1 (0 : Int32) M11 hx12) (by decide) rfl hl.1 rfl (Nat.le_of_ble_eq_true rfl) dX2_add_71) hW (fun H locs hW => ?_)
  refine lv_aload_n hx hb dX2_add_74 rfl (lv_at hl 1 rfl) ?_
  refine lv_dup hx hb dX2_add_75 rfl ?_
  refine gt_X2_24 hx hb hg hown hK hW h0 dX2_add_76 ?_
  refine lv_iconst (v := (1 : Int32)) hx hb dX2_add_79 (by decide) ?_
  refine lv_iadd hx hb dX2_add_80 ?_
  replace hk := lq_s hk
  obtain ⟨M14, eM14, hk⟩ := hk
  refine pt_X2_24 hx hb hg hown hK hW h0 eM14 dX2_add_81 (fun H locs hW => ?_)
  refine lv_aload_n hx hb dX2_add_84 rfl (lv_at hl 1 rfl) ?_
  refine lv_iconst (v := (0 : Int32)) hx hb dX2_add_85 (by decide) ?_
  replace hk := lq_s hk
  obtain ⟨M15, eM15, hk⟩ := hk
  refine pt_X2_42 hx hb hg hown hK hW h0 eM15 dX2_add_86 (fun H locs hW => ?_)
  refine lv_iload hx hb dX2_add_89 (lv_at hl 0 rfl) ?_
  obtain ⟨rfl, rfl⟩ := sp2 hk
  exact hret _ _ _ _ hW dX2_add_91
def f_X2_holeOf (o0 : Nat) (a1 : Int32) (M : Mem) : Option (Int32) :=
  ob (f_X6_cell ((o0 + 5) + 1) a1 M) (fun x1 =>
  some x1)
set_option maxHeartbeats 4000000 in
set_option maxRecDepth 100000 in
theorem c_X2_holeOf (l : Launch) (G : GT) {o0 : Nat} (h0 : kd o0 = 2) (a1 : Int32) (M : Mem) {r : Int32} (hk : f_X2_holeOf o0 a1 M = some r) : CMi l G true yX2_holeOf cX2_holeOf 2 (some .int) 1 [.ref (ad G o0), .int a1] M r M := by
  unfold f_X2_holeOf at hk
  refine CMi.of (by decide) (Nat.le_of_ble_eq_true rfl) ?_
  intro p e s m args below meth c Q hx hb hml hown hg hK hW hret ls hl
  have hl : lv_has ls 2 [(0, .ref (ad G o0)), (1, .int a1)] := hl
  refine lv_aload_n hx hb dX2_holeOf_0 rfl (lv_at hl 0 rfl) ?_
  refine gt_X2_31 hx hb hg hown hK hW h0 dX2_holeOf_1 ?_
  refine gt_X2_96 hx hb hg hown hK hW (k2_5 h0) dX2_holeOf_4 ?_
  refine lv_iload_n hx hb dX2_holeOf_7 rfl (lv_at hl 1 rfl) ?_
  replace hk := ob_s hk
  obtain ⟨x1, hx1, hk⟩ := hk
  refine cl_i (rn_SN n_444 g_346 g_1 g_347 hd_X6_cell (Nat.le_of_ble_eq_true rfl) hx hb hml hown hg hK hW (As := [.ref (ad G ((o0 + 5) + 1)), .int a1]) (c_X6_cell l G (k1_1 (k2_5 h0)) a1 M hx1) (by decide) rfl hl.1 rfl (Nat.le_of_ble_eq_true rfl) dX2_holeOf_8) hW (fun H locs hW => ?_)
  obtain rfl := Option.some.inj hk
  exact hret _ _ _ _ hW dX2_holeOf_11
def f_X2_wornOf (o0 : Nat) (a1 : Int32) (M : Mem) : Option (Int32) :=
  ob (f_X6_cell ((o0 + 5) + 2) a1 M) (fun x1 =>
  some x1)
set_option maxHeartbeats 4000000 in
set_option maxRecDepth 100000 in
theorem c_X2_wornOf (l : Launch) (G : GT) {o0 : Nat} (h0 : kd o0 = 2) (a1 : Int32) (M : Mem) {r : Int32} (hk : f_X2_wornOf o0 a1 M = some r) : CMi l G true yX2_wornOf cX2_wornOf 2 (some .int) 1 [.ref (ad G o0), .int a1] M r M := by
  unfold f_X2_wornOf at hk
  refine CMi.of (by decide) (Nat.le_of_ble_eq_true rfl) ?_
  intro p e s m args below meth c Q hx hb hml hown hg hK hW hret ls hl
  have hl : lv_has ls 2 [(0, .ref (ad G o0)), (1, .int a1)] := hl
  refine lv_aload_n hx hb dX2_wornOf_0 rfl (lv_at hl 0 rfl) ?_
  refine gt_X2_31 hx hb hg hown hK hW h0 dX2_wornOf_1 ?_
  refine gt_X2_99 hx hb hg hown hK hW (k2_5 h0) dX2_wornOf_4 ?_
  refine lv_iload_n hx hb dX2_wornOf_7 rfl (lv_at hl 1 rfl) ?_
  replace hk := ob_s hk
  obtain ⟨x1, hx1, hk⟩ := hk
  refine cl_i (rn_SN n_444 g_346 g_1 g_347 hd_X6_cell (Nat.le_of_ble_eq_true rfl) hx hb hml hown hg hK hW (As := [.ref (ad G ((o0 + 5) + 2)), .int a1]) (c_X6_cell l G (k1_2 (k2_5 h0)) a1 M hx1) (by decide) rfl hl.1 rfl (Nat.le_of_ble_eq_true rfl) dX2_wornOf_8) hW (fun H locs hW => ?_)
  obtain rfl := Option.some.inj hk
  exact hret _ _ _ _ hW dX2_wornOf_11
def f_X2_snappedIn_L4 (o0 : Nat) (o1 : Nat) (M : Mem) : Nat → Int32 → Int32 → Option (Int32)
  | 0, _, _ => none
  | n + 1, x1, x2 =>
    if (M.1 o0 4) ≤ x2 then (
      some x1)
    else (
      ob (f_X6_cell (o1 + 2) x2 M) (fun x4 =>
      lq (
        if (f_X6_isSnapped x4) = (0 : Int32) then (
          x1)
        else (
          lq (x1 + (1 : Int32)) (fun x6 =>
          x6)))
       (fun x8 =>
      lq (x2 + (1 : Int32)) (fun x9 =>
      f_X2_snappedIn_L4 o0 o1 M n x8 x9))))
def f_X2_snappedIn (o0 : Nat) (o1 : Nat) (M : Mem) : Option (Int32) :=
  ob (f_X2_snappedIn_L4 o0 o1 M FU (0 : Int32) (0 : Int32)) (fun x3 =>
  some x3)
set_option maxHeartbeats 4000000 in
set_option maxRecDepth 100000 in
theorem c_X2_snappedIn (l : Launch) (G : GT) {o0 : Nat} (h0 : kd o0 = 2) {o1 : Nat} (h1 : kd o1 = 1) (M : Mem) {r : Int32} (hk : f_X2_snappedIn o0 o1 M = some r) : CMi l G true yX2_snappedIn cX2_snappedIn 4 (some .int) 1 [.ref (ad G o0), .ref (ad G o1)] M r M := by
  unfold f_X2_snappedIn at hk
  refine CMi.of (by decide) (Nat.le_of_ble_eq_true rfl) ?_
  intro p e s m args below meth c Q hx hb hml hown hg hK hW hret ls hl
  have hl : lv_has ls 4 [(0, .ref (ad G o0)), (1, .ref (ad G o1))] := hl
  refine lv_iconst (v := (0 : Int32)) hx hb dX2_snappedIn_0 (by decide) ?_
  refine lv_istore_n (lv' := [(2, .int (0 : Int32)), (0, .ref (ad G o0)), (1, .ref (ad G o1))]) hx hb dX2_snappedIn_1 rfl hl (by decide) rfl (fun ls hl => ?_)
  refine lv_iconst (v := (0 : Int32)) hx hb dX2_snappedIn_2 (by decide) ?_
  refine lv_istore_n (lv' := [(3, .int (0 : Int32)), (2, .int (0 : Int32)), (0, .ref (ad G o0)), (1, .ref (ad G o1))]) hx hb dX2_snappedIn_3 rfl hl (by decide) rfl (fun ls hl => ?_)
  replace hk := ob_s hk
  obtain ⟨x3, hz13, hk⟩ := hk
  have KX4 : ∀ (H : Heap) (locs : List Loc) (ls : Array Slot), Ws G true M s H locs → lv_has ls 4 [(2, .int x3)] → Wx p l e 1 s m args below meth c Q H locs 35 ls [] := by
    intro H locs ls hW hl
    refine lv_iload_n hx hb dX2_snappedIn_35 rfl (lv_at hl 0 rfl) ?_
    obtain rfl := Option.some.inj hk
    exact hret _ _ _ _ hW dX2_snappedIn_36
  clear hk
  have LH4 : ∀ (n : Nat) (x1 : Int32) (x2 : Int32) (H : Heap) (locs : List Loc) (ls : Array Slot), f_X2_snappedIn_L4 o0 o1 M n x1 x2 = some x3 → Ws G true M s H locs → lv_has ls 4 [(0, .ref (ad G o0)), (1, .ref (ad G o1)), (2, .int x1), (3, .int x2)] → Wx p l e 1 s m args below meth c Q H locs 4 ls [] := by
    clear hz13
    intro n
    induction n with
    | zero => intro _ _ _ _ _ hk; cases hk
    | succ n ih4 =>
      intro x1 x2 H locs ls hk hW hl
      rw [f_X2_snappedIn_L4.eq_2] at hk
      refine lv_iload_n hx hb dX2_snappedIn_4 rfl (lv_at hl 3 rfl) ?_
      refine lv_aload_n hx hb dX2_snappedIn_5 rfl (lv_at hl 0 rfl) ?_
      refine gt_X2_24 hx hb hg hown hK hW h0 dX2_snappedIn_6 ?_
      refine lv_icmp_ge (tgt := 35) hx hb dX2_snappedIn_9 (by decide) (fun c12 => ?_) (fun c12 => ?_)
      · replace hk := ite_t hk c12
        obtain rfl := Option.some.inj hk
        exact KX4 _ _ _ hW (lv_sub hl [2] rfl)
      · replace hk := ite_f hk c12
        refine lv_aload_n hx hb dX2_snappedIn_12 rfl (lv_at hl 1 rfl) ?_
        refine gt_X2_99 hx hb hg hown hK hW h1 dX2_snappedIn_13 ?_
        refine lv_iload_n hx hb dX2_snappedIn_16 rfl (lv_at hl 3 rfl) ?_
        replace hk := ob_s hk
        obtain ⟨x4, hx4, hk⟩ := hk
        refine cl_i (rn_SN n_444 g_346 g_1 g_347 hd_X6_cell (Nat.le_of_ble_eq_true rfl) hx hb hml hown hg hK hW (As := [.ref (ad G (o1 + 2)), .int x2]) (c_X6_cell l G (k1_2 h1) x2 M hx4) (by decide) rfl hl.1 rfl (Nat.le_of_ble_eq_true rfl) dX2_snappedIn_17) hW (fun H locs hW => ?_)
        refine cl_i (rn_SN n_509 g_462 g_1 g_463 hd_X6_isSnapped (Nat.le_of_ble_eq_true rfl) hx hb hml hown hg hK hW (As := [.int x4]) (c_X6_isSnapped l G x4 M) (by decide) rfl hl.1 rfl (Nat.le_of_ble_eq_true rfl) dX2_snappedIn_20) hW (fun H locs hW => ?_)
        replace hk := lq_s hk
        obtain ⟨x8, hr11, hk⟩ := hk
        have KJ10 : ∀ (H : Heap) (locs : List Loc) (ls : Array Slot), Ws G true M s H locs → lv_has ls 4 [(0, .ref (ad G o0)), (1, .ref (ad G o1)), (2, .int x8), (3, .int x2)] → Wx p l e 1 s m args below meth c Q H locs 29 ls [] := by
          intro H locs ls hW hl
          replace hk := lq_s hk
          obtain ⟨x9, ex9, hk⟩ := hk
          refine lv_iinc (v := x9) (lv' := [(3, .int x9), (0, .ref (ad G o0)), (1, .ref (ad G o1)), (2, .int x8)]) hx hb dX2_snappedIn_29 hl (k := 3) rfl (by rw [ex9]; rfl) (by decide) rfl (fun ls hl => ?_)
          refine lv_goto (tgt := 4) hx hb dX2_snappedIn_32 (by decide) ?_
          exact ih4 _ _ _ _ _ hk hW (lv_sub hl [1, 2, 3, 0] rfl)
        clear hk
        have hk := hr11.symm
        clear hr11
        refine lv_if_eq (tgt := 29) hx hb dX2_snappedIn_23 (by decide) (fun c7 => ?_) (fun c7 => ?_)
        · replace hk := ite_t hk c7
          subst hk
          exact KJ10 _ _ _ hW (lv_sub hl [0, 1, 2, 3] rfl)
        · replace hk := ite_f hk c7
          replace hk := lq_s hk
          obtain ⟨x6, ex6, hk⟩ := hk
          refine lv_iinc (v := x6) (lv' := [(2, .int x6), (0, .ref (ad G o0)), (1, .ref (ad G o1)), (3, .int x2)]) hx hb dX2_snappedIn_26 hl (k := 2) rfl (by rw [ex6]; rfl) (by decide) rfl (fun ls hl => ?_)
          subst hk
          exact KJ10 _ _ _ hW (lv_sub hl [1, 2, 0, 3] rfl)
  exact LH4 FU _ _ _ _ _ hz13 hW (lv_sub hl [2, 3, 1, 0] rfl)
def f_X2_wornTogether_L4 (o0 : Nat) (M : Mem) : Nat → Int32 → Int32 → Option (Int32)
  | 0, _, _ => none
  | n + 1, x1, x2 =>
    if (M.1 o0 4) ≤ x2 then (
      some x1)
    else (
      ob (f_X2_wornOf o0 x2 M) (fun x4 =>
      lq (x1 + x4) (fun x5 =>
      lq (x2 + (1 : Int32)) (fun x6 =>
      f_X2_wornTogether_L4 o0 M n x5 x6))))
def f_X2_wornTogether (o0 : Nat) (M : Mem) : Option (Int32) :=
  ob (f_X2_wornTogether_L4 o0 M FU (0 : Int32) (0 : Int32)) (fun x3 =>
  some x3)
set_option maxHeartbeats 4000000 in
set_option maxRecDepth 100000 in
theorem c_X2_wornTogether (l : Launch) (G : GT) {o0 : Nat} (h0 : kd o0 = 2) (M : Mem) {r : Int32} (hk : f_X2_wornTogether o0 M = some r) : CMi l G true yX2_wornTogether cX2_wornTogether 3 (some .int) 2 [.ref (ad G o0)] M r M := by
  unfold f_X2_wornTogether at hk
  refine CMi.of (by decide) (Nat.le_of_ble_eq_true rfl) ?_
  intro p e s m args below meth c Q hx hb hml hown hg hK hW hret ls hl
  have hl : lv_has ls 3 [(0, .ref (ad G o0))] := hl
  refine lv_iconst (v := (0 : Int32)) hx hb dX2_wornTogether_0 (by decide) ?_
  refine lv_istore_n (lv' := [(1, .int (0 : Int32)), (0, .ref (ad G o0))]) hx hb dX2_wornTogether_1 rfl hl (by decide) rfl (fun ls hl => ?_)
  refine lv_iconst (v := (0 : Int32)) hx hb dX2_wornTogether_2 (by decide) ?_
  refine lv_istore_n (lv' := [(2, .int (0 : Int32)), (1, .int (0 : Int32)), (0, .ref (ad G o0))]) hx hb dX2_wornTogether_3 rfl hl (by decide) rfl (fun ls hl => ?_)
  replace hk := ob_s hk
  obtain ⟨x3, hz8, hk⟩ := hk
  have KX4 : ∀ (H : Heap) (locs : List Loc) (ls : Array Slot), Ws G true M s H locs → lv_has ls 3 [(1, .int x3)] → Wx p l e 2 s m args below meth c Q H locs 26 ls [] := by
    intro H locs ls hW hl
    refine lv_iload_n hx hb dX2_wornTogether_26 rfl (lv_at hl 0 rfl) ?_
    obtain rfl := Option.some.inj hk
    exact hret _ _ _ _ hW dX2_wornTogether_27
  clear hk
  have LH4 : ∀ (n : Nat) (x1 : Int32) (x2 : Int32) (H : Heap) (locs : List Loc) (ls : Array Slot), f_X2_wornTogether_L4 o0 M n x1 x2 = some x3 → Ws G true M s H locs → lv_has ls 3 [(0, .ref (ad G o0)), (1, .int x1), (2, .int x2)] → Wx p l e 2 s m args below meth c Q H locs 4 ls [] := by
    clear hz8
    intro n
    induction n with
    | zero => intro _ _ _ _ _ hk; cases hk
    | succ n ih4 =>
      intro x1 x2 H locs ls hk hW hl
      rw [f_X2_wornTogether_L4.eq_2] at hk
      refine lv_iload_n hx hb dX2_wornTogether_4 rfl (lv_at hl 2 rfl) ?_
      refine lv_aload_n hx hb dX2_wornTogether_5 rfl (lv_at hl 0 rfl) ?_
      refine gt_X2_24 hx hb hg hown hK hW h0 dX2_wornTogether_6 ?_
      refine lv_icmp_ge (tgt := 26) hx hb dX2_wornTogether_9 (by decide) (fun c7 => ?_) (fun c7 => ?_)
      · replace hk := ite_t hk c7
        obtain rfl := Option.some.inj hk
        exact KX4 _ _ _ hW (lv_sub hl [1] rfl)
      · replace hk := ite_f hk c7
        refine lv_iload_n hx hb dX2_wornTogether_12 rfl (lv_at hl 1 rfl) ?_
        refine lv_aload_n hx hb dX2_wornTogether_13 rfl (lv_at hl 0 rfl) ?_
        refine lv_iload_n hx hb dX2_wornTogether_14 rfl (lv_at hl 2 rfl) ?_
        replace hk := ob_s hk
        obtain ⟨x4, hx4, hk⟩ := hk
        refine cl_i (rn_V g_546 g_459 gs_21 g_2 g_460 hd_X2_wornOf (Nat.le_of_ble_eq_true rfl) (ci := 2) rfl (inC h0 rfl) (shp2 h0) hx hb hml hown hg hK hW (As := [.int x2]) (c_X2_wornOf l G h0 x2 M hx4) (by decide) rfl hl.1 rfl (Nat.le_of_ble_eq_true rfl) dX2_wornTogether_15) hW (fun H locs hW => ?_)
        refine lv_iadd hx hb dX2_wornTogether_18 ?_
        replace hk := lq_s hk
        obtain ⟨x5, ex5, hk⟩ := hk
        refine nm_i ex5 ?_
        refine lv_istore_n (lv' := [(1, .int x5), (0, .ref (ad G o0)), (2, .int x2)]) hx hb dX2_wornTogether_19 rfl hl (by decide) rfl (fun ls hl => ?_)
        replace hk := lq_s hk
        obtain ⟨x6, ex6, hk⟩ := hk
        refine lv_iinc (v := x6) (lv' := [(2, .int x6), (1, .int x5), (0, .ref (ad G o0))]) hx hb dX2_wornTogether_20 hl (k := 2) rfl (by rw [ex6]; rfl) (by decide) rfl (fun ls hl => ?_)
        refine lv_goto (tgt := 4) hx hb dX2_wornTogether_23 (by decide) ?_
        exact ih4 _ _ _ _ _ hk hW (lv_sub hl [2, 1, 0] rfl)
  exact LH4 FU _ _ _ _ _ hz8 hW (lv_sub hl [2, 1, 0] rfl)
def f_X2_tellOf (o0 : Nat) (a1 : Int32) (a2 : Int32) (M : Mem) : Option (Int32) :=
  if a2 = (0 : Int32) then (
    ob (f_X6_cell (o0 + 1) a1 M) (fun x1 =>
    some x1))
  else (
  if a2 = (1 : Int32) then (
    ob (f_X6_cell (o0 + 2) a1 M) (fun x2 =>
    some x2))
  else (
  if a2 = (2 : Int32) then (
    ob (f_X2_weightOf o0 a1 M) (fun x3 =>
    some x3))
  else (
  if a2 = (3 : Int32) then (
    ob (f_X6_cell (o0 + 4) a1 M) (fun x4 =>
    some x4))
  else (
  if a2 = (4 : Int32) then (
    ob (f_X2_holeOf o0 a1 M) (fun x5 =>
    some x5))
  else (
  if a2 = (5 : Int32) then (
    ob (f_X2_wornOf o0 a1 M) (fun x6 =>
    some x6))
  else (
  if a2 = (6 : Int32) then (
    ob (f_X2_wornOf o0 a1 M) (fun x7 =>
    if (f_X6_isSnapped x7) = (0 : Int32) then (
      some (0 : Int32))
    else (
      some (1 : Int32))))
  else (
    ob (f_X2_highIn o0 (o0 + 5) a1 M) (fun x10 =>
    some x10))))))))
set_option maxHeartbeats 4000000 in
set_option maxRecDepth 100000 in
theorem c_X2_tellOf (l : Launch) (G : GT) {o0 : Nat} (h0 : kd o0 = 2) (a1 : Int32) (a2 : Int32) (M : Mem) {r : Int32} (hk : f_X2_tellOf o0 a1 a2 M = some r) : CMi l G true yX2_tellOf cX2_tellOf 3 (some .int) 4 [.ref (ad G o0), .int a1, .int a2] M r M := by
  unfold f_X2_tellOf at hk
  refine CMi.of (by decide) (Nat.le_of_ble_eq_true rfl) ?_
  intro p e s m args below meth c Q hx hb hml hown hg hK hW hret ls hl
  have hl : lv_has ls 3 [(0, .ref (ad G o0)), (1, .int a1), (2, .int a2)] := hl
  refine lv_iload_n hx hb dX2_tellOf_0 rfl (lv_at hl 2 rfl) ?_
  by_cases c11 : a2 = (0 : Int32)
  · replace hk := ite_t hk c11
    refine lv_tableIn (tgt := 44) hx hb dX2_tellOf_1 (by rw [c11]; decide) (by rw [c11]; decide) (by rw [c11]; rfl) (by decide) ?_
    refine lv_aload_n hx hb dX2_tellOf_44 rfl (lv_at hl 0 rfl) ?_
    refine gt_X2_9 hx hb hg hown hK hW h0 dX2_tellOf_45 ?_
    refine lv_iload_n hx hb dX2_tellOf_48 rfl (lv_at hl 1 rfl) ?_
    replace hk := ob_s hk
    obtain ⟨x1, hx1, hk⟩ := hk
    refine cl_i (rn_SN n_444 g_346 g_1 g_347 hd_X6_cell (Nat.le_of_ble_eq_true rfl) hx hb hml hown hg hK hW (As := [.ref (ad G (o0 + 1)), .int a1]) (c_X6_cell l G (k2_1 h0) a1 M hx1) (by decide) rfl hl.1 rfl (Nat.le_of_ble_eq_true rfl) dX2_tellOf_49) hW (fun H locs hW => ?_)
    obtain rfl := Option.some.inj hk
    exact hret _ _ _ _ hW dX2_tellOf_52
  replace hk := ite_f hk c11
  have c11_0 := c11
  by_cases c11 : a2 = (1 : Int32)
  · replace hk := ite_t hk c11
    refine lv_tableIn (tgt := 53) hx hb dX2_tellOf_1 (by rw [c11]; decide) (by rw [c11]; decide) (by rw [c11]; rfl) (by decide) ?_
    refine lv_aload_n hx hb dX2_tellOf_53 rfl (lv_at hl 0 rfl) ?_
    refine gt_X2_15 hx hb hg hown hK hW h0 dX2_tellOf_54 ?_
    refine lv_iload_n hx hb dX2_tellOf_57 rfl (lv_at hl 1 rfl) ?_
    replace hk := ob_s hk
    obtain ⟨x2, hx2, hk⟩ := hk
    refine cl_i (rn_SN n_444 g_346 g_1 g_347 hd_X6_cell (Nat.le_of_ble_eq_true rfl) hx hb hml hown hg hK hW (As := [.ref (ad G (o0 + 2)), .int a1]) (c_X6_cell l G (k2_2 h0) a1 M hx2) (by decide) rfl hl.1 rfl (Nat.le_of_ble_eq_true rfl) dX2_tellOf_58) hW (fun H locs hW => ?_)
    obtain rfl := Option.some.inj hk
    exact hret _ _ _ _ hW dX2_tellOf_61
  replace hk := ite_f hk c11
  have c11_1 := c11
  by_cases c11 : a2 = (2 : Int32)
  · replace hk := ite_t hk c11
    refine lv_tableIn (tgt := 62) hx hb dX2_tellOf_1 (by rw [c11]; decide) (by rw [c11]; decide) (by rw [c11]; rfl) (by decide) ?_
    refine lv_aload_n hx hb dX2_tellOf_62 rfl (lv_at hl 0 rfl) ?_
    refine lv_iload_n hx hb dX2_tellOf_63 rfl (lv_at hl 1 rfl) ?_
    replace hk := ob_s hk
    obtain ⟨x3, hx3, hk⟩ := hk
    refine cl_i (rn_V g_445 g_447 gs_19 g_2 g_448 hd_X2_weightOf (Nat.le_of_ble_eq_true rfl) (ci := 2) rfl (inC h0 rfl) (shp2 h0) hx hb hml hown hg hK hW (As := [.int a1]) (c_X2_weightOf l G h0 a1 M hx3) (by decide) rfl hl.1 rfl (Nat.le_of_ble_eq_true rfl) dX2_tellOf_64) hW (fun H locs hW => ?_)
    obtain rfl := Option.some.inj hk
    exact hret _ _ _ _ hW dX2_tellOf_67
  replace hk := ite_f hk c11
  have c11_2 := c11
  by_cases c11 : a2 = (3 : Int32)
  · replace hk := ite_t hk c11
    refine lv_tableIn (tgt := 68) hx hb dX2_tellOf_1 (by rw [c11]; decide) (by rw [c11]; decide) (by rw [c11]; rfl) (by decide) ?_
    refine lv_aload_n hx hb dX2_tellOf_68 rfl (lv_at hl 0 rfl) ?_
    refine gt_X2_21 hx hb hg hown hK hW h0 dX2_tellOf_69 ?_
    refine lv_iload_n hx hb dX2_tellOf_72 rfl (lv_at hl 1 rfl) ?_
    replace hk := ob_s hk
    obtain ⟨x4, hx4, hk⟩ := hk
    refine cl_i (rn_SN n_444 g_346 g_1 g_347 hd_X6_cell (Nat.le_of_ble_eq_true rfl) hx hb hml hown hg hK hW (As := [.ref (ad G (o0 + 4)), .int a1]) (c_X6_cell l G (k2_4 h0) a1 M hx4) (by decide) rfl hl.1 rfl (Nat.le_of_ble_eq_true rfl) dX2_tellOf_73) hW (fun H locs hW => ?_)
    obtain rfl := Option.some.inj hk
    exact hret _ _ _ _ hW dX2_tellOf_76
  replace hk := ite_f hk c11
  have c11_3 := c11
  by_cases c11 : a2 = (4 : Int32)
  · replace hk := ite_t hk c11
    refine lv_tableIn (tgt := 77) hx hb dX2_tellOf_1 (by rw [c11]; decide) (by rw [c11]; decide) (by rw [c11]; rfl) (by decide) ?_
    refine lv_aload_n hx hb dX2_tellOf_77 rfl (lv_at hl 0 rfl) ?_
    refine lv_iload_n hx hb dX2_tellOf_78 rfl (lv_at hl 1 rfl) ?_
    replace hk := ob_s hk
    obtain ⟨x5, hx5, hk⟩ := hk
    refine cl_i (rn_V g_545 g_527 gs_31 g_2 g_528 hd_X2_holeOf (Nat.le_of_ble_eq_true rfl) (ci := 2) rfl (inC h0 rfl) (shp2 h0) hx hb hml hown hg hK hW (As := [.int a1]) (c_X2_holeOf l G h0 a1 M hx5) (by decide) rfl hl.1 rfl (Nat.le_of_ble_eq_true rfl) dX2_tellOf_79) hW (fun H locs hW => ?_)
    obtain rfl := Option.some.inj hk
    exact hret _ _ _ _ hW dX2_tellOf_82
  replace hk := ite_f hk c11
  have c11_4 := c11
  by_cases c11 : a2 = (5 : Int32)
  · replace hk := ite_t hk c11
    refine lv_tableIn (tgt := 83) hx hb dX2_tellOf_1 (by rw [c11]; decide) (by rw [c11]; decide) (by rw [c11]; rfl) (by decide) ?_
    refine lv_aload_n hx hb dX2_tellOf_83 rfl (lv_at hl 0 rfl) ?_
    refine lv_iload_n hx hb dX2_tellOf_84 rfl (lv_at hl 1 rfl) ?_
    replace hk := ob_s hk
    obtain ⟨x6, hx6, hk⟩ := hk
    refine cl_i (rn_V g_546 g_459 gs_21 g_2 g_460 hd_X2_wornOf (Nat.le_of_ble_eq_true rfl) (ci := 2) rfl (inC h0 rfl) (shp2 h0) hx hb hml hown hg hK hW (As := [.int a1]) (c_X2_wornOf l G h0 a1 M hx6) (by decide) rfl hl.1 rfl (Nat.le_of_ble_eq_true rfl) dX2_tellOf_85) hW (fun H locs hW => ?_)
    obtain rfl := Option.some.inj hk
    exact hret _ _ _ _ hW dX2_tellOf_88
  replace hk := ite_f hk c11
  have c11_5 := c11
  by_cases c11 : a2 = (6 : Int32)
  · replace hk := ite_t hk c11
    refine lv_tableIn (tgt := 89) hx hb dX2_tellOf_1 (by rw [c11]; decide) (by rw [c11]; decide) (by rw [c11]; rfl) (by decide) ?_
    refine lv_aload_n hx hb dX2_tellOf_89 rfl (lv_at hl 0 rfl) ?_
    refine lv_iload_n hx hb dX2_tellOf_90 rfl (lv_at hl 1 rfl) ?_
    replace hk := ob_s hk
    obtain ⟨x7, hx7, hk⟩ := hk
    refine cl_i (rn_V g_546 g_459 gs_21 g_2 g_460 hd_X2_wornOf (Nat.le_of_ble_eq_true rfl) (ci := 2) rfl (inC h0 rfl) (shp2 h0) hx hb hml hown hg hK hW (As := [.int a1]) (c_X2_wornOf l G h0 a1 M hx7) (by decide) rfl hl.1 rfl (Nat.le_of_ble_eq_true rfl) dX2_tellOf_91) hW (fun H locs hW => ?_)
    refine cl_i (rn_SN n_509 g_462 g_1 g_463 hd_X6_isSnapped (Nat.le_of_ble_eq_true rfl) hx hb hml hown hg hK hW (As := [.int x7]) (c_X6_isSnapped l G x7 M) (by decide) rfl hl.1 rfl (Nat.le_of_ble_eq_true rfl) dX2_tellOf_94) hW (fun H locs hW => ?_)
    refine lv_if_eq (tgt := 104) hx hb dX2_tellOf_97 (by decide) (fun c9 => ?_) (fun c9 => ?_)
    · replace hk := ite_t hk c9
      refine lv_iconst (v := (0 : Int32)) hx hb dX2_tellOf_104 (by decide) ?_
      obtain rfl := Option.some.inj hk
      exact hret _ _ _ _ hW dX2_tellOf_105
    · replace hk := ite_f hk c9
      refine lv_iconst (v := (1 : Int32)) hx hb dX2_tellOf_100 (by decide) ?_
      refine lv_goto (tgt := 105) hx hb dX2_tellOf_101 (by decide) ?_
      obtain rfl := Option.some.inj hk
      exact hret _ _ _ _ hW dX2_tellOf_105
  replace hk := ite_f hk c11
  have c11_6 := c11
  refine lv_tableOut (tgt := 106) hx hb dX2_tellOf_1 (by have q0 := lv_neT c11_0 (a := 0) (by decide); have q1 := lv_neT c11_1 (a := 1) (by decide); have q2 := lv_neT c11_2 (a := 2) (by decide); have q3 := lv_neT c11_3 (a := 3) (by decide); have q4 := lv_neT c11_4 (a := 4) (by decide); have q5 := lv_neT c11_5 (a := 5) (by decide); have q6 := lv_neT c11_6 (a := 6) (by decide); omega) (by decide) ?_
  refine lv_aload_n hx hb dX2_tellOf_106 rfl (lv_at hl 0 rfl) ?_
  refine lv_aload_n hx hb dX2_tellOf_107 rfl (lv_at hl 0 rfl) ?_
  refine gt_X2_31 hx hb hg hown hK hW h0 dX2_tellOf_108 ?_
  refine lv_iload_n hx hb dX2_tellOf_111 rfl (lv_at hl 1 rfl) ?_
  replace hk := ob_s hk
  obtain ⟨x10, hx10, hk⟩ := hk
  refine cl_i (rn_V g_547 g_549 gs_34 g_2 g_550 hd_X2_highIn (Nat.le_of_ble_eq_true rfl) (ci := 2) rfl (inC h0 rfl) (shp2 h0) hx hb hml hown hg hK hW (As := [.ref (ad G (o0 + 5)), .int a1]) (c_X2_highIn l G h0 (k2_5 h0) a1 M hx10) (by decide) rfl hl.1 rfl (Nat.le_of_ble_eq_true rfl) dX2_tellOf_112) hW (fun H locs hW => ?_)
  obtain rfl := Option.some.inj hk
  exact hret _ _ _ _ hW dX2_tellOf_115
def f_X2_remember (o0 : Nat) (M : Mem) : Option (Mem) :=
  ob (f_X2_pastAt o0 (M.1 o0 7)) (fun q1 =>
  ob (f_X1_become q1 (o0 + 5) M) (fun M3 =>
  lq (s1 M3 o0 7 (((M3.1 o0 7) + (1 : Int32)) - ((M3.1 o0 7) + (1 : Int32)) / (8 : Int32) * (8 : Int32))) (fun M4 =>
  lq (s1 M4 o0 8 (if (8 : Int32) < ((M4.1 o0 8) + (1 : Int32)) then (8 : Int32) else ((M4.1 o0 8) + (1 : Int32)))) (fun M5 =>
  some M5))))
set_option maxHeartbeats 4000000 in
set_option maxRecDepth 100000 in
theorem c_X2_remember (l : Launch) (G : GT) {o0 : Nat} (h0 : kd o0 = 2) (M : Mem) {M' : Mem} (hk : f_X2_remember o0 M = some M') : CMv l G true yX2_remember cX2_remember 1 none 2 [.ref (ad G o0)] M M' := by
  unfold f_X2_remember at hk
  refine CMv.of (by decide) (Nat.le_of_ble_eq_true rfl) ?_
  intro p e s m args below meth c Q hx hb hml hown hg hK hW hret ls hl
  have hl : lv_has ls 1 [(0, .ref (ad G o0))] := hl
  refine lv_aload_n hx hb dX2_remember_0 rfl (lv_at hl 0 rfl) ?_
  refine lv_aload_n hx hb dX2_remember_1 rfl (lv_at hl 0 rfl) ?_
  refine gt_X2_39 hx hb hg hown hK hW h0 dX2_remember_2 ?_
  replace hk := ob_s hk
  obtain ⟨q1, hq1, hk⟩ := hk
  refine cl_r (rn_V g_481 g_483 gs_25 g_2 g_484 hd_X2_pastAt (Nat.le_of_ble_eq_true rfl) (ci := 2) rfl (inC h0 rfl) (shp2 h0) hx hb hml hown hg hK hW (As := [.int (M.1 o0 7)]) (c_X2_pastAt l G h0 (M.1 o0 7) M hq1) (by decide) rfl hl.1 rfl (Nat.le_of_ble_eq_true rfl) dX2_remember_5) hW (fun H locs hW => ?_)
  refine lv_aload_n hx hb dX2_remember_8 rfl (lv_at hl 0 rfl) ?_
  refine gt_X2_31 hx hb hg hown hK hW h0 dX2_remember_9 ?_
  replace hk := ob_s hk
  obtain ⟨M3, hx2, hk⟩ := hk
  refine cl_v (rn_VN n_476 g_478 gs_24 g_3 g_479 hd_X1_become (Nat.le_of_ble_eq_true rfl) (ci := 1) rfl (inC (fk_X2_pastAt h0 hq1) rfl) (shp1 (fk_X2_pastAt h0 hq1)) hx hb hml hown hg hK hW (As := [.ref (ad G (o0 + 5))]) (c_X1_become l G (fk_X2_pastAt h0 hq1) (k2_5 h0) M hx2) (by decide) rfl hl.1 rfl (Nat.le_of_ble_eq_true rfl) dX2_remember_12) hW (fun H locs hW => ?_)
  refine lv_aload_n hx hb dX2_remember_15 rfl (lv_at hl 0 rfl) ?_
  refine lv_aload_n hx hb dX2_remember_16 rfl (lv_at hl 0 rfl) ?_
  refine gt_X2_39 hx hb hg hown hK hW h0 dX2_remember_17 ?_
  refine lv_iconst (v := (1 : Int32)) hx hb dX2_remember_20 (by decide) ?_
  refine lv_iadd hx hb dX2_remember_21 ?_
  refine lv_bipush (v := (8 : Int32)) hx hb dX2_remember_22 (by decide) ?_
  refine lv_irem hx hb dX2_remember_24 (by decide) ?_
  replace hk := lq_s hk
  obtain ⟨M4, eM4, hk⟩ := hk
  refine pt_X2_39 hx hb hg hown hK hW h0 eM4 dX2_remember_25 (fun H locs hW => ?_)
  refine lv_aload_n hx hb dX2_remember_28 rfl (lv_at hl 0 rfl) ?_
  refine lv_aload_n hx hb dX2_remember_29 rfl (lv_at hl 0 rfl) ?_
  refine gt_X2_42 hx hb hg hown hK hW h0 dX2_remember_30 ?_
  refine lv_iconst (v := (1 : Int32)) hx hb dX2_remember_33 (by decide) ?_
  refine lv_iadd hx hb dX2_remember_34 ?_
  refine lv_bipush (v := (8 : Int32)) hx hb dX2_remember_35 (by decide) ?_
  refine mn_i g_503 g_438 g_5 g_439 hx hb hml hown hg hl.1 (by decide) (Nat.le_of_ble_eq_true rfl) dX2_remember_37 ?_
  replace hk := lq_s hk
  obtain ⟨M5, eM5, hk⟩ := hk
  refine pt_X2_42 hx hb hg hown hK hW h0 eM5 dX2_remember_40 (fun H locs hW => ?_)
  obtain rfl := Option.some.inj hk
  exact hret _ _ _ _ hW dX2_remember_43
def f_X2_goBack (o0 : Nat) (M : Mem) : Option (Mem) :=
  lq (s1 M o0 7 ((((M.1 o0 7) + (8 : Int32)) - (1 : Int32)) - (((M.1 o0 7) + (8 : Int32)) - (1 : Int32)) / (8 : Int32) * (8 : Int32))) (fun M1 =>
  lq (s1 M1 o0 8 ((M1.1 o0 8) - (1 : Int32))) (fun M2 =>
  ob (f_X2_pastAt o0 (M2.1 o0 7)) (fun q3 =>
  ob (f_X1_become (o0 + 5) q3 M2) (fun M5 =>
  some M5))))
set_option maxHeartbeats 4000000 in
set_option maxRecDepth 100000 in
theorem c_X2_goBack (l : Launch) (G : GT) {o0 : Nat} (h0 : kd o0 = 2) (M : Mem) {M' : Mem} (hk : f_X2_goBack o0 M = some M') : CMv l G true yX2_goBack cX2_goBack 1 none 2 [.ref (ad G o0)] M M' := by
  unfold f_X2_goBack at hk
  refine CMv.of (by decide) (Nat.le_of_ble_eq_true rfl) ?_
  intro p e s m args below meth c Q hx hb hml hown hg hK hW hret ls hl
  have hl : lv_has ls 1 [(0, .ref (ad G o0))] := hl
  refine lv_aload_n hx hb dX2_goBack_0 rfl (lv_at hl 0 rfl) ?_
  refine lv_aload_n hx hb dX2_goBack_1 rfl (lv_at hl 0 rfl) ?_
  refine gt_X2_39 hx hb hg hown hK hW h0 dX2_goBack_2 ?_
  refine lv_bipush (v := (8 : Int32)) hx hb dX2_goBack_5 (by decide) ?_
  refine lv_iadd hx hb dX2_goBack_7 ?_
  refine lv_iconst (v := (1 : Int32)) hx hb dX2_goBack_8 (by decide) ?_
  refine lv_isub hx hb dX2_goBack_9 ?_
  refine lv_bipush (v := (8 : Int32)) hx hb dX2_goBack_10 (by decide) ?_
  refine lv_irem hx hb dX2_goBack_12 (by decide) ?_
  replace hk := lq_s hk
  obtain ⟨M1, eM1, hk⟩ := hk
  refine pt_X2_39 hx hb hg hown hK hW h0 eM1 dX2_goBack_13 (fun H locs hW => ?_)
  refine lv_aload_n hx hb dX2_goBack_16 rfl (lv_at hl 0 rfl) ?_
  refine lv_dup hx hb dX2_goBack_17 rfl ?_
  refine gt_X2_42 hx hb hg hown hK hW h0 dX2_goBack_18 ?_
  refine lv_iconst (v := (1 : Int32)) hx hb dX2_goBack_21 (by decide) ?_
  refine lv_isub hx hb dX2_goBack_22 ?_
  replace hk := lq_s hk
  obtain ⟨M2, eM2, hk⟩ := hk
  refine pt_X2_42 hx hb hg hown hK hW h0 eM2 dX2_goBack_23 (fun H locs hW => ?_)
  refine lv_aload_n hx hb dX2_goBack_26 rfl (lv_at hl 0 rfl) ?_
  refine gt_X2_31 hx hb hg hown hK hW h0 dX2_goBack_27 ?_
  refine lv_aload_n hx hb dX2_goBack_30 rfl (lv_at hl 0 rfl) ?_
  refine lv_aload_n hx hb dX2_goBack_31 rfl (lv_at hl 0 rfl) ?_
  refine gt_X2_39 hx hb hg hown hK hW h0 dX2_goBack_32 ?_
  replace hk := ob_s hk
  obtain ⟨q3, hq3, hk⟩ := hk
  refine cl_r (rn_V g_481 g_483 gs_25 g_2 g_484 hd_X2_pastAt (Nat.le_of_ble_eq_true rfl) (ci := 2) rfl (inC h0 rfl) (shp2 h0) hx hb hml hown hg hK hW (As := [.int (M2.1 o0 7)]) (c_X2_pastAt l G h0 (M2.1 o0 7) M2 hq3) (by decide) rfl hl.1 rfl (Nat.le_of_ble_eq_true rfl) dX2_goBack_35) hW (fun H locs hW => ?_)
  replace hk := ob_s hk
  obtain ⟨M5, hx4, hk⟩ := hk
  refine cl_v (rn_VN n_476 g_478 gs_24 g_3 g_479 hd_X1_become (Nat.le_of_ble_eq_true rfl) (ci := 1) rfl (inC (k2_5 h0) rfl) (shp1 (k2_5 h0)) hx hb hml hown hg hK hW (As := [.ref (ad G q3)]) (c_X1_become l G (k2_5 h0) (fk_X2_pastAt h0 hq3) M2 hx4) (by decide) rfl hl.1 rfl (Nat.le_of_ble_eq_true rfl) dX2_goBack_38) hW (fun H locs hW => ?_)
  obtain rfl := Option.some.inj hk
  exact hret _ _ _ _ hW dX2_goBack_41
def f_X3_append (o0 : Nat) (a1 : Int32) (M : Mem) : Option (Int32 × Mem) :=
  ob (f_X6_put (o0 + 1) (M.1 o0 1) a1 M) (fun M2 =>
  lq (s1 M2 o0 1 ((M2.1 o0 1) + (1 : Int32))) (fun M3 =>
  some ((M3.1 o0 1), M3)))
set_option maxHeartbeats 4000000 in
set_option maxRecDepth 100000 in
theorem c_X3_append (l : Launch) (G : GT) {o0 : Nat} (h0 : kd o0 = 3) (a1 : Int32) (M : Mem) {r : Int32} {M' : Mem} (hk : f_X3_append o0 a1 M = some (r, M')) : CMi l G true yX3_append cX3_append 2 (some .int) 1 [.ref (ad G o0), .int a1] M r M' := by
  unfold f_X3_append at hk
  refine CMi.of (by decide) (Nat.le_of_ble_eq_true rfl) ?_
  intro p e s m args below meth c Q hx hb hml hown hg hK hW hret ls hl
  have hl : lv_has ls 2 [(0, .ref (ad G o0)), (1, .int a1)] := hl
  refine lv_aload_n hx hb dX3_append_0 rfl (lv_at hl 0 rfl) ?_
  refine gt_X3_9 hx hb hg hown hK hW h0 dX3_append_1 ?_
  refine lv_aload_n hx hb dX3_append_4 rfl (lv_at hl 0 rfl) ?_
  refine gt_X3_15 hx hb hg hown hK hW h0 dX3_append_5 ?_
  refine lv_iload_n hx hb dX3_append_8 rfl (lv_at hl 1 rfl) ?_
  replace hk := ob_s hk
  obtain ⟨M2, hx1, hk⟩ := hk
  refine cl_v (rn_SN n_320 g_294 g_1 g_295 hd_X6_put (Nat.le_of_ble_eq_true rfl) hx hb hml hown hg hK hW (As := [.ref (ad G (o0 + 1)), .int (M.1 o0 1), .int a1]) (c_X6_put l G (k3_1 h0) (M.1 o0 1) a1 M hx1) (by decide) rfl hl.1 rfl (Nat.le_of_ble_eq_true rfl) dX3_append_9) hW (fun H locs hW => ?_)
  refine lv_aload_n hx hb dX3_append_12 rfl (lv_at hl 0 rfl) ?_
  refine lv_dup hx hb dX3_append_13 rfl ?_
  refine gt_X3_15 hx hb hg hown hK hW h0 dX3_append_14 ?_
  refine lv_iconst (v := (1 : Int32)) hx hb dX3_append_17 (by decide) ?_
  refine lv_iadd hx hb dX3_append_18 ?_
  replace hk := lq_s hk
  obtain ⟨M3, eM3, hk⟩ := hk
  refine pt_X3_15 hx hb hg hown hK hW h0 eM3 dX3_append_19 (fun H locs hW => ?_)
  refine lv_aload_n hx hb dX3_append_22 rfl (lv_at hl 0 rfl) ?_
  refine gt_X3_15 hx hb hg hown hK hW h0 dX3_append_23 ?_
  obtain ⟨rfl, rfl⟩ := sp2 hk
  exact hret _ _ _ _ hW dX3_append_26
def f_X3_runEnd_L3 (o0 : Nat) (a2 : Int32) (a3 : Int32) (M : Mem) : Nat → Int32 → Option (Int32)
  | 0, _ => none
  | n + 1, x1 =>
    if x1 < (0 : Int32) then (
      some x1)
    else (
      if (M.1 o0 1) ≤ x1 then (
        some x1)
      else (
        if (nI (ln (o0 + 1))) ≤ x1 then (
          some x1)
        else (
          ob (rd M (o0 + 1) x1) (fun x3 =>
          if x3 < a2 then (
            some x1)
          else (
            ob (rd M (o0 + 1) x1) (fun x4 =>
            if a3 < x4 then (
              some x1)
            else (
              lq (x1 + (1 : Int32)) (fun x5 =>
              f_X3_runEnd_L3 o0 a2 a3 M n x5))))))))
def f_X3_runEnd (o0 : Nat) (a1 : Int32) (a2 : Int32) (a3 : Int32) (M : Mem) : Option (Int32) :=
  ob (f_X3_runEnd_L3 o0 a2 a3 M FU a1) (fun x2 =>
  some x2)
set_option maxHeartbeats 4000000 in
set_option maxRecDepth 100000 in
theorem c_X3_runEnd (l : Launch) (G : GT) {o0 : Nat} (h0 : kd o0 = 3) (a1 : Int32) (a2 : Int32) (a3 : Int32) (M : Mem) {r : Int32} (hk : f_X3_runEnd o0 a1 a2 a3 M = some r) : CMi l G true yX3_runEnd cX3_runEnd 5 (some .int) 0 [.ref (ad G o0), .int a1, .int a2, .int a3] M r M := by
  unfold f_X3_runEnd at hk
  refine CMi.of (by decide) (Nat.le_of_ble_eq_true rfl) ?_
  intro p e s m args below meth c Q hx hb hml hown hg hK hW hret ls hl
  have hl : lv_has ls 5 [(0, .ref (ad G o0)), (1, .int a1), (2, .int a2), (3, .int a3)] := hl
  refine lv_iload_n hx hb dX3_runEnd_0 rfl (lv_at hl 1 rfl) ?_
  refine lv_istore (lv' := [(4, .int a1), (0, .ref (ad G o0)), (1, .int a1), (2, .int a2), (3, .int a3)]) hx hb dX3_runEnd_1 hl (by decide) rfl (fun ls hl => ?_)
  replace hk := ob_s hk
  obtain ⟨x2, hz11, hk⟩ := hk
  have KX3 : ∀ (H : Heap) (locs : List Loc) (ls : Array Slot), Ws G true M s H locs → lv_has ls 5 [(4, .int x2)] → Wx p l e 0 s m args below meth c Q H locs 55 ls [] := by
    intro H locs ls hW hl
    refine lv_iload hx hb dX3_runEnd_55 (lv_at hl 0 rfl) ?_
    obtain rfl := Option.some.inj hk
    exact hret _ _ _ _ hW dX3_runEnd_57
  clear hk
  have LH3 : ∀ (n : Nat) (x1 : Int32) (H : Heap) (locs : List Loc) (ls : Array Slot), f_X3_runEnd_L3 o0 a2 a3 M n x1 = some x2 → Ws G true M s H locs → lv_has ls 5 [(0, .ref (ad G o0)), (2, .int a2), (3, .int a3), (4, .int x1)] → Wx p l e 0 s m args below meth c Q H locs 3 ls [] := by
    clear hz11
    intro n
    induction n with
    | zero => intro _ _ _ _ hk; cases hk
    | succ n ih3 =>
      intro x1 H locs ls hk hW hl
      rw [f_X3_runEnd_L3.eq_2] at hk
      refine lv_iload hx hb dX3_runEnd_3 (lv_at hl 3 rfl) ?_
      refine lv_if_lt (tgt := 55) hx hb dX3_runEnd_5 (by decide) (fun c10 => ?_) (fun c10 => ?_)
      · replace hk := ite_t hk c10
        obtain rfl := Option.some.inj hk
        exact KX3 _ _ _ hW (lv_sub hl [3] rfl)
      · replace hk := ite_f hk c10
        refine lv_iload hx hb dX3_runEnd_8 (lv_at hl 3 rfl) ?_
        refine lv_aload_n hx hb dX3_runEnd_10 rfl (lv_at hl 0 rfl) ?_
        refine gt_X3_15 hx hb hg hown hK hW h0 dX3_runEnd_11 ?_
        refine lv_icmp_ge (tgt := 55) hx hb dX3_runEnd_14 (by decide) (fun c9 => ?_) (fun c9 => ?_)
        · replace hk := ite_t hk c9
          obtain rfl := Option.some.inj hk
          exact KX3 _ _ _ hW (lv_sub hl [3] rfl)
        · replace hk := ite_f hk c9
          refine lv_iload hx hb dX3_runEnd_17 (lv_at hl 3 rfl) ?_
          refine lv_aload_n hx hb dX3_runEnd_19 rfl (lv_at hl 0 rfl) ?_
          refine gt_X3_9 hx hb hg hown hK hW h0 dX3_runEnd_20 ?_
          refine w_len hx hb hK hW (inC (k3_1 h0) rfl) (shp8 (k3_1 h0)) dX3_runEnd_23 ?_
          refine lv_icmp_ge (tgt := 55) hx hb dX3_runEnd_24 (by decide) (fun c8 => ?_) (fun c8 => ?_)
          · replace hk := ite_t hk c8
            obtain rfl := Option.some.inj hk
            exact KX3 _ _ _ hW (lv_sub hl [3] rfl)
          · replace hk := ite_f hk c8
            refine lv_aload_n hx hb dX3_runEnd_27 rfl (lv_at hl 0 rfl) ?_
            refine gt_X3_9 hx hb hg hown hK hW h0 dX3_runEnd_28 ?_
            refine lv_iload hx hb dX3_runEnd_31 (lv_at hl 3 rfl) ?_
            replace hk := ob_s hk
            obtain ⟨x3, hx3, hk⟩ := hk
            obtain ⟨hx3, ex3⟩ := rd_s hx3
            refine w_ald hx hb hK hW (inC (k3_1 h0) rfl) (shp8 (k3_1 h0)) hx3 ex3 dX3_runEnd_33 ?_
            refine lv_iload_n hx hb dX3_runEnd_34 rfl (lv_at hl 1 rfl) ?_
            refine lv_icmp_lt (tgt := 55) hx hb dX3_runEnd_35 (by decide) (fun c7 => ?_) (fun c7 => ?_)
            · replace hk := ite_t hk c7
              obtain rfl := Option.some.inj hk
              exact KX3 _ _ _ hW (lv_sub hl [3] rfl)
            · replace hk := ite_f hk c7
              refine lv_aload_n hx hb dX3_runEnd_38 rfl (lv_at hl 0 rfl) ?_
              refine gt_X3_9 hx hb hg hown hK hW h0 dX3_runEnd_39 ?_
              refine lv_iload hx hb dX3_runEnd_42 (lv_at hl 3 rfl) ?_
              replace hk := ob_s hk
              obtain ⟨x4, hx4, hk⟩ := hk
              obtain ⟨hx4, ex4⟩ := rd_s hx4
              refine w_ald hx hb hK hW (inC (k3_1 h0) rfl) (shp8 (k3_1 h0)) hx4 ex4 dX3_runEnd_44 ?_
              refine lv_iload_n hx hb dX3_runEnd_45 rfl (lv_at hl 2 rfl) ?_
              refine lv_icmp_gt (tgt := 55) hx hb dX3_runEnd_46 (by decide) (fun c6 => ?_) (fun c6 => ?_)
              · replace hk := ite_t hk c6
                obtain rfl := Option.some.inj hk
                exact KX3 _ _ _ hW (lv_sub hl [3] rfl)
              · replace hk := ite_f hk c6
                replace hk := lq_s hk
                obtain ⟨x5, ex5, hk⟩ := hk
                refine lv_iinc (v := x5) (lv' := [(4, .int x5), (0, .ref (ad G o0)), (2, .int a2), (3, .int a3)]) hx hb dX3_runEnd_49 hl (k := 3) rfl (by rw [ex5]; rfl) (by decide) rfl (fun ls hl => ?_)
                refine lv_goto (tgt := 3) hx hb dX3_runEnd_52 (by decide) ?_
                exact ih3 _ _ _ _ hk hW (lv_sub hl [1, 2, 3, 0] rfl)
  exact LH3 FU _ _ _ _ hz11 hW (lv_sub hl [1, 3, 4, 0] rfl)
def f_X6_outside (a0 : Int32) (a1 : Int32) (a2 : Int32) : Int32 :=
  if a0 < a1 then (
    (1 : Int32))
  else (
    if a0 ≤ a2 then (
      (0 : Int32))
    else (
      (1 : Int32)))
theorem b_X6_outside (a0 : Int32) (a1 : Int32) (a2 : Int32) : f_X6_outside a0 a1 a2 = 0 ∨ f_X6_outside a0 a1 a2 = 1 := by
  obtain ⟨r, hk⟩ : ∃ r, f_X6_outside a0 a1 a2 = r := ⟨_, rfl⟩
  rw [hk]; unfold f_X6_outside at hk
  first | (repeat' (split at hk)) | skip
  all_goals (rw [← hk]; first | exact Or.inl rfl | exact Or.inr rfl)
set_option maxHeartbeats 4000000 in
set_option maxRecDepth 100000 in
theorem c_X6_outside (l : Launch) (G : GT) (a0 : Int32) (a1 : Int32) (a2 : Int32) (M : Mem) : CMi l G true yX6_outside cX6_outside 3 (some .boolean) 0 [.int a0, .int a1, .int a2] M (f_X6_outside a0 a1 a2) M := by
  obtain ⟨r, hk⟩ : ∃ r, f_X6_outside a0 a1 a2 = r := ⟨_, rfl⟩
  rw [hk]
  unfold f_X6_outside at hk
  refine CMi.ofZ (by decide) (Nat.le_of_ble_eq_true rfl) ?_
  intro p e s m args below meth c Q hx hb hml hown hg hK hW hret ls hl
  have hl : lv_has ls 3 [(0, .int a0), (1, .int a1), (2, .int a2)] := hl
  refine lv_iload_n hx hb dX6_outside_0 rfl (lv_at hl 0 rfl) ?_
  refine lv_iload_n hx hb dX6_outside_1 rfl (lv_at hl 1 rfl) ?_
  refine lv_icmp_lt (tgt := 10) hx hb dX6_outside_2 (by decide) (fun c2 => ?_) (fun c2 => ?_)
  · replace hk := ite_t hk c2
    refine lv_iconst (v := (1 : Int32)) hx hb dX6_outside_10 (by decide) ?_
    refine lv_goto (tgt := 15) hx hb dX6_outside_11 (by decide) ?_
    subst hk
    exact hret _ _ _ _ (Or.inr rfl) hW dX6_outside_15
  · replace hk := ite_f hk c2
    refine lv_iload_n hx hb dX6_outside_5 rfl (lv_at hl 0 rfl) ?_
    refine lv_iload_n hx hb dX6_outside_6 rfl (lv_at hl 2 rfl) ?_
    refine lv_icmp_le (tgt := 14) hx hb dX6_outside_7 (by decide) (fun c1 => ?_) (fun c1 => ?_)
    · replace hk := ite_t hk c1
      refine lv_iconst (v := (0 : Int32)) hx hb dX6_outside_14 (by decide) ?_
      subst hk
      exact hret _ _ _ _ (Or.inl rfl) hW dX6_outside_15
    · replace hk := ite_f hk c1
      refine lv_iconst (v := (1 : Int32)) hx hb dX6_outside_10 (by decide) ?_
      refine lv_goto (tgt := 15) hx hb dX6_outside_11 (by decide) ?_
      subst hk
      exact hret _ _ _ _ (Or.inr rfl) hW dX6_outside_15
def f_X3_advance (o0 : Nat) (M : Mem) : Option (Mem) :=
  ob (f_X3_runEnd o0 (M.1 o0 3) (32 : Int32) (32 : Int32) M) (fun x1 =>
  lq (s1 M o0 2 x1) (fun M2 =>
  lq (s1 M2 o0 3 ((M2.1 o0 2) + (1 : Int32))) (fun M3 =>
  ob (f_X6_cell (o0 + 1) (M3.1 o0 2) M3) (fun x4 =>
  if (M3.1 o0 2) < (M3.1 o0 1) then (
    if (f_X6_outside x4 (97 : Int32) (122 : Int32)) = (0 : Int32) then (
      lq (s1 M3 o0 4 (1 : Int32)) (fun M26 =>
      ob (f_X3_runEnd o0 (M26.1 o0 2) (97 : Int32) (122 : Int32) M26) (fun x27 =>
      lq (s1 M26 o0 3 x27) (fun M28 =>
      some M28))))
    else (
      if (f_X6_outside x4 (48 : Int32) (57 : Int32)) = (0 : Int32) then (
        ob (f_X3_runEnd o0 (M3.1 o0 2) (48 : Int32) (57 : Int32) M3) (fun x12 =>
        lq (s1 M3 o0 3 x12) (fun M13 =>
        lq (
          if (2 : Int32) < ((M13.1 o0 3) - (M13.1 o0 2)) then (
            (4 : Int32))
          else (
            (2 : Int32)))
         (fun x15 =>
        lq (s1 M13 o0 4 x15) (fun M16 =>
        ob (
          if ((M16.1 o0 3) - (M16.1 o0 2)) = (1 : Int32) then (
            some (x4 - (48 : Int32)))
          else (
            ob (f_X6_cell (o0 + 1) ((M16.1 o0 2) + (1 : Int32)) M16) (fun x17 =>
            some ((((10 : Int32) * (x4 - (48 : Int32))) + x17) - (48 : Int32)))))
         (fun x19 =>
        lq (s1 M16 o0 5 x19) (fun M20 =>
        some M20)))))))
      else (
        lq (
          if x4 = (59 : Int32) then (
            (3 : Int32))
          else (
            (4 : Int32)))
         (fun x8 =>
        lq (s1 M3 o0 4 x8) (fun M9 =>
        some M9)))))
  else (
    lq (s1 M3 o0 4 (0 : Int32)) (fun M30 =>
    lq (s1 M30 o0 3 (M30.1 o0 1)) (fun M31 =>
    some M31)))))))
set_option maxHeartbeats 4000000 in
set_option maxRecDepth 100000 in
theorem c_X3_advance (l : Launch) (G : GT) {o0 : Nat} (h0 : kd o0 = 3) (M : Mem) {M' : Mem} (hk : f_X3_advance o0 M = some M') : CMv l G true yX3_advance cX3_advance 2 none 1 [.ref (ad G o0)] M M' := by
  unfold f_X3_advance at hk
  refine CMv.of (by decide) (Nat.le_of_ble_eq_true rfl) ?_
  intro p e s m args below meth c Q hx hb hml hown hg hK hW hret ls hl
  have hl : lv_has ls 2 [(0, .ref (ad G o0))] := hl
  refine lv_aload_n hx hb dX3_advance_0 rfl (lv_at hl 0 rfl) ?_
  refine lv_aload_n hx hb dX3_advance_1 rfl (lv_at hl 0 rfl) ?_
  refine lv_aload_n hx hb dX3_advance_2 rfl (lv_at hl 0 rfl) ?_
  refine gt_X3_22 hx hb hg hown hK hW h0 dX3_advance_3 ?_
  refine lv_bipush (v := (32 : Int32)) hx hb dX3_advance_6 (by decide) ?_
  refine lv_bipush (v := (32 : Int32)) hx hb dX3_advance_8 (by decide) ?_
  replace hk := ob_s hk
  obtain ⟨x1, hx1, hk⟩ := hk
  refine cl_i (rn_V g_341 g_343 gs_10 g_6 g_344 hd_X3_runEnd (Nat.le_of_ble_eq_true rfl) (ci := 3) rfl (inC h0 rfl) (shp3 h0) hx hb hml hown hg hK hW (As := [.int (M.1 o0 3), .int (32 : Int32), .int (32 : Int32)]) (c_X3_runEnd l G h0 (M.1 o0 3) (32 : Int32) (32 : Int32) M hx1) (by decide) rfl hl.1 rfl (Nat.le_of_ble_eq_true rfl) dX3_advance_10) hW (fun H locs hW => ?_)
  replace hk := lq_s hk
  obtain ⟨M2, eM2, hk⟩ := hk
  refine pt_X3_19 hx hb hg hown hK hW h0 eM2 dX3_advance_13 (fun H locs hW => ?_)
  refine lv_aload_n hx hb dX3_advance_16 rfl (lv_at hl 0 rfl) ?_
  refine lv_aload_n hx hb dX3_advance_17 rfl (lv_at hl 0 rfl) ?_
  refine gt_X3_19 hx hb hg hown hK hW h0 dX3_advance_18 ?_
  refine lv_iconst (v := (1 : Int32)) hx hb dX3_advance_21 (by decide) ?_
  refine lv_iadd hx hb dX3_advance_22 ?_
  replace hk := lq_s hk
  obtain ⟨M3, eM3, hk⟩ := hk
  refine pt_X3_22 hx hb hg hown hK hW h0 eM3 dX3_advance_23 (fun H locs hW => ?_)
  refine lv_aload_n hx hb dX3_advance_26 rfl (lv_at hl 0 rfl) ?_
  refine gt_X3_9 hx hb hg hown hK hW h0 dX3_advance_27 ?_
  refine lv_aload_n hx hb dX3_advance_30 rfl (lv_at hl 0 rfl) ?_
  refine gt_X3_19 hx hb hg hown hK hW h0 dX3_advance_31 ?_
  replace hk := ob_s hk
  obtain ⟨x4, hx4, hk⟩ := hk
  refine cl_i (rn_SN n_345 g_346 g_1 g_347 hd_X6_cell (Nat.le_of_ble_eq_true rfl) hx hb hml hown hg hK hW (As := [.ref (ad G (o0 + 1)), .int (M3.1 o0 2)]) (c_X6_cell l G (k3_1 h0) (M3.1 o0 2) M3 hx4) (by decide) rfl hl.1 rfl (Nat.le_of_ble_eq_true rfl) dX3_advance_34) hW (fun H locs hW => ?_)
  refine lv_istore_n (lv' := [(1, .int x4), (0, .ref (ad G o0))]) hx hb dX3_advance_37 rfl hl (by decide) rfl (fun ls hl => ?_)
  refine lv_aload_n hx hb dX3_advance_38 rfl (lv_at hl 1 rfl) ?_
  refine gt_X3_19 hx hb hg hown hK hW h0 dX3_advance_39 ?_
  refine lv_aload_n hx hb dX3_advance_42 rfl (lv_at hl 1 rfl) ?_
  refine gt_X3_15 hx hb hg hown hK hW h0 dX3_advance_43 ?_
  refine lv_icmp_lt (tgt := 65) hx hb dX3_advance_46 (by decide) (fun c32 => ?_) (fun c32 => ?_)
  · replace hk := ite_t hk c32
    refine lv_iload_n hx hb dX3_advance_65 rfl (lv_at hl 0 rfl) ?_
    refine lv_bipush (v := (97 : Int32)) hx hb dX3_advance_66 (by decide) ?_
    refine lv_bipush (v := (122 : Int32)) hx hb dX3_advance_68 (by decide) ?_
    refine cl_i (rn_SN n_348 g_279 g_1 g_280 hd_X6_outside (Nat.le_of_ble_eq_true rfl) hx hb hml hown hg hK hW (As := [.int x4, .int (97 : Int32), .int (122 : Int32)]) (c_X6_outside l G x4 (97 : Int32) (122 : Int32) M3) (by decide) rfl hl.1 rfl (Nat.le_of_ble_eq_true rfl) dX3_advance_70) hW (fun H locs hW => ?_)
    refine lv_if_ne (tgt := 100) hx hb dX3_advance_73 (by decide) (fun c29 => ?_) (fun c29 => ?_)
    · replace hk := ite_f hk c29
      refine lv_iload_n hx hb dX3_advance_100 rfl (lv_at hl 0 rfl) ?_
      refine lv_bipush (v := (48 : Int32)) hx hb dX3_advance_101 (by decide) ?_
      refine lv_bipush (v := (57 : Int32)) hx hb dX3_advance_103 (by decide) ?_
      refine cl_i (rn_SN n_348 g_279 g_1 g_280 hd_X6_outside (Nat.le_of_ble_eq_true rfl) hx hb hml hown hg hK hW (As := [.int x4, .int (48 : Int32), .int (57 : Int32)]) (c_X6_outside l G x4 (48 : Int32) (57 : Int32) M3) (by decide) rfl hl.1 rfl (Nat.le_of_ble_eq_true rfl) dX3_advance_105) hW (fun H locs hW => ?_)
      refine lv_if_ne (tgt := 200) hx hb dX3_advance_108 (by decide) (fun c25 => ?_) (fun c25 => ?_)
      · replace hk := ite_f hk c25
        refine lv_aload_n hx hb dX3_advance_200 rfl (lv_at hl 1 rfl) ?_
        refine lv_iload_n hx hb dX3_advance_201 rfl (lv_at hl 0 rfl) ?_
        refine lv_bipush (v := (59 : Int32)) hx hb dX3_advance_202 (by decide) ?_
        replace hk := lq_s hk
        obtain ⟨x8, hr11, hk⟩ := hk
        have KJ10 : ∀ (H : Heap) (locs : List Loc) (ls : Array Slot), Ws G true M3 s H locs → lv_has ls 2 [] → Wx p l e 1 s m args below meth c Q H locs 212 ls [.int x8, .ref (ad G o0)] := by
          intro H locs ls hW hl
          replace hk := lq_s hk
          obtain ⟨M9, eM9, hk⟩ := hk
          refine pt_X3_25 hx hb hg hown hK hW h0 eM9 dX3_advance_212 (fun H locs hW => ?_)
          obtain rfl := Option.some.inj hk
          exact hret _ _ _ _ hW dX3_advance_215
        clear hk
        have hk := hr11.symm
        clear hr11
        refine lv_icmp_ne (tgt := 211) hx hb dX3_advance_204 (by decide) (fun c7 => ?_) (fun c7 => ?_)
        · replace hk := ite_f hk c7
          refine lv_iconst (v := (4 : Int32)) hx hb dX3_advance_211 (by decide) ?_
          subst hk
          exact KJ10 _ _ _ hW (lv_sub hl [] rfl)
        · replace hk := ite_t hk c7
          refine lv_iconst (v := (3 : Int32)) hx hb dX3_advance_207 (by decide) ?_
          refine lv_goto (tgt := 212) hx hb dX3_advance_208 (by decide) ?_
          subst hk
          exact KJ10 _ _ _ hW (lv_sub hl [] rfl)
      · replace hk := ite_t hk c25
        refine lv_aload_n hx hb dX3_advance_111 rfl (lv_at hl 1 rfl) ?_
        refine lv_aload_n hx hb dX3_advance_112 rfl (lv_at hl 1 rfl) ?_
        refine lv_aload_n hx hb dX3_advance_113 rfl (lv_at hl 1 rfl) ?_
        refine gt_X3_19 hx hb hg hown hK hW h0 dX3_advance_114 ?_
        refine lv_bipush (v := (48 : Int32)) hx hb dX3_advance_117 (by decide) ?_
        refine lv_bipush (v := (57 : Int32)) hx hb dX3_advance_119 (by decide) ?_
        replace hk := ob_s hk
        obtain ⟨x12, hx12, hk⟩ := hk
        refine cl_i (rn_V g_341 g_343 gs_10 g_6 g_344 hd_X3_runEnd (Nat.le_of_ble_eq_true rfl) (ci := 3) rfl (inC h0 rfl) (shp3 h0) hx hb hml hown hg hK hW (As := [.int (M3.1 o0 2), .int (48 : Int32), .int (57 : Int32)]) (c_X3_runEnd l G h0 (M3.1 o0 2) (48 : Int32) (57 : Int32) M3 hx12) (by decide) rfl hl.1 rfl (Nat.le_of_ble_eq_true rfl) dX3_advance_121) hW (fun H locs hW => ?_)
        replace hk := lq_s hk
        obtain ⟨M13, eM13, hk⟩ := hk
        refine pt_X3_22 hx hb hg hown hK hW h0 eM13 dX3_advance_124 (fun H locs hW => ?_)
        refine lv_aload_n hx hb dX3_advance_127 rfl (lv_at hl 1 rfl) ?_
        refine lv_aload_n hx hb dX3_advance_128 rfl (lv_at hl 1 rfl) ?_
        refine gt_X3_22 hx hb hg hown hK hW h0 dX3_advance_129 ?_
        refine lv_aload_n hx hb dX3_advance_132 rfl (lv_at hl 1 rfl) ?_
        refine gt_X3_19 hx hb hg hown hK hW h0 dX3_advance_133 ?_
        refine lv_isub hx hb dX3_advance_136 ?_
        refine lv_iconst (v := (2 : Int32)) hx hb dX3_advance_137 (by decide) ?_
        replace hk := lq_s hk
        obtain ⟨x15, hr24, hk⟩ := hk
        have KJ23 : ∀ (H : Heap) (locs : List Loc) (ls : Array Slot), Ws G true M13 s H locs → lv_has ls 2 [(0, .ref (ad G o0)), (1, .int x4)] → Wx p l e 1 s m args below meth c Q H locs 146 ls [.int x15, .ref (ad G o0)] := by
          intro H locs ls hW hl
          replace hk := lq_s hk
          obtain ⟨M16, eM16, hk⟩ := hk
          refine pt_X3_25 hx hb hg hown hK hW h0 eM16 dX3_advance_146 (fun H locs hW => ?_)
          refine lv_aload_n hx hb dX3_advance_149 rfl (lv_at hl 0 rfl) ?_
          refine lv_aload_n hx hb dX3_advance_150 rfl (lv_at hl 0 rfl) ?_
          refine gt_X3_22 hx hb hg hown hK hW h0 dX3_advance_151 ?_
          refine lv_aload_n hx hb dX3_advance_154 rfl (lv_at hl 0 rfl) ?_
          refine gt_X3_19 hx hb hg hown hK hW h0 dX3_advance_155 ?_
          refine lv_isub hx hb dX3_advance_158 ?_
          refine lv_iconst (v := (1 : Int32)) hx hb dX3_advance_159 (by decide) ?_
          replace hk := ob_s hk
          obtain ⟨x19, hr22, hk⟩ := hk
          have KJ21 : ∀ (H : Heap) (locs : List Loc) (ls : Array Slot), Ws G true M16 s H locs → lv_has ls 2 [] → Wx p l e 1 s m args below meth c Q H locs 194 ls [.int x19, .ref (ad G o0)] := by
            intro H locs ls hW hl
            replace hk := lq_s hk
            obtain ⟨M20, eM20, hk⟩ := hk
            refine pt_X3_28 hx hb hg hown hK hW h0 eM20 dX3_advance_194 (fun H locs hW => ?_)
            refine lv_goto (tgt := 215) hx hb dX3_advance_197 (by decide) ?_
            obtain rfl := Option.some.inj hk
            exact hret _ _ _ _ hW dX3_advance_215
          clear hk
          have hk := hr22
          clear hr22
          refine lv_icmp_ne (tgt := 170) hx hb dX3_advance_160 (by decide) (fun c18 => ?_) (fun c18 => ?_)
          · replace hk := ite_f hk c18
            refine lv_bipush (v := (10 : Int32)) hx hb dX3_advance_170 (by decide) ?_
            refine lv_iload_n hx hb dX3_advance_172 rfl (lv_at hl 1 rfl) ?_
            refine lv_bipush (v := (48 : Int32)) hx hb dX3_advance_173 (by decide) ?_
            refine lv_isub hx hb dX3_advance_175 ?_
            refine lv_imul hx hb dX3_advance_176 ?_
            refine lv_aload_n hx hb dX3_advance_177 rfl (lv_at hl 0 rfl) ?_
            refine gt_X3_9 hx hb hg hown hK hW h0 dX3_advance_178 ?_
            refine lv_aload_n hx hb dX3_advance_181 rfl (lv_at hl 0 rfl) ?_
            refine gt_X3_19 hx hb hg hown hK hW h0 dX3_advance_182 ?_
            refine lv_iconst (v := (1 : Int32)) hx hb dX3_advance_185 (by decide) ?_
            refine lv_iadd hx hb dX3_advance_186 ?_
            replace hk := ob_s hk
            obtain ⟨x17, hx17, hk⟩ := hk
            refine cl_i (rn_SN n_345 g_346 g_1 g_347 hd_X6_cell (Nat.le_of_ble_eq_true rfl) hx hb hml hown hg hK hW (As := [.ref (ad G (o0 + 1)), .int ((M16.1 o0 2) + (1 : Int32))]) (c_X6_cell l G (k3_1 h0) ((M16.1 o0 2) + (1 : Int32)) M16 hx17) (by decide) rfl hl.1 rfl (Nat.le_of_ble_eq_true rfl) dX3_advance_187) hW (fun H locs hW => ?_)
            refine lv_iadd hx hb dX3_advance_190 ?_
            refine lv_bipush (v := (48 : Int32)) hx hb dX3_advance_191 (by decide) ?_
            refine lv_isub hx hb dX3_advance_193 ?_
            obtain rfl := Option.some.inj hk
            exact KJ21 _ _ _ hW (lv_sub hl [] rfl)
          · replace hk := ite_t hk c18
            refine lv_iload_n hx hb dX3_advance_163 rfl (lv_at hl 1 rfl) ?_
            refine lv_bipush (v := (48 : Int32)) hx hb dX3_advance_164 (by decide) ?_
            refine lv_isub hx hb dX3_advance_166 ?_
            refine lv_goto (tgt := 194) hx hb dX3_advance_167 (by decide) ?_
            obtain rfl := Option.some.inj hk
            exact KJ21 _ _ _ hW (lv_sub hl [] rfl)
        clear hk
        have hk := hr24.symm
        clear hr24
        refine lv_icmp_gt (tgt := 145) hx hb dX3_advance_138 (by decide) (fun c14 => ?_) (fun c14 => ?_)
        · replace hk := ite_t hk c14
          refine lv_iconst (v := (4 : Int32)) hx hb dX3_advance_145 (by decide) ?_
          subst hk
          exact KJ23 _ _ _ hW (lv_sub hl [1, 0] rfl)
        · replace hk := ite_f hk c14
          refine lv_iconst (v := (2 : Int32)) hx hb dX3_advance_141 (by decide) ?_
          refine lv_goto (tgt := 146) hx hb dX3_advance_142 (by decide) ?_
          subst hk
          exact KJ23 _ _ _ hW (lv_sub hl [1, 0] rfl)
    · replace hk := ite_t hk c29
      refine lv_aload_n hx hb dX3_advance_76 rfl (lv_at hl 1 rfl) ?_
      refine lv_iconst (v := (1 : Int32)) hx hb dX3_advance_77 (by decide) ?_
      replace hk := lq_s hk
      obtain ⟨M26, eM26, hk⟩ := hk
      refine pt_X3_25 hx hb hg hown hK hW h0 eM26 dX3_advance_78 (fun H locs hW => ?_)
      refine lv_aload_n hx hb dX3_advance_81 rfl (lv_at hl 1 rfl) ?_
      refine lv_aload_n hx hb dX3_advance_82 rfl (lv_at hl 1 rfl) ?_
      refine lv_aload_n hx hb dX3_advance_83 rfl (lv_at hl 1 rfl) ?_
      refine gt_X3_19 hx hb hg hown hK hW h0 dX3_advance_84 ?_
      refine lv_bipush (v := (97 : Int32)) hx hb dX3_advance_87 (by decide) ?_
      refine lv_bipush (v := (122 : Int32)) hx hb dX3_advance_89 (by decide) ?_
      replace hk := ob_s hk
      obtain ⟨x27, hx27, hk⟩ := hk
      refine cl_i (rn_V g_341 g_343 gs_10 g_6 g_344 hd_X3_runEnd (Nat.le_of_ble_eq_true rfl) (ci := 3) rfl (inC h0 rfl) (shp3 h0) hx hb hml hown hg hK hW (As := [.int (M26.1 o0 2), .int (97 : Int32), .int (122 : Int32)]) (c_X3_runEnd l G h0 (M26.1 o0 2) (97 : Int32) (122 : Int32) M26 hx27) (by decide) rfl hl.1 rfl (Nat.le_of_ble_eq_true rfl) dX3_advance_91) hW (fun H locs hW => ?_)
      replace hk := lq_s hk
      obtain ⟨M28, eM28, hk⟩ := hk
      refine pt_X3_22 hx hb hg hown hK hW h0 eM28 dX3_advance_94 (fun H locs hW => ?_)
      refine lv_goto (tgt := 215) hx hb dX3_advance_97 (by decide) ?_
      obtain rfl := Option.some.inj hk
      exact hret _ _ _ _ hW dX3_advance_215
  · replace hk := ite_f hk c32
    refine lv_aload_n hx hb dX3_advance_49 rfl (lv_at hl 1 rfl) ?_
    refine lv_iconst (v := (0 : Int32)) hx hb dX3_advance_50 (by decide) ?_
    replace hk := lq_s hk
    obtain ⟨M30, eM30, hk⟩ := hk
    refine pt_X3_25 hx hb hg hown hK hW h0 eM30 dX3_advance_51 (fun H locs hW => ?_)
    refine lv_aload_n hx hb dX3_advance_54 rfl (lv_at hl 1 rfl) ?_
    refine lv_aload_n hx hb dX3_advance_55 rfl (lv_at hl 1 rfl) ?_
    refine gt_X3_15 hx hb hg hown hK hW h0 dX3_advance_56 ?_
    replace hk := lq_s hk
    obtain ⟨M31, eM31, hk⟩ := hk
    refine pt_X3_22 hx hb hg hown hK hW h0 eM31 dX3_advance_59 (fun H locs hW => ?_)
    refine lv_goto (tgt := 215) hx hb dX3_advance_62 (by decide) ?_
    obtain rfl := Option.some.inj hk
    exact hret _ _ _ _ hW dX3_advance_215
