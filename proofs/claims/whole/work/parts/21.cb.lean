def f_X0_weigh_L35 (o0 : Nat) (o1 : Nat) (o2 : Nat) (a3 : Int32) (a4 : Int32) (x1 : Int32) (x2 : Int32) (x3 : Int32) : Nat → Int32 → Mem → Option (Int32 × Mem)
  | 0, _, _ => none
  | n + 1, x7, M8 =>
    if (5 : Int32) ≤ x7 then (
      some (x7, M8))
    else (
      ob (f_X1_become o2 (o1 + 5) M8) (fun M12 =>
      ob (f_X2_step o1 o2 x3 M12) (fun M14 =>
      ob (f_X2_step o1 o2 x7 M14) (fun M16 =>
      ob (f_X2_highIn o1 o2 a3 M16) (fun x18 =>
      ob (f_X6_put (o0 + 1) (f_X0_place x3 x7) ((x18 - x1) - (f_X0_toll x3)) M16) (fun M21 =>
      ob (f_X2_highIn o1 o2 a4 M21) (fun x23 =>
      ob (f_X6_put (o0 + 2) (f_X0_place x3 x7) ((x23 - x2) - (f_X0_toll x7)) M21) (fun M26 =>
      lq (x7 + (1 : Int32)) (fun x27 =>
      f_X0_weigh_L35 o0 o1 o2 a3 a4 x1 x2 x3 n x27 M26)))))))))
def f_X0_weigh_L26 (o0 : Nat) (o1 : Nat) (o2 : Nat) (a3 : Int32) (a4 : Int32) (x1 : Int32) (x2 : Int32) : Nat → Int32 → Mem → Option (Int32 × Mem)
  | 0, _, _ => none
  | n + 1, x3, M4 =>
    if (5 : Int32) ≤ x3 then (
      some (x3, M4))
    else (
      ob2 (f_X0_weigh_L35 o0 o1 o2 a3 a4 x1 x2 x3 FU (0 : Int32) M4) (fun x9 M10 =>
      lq (x3 + (1 : Int32)) (fun x29 =>
      f_X0_weigh_L26 o0 o1 o2 a3 a4 x1 x2 n x29 M10)))
def f_X0_weigh (o0 : Nat) (o1 : Nat) (o2 : Nat) (a3 : Int32) (a4 : Int32) (M : Mem) : Option (Mem) :=
  ob (f_X2_highIn o1 (o1 + 5) a3 M) (fun x1 =>
  ob (f_X2_highIn o1 (o1 + 5) a4 M) (fun x2 =>
  ob2 (f_X0_weigh_L26 o0 o1 o2 a3 a4 x1 x2 FU (0 : Int32) M) (fun x5 M6 =>
  some M6)))
set_option maxHeartbeats 4000000 in
set_option maxRecDepth 100000 in
theorem c_X0_weigh (l : Launch) (G : GT) {o0 : Nat} (h0 : kd o0 = 0) {o1 : Nat} (h1 : kd o1 = 2) {o2 : Nat} (h2 : kd o2 = 1) (a3 : Int32) (a4 : Int32) (M : Mem) {M' : Mem} (hk : f_X0_weigh o0 o1 o2 a3 a4 M = some M') : CMv l G true yX0_weigh cX0_weigh 9 none 4 [.ref (ad G o0), .ref (ad G o1), .ref (ad G o2), .int a3, .int a4] M M' := by
  unfold f_X0_weigh at hk
  refine CMv.of (by decide) (Nat.le_of_ble_eq_true rfl) ?_
  intro p e s m args below meth c Q hx hb hml hown hg hK hW hret ls hl
  have hl : lv_has ls 9 [(0, .ref (ad G o0)), (1, .ref (ad G o1)), (2, .ref (ad G o2)), (3, .int a3), (4, .int a4)] := hl
  refine lv_aload_n hx hb dX0_weigh_0 rfl (lv_at hl 1 rfl) ?_
  refine lv_aload_n hx hb dX0_weigh_1 rfl (lv_at hl 1 rfl) ?_
  refine gt_X0_18 hx hb hg hown hK hW h1 dX0_weigh_2 ?_
  refine lv_iload_n hx hb dX0_weigh_5 rfl (lv_at hl 3 rfl) ?_
  replace hk := ob_s hk
  obtain ⟨x1, hx1, hk⟩ := hk
  refine cl_i (rn_VN n_765 g_549 gs_34 g_2 g_550 hd_X2_highIn (Nat.le_of_ble_eq_true rfl) (ci := 2) rfl (inC h1 rfl) (shp2 h1) hx hb hml hown hg hK hW (As := [.ref (ad G (o1 + 5)), .int a3]) (c_X2_highIn l G h1 (k2_5 h1) a3 M hx1) (by decide) rfl hl.1 rfl (Nat.le_of_ble_eq_true rfl) dX0_weigh_6) hW (fun H locs hW => ?_)
  refine lv_istore (lv' := [(5, .int x1), (0, .ref (ad G o0)), (1, .ref (ad G o1)), (2, .ref (ad G o2)), (3, .int a3), (4, .int a4)]) hx hb dX0_weigh_9 hl (by decide) rfl (fun ls hl => ?_)
  refine lv_aload_n hx hb dX0_weigh_11 rfl (lv_at hl 2 rfl) ?_
  refine lv_aload_n hx hb dX0_weigh_12 rfl (lv_at hl 2 rfl) ?_
  refine gt_X0_18 hx hb hg hown hK hW h1 dX0_weigh_13 ?_
  refine lv_iload hx hb dX0_weigh_16 (lv_at hl 5 rfl) ?_
  replace hk := ob_s hk
  obtain ⟨x2, hx2, hk⟩ := hk
  refine cl_i (rn_VN n_765 g_549 gs_34 g_2 g_550 hd_X2_highIn (Nat.le_of_ble_eq_true rfl) (ci := 2) rfl (inC h1 rfl) (shp2 h1) hx hb hml hown hg hK hW (As := [.ref (ad G (o1 + 5)), .int a4]) (c_X2_highIn l G h1 (k2_5 h1) a4 M hx2) (by decide) rfl hl.1 rfl (Nat.le_of_ble_eq_true rfl) dX0_weigh_18) hW (fun H locs hW => ?_)
  refine lv_istore (lv' := [(6, .int x2), (5, .int x1), (0, .ref (ad G o0)), (1, .ref (ad G o1)), (2, .ref (ad G o2)), (3, .int a3), (4, .int a4)]) hx hb dX0_weigh_21 hl (by decide) rfl (fun ls hl => ?_)
  refine lv_iconst (v := (0 : Int32)) hx hb dX0_weigh_23 (by decide) ?_
  refine lv_istore (lv' := [(7, .int (0 : Int32)), (6, .int x2), (5, .int x1), (0, .ref (ad G o0)), (1, .ref (ad G o1)), (2, .ref (ad G o2)), (3, .int a3), (4, .int a4)]) hx hb dX0_weigh_24 hl (by decide) rfl (fun ls hl => ?_)
  replace hk := ob2_s hk
  obtain ⟨x5, M6, hz33, hk⟩ := hk
  have KX26 : ∀ (H : Heap) (locs : List Loc) (ls : Array Slot), Ws G true M6 s H locs → lv_has ls 9 [] → Wx p l e 4 s m args below meth c Q H locs 134 ls [] := by
    intro H locs ls hW hl
    cases hk
    exact hret _ _ _ _ hW dX0_weigh_134
  clear hk
  have LH26 : ∀ (n : Nat) (x3 : Int32) (M4 : Mem) (H : Heap) (locs : List Loc) (ls : Array Slot), f_X0_weigh_L26 o0 o1 o2 a3 a4 x1 x2 n x3 M4 = some (x5, M6) → Ws G true M4 s H locs → lv_has ls 9 [(0, .ref (ad G o0)), (1, .ref (ad G o1)), (2, .ref (ad G o2)), (3, .int a3), (4, .int a4), (5, .int x1), (6, .int x2), (7, .int x3)] → Wx p l e 4 s m args below meth c Q H locs 26 ls [] := by
    clear hz33
    intro n
    induction n with
    | zero => intro _ _ _ _ _ hk; cases hk
    | succ n ih26 =>
      intro x3 M4 H locs ls hk hW hl
      rw [f_X0_weigh_L26.eq_2] at hk
      refine lv_iload hx hb dX0_weigh_26 (lv_at hl 7 rfl) ?_
      refine lv_iconst (v := (5 : Int32)) hx hb dX0_weigh_28 (by decide) ?_
      refine lv_icmp_ge (tgt := 134) hx hb dX0_weigh_29 (by decide) (fun c32 => ?_) (fun c32 => ?_)
      · replace hk := ite_t hk c32
        cases hk
        exact KX26 _ _ _ hW (lv_sub hl [] rfl)
      · replace hk := ite_f hk c32
        refine lv_iconst (v := (0 : Int32)) hx hb dX0_weigh_32 (by decide) ?_
        refine lv_istore (lv' := [(8, .int (0 : Int32)), (0, .ref (ad G o0)), (1, .ref (ad G o1)), (2, .ref (ad G o2)), (3, .int a3), (4, .int a4), (5, .int x1), (6, .int x2), (7, .int x3)]) hx hb dX0_weigh_33 hl (by decide) rfl (fun ls hl => ?_)
        replace hk := ob2_s hk
        obtain ⟨x9, M10, hz30, hk⟩ := hk
        have KX35 : ∀ (H : Heap) (locs : List Loc) (ls : Array Slot), Ws G true M10 s H locs → lv_has ls 9 [(0, .ref (ad G o0)), (1, .ref (ad G o1)), (2, .ref (ad G o2)), (3, .int a3), (4, .int a4), (5, .int x1), (6, .int x2), (7, .int x3)] → Wx p l e 4 s m args below meth c Q H locs 128 ls [] := by
          intro H locs ls hW hl
          replace hk := lq_s hk
          obtain ⟨x29, ex29, hk⟩ := hk
          refine lv_iinc (v := x29) (lv' := [(7, .int x29), (0, .ref (ad G o0)), (1, .ref (ad G o1)), (2, .ref (ad G o2)), (3, .int a3), (4, .int a4), (5, .int x1), (6, .int x2)]) hx hb dX0_weigh_128 hl (k := 7) rfl (by rw [ex29]; rfl) (by decide) rfl (fun ls hl => ?_)
          refine lv_goto (tgt := 26) hx hb dX0_weigh_131 (by decide) ?_
          exact ih26 _ _ _ _ _ hk hW (lv_sub hl [1, 2, 3, 4, 5, 6, 7, 0] rfl)
        clear hk
        have LH35 : ∀ (n : Nat) (x7 : Int32) (M8 : Mem) (H : Heap) (locs : List Loc) (ls : Array Slot), f_X0_weigh_L35 o0 o1 o2 a3 a4 x1 x2 x3 n x7 M8 = some (x9, M10) → Ws G true M8 s H locs → lv_has ls 9 [(0, .ref (ad G o0)), (1, .ref (ad G o1)), (2, .ref (ad G o2)), (3, .int a3), (4, .int a4), (5, .int x1), (6, .int x2), (7, .int x3), (8, .int x7)] → Wx p l e 4 s m args below meth c Q H locs 35 ls [] := by
          clear hz30
          intro n
          induction n with
          | zero => intro _ _ _ _ _ hk; cases hk
          | succ n ih35 =>
            intro x7 M8 H locs ls hk hW hl
            rw [f_X0_weigh_L35.eq_2] at hk
            refine lv_iload hx hb dX0_weigh_35 (lv_at hl 8 rfl) ?_
            refine lv_iconst (v := (5 : Int32)) hx hb dX0_weigh_37 (by decide) ?_
            refine lv_icmp_ge (tgt := 128) hx hb dX0_weigh_38 (by decide) (fun c28 => ?_) (fun c28 => ?_)
            · replace hk := ite_t hk c28
              cases hk
              exact KX35 _ _ _ hW (lv_sub hl [0, 1, 2, 3, 4, 5, 6, 7] rfl)
            · replace hk := ite_f hk c28
              refine lv_aload_n hx hb dX0_weigh_41 rfl (lv_at hl 2 rfl) ?_
              refine lv_aload_n hx hb dX0_weigh_42 rfl (lv_at hl 1 rfl) ?_
              refine gt_X0_18 hx hb hg hown hK hW h1 dX0_weigh_43 ?_
              replace hk := ob_s hk
              obtain ⟨M12, hx11, hk⟩ := hk
              refine cl_v (rn_VN n_766 g_478 gs_24 g_3 g_479 hd_X1_become (Nat.le_of_ble_eq_true rfl) (ci := 1) rfl (inC h2 rfl) (shp1 h2) hx hb hml hown hg hK hW (As := [.ref (ad G (o1 + 5))]) (c_X1_become l G h2 (k2_5 h1) M8 hx11) (by decide) rfl hl.1 rfl (Nat.le_of_ble_eq_true rfl) dX0_weigh_46) hW (fun H locs hW => ?_)
              refine lv_aload_n hx hb dX0_weigh_49 rfl (lv_at hl 1 rfl) ?_
              refine lv_aload_n hx hb dX0_weigh_50 rfl (lv_at hl 2 rfl) ?_
              refine lv_iload hx hb dX0_weigh_51 (lv_at hl 7 rfl) ?_
              replace hk := ob_s hk
              obtain ⟨M14, hx13, hk⟩ := hk
              refine cl_v (rn_VN n_767 g_432 gs_18 g_2 g_433 hd_X2_step (Nat.le_of_ble_eq_true rfl) (ci := 2) rfl (inC h1 rfl) (shp2 h1) hx hb hml hown hg hK hW (As := [.ref (ad G o2), .int x3]) (c_X2_step l G h1 h2 x3 M12 hx13) (by decide) rfl hl.1 rfl (Nat.le_of_ble_eq_true rfl) dX0_weigh_53) hW (fun H locs hW => ?_)
              refine lv_aload_n hx hb dX0_weigh_56 rfl (lv_at hl 1 rfl) ?_
              refine lv_aload_n hx hb dX0_weigh_57 rfl (lv_at hl 2 rfl) ?_
              refine lv_iload hx hb dX0_weigh_58 (lv_at hl 8 rfl) ?_
              replace hk := ob_s hk
              obtain ⟨M16, hx15, hk⟩ := hk
              refine cl_v (rn_VN n_767 g_432 gs_18 g_2 g_433 hd_X2_step (Nat.le_of_ble_eq_true rfl) (ci := 2) rfl (inC h1 rfl) (shp2 h1) hx hb hml hown hg hK hW (As := [.ref (ad G o2), .int x7]) (c_X2_step l G h1 h2 x7 M14 hx15) (by decide) rfl hl.1 rfl (Nat.le_of_ble_eq_true rfl) dX0_weigh_60) hW (fun H locs hW => ?_)
              refine lv_aload_n hx hb dX0_weigh_63 rfl (lv_at hl 0 rfl) ?_
              refine gt_X0_9 hx hb hg hown hK hW h0 dX0_weigh_64 ?_
              refine lv_iload hx hb dX0_weigh_67 (lv_at hl 7 rfl) ?_
              refine lv_iload hx hb dX0_weigh_69 (lv_at hl 8 rfl) ?_
              refine cl_i (rn_S g_768 g_769 g_8 g_770 hd_X0_place (Nat.le_of_ble_eq_true rfl) hx hb hml hown hg hK hW (As := [.int x3, .int x7]) (c_X0_place l G x3 x7 M16) (by decide) rfl hl.1 rfl (Nat.le_of_ble_eq_true rfl) dX0_weigh_71) hW (fun H locs hW => ?_)
              refine lv_aload_n hx hb dX0_weigh_74 rfl (lv_at hl 1 rfl) ?_
              refine lv_aload_n hx hb dX0_weigh_75 rfl (lv_at hl 2 rfl) ?_
              refine lv_iload_n hx hb dX0_weigh_76 rfl (lv_at hl 3 rfl) ?_
              replace hk := ob_s hk
              obtain ⟨x18, hx18, hk⟩ := hk
              refine cl_i (rn_VN n_765 g_549 gs_34 g_2 g_550 hd_X2_highIn (Nat.le_of_ble_eq_true rfl) (ci := 2) rfl (inC h1 rfl) (shp2 h1) hx hb hml hown hg hK hW (As := [.ref (ad G o2), .int a3]) (c_X2_highIn l G h1 h2 a3 M16 hx18) (by decide) rfl hl.1 rfl (Nat.le_of_ble_eq_true rfl) dX0_weigh_77) hW (fun H locs hW => ?_)
              refine lv_iload hx hb dX0_weigh_80 (lv_at hl 5 rfl) ?_
              refine lv_isub hx hb dX0_weigh_82 ?_
              refine lv_iload hx hb dX0_weigh_83 (lv_at hl 7 rfl) ?_
              refine cl_i (rn_S g_771 g_772 g_8 g_773 hd_X0_toll (Nat.le_of_ble_eq_true rfl) hx hb hml hown hg hK hW (As := [.int x3]) (c_X0_toll l G x3 M16) (by decide) rfl hl.1 rfl (Nat.le_of_ble_eq_true rfl) dX0_weigh_85) hW (fun H locs hW => ?_)
              refine lv_isub hx hb dX0_weigh_88 ?_
              replace hk := ob_s hk
              obtain ⟨M21, hx20, hk⟩ := hk
              refine cl_v (rn_SN n_774 g_294 g_1 g_295 hd_X6_put (Nat.le_of_ble_eq_true rfl) hx hb hml hown hg hK hW (As := [.ref (ad G (o0 + 1)), .int (f_X0_place x3 x7), .int ((x18 - x1) - (f_X0_toll x3))]) (c_X6_put l G (k0_1 h0) (f_X0_place x3 x7) ((x18 - x1) - (f_X0_toll x3)) M16 hx20) (by decide) rfl hl.1 rfl (Nat.le_of_ble_eq_true rfl) dX0_weigh_89) hW (fun H locs hW => ?_)
              refine lv_aload_n hx hb dX0_weigh_92 rfl (lv_at hl 0 rfl) ?_
              refine gt_X0_15 hx hb hg hown hK hW h0 dX0_weigh_93 ?_
              refine lv_iload hx hb dX0_weigh_96 (lv_at hl 7 rfl) ?_
              refine lv_iload hx hb dX0_weigh_98 (lv_at hl 8 rfl) ?_
              refine cl_i (rn_S g_768 g_769 g_8 g_770 hd_X0_place (Nat.le_of_ble_eq_true rfl) hx hb hml hown hg hK hW (As := [.int x3, .int x7]) (c_X0_place l G x3 x7 M21) (by decide) rfl hl.1 rfl (Nat.le_of_ble_eq_true rfl) dX0_weigh_100) hW (fun H locs hW => ?_)
              refine lv_aload_n hx hb dX0_weigh_103 rfl (lv_at hl 1 rfl) ?_
              refine lv_aload_n hx hb dX0_weigh_104 rfl (lv_at hl 2 rfl) ?_
              refine lv_iload hx hb dX0_weigh_105 (lv_at hl 4 rfl) ?_
              replace hk := ob_s hk
              obtain ⟨x23, hx23, hk⟩ := hk
              refine cl_i (rn_VN n_765 g_549 gs_34 g_2 g_550 hd_X2_highIn (Nat.le_of_ble_eq_true rfl) (ci := 2) rfl (inC h1 rfl) (shp2 h1) hx hb hml hown hg hK hW (As := [.ref (ad G o2), .int a4]) (c_X2_highIn l G h1 h2 a4 M21 hx23) (by decide) rfl hl.1 rfl (Nat.le_of_ble_eq_true rfl) dX0_weigh_107) hW (fun H locs hW => ?_)
              refine lv_iload hx hb dX0_weigh_110 (lv_at hl 6 rfl) ?_
              refine lv_isub hx hb dX0_weigh_112 ?_
              refine lv_iload hx hb dX0_weigh_113 (lv_at hl 8 rfl) ?_
              refine cl_i (rn_S g_771 g_772 g_8 g_773 hd_X0_toll (Nat.le_of_ble_eq_true rfl) hx hb hml hown hg hK hW (As := [.int x7]) (c_X0_toll l G x7 M21) (by decide) rfl hl.1 rfl (Nat.le_of_ble_eq_true rfl) dX0_weigh_115) hW (fun H locs hW => ?_)
              refine lv_isub hx hb dX0_weigh_118 ?_
              replace hk := ob_s hk
              obtain ⟨M26, hx25, hk⟩ := hk
              refine cl_v (rn_SN n_774 g_294 g_1 g_295 hd_X6_put (Nat.le_of_ble_eq_true rfl) hx hb hml hown hg hK hW (As := [.ref (ad G (o0 + 2)), .int (f_X0_place x3 x7), .int ((x23 - x2) - (f_X0_toll x7))]) (c_X6_put l G (k0_2 h0) (f_X0_place x3 x7) ((x23 - x2) - (f_X0_toll x7)) M21 hx25) (by decide) rfl hl.1 rfl (Nat.le_of_ble_eq_true rfl) dX0_weigh_119) hW (fun H locs hW => ?_)
              replace hk := lq_s hk
              obtain ⟨x27, ex27, hk⟩ := hk
              refine lv_iinc (v := x27) (lv' := [(8, .int x27), (0, .ref (ad G o0)), (1, .ref (ad G o1)), (2, .ref (ad G o2)), (3, .int a3), (4, .int a4), (5, .int x1), (6, .int x2), (7, .int x3)]) hx hb dX0_weigh_122 hl (k := 8) rfl (by rw [ex27]; rfl) (by decide) rfl (fun ls hl => ?_)
              refine lv_goto (tgt := 35) hx hb dX0_weigh_125 (by decide) ?_
              exact ih35 _ _ _ _ _ hk hW (lv_sub hl [1, 2, 3, 4, 5, 6, 7, 8, 0] rfl)
        exact LH35 FU _ _ _ _ _ hz30 hW (lv_sub hl [1, 2, 3, 4, 5, 6, 7, 8, 0] rfl)
  exact LH26 FU _ _ _ _ _ hz33 hW (lv_sub hl [3, 4, 5, 6, 7, 2, 1, 0] rfl)
def f_X0_rests_L2 (o0 : Nat) (a1 : Int32) (a2 : Int32) (M : Mem) : Nat → Int32 → Option ((Int32) ⊕ (Int32))
  | 0, _ => none
  | n + 1, x1 =>
    if (5 : Int32) ≤ x1 then (
      some (Sum.inl x1))
    else (
      ob (f_X6_cell (o0 + 1) (f_X0_place x1 a2) M) (fun x4 =>
      ob (f_X6_cell (o0 + 1) (f_X0_place a1 a2) M) (fun x6 =>
      if x6 < x4 then (
        some (Sum.inr (0 : Int32)))
      else (
        ob (f_X6_cell (o0 + 2) (f_X0_place a1 x1) M) (fun x8 =>
        ob (f_X6_cell (o0 + 2) (f_X0_place a1 a2) M) (fun x10 =>
        if x8 ≤ x10 then (
          lq (x1 + (1 : Int32)) (fun x11 =>
          f_X0_rests_L2 o0 a1 a2 M n x11))
        else (
          some (Sum.inr (0 : Int32)))))))))
def f_X0_rests (o0 : Nat) (a1 : Int32) (a2 : Int32) (M : Mem) : Option (Int32) :=
  oeT1 (f_X0_rests_L2 o0 a1 a2 M FU (0 : Int32)) (fun x2 =>
  some (1 : Int32))
set_option maxHeartbeats 4000000 in
set_option maxRecDepth 100000 in
theorem c_X0_rests (l : Launch) (G : GT) {o0 : Nat} (h0 : kd o0 = 0) (a1 : Int32) (a2 : Int32) (M : Mem) {r : Int32} (hk : f_X0_rests o0 a1 a2 M = some r) : CMi l G true yX0_rests cX0_rests 4 (some .boolean) 1 [.ref (ad G o0), .int a1, .int a2] M r M := by
  unfold f_X0_rests at hk
  refine CMi.ofZ (by decide) (Nat.le_of_ble_eq_true rfl) ?_
  intro p e s m args below meth c Q hx hb hml hown hg hK hW hret ls hl
  have hl : lv_has ls 4 [(0, .ref (ad G o0)), (1, .int a1), (2, .int a2)] := hl
  refine lv_iconst (v := (0 : Int32)) hx hb dX0_rests_0 (by decide) ?_
  refine lv_istore_n (lv' := [(3, .int (0 : Int32)), (0, .ref (ad G o0)), (1, .int a1), (2, .int a2)]) hx hb dX0_rests_1 rfl hl (by decide) rfl (fun ls hl => ?_)
  replace hk := oeT1_s hk
  obtain ⟨z16, hz15, hk_2⟩ := hk
  have KX2 : ∀ (x2 : Int32), z16 = Sum.inl x2 → ∀ (H : Heap) (locs : List Loc) (ls : Array Slot), Ws G true M s H locs → lv_has ls 4 [] → Wx p l e 1 s m args below meth c Q H locs 69 ls [] := by
    intro x2 ez H locs ls hW hl
    have hk := hk_2.1 x2 ez
    refine lv_iconst (v := (1 : Int32)) hx hb dX0_rests_69 (by decide) ?_
    cases hk
    exact hret _ _ _ _ (Or.inr rfl) hW dX0_rests_70
  have LH2 : ∀ (n : Nat) (x1 : Int32) (H : Heap) (locs : List Loc) (ls : Array Slot), f_X0_rests_L2 o0 a1 a2 M n x1 = some z16 → Ws G true M s H locs → lv_has ls 4 [(0, .ref (ad G o0)), (1, .int a1), (2, .int a2), (3, .int x1)] → Wx p l e 1 s m args below meth c Q H locs 2 ls [] := by
    clear hz15
    intro n
    induction n with
    | zero => intro _ _ _ _ hk; cases hk
    | succ n ih2 =>
      intro x1 H locs ls hk hW hl
      rw [f_X0_rests_L2.eq_2] at hk
      refine lv_iload_n hx hb dX0_rests_2 rfl (lv_at hl 3 rfl) ?_
      refine lv_iconst (v := (5 : Int32)) hx hb dX0_rests_3 (by decide) ?_
      refine lv_icmp_ge (tgt := 69) hx hb dX0_rests_4 (by decide) (fun c14 => ?_) (fun c14 => ?_)
      · replace hk := ite_t hk c14
        cases hk
        exact KX2 _ rfl _ _ _ hW (lv_sub hl [] rfl)
      · replace hk := ite_f hk c14
        refine lv_aload_n hx hb dX0_rests_7 rfl (lv_at hl 0 rfl) ?_
        refine gt_X0_9 hx hb hg hown hK hW h0 dX0_rests_8 ?_
        refine lv_iload_n hx hb dX0_rests_11 rfl (lv_at hl 3 rfl) ?_
        refine lv_iload_n hx hb dX0_rests_12 rfl (lv_at hl 2 rfl) ?_
        refine cl_i (rn_S g_768 g_769 g_8 g_770 hd_X0_place (Nat.le_of_ble_eq_true rfl) hx hb hml hown hg hK hW (As := [.int x1, .int a2]) (c_X0_place l G x1 a2 M) (by decide) rfl hl.1 rfl (Nat.le_of_ble_eq_true rfl) dX0_rests_13) hW (fun H locs hW => ?_)
        replace hk := ob_s hk
        obtain ⟨x4, hx4, hk⟩ := hk
        refine cl_i (rn_SN n_779 g_346 g_1 g_347 hd_X6_cell (Nat.le_of_ble_eq_true rfl) hx hb hml hown hg hK hW (As := [.ref (ad G (o0 + 1)), .int (f_X0_place x1 a2)]) (c_X6_cell l G (k0_1 h0) (f_X0_place x1 a2) M hx4) (by decide) rfl hl.1 rfl (Nat.le_of_ble_eq_true rfl) dX0_rests_16) hW (fun H locs hW => ?_)
        refine lv_aload_n hx hb dX0_rests_19 rfl (lv_at hl 0 rfl) ?_
        refine gt_X0_9 hx hb hg hown hK hW h0 dX0_rests_20 ?_
        refine lv_iload_n hx hb dX0_rests_23 rfl (lv_at hl 1 rfl) ?_
        refine lv_iload_n hx hb dX0_rests_24 rfl (lv_at hl 2 rfl) ?_
        refine cl_i (rn_S g_768 g_769 g_8 g_770 hd_X0_place (Nat.le_of_ble_eq_true rfl) hx hb hml hown hg hK hW (As := [.int a1, .int a2]) (c_X0_place l G a1 a2 M) (by decide) rfl hl.1 rfl (Nat.le_of_ble_eq_true rfl) dX0_rests_25) hW (fun H locs hW => ?_)
        replace hk := ob_s hk
        obtain ⟨x6, hx6, hk⟩ := hk
        refine cl_i (rn_SN n_779 g_346 g_1 g_347 hd_X6_cell (Nat.le_of_ble_eq_true rfl) hx hb hml hown hg hK hW (As := [.ref (ad G (o0 + 1)), .int (f_X0_place a1 a2)]) (c_X6_cell l G (k0_1 h0) (f_X0_place a1 a2) M hx6) (by decide) rfl hl.1 rfl (Nat.le_of_ble_eq_true rfl) dX0_rests_28) hW (fun H locs hW => ?_)
        refine lv_icmp_gt (tgt := 61) hx hb dX0_rests_31 (by decide) (fun c13 => ?_) (fun c13 => ?_)
        · replace hk := ite_t hk c13
          refine lv_iconst (v := (0 : Int32)) hx hb dX0_rests_61 (by decide) ?_
          cases hk
          have hk := hk_2.2 _ rfl
          cases hk
          exact hret _ _ _ _ (Or.inl rfl) hW dX0_rests_62
        · replace hk := ite_f hk c13
          refine lv_aload_n hx hb dX0_rests_34 rfl (lv_at hl 0 rfl) ?_
          refine gt_X0_15 hx hb hg hown hK hW h0 dX0_rests_35 ?_
          refine lv_iload_n hx hb dX0_rests_38 rfl (lv_at hl 1 rfl) ?_
          refine lv_iload_n hx hb dX0_rests_39 rfl (lv_at hl 3 rfl) ?_
          refine cl_i (rn_S g_768 g_769 g_8 g_770 hd_X0_place (Nat.le_of_ble_eq_true rfl) hx hb hml hown hg hK hW (As := [.int a1, .int x1]) (c_X0_place l G a1 x1 M) (by decide) rfl hl.1 rfl (Nat.le_of_ble_eq_true rfl) dX0_rests_40) hW (fun H locs hW => ?_)
          replace hk := ob_s hk
          obtain ⟨x8, hx8, hk⟩ := hk
          refine cl_i (rn_SN n_779 g_346 g_1 g_347 hd_X6_cell (Nat.le_of_ble_eq_true rfl) hx hb hml hown hg hK hW (As := [.ref (ad G (o0 + 2)), .int (f_X0_place a1 x1)]) (c_X6_cell l G (k0_2 h0) (f_X0_place a1 x1) M hx8) (by decide) rfl hl.1 rfl (Nat.le_of_ble_eq_true rfl) dX0_rests_43) hW (fun H locs hW => ?_)
          refine lv_aload_n hx hb dX0_rests_46 rfl (lv_at hl 0 rfl) ?_
          refine gt_X0_15 hx hb hg hown hK hW h0 dX0_rests_47 ?_
          refine lv_iload_n hx hb dX0_rests_50 rfl (lv_at hl 1 rfl) ?_
          refine lv_iload_n hx hb dX0_rests_51 rfl (lv_at hl 2 rfl) ?_
          refine cl_i (rn_S g_768 g_769 g_8 g_770 hd_X0_place (Nat.le_of_ble_eq_true rfl) hx hb hml hown hg hK hW (As := [.int a1, .int a2]) (c_X0_place l G a1 a2 M) (by decide) rfl hl.1 rfl (Nat.le_of_ble_eq_true rfl) dX0_rests_52) hW (fun H locs hW => ?_)
          replace hk := ob_s hk
          obtain ⟨x10, hx10, hk⟩ := hk
          refine cl_i (rn_SN n_779 g_346 g_1 g_347 hd_X6_cell (Nat.le_of_ble_eq_true rfl) hx hb hml hown hg hK hW (As := [.ref (ad G (o0 + 2)), .int (f_X0_place a1 a2)]) (c_X6_cell l G (k0_2 h0) (f_X0_place a1 a2) M hx10) (by decide) rfl hl.1 rfl (Nat.le_of_ble_eq_true rfl) dX0_rests_55) hW (fun H locs hW => ?_)
          refine lv_icmp_le (tgt := 63) hx hb dX0_rests_58 (by decide) (fun c12 => ?_) (fun c12 => ?_)
          · replace hk := ite_t hk c12
            replace hk := lq_s hk
            obtain ⟨x11, ex11, hk⟩ := hk
            refine lv_iinc (v := x11) (lv' := [(3, .int x11), (0, .ref (ad G o0)), (1, .int a1), (2, .int a2)]) hx hb dX0_rests_63 hl (k := 3) rfl (by rw [ex11]; rfl) (by decide) rfl (fun ls hl => ?_)
            refine lv_goto (tgt := 2) hx hb dX0_rests_66 (by decide) ?_
            exact ih2 _ _ _ _ hk hW (lv_sub hl [1, 2, 3, 0] rfl)
          · replace hk := ite_f hk c12
            refine lv_iconst (v := (0 : Int32)) hx hb dX0_rests_61 (by decide) ?_
            cases hk
            have hk := hk_2.2 _ rfl
            cases hk
            exact hret _ _ _ _ (Or.inl rfl) hW dX0_rests_62
  exact LH2 FU _ _ _ _ hz15 hW (lv_sub hl [1, 2, 3, 0] rfl)
def f_X1_begin (o0 : Nat) (a1 : Int32) (M : Mem) : Option (Mem) :=
  lq (s1 M o0 0 a1) (fun M1 =>
  lq (s1 M1 o0 1 (0 : Int32)) (fun M2 =>
  lq (s1 M2 o0 2 (0 : Int32)) (fun M3 =>
  some M3)))
set_option maxHeartbeats 4000000 in
set_option maxRecDepth 100000 in
theorem c_X1_begin (l : Launch) (G : GT) {o0 : Nat} (h0 : kd o0 = 1) (a1 : Int32) (M : Mem) {M' : Mem} (hk : f_X1_begin o0 a1 M = some M') : CMv l G true yX1_begin cX1_begin 2 none 0 [.ref (ad G o0), .int a1] M M' := by
  unfold f_X1_begin at hk
  refine CMv.of (by decide) (Nat.le_of_ble_eq_true rfl) ?_
  intro p e s m args below meth c Q hx hb hml hown hg hK hW hret ls hl
  have hl : lv_has ls 2 [(0, .ref (ad G o0)), (1, .int a1)] := hl
  refine lv_aload_n hx hb dX1_begin_0 rfl (lv_at hl 0 rfl) ?_
  refine lv_iload_n hx hb dX1_begin_1 rfl (lv_at hl 1 rfl) ?_
  replace hk := lq_s hk
  obtain ⟨M1, eM1, hk⟩ := hk
  refine pt_X1_9 hx hb hg hown hK hW h0 eM1 dX1_begin_2 (fun H locs hW => ?_)
  refine lv_aload_n hx hb dX1_begin_5 rfl (lv_at hl 0 rfl) ?_
  refine lv_iconst (v := (0 : Int32)) hx hb dX1_begin_6 (by decide) ?_
  replace hk := lq_s hk
  obtain ⟨M2, eM2, hk⟩ := hk
  refine pt_X1_15 hx hb hg hown hK hW h0 eM2 dX1_begin_7 (fun H locs hW => ?_)
  refine lv_aload_n hx hb dX1_begin_10 rfl (lv_at hl 0 rfl) ?_
  refine lv_iconst (v := (0 : Int32)) hx hb dX1_begin_11 (by decide) ?_
  replace hk := lq_s hk
  obtain ⟨M3, eM3, hk⟩ := hk
  refine pt_X1_18 hx hb hg hown hK hW h0 eM3 dX1_begin_12 (fun H locs hW => ?_)
  cases hk
  exact hret _ _ _ _ hW dX1_begin_15
def f_X5_drain (o0 : Nat) (M : Mem) : Option (Int32 × Mem) :=
  lq (M.1 o0 3) (fun x1 =>
  lq (s1 M o0 3 (0 : Int32)) (fun M2 =>
  some (x1, M2)))
set_option maxHeartbeats 4000000 in
set_option maxRecDepth 100000 in
theorem c_X5_drain (l : Launch) (G : GT) {o0 : Nat} (h0 : kd o0 = 5) (M : Mem) {r : Int32} {M' : Mem} (hk : f_X5_drain o0 M = some (r, M')) : CMi l G true yX5_drain cX5_drain 2 (some .int) 0 [.ref (ad G o0)] M r M' := by
  unfold f_X5_drain at hk
  refine CMi.of (by decide) (Nat.le_of_ble_eq_true rfl) ?_
  intro p e s m args below meth c Q hx hb hml hown hg hK hW hret ls hl
  have hl : lv_has ls 2 [(0, .ref (ad G o0))] := hl
  refine lv_aload_n hx hb dX5_drain_0 rfl (lv_at hl 0 rfl) ?_
  refine gt_X5_7 hx hb hg hown hK hW h0 dX5_drain_1 ?_
  replace hk := lq_s hk
  obtain ⟨x1, ex1, hk⟩ := hk
  refine nm_i ex1 ?_
  refine lv_istore_n (lv' := [(1, .int x1), (0, .ref (ad G o0))]) hx hb dX5_drain_4 rfl hl (by decide) rfl (fun ls hl => ?_)
  refine lv_aload_n hx hb dX5_drain_5 rfl (lv_at hl 1 rfl) ?_
  refine lv_iconst (v := (0 : Int32)) hx hb dX5_drain_6 (by decide) ?_
  replace hk := lq_s hk
  obtain ⟨M2, eM2, hk⟩ := hk
  refine pt_X5_7 hx hb hg hown hK hW h0 eM2 dX5_drain_7 (fun H locs hW => ?_)
  refine lv_iload_n hx hb dX5_drain_10 rfl (lv_at hl 0 rfl) ?_
  cases hk
  exact hret _ _ _ _ hW dX5_drain_11
def f_X2_begin_L20 (o0 : Nat) : Nat → Int32 → Mem → Option (Int32 × Mem)
  | 0, _, _ => none
  | n + 1, x5, M6 =>
    if (8 : Int32) ≤ x5 then (
      some (x5, M6))
    else (
      ob (f_X6_put (o0 + 33) x5 (4 : Int32) M6) (fun M10 =>
      ob (f_X6_put (o0 + 34) x5 (0 : Int32) M10) (fun M12 =>
      lq (x5 + (1 : Int32)) (fun x13 =>
      f_X2_begin_L20 o0 n x13 M12))))
def f_X2_begin (o0 : Nat) (a1 : Int32) (M : Mem) : Option (Mem) :=
  lq (s1 M o0 4 (0 : Int32)) (fun M1 =>
  ob (f_X1_begin (o0 + 5) a1 M1) (fun M3 =>
  lq (s1 M3 o0 8 (0 : Int32)) (fun M4 =>
  ob2 (f_X2_begin_L20 o0 FU (0 : Int32) M4) (fun x7 M8 =>
  lq (s1 M8 o0 11 (0 : Int32)) (fun M15 =>
  ob2 (f_X5_drain (o0 + 35) M15) (fun x16 M17 =>
  ob2 (f_X5_drain (o0 + 37) M17) (fun x18 M19 =>
  ob2 (f_X5_drain (o0 + 39) M19) (fun x20 M21 =>
  some M21))))))))
set_option maxHeartbeats 4000000 in
set_option maxRecDepth 100000 in
theorem c_X2_begin (l : Launch) (G : GT) {o0 : Nat} (h0 : kd o0 = 2) (a1 : Int32) (M : Mem) {M' : Mem} (hk : f_X2_begin o0 a1 M = some M') : CMv l G true yX2_begin cX2_begin 3 none 1 [.ref (ad G o0), .int a1] M M' := by
  unfold f_X2_begin at hk
  refine CMv.of (by decide) (Nat.le_of_ble_eq_true rfl) ?_
  intro p e s m args below meth c Q hx hb hml hown hg hK hW hret ls hl
  have hl : lv_has ls 3 [(0, .ref (ad G o0)), (1, .int a1)] := hl
  refine lv_aload_n hx hb dX2_begin_0 rfl (lv_at hl 0 rfl) ?_
  refine lv_iconst (v := (0 : Int32)) hx hb dX2_begin_1 (by decide) ?_
  replace hk := lq_s hk
  obtain ⟨M1, eM1, hk⟩ := hk
  refine pt_X2_24 hx hb hg hown hK hW h0 eM1 dX2_begin_2 (fun H locs hW => ?_)
  refine lv_aload_n hx hb dX2_begin_5 rfl (lv_at hl 0 rfl) ?_
  refine gt_X2_31 hx hb hg hown hK hW h0 dX2_begin_6 ?_
  refine lv_iload_n hx hb dX2_begin_9 rfl (lv_at hl 1 rfl) ?_
  replace hk := ob_s hk
  obtain ⟨M3, hx2, hk⟩ := hk
  refine cl_v (rn_VN n_289 g_291 gs_2 g_3 g_292 hd_X1_begin (Nat.le_of_ble_eq_true rfl) (ci := 1) rfl (inC (k2_5 h0) rfl) (shp1 (k2_5 h0)) hx hb hml hown hg hK hW (As := [.int a1]) (c_X1_begin l G (k2_5 h0) a1 M1 hx2) (by decide) rfl hl.1 rfl (Nat.le_of_ble_eq_true rfl) dX2_begin_10) hW (fun H locs hW => ?_)
  refine lv_aload_n hx hb dX2_begin_13 rfl (lv_at hl 0 rfl) ?_
  refine lv_iconst (v := (0 : Int32)) hx hb dX2_begin_14 (by decide) ?_
  replace hk := lq_s hk
  obtain ⟨M4, eM4, hk⟩ := hk
  refine pt_X2_42 hx hb hg hown hK hW h0 eM4 dX2_begin_15 (fun H locs hW => ?_)
  refine lv_iconst (v := (0 : Int32)) hx hb dX2_begin_18 (by decide) ?_
  refine lv_istore_n (lv' := [(2, .int (0 : Int32)), (0, .ref (ad G o0)), (1, .int a1)]) hx hb dX2_begin_19 rfl hl (by decide) rfl (fun ls hl => ?_)
  replace hk := ob2_s hk
  obtain ⟨x7, M8, hz22, hk⟩ := hk
  have KX20 : ∀ (H : Heap) (locs : List Loc) (ls : Array Slot), Ws G true M8 s H locs → lv_has ls 3 [(0, .ref (ad G o0))] → Wx p l e 1 s m args below meth c Q H locs 50 ls [] := by
    intro H locs ls hW hl
    refine lv_aload_n hx hb dX2_begin_50 rfl (lv_at hl 0 rfl) ?_
    refine lv_iconst (v := (0 : Int32)) hx hb dX2_begin_51 (by decide) ?_
    replace hk := lq_s hk
    obtain ⟨M15, eM15, hk⟩ := hk
    refine pt_X2_51 hx hb hg hown hK hW h0 eM15 dX2_begin_52 (fun H locs hW => ?_)
    refine lv_aload_n hx hb dX2_begin_55 rfl (lv_at hl 0 rfl) ?_
    refine gt_X2_59 hx hb hg hown hK hW h0 dX2_begin_56 ?_
    replace hk := ob2_s hk
    obtain ⟨x16, M17, hx16, hk⟩ := hk
    refine cl_i (rn_VN n_296 g_298 gs_3 g_4 g_299 hd_X5_drain (Nat.le_of_ble_eq_true rfl) (ci := 5) rfl (inC (k2_35 h0) rfl) (shp5 (k2_35 h0)) hx hb hml hown hg hK hW (As := []) (c_X5_drain l G (k2_35 h0) M15 hx16) (by decide) rfl hl.1 rfl (Nat.le_of_ble_eq_true rfl) dX2_begin_59) hW (fun H locs hW => ?_)
    refine lv_pop hx hb dX2_begin_62 rfl ?_
    refine lv_aload_n hx hb dX2_begin_63 rfl (lv_at hl 0 rfl) ?_
    refine gt_X2_63 hx hb hg hown hK hW h0 dX2_begin_64 ?_
    replace hk := ob2_s hk
    obtain ⟨x18, M19, hx18, hk⟩ := hk
    refine cl_i (rn_VN n_296 g_298 gs_3 g_4 g_299 hd_X5_drain (Nat.le_of_ble_eq_true rfl) (ci := 5) rfl (inC (k2_37 h0) rfl) (shp5 (k2_37 h0)) hx hb hml hown hg hK hW (As := []) (c_X5_drain l G (k2_37 h0) M17 hx18) (by decide) rfl hl.1 rfl (Nat.le_of_ble_eq_true rfl) dX2_begin_67) hW (fun H locs hW => ?_)
    refine lv_pop hx hb dX2_begin_70 rfl ?_
    refine lv_aload_n hx hb dX2_begin_71 rfl (lv_at hl 0 rfl) ?_
    refine gt_X2_66 hx hb hg hown hK hW h0 dX2_begin_72 ?_
    replace hk := ob2_s hk
    obtain ⟨x20, M21, hx20, hk⟩ := hk
    refine cl_i (rn_VN n_296 g_298 gs_3 g_4 g_299 hd_X5_drain (Nat.le_of_ble_eq_true rfl) (ci := 5) rfl (inC (k2_39 h0) rfl) (shp5 (k2_39 h0)) hx hb hml hown hg hK hW (As := []) (c_X5_drain l G (k2_39 h0) M19 hx20) (by decide) rfl hl.1 rfl (Nat.le_of_ble_eq_true rfl) dX2_begin_75) hW (fun H locs hW => ?_)
    refine lv_pop hx hb dX2_begin_78 rfl ?_
    cases hk
    exact hret _ _ _ _ hW dX2_begin_79
  clear hk
  have LH20 : ∀ (n : Nat) (x5 : Int32) (M6 : Mem) (H : Heap) (locs : List Loc) (ls : Array Slot), f_X2_begin_L20 o0 n x5 M6 = some (x7, M8) → Ws G true M6 s H locs → lv_has ls 3 [(0, .ref (ad G o0)), (2, .int x5)] → Wx p l e 1 s m args below meth c Q H locs 20 ls [] := by
    clear hz22
    intro n
    induction n with
    | zero => intro _ _ _ _ _ hk; cases hk
    | succ n ih20 =>
      intro x5 M6 H locs ls hk hW hl
      rw [f_X2_begin_L20.eq_2] at hk
      refine lv_iload_n hx hb dX2_begin_20 rfl (lv_at hl 1 rfl) ?_
      refine lv_bipush (v := (8 : Int32)) hx hb dX2_begin_21 (by decide) ?_
      refine lv_icmp_ge (tgt := 50) hx hb dX2_begin_23 (by decide) (fun c14 => ?_) (fun c14 => ?_)
      · replace hk := ite_t hk c14
        cases hk
        exact KX20 _ _ _ hW (lv_sub hl [0] rfl)
      · replace hk := ite_f hk c14
        refine lv_aload_n hx hb dX2_begin_26 rfl (lv_at hl 0 rfl) ?_
        refine gt_X2_45 hx hb hg hown hK hW h0 dX2_begin_27 ?_
        refine lv_iload_n hx hb dX2_begin_30 rfl (lv_at hl 1 rfl) ?_
        refine lv_iconst (v := (4 : Int32)) hx hb dX2_begin_31 (by decide) ?_
        replace hk := ob_s hk
        obtain ⟨M10, hx9, hk⟩ := hk
        refine cl_v (rn_SN n_293 g_294 g_1 g_295 hd_X6_put (Nat.le_of_ble_eq_true rfl) hx hb hml hown hg hK hW (As := [.ref (ad G (o0 + 33)), .int x5, .int (4 : Int32)]) (c_X6_put l G (k2_33 h0) x5 (4 : Int32) M6 hx9) (by decide) rfl hl.1 rfl (Nat.le_of_ble_eq_true rfl) dX2_begin_32) hW (fun H locs hW => ?_)
        refine lv_aload_n hx hb dX2_begin_35 rfl (lv_at hl 0 rfl) ?_
        refine gt_X2_48 hx hb hg hown hK hW h0 dX2_begin_36 ?_
        refine lv_iload_n hx hb dX2_begin_39 rfl (lv_at hl 1 rfl) ?_
        refine lv_iconst (v := (0 : Int32)) hx hb dX2_begin_40 (by decide) ?_
        replace hk := ob_s hk
        obtain ⟨M12, hx11, hk⟩ := hk
        refine cl_v (rn_SN n_293 g_294 g_1 g_295 hd_X6_put (Nat.le_of_ble_eq_true rfl) hx hb hml hown hg hK hW (As := [.ref (ad G (o0 + 34)), .int x5, .int (0 : Int32)]) (c_X6_put l G (k2_34 h0) x5 (0 : Int32) M10 hx11) (by decide) rfl hl.1 rfl (Nat.le_of_ble_eq_true rfl) dX2_begin_41) hW (fun H locs hW => ?_)
        replace hk := lq_s hk
        obtain ⟨x13, ex13, hk⟩ := hk
        refine lv_iinc (v := x13) (lv' := [(2, .int x13), (0, .ref (ad G o0))]) hx hb dX2_begin_44 hl (k := 1) rfl (by rw [ex13]; rfl) (by decide) rfl (fun ls hl => ?_)
        refine lv_goto (tgt := 20) hx hb dX2_begin_47 (by decide) ?_
        exact ih20 _ _ _ _ _ hk hW (lv_sub hl [1, 0] rfl)
  exact LH20 FU _ _ _ _ _ hz22 hW (lv_sub hl [1, 0] rfl)
def f_X2_pastAt (o0 : Nat) (a1 : Int32) : Option (Nat) :=
  if a1 < (0 : Int32) then (
    some (o0 + 5))
  else (
    if (nI 8) ≤ a1 then (
      some (o0 + 5))
    else (
      ob (rdP (o0 + 8) a1) (fun q1 =>
      some q1)))
set_option maxHeartbeats 4000000 in
set_option maxRecDepth 100000 in
theorem c_X2_pastAt (l : Launch) (G : GT) {o0 : Nat} (h0 : kd o0 = 2) (a1 : Int32) (M : Mem) {r : Nat} (hk : f_X2_pastAt o0 a1 = some r) : CMr l G true yX2_pastAt cX2_pastAt 3 (some (.object "StringPuppets$Pose")) 0 [.ref (ad G o0), .int a1] M r M := by
  unfold f_X2_pastAt at hk
  refine CMr.of (by decide) (Nat.le_of_ble_eq_true rfl) ?_
  intro p e s m args below meth c Q hx hb hml hown hg hK hW hret ls hl
  have hl : lv_has ls 3 [(0, .ref (ad G o0)), (1, .int a1)] := hl
  refine lv_iload_n hx hb dX2_pastAt_0 rfl (lv_at hl 1 rfl) ?_
  refine lv_if_lt (tgt := 22) hx hb dX2_pastAt_1 (by decide) (fun c3 => ?_) (fun c3 => ?_)
  · replace hk := ite_t hk c3
    refine lv_null hx hb dX2_pastAt_22 ?_
    refine lv_astore_nN (lv' := [(2, .null), (0, .ref (ad G o0)), (1, .int a1)]) hx hb dX2_pastAt_23 rfl hl (by decide) rfl (fun ls hl => ?_)
    refine lv_aload_nN hx hb dX2_pastAt_24 rfl (lv_at hl 0 rfl) ?_
    refine lv_ifnonnullN hx hb dX2_pastAt_25 ?_
    refine lv_aload_n hx hb dX2_pastAt_28 rfl (lv_at hl 1 rfl) ?_
    refine gt_X2_31 hx hb hg hown hK hW h0 dX2_pastAt_29 ?_
    refine lv_goto (tgt := 36) hx hb dX2_pastAt_32 (by decide) ?_
    cases hk
    exact hret _ _ _ _ hW dX2_pastAt_36
  · replace hk := ite_f hk c3
    refine lv_iload_n hx hb dX2_pastAt_4 rfl (lv_at hl 1 rfl) ?_
    refine lv_aload_n hx hb dX2_pastAt_5 rfl (lv_at hl 0 rfl) ?_
    refine gt_X2_35 hx hb hg hown hK hW h0 dX2_pastAt_6 ?_
    refine w_lenP hx hb hK hW (inC (k2_8 h0) rfl) (k2_8 h0) dX2_pastAt_9 ?_
    refine lv_icmp_ge (tgt := 22) hx hb dX2_pastAt_10 (by decide) (fun c2 => ?_) (fun c2 => ?_)
    · replace hk := ite_t hk c2
      refine lv_null hx hb dX2_pastAt_22 ?_
      refine lv_astore_nN (lv' := [(2, .null), (0, .ref (ad G o0)), (1, .int a1)]) hx hb dX2_pastAt_23 rfl hl (by decide) rfl (fun ls hl => ?_)
      refine lv_aload_nN hx hb dX2_pastAt_24 rfl (lv_at hl 0 rfl) ?_
      refine lv_ifnonnullN hx hb dX2_pastAt_25 ?_
      refine lv_aload_n hx hb dX2_pastAt_28 rfl (lv_at hl 1 rfl) ?_
      refine gt_X2_31 hx hb hg hown hK hW h0 dX2_pastAt_29 ?_
      refine lv_goto (tgt := 36) hx hb dX2_pastAt_32 (by decide) ?_
      cases hk
      exact hret _ _ _ _ hW dX2_pastAt_36
    · replace hk := ite_f hk c2
      refine lv_aload_n hx hb dX2_pastAt_13 rfl (lv_at hl 0 rfl) ?_
      refine gt_X2_35 hx hb hg hown hK hW h0 dX2_pastAt_14 ?_
      refine lv_iload_n hx hb dX2_pastAt_17 rfl (lv_at hl 1 rfl) ?_
      replace hk := ob_s hk
      obtain ⟨q1, hq1, hk⟩ := hk
      obtain ⟨hq1, eq1⟩ := rdP_s hq1
      refine w_aldP hx hb hK hW (inC (k2_8 h0) rfl) (k2_8 h0) hq1 eq1 dX2_pastAt_18 ?_
      refine lv_goto (tgt := 23) hx hb dX2_pastAt_19 (by decide) ?_
      refine lv_astore_n (lv' := [(2, .ref (ad G q1)), (0, .ref (ad G o0)), (1, .int a1)]) hx hb dX2_pastAt_23 rfl hl (by decide) rfl (fun ls hl => ?_)
      refine lv_aload_n hx hb dX2_pastAt_24 rfl (lv_at hl 0 rfl) ?_
      refine lv_ifnonnull (tgt := 35) hx hb dX2_pastAt_25 (by decide) ?_
      refine lv_aload_n hx hb dX2_pastAt_35 rfl (lv_at hl 0 rfl) ?_
      cases hk
      exact hret _ _ _ _ hW dX2_pastAt_36
theorem fk_X2_pastAt {o0 q : Nat} {a1 : Int32} (h0 : kd o0 = 2) (h : f_X2_pastAt o0 a1 = some q) : kd q = 1 := by
  unfold f_X2_pastAt at h
  split at h
  · cases h; exact k2_5 h0
  · split at h
    · cases h; exact k2_5 h0
    · obtain ⟨x, hx, h⟩ := ob_s h
      cases h
      obtain ⟨h1, h2⟩ := rdP_s hx
      exact k9_p (k2_8 h0) h1 h2
