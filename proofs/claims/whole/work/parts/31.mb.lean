def f_X7_readsMoves_L7 : Nat → Int32 → Mem → Option (Int32 × Mem)
  | 0, _, _ => none
  | n + 1, x3, M4 =>
    if (0 : Int32) ≤ (M4.1 176 12) then (
      some (x3, M4))
    else (
      if x3 = (0 : Int32) then (
        lq (M4.1 176 11) (fun x7 =>
        lq (
          if (M4.1 176 10) = (2 : Int32) then (
            if (f_X7_in x7.toInt64 (0 : Int64) (4 : Int64)) = (0 : Int32) then (
              (0 : Int32))
            else (
              if (9 : Int32) ≤ x3 then (
                (0 : Int32))
              else (
                (1 : Int32))))
          else (
            (0 : Int32)))
         (fun x12 =>
        ob (f_X7_must x12 M4) (fun M14 =>
        ob (
          if (0 : Int32) ≤ (M14.1 176 12) then (
            some M14)
          else (
            ob (f_X7_goes x7 M14) (fun M16 =>
            some M16)))
         (fun M18 =>
        lq (x3 + (1 : Int32)) (fun x19 =>
        f_X7_readsMoves_L7 n x19 M18))))))
      else (
        if (M4.1 176 10) = (3 : Int32) then (
          some (x3, M4))
        else (
          lq (M4.1 176 11) (fun x24 =>
          lq (
            if (M4.1 176 10) = (2 : Int32) then (
              if (f_X7_in x24.toInt64 (0 : Int64) (4 : Int64)) = (0 : Int32) then (
                (0 : Int32))
              else (
                if (9 : Int32) ≤ x3 then (
                  (0 : Int32))
                else (
                  (1 : Int32))))
            else (
              (0 : Int32)))
           (fun x29 =>
          ob (f_X7_must x29 M4) (fun M31 =>
          ob (
            if (0 : Int32) ≤ (M31.1 176 12) then (
              some M31)
            else (
              ob (f_X7_goes x24 M31) (fun M33 =>
              some M33)))
           (fun M35 =>
          lq (x3 + (1 : Int32)) (fun x36 =>
          f_X7_readsMoves_L7 n x36 M35))))))))
def f_X7_readsMoves (M : Mem) : Option (Mem) :=
  ob (f_X7_must (1 : Int32) M) (fun M2 =>
  ob2 (f_X7_readsMoves_L7 FU (0 : Int32) M2) (fun x5 M6 =>
  some M6))
set_option maxHeartbeats 4000000 in
set_option maxRecDepth 100000 in
theorem c_X7_readsMoves (l : Launch) (G : GT)  (M : Mem) {M' : Mem} (hk : f_X7_readsMoves  M = some M') : CMv l G false yX7_readsMoves cX7_readsMoves 3 none 4 [.ref (ad G 176)] M M' := by
  unfold f_X7_readsMoves at hk
  refine CMv.of (by decide) (Nat.le_of_ble_eq_true rfl) ?_
  intro p e s m args below meth c Q hx hb hml hown hg hK hW hret ls hl
  have hl : lv_has ls 3 [(0, .ref (ad G 176))] := hl
  refine lv_aload_n hx hb dX7_readsMoves_0 rfl (lv_at hl 0 rfl) ?_
  refine lv_iconst (v := (1 : Int32)) hx hb dX7_readsMoves_1 (by decide) ?_
  replace hk := ob_s hk
  obtain ⟨M2, hx1, hk⟩ := hk
  refine cl_v (rn_V g_996 g_998 gs_69 g_9 g_999 hd_X7_must (Nat.le_of_ble_eq_true rfl) (ci := 7) rfl (inM kd_176 rfl) (shp7 kd_176) hx hb hml hown hg hK hW (As := [.int (1 : Int32)]) (c_X7_must l G (1 : Int32) M hx1) (by decide) rfl hl.1 rfl (Nat.le_of_ble_eq_true rfl) dX7_readsMoves_2) hW (fun H locs hW => ?_)
  refine lv_iconst (v := (0 : Int32)) hx hb dX7_readsMoves_5 (by decide) ?_
  refine lv_istore_n (lv' := [(1, .int (0 : Int32)), (0, .ref (ad G 176))]) hx hb dX7_readsMoves_6 rfl hl (by decide) rfl (fun ls hl => ?_)
  replace hk := ob2_s hk
  obtain ⟨x5, M6, hz44, hk⟩ := hk
  have KX7 : ∀ (H : Heap) (locs : List Loc) (ls : Array Slot), Ws G false M6 s H locs → lv_has ls 3 [] → Wx p l e 4 s m args below meth c Q H locs 84 ls [] := by
    intro H locs ls hW hl
    obtain rfl := Option.some.inj hk
    exact hret _ _ _ _ hW dX7_readsMoves_84
  clear hk
  have LH7 : ∀ (n : Nat) (x3 : Int32) (M4 : Mem) (H : Heap) (locs : List Loc) (ls : Array Slot), f_X7_readsMoves_L7 n x3 M4 = some (x5, M6) → Ws G false M4 s H locs → lv_has ls 3 [(0, .ref (ad G 176)), (1, .int x3)] → Wx p l e 4 s m args below meth c Q H locs 7 ls [] := by
    clear hz44
    intro n
    induction n with
    | zero => intro _ _ _ _ _ hk; cases hk
    | succ n ih7 =>
      intro x3 M4 H locs ls hk hW hl
      rw [f_X7_readsMoves_L7.eq_2] at hk
      refine lv_aload_n hx hb dX7_readsMoves_7 rfl (lv_at hl 0 rfl) ?_
      refine gt_X7_169 hx hb hg hown hK hW kd_176 dX7_readsMoves_8 ?_
      refine lv_if_ge (tgt := 84) hx hb dX7_readsMoves_11 (by decide) (fun c43 => ?_) (fun c43 => ?_)
      · replace hk := ite_t hk c43
        obtain ⟨rfl, rfl⟩ := sp2 hk
        exact KX7 _ _ _ hW (lv_sub hl [] rfl)
      · replace hk := ite_f hk c43
        refine lv_iload_n hx hb dX7_readsMoves_14 rfl (lv_at hl 1 rfl) ?_
        refine lv_if_eq (tgt := 26) hx hb dX7_readsMoves_15 (by decide) (fun c42 => ?_) (fun c42 => ?_)
        · replace hk := ite_t hk c42
          refine lv_aload_n hx hb dX7_readsMoves_26 rfl (lv_at hl 0 rfl) ?_
          refine gt_X7_162 hx hb hg hown hK hW kd_176 dX7_readsMoves_27 ?_
          replace hk := lq_s hk
          obtain ⟨x7, ex7, hk⟩ := hk
          refine nm_i ex7 ?_
          refine lv_istore_n (lv' := [(2, .int x7), (0, .ref (ad G 176)), (1, .int x3)]) hx hb dX7_readsMoves_30 rfl hl (by decide) rfl (fun ls hl => ?_)
          refine lv_aload_n hx hb dX7_readsMoves_31 rfl (lv_at hl 1 rfl) ?_
          refine lv_aload_n hx hb dX7_readsMoves_32 rfl (lv_at hl 1 rfl) ?_
          refine gt_X7_156 hx hb hg hown hK hW kd_176 dX7_readsMoves_33 ?_
          refine lv_iconst (v := (2 : Int32)) hx hb dX7_readsMoves_36 (by decide) ?_
          replace hk := lq_s hk
          obtain ⟨x12, hr23, hk⟩ := hk
          have KJ22 : ∀ (H : Heap) (locs : List Loc) (ls : Array Slot), Ws G false M4 s H locs → lv_has ls 3 [(0, .ref (ad G 176)), (1, .int x3), (2, .int x7)] → Wx p l e 4 s m args below meth c Q H locs 63 ls [.int x12, .ref (ad G 176)] := by
            intro H locs ls hW hl
            replace hk := ob_s hk
            obtain ⟨M14, hx13, hk⟩ := hk
            refine cl_v (rn_V g_996 g_998 gs_69 g_9 g_999 hd_X7_must (Nat.le_of_ble_eq_true rfl) (ci := 7) rfl (inM kd_176 rfl) (shp7 kd_176) hx hb hml hown hg hK hW (As := [.int x12]) (c_X7_must l G x12 M4 hx13) (by decide) rfl hl.1 rfl (Nat.le_of_ble_eq_true rfl) dX7_readsMoves_63) hW (fun H locs hW => ?_)
            refine lv_aload_n hx hb dX7_readsMoves_66 rfl (lv_at hl 0 rfl) ?_
            refine gt_X7_169 hx hb hg hown hK hW kd_176 dX7_readsMoves_67 ?_
            replace hk := ob_s hk
            obtain ⟨M18, hr21, hk⟩ := hk
            have KJ20 : ∀ (H : Heap) (locs : List Loc) (ls : Array Slot), Ws G false M18 s H locs → lv_has ls 3 [(0, .ref (ad G 176)), (1, .int x3)] → Wx p l e 4 s m args below meth c Q H locs 78 ls [] := by
              intro H locs ls hW hl
              replace hk := lq_s hk
              obtain ⟨x19, ex19, hk⟩ := hk
              refine lv_iinc (v := x19) (lv' := [(1, .int x19), (0, .ref (ad G 176))]) hx hb dX7_readsMoves_78 hl (k := 1) rfl (by rw [ex19]; rfl) (by decide) rfl (fun ls hl => ?_)
              refine lv_goto (tgt := 7) hx hb dX7_readsMoves_81 (by decide) ?_
              exact ih7 _ _ _ _ _ hk hW (lv_sub hl [1, 0] rfl)
            clear hk
            have hk := hr21
            clear hr21
            refine lv_if_ge (tgt := 78) hx hb dX7_readsMoves_70 (by decide) (fun c17 => ?_) (fun c17 => ?_)
            · replace hk := ite_t hk c17
              obtain rfl := Option.some.inj hk
              exact KJ20 _ _ _ hW (lv_sub hl [0, 1] rfl)
            · replace hk := ite_f hk c17
              refine lv_aload_n hx hb dX7_readsMoves_73 rfl (lv_at hl 0 rfl) ?_
              refine lv_iload_n hx hb dX7_readsMoves_74 rfl (lv_at hl 2 rfl) ?_
              replace hk := ob_s hk
              obtain ⟨M16, hx15, hk⟩ := hk
              refine cl_v (rn_V g_1017 g_1019 gs_74 g_9 g_1020 hd_X7_goes (Nat.le_of_ble_eq_true rfl) (ci := 7) rfl (inM kd_176 rfl) (shp7 kd_176) hx hb hml hown hg hK hW (As := [.int x7]) (c_X7_goes l G x7 M14 hx15) (by decide) rfl hl.1 rfl (Nat.le_of_ble_eq_true rfl) dX7_readsMoves_75) hW (fun H locs hW => ?_)
              obtain rfl := Option.some.inj hk
              exact KJ20 _ _ _ hW (lv_sub hl [0, 1] rfl)
          clear hk
          have hk := hr23.symm
          clear hr23
          refine lv_icmp_ne (tgt := 62) hx hb dX7_readsMoves_37 (by decide) (fun c11 => ?_) (fun c11 => ?_)
          · replace hk := ite_f hk c11
            refine lv_iconst (v := (0 : Int32)) hx hb dX7_readsMoves_62 (by decide) ?_
            subst hk
            exact KJ22 _ _ _ hW (lv_sub hl [1, 2, 0] rfl)
          · replace hk := ite_t hk c11
            refine lv_iload_n hx hb dX7_readsMoves_40 rfl (lv_at hl 0 rfl) ?_
            refine lv_i2l hx hb dX7_readsMoves_41 rfl ?_
            refine lv_lconst (v := (0 : Int64)) hx hb dX7_readsMoves_42 (by decide) ?_
            refine lv_ldc2 hx hb hown (hg _ g_1016) dX7_readsMoves_43 ?_
            refine cl_i (rn_S g_921 g_922 g_9 g_923 hd_X7_in (Nat.le_of_ble_eq_true rfl) hx hb hml hown hg hK hW (As := [.long x7.toInt64, .long (0 : Int64), .long (4 : Int64)]) (c_X7_in l G x7.toInt64 (0 : Int64) (4 : Int64) M4) (by decide) rfl hl.1 rfl (Nat.le_of_ble_eq_true rfl) dX7_readsMoves_46) hW (fun H locs hW => ?_)
            refine lv_if_eq (tgt := 62) hx hb dX7_readsMoves_49 (by decide) (fun c10 => ?_) (fun c10 => ?_)
            · replace hk := ite_t hk c10
              refine lv_iconst (v := (0 : Int32)) hx hb dX7_readsMoves_62 (by decide) ?_
              subst hk
              exact KJ22 _ _ _ hW (lv_sub hl [1, 2, 0] rfl)
            · replace hk := ite_f hk c10
              refine lv_iload_n hx hb dX7_readsMoves_52 rfl (lv_at hl 2 rfl) ?_
              refine lv_bipush (v := (9 : Int32)) hx hb dX7_readsMoves_53 (by decide) ?_
              refine lv_icmp_ge (tgt := 62) hx hb dX7_readsMoves_55 (by decide) (fun c9 => ?_) (fun c9 => ?_)
              · replace hk := ite_t hk c9
                refine lv_iconst (v := (0 : Int32)) hx hb dX7_readsMoves_62 (by decide) ?_
                subst hk
                exact KJ22 _ _ _ hW (lv_sub hl [1, 2, 0] rfl)
              · replace hk := ite_f hk c9
                refine lv_iconst (v := (1 : Int32)) hx hb dX7_readsMoves_58 (by decide) ?_
                refine lv_goto (tgt := 63) hx hb dX7_readsMoves_59 (by decide) ?_
                subst hk
                exact KJ22 _ _ _ hW (lv_sub hl [1, 2, 0] rfl)
        · replace hk := ite_f hk c42
          refine lv_aload_n hx hb dX7_readsMoves_18 rfl (lv_at hl 0 rfl) ?_
          refine gt_X7_156 hx hb hg hown hK hW kd_176 dX7_readsMoves_19 ?_
          refine lv_iconst (v := (3 : Int32)) hx hb dX7_readsMoves_22 (by decide) ?_
          refine lv_icmp_eq (tgt := 84) hx hb dX7_readsMoves_23 (by decide) (fun c41 => ?_) (fun c41 => ?_)
          · replace hk := ite_t hk c41
            obtain ⟨rfl, rfl⟩ := sp2 hk
            exact KX7 _ _ _ hW (lv_sub hl [] rfl)
          · replace hk := ite_f hk c41
            refine lv_aload_n hx hb dX7_readsMoves_26 rfl (lv_at hl 0 rfl) ?_
            refine gt_X7_162 hx hb hg hown hK hW kd_176 dX7_readsMoves_27 ?_
            replace hk := lq_s hk
            obtain ⟨x24, ex24, hk⟩ := hk
            refine nm_i ex24 ?_
            refine lv_istore_n (lv' := [(2, .int x24), (0, .ref (ad G 176)), (1, .int x3)]) hx hb dX7_readsMoves_30 rfl hl (by decide) rfl (fun ls hl => ?_)
            refine lv_aload_n hx hb dX7_readsMoves_31 rfl (lv_at hl 1 rfl) ?_
            refine lv_aload_n hx hb dX7_readsMoves_32 rfl (lv_at hl 1 rfl) ?_
            refine gt_X7_156 hx hb hg hown hK hW kd_176 dX7_readsMoves_33 ?_
            refine lv_iconst (v := (2 : Int32)) hx hb dX7_readsMoves_36 (by decide) ?_
            replace hk := lq_s hk
            obtain ⟨x29, hr40, hk⟩ := hk
            have KJ39 : ∀ (H : Heap) (locs : List Loc) (ls : Array Slot), Ws G false M4 s H locs → lv_has ls 3 [(0, .ref (ad G 176)), (1, .int x3), (2, .int x24)] → Wx p l e 4 s m args below meth c Q H locs 63 ls [.int x29, .ref (ad G 176)] := by
              intro H locs ls hW hl
              replace hk := ob_s hk
              obtain ⟨M31, hx30, hk⟩ := hk
              refine cl_v (rn_V g_996 g_998 gs_69 g_9 g_999 hd_X7_must (Nat.le_of_ble_eq_true rfl) (ci := 7) rfl (inM kd_176 rfl) (shp7 kd_176) hx hb hml hown hg hK hW (As := [.int x29]) (c_X7_must l G x29 M4 hx30) (by decide) rfl hl.1 rfl (Nat.le_of_ble_eq_true rfl) dX7_readsMoves_63) hW (fun H locs hW => ?_)
              refine lv_aload_n hx hb dX7_readsMoves_66 rfl (lv_at hl 0 rfl) ?_
              refine gt_X7_169 hx hb hg hown hK hW kd_176 dX7_readsMoves_67 ?_
              replace hk := ob_s hk
              obtain ⟨M35, hr38, hk⟩ := hk
              have KJ37 : ∀ (H : Heap) (locs : List Loc) (ls : Array Slot), Ws G false M35 s H locs → lv_has ls 3 [(0, .ref (ad G 176)), (1, .int x3)] → Wx p l e 4 s m args below meth c Q H locs 78 ls [] := by
                intro H locs ls hW hl
                replace hk := lq_s hk
                obtain ⟨x36, ex36, hk⟩ := hk
                refine lv_iinc (v := x36) (lv' := [(1, .int x36), (0, .ref (ad G 176))]) hx hb dX7_readsMoves_78 hl (k := 1) rfl (by rw [ex36]; rfl) (by decide) rfl (fun ls hl => ?_)
                refine lv_goto (tgt := 7) hx hb dX7_readsMoves_81 (by decide) ?_
                exact ih7 _ _ _ _ _ hk hW (lv_sub hl [1, 0] rfl)
              clear hk
              have hk := hr38
              clear hr38
              refine lv_if_ge (tgt := 78) hx hb dX7_readsMoves_70 (by decide) (fun c34 => ?_) (fun c34 => ?_)
              · replace hk := ite_t hk c34
                obtain rfl := Option.some.inj hk
                exact KJ37 _ _ _ hW (lv_sub hl [0, 1] rfl)
              · replace hk := ite_f hk c34
                refine lv_aload_n hx hb dX7_readsMoves_73 rfl (lv_at hl 0 rfl) ?_
                refine lv_iload_n hx hb dX7_readsMoves_74 rfl (lv_at hl 2 rfl) ?_
                replace hk := ob_s hk
                obtain ⟨M33, hx32, hk⟩ := hk
                refine cl_v (rn_V g_1017 g_1019 gs_74 g_9 g_1020 hd_X7_goes (Nat.le_of_ble_eq_true rfl) (ci := 7) rfl (inM kd_176 rfl) (shp7 kd_176) hx hb hml hown hg hK hW (As := [.int x24]) (c_X7_goes l G x24 M31 hx32) (by decide) rfl hl.1 rfl (Nat.le_of_ble_eq_true rfl) dX7_readsMoves_75) hW (fun H locs hW => ?_)
                obtain rfl := Option.some.inj hk
                exact KJ37 _ _ _ hW (lv_sub hl [0, 1] rfl)
            clear hk
            have hk := hr40.symm
            clear hr40
            refine lv_icmp_ne (tgt := 62) hx hb dX7_readsMoves_37 (by decide) (fun c28 => ?_) (fun c28 => ?_)
            · replace hk := ite_f hk c28
              refine lv_iconst (v := (0 : Int32)) hx hb dX7_readsMoves_62 (by decide) ?_
              subst hk
              exact KJ39 _ _ _ hW (lv_sub hl [1, 2, 0] rfl)
            · replace hk := ite_t hk c28
              refine lv_iload_n hx hb dX7_readsMoves_40 rfl (lv_at hl 0 rfl) ?_
              refine lv_i2l hx hb dX7_readsMoves_41 rfl ?_
              refine lv_lconst (v := (0 : Int64)) hx hb dX7_readsMoves_42 (by decide) ?_
              refine lv_ldc2 hx hb hown (hg _ g_1016) dX7_readsMoves_43 ?_
              refine cl_i (rn_S g_921 g_922 g_9 g_923 hd_X7_in (Nat.le_of_ble_eq_true rfl) hx hb hml hown hg hK hW (As := [.long x24.toInt64, .long (0 : Int64), .long (4 : Int64)]) (c_X7_in l G x24.toInt64 (0 : Int64) (4 : Int64) M4) (by decide) rfl hl.1 rfl (Nat.le_of_ble_eq_true rfl) dX7_readsMoves_46) hW (fun H locs hW => ?_)
              refine lv_if_eq (tgt := 62) hx hb dX7_readsMoves_49 (by decide) (fun c27 => ?_) (fun c27 => ?_)
              · replace hk := ite_t hk c27
                refine lv_iconst (v := (0 : Int32)) hx hb dX7_readsMoves_62 (by decide) ?_
                subst hk
                exact KJ39 _ _ _ hW (lv_sub hl [1, 2, 0] rfl)
              · replace hk := ite_f hk c27
                refine lv_iload_n hx hb dX7_readsMoves_52 rfl (lv_at hl 2 rfl) ?_
                refine lv_bipush (v := (9 : Int32)) hx hb dX7_readsMoves_53 (by decide) ?_
                refine lv_icmp_ge (tgt := 62) hx hb dX7_readsMoves_55 (by decide) (fun c26 => ?_) (fun c26 => ?_)
                · replace hk := ite_t hk c26
                  refine lv_iconst (v := (0 : Int32)) hx hb dX7_readsMoves_62 (by decide) ?_
                  subst hk
                  exact KJ39 _ _ _ hW (lv_sub hl [1, 2, 0] rfl)
                · replace hk := ite_f hk c26
                  refine lv_iconst (v := (1 : Int32)) hx hb dX7_readsMoves_58 (by decide) ?_
                  refine lv_goto (tgt := 63) hx hb dX7_readsMoves_59 (by decide) ?_
                  subst hk
                  exact KJ39 _ _ _ hW (lv_sub hl [1, 2, 0] rfl)
  exact LH7 FU _ _ _ _ _ hz44 hW (lv_sub hl [1, 0] rfl)
def f_X7_unsnaps (a1 : Int32) (M : Mem) : Option (Mem) :=
  ob (f_X7_sets a1 (5 : Int32) (0 : Int32) M) (fun M2 =>
  ob (f_X7_sets a1 (6 : Int32) (0 : Int32) M2) (fun M4 =>
  some M4))
set_option maxHeartbeats 4000000 in
set_option maxRecDepth 100000 in
theorem c_X7_unsnaps (l : Launch) (G : GT) (a1 : Int32) (M : Mem) {M' : Mem} (hk : f_X7_unsnaps a1 M = some M') : CMv l G false yX7_unsnaps cX7_unsnaps 2 none 1 [.ref (ad G 176), .int a1] M M' := by
  unfold f_X7_unsnaps at hk
  refine CMv.of (by decide) (Nat.le_of_ble_eq_true rfl) ?_
  intro p e s m args below meth c Q hx hb hml hown hg hK hW hret ls hl
  have hl : lv_has ls 2 [(0, .ref (ad G 176)), (1, .int a1)] := hl
  refine lv_aload_n hx hb dX7_unsnaps_0 rfl (lv_at hl 0 rfl) ?_
  refine lv_iload_n hx hb dX7_unsnaps_1 rfl (lv_at hl 1 rfl) ?_
  refine lv_iconst (v := (5 : Int32)) hx hb dX7_unsnaps_2 (by decide) ?_
  refine lv_iconst (v := (0 : Int32)) hx hb dX7_unsnaps_3 (by decide) ?_
  replace hk := ob_s hk
  obtain ⟨M2, hx1, hk⟩ := hk
  refine cl_v (rn_V g_947 g_949 gs_65 g_9 g_950 hd_X7_sets (Nat.le_of_ble_eq_true rfl) (ci := 7) rfl (inM kd_176 rfl) (shp7 kd_176) hx hb hml hown hg hK hW (As := [.int a1, .int (5 : Int32), .int (0 : Int32)]) (c_X7_sets l G a1 (5 : Int32) (0 : Int32) M hx1) (by decide) rfl hl.1 rfl (Nat.le_of_ble_eq_true rfl) dX7_unsnaps_4) hW (fun H locs hW => ?_)
  refine lv_aload_n hx hb dX7_unsnaps_7 rfl (lv_at hl 0 rfl) ?_
  refine lv_iload_n hx hb dX7_unsnaps_8 rfl (lv_at hl 1 rfl) ?_
  refine lv_bipush (v := (6 : Int32)) hx hb dX7_unsnaps_9 (by decide) ?_
  refine lv_iconst (v := (0 : Int32)) hx hb dX7_unsnaps_11 (by decide) ?_
  replace hk := ob_s hk
  obtain ⟨M4, hx3, hk⟩ := hk
  refine cl_v (rn_V g_947 g_949 gs_65 g_9 g_950 hd_X7_sets (Nat.le_of_ble_eq_true rfl) (ci := 7) rfl (inM kd_176 rfl) (shp7 kd_176) hx hb hml hown hg hK hW (As := [.int a1, .int (6 : Int32), .int (0 : Int32)]) (c_X7_sets l G a1 (6 : Int32) (0 : Int32) M2 hx3) (by decide) rfl hl.1 rfl (Nat.le_of_ble_eq_true rfl) dX7_unsnaps_12) hW (fun H locs hW => ?_)
  obtain rfl := Option.some.inj hk
  exact hret _ _ _ _ hW dX7_unsnaps_15
def f_X7_readsItem (M : Mem) : Option (Mem) :=
  lq (
    if (M.1 176 10) = (1 : Int32) then (
      (M.1 176 11))
    else (
      (0 : Int32)))
   (fun x2 =>
  ob (
    if x2 = (2 : Int32) then (
      ob (f_X7_readsLimb M) (fun M43 =>
      some M43))
    else (
      if x2 = (3 : Int32) then (
        ob (f_X7_readsMoves M) (fun M40 =>
        some M40))
      else (
        if x2 = (4 : Int32) then (
          ob (f_X7_must (1 : Int32) M) (fun M20 =>
          lq (M20.1 176 11) (fun x21 =>
          ob (
            if (M20.1 176 10) = (2 : Int32) then (
              ob (f_X7_isLimb x21 M20) (fun x22 =>
              if x22 = (0 : Int32) then (
                some (0 : Int32))
              else (
                ob (f_X7_isSnapped x21 M20) (fun x23 =>
                if x23 = (0 : Int32) then (
                  some (0 : Int32))
                else (
                  some (1 : Int32))))))
            else (
              some (0 : Int32)))
           (fun x27 =>
          ob (f_X7_must x27 M20) (fun M29 =>
          ob (
            if (0 : Int32) ≤ (M29.1 176 12) then (
              some M29)
            else (
              ob (f_X7_unsnaps x21 M29) (fun M31 =>
              some M31)))
           (fun M33 =>
          some M33))))))
        else (
          if x2 = (5 : Int32) then (
            ob (f_X7_must (1 : Int32) M) (fun M6 =>
            ob (rd M6 177 (0 : Int32)) (fun x7 =>
            ob2 (f_X7_number (0 : Int32) (x7 - (1 : Int32)) M6) (fun x8 M9 =>
            ob2 (f_X7_number (0 : Int32) (8 : Int32) M9) (fun x10 M11 =>
            ob (
              if (0 : Int32) ≤ (M11.1 176 12) then (
                some M11)
              else (
                ob (f_X7_sets x8 (4 : Int32) x10 M11) (fun M13 =>
                some M13)))
             (fun M15 =>
            some M15))))))
          else (
            ob (f_X7_must (0 : Int32) M) (fun M4 =>
            some M4))))))
   (fun M45 =>
  lq (
    if (M45.1 176 10) = (3 : Int32) then (
      (1 : Int32))
    else (
      (0 : Int32)))
   (fun x47 =>
  ob (f_X7_must x47 M45) (fun M49 =>
  some M49))))
set_option maxHeartbeats 4000000 in
set_option maxRecDepth 100000 in
theorem c_X7_readsItem (l : Launch) (G : GT)  (M : Mem) {M' : Mem} (hk : f_X7_readsItem  M = some M') : CMv l G false yX7_readsItem cX7_readsItem 4 none 6 [.ref (ad G 176)] M M' := by
  unfold f_X7_readsItem at hk
  refine CMv.of (by decide) (Nat.le_of_ble_eq_true rfl) ?_
  intro p e s m args below meth c Q hx hb hml hown hg hK hW hret ls hl
  have hl : lv_has ls 4 [(0, .ref (ad G 176))] := hl
  refine lv_aload_n hx hb dX7_readsItem_0 rfl (lv_at hl 0 rfl) ?_
  refine gt_X7_156 hx hb hg hown hK hW kd_176 dX7_readsItem_1 ?_
  refine lv_iconst (v := (1 : Int32)) hx hb dX7_readsItem_4 (by decide) ?_
  replace hk := lq_s hk
  obtain ⟨x2, hr55, hk⟩ := hk
  have KJ54 : ∀ (H : Heap) (locs : List Loc) (ls : Array Slot), Ws G false M s H locs → lv_has ls 4 [(0, .ref (ad G 176))] → Wx p l e 6 s m args below meth c Q H locs 16 ls [.int x2] := by
    intro H locs ls hW hl
    refine lv_istore_n (lv' := [(1, .int x2), (0, .ref (ad G 176))]) hx hb dX7_readsItem_16 rfl hl (by decide) rfl (fun ls hl => ?_)
    refine lv_iload_n hx hb dX7_readsItem_17 rfl (lv_at hl 0 rfl) ?_
    refine lv_iconst (v := (2 : Int32)) hx hb dX7_readsItem_18 (by decide) ?_
    replace hk := ob_s hk
    obtain ⟨M45, hr53, hk⟩ := hk
    have KJ52 : ∀ (H : Heap) (locs : List Loc) (ls : Array Slot), Ws G false M45 s H locs → lv_has ls 4 [(0, .ref (ad G 176))] → Wx p l e 6 s m args below meth c Q H locs 158 ls [] := by
      intro H locs ls hW hl
      refine lv_aload_n hx hb dX7_readsItem_158 rfl (lv_at hl 0 rfl) ?_
      refine lv_aload_n hx hb dX7_readsItem_159 rfl (lv_at hl 0 rfl) ?_
      refine gt_X7_156 hx hb hg hown hK hW kd_176 dX7_readsItem_160 ?_
      refine lv_iconst (v := (3 : Int32)) hx hb dX7_readsItem_163 (by decide) ?_
      replace hk := lq_s hk
      obtain ⟨x47, hr51, hk⟩ := hk
      have KJ50 : ∀ (H : Heap) (locs : List Loc) (ls : Array Slot), Ws G false M45 s H locs → lv_has ls 4 [] → Wx p l e 6 s m args below meth c Q H locs 172 ls [.int x47, .ref (ad G 176)] := by
        intro H locs ls hW hl
        replace hk := ob_s hk
        obtain ⟨M49, hx48, hk⟩ := hk
        refine cl_v (rn_V g_996 g_998 gs_69 g_9 g_999 hd_X7_must (Nat.le_of_ble_eq_true rfl) (ci := 7) rfl (inM kd_176 rfl) (shp7 kd_176) hx hb hml hown hg hK hW (As := [.int x47]) (c_X7_must l G x47 M45 hx48) (by decide) rfl hl.1 rfl (Nat.le_of_ble_eq_true rfl) dX7_readsItem_172) hW (fun H locs hW => ?_)
        obtain rfl := Option.some.inj hk
        exact hret _ _ _ _ hW dX7_readsItem_175
      clear hk
      have hk := hr51.symm
      clear hr51
      refine lv_icmp_ne (tgt := 171) hx hb dX7_readsItem_164 (by decide) (fun c46 => ?_) (fun c46 => ?_)
      · replace hk := ite_f hk c46
        refine lv_iconst (v := (0 : Int32)) hx hb dX7_readsItem_171 (by decide) ?_
        subst hk
        exact KJ50 _ _ _ hW (lv_sub hl [] rfl)
      · replace hk := ite_t hk c46
        refine lv_iconst (v := (1 : Int32)) hx hb dX7_readsItem_167 (by decide) ?_
        refine lv_goto (tgt := 172) hx hb dX7_readsItem_168 (by decide) ?_
        subst hk
        exact KJ50 _ _ _ hW (lv_sub hl [] rfl)
    clear hk
    have hk := hr53
    clear hr53
    refine lv_icmp_ne (tgt := 29) hx hb dX7_readsItem_19 (by decide) (fun c44 => ?_) (fun c44 => ?_)
    · replace hk := ite_f hk c44
      refine lv_iload_n hx hb dX7_readsItem_29 rfl (lv_at hl 0 rfl) ?_
      refine lv_iconst (v := (3 : Int32)) hx hb dX7_readsItem_30 (by decide) ?_
      refine lv_icmp_ne (tgt := 41) hx hb dX7_readsItem_31 (by decide) (fun c41 => ?_) (fun c41 => ?_)
      · replace hk := ite_f hk c41
        refine lv_iload_n hx hb dX7_readsItem_41 rfl (lv_at hl 0 rfl) ?_
        refine lv_iconst (v := (4 : Int32)) hx hb dX7_readsItem_42 (by decide) ?_
        refine lv_icmp_ne (tgt := 104) hx hb dX7_readsItem_43 (by decide) (fun c38 => ?_) (fun c38 => ?_)
        · replace hk := ite_f hk c38
          refine lv_iload_n hx hb dX7_readsItem_104 rfl (lv_at hl 0 rfl) ?_
          refine lv_iconst (v := (5 : Int32)) hx hb dX7_readsItem_105 (by decide) ?_
          refine lv_icmp_ne (tgt := 153) hx hb dX7_readsItem_106 (by decide) (fun c18 => ?_) (fun c18 => ?_)
          · replace hk := ite_f hk c18
            refine lv_aload_n hx hb dX7_readsItem_153 rfl (lv_at hl 1 rfl) ?_
            refine lv_iconst (v := (0 : Int32)) hx hb dX7_readsItem_154 (by decide) ?_
            replace hk := ob_s hk
            obtain ⟨M4, hx3, hk⟩ := hk
            refine cl_v (rn_V g_996 g_998 gs_69 g_9 g_999 hd_X7_must (Nat.le_of_ble_eq_true rfl) (ci := 7) rfl (inM kd_176 rfl) (shp7 kd_176) hx hb hml hown hg hK hW (As := [.int (0 : Int32)]) (c_X7_must l G (0 : Int32) M hx3) (by decide) rfl hl.1 rfl (Nat.le_of_ble_eq_true rfl) dX7_readsItem_155) hW (fun H locs hW => ?_)
            obtain rfl := Option.some.inj hk
            exact KJ52 _ _ _ hW (lv_sub hl [1] rfl)
          · replace hk := ite_t hk c18
            refine lv_aload_n hx hb dX7_readsItem_109 rfl (lv_at hl 1 rfl) ?_
            refine lv_iconst (v := (1 : Int32)) hx hb dX7_readsItem_110 (by decide) ?_
            replace hk := ob_s hk
            obtain ⟨M6, hx5, hk⟩ := hk
            refine cl_v (rn_V g_996 g_998 gs_69 g_9 g_999 hd_X7_must (Nat.le_of_ble_eq_true rfl) (ci := 7) rfl (inM kd_176 rfl) (shp7 kd_176) hx hb hml hown hg hK hW (As := [.int (1 : Int32)]) (c_X7_must l G (1 : Int32) M hx5) (by decide) rfl hl.1 rfl (Nat.le_of_ble_eq_true rfl) dX7_readsItem_111) hW (fun H locs hW => ?_)
            refine lv_aload_n hx hb dX7_readsItem_114 rfl (lv_at hl 1 rfl) ?_
            refine lv_iconst (v := (0 : Int32)) hx hb dX7_readsItem_115 (by decide) ?_
            refine lv_aload_n hx hb dX7_readsItem_116 rfl (lv_at hl 1 rfl) ?_
            refine gt_X7_7 hx hb hg hown hK hW kd_176 dX7_readsItem_117 ?_
            refine lv_iconst (v := (0 : Int32)) hx hb dX7_readsItem_120 (by decide) ?_
            replace hk := ob_s hk
            obtain ⟨x7, hx7, hk⟩ := hk
            obtain ⟨hx7, ex7⟩ := rd_s hx7
            refine w_ald hx hb hK hW (inM kd_177 rfl) (shp10 kd_177) hx7 ex7 dX7_readsItem_121 ?_
            refine lv_iconst (v := (1 : Int32)) hx hb dX7_readsItem_122 (by decide) ?_
            refine lv_isub hx hb dX7_readsItem_123 ?_
            replace hk := ob2_s hk
            obtain ⟨x8, M9, hx8, hk⟩ := hk
            refine cl_i (rn_V g_1000 g_1002 gs_70 g_9 g_1003 hd_X7_number (Nat.le_of_ble_eq_true rfl) (ci := 7) rfl (inM kd_176 rfl) (shp7 kd_176) hx hb hml hown hg hK hW (As := [.int (0 : Int32), .int (x7 - (1 : Int32))]) (c_X7_number l G (0 : Int32) (x7 - (1 : Int32)) M6 hx8) (by decide) rfl hl.1 rfl (Nat.le_of_ble_eq_true rfl) dX7_readsItem_124) hW (fun H locs hW => ?_)
            refine lv_istore_n (lv' := [(2, .int x8), (1, .int x2), (0, .ref (ad G 176))]) hx hb dX7_readsItem_127 rfl hl (by decide) rfl (fun ls hl => ?_)
            refine lv_aload_n hx hb dX7_readsItem_128 rfl (lv_at hl 2 rfl) ?_
            refine lv_iconst (v := (0 : Int32)) hx hb dX7_readsItem_129 (by decide) ?_
            refine lv_bipush (v := (8 : Int32)) hx hb dX7_readsItem_130 (by decide) ?_
            replace hk := ob2_s hk
            obtain ⟨x10, M11, hx10, hk⟩ := hk
            refine cl_i (rn_V g_1000 g_1002 gs_70 g_9 g_1003 hd_X7_number (Nat.le_of_ble_eq_true rfl) (ci := 7) rfl (inM kd_176 rfl) (shp7 kd_176) hx hb hml hown hg hK hW (As := [.int (0 : Int32), .int (8 : Int32)]) (c_X7_number l G (0 : Int32) (8 : Int32) M9 hx10) (by decide) rfl hl.1 rfl (Nat.le_of_ble_eq_true rfl) dX7_readsItem_132) hW (fun H locs hW => ?_)
            refine lv_istore_n (lv' := [(3, .int x10), (2, .int x8), (1, .int x2), (0, .ref (ad G 176))]) hx hb dX7_readsItem_135 rfl hl (by decide) rfl (fun ls hl => ?_)
            refine lv_aload_n hx hb dX7_readsItem_136 rfl (lv_at hl 3 rfl) ?_
            refine gt_X7_169 hx hb hg hown hK hW kd_176 dX7_readsItem_137 ?_
            replace hk := ob_s hk
            obtain ⟨M15, hr17, hk⟩ := hk
            have KJ16 : ∀ (H : Heap) (locs : List Loc) (ls : Array Slot), Ws G false M15 s H locs → lv_has ls 4 [(0, .ref (ad G 176))] → Wx p l e 6 s m args below meth c Q H locs 150 ls [] := by
              intro H locs ls hW hl
              refine lv_goto (tgt := 158) hx hb dX7_readsItem_150 (by decide) ?_
              obtain rfl := Option.some.inj hk
              exact KJ52 _ _ _ hW (lv_sub hl [0] rfl)
            clear hk
            have hk := hr17
            clear hr17
            refine lv_if_ge (tgt := 150) hx hb dX7_readsItem_140 (by decide) (fun c14 => ?_) (fun c14 => ?_)
            · replace hk := ite_t hk c14
              obtain rfl := Option.some.inj hk
              exact KJ16 _ _ _ hW (lv_sub hl [3] rfl)
            · replace hk := ite_f hk c14
              refine lv_aload_n hx hb dX7_readsItem_143 rfl (lv_at hl 3 rfl) ?_
              refine lv_iload_n hx hb dX7_readsItem_144 rfl (lv_at hl 1 rfl) ?_
              refine lv_iconst (v := (4 : Int32)) hx hb dX7_readsItem_145 (by decide) ?_
              refine lv_iload_n hx hb dX7_readsItem_146 rfl (lv_at hl 0 rfl) ?_
              replace hk := ob_s hk
              obtain ⟨M13, hx12, hk⟩ := hk
              refine cl_v (rn_V g_947 g_949 gs_65 g_9 g_950 hd_X7_sets (Nat.le_of_ble_eq_true rfl) (ci := 7) rfl (inM kd_176 rfl) (shp7 kd_176) hx hb hml hown hg hK hW (As := [.int x8, .int (4 : Int32), .int x10]) (c_X7_sets l G x8 (4 : Int32) x10 M11 hx12) (by decide) rfl hl.1 rfl (Nat.le_of_ble_eq_true rfl) dX7_readsItem_147) hW (fun H locs hW => ?_)
              obtain rfl := Option.some.inj hk
              exact KJ16 _ _ _ hW (lv_sub hl [3] rfl)
        · replace hk := ite_t hk c38
          refine lv_aload_n hx hb dX7_readsItem_46 rfl (lv_at hl 1 rfl) ?_
          refine lv_iconst (v := (1 : Int32)) hx hb dX7_readsItem_47 (by decide) ?_
          replace hk := ob_s hk
          obtain ⟨M20, hx19, hk⟩ := hk
          refine cl_v (rn_V g_996 g_998 gs_69 g_9 g_999 hd_X7_must (Nat.le_of_ble_eq_true rfl) (ci := 7) rfl (inM kd_176 rfl) (shp7 kd_176) hx hb hml hown hg hK hW (As := [.int (1 : Int32)]) (c_X7_must l G (1 : Int32) M hx19) (by decide) rfl hl.1 rfl (Nat.le_of_ble_eq_true rfl) dX7_readsItem_48) hW (fun H locs hW => ?_)
          refine lv_aload_n hx hb dX7_readsItem_51 rfl (lv_at hl 1 rfl) ?_
          refine gt_X7_162 hx hb hg hown hK hW kd_176 dX7_readsItem_52 ?_
          replace hk := lq_s hk
          obtain ⟨x21, ex21, hk⟩ := hk
          refine nm_i ex21 ?_
          refine lv_istore_n (lv' := [(2, .int x21), (1, .int x2), (0, .ref (ad G 176))]) hx hb dX7_readsItem_55 rfl hl (by decide) rfl (fun ls hl => ?_)
          refine lv_aload_n hx hb dX7_readsItem_56 rfl (lv_at hl 2 rfl) ?_
          refine lv_aload_n hx hb dX7_readsItem_57 rfl (lv_at hl 2 rfl) ?_
          refine gt_X7_156 hx hb hg hown hK hW kd_176 dX7_readsItem_58 ?_
          refine lv_iconst (v := (2 : Int32)) hx hb dX7_readsItem_61 (by decide) ?_
          replace hk := ob_s hk
          obtain ⟨x27, hr37, hk⟩ := hk
          have KJ36 : ∀ (H : Heap) (locs : List Loc) (ls : Array Slot), Ws G false M20 s H locs → lv_has ls 4 [(0, .ref (ad G 176)), (2, .int x21)] → Wx p l e 6 s m args below meth c Q H locs 86 ls [.int x27, .ref (ad G 176)] := by
            intro H locs ls hW hl
            replace hk := ob_s hk
            obtain ⟨M29, hx28, hk⟩ := hk
            refine cl_v (rn_V g_996 g_998 gs_69 g_9 g_999 hd_X7_must (Nat.le_of_ble_eq_true rfl) (ci := 7) rfl (inM kd_176 rfl) (shp7 kd_176) hx hb hml hown hg hK hW (As := [.int x27]) (c_X7_must l G x27 M20 hx28) (by decide) rfl hl.1 rfl (Nat.le_of_ble_eq_true rfl) dX7_readsItem_86) hW (fun H locs hW => ?_)
            refine lv_aload_n hx hb dX7_readsItem_89 rfl (lv_at hl 0 rfl) ?_
            refine gt_X7_169 hx hb hg hown hK hW kd_176 dX7_readsItem_90 ?_
            replace hk := ob_s hk
            obtain ⟨M33, hr35, hk⟩ := hk
            have KJ34 : ∀ (H : Heap) (locs : List Loc) (ls : Array Slot), Ws G false M33 s H locs → lv_has ls 4 [(0, .ref (ad G 176))] → Wx p l e 6 s m args below meth c Q H locs 101 ls [] := by
              intro H locs ls hW hl
              refine lv_goto (tgt := 158) hx hb dX7_readsItem_101 (by decide) ?_
              obtain rfl := Option.some.inj hk
              exact KJ52 _ _ _ hW (lv_sub hl [0] rfl)
            clear hk
            have hk := hr35
            clear hr35
            refine lv_if_ge (tgt := 101) hx hb dX7_readsItem_93 (by decide) (fun c32 => ?_) (fun c32 => ?_)
            · replace hk := ite_t hk c32
              obtain rfl := Option.some.inj hk
              exact KJ34 _ _ _ hW (lv_sub hl [0] rfl)
            · replace hk := ite_f hk c32
              refine lv_aload_n hx hb dX7_readsItem_96 rfl (lv_at hl 0 rfl) ?_
              refine lv_iload_n hx hb dX7_readsItem_97 rfl (lv_at hl 1 rfl) ?_
              replace hk := ob_s hk
              obtain ⟨M31, hx30, hk⟩ := hk
              refine cl_v (rn_V g_1037 g_1039 gs_79 g_9 g_1040 hd_X7_unsnaps (Nat.le_of_ble_eq_true rfl) (ci := 7) rfl (inM kd_176 rfl) (shp7 kd_176) hx hb hml hown hg hK hW (As := [.int x21]) (c_X7_unsnaps l G x21 M29 hx30) (by decide) rfl hl.1 rfl (Nat.le_of_ble_eq_true rfl) dX7_readsItem_98) hW (fun H locs hW => ?_)
              obtain rfl := Option.some.inj hk
              exact KJ34 _ _ _ hW (lv_sub hl [0] rfl)
          clear hk
          have hk := hr37
          clear hr37
          refine lv_icmp_ne (tgt := 85) hx hb dX7_readsItem_62 (by decide) (fun c26 => ?_) (fun c26 => ?_)
          · replace hk := ite_f hk c26
            refine lv_iconst (v := (0 : Int32)) hx hb dX7_readsItem_85 (by decide) ?_
            obtain rfl := Option.some.inj hk
            exact KJ36 _ _ _ hW (lv_sub hl [2, 0] rfl)
          · replace hk := ite_t hk c26
            refine lv_aload_n hx hb dX7_readsItem_65 rfl (lv_at hl 2 rfl) ?_
            refine lv_iload_n hx hb dX7_readsItem_66 rfl (lv_at hl 0 rfl) ?_
            replace hk := ob_s hk
            obtain ⟨x22, hx22, hk⟩ := hk
            refine cl_i (rn_V g_1033 g_1035 gs_78 g_9 g_1036 hd_X7_isLimb (Nat.le_of_ble_eq_true rfl) (ci := 7) rfl (inM kd_176 rfl) (shp7 kd_176) hx hb hml hown hg hK hW (As := [.int x21]) (c_X7_isLimb l G x21 M20 hx22) (by decide) rfl hl.1 rfl (Nat.le_of_ble_eq_true rfl) dX7_readsItem_67) hW (fun H locs hW => ?_)
            refine lv_if_eq (tgt := 85) hx hb dX7_readsItem_70 (by decide) (fun c25 => ?_) (fun c25 => ?_)
            · replace hk := ite_t hk c25
              refine lv_iconst (v := (0 : Int32)) hx hb dX7_readsItem_85 (by decide) ?_
              obtain rfl := Option.some.inj hk
              exact KJ36 _ _ _ hW (lv_sub hl [2, 0] rfl)
            · replace hk := ite_f hk c25
              refine lv_aload_n hx hb dX7_readsItem_73 rfl (lv_at hl 2 rfl) ?_
              refine lv_iload_n hx hb dX7_readsItem_74 rfl (lv_at hl 0 rfl) ?_
              replace hk := ob_s hk
              obtain ⟨x23, hx23, hk⟩ := hk
              refine cl_i (rn_V g_1025 g_1027 gs_76 g_9 g_1028 hd_X7_isSnapped (Nat.le_of_ble_eq_true rfl) (ci := 7) rfl (inM kd_176 rfl) (shp7 kd_176) hx hb hml hown hg hK hW (As := [.int x21]) (c_X7_isSnapped l G x21 M20 hx23) (by decide) rfl hl.1 rfl (Nat.le_of_ble_eq_true rfl) dX7_readsItem_75) hW (fun H locs hW => ?_)
              refine lv_if_eq (tgt := 85) hx hb dX7_readsItem_78 (by decide) (fun c24 => ?_) (fun c24 => ?_)
              · replace hk := ite_t hk c24
                refine lv_iconst (v := (0 : Int32)) hx hb dX7_readsItem_85 (by decide) ?_
                obtain rfl := Option.some.inj hk
                exact KJ36 _ _ _ hW (lv_sub hl [2, 0] rfl)
              · replace hk := ite_f hk c24
                refine lv_iconst (v := (1 : Int32)) hx hb dX7_readsItem_81 (by decide) ?_
                refine lv_goto (tgt := 86) hx hb dX7_readsItem_82 (by decide) ?_
                obtain rfl := Option.some.inj hk
                exact KJ36 _ _ _ hW (lv_sub hl [2, 0] rfl)
      · replace hk := ite_t hk c41
        refine lv_aload_n hx hb dX7_readsItem_34 rfl (lv_at hl 1 rfl) ?_
        replace hk := ob_s hk
        obtain ⟨M40, hx39, hk⟩ := hk
        refine cl_v (rn_V g_1012 g_1014 gs_73 g_9 g_1015 hd_X7_readsMoves (Nat.le_of_ble_eq_true rfl) (ci := 7) rfl (inM kd_176 rfl) (shp7 kd_176) hx hb hml hown hg hK hW (As := []) (c_X7_readsMoves l G M hx39) (by decide) rfl hl.1 rfl (Nat.le_of_ble_eq_true rfl) dX7_readsItem_35) hW (fun H locs hW => ?_)
        refine lv_goto (tgt := 158) hx hb dX7_readsItem_38 (by decide) ?_
        obtain rfl := Option.some.inj hk
        exact KJ52 _ _ _ hW (lv_sub hl [1] rfl)
    · replace hk := ite_t hk c44
      refine lv_aload_n hx hb dX7_readsItem_22 rfl (lv_at hl 1 rfl) ?_
      replace hk := ob_s hk
      obtain ⟨M43, hx42, hk⟩ := hk
      refine cl_v (rn_V g_1008 g_1010 gs_72 g_9 g_1011 hd_X7_readsLimb (Nat.le_of_ble_eq_true rfl) (ci := 7) rfl (inM kd_176 rfl) (shp7 kd_176) hx hb hml hown hg hK hW (As := []) (c_X7_readsLimb l G M hx42) (by decide) rfl hl.1 rfl (Nat.le_of_ble_eq_true rfl) dX7_readsItem_23) hW (fun H locs hW => ?_)
      refine lv_goto (tgt := 158) hx hb dX7_readsItem_26 (by decide) ?_
      obtain rfl := Option.some.inj hk
      exact KJ52 _ _ _ hW (lv_sub hl [1] rfl)
  clear hk
  have hk := hr55.symm
  clear hr55
  refine lv_icmp_ne (tgt := 15) hx hb dX7_readsItem_5 (by decide) (fun c1 => ?_) (fun c1 => ?_)
  · replace hk := ite_f hk c1
    refine lv_iconst (v := (0 : Int32)) hx hb dX7_readsItem_15 (by decide) ?_
    subst hk
    exact KJ54 _ _ _ hW (lv_sub hl [0] rfl)
  · replace hk := ite_t hk c1
    refine lv_aload_n hx hb dX7_readsItem_8 rfl (lv_at hl 0 rfl) ?_
    refine gt_X7_162 hx hb hg hown hK hW kd_176 dX7_readsItem_9 ?_
    refine lv_goto (tgt := 16) hx hb dX7_readsItem_12 (by decide) ?_
    subst hk
    exact KJ54 _ _ _ hW (lv_sub hl [0] rfl)
def f_X7_read_L2 : Nat → Int32 → Mem → Option (Int32 × Mem)
  | 0, _, _ => none
  | n + 1, x1, M2 =>
    if (340 : Int32) ≤ x1 then (
      some (x1, M2))
    else (
      ob (rd M2 177 x1) (fun x5 =>
      ob (wr M2 179 x1 x5) (fun M6 =>
      lq (x1 + (1 : Int32)) (fun x7 =>
      f_X7_read_L2 n x7 M6))))
def f_X7_read_L105 : Nat → Int32 → Mem → Option (Int32 × Mem)
  | 0, _, _ => none
  | n + 1, x28, M29 =>
    if (0 : Int32) ≤ (M29.1 176 12) then (
      some (x28, M29))
    else (
      if (M29.1 176 10) = (4 : Int32) then (
        some (x28, M29))
      else (
        ob (f_X7_readsItem M29) (fun M33 =>
        lq (x28 + (1 : Int32)) (fun x34 =>
        f_X7_read_L105 n x34 M33))))
def f_X7_read_L150 : Nat → Int32 → Mem → Option (Int32 × Mem)
  | 0, _, _ => none
  | n + 1, x37, M38 =>
    if (340 : Int32) ≤ x37 then (
      some (x37, M38))
    else (
      ob (rd M38 179 x37) (fun x41 =>
      ob (wr M38 177 x37 x41) (fun M42 =>
      lq (x37 + (1 : Int32)) (fun x43 =>
      f_X7_read_L150 n x43 M42))))
def f_X7_read (M : Mem) : Option (Int32 × Mem) :=
  ob2 (f_X7_read_L2 FU (0 : Int32) M) (fun x3 M4 =>
  lq (s1 M4 176 8 (0 : Int32)) (fun M9 =>
  lq (s1 M9 176 12 ((-1) : Int32)) (fun M10 =>
  ob (f_X7_looksOn M10) (fun M12 =>
  lq (
    if (M12.1 176 10) = (1 : Int32) then (
      if (M12.1 176 11) = (1 : Int32) then (
        (1 : Int32))
      else (
        (0 : Int32)))
    else (
      (0 : Int32)))
   (fun x15 =>
  ob (f_X7_must x15 M12) (fun M17 =>
  ob2 (f_X7_number (0 : Int32) (40 : Int32) M17) (fun x18 M19 =>
  lq (
    if (M19.1 176 10) = (3 : Int32) then (
      (1 : Int32))
    else (
      (0 : Int32)))
   (fun x21 =>
  ob (f_X7_must x21 M19) (fun M23 =>
  ob (
    if (0 : Int32) ≤ (M23.1 176 12) then (
      some M23)
    else (
      ob (f_X7_begins x18 M23) (fun M25 =>
      some M25)))
   (fun M27 =>
  ob2 (f_X7_read_L105 FU (1 : Int32) M27) (fun x30 M31 =>
  if (0 : Int32) ≤ (M31.1 176 12) then (
    ob2 (f_X7_read_L150 FU (0 : Int32) M31) (fun x39 M40 =>
    some ((((-10) : Int32) - (M40.1 176 12)), M40)))
  else (
    ob (wr M31 177 (147 : Int32) (0 : Int32)) (fun M47 =>
    some (x30, M47))))))))))))))
set_option maxHeartbeats 4000000 in
set_option maxRecDepth 100000 in
theorem c_X7_read (l : Launch) (G : GT)  (M : Mem) {r : Int32} {M' : Mem} (hk : f_X7_read  M = some (r, M')) : CMi l G false yX7_read cX7_read 4 (some .int) 7 [.ref (ad G 176)] M r M' := by
  unfold f_X7_read at hk
  refine CMi.of (by decide) (Nat.le_of_ble_eq_true rfl) ?_
  intro p e s m args below meth c Q hx hb hml hown hg hK hW hret ls hl
  have hl : lv_has ls 4 [(0, .ref (ad G 176))] := hl
  refine lv_iconst (v := (0 : Int32)) hx hb dX7_read_0 (by decide) ?_
  refine lv_istore_n (lv' := [(1, .int (0 : Int32)), (0, .ref (ad G 176))]) hx hb dX7_read_1 rfl hl (by decide) rfl (fun ls hl => ?_)
  replace hk := ob2_s hk
  obtain ⟨x3, M4, hz57, hk⟩ := hk
  have KX2 : ∀ (H : Heap) (locs : List Loc) (ls : Array Slot), Ws G false M4 s H locs → lv_has ls 4 [(0, .ref (ad G 176))] → Wx p l e 7 s m args below meth c Q H locs 27 ls [] := by
    intro H locs ls hW hl
    refine lv_aload_n hx hb dX7_read_27 rfl (lv_at hl 0 rfl) ?_
    refine lv_iconst (v := (0 : Int32)) hx hb dX7_read_28 (by decide) ?_
    replace hk := lq_s hk
    obtain ⟨M9, eM9, hk⟩ := hk
    refine pt_X7_144 hx hb hg hown hK hW kd_176 eM9 dX7_read_29 (fun H locs hW => ?_)
    refine lv_aload_n hx hb dX7_read_32 rfl (lv_at hl 0 rfl) ?_
    refine lv_iconst (v := ((-1) : Int32)) hx hb dX7_read_33 (by decide) ?_
    replace hk := lq_s hk
    obtain ⟨M10, eM10, hk⟩ := hk
    refine pt_X7_169 hx hb hg hown hK hW kd_176 eM10 dX7_read_34 (fun H locs hW => ?_)
    refine lv_aload_n hx hb dX7_read_37 rfl (lv_at hl 0 rfl) ?_
    replace hk := ob_s hk
    obtain ⟨M12, hx11, hk⟩ := hk
    refine cl_v (rn_V g_964 g_966 gs_66 g_9 g_967 hd_X7_looksOn (Nat.le_of_ble_eq_true rfl) (ci := 7) rfl (inM kd_176 rfl) (shp7 kd_176) hx hb hml hown hg hK hW (As := []) (c_X7_looksOn l G M10 hx11) (by decide) rfl hl.1 rfl (Nat.le_of_ble_eq_true rfl) dX7_read_38) hW (fun H locs hW => ?_)
    refine lv_aload_n hx hb dX7_read_41 rfl (lv_at hl 0 rfl) ?_
    refine lv_aload_n hx hb dX7_read_42 rfl (lv_at hl 0 rfl) ?_
    refine gt_X7_156 hx hb hg hown hK hW kd_176 dX7_read_43 ?_
    refine lv_iconst (v := (1 : Int32)) hx hb dX7_read_46 (by decide) ?_
    replace hk := lq_s hk
    obtain ⟨x15, hr56, hk⟩ := hk
    have KJ55 : ∀ (H : Heap) (locs : List Loc) (ls : Array Slot), Ws G false M12 s H locs → lv_has ls 4 [(0, .ref (ad G 176))] → Wx p l e 7 s m args below meth c Q H locs 63 ls [.int x15, .ref (ad G 176)] := by
      intro H locs ls hW hl
      replace hk := ob_s hk
      obtain ⟨M17, hx16, hk⟩ := hk
      refine cl_v (rn_V g_996 g_998 gs_69 g_9 g_999 hd_X7_must (Nat.le_of_ble_eq_true rfl) (ci := 7) rfl (inM kd_176 rfl) (shp7 kd_176) hx hb hml hown hg hK hW (As := [.int x15]) (c_X7_must l G x15 M12 hx16) (by decide) rfl hl.1 rfl (Nat.le_of_ble_eq_true rfl) dX7_read_63) hW (fun H locs hW => ?_)
      refine lv_aload_n hx hb dX7_read_66 rfl (lv_at hl 0 rfl) ?_
      refine lv_iconst (v := (0 : Int32)) hx hb dX7_read_67 (by decide) ?_
      refine lv_bipush (v := (40 : Int32)) hx hb dX7_read_68 (by decide) ?_
      replace hk := ob2_s hk
      obtain ⟨x18, M19, hx18, hk⟩ := hk
      refine cl_i (rn_V g_1000 g_1002 gs_70 g_9 g_1003 hd_X7_number (Nat.le_of_ble_eq_true rfl) (ci := 7) rfl (inM kd_176 rfl) (shp7 kd_176) hx hb hml hown hg hK hW (As := [.int (0 : Int32), .int (40 : Int32)]) (c_X7_number l G (0 : Int32) (40 : Int32) M17 hx18) (by decide) rfl hl.1 rfl (Nat.le_of_ble_eq_true rfl) dX7_read_70) hW (fun H locs hW => ?_)
      refine lv_istore_n (lv' := [(1, .int x18), (0, .ref (ad G 176))]) hx hb dX7_read_73 rfl hl (by decide) rfl (fun ls hl => ?_)
      refine lv_aload_n hx hb dX7_read_74 rfl (lv_at hl 1 rfl) ?_
      refine lv_aload_n hx hb dX7_read_75 rfl (lv_at hl 1 rfl) ?_
      refine gt_X7_156 hx hb hg hown hK hW kd_176 dX7_read_76 ?_
      refine lv_iconst (v := (3 : Int32)) hx hb dX7_read_79 (by decide) ?_
      replace hk := lq_s hk
      obtain ⟨x21, hr54, hk⟩ := hk
      have KJ53 : ∀ (H : Heap) (locs : List Loc) (ls : Array Slot), Ws G false M19 s H locs → lv_has ls 4 [(0, .ref (ad G 176)), (1, .int x18)] → Wx p l e 7 s m args below meth c Q H locs 88 ls [.int x21, .ref (ad G 176)] := by
        intro H locs ls hW hl
        replace hk := ob_s hk
        obtain ⟨M23, hx22, hk⟩ := hk
        refine cl_v (rn_V g_996 g_998 gs_69 g_9 g_999 hd_X7_must (Nat.le_of_ble_eq_true rfl) (ci := 7) rfl (inM kd_176 rfl) (shp7 kd_176) hx hb hml hown hg hK hW (As := [.int x21]) (c_X7_must l G x21 M19 hx22) (by decide) rfl hl.1 rfl (Nat.le_of_ble_eq_true rfl) dX7_read_88) hW (fun H locs hW => ?_)
        refine lv_iconst (v := (1 : Int32)) hx hb dX7_read_91 (by decide) ?_
        refine lv_istore_n (lv' := [(2, .int (1 : Int32)), (0, .ref (ad G 176)), (1, .int x18)]) hx hb dX7_read_92 rfl hl (by decide) rfl (fun ls hl => ?_)
        refine lv_aload_n hx hb dX7_read_93 rfl (lv_at hl 1 rfl) ?_
        refine gt_X7_169 hx hb hg hown hK hW kd_176 dX7_read_94 ?_
        replace hk := ob_s hk
        obtain ⟨M27, hr52, hk⟩ := hk
        have KJ51 : ∀ (H : Heap) (locs : List Loc) (ls : Array Slot), Ws G false M27 s H locs → lv_has ls 4 [(0, .ref (ad G 176)), (2, .int (1 : Int32))] → Wx p l e 7 s m args below meth c Q H locs 105 ls [] := by
          intro H locs ls hW hl
          replace hk := ob2_s hk
          obtain ⟨x30, M31, hz49, hk⟩ := hk
          have KX105 : ∀ (H : Heap) (locs : List Loc) (ls : Array Slot), Ws G false M31 s H locs → lv_has ls 4 [(0, .ref (ad G 176)), (2, .int x30)] → Wx p l e 7 s m args below meth c Q H locs 130 ls [] := by
            intro H locs ls hW hl
            refine lv_aload_n hx hb dX7_read_130 rfl (lv_at hl 0 rfl) ?_
            refine gt_X7_169 hx hb hg hown hK hW kd_176 dX7_read_131 ?_
            refine lv_if_ge (tgt := 148) hx hb dX7_read_134 (by decide) (fun c48 => ?_) (fun c48 => ?_)
            · replace hk := ite_t hk c48
              refine lv_iconst (v := (0 : Int32)) hx hb dX7_read_148 (by decide) ?_
              refine lv_istore_n (lv' := [(3, .int (0 : Int32)), (0, .ref (ad G 176)), (2, .int x30)]) hx hb dX7_read_149 rfl hl (by decide) rfl (fun ls hl => ?_)
              replace hk := ob2_s hk
              obtain ⟨x39, M40, hz45, hk⟩ := hk
              have KX150 : ∀ (H : Heap) (locs : List Loc) (ls : Array Slot), Ws G false M40 s H locs → lv_has ls 4 [(0, .ref (ad G 176))] → Wx p l e 7 s m args below meth c Q H locs 175 ls [] := by
                intro H locs ls hW hl
                refine lv_bipush (v := ((-10) : Int32)) hx hb dX7_read_175 (by decide) ?_
                refine lv_aload_n hx hb dX7_read_177 rfl (lv_at hl 0 rfl) ?_
                refine gt_X7_169 hx hb hg hown hK hW kd_176 dX7_read_178 ?_
                refine lv_isub hx hb dX7_read_181 ?_
                obtain ⟨rfl, rfl⟩ := sp2 hk
                exact hret _ _ _ _ hW dX7_read_182
              clear hk
              have LH150 : ∀ (n : Nat) (x37 : Int32) (M38 : Mem) (H : Heap) (locs : List Loc) (ls : Array Slot), f_X7_read_L150 n x37 M38 = some (x39, M40) → Ws G false M38 s H locs → lv_has ls 4 [(0, .ref (ad G 176)), (3, .int x37)] → Wx p l e 7 s m args below meth c Q H locs 150 ls [] := by
                clear hz45
                intro n
                induction n with
                | zero => intro _ _ _ _ _ hk; cases hk
                | succ n ih150 =>
                  intro x37 M38 H locs ls hk hW hl
                  rw [f_X7_read_L150.eq_2] at hk
                  refine lv_iload_n hx hb dX7_read_150 rfl (lv_at hl 1 rfl) ?_
                  refine lv_sipush (v := (340 : Int32)) hx hb dX7_read_151 (by decide) ?_
                  refine lv_icmp_ge (tgt := 175) hx hb dX7_read_154 (by decide) (fun c44 => ?_) (fun c44 => ?_)
                  · replace hk := ite_t hk c44
                    obtain ⟨rfl, rfl⟩ := sp2 hk
                    exact KX150 _ _ _ hW (lv_sub hl [0] rfl)
                  · replace hk := ite_f hk c44
                    refine lv_aload_n hx hb dX7_read_157 rfl (lv_at hl 0 rfl) ?_
                    refine gt_X7_7 hx hb hg hown hK hW kd_176 dX7_read_158 ?_
                    refine lv_iload_n hx hb dX7_read_161 rfl (lv_at hl 1 rfl) ?_
                    refine lv_aload_n hx hb dX7_read_162 rfl (lv_at hl 0 rfl) ?_
                    refine gt_X7_20 hx hb hg hown hK hW kd_176 dX7_read_163 ?_
                    refine lv_iload_n hx hb dX7_read_166 rfl (lv_at hl 1 rfl) ?_
                    replace hk := ob_s hk
                    obtain ⟨x41, hx41, hk⟩ := hk
                    obtain ⟨hx41, ex41⟩ := rd_s hx41
                    refine w_ald hx hb hK hW (inM kd_179 rfl) (shp10 kd_179) hx41 ex41 dX7_read_167 ?_
                    replace hk := ob_s hk
                    obtain ⟨M42, hM42, hk⟩ := hk
                    obtain ⟨hM42, eM42⟩ := wr_s hM42
                    refine w_ast hx hb hK hW (inM kd_177 rfl) (fun _ => (shp10 kd_177)) hM42 eM42 dX7_read_168 (fun H locs hW => ?_)
                    replace hk := lq_s hk
                    obtain ⟨x43, ex43, hk⟩ := hk
                    refine lv_iinc (v := x43) (lv' := [(3, .int x43), (0, .ref (ad G 176))]) hx hb dX7_read_169 hl (k := 1) rfl (by rw [ex43]; rfl) (by decide) rfl (fun ls hl => ?_)
                    refine lv_goto (tgt := 150) hx hb dX7_read_172 (by decide) ?_
                    exact ih150 _ _ _ _ _ hk hW (lv_sub hl [1, 0] rfl)
              exact LH150 FU _ _ _ _ _ hz45 hW (lv_sub hl [1, 0] rfl)
            · replace hk := ite_f hk c48
              refine lv_aload_n hx hb dX7_read_137 rfl (lv_at hl 0 rfl) ?_
              refine gt_X7_7 hx hb hg hown hK hW kd_176 dX7_read_138 ?_
              refine lv_sipush (v := (147 : Int32)) hx hb dX7_read_141 (by decide) ?_
              refine lv_iconst (v := (0 : Int32)) hx hb dX7_read_144 (by decide) ?_
              replace hk := ob_s hk
              obtain ⟨M47, hM47, hk⟩ := hk
              obtain ⟨hM47, eM47⟩ := wr_s hM47
              refine w_ast hx hb hK hW (inM kd_177 rfl) (fun _ => (shp10 kd_177)) hM47 eM47 dX7_read_145 (fun H locs hW => ?_)
              refine lv_iload_n hx hb dX7_read_146 rfl (lv_at hl 1 rfl) ?_
              obtain ⟨rfl, rfl⟩ := sp2 hk
              exact hret _ _ _ _ hW dX7_read_147
          clear hk
          have LH105 : ∀ (n : Nat) (x28 : Int32) (M29 : Mem) (H : Heap) (locs : List Loc) (ls : Array Slot), f_X7_read_L105 n x28 M29 = some (x30, M31) → Ws G false M29 s H locs → lv_has ls 4 [(0, .ref (ad G 176)), (2, .int x28)] → Wx p l e 7 s m args below meth c Q H locs 105 ls [] := by
            clear hz49
            intro n
            induction n with
            | zero => intro _ _ _ _ _ hk; cases hk
            | succ n ih105 =>
              intro x28 M29 H locs ls hk hW hl
              rw [f_X7_read_L105.eq_2] at hk
              refine lv_aload_n hx hb dX7_read_105 rfl (lv_at hl 0 rfl) ?_
              refine gt_X7_169 hx hb hg hown hK hW kd_176 dX7_read_106 ?_
              refine lv_if_ge (tgt := 130) hx hb dX7_read_109 (by decide) (fun c36 => ?_) (fun c36 => ?_)
              · replace hk := ite_t hk c36
                obtain ⟨rfl, rfl⟩ := sp2 hk
                exact KX105 _ _ _ hW (lv_sub hl [0, 1] rfl)
              · replace hk := ite_f hk c36
                refine lv_aload_n hx hb dX7_read_112 rfl (lv_at hl 0 rfl) ?_
                refine gt_X7_156 hx hb hg hown hK hW kd_176 dX7_read_113 ?_
                refine lv_iconst (v := (4 : Int32)) hx hb dX7_read_116 (by decide) ?_
                refine lv_icmp_eq (tgt := 130) hx hb dX7_read_117 (by decide) (fun c35 => ?_) (fun c35 => ?_)
                · replace hk := ite_t hk c35
                  obtain ⟨rfl, rfl⟩ := sp2 hk
                  exact KX105 _ _ _ hW (lv_sub hl [0, 1] rfl)
                · replace hk := ite_f hk c35
                  refine lv_aload_n hx hb dX7_read_120 rfl (lv_at hl 0 rfl) ?_
                  replace hk := ob_s hk
                  obtain ⟨M33, hx32, hk⟩ := hk
                  refine cl_v (rn_V g_1004 g_1006 gs_71 g_9 g_1007 hd_X7_readsItem (Nat.le_of_ble_eq_true rfl) (ci := 7) rfl (inM kd_176 rfl) (shp7 kd_176) hx hb hml hown hg hK hW (As := []) (c_X7_readsItem l G M29 hx32) (by decide) rfl hl.1 rfl (Nat.le_of_ble_eq_true rfl) dX7_read_121) hW (fun H locs hW => ?_)
                  replace hk := lq_s hk
                  obtain ⟨x34, ex34, hk⟩ := hk
                  refine lv_iinc (v := x34) (lv' := [(2, .int x34), (0, .ref (ad G 176))]) hx hb dX7_read_124 hl (k := 1) rfl (by rw [ex34]; rfl) (by decide) rfl (fun ls hl => ?_)
                  refine lv_goto (tgt := 105) hx hb dX7_read_127 (by decide) ?_
                  exact ih105 _ _ _ _ _ hk hW (lv_sub hl [1, 0] rfl)
          exact LH105 FU _ _ _ _ _ hz49 hW (lv_sub hl [0, 1] rfl)
        clear hk
        have hk := hr52
        clear hr52
        refine lv_if_ge (tgt := 105) hx hb dX7_read_97 (by decide) (fun c26 => ?_) (fun c26 => ?_)
        · replace hk := ite_t hk c26
          obtain rfl := Option.some.inj hk
          exact KJ51 _ _ _ hW (lv_sub hl [1, 0] rfl)
        · replace hk := ite_f hk c26
          refine lv_aload_n hx hb dX7_read_100 rfl (lv_at hl 1 rfl) ?_
          refine lv_iload_n hx hb dX7_read_101 rfl (lv_at hl 2 rfl) ?_
          replace hk := ob_s hk
          obtain ⟨M25, hx24, hk⟩ := hk
          refine cl_v (rn_V g_848 g_850 gs_61 g_9 g_851 hd_X7_begins (Nat.le_of_ble_eq_true rfl) (ci := 7) rfl (inM kd_176 rfl) (shp7 kd_176) hx hb hml hown hg hK hW (As := [.int x18]) (c_X7_begins l G x18 M23 hx24) (by decide) rfl hl.1 rfl (Nat.le_of_ble_eq_true rfl) dX7_read_102) hW (fun H locs hW => ?_)
          obtain rfl := Option.some.inj hk
          exact KJ51 _ _ _ hW (lv_sub hl [1, 0] rfl)
      clear hk
      have hk := hr54.symm
      clear hr54
      refine lv_icmp_ne (tgt := 87) hx hb dX7_read_80 (by decide) (fun c20 => ?_) (fun c20 => ?_)
      · replace hk := ite_f hk c20
        refine lv_iconst (v := (0 : Int32)) hx hb dX7_read_87 (by decide) ?_
        subst hk
        exact KJ53 _ _ _ hW (lv_sub hl [1, 0] rfl)
      · replace hk := ite_t hk c20
        refine lv_iconst (v := (1 : Int32)) hx hb dX7_read_83 (by decide) ?_
        refine lv_goto (tgt := 88) hx hb dX7_read_84 (by decide) ?_
        subst hk
        exact KJ53 _ _ _ hW (lv_sub hl [1, 0] rfl)
    clear hk
    have hk := hr56.symm
    clear hr56
    refine lv_icmp_ne (tgt := 62) hx hb dX7_read_47 (by decide) (fun c14 => ?_) (fun c14 => ?_)
    · replace hk := ite_f hk c14
      refine lv_iconst (v := (0 : Int32)) hx hb dX7_read_62 (by decide) ?_
      subst hk
      exact KJ55 _ _ _ hW (lv_sub hl [0] rfl)
    · replace hk := ite_t hk c14
      refine lv_aload_n hx hb dX7_read_50 rfl (lv_at hl 0 rfl) ?_
      refine gt_X7_162 hx hb hg hown hK hW kd_176 dX7_read_51 ?_
      refine lv_iconst (v := (1 : Int32)) hx hb dX7_read_54 (by decide) ?_
      refine lv_icmp_ne (tgt := 62) hx hb dX7_read_55 (by decide) (fun c13 => ?_) (fun c13 => ?_)
      · replace hk := ite_f hk c13
        refine lv_iconst (v := (0 : Int32)) hx hb dX7_read_62 (by decide) ?_
        subst hk
        exact KJ55 _ _ _ hW (lv_sub hl [0] rfl)
      · replace hk := ite_t hk c13
        refine lv_iconst (v := (1 : Int32)) hx hb dX7_read_58 (by decide) ?_
        refine lv_goto (tgt := 63) hx hb dX7_read_59 (by decide) ?_
        subst hk
        exact KJ55 _ _ _ hW (lv_sub hl [0] rfl)
  clear hk
  have LH2 : ∀ (n : Nat) (x1 : Int32) (M2 : Mem) (H : Heap) (locs : List Loc) (ls : Array Slot), f_X7_read_L2 n x1 M2 = some (x3, M4) → Ws G false M2 s H locs → lv_has ls 4 [(0, .ref (ad G 176)), (1, .int x1)] → Wx p l e 7 s m args below meth c Q H locs 2 ls [] := by
    clear hz57
    intro n
    induction n with
    | zero => intro _ _ _ _ _ hk; cases hk
    | succ n ih2 =>
      intro x1 M2 H locs ls hk hW hl
      rw [f_X7_read_L2.eq_2] at hk
      refine lv_iload_n hx hb dX7_read_2 rfl (lv_at hl 1 rfl) ?_
      refine lv_sipush (v := (340 : Int32)) hx hb dX7_read_3 (by decide) ?_
      refine lv_icmp_ge (tgt := 27) hx hb dX7_read_6 (by decide) (fun c8 => ?_) (fun c8 => ?_)
      · replace hk := ite_t hk c8
        obtain ⟨rfl, rfl⟩ := sp2 hk
        exact KX2 _ _ _ hW (lv_sub hl [0] rfl)
      · replace hk := ite_f hk c8
        refine lv_aload_n hx hb dX7_read_9 rfl (lv_at hl 0 rfl) ?_
        refine gt_X7_20 hx hb hg hown hK hW kd_176 dX7_read_10 ?_
        refine lv_iload_n hx hb dX7_read_13 rfl (lv_at hl 1 rfl) ?_
        refine lv_aload_n hx hb dX7_read_14 rfl (lv_at hl 0 rfl) ?_
        refine gt_X7_7 hx hb hg hown hK hW kd_176 dX7_read_15 ?_
        refine lv_iload_n hx hb dX7_read_18 rfl (lv_at hl 1 rfl) ?_
        replace hk := ob_s hk
        obtain ⟨x5, hx5, hk⟩ := hk
        obtain ⟨hx5, ex5⟩ := rd_s hx5
        refine w_ald hx hb hK hW (inM kd_177 rfl) (shp10 kd_177) hx5 ex5 dX7_read_19 ?_
        replace hk := ob_s hk
        obtain ⟨M6, hM6, hk⟩ := hk
        obtain ⟨hM6, eM6⟩ := wr_s hM6
        refine w_ast hx hb hK hW (inM kd_179 rfl) (fun _ => (shp10 kd_179)) hM6 eM6 dX7_read_20 (fun H locs hW => ?_)
        replace hk := lq_s hk
        obtain ⟨x7, ex7, hk⟩ := hk
        refine lv_iinc (v := x7) (lv' := [(1, .int x7), (0, .ref (ad G 176))]) hx hb dX7_read_21 hl (k := 1) rfl (by rw [ex7]; rfl) (by decide) rfl (fun ls hl => ?_)
        refine lv_goto (tgt := 2) hx hb dX7_read_24 (by decide) ?_
        exact ih2 _ _ _ _ _ hk hW (lv_sub hl [1, 0] rfl)
  exact LH2 FU _ _ _ _ _ hz57 hW (lv_sub hl [1, 0] rfl)
def f_X7_notes_L17 : Nat → Int32 → Mem → Option (Int32 × Mem)
  | 0, _, _ => none
  | n + 1, x2, M3 =>
    if (340 : Int32) ≤ x2 then (
      some (x2, M3))
    else (
      ob (rd M3 177 x2) (fun x6 =>
      ob (wr M3 177 (x2 - (24 : Int32)) x6) (fun M7 =>
      lq (x2 + (1 : Int32)) (fun x8 =>
      f_X7_notes_L17 n x8 M7))))
def f_X7_notes_L73 (x16 : Int32) : Nat → Int32 → Mem → Option (Int32 × Mem)
  | 0, _, _ => none
  | n + 1, x17, M18 =>
    if (3 : Int32) ≤ x17 then (
      some (x17, M18))
    else (
      ob (rd M18 177 ((1 : Int32) + x17)) (fun x21 =>
      ob (wr M18 177 (x16 + x17) x21) (fun M22 =>
      lq (x17 + (1 : Int32)) (fun x23 =>
      f_X7_notes_L73 x16 n x23 M22))))
def f_X7_notes_L110 (x16 : Int32) (x25 : Int32) : Nat → Int32 → Mem → Option (Int32 × Mem)
  | 0, _, _ => none
  | n + 1, x29, M30 =>
    if (3 : Int32) ≤ x29 then (
      some (x29, M30))
    else (
      ob (f_X7_limbOf x25 ((4 : Int32) + x29) M30) (fun x33 =>
      ob (wr M30 177 (((x16 + (3 : Int32)) + ((3 : Int32) * x25)) + x29) x33) (fun M34 =>
      lq (x29 + (1 : Int32)) (fun x35 =>
      f_X7_notes_L110 x16 x25 n x35 M34))))
def f_X7_notes_L102 (x16 : Int32) : Nat → Int32 → Mem → Option (Int32 × Mem)
  | 0, _, _ => none
  | n + 1, x25, M26 =>
    if (7 : Int32) ≤ x25 then (
      some (x25, M26))
    else (
      ob2 (f_X7_notes_L110 x16 x25 FU (0 : Int32) M26) (fun x31 M32 =>
      lq (x25 + (1 : Int32)) (fun x37 =>
      f_X7_notes_L102 x16 n x37 M32)))
def f_X7_notes (M : Mem) : Option (Mem) :=
  ob (rd M 177 (147 : Int32)) (fun x1 =>
  ob (
    if x1 = (8 : Int32) then (
      ob2 (f_X7_notes_L17 FU (172 : Int32) M) (fun x4 M5 =>
      ob (wr M5 177 (147 : Int32) (7 : Int32)) (fun M10 =>
      some M10)))
    else (
      some M))
   (fun M14 =>
  ob (rd M14 177 (147 : Int32)) (fun x15 =>
  lq ((148 : Int32) + ((24 : Int32) * x15)) (fun x16 =>
  ob2 (f_X7_notes_L73 x16 FU (0 : Int32) M14) (fun x19 M20 =>
  ob2 (f_X7_notes_L102 x16 FU (0 : Int32) M20) (fun x27 M28 =>
  ob (rd M28 177 (147 : Int32)) (fun x41 =>
  ob (wr M28 177 (147 : Int32) (x41 + (1 : Int32))) (fun M42 =>
  some M42))))))))
set_option maxHeartbeats 4000000 in
set_option maxRecDepth 100000 in
theorem c_X7_notes (l : Launch) (G : GT)  (M : Mem) {M' : Mem} (hk : f_X7_notes  M = some M') : CMv l G false yX7_notes cX7_notes 4 none 1 [.ref (ad G 176)] M M' := by
  unfold f_X7_notes at hk
  refine CMv.of (by decide) (Nat.le_of_ble_eq_true rfl) ?_
  intro p e s m args below meth c Q hx hb hml hown hg hK hW hret ls hl
  have hl : lv_has ls 4 [(0, .ref (ad G 176))] := hl
  refine lv_aload_n hx hb dX7_notes_0 rfl (lv_at hl 0 rfl) ?_
  refine gt_X7_7 hx hb hg hown hK hW kd_176 dX7_notes_1 ?_
  refine lv_sipush (v := (147 : Int32)) hx hb dX7_notes_4 (by decide) ?_
  replace hk := ob_s hk
  obtain ⟨x1, hx1, hk⟩ := hk
  obtain ⟨hx1, ex1⟩ := rd_s hx1
  refine w_ald hx hb hK hW (inM kd_177 rfl) (shp10 kd_177) hx1 ex1 dX7_notes_7 ?_
  refine lv_bipush (v := (8 : Int32)) hx hb dX7_notes_8 (by decide) ?_
  replace hk := ob_s hk
  obtain ⟨M14, hr48, hk⟩ := hk
  have KJ47 : ∀ (H : Heap) (locs : List Loc) (ls : Array Slot), Ws G false M14 s H locs → lv_has ls 4 [(0, .ref (ad G 176))] → Wx p l e 1 s m args below meth c Q H locs 55 ls [] := by
    intro H locs ls hW hl
    refine lv_sipush (v := (148 : Int32)) hx hb dX7_notes_55 (by decide) ?_
    refine lv_bipush (v := (24 : Int32)) hx hb dX7_notes_58 (by decide) ?_
    refine lv_aload_n hx hb dX7_notes_60 rfl (lv_at hl 0 rfl) ?_
    refine gt_X7_7 hx hb hg hown hK hW kd_176 dX7_notes_61 ?_
    refine lv_sipush (v := (147 : Int32)) hx hb dX7_notes_64 (by decide) ?_
    replace hk := ob_s hk
    obtain ⟨x15, hx15, hk⟩ := hk
    obtain ⟨hx15, ex15⟩ := rd_s hx15
    refine w_ald hx hb hK hW (inM kd_177 rfl) (shp10 kd_177) hx15 ex15 dX7_notes_67 ?_
    refine lv_imul hx hb dX7_notes_68 ?_
    refine lv_iadd hx hb dX7_notes_69 ?_
    replace hk := lq_s hk
    obtain ⟨x16, ex16, hk⟩ := hk
    refine nm_i ex16 ?_
    refine lv_istore_n (lv' := [(1, .int x16), (0, .ref (ad G 176))]) hx hb dX7_notes_70 rfl hl (by decide) rfl (fun ls hl => ?_)
    refine lv_iconst (v := (0 : Int32)) hx hb dX7_notes_71 (by decide) ?_
    refine lv_istore_n (lv' := [(2, .int (0 : Int32)), (1, .int x16), (0, .ref (ad G 176))]) hx hb dX7_notes_72 rfl hl (by decide) rfl (fun ls hl => ?_)
    replace hk := ob2_s hk
    obtain ⟨x19, M20, hz45, hk⟩ := hk
    have KX73 : ∀ (H : Heap) (locs : List Loc) (ls : Array Slot), Ws G false M20 s H locs → lv_has ls 4 [(0, .ref (ad G 176)), (1, .int x16)] → Wx p l e 1 s m args below meth c Q H locs 100 ls [] := by
      intro H locs ls hW hl
      refine lv_iconst (v := (0 : Int32)) hx hb dX7_notes_100 (by decide) ?_
      refine lv_istore_n (lv' := [(2, .int (0 : Int32)), (0, .ref (ad G 176)), (1, .int x16)]) hx hb dX7_notes_101 rfl hl (by decide) rfl (fun ls hl => ?_)
      replace hk := ob2_s hk
      obtain ⟨x27, M28, hz43, hk⟩ := hk
      have KX102 : ∀ (H : Heap) (locs : List Loc) (ls : Array Slot), Ws G false M28 s H locs → lv_has ls 4 [(0, .ref (ad G 176))] → Wx p l e 1 s m args below meth c Q H locs 149 ls [] := by
        intro H locs ls hW hl
        refine lv_aload_n hx hb dX7_notes_149 rfl (lv_at hl 0 rfl) ?_
        refine gt_X7_7 hx hb hg hown hK hW kd_176 dX7_notes_150 ?_
        refine lv_sipush (v := (147 : Int32)) hx hb dX7_notes_153 (by decide) ?_
        refine lv_dup2_11 hx hb dX7_notes_156 rfl rfl ?_
        replace hk := ob_s hk
        obtain ⟨x41, hx41, hk⟩ := hk
        obtain ⟨hx41, ex41⟩ := rd_s hx41
        refine w_ald hx hb hK hW (inM kd_177 rfl) (shp10 kd_177) hx41 ex41 dX7_notes_157 ?_
        refine lv_iconst (v := (1 : Int32)) hx hb dX7_notes_158 (by decide) ?_
        refine lv_iadd hx hb dX7_notes_159 ?_
        replace hk := ob_s hk
        obtain ⟨M42, hM42, hk⟩ := hk
        obtain ⟨hM42, eM42⟩ := wr_s hM42
        refine w_ast hx hb hK hW (inM kd_177 rfl) (fun _ => (shp10 kd_177)) hM42 eM42 dX7_notes_160 (fun H locs hW => ?_)
        obtain rfl := Option.some.inj hk
        exact hret _ _ _ _ hW dX7_notes_161
      clear hk
      have LH102 : ∀ (n : Nat) (x25 : Int32) (M26 : Mem) (H : Heap) (locs : List Loc) (ls : Array Slot), f_X7_notes_L102 x16 n x25 M26 = some (x27, M28) → Ws G false M26 s H locs → lv_has ls 4 [(0, .ref (ad G 176)), (1, .int x16), (2, .int x25)] → Wx p l e 1 s m args below meth c Q H locs 102 ls [] := by
        clear hz43
        intro n
        induction n with
        | zero => intro _ _ _ _ _ hk; cases hk
        | succ n ih102 =>
          intro x25 M26 H locs ls hk hW hl
          rw [f_X7_notes_L102.eq_2] at hk
          refine lv_iload_n hx hb dX7_notes_102 rfl (lv_at hl 2 rfl) ?_
          refine lv_bipush (v := (7 : Int32)) hx hb dX7_notes_103 (by decide) ?_
          refine lv_icmp_ge (tgt := 149) hx hb dX7_notes_105 (by decide) (fun c40 => ?_) (fun c40 => ?_)
          · replace hk := ite_t hk c40
            obtain ⟨rfl, rfl⟩ := sp2 hk
            exact KX102 _ _ _ hW (lv_sub hl [0] rfl)
          · replace hk := ite_f hk c40
            refine lv_iconst (v := (0 : Int32)) hx hb dX7_notes_108 (by decide) ?_
            refine lv_istore_n (lv' := [(3, .int (0 : Int32)), (0, .ref (ad G 176)), (1, .int x16), (2, .int x25)]) hx hb dX7_notes_109 rfl hl (by decide) rfl (fun ls hl => ?_)
            replace hk := ob2_s hk
            obtain ⟨x31, M32, hz38, hk⟩ := hk
            have KX110 : ∀ (H : Heap) (locs : List Loc) (ls : Array Slot), Ws G false M32 s H locs → lv_has ls 4 [(0, .ref (ad G 176)), (1, .int x16), (2, .int x25)] → Wx p l e 1 s m args below meth c Q H locs 143 ls [] := by
              intro H locs ls hW hl
              replace hk := lq_s hk
              obtain ⟨x37, ex37, hk⟩ := hk
              refine lv_iinc (v := x37) (lv' := [(2, .int x37), (0, .ref (ad G 176)), (1, .int x16)]) hx hb dX7_notes_143 hl (k := 2) rfl (by rw [ex37]; rfl) (by decide) rfl (fun ls hl => ?_)
              refine lv_goto (tgt := 102) hx hb dX7_notes_146 (by decide) ?_
              exact ih102 _ _ _ _ _ hk hW (lv_sub hl [1, 2, 0] rfl)
            clear hk
            have LH110 : ∀ (n : Nat) (x29 : Int32) (M30 : Mem) (H : Heap) (locs : List Loc) (ls : Array Slot), f_X7_notes_L110 x16 x25 n x29 M30 = some (x31, M32) → Ws G false M30 s H locs → lv_has ls 4 [(0, .ref (ad G 176)), (1, .int x16), (2, .int x25), (3, .int x29)] → Wx p l e 1 s m args below meth c Q H locs 110 ls [] := by
              clear hz38
              intro n
              induction n with
              | zero => intro _ _ _ _ _ hk; cases hk
              | succ n ih110 =>
                intro x29 M30 H locs ls hk hW hl
                rw [f_X7_notes_L110.eq_2] at hk
                refine lv_iload_n hx hb dX7_notes_110 rfl (lv_at hl 3 rfl) ?_
                refine lv_iconst (v := (3 : Int32)) hx hb dX7_notes_111 (by decide) ?_
                refine lv_icmp_ge (tgt := 143) hx hb dX7_notes_112 (by decide) (fun c36 => ?_) (fun c36 => ?_)
                · replace hk := ite_t hk c36
                  obtain ⟨rfl, rfl⟩ := sp2 hk
                  exact KX110 _ _ _ hW (lv_sub hl [0, 1, 2] rfl)
                · replace hk := ite_f hk c36
                  refine lv_aload_n hx hb dX7_notes_115 rfl (lv_at hl 0 rfl) ?_
                  refine gt_X7_7 hx hb hg hown hK hW kd_176 dX7_notes_116 ?_
                  refine lv_iload_n hx hb dX7_notes_119 rfl (lv_at hl 1 rfl) ?_
                  refine lv_iconst (v := (3 : Int32)) hx hb dX7_notes_120 (by decide) ?_
                  refine lv_iadd hx hb dX7_notes_121 ?_
                  refine lv_iconst (v := (3 : Int32)) hx hb dX7_notes_122 (by decide) ?_
                  refine lv_iload_n hx hb dX7_notes_123 rfl (lv_at hl 2 rfl) ?_
                  refine lv_imul hx hb dX7_notes_124 ?_
                  refine lv_iadd hx hb dX7_notes_125 ?_
                  refine lv_iload_n hx hb dX7_notes_126 rfl (lv_at hl 3 rfl) ?_
                  refine lv_iadd hx hb dX7_notes_127 ?_
                  refine lv_aload_n hx hb dX7_notes_128 rfl (lv_at hl 0 rfl) ?_
                  refine lv_iload_n hx hb dX7_notes_129 rfl (lv_at hl 2 rfl) ?_
                  refine lv_iconst (v := (4 : Int32)) hx hb dX7_notes_130 (by decide) ?_
                  refine lv_iload_n hx hb dX7_notes_131 rfl (lv_at hl 3 rfl) ?_
                  refine lv_iadd hx hb dX7_notes_132 ?_
                  replace hk := ob_s hk
                  obtain ⟨x33, hx33, hk⟩ := hk
                  refine cl_i (rn_V g_1029 g_1031 gs_77 g_9 g_1032 hd_X7_limbOf (Nat.le_of_ble_eq_true rfl) (ci := 7) rfl (inM kd_176 rfl) (shp7 kd_176) hx hb hml hown hg hK hW (As := [.int x25, .int ((4 : Int32) + x29)]) (c_X7_limbOf l G x25 ((4 : Int32) + x29) M30 hx33) (by decide) rfl hl.1 rfl (Nat.le_of_ble_eq_true rfl) dX7_notes_133) hW (fun H locs hW => ?_)
                  replace hk := ob_s hk
                  obtain ⟨M34, hM34, hk⟩ := hk
                  obtain ⟨hM34, eM34⟩ := wr_s hM34
                  refine w_ast hx hb hK hW (inM kd_177 rfl) (fun _ => (shp10 kd_177)) hM34 eM34 dX7_notes_136 (fun H locs hW => ?_)
                  replace hk := lq_s hk
                  obtain ⟨x35, ex35, hk⟩ := hk
                  refine lv_iinc (v := x35) (lv' := [(3, .int x35), (0, .ref (ad G 176)), (1, .int x16), (2, .int x25)]) hx hb dX7_notes_137 hl (k := 3) rfl (by rw [ex35]; rfl) (by decide) rfl (fun ls hl => ?_)
                  refine lv_goto (tgt := 110) hx hb dX7_notes_140 (by decide) ?_
                  exact ih110 _ _ _ _ _ hk hW (lv_sub hl [1, 2, 3, 0] rfl)
            exact LH110 FU _ _ _ _ _ hz38 hW (lv_sub hl [1, 2, 3, 0] rfl)
      exact LH102 FU _ _ _ _ _ hz43 hW (lv_sub hl [1, 2, 0] rfl)
    clear hk
    have LH73 : ∀ (n : Nat) (x17 : Int32) (M18 : Mem) (H : Heap) (locs : List Loc) (ls : Array Slot), f_X7_notes_L73 x16 n x17 M18 = some (x19, M20) → Ws G false M18 s H locs → lv_has ls 4 [(0, .ref (ad G 176)), (1, .int x16), (2, .int x17)] → Wx p l e 1 s m args below meth c Q H locs 73 ls [] := by
      clear hz45
      intro n
      induction n with
      | zero => intro _ _ _ _ _ hk; cases hk
      | succ n ih73 =>
        intro x17 M18 H locs ls hk hW hl
        rw [f_X7_notes_L73.eq_2] at hk
        refine lv_iload_n hx hb dX7_notes_73 rfl (lv_at hl 2 rfl) ?_
        refine lv_iconst (v := (3 : Int32)) hx hb dX7_notes_74 (by decide) ?_
        refine lv_icmp_ge (tgt := 100) hx hb dX7_notes_75 (by decide) (fun c24 => ?_) (fun c24 => ?_)
        · replace hk := ite_t hk c24
          obtain ⟨rfl, rfl⟩ := sp2 hk
          exact KX73 _ _ _ hW (lv_sub hl [0, 1] rfl)
        · replace hk := ite_f hk c24
          refine lv_aload_n hx hb dX7_notes_78 rfl (lv_at hl 0 rfl) ?_
          refine gt_X7_7 hx hb hg hown hK hW kd_176 dX7_notes_79 ?_
          refine lv_iload_n hx hb dX7_notes_82 rfl (lv_at hl 1 rfl) ?_
          refine lv_iload_n hx hb dX7_notes_83 rfl (lv_at hl 2 rfl) ?_
          refine lv_iadd hx hb dX7_notes_84 ?_
          refine lv_aload_n hx hb dX7_notes_85 rfl (lv_at hl 0 rfl) ?_
          refine gt_X7_7 hx hb hg hown hK hW kd_176 dX7_notes_86 ?_
          refine lv_iconst (v := (1 : Int32)) hx hb dX7_notes_89 (by decide) ?_
          refine lv_iload_n hx hb dX7_notes_90 rfl (lv_at hl 2 rfl) ?_
          refine lv_iadd hx hb dX7_notes_91 ?_
          replace hk := ob_s hk
          obtain ⟨x21, hx21, hk⟩ := hk
          obtain ⟨hx21, ex21⟩ := rd_s hx21
          refine w_ald hx hb hK hW (inM kd_177 rfl) (shp10 kd_177) hx21 ex21 dX7_notes_92 ?_
          replace hk := ob_s hk
          obtain ⟨M22, hM22, hk⟩ := hk
          obtain ⟨hM22, eM22⟩ := wr_s hM22
          refine w_ast hx hb hK hW (inM kd_177 rfl) (fun _ => (shp10 kd_177)) hM22 eM22 dX7_notes_93 (fun H locs hW => ?_)
          replace hk := lq_s hk
          obtain ⟨x23, ex23, hk⟩ := hk
          refine lv_iinc (v := x23) (lv' := [(2, .int x23), (0, .ref (ad G 176)), (1, .int x16)]) hx hb dX7_notes_94 hl (k := 2) rfl (by rw [ex23]; rfl) (by decide) rfl (fun ls hl => ?_)
          refine lv_goto (tgt := 73) hx hb dX7_notes_97 (by decide) ?_
          exact ih73 _ _ _ _ _ hk hW (lv_sub hl [1, 2, 0] rfl)
    exact LH73 FU _ _ _ _ _ hz45 hW (lv_sub hl [2, 1, 0] rfl)
  clear hk
  have hk := hr48
  clear hr48
  refine lv_icmp_ne (tgt := 55) hx hb dX7_notes_10 (by decide) (fun c13 => ?_) (fun c13 => ?_)
  · replace hk := ite_f hk c13
    obtain rfl := Option.some.inj hk
    exact KJ47 _ _ _ hW (lv_sub hl [0] rfl)
  · replace hk := ite_t hk c13
    refine lv_sipush (v := (172 : Int32)) hx hb dX7_notes_13 (by decide) ?_
    refine lv_istore_n (lv' := [(1, .int (172 : Int32)), (0, .ref (ad G 176))]) hx hb dX7_notes_16 rfl hl (by decide) rfl (fun ls hl => ?_)
    replace hk := ob2_s hk
    obtain ⟨x4, M5, hz11, hk⟩ := hk
    have KX17 : ∀ (H : Heap) (locs : List Loc) (ls : Array Slot), Ws G false M5 s H locs → lv_has ls 4 [(0, .ref (ad G 176))] → Wx p l e 1 s m args below meth c Q H locs 45 ls [] := by
      intro H locs ls hW hl
      refine lv_aload_n hx hb dX7_notes_45 rfl (lv_at hl 0 rfl) ?_
      refine gt_X7_7 hx hb hg hown hK hW kd_176 dX7_notes_46 ?_
      refine lv_sipush (v := (147 : Int32)) hx hb dX7_notes_49 (by decide) ?_
      refine lv_bipush (v := (7 : Int32)) hx hb dX7_notes_52 (by decide) ?_
      replace hk := ob_s hk
      obtain ⟨M10, hM10, hk⟩ := hk
      obtain ⟨hM10, eM10⟩ := wr_s hM10
      refine w_ast hx hb hK hW (inM kd_177 rfl) (fun _ => (shp10 kd_177)) hM10 eM10 dX7_notes_54 (fun H locs hW => ?_)
      obtain rfl := Option.some.inj hk
      exact KJ47 _ _ _ hW (lv_sub hl [0] rfl)
    clear hk
    have LH17 : ∀ (n : Nat) (x2 : Int32) (M3 : Mem) (H : Heap) (locs : List Loc) (ls : Array Slot), f_X7_notes_L17 n x2 M3 = some (x4, M5) → Ws G false M3 s H locs → lv_has ls 4 [(0, .ref (ad G 176)), (1, .int x2)] → Wx p l e 1 s m args below meth c Q H locs 17 ls [] := by
      clear hz11
      intro n
      induction n with
      | zero => intro _ _ _ _ _ hk; cases hk
      | succ n ih17 =>
        intro x2 M3 H locs ls hk hW hl
        rw [f_X7_notes_L17.eq_2] at hk
        refine lv_iload_n hx hb dX7_notes_17 rfl (lv_at hl 1 rfl) ?_
        refine lv_sipush (v := (340 : Int32)) hx hb dX7_notes_18 (by decide) ?_
        refine lv_icmp_ge (tgt := 45) hx hb dX7_notes_21 (by decide) (fun c9 => ?_) (fun c9 => ?_)
        · replace hk := ite_t hk c9
          obtain ⟨rfl, rfl⟩ := sp2 hk
          exact KX17 _ _ _ hW (lv_sub hl [0] rfl)
        · replace hk := ite_f hk c9
          refine lv_aload_n hx hb dX7_notes_24 rfl (lv_at hl 0 rfl) ?_
          refine gt_X7_7 hx hb hg hown hK hW kd_176 dX7_notes_25 ?_
          refine lv_iload_n hx hb dX7_notes_28 rfl (lv_at hl 1 rfl) ?_
          refine lv_bipush (v := (24 : Int32)) hx hb dX7_notes_29 (by decide) ?_
          refine lv_isub hx hb dX7_notes_31 ?_
          refine lv_aload_n hx hb dX7_notes_32 rfl (lv_at hl 0 rfl) ?_
          refine gt_X7_7 hx hb hg hown hK hW kd_176 dX7_notes_33 ?_
          refine lv_iload_n hx hb dX7_notes_36 rfl (lv_at hl 1 rfl) ?_
          replace hk := ob_s hk
          obtain ⟨x6, hx6, hk⟩ := hk
          obtain ⟨hx6, ex6⟩ := rd_s hx6
          refine w_ald hx hb hK hW (inM kd_177 rfl) (shp10 kd_177) hx6 ex6 dX7_notes_37 ?_
          replace hk := ob_s hk
          obtain ⟨M7, hM7, hk⟩ := hk
          obtain ⟨hM7, eM7⟩ := wr_s hM7
          refine w_ast hx hb hK hW (inM kd_177 rfl) (fun _ => (shp10 kd_177)) hM7 eM7 dX7_notes_38 (fun H locs hW => ?_)
          replace hk := lq_s hk
          obtain ⟨x8, ex8, hk⟩ := hk
          refine lv_iinc (v := x8) (lv' := [(1, .int x8), (0, .ref (ad G 176))]) hx hb dX7_notes_39 hl (k := 1) rfl (by rw [ex8]; rfl) (by decide) rfl (fun ls hl => ?_)
          refine lv_goto (tgt := 17) hx hb dX7_notes_42 (by decide) ?_
          exact ih17 _ _ _ _ _ hk hW (lv_sub hl [1, 0] rfl)
    exact LH17 FU _ _ _ _ _ hz11 hW (lv_sub hl [1, 0] rfl)
def f_X7_moves (a1 : Int32) (M : Mem) : Option (Int32 × Mem) :=
  if (f_X7_in a1.toInt64 (0 : Int64) (4 : Int64)) = (0 : Int32) then (
    ob2 (f_X7_bad M) (fun x11 M12 =>
    some (x11, M12)))
  else (
    ob (rd M 177 (3 : Int32)) (fun x2 =>
    if x2 = (9999 : Int32) then (
      ob2 (f_X7_no M) (fun x8 M9 =>
      some (x8, M9)))
    else (
      ob (f_X7_notes M) (fun M4 =>
      ob (f_X7_goes a1 M4) (fun M6 =>
      ob (f_X7_snapped M6) (fun x7 =>
      some (x7, M6)))))))
set_option maxHeartbeats 4000000 in
set_option maxRecDepth 100000 in
theorem c_X7_moves (l : Launch) (G : GT) (a1 : Int32) (M : Mem) {r : Int32} {M' : Mem} (hk : f_X7_moves a1 M = some (r, M')) : CMi l G false yX7_moves cX7_moves 2 (some .int) 4 [.ref (ad G 176), .int a1] M r M' := by
  unfold f_X7_moves at hk
  refine CMi.of (by decide) (Nat.le_of_ble_eq_true rfl) ?_
  intro p e s m args below meth c Q hx hb hml hown hg hK hW hret ls hl
  have hl : lv_has ls 2 [(0, .ref (ad G 176)), (1, .int a1)] := hl
  refine lv_iload_n hx hb dX7_moves_0 rfl (lv_at hl 1 rfl) ?_
  refine lv_i2l hx hb dX7_moves_1 rfl ?_
  refine lv_lconst (v := (0 : Int64)) hx hb dX7_moves_2 (by decide) ?_
  refine lv_ldc2 hx hb hown (hg _ g_1016) dX7_moves_3 ?_
  refine cl_i (rn_S g_921 g_922 g_9 g_923 hd_X7_in (Nat.le_of_ble_eq_true rfl) hx hb hml hown hg hK hW (As := [.long a1.toInt64, .long (0 : Int64), .long (4 : Int64)]) (c_X7_in l G a1.toInt64 (0 : Int64) (4 : Int64) M) (by decide) rfl hl.1 rfl (Nat.le_of_ble_eq_true rfl) dX7_moves_6) hW (fun H locs hW => ?_)
  refine lv_if_ne (tgt := 17) hx hb dX7_moves_9 (by decide) (fun c13 => ?_) (fun c13 => ?_)
  · replace hk := ite_f hk c13
    refine lv_aload_n hx hb dX7_moves_17 rfl (lv_at hl 0 rfl) ?_
    refine gt_X7_7 hx hb hg hown hK hW kd_176 dX7_moves_18 ?_
    refine lv_iconst (v := (3 : Int32)) hx hb dX7_moves_21 (by decide) ?_
    replace hk := ob_s hk
    obtain ⟨x2, hx2, hk⟩ := hk
    obtain ⟨hx2, ex2⟩ := rd_s hx2
    refine w_ald hx hb hK hW (inM kd_177 rfl) (shp10 kd_177) hx2 ex2 dX7_moves_22 ?_
    refine lv_sipush (v := (9999 : Int32)) hx hb dX7_moves_23 (by decide) ?_
    refine lv_icmp_ne (tgt := 34) hx hb dX7_moves_26 (by decide) (fun c10 => ?_) (fun c10 => ?_)
    · replace hk := ite_f hk c10
      refine lv_aload_n hx hb dX7_moves_34 rfl (lv_at hl 0 rfl) ?_
      replace hk := ob_s hk
      obtain ⟨M4, hx3, hk⟩ := hk
      refine cl_v (rn_V g_1049 g_1051 gs_81 g_9 g_1052 hd_X7_notes (Nat.le_of_ble_eq_true rfl) (ci := 7) rfl (inM kd_176 rfl) (shp7 kd_176) hx hb hml hown hg hK hW (As := []) (c_X7_notes l G M hx3) (by decide) rfl hl.1 rfl (Nat.le_of_ble_eq_true rfl) dX7_moves_35) hW (fun H locs hW => ?_)
      refine lv_aload_n hx hb dX7_moves_38 rfl (lv_at hl 0 rfl) ?_
      refine lv_iload_n hx hb dX7_moves_39 rfl (lv_at hl 1 rfl) ?_
      replace hk := ob_s hk
      obtain ⟨M6, hx5, hk⟩ := hk
      refine cl_v (rn_V g_1017 g_1019 gs_74 g_9 g_1020 hd_X7_goes (Nat.le_of_ble_eq_true rfl) (ci := 7) rfl (inM kd_176 rfl) (shp7 kd_176) hx hb hml hown hg hK hW (As := [.int a1]) (c_X7_goes l G a1 M4 hx5) (by decide) rfl hl.1 rfl (Nat.le_of_ble_eq_true rfl) dX7_moves_40) hW (fun H locs hW => ?_)
      refine lv_aload_n hx hb dX7_moves_43 rfl (lv_at hl 0 rfl) ?_
      replace hk := ob_s hk
      obtain ⟨x7, hx7, hk⟩ := hk
      refine cl_i (rn_V g_1053 g_1055 gs_82 g_9 g_1056 hd_X7_snapped (Nat.le_of_ble_eq_true rfl) (ci := 7) rfl (inM kd_176 rfl) (shp7 kd_176) hx hb hml hown hg hK hW (As := []) (c_X7_snapped l G M6 hx7) (by decide) rfl hl.1 rfl (Nat.le_of_ble_eq_true rfl) dX7_moves_44) hW (fun H locs hW => ?_)
      obtain ⟨rfl, rfl⟩ := sp2 hk
      exact hret _ _ _ _ hW dX7_moves_47
    · replace hk := ite_t hk c10
      refine lv_aload_n hx hb dX7_moves_29 rfl (lv_at hl 0 rfl) ?_
      replace hk := ob2_s hk
      obtain ⟨x8, M9, hx8, hk⟩ := hk
      refine cl_i (rn_V g_1045 g_1047 gs_80 g_9 g_1048 hd_X7_no (Nat.le_of_ble_eq_true rfl) (ci := 7) rfl (inM kd_176 rfl) (shp7 kd_176) hx hb hml hown hg hK hW (As := []) (c_X7_no l G M hx8) (by decide) rfl hl.1 rfl (Nat.le_of_ble_eq_true rfl) dX7_moves_30) hW (fun H locs hW => ?_)
      obtain ⟨rfl, rfl⟩ := sp2 hk
      exact hret _ _ _ _ hW dX7_moves_33
  · replace hk := ite_t hk c13
    refine lv_aload_n hx hb dX7_moves_12 rfl (lv_at hl 0 rfl) ?_
    replace hk := ob2_s hk
    obtain ⟨x11, M12, hx11, hk⟩ := hk
    refine cl_i (rn_V g_924 g_926 gs_62 g_9 g_927 hd_X7_bad (Nat.le_of_ble_eq_true rfl) (ci := 7) rfl (inM kd_176 rfl) (shp7 kd_176) hx hb hml hown hg hK hW (As := []) (c_X7_bad l G M hx11) (by decide) rfl hl.1 rfl (Nat.le_of_ble_eq_true rfl) dX7_moves_13) hW (fun H locs hW => ?_)
    obtain ⟨rfl, rfl⟩ := sp2 hk
    exact hret _ _ _ _ hW dX7_moves_16
def f_X7_ties (a1 : Int32) (M : Mem) : Option (Int32 × Mem) :=
  ob (f_X7_isLimb a1 M) (fun x1 =>
  if x1 = (0 : Int32) then (
    ob2 (f_X7_bad M) (fun x11 M12 =>
    some (x11, M12)))
  else (
    ob (f_X7_isSnapped a1 M) (fun x2 =>
    if x2 = (0 : Int32) then (
      ob2 (f_X7_no M) (fun x8 M9 =>
      some (x8, M9)))
    else (
      ob (f_X7_notes M) (fun M4 =>
      ob (f_X7_limbOf a1 (5 : Int32) M4) (fun x5 =>
      ob (f_X7_unsnaps a1 M4) (fun M7 =>
      some (x5, M7))))))))
set_option maxHeartbeats 4000000 in
set_option maxRecDepth 100000 in
theorem c_X7_ties (l : Launch) (G : GT) (a1 : Int32) (M : Mem) {r : Int32} {M' : Mem} (hk : f_X7_ties a1 M = some (r, M')) : CMi l G false yX7_ties cX7_ties 3 (some .int) 2 [.ref (ad G 176), .int a1] M r M' := by
  unfold f_X7_ties at hk
  refine CMi.of (by decide) (Nat.le_of_ble_eq_true rfl) ?_
  intro p e s m args below meth c Q hx hb hml hown hg hK hW hret ls hl
  have hl : lv_has ls 3 [(0, .ref (ad G 176)), (1, .int a1)] := hl
  refine lv_aload_n hx hb dX7_ties_0 rfl (lv_at hl 0 rfl) ?_
  refine lv_iload_n hx hb dX7_ties_1 rfl (lv_at hl 1 rfl) ?_
  replace hk := ob_s hk
  obtain ⟨x1, hx1, hk⟩ := hk
  refine cl_i (rn_V g_1033 g_1035 gs_78 g_9 g_1036 hd_X7_isLimb (Nat.le_of_ble_eq_true rfl) (ci := 7) rfl (inM kd_176 rfl) (shp7 kd_176) hx hb hml hown hg hK hW (As := [.int a1]) (c_X7_isLimb l G a1 M hx1) (by decide) rfl hl.1 rfl (Nat.le_of_ble_eq_true rfl) dX7_ties_2) hW (fun H locs hW => ?_)
  refine lv_if_ne (tgt := 13) hx hb dX7_ties_5 (by decide) (fun c13 => ?_) (fun c13 => ?_)
  · replace hk := ite_f hk c13
    refine lv_aload_n hx hb dX7_ties_13 rfl (lv_at hl 0 rfl) ?_
    refine lv_iload_n hx hb dX7_ties_14 rfl (lv_at hl 1 rfl) ?_
    replace hk := ob_s hk
    obtain ⟨x2, hx2, hk⟩ := hk
    refine cl_i (rn_V g_1025 g_1027 gs_76 g_9 g_1028 hd_X7_isSnapped (Nat.le_of_ble_eq_true rfl) (ci := 7) rfl (inM kd_176 rfl) (shp7 kd_176) hx hb hml hown hg hK hW (As := [.int a1]) (c_X7_isSnapped l G a1 M hx2) (by decide) rfl hl.1 rfl (Nat.le_of_ble_eq_true rfl) dX7_ties_15) hW (fun H locs hW => ?_)
    refine lv_if_ne (tgt := 26) hx hb dX7_ties_18 (by decide) (fun c10 => ?_) (fun c10 => ?_)
    · replace hk := ite_f hk c10
      refine lv_aload_n hx hb dX7_ties_26 rfl (lv_at hl 0 rfl) ?_
      replace hk := ob_s hk
      obtain ⟨M4, hx3, hk⟩ := hk
      refine cl_v (rn_V g_1049 g_1051 gs_81 g_9 g_1052 hd_X7_notes (Nat.le_of_ble_eq_true rfl) (ci := 7) rfl (inM kd_176 rfl) (shp7 kd_176) hx hb hml hown hg hK hW (As := []) (c_X7_notes l G M hx3) (by decide) rfl hl.1 rfl (Nat.le_of_ble_eq_true rfl) dX7_ties_27) hW (fun H locs hW => ?_)
      refine lv_aload_n hx hb dX7_ties_30 rfl (lv_at hl 0 rfl) ?_
      refine lv_iload_n hx hb dX7_ties_31 rfl (lv_at hl 1 rfl) ?_
      refine lv_iconst (v := (5 : Int32)) hx hb dX7_ties_32 (by decide) ?_
      replace hk := ob_s hk
      obtain ⟨x5, hx5, hk⟩ := hk
      refine cl_i (rn_V g_1029 g_1031 gs_77 g_9 g_1032 hd_X7_limbOf (Nat.le_of_ble_eq_true rfl) (ci := 7) rfl (inM kd_176 rfl) (shp7 kd_176) hx hb hml hown hg hK hW (As := [.int a1, .int (5 : Int32)]) (c_X7_limbOf l G a1 (5 : Int32) M4 hx5) (by decide) rfl hl.1 rfl (Nat.le_of_ble_eq_true rfl) dX7_ties_33) hW (fun H locs hW => ?_)
      refine lv_istore_n (lv' := [(2, .int x5), (0, .ref (ad G 176)), (1, .int a1)]) hx hb dX7_ties_36 rfl hl (by decide) rfl (fun ls hl => ?_)
      refine lv_aload_n hx hb dX7_ties_37 rfl (lv_at hl 1 rfl) ?_
      refine lv_iload_n hx hb dX7_ties_38 rfl (lv_at hl 2 rfl) ?_
      replace hk := ob_s hk
      obtain ⟨M7, hx6, hk⟩ := hk
      refine cl_v (rn_V g_1037 g_1039 gs_79 g_9 g_1040 hd_X7_unsnaps (Nat.le_of_ble_eq_true rfl) (ci := 7) rfl (inM kd_176 rfl) (shp7 kd_176) hx hb hml hown hg hK hW (As := [.int a1]) (c_X7_unsnaps l G a1 M4 hx6) (by decide) rfl hl.1 rfl (Nat.le_of_ble_eq_true rfl) dX7_ties_39) hW (fun H locs hW => ?_)
      refine lv_iload_n hx hb dX7_ties_42 rfl (lv_at hl 0 rfl) ?_
      obtain ⟨rfl, rfl⟩ := sp2 hk
      exact hret _ _ _ _ hW dX7_ties_43
    · replace hk := ite_t hk c10
      refine lv_aload_n hx hb dX7_ties_21 rfl (lv_at hl 0 rfl) ?_
      replace hk := ob2_s hk
      obtain ⟨x8, M9, hx8, hk⟩ := hk
      refine cl_i (rn_V g_1045 g_1047 gs_80 g_9 g_1048 hd_X7_no (Nat.le_of_ble_eq_true rfl) (ci := 7) rfl (inM kd_176 rfl) (shp7 kd_176) hx hb hml hown hg hK hW (As := []) (c_X7_no l G M hx8) (by decide) rfl hl.1 rfl (Nat.le_of_ble_eq_true rfl) dX7_ties_22) hW (fun H locs hW => ?_)
      obtain ⟨rfl, rfl⟩ := sp2 hk
      exact hret _ _ _ _ hW dX7_ties_25
  · replace hk := ite_t hk c13
    refine lv_aload_n hx hb dX7_ties_8 rfl (lv_at hl 0 rfl) ?_
    replace hk := ob2_s hk
    obtain ⟨x11, M12, hx11, hk⟩ := hk
    refine cl_i (rn_V g_924 g_926 gs_62 g_9 g_927 hd_X7_bad (Nat.le_of_ble_eq_true rfl) (ci := 7) rfl (inM kd_176 rfl) (shp7 kd_176) hx hb hml hown hg hK hW (As := []) (c_X7_bad l G M hx11) (by decide) rfl hl.1 rfl (Nat.le_of_ble_eq_true rfl) dX7_ties_9) hW (fun H locs hW => ?_)
    obtain ⟨rfl, rfl⟩ := sp2 hk
    exact hret _ _ _ _ hW dX7_ties_12
def f_X7_hangs (a1 : Int32) (a2 : Int32) (M : Mem) : Option (Int32 × Mem) :=
  ob (f_X7_isLimb a1 M) (fun x1 =>
  if x1 = (0 : Int32) then (
    ob2 (f_X7_bad M) (fun x2 M3 =>
    some (x2, M3)))
  else (
    if (f_X7_in a2.toInt64 (0 : Int64) (8 : Int64)) = (0 : Int32) then (
      ob2 (f_X7_bad M) (fun x13 M14 =>
      some (x13, M14)))
    else (
      ob (f_X7_limbOf a1 (4 : Int32) M) (fun x5 =>
      if x5 = a2 then (
        ob2 (f_X7_no M) (fun x10 M11 =>
        some (x10, M11)))
      else (
        ob (f_X7_notes M) (fun M7 =>
        ob (f_X7_sets a1 (4 : Int32) a2 M7) (fun M9 =>
        some (x5, M9))))))))
set_option maxHeartbeats 4000000 in
set_option maxRecDepth 100000 in
theorem c_X7_hangs (l : Launch) (G : GT) (a1 : Int32) (a2 : Int32) (M : Mem) {r : Int32} {M' : Mem} (hk : f_X7_hangs a1 a2 M = some (r, M')) : CMi l G false yX7_hangs cX7_hangs 4 (some .int) 2 [.ref (ad G 176), .int a1, .int a2] M r M' := by
  unfold f_X7_hangs at hk
  refine CMi.of (by decide) (Nat.le_of_ble_eq_true rfl) ?_
  intro p e s m args below meth c Q hx hb hml hown hg hK hW hret ls hl
  have hl : lv_has ls 4 [(0, .ref (ad G 176)), (1, .int a1), (2, .int a2)] := hl
  refine lv_aload_n hx hb dX7_hangs_0 rfl (lv_at hl 0 rfl) ?_
  refine lv_iload_n hx hb dX7_hangs_1 rfl (lv_at hl 1 rfl) ?_
  replace hk := ob_s hk
  obtain ⟨x1, hx1, hk⟩ := hk
  refine cl_i (rn_V g_1033 g_1035 gs_78 g_9 g_1036 hd_X7_isLimb (Nat.le_of_ble_eq_true rfl) (ci := 7) rfl (inM kd_176 rfl) (shp7 kd_176) hx hb hml hown hg hK hW (As := [.int a1]) (c_X7_isLimb l G a1 M hx1) (by decide) rfl hl.1 rfl (Nat.le_of_ble_eq_true rfl) dX7_hangs_2) hW (fun H locs hW => ?_)
  refine lv_if_eq (tgt := 20) hx hb dX7_hangs_5 (by decide) (fun c16 => ?_) (fun c16 => ?_)
  · replace hk := ite_t hk c16
    refine lv_aload_n hx hb dX7_hangs_20 rfl (lv_at hl 0 rfl) ?_
    replace hk := ob2_s hk
    obtain ⟨x2, M3, hx2, hk⟩ := hk
    refine cl_i (rn_V g_924 g_926 gs_62 g_9 g_927 hd_X7_bad (Nat.le_of_ble_eq_true rfl) (ci := 7) rfl (inM kd_176 rfl) (shp7 kd_176) hx hb hml hown hg hK hW (As := []) (c_X7_bad l G M hx2) (by decide) rfl hl.1 rfl (Nat.le_of_ble_eq_true rfl) dX7_hangs_21) hW (fun H locs hW => ?_)
    obtain ⟨rfl, rfl⟩ := sp2 hk
    exact hret _ _ _ _ hW dX7_hangs_24
  · replace hk := ite_f hk c16
    refine lv_iload_n hx hb dX7_hangs_8 rfl (lv_at hl 2 rfl) ?_
    refine lv_i2l hx hb dX7_hangs_9 rfl ?_
    refine lv_lconst (v := (0 : Int64)) hx hb dX7_hangs_10 (by decide) ?_
    refine lv_ldc2 hx hb hown (hg _ g_938) dX7_hangs_11 ?_
    refine cl_i (rn_S g_921 g_922 g_9 g_923 hd_X7_in (Nat.le_of_ble_eq_true rfl) hx hb hml hown hg hK hW (As := [.long a2.toInt64, .long (0 : Int64), .long (8 : Int64)]) (c_X7_in l G a2.toInt64 (0 : Int64) (8 : Int64) M) (by decide) rfl hl.1 rfl (Nat.le_of_ble_eq_true rfl) dX7_hangs_14) hW (fun H locs hW => ?_)
    refine lv_if_ne (tgt := 25) hx hb dX7_hangs_17 (by decide) (fun c15 => ?_) (fun c15 => ?_)
    · replace hk := ite_f hk c15
      refine lv_aload_n hx hb dX7_hangs_25 rfl (lv_at hl 0 rfl) ?_
      refine lv_iload_n hx hb dX7_hangs_26 rfl (lv_at hl 1 rfl) ?_
      refine lv_iconst (v := (4 : Int32)) hx hb dX7_hangs_27 (by decide) ?_
      replace hk := ob_s hk
      obtain ⟨x5, hx5, hk⟩ := hk
      refine cl_i (rn_V g_1029 g_1031 gs_77 g_9 g_1032 hd_X7_limbOf (Nat.le_of_ble_eq_true rfl) (ci := 7) rfl (inM kd_176 rfl) (shp7 kd_176) hx hb hml hown hg hK hW (As := [.int a1, .int (4 : Int32)]) (c_X7_limbOf l G a1 (4 : Int32) M hx5) (by decide) rfl hl.1 rfl (Nat.le_of_ble_eq_true rfl) dX7_hangs_28) hW (fun H locs hW => ?_)
      refine lv_istore_n (lv' := [(3, .int x5), (0, .ref (ad G 176)), (1, .int a1), (2, .int a2)]) hx hb dX7_hangs_31 rfl hl (by decide) rfl (fun ls hl => ?_)
      refine lv_iload_n hx hb dX7_hangs_32 rfl (lv_at hl 0 rfl) ?_
      refine lv_iload_n hx hb dX7_hangs_33 rfl (lv_at hl 3 rfl) ?_
      refine lv_icmp_ne (tgt := 42) hx hb dX7_hangs_34 (by decide) (fun c12 => ?_) (fun c12 => ?_)
      · replace hk := ite_f hk c12
        refine lv_aload_n hx hb dX7_hangs_42 rfl (lv_at hl 1 rfl) ?_
        replace hk := ob_s hk
        obtain ⟨M7, hx6, hk⟩ := hk
        refine cl_v (rn_V g_1049 g_1051 gs_81 g_9 g_1052 hd_X7_notes (Nat.le_of_ble_eq_true rfl) (ci := 7) rfl (inM kd_176 rfl) (shp7 kd_176) hx hb hml hown hg hK hW (As := []) (c_X7_notes l G M hx6) (by decide) rfl hl.1 rfl (Nat.le_of_ble_eq_true rfl) dX7_hangs_43) hW (fun H locs hW => ?_)
        refine lv_aload_n hx hb dX7_hangs_46 rfl (lv_at hl 1 rfl) ?_
        refine lv_iload_n hx hb dX7_hangs_47 rfl (lv_at hl 2 rfl) ?_
        refine lv_iconst (v := (4 : Int32)) hx hb dX7_hangs_48 (by decide) ?_
        refine lv_iload_n hx hb dX7_hangs_49 rfl (lv_at hl 3 rfl) ?_
        replace hk := ob_s hk
        obtain ⟨M9, hx8, hk⟩ := hk
        refine cl_v (rn_V g_947 g_949 gs_65 g_9 g_950 hd_X7_sets (Nat.le_of_ble_eq_true rfl) (ci := 7) rfl (inM kd_176 rfl) (shp7 kd_176) hx hb hml hown hg hK hW (As := [.int a1, .int (4 : Int32), .int a2]) (c_X7_sets l G a1 (4 : Int32) a2 M7 hx8) (by decide) rfl hl.1 rfl (Nat.le_of_ble_eq_true rfl) dX7_hangs_50) hW (fun H locs hW => ?_)
        refine lv_iload_n hx hb dX7_hangs_53 rfl (lv_at hl 0 rfl) ?_
        obtain ⟨rfl, rfl⟩ := sp2 hk
        exact hret _ _ _ _ hW dX7_hangs_54
      · replace hk := ite_t hk c12
        refine lv_aload_n hx hb dX7_hangs_37 rfl (lv_at hl 1 rfl) ?_
        replace hk := ob2_s hk
        obtain ⟨x10, M11, hx10, hk⟩ := hk
        refine cl_i (rn_V g_1045 g_1047 gs_80 g_9 g_1048 hd_X7_no (Nat.le_of_ble_eq_true rfl) (ci := 7) rfl (inM kd_176 rfl) (shp7 kd_176) hx hb hml hown hg hK hW (As := []) (c_X7_no l G M hx10) (by decide) rfl hl.1 rfl (Nat.le_of_ble_eq_true rfl) dX7_hangs_38) hW (fun H locs hW => ?_)
        obtain ⟨rfl, rfl⟩ := sp2 hk
        exact hret _ _ _ _ hW dX7_hangs_41
    · replace hk := ite_t hk c15
      refine lv_aload_n hx hb dX7_hangs_20 rfl (lv_at hl 0 rfl) ?_
      replace hk := ob2_s hk
      obtain ⟨x13, M14, hx13, hk⟩ := hk
      refine cl_i (rn_V g_924 g_926 gs_62 g_9 g_927 hd_X7_bad (Nat.le_of_ble_eq_true rfl) (ci := 7) rfl (inM kd_176 rfl) (shp7 kd_176) hx hb hml hown hg hK hW (As := []) (c_X7_bad l G M hx13) (by decide) rfl hl.1 rfl (Nat.le_of_ble_eq_true rfl) dX7_hangs_21) hW (fun H locs hW => ?_)
      obtain ⟨rfl, rfl⟩ := sp2 hk
      exact hret _ _ _ _ hW dX7_hangs_24
def f_X7_undo_L46 (x5 : Int32) : Nat → Int32 → Mem → Option (Int32 × Mem)
  | 0, _, _ => none
  | n + 1, x6, M7 =>
    if (3 : Int32) ≤ x6 then (
      some (x6, M7))
    else (
      ob (rd M7 177 (x5 + x6)) (fun x10 =>
      ob (wr M7 177 ((1 : Int32) + x6) x10) (fun M11 =>
      lq (x6 + (1 : Int32)) (fun x12 =>
      f_X7_undo_L46 x5 n x12 M11))))
def f_X7_undo_L83 (x5 : Int32) (x14 : Int32) : Nat → Int32 → Mem → Option (Int32 × Mem)
  | 0, _, _ => none
  | n + 1, x18, M19 =>
    if (3 : Int32) ≤ x18 then (
      some (x18, M19))
    else (
      ob (rd M19 177 (((x5 + (3 : Int32)) + ((3 : Int32) * x14)) + x18)) (fun x22 =>
      ob (f_X7_sets x14 ((4 : Int32) + x18) x22 M19) (fun M24 =>
      lq (x18 + (1 : Int32)) (fun x25 =>
      f_X7_undo_L83 x5 x14 n x25 M24))))
def f_X7_undo_L75 (x5 : Int32) : Nat → Int32 → Mem → Option (Int32 × Mem)
  | 0, _, _ => none
  | n + 1, x14, M15 =>
    if (7 : Int32) ≤ x14 then (
      some (x14, M15))
    else (
      ob2 (f_X7_undo_L83 x5 x14 FU (0 : Int32) M15) (fun x20 M21 =>
      lq (x14 + (1 : Int32)) (fun x27 =>
      f_X7_undo_L75 x5 n x27 M21)))
def f_X7_undo (M : Mem) : Option (Int32 × Mem) :=
  ob (rd M 177 (147 : Int32)) (fun x1 =>
  if x1 = (0 : Int32) then (
    ob2 (f_X7_no M) (fun x36 M37 =>
    some (x36, M37)))
  else (
    ob (rd M 177 (147 : Int32)) (fun x2 =>
    ob (wr M 177 (147 : Int32) (x2 - (1 : Int32))) (fun M3 =>
    ob (rd M3 177 (147 : Int32)) (fun x4 =>
    lq ((148 : Int32) + ((24 : Int32) * x4)) (fun x5 =>
    ob2 (f_X7_undo_L46 x5 FU (0 : Int32) M3) (fun x8 M9 =>
    ob2 (f_X7_undo_L75 x5 FU (0 : Int32) M9) (fun x16 M17 =>
    ob (rd M17 177 (3 : Int32)) (fun x31 =>
    some (x31, M17))))))))))
set_option maxHeartbeats 4000000 in
set_option maxRecDepth 100000 in
theorem c_X7_undo (l : Launch) (G : GT)  (M : Mem) {r : Int32} {M' : Mem} (hk : f_X7_undo  M = some (r, M')) : CMi l G false yX7_undo cX7_undo 4 (some .int) 1 [.ref (ad G 176)] M r M' := by
  unfold f_X7_undo at hk
  refine CMi.of (by decide) (Nat.le_of_ble_eq_true rfl) ?_
  intro p e s m args below meth c Q hx hb hml hown hg hK hW hret ls hl
  have hl : lv_has ls 4 [(0, .ref (ad G 176))] := hl
  refine lv_aload_n hx hb dX7_undo_0 rfl (lv_at hl 0 rfl) ?_
  refine gt_X7_7 hx hb hg hown hK hW kd_176 dX7_undo_1 ?_
  refine lv_sipush (v := (147 : Int32)) hx hb dX7_undo_4 (by decide) ?_
  replace hk := ob_s hk
  obtain ⟨x1, hx1, hk⟩ := hk
  obtain ⟨hx1, ex1⟩ := rd_s hx1
  refine w_ald hx hb hK hW (inM kd_177 rfl) (shp10 kd_177) hx1 ex1 dX7_undo_7 ?_
  refine lv_if_ne (tgt := 16) hx hb dX7_undo_8 (by decide) (fun c38 => ?_) (fun c38 => ?_)
  · replace hk := ite_f hk c38
    refine lv_aload_n hx hb dX7_undo_16 rfl (lv_at hl 0 rfl) ?_
    refine gt_X7_7 hx hb hg hown hK hW kd_176 dX7_undo_17 ?_
    refine lv_sipush (v := (147 : Int32)) hx hb dX7_undo_20 (by decide) ?_
    refine lv_dup2_11 hx hb dX7_undo_23 rfl rfl ?_
    replace hk := ob_s hk
    obtain ⟨x2, hx2, hk⟩ := hk
    obtain ⟨hx2, ex2⟩ := rd_s hx2
    refine w_ald hx hb hK hW (inM kd_177 rfl) (shp10 kd_177) hx2 ex2 dX7_undo_24 ?_
    refine lv_iconst (v := (1 : Int32)) hx hb dX7_undo_25 (by decide) ?_
    refine lv_isub hx hb dX7_undo_26 ?_
    replace hk := ob_s hk
    obtain ⟨M3, hM3, hk⟩ := hk
    obtain ⟨hM3, eM3⟩ := wr_s hM3
    refine w_ast hx hb hK hW (inM kd_177 rfl) (fun _ => (shp10 kd_177)) hM3 eM3 dX7_undo_27 (fun H locs hW => ?_)
    refine lv_sipush (v := (148 : Int32)) hx hb dX7_undo_28 (by decide) ?_
    refine lv_bipush (v := (24 : Int32)) hx hb dX7_undo_31 (by decide) ?_
    refine lv_aload_n hx hb dX7_undo_33 rfl (lv_at hl 0 rfl) ?_
    refine gt_X7_7 hx hb hg hown hK hW kd_176 dX7_undo_34 ?_
    refine lv_sipush (v := (147 : Int32)) hx hb dX7_undo_37 (by decide) ?_
    replace hk := ob_s hk
    obtain ⟨x4, hx4, hk⟩ := hk
    obtain ⟨hx4, ex4⟩ := rd_s hx4
    refine w_ald hx hb hK hW (inM kd_177 rfl) (shp10 kd_177) hx4 ex4 dX7_undo_40 ?_
    refine lv_imul hx hb dX7_undo_41 ?_
    refine lv_iadd hx hb dX7_undo_42 ?_
    replace hk := lq_s hk
    obtain ⟨x5, ex5, hk⟩ := hk
    refine nm_i ex5 ?_
    refine lv_istore_n (lv' := [(1, .int x5), (0, .ref (ad G 176))]) hx hb dX7_undo_43 rfl hl (by decide) rfl (fun ls hl => ?_)
    refine lv_iconst (v := (0 : Int32)) hx hb dX7_undo_44 (by decide) ?_
    refine lv_istore_n (lv' := [(2, .int (0 : Int32)), (1, .int x5), (0, .ref (ad G 176))]) hx hb dX7_undo_45 rfl hl (by decide) rfl (fun ls hl => ?_)
    replace hk := ob2_s hk
    obtain ⟨x8, M9, hz34, hk⟩ := hk
    have KX46 : ∀ (H : Heap) (locs : List Loc) (ls : Array Slot), Ws G false M9 s H locs → lv_has ls 4 [(0, .ref (ad G 176)), (1, .int x5)] → Wx p l e 1 s m args below meth c Q H locs 73 ls [] := by
      intro H locs ls hW hl
      refine lv_iconst (v := (0 : Int32)) hx hb dX7_undo_73 (by decide) ?_
      refine lv_istore_n (lv' := [(2, .int (0 : Int32)), (0, .ref (ad G 176)), (1, .int x5)]) hx hb dX7_undo_74 rfl hl (by decide) rfl (fun ls hl => ?_)
      replace hk := ob2_s hk
      obtain ⟨x16, M17, hz32, hk⟩ := hk
      have KX75 : ∀ (H : Heap) (locs : List Loc) (ls : Array Slot), Ws G false M17 s H locs → lv_has ls 4 [(0, .ref (ad G 176))] → Wx p l e 1 s m args below meth c Q H locs 122 ls [] := by
        intro H locs ls hW hl
        refine lv_aload_n hx hb dX7_undo_122 rfl (lv_at hl 0 rfl) ?_
        refine gt_X7_7 hx hb hg hown hK hW kd_176 dX7_undo_123 ?_
        refine lv_iconst (v := (3 : Int32)) hx hb dX7_undo_126 (by decide) ?_
        replace hk := ob_s hk
        obtain ⟨x31, hx31, hk⟩ := hk
        obtain ⟨hx31, ex31⟩ := rd_s hx31
        refine w_ald hx hb hK hW (inM kd_177 rfl) (shp10 kd_177) hx31 ex31 dX7_undo_127 ?_
        obtain ⟨rfl, rfl⟩ := sp2 hk
        exact hret _ _ _ _ hW dX7_undo_128
      clear hk
      have LH75 : ∀ (n : Nat) (x14 : Int32) (M15 : Mem) (H : Heap) (locs : List Loc) (ls : Array Slot), f_X7_undo_L75 x5 n x14 M15 = some (x16, M17) → Ws G false M15 s H locs → lv_has ls 4 [(0, .ref (ad G 176)), (1, .int x5), (2, .int x14)] → Wx p l e 1 s m args below meth c Q H locs 75 ls [] := by
        clear hz32
        intro n
        induction n with
        | zero => intro _ _ _ _ _ hk; cases hk
        | succ n ih75 =>
          intro x14 M15 H locs ls hk hW hl
          rw [f_X7_undo_L75.eq_2] at hk
          refine lv_iload_n hx hb dX7_undo_75 rfl (lv_at hl 2 rfl) ?_
          refine lv_bipush (v := (7 : Int32)) hx hb dX7_undo_76 (by decide) ?_
          refine lv_icmp_ge (tgt := 122) hx hb dX7_undo_78 (by decide) (fun c30 => ?_) (fun c30 => ?_)
          · replace hk := ite_t hk c30
            obtain ⟨rfl, rfl⟩ := sp2 hk
            exact KX75 _ _ _ hW (lv_sub hl [0] rfl)
          · replace hk := ite_f hk c30
            refine lv_iconst (v := (0 : Int32)) hx hb dX7_undo_81 (by decide) ?_
            refine lv_istore_n (lv' := [(3, .int (0 : Int32)), (0, .ref (ad G 176)), (1, .int x5), (2, .int x14)]) hx hb dX7_undo_82 rfl hl (by decide) rfl (fun ls hl => ?_)
            replace hk := ob2_s hk
            obtain ⟨x20, M21, hz28, hk⟩ := hk
            have KX83 : ∀ (H : Heap) (locs : List Loc) (ls : Array Slot), Ws G false M21 s H locs → lv_has ls 4 [(0, .ref (ad G 176)), (1, .int x5), (2, .int x14)] → Wx p l e 1 s m args below meth c Q H locs 116 ls [] := by
              intro H locs ls hW hl
              replace hk := lq_s hk
              obtain ⟨x27, ex27, hk⟩ := hk
              refine lv_iinc (v := x27) (lv' := [(2, .int x27), (0, .ref (ad G 176)), (1, .int x5)]) hx hb dX7_undo_116 hl (k := 2) rfl (by rw [ex27]; rfl) (by decide) rfl (fun ls hl => ?_)
              refine lv_goto (tgt := 75) hx hb dX7_undo_119 (by decide) ?_
              exact ih75 _ _ _ _ _ hk hW (lv_sub hl [1, 2, 0] rfl)
            clear hk
            have LH83 : ∀ (n : Nat) (x18 : Int32) (M19 : Mem) (H : Heap) (locs : List Loc) (ls : Array Slot), f_X7_undo_L83 x5 x14 n x18 M19 = some (x20, M21) → Ws G false M19 s H locs → lv_has ls 4 [(0, .ref (ad G 176)), (1, .int x5), (2, .int x14), (3, .int x18)] → Wx p l e 1 s m args below meth c Q H locs 83 ls [] := by
              clear hz28
              intro n
              induction n with
              | zero => intro _ _ _ _ _ hk; cases hk
              | succ n ih83 =>
                intro x18 M19 H locs ls hk hW hl
                rw [f_X7_undo_L83.eq_2] at hk
                refine lv_iload_n hx hb dX7_undo_83 rfl (lv_at hl 3 rfl) ?_
                refine lv_iconst (v := (3 : Int32)) hx hb dX7_undo_84 (by decide) ?_
                refine lv_icmp_ge (tgt := 116) hx hb dX7_undo_85 (by decide) (fun c26 => ?_) (fun c26 => ?_)
                · replace hk := ite_t hk c26
                  obtain ⟨rfl, rfl⟩ := sp2 hk
                  exact KX83 _ _ _ hW (lv_sub hl [0, 1, 2] rfl)
                · replace hk := ite_f hk c26
                  refine lv_aload_n hx hb dX7_undo_88 rfl (lv_at hl 0 rfl) ?_
                  refine lv_iload_n hx hb dX7_undo_89 rfl (lv_at hl 2 rfl) ?_
                  refine lv_iconst (v := (4 : Int32)) hx hb dX7_undo_90 (by decide) ?_
                  refine lv_iload_n hx hb dX7_undo_91 rfl (lv_at hl 3 rfl) ?_
                  refine lv_iadd hx hb dX7_undo_92 ?_
                  refine lv_aload_n hx hb dX7_undo_93 rfl (lv_at hl 0 rfl) ?_
                  refine gt_X7_7 hx hb hg hown hK hW kd_176 dX7_undo_94 ?_
                  refine lv_iload_n hx hb dX7_undo_97 rfl (lv_at hl 1 rfl) ?_
                  refine lv_iconst (v := (3 : Int32)) hx hb dX7_undo_98 (by decide) ?_
                  refine lv_iadd hx hb dX7_undo_99 ?_
                  refine lv_iconst (v := (3 : Int32)) hx hb dX7_undo_100 (by decide) ?_
                  refine lv_iload_n hx hb dX7_undo_101 rfl (lv_at hl 2 rfl) ?_
                  refine lv_imul hx hb dX7_undo_102 ?_
                  refine lv_iadd hx hb dX7_undo_103 ?_
                  refine lv_iload_n hx hb dX7_undo_104 rfl (lv_at hl 3 rfl) ?_
                  refine lv_iadd hx hb dX7_undo_105 ?_
                  replace hk := ob_s hk
                  obtain ⟨x22, hx22, hk⟩ := hk
                  obtain ⟨hx22, ex22⟩ := rd_s hx22
                  refine w_ald hx hb hK hW (inM kd_177 rfl) (shp10 kd_177) hx22 ex22 dX7_undo_106 ?_
                  replace hk := ob_s hk
                  obtain ⟨M24, hx23, hk⟩ := hk
                  refine cl_v (rn_V g_947 g_949 gs_65 g_9 g_950 hd_X7_sets (Nat.le_of_ble_eq_true rfl) (ci := 7) rfl (inM kd_176 rfl) (shp7 kd_176) hx hb hml hown hg hK hW (As := [.int x14, .int ((4 : Int32) + x18), .int x22]) (c_X7_sets l G x14 ((4 : Int32) + x18) x22 M19 hx23) (by decide) rfl hl.1 rfl (Nat.le_of_ble_eq_true rfl) dX7_undo_107) hW (fun H locs hW => ?_)
                  replace hk := lq_s hk
                  obtain ⟨x25, ex25, hk⟩ := hk
                  refine lv_iinc (v := x25) (lv' := [(3, .int x25), (0, .ref (ad G 176)), (1, .int x5), (2, .int x14)]) hx hb dX7_undo_110 hl (k := 3) rfl (by rw [ex25]; rfl) (by decide) rfl (fun ls hl => ?_)
                  refine lv_goto (tgt := 83) hx hb dX7_undo_113 (by decide) ?_
                  exact ih83 _ _ _ _ _ hk hW (lv_sub hl [1, 2, 3, 0] rfl)
            exact LH83 FU _ _ _ _ _ hz28 hW (lv_sub hl [1, 2, 3, 0] rfl)
      exact LH75 FU _ _ _ _ _ hz32 hW (lv_sub hl [1, 2, 0] rfl)
    clear hk
    have LH46 : ∀ (n : Nat) (x6 : Int32) (M7 : Mem) (H : Heap) (locs : List Loc) (ls : Array Slot), f_X7_undo_L46 x5 n x6 M7 = some (x8, M9) → Ws G false M7 s H locs → lv_has ls 4 [(0, .ref (ad G 176)), (1, .int x5), (2, .int x6)] → Wx p l e 1 s m args below meth c Q H locs 46 ls [] := by
      clear hz34
      intro n
      induction n with
      | zero => intro _ _ _ _ _ hk; cases hk
      | succ n ih46 =>
        intro x6 M7 H locs ls hk hW hl
        rw [f_X7_undo_L46.eq_2] at hk
        refine lv_iload_n hx hb dX7_undo_46 rfl (lv_at hl 2 rfl) ?_
        refine lv_iconst (v := (3 : Int32)) hx hb dX7_undo_47 (by decide) ?_
        refine lv_icmp_ge (tgt := 73) hx hb dX7_undo_48 (by decide) (fun c13 => ?_) (fun c13 => ?_)
        · replace hk := ite_t hk c13
          obtain ⟨rfl, rfl⟩ := sp2 hk
          exact KX46 _ _ _ hW (lv_sub hl [0, 1] rfl)
        · replace hk := ite_f hk c13
          refine lv_aload_n hx hb dX7_undo_51 rfl (lv_at hl 0 rfl) ?_
          refine gt_X7_7 hx hb hg hown hK hW kd_176 dX7_undo_52 ?_
          refine lv_iconst (v := (1 : Int32)) hx hb dX7_undo_55 (by decide) ?_
          refine lv_iload_n hx hb dX7_undo_56 rfl (lv_at hl 2 rfl) ?_
          refine lv_iadd hx hb dX7_undo_57 ?_
          refine lv_aload_n hx hb dX7_undo_58 rfl (lv_at hl 0 rfl) ?_
          refine gt_X7_7 hx hb hg hown hK hW kd_176 dX7_undo_59 ?_
          refine lv_iload_n hx hb dX7_undo_62 rfl (lv_at hl 1 rfl) ?_
          refine lv_iload_n hx hb dX7_undo_63 rfl (lv_at hl 2 rfl) ?_
          refine lv_iadd hx hb dX7_undo_64 ?_
          replace hk := ob_s hk
          obtain ⟨x10, hx10, hk⟩ := hk
          obtain ⟨hx10, ex10⟩ := rd_s hx10
          refine w_ald hx hb hK hW (inM kd_177 rfl) (shp10 kd_177) hx10 ex10 dX7_undo_65 ?_
          replace hk := ob_s hk
          obtain ⟨M11, hM11, hk⟩ := hk
          obtain ⟨hM11, eM11⟩ := wr_s hM11
          refine w_ast hx hb hK hW (inM kd_177 rfl) (fun _ => (shp10 kd_177)) hM11 eM11 dX7_undo_66 (fun H locs hW => ?_)
          replace hk := lq_s hk
          obtain ⟨x12, ex12, hk⟩ := hk
          refine lv_iinc (v := x12) (lv' := [(2, .int x12), (0, .ref (ad G 176)), (1, .int x5)]) hx hb dX7_undo_67 hl (k := 2) rfl (by rw [ex12]; rfl) (by decide) rfl (fun ls hl => ?_)
          refine lv_goto (tgt := 46) hx hb dX7_undo_70 (by decide) ?_
          exact ih46 _ _ _ _ _ hk hW (lv_sub hl [1, 2, 0] rfl)
    exact LH46 FU _ _ _ _ _ hz34 hW (lv_sub hl [2, 1, 0] rfl)
  · replace hk := ite_t hk c38
    refine lv_aload_n hx hb dX7_undo_11 rfl (lv_at hl 0 rfl) ?_
    replace hk := ob2_s hk
    obtain ⟨x36, M37, hx36, hk⟩ := hk
    refine cl_i (rn_V g_1045 g_1047 gs_80 g_9 g_1048 hd_X7_no (Nat.le_of_ble_eq_true rfl) (ci := 7) rfl (inM kd_176 rfl) (shp7 kd_176) hx hb hml hown hg hK hW (As := []) (c_X7_no l G M hx36) (by decide) rfl hl.1 rfl (Nat.le_of_ble_eq_true rfl) dX7_undo_12) hW (fun H locs hW => ?_)
    obtain ⟨rfl, rfl⟩ := sp2 hk
    exact hret _ _ _ _ hW dX7_undo_15
def f_X7_of (a1 : Int32) (a2 : Int32) (M : Mem) : Option (Int32 × Mem) :=
  ob (f_X7_isLimb a1 M) (fun x1 =>
  if x1 = (0 : Int32) then (
    ob2 (f_X7_bad M) (fun x2 M3 =>
    some (x2, M3)))
  else (
    if (f_X7_in a2.toInt64 (0 : Int64) (7 : Int64)) = (0 : Int32) then (
      ob2 (f_X7_bad M) (fun x8 M9 =>
      some (x8, M9)))
    else (
      if (7 : Int32) ≤ a2 then (
        ob (f_X7_high a1 M) (fun x5 =>
        some (x5, M)))
      else (
        ob (f_X7_limbOf a1 a2 M) (fun x6 =>
        some (x6, M))))))
set_option maxHeartbeats 4000000 in
set_option maxRecDepth 100000 in
theorem c_X7_of (l : Launch) (G : GT) (a1 : Int32) (a2 : Int32) (M : Mem) {r : Int32} {M' : Mem} (hk : f_X7_of a1 a2 M = some (r, M')) : CMi l G false yX7_of cX7_of 3 (some .int) 4 [.ref (ad G 176), .int a1, .int a2] M r M' := by
  unfold f_X7_of at hk
  refine CMi.of (by decide) (Nat.le_of_ble_eq_true rfl) ?_
  intro p e s m args below meth c Q hx hb hml hown hg hK hW hret ls hl
  have hl : lv_has ls 3 [(0, .ref (ad G 176)), (1, .int a1), (2, .int a2)] := hl
  refine lv_aload_n hx hb dX7_of_0 rfl (lv_at hl 0 rfl) ?_
  refine lv_iload_n hx hb dX7_of_1 rfl (lv_at hl 1 rfl) ?_
  replace hk := ob_s hk
  obtain ⟨x1, hx1, hk⟩ := hk
  refine cl_i (rn_V g_1033 g_1035 gs_78 g_9 g_1036 hd_X7_isLimb (Nat.le_of_ble_eq_true rfl) (ci := 7) rfl (inM kd_176 rfl) (shp7 kd_176) hx hb hml hown hg hK hW (As := [.int a1]) (c_X7_isLimb l G a1 M hx1) (by decide) rfl hl.1 rfl (Nat.le_of_ble_eq_true rfl) dX7_of_2) hW (fun H locs hW => ?_)
  refine lv_if_eq (tgt := 20) hx hb dX7_of_5 (by decide) (fun c11 => ?_) (fun c11 => ?_)
  · replace hk := ite_t hk c11
    refine lv_aload_n hx hb dX7_of_20 rfl (lv_at hl 0 rfl) ?_
    replace hk := ob2_s hk
    obtain ⟨x2, M3, hx2, hk⟩ := hk
    refine cl_i (rn_V g_924 g_926 gs_62 g_9 g_927 hd_X7_bad (Nat.le_of_ble_eq_true rfl) (ci := 7) rfl (inM kd_176 rfl) (shp7 kd_176) hx hb hml hown hg hK hW (As := []) (c_X7_bad l G M hx2) (by decide) rfl hl.1 rfl (Nat.le_of_ble_eq_true rfl) dX7_of_21) hW (fun H locs hW => ?_)
    obtain ⟨rfl, rfl⟩ := sp2 hk
    exact hret _ _ _ _ hW dX7_of_24
  · replace hk := ite_f hk c11
    refine lv_iload_n hx hb dX7_of_8 rfl (lv_at hl 2 rfl) ?_
    refine lv_i2l hx hb dX7_of_9 rfl ?_
    refine lv_lconst (v := (0 : Int64)) hx hb dX7_of_10 (by decide) ?_
    refine lv_ldc2 hx hb hown (hg _ g_1073) dX7_of_11 ?_
    refine cl_i (rn_S g_921 g_922 g_9 g_923 hd_X7_in (Nat.le_of_ble_eq_true rfl) hx hb hml hown hg hK hW (As := [.long a2.toInt64, .long (0 : Int64), .long (7 : Int64)]) (c_X7_in l G a2.toInt64 (0 : Int64) (7 : Int64) M) (by decide) rfl hl.1 rfl (Nat.le_of_ble_eq_true rfl) dX7_of_14) hW (fun H locs hW => ?_)
    refine lv_if_ne (tgt := 25) hx hb dX7_of_17 (by decide) (fun c10 => ?_) (fun c10 => ?_)
    · replace hk := ite_f hk c10
      refine lv_iload_n hx hb dX7_of_25 rfl (lv_at hl 2 rfl) ?_
      refine lv_bipush (v := (7 : Int32)) hx hb dX7_of_26 (by decide) ?_
      refine lv_icmp_ge (tgt := 40) hx hb dX7_of_28 (by decide) (fun c7 => ?_) (fun c7 => ?_)
      · replace hk := ite_t hk c7
        refine lv_aload_n hx hb dX7_of_40 rfl (lv_at hl 0 rfl) ?_
        refine lv_iload_n hx hb dX7_of_41 rfl (lv_at hl 1 rfl) ?_
        replace hk := ob_s hk
        obtain ⟨x5, hx5, hk⟩ := hk
        refine cl_i (rn_V g_1074 g_1076 gs_83 g_9 g_1077 hd_X7_high (Nat.le_of_ble_eq_true rfl) (ci := 7) rfl (inM kd_176 rfl) (shp7 kd_176) hx hb hml hown hg hK hW (As := [.int a1]) (c_X7_high l G a1 M hx5) (by decide) rfl hl.1 rfl (Nat.le_of_ble_eq_true rfl) dX7_of_42) hW (fun H locs hW => ?_)
        obtain ⟨rfl, rfl⟩ := sp2 hk
        exact hret _ _ _ _ hW dX7_of_45
      · replace hk := ite_f hk c7
        refine lv_aload_n hx hb dX7_of_31 rfl (lv_at hl 0 rfl) ?_
        refine lv_iload_n hx hb dX7_of_32 rfl (lv_at hl 1 rfl) ?_
        refine lv_iload_n hx hb dX7_of_33 rfl (lv_at hl 2 rfl) ?_
        replace hk := ob_s hk
        obtain ⟨x6, hx6, hk⟩ := hk
        refine cl_i (rn_V g_1029 g_1031 gs_77 g_9 g_1032 hd_X7_limbOf (Nat.le_of_ble_eq_true rfl) (ci := 7) rfl (inM kd_176 rfl) (shp7 kd_176) hx hb hml hown hg hK hW (As := [.int a1, .int a2]) (c_X7_limbOf l G a1 a2 M hx6) (by decide) rfl hl.1 rfl (Nat.le_of_ble_eq_true rfl) dX7_of_34) hW (fun H locs hW => ?_)
        refine lv_goto (tgt := 45) hx hb dX7_of_37 (by decide) ?_
        obtain ⟨rfl, rfl⟩ := sp2 hk
        exact hret _ _ _ _ hW dX7_of_45
    · replace hk := ite_t hk c10
      refine lv_aload_n hx hb dX7_of_20 rfl (lv_at hl 0 rfl) ?_
      replace hk := ob2_s hk
      obtain ⟨x8, M9, hx8, hk⟩ := hk
      refine cl_i (rn_V g_924 g_926 gs_62 g_9 g_927 hd_X7_bad (Nat.le_of_ble_eq_true rfl) (ci := 7) rfl (inM kd_176 rfl) (shp7 kd_176) hx hb hml hown hg hK hW (As := []) (c_X7_bad l G M hx8) (by decide) rfl hl.1 rfl (Nat.le_of_ble_eq_true rfl) dX7_of_21) hW (fun H locs hW => ?_)
      obtain ⟨rfl, rfl⟩ := sp2 hk
      exact hret _ _ _ _ hW dX7_of_24
def f_X7_asides_L2 : Nat → Int32 → Mem → Option (Int32 × Mem)
  | 0, _, _ => none
  | n + 1, x1, M2 =>
    if (53 : Int32) ≤ x1 then (
      some (x1, M2))
    else (
      ob (rd M2 177 x1) (fun x5 =>
      ob (wr M2 180 x1 x5) (fun M6 =>
      lq (x1 + (1 : Int32)) (fun x7 =>
      f_X7_asides_L2 n x7 M6))))
def f_X7_asides (M : Mem) : Option (Mem) :=
  ob2 (f_X7_asides_L2 FU (0 : Int32) M) (fun x3 M4 =>
  some M4)
set_option maxHeartbeats 4000000 in
set_option maxRecDepth 100000 in
theorem c_X7_asides (l : Launch) (G : GT)  (M : Mem) {M' : Mem} (hk : f_X7_asides  M = some M') : CMv l G false yX7_asides cX7_asides 2 none 0 [.ref (ad G 176)] M M' := by
  unfold f_X7_asides at hk
  refine CMv.of (by decide) (Nat.le_of_ble_eq_true rfl) ?_
  intro p e s m args below meth c Q hx hb hml hown hg hK hW hret ls hl
  have hl : lv_has ls 2 [(0, .ref (ad G 176))] := hl
  refine lv_iconst (v := (0 : Int32)) hx hb dX7_asides_0 (by decide) ?_
  refine lv_istore_n (lv' := [(1, .int (0 : Int32)), (0, .ref (ad G 176))]) hx hb dX7_asides_1 rfl hl (by decide) rfl (fun ls hl => ?_)
  replace hk := ob2_s hk
  obtain ⟨x3, M4, hz9, hk⟩ := hk
  have KX2 : ∀ (H : Heap) (locs : List Loc) (ls : Array Slot), Ws G false M4 s H locs → lv_has ls 2 [] → Wx p l e 0 s m args below meth c Q H locs 26 ls [] := by
    intro H locs ls hW hl
    obtain rfl := Option.some.inj hk
    exact hret _ _ _ _ hW dX7_asides_26
  clear hk
  have LH2 : ∀ (n : Nat) (x1 : Int32) (M2 : Mem) (H : Heap) (locs : List Loc) (ls : Array Slot), f_X7_asides_L2 n x1 M2 = some (x3, M4) → Ws G false M2 s H locs → lv_has ls 2 [(0, .ref (ad G 176)), (1, .int x1)] → Wx p l e 0 s m args below meth c Q H locs 2 ls [] := by
    clear hz9
    intro n
    induction n with
    | zero => intro _ _ _ _ _ hk; cases hk
    | succ n ih2 =>
      intro x1 M2 H locs ls hk hW hl
      rw [f_X7_asides_L2.eq_2] at hk
      refine lv_iload_n hx hb dX7_asides_2 rfl (lv_at hl 1 rfl) ?_
      refine lv_bipush (v := (53 : Int32)) hx hb dX7_asides_3 (by decide) ?_
      refine lv_icmp_ge (tgt := 26) hx hb dX7_asides_5 (by decide) (fun c8 => ?_) (fun c8 => ?_)
      · replace hk := ite_t hk c8
        obtain ⟨rfl, rfl⟩ := sp2 hk
        exact KX2 _ _ _ hW (lv_sub hl [] rfl)
      · replace hk := ite_f hk c8
        refine lv_aload_n hx hb dX7_asides_8 rfl (lv_at hl 0 rfl) ?_
        refine gt_X7_23 hx hb hg hown hK hW kd_176 dX7_asides_9 ?_
        refine lv_iload_n hx hb dX7_asides_12 rfl (lv_at hl 1 rfl) ?_
        refine lv_aload_n hx hb dX7_asides_13 rfl (lv_at hl 0 rfl) ?_
        refine gt_X7_7 hx hb hg hown hK hW kd_176 dX7_asides_14 ?_
        refine lv_iload_n hx hb dX7_asides_17 rfl (lv_at hl 1 rfl) ?_
        replace hk := ob_s hk
        obtain ⟨x5, hx5, hk⟩ := hk
        obtain ⟨hx5, ex5⟩ := rd_s hx5
        refine w_ald hx hb hK hW (inM kd_177 rfl) (shp10 kd_177) hx5 ex5 dX7_asides_18 ?_
        replace hk := ob_s hk
        obtain ⟨M6, hM6, hk⟩ := hk
        obtain ⟨hM6, eM6⟩ := wr_s hM6
        refine w_ast hx hb hK hW (inM kd_180 rfl) (fun _ => (shp10 kd_180)) hM6 eM6 dX7_asides_19 (fun H locs hW => ?_)
        replace hk := lq_s hk
        obtain ⟨x7, ex7, hk⟩ := hk
        refine lv_iinc (v := x7) (lv' := [(1, .int x7), (0, .ref (ad G 176))]) hx hb dX7_asides_20 hl (k := 1) rfl (by rw [ex7]; rfl) (by decide) rfl (fun ls hl => ?_)
        refine lv_goto (tgt := 2) hx hb dX7_asides_23 (by decide) ?_
        exact ih2 _ _ _ _ _ hk hW (lv_sub hl [1, 0] rfl)
  exact LH2 FU _ _ _ _ _ hz9 hW (lv_sub hl [1, 0] rfl)
def f_X7_backs_L2 : Nat → Int32 → Mem → Option (Int32 × Mem)
  | 0, _, _ => none
  | n + 1, x1, M2 =>
    if (53 : Int32) ≤ x1 then (
      some (x1, M2))
    else (
      ob (rd M2 180 x1) (fun x5 =>
      ob (wr M2 177 x1 x5) (fun M6 =>
      lq (x1 + (1 : Int32)) (fun x7 =>
      f_X7_backs_L2 n x7 M6))))
def f_X7_backs (M : Mem) : Option (Mem) :=
  ob2 (f_X7_backs_L2 FU (0 : Int32) M) (fun x3 M4 =>
  some M4)
set_option maxHeartbeats 4000000 in
set_option maxRecDepth 100000 in
theorem c_X7_backs (l : Launch) (G : GT)  (M : Mem) {M' : Mem} (hk : f_X7_backs  M = some M') : CMv l G false yX7_backs cX7_backs 2 none 0 [.ref (ad G 176)] M M' := by
  unfold f_X7_backs at hk
  refine CMv.of (by decide) (Nat.le_of_ble_eq_true rfl) ?_
  intro p e s m args below meth c Q hx hb hml hown hg hK hW hret ls hl
  have hl : lv_has ls 2 [(0, .ref (ad G 176))] := hl
  refine lv_iconst (v := (0 : Int32)) hx hb dX7_backs_0 (by decide) ?_
  refine lv_istore_n (lv' := [(1, .int (0 : Int32)), (0, .ref (ad G 176))]) hx hb dX7_backs_1 rfl hl (by decide) rfl (fun ls hl => ?_)
  replace hk := ob2_s hk
  obtain ⟨x3, M4, hz9, hk⟩ := hk
  have KX2 : ∀ (H : Heap) (locs : List Loc) (ls : Array Slot), Ws G false M4 s H locs → lv_has ls 2 [] → Wx p l e 0 s m args below meth c Q H locs 26 ls [] := by
    intro H locs ls hW hl
    obtain rfl := Option.some.inj hk
    exact hret _ _ _ _ hW dX7_backs_26
  clear hk
  have LH2 : ∀ (n : Nat) (x1 : Int32) (M2 : Mem) (H : Heap) (locs : List Loc) (ls : Array Slot), f_X7_backs_L2 n x1 M2 = some (x3, M4) → Ws G false M2 s H locs → lv_has ls 2 [(0, .ref (ad G 176)), (1, .int x1)] → Wx p l e 0 s m args below meth c Q H locs 2 ls [] := by
    clear hz9
    intro n
    induction n with
    | zero => intro _ _ _ _ _ hk; cases hk
    | succ n ih2 =>
      intro x1 M2 H locs ls hk hW hl
      rw [f_X7_backs_L2.eq_2] at hk
      refine lv_iload_n hx hb dX7_backs_2 rfl (lv_at hl 1 rfl) ?_
      refine lv_bipush (v := (53 : Int32)) hx hb dX7_backs_3 (by decide) ?_
      refine lv_icmp_ge (tgt := 26) hx hb dX7_backs_5 (by decide) (fun c8 => ?_) (fun c8 => ?_)
      · replace hk := ite_t hk c8
        obtain ⟨rfl, rfl⟩ := sp2 hk
        exact KX2 _ _ _ hW (lv_sub hl [] rfl)
      · replace hk := ite_f hk c8
        refine lv_aload_n hx hb dX7_backs_8 rfl (lv_at hl 0 rfl) ?_
        refine gt_X7_7 hx hb hg hown hK hW kd_176 dX7_backs_9 ?_
        refine lv_iload_n hx hb dX7_backs_12 rfl (lv_at hl 1 rfl) ?_
        refine lv_aload_n hx hb dX7_backs_13 rfl (lv_at hl 0 rfl) ?_
        refine gt_X7_23 hx hb hg hown hK hW kd_176 dX7_backs_14 ?_
        refine lv_iload_n hx hb dX7_backs_17 rfl (lv_at hl 1 rfl) ?_
        replace hk := ob_s hk
        obtain ⟨x5, hx5, hk⟩ := hk
        obtain ⟨hx5, ex5⟩ := rd_s hx5
        refine w_ald hx hb hK hW (inM kd_180 rfl) (shp10 kd_180) hx5 ex5 dX7_backs_18 ?_
        replace hk := ob_s hk
        obtain ⟨M6, hM6, hk⟩ := hk
        obtain ⟨hM6, eM6⟩ := wr_s hM6
        refine w_ast hx hb hK hW (inM kd_177 rfl) (fun _ => (shp10 kd_177)) hM6 eM6 dX7_backs_19 (fun H locs hW => ?_)
        replace hk := lq_s hk
        obtain ⟨x7, ex7, hk⟩ := hk
        refine lv_iinc (v := x7) (lv' := [(1, .int x7), (0, .ref (ad G 176))]) hx hb dX7_backs_20 hl (k := 1) rfl (by rw [ex7]; rfl) (by decide) rfl (fun ls hl => ?_)
        refine lv_goto (tgt := 2) hx hb dX7_backs_23 (by decide) ?_
        exact ih2 _ _ _ _ _ hk hW (lv_sub hl [1, 0] rfl)
  exact LH2 FU _ _ _ _ _ hz9 hW (lv_sub hl [1, 0] rfl)
def f_X7_found (a1 : Int32) (a2 : Int32) (a3 : Int32) : Int32 :=
  if (0 : Int32) ≤ a2 then (
    if a1 ≤ a2 then (
      ((-5) : Int32))
    else (
      a3))
  else (
    a1)
set_option maxHeartbeats 4000000 in
set_option maxRecDepth 100000 in
theorem c_X7_found (l : Launch) (G : GT) (a1 : Int32) (a2 : Int32) (a3 : Int32) (M : Mem) : CMi l G false yX7_found cX7_found 4 (some .int) 0 [.ref (ad G 176), .int a1, .int a2, .int a3] M (f_X7_found a1 a2 a3) M := by
  obtain ⟨r, hk⟩ : ∃ r, f_X7_found a1 a2 a3 = r := ⟨_, rfl⟩
  rw [hk]
  unfold f_X7_found at hk
  refine CMi.of (by decide) (Nat.le_of_ble_eq_true rfl) ?_
  intro p e s m args below meth c Q hx hb hml hown hg hK hW hret ls hl
  have hl : lv_has ls 4 [(0, .ref (ad G 176)), (1, .int a1), (2, .int a2), (3, .int a3)] := hl
  refine lv_iload_n hx hb dX7_found_0 rfl (lv_at hl 2 rfl) ?_
  refine lv_if_ge (tgt := 8) hx hb dX7_found_1 (by decide) (fun c2 => ?_) (fun c2 => ?_)
  · replace hk := ite_t hk c2
    refine lv_iload_n hx hb dX7_found_8 rfl (lv_at hl 1 rfl) ?_
    refine lv_iload_n hx hb dX7_found_9 rfl (lv_at hl 2 rfl) ?_
    refine lv_icmp_le (tgt := 17) hx hb dX7_found_10 (by decide) (fun c1 => ?_) (fun c1 => ?_)
    · replace hk := ite_t hk c1
      refine lv_bipush (v := ((-5) : Int32)) hx hb dX7_found_17 (by decide) ?_
      subst hk
      exact hret _ _ _ _ hW dX7_found_19
    · replace hk := ite_f hk c1
      refine lv_iload_n hx hb dX7_found_13 rfl (lv_at hl 3 rfl) ?_
      refine lv_goto (tgt := 19) hx hb dX7_found_14 (by decide) ?_
      subst hk
      exact hret _ _ _ _ hW dX7_found_19
  · replace hk := ite_f hk c2
    refine lv_iload_n hx hb dX7_found_4 rfl (lv_at hl 1 rfl) ?_
    refine lv_goto (tgt := 19) hx hb dX7_found_5 (by decide) ?_
    subst hk
    exact hret _ _ _ _ hW dX7_found_19
def f_X7_touch_L34 (a1 : Int32) (M : Mem) (x3 : Int32) : Nat → Int32 → Int32 → Int32 → Option (Int32 × Int32)
  | 0, _, _, _ => none
  | n + 1, x8, x9, x10 =>
    ob (rd M 177 (0 : Int32)) (fun x13 =>
    if x13 ≤ x10 then (
      some (x8, x9))
    else (
      ob (f_X7_isSnapped x3 M) (fun x14 =>
      ob2 (
        if x14 = (0 : Int32) then (
          ob (f_X7_isSnapped x10 M) (fun x15 =>
          if x15 = (0 : Int32) then (
            ob (f_X7_high x3 M) (fun x16 =>
            ob (f_X7_high x10 M) (fun x17 =>
            if x16 = x17 then (
              lq (
                if x8 = a1 then (
                  (((10 : Int32) * x3) + x10))
                else (
                  x9))
               (fun x19 =>
              lq (x8 + (1 : Int32)) (fun x20 =>
              some (x20, x19))))
            else (
              some (x8, x9)))))
          else (
            some (x8, x9))))
        else (
          some (x8, x9)))
       (fun x26 x27 =>
      lq (x10 + (1 : Int32)) (fun x28 =>
      f_X7_touch_L34 a1 M x3 n x26 x27 x28)))))
def f_X7_touch_L17 (a1 : Int32) (M : Mem) : Nat → Int32 → Int32 → Int32 → Option (Int32 × Int32)
  | 0, _, _, _ => none
  | n + 1, x1, x2, x3 =>
    ob (rd M 177 (0 : Int32)) (fun x6 =>
    if x6 ≤ x3 then (
      some (x1, x2))
    else (
      lq (x3 + (1 : Int32)) (fun x7 =>
      ob2 (f_X7_touch_L34 a1 M x3 FU x1 x2 x7) (fun x11 x12 =>
      lq (x3 + (1 : Int32)) (fun x32 =>
      f_X7_touch_L17 a1 M n x11 x12 x32)))))
def f_X7_touch (a1 : Int32) (M : Mem) : Option (Int32 × Mem) :=
  if ((-1) : Int32) ≤ a1 then (
    ob2 (f_X7_touch_L17 a1 M FU (0 : Int32) (0 : Int32) (0 : Int32)) (fun x4 x5 =>
    some ((f_X7_found x4 a1 x5), M)))
  else (
    ob2 (f_X7_badTen M) (fun x39 M40 =>
    some (x39, M40)))
set_option maxHeartbeats 4000000 in
set_option maxRecDepth 100000 in
theorem c_X7_touch (l : Launch) (G : GT) (a1 : Int32) (M : Mem) {r : Int32} {M' : Mem} (hk : f_X7_touch a1 M = some (r, M')) : CMi l G false yX7_touch cX7_touch 6 (some .int) 4 [.ref (ad G 176), .int a1] M r M' := by
  unfold f_X7_touch at hk
  refine CMi.of (by decide) (Nat.le_of_ble_eq_true rfl) ?_
  intro p e s m args below meth c Q hx hb hml hown hg hK hW hret ls hl
  have hl : lv_has ls 6 [(0, .ref (ad G 176)), (1, .int a1)] := hl
  refine lv_iload_n hx hb dX7_touch_0 rfl (lv_at hl 1 rfl) ?_
  refine lv_iconst (v := ((-1) : Int32)) hx hb dX7_touch_1 (by decide) ?_
  refine lv_icmp_ge (tgt := 10) hx hb dX7_touch_2 (by decide) (fun c41 => ?_) (fun c41 => ?_)
  · replace hk := ite_t hk c41
    refine lv_iconst (v := (0 : Int32)) hx hb dX7_touch_10 (by decide) ?_
    refine lv_istore_n (lv' := [(2, .int (0 : Int32)), (0, .ref (ad G 176)), (1, .int a1)]) hx hb dX7_touch_11 rfl hl (by decide) rfl (fun ls hl => ?_)
    refine lv_iconst (v := (0 : Int32)) hx hb dX7_touch_12 (by decide) ?_
    refine lv_istore_n (lv' := [(3, .int (0 : Int32)), (2, .int (0 : Int32)), (0, .ref (ad G 176)), (1, .int a1)]) hx hb dX7_touch_13 rfl hl (by decide) rfl (fun ls hl => ?_)
    refine lv_iconst (v := (0 : Int32)) hx hb dX7_touch_14 (by decide) ?_
    refine lv_istore (lv' := [(4, .int (0 : Int32)), (3, .int (0 : Int32)), (2, .int (0 : Int32)), (0, .ref (ad G 176)), (1, .int a1)]) hx hb dX7_touch_15 hl (by decide) rfl (fun ls hl => ?_)
    replace hk := ob2_s hk
    obtain ⟨x4, x5, hz37, hk⟩ := hk
    have KX17 : ∀ (H : Heap) (locs : List Loc) (ls : Array Slot), Ws G false M s H locs → lv_has ls 6 [(0, .ref (ad G 176)), (1, .int a1), (2, .int x4), (3, .int x5)] → Wx p l e 4 s m args below meth c Q H locs 111 ls [] := by
      intro H locs ls hW hl
      refine lv_aload_n hx hb dX7_touch_111 rfl (lv_at hl 0 rfl) ?_
      refine lv_iload_n hx hb dX7_touch_112 rfl (lv_at hl 2 rfl) ?_
      refine lv_iload_n hx hb dX7_touch_113 rfl (lv_at hl 1 rfl) ?_
      refine lv_iload_n hx hb dX7_touch_114 rfl (lv_at hl 3 rfl) ?_
      refine cl_i (rn_V g_1096 g_1098 gs_86 g_9 g_1099 hd_X7_found (Nat.le_of_ble_eq_true rfl) (ci := 7) rfl (inM kd_176 rfl) (shp7 kd_176) hx hb hml hown hg hK hW (As := [.int x4, .int a1, .int x5]) (c_X7_found l G x4 a1 x5 M) (by decide) rfl hl.1 rfl (Nat.le_of_ble_eq_true rfl) dX7_touch_115) hW (fun H locs hW => ?_)
      obtain ⟨rfl, rfl⟩ := sp2 hk
      exact hret _ _ _ _ hW dX7_touch_118
    clear hk
    have LH17 : ∀ (n : Nat) (x1 : Int32) (x2 : Int32) (x3 : Int32) (H : Heap) (locs : List Loc) (ls : Array Slot), f_X7_touch_L17 a1 M n x1 x2 x3 = some (x4, x5) → Ws G false M s H locs → lv_has ls 6 [(0, .ref (ad G 176)), (1, .int a1), (2, .int x1), (3, .int x2), (4, .int x3)] → Wx p l e 4 s m args below meth c Q H locs 17 ls [] := by
      clear hz37
      intro n
      induction n with
      | zero => intro _ _ _ _ _ _ hk; cases hk
      | succ n ih17 =>
        intro x1 x2 x3 H locs ls hk hW hl
        rw [f_X7_touch_L17.eq_2] at hk
        refine lv_iload hx hb dX7_touch_17 (lv_at hl 4 rfl) ?_
        refine lv_aload_n hx hb dX7_touch_19 rfl (lv_at hl 0 rfl) ?_
        refine gt_X7_7 hx hb hg hown hK hW kd_176 dX7_touch_20 ?_
        refine lv_iconst (v := (0 : Int32)) hx hb dX7_touch_23 (by decide) ?_
        replace hk := ob_s hk
        obtain ⟨x6, hx6, hk⟩ := hk
        obtain ⟨hx6, ex6⟩ := rd_s hx6
        refine w_ald hx hb hK hW (inM kd_177 rfl) (shp10 kd_177) hx6 ex6 dX7_touch_24 ?_
        refine lv_icmp_ge (tgt := 111) hx hb dX7_touch_25 (by decide) (fun c35 => ?_) (fun c35 => ?_)
        · replace hk := ite_t hk c35
          obtain ⟨rfl, rfl⟩ := sp2 hk
          exact KX17 _ _ _ hW (lv_sub hl [0, 1, 2, 3] rfl)
        · replace hk := ite_f hk c35
          refine lv_iload hx hb dX7_touch_28 (lv_at hl 4 rfl) ?_
          refine lv_iconst (v := (1 : Int32)) hx hb dX7_touch_30 (by decide) ?_
          refine lv_iadd hx hb dX7_touch_31 ?_
          replace hk := lq_s hk
          obtain ⟨x7, ex7, hk⟩ := hk
          refine nm_i ex7 ?_
          refine lv_istore (lv' := [(5, .int x7), (0, .ref (ad G 176)), (1, .int a1), (2, .int x1), (3, .int x2), (4, .int x3)]) hx hb dX7_touch_32 hl (by decide) rfl (fun ls hl => ?_)
          replace hk := ob2_s hk
          obtain ⟨x11, x12, hz33, hk⟩ := hk
          have KX34 : ∀ (H : Heap) (locs : List Loc) (ls : Array Slot), Ws G false M s H locs → lv_has ls 6 [(0, .ref (ad G 176)), (1, .int a1), (2, .int x11), (3, .int x12), (4, .int x3)] → Wx p l e 4 s m args below meth c Q H locs 105 ls [] := by
            intro H locs ls hW hl
            replace hk := lq_s hk
            obtain ⟨x32, ex32, hk⟩ := hk
            refine lv_iinc (v := x32) (lv' := [(4, .int x32), (0, .ref (ad G 176)), (1, .int a1), (2, .int x11), (3, .int x12)]) hx hb dX7_touch_105 hl (k := 4) rfl (by rw [ex32]; rfl) (by decide) rfl (fun ls hl => ?_)
            refine lv_goto (tgt := 17) hx hb dX7_touch_108 (by decide) ?_
            exact ih17 _ _ _ _ _ _ hk hW (lv_sub hl [1, 2, 3, 4, 0] rfl)
          clear hk
          have LH34 : ∀ (n : Nat) (x8 : Int32) (x9 : Int32) (x10 : Int32) (H : Heap) (locs : List Loc) (ls : Array Slot), f_X7_touch_L34 a1 M x3 n x8 x9 x10 = some (x11, x12) → Ws G false M s H locs → lv_has ls 6 [(0, .ref (ad G 176)), (1, .int a1), (2, .int x8), (3, .int x9), (4, .int x3), (5, .int x10)] → Wx p l e 4 s m args below meth c Q H locs 34 ls [] := by
            clear hz33
            intro n
            induction n with
            | zero => intro _ _ _ _ _ _ hk; cases hk
            | succ n ih34 =>
              intro x8 x9 x10 H locs ls hk hW hl
              rw [f_X7_touch_L34.eq_2] at hk
              refine lv_iload hx hb dX7_touch_34 (lv_at hl 5 rfl) ?_
              refine lv_aload_n hx hb dX7_touch_36 rfl (lv_at hl 0 rfl) ?_
              refine gt_X7_7 hx hb hg hown hK hW kd_176 dX7_touch_37 ?_
              refine lv_iconst (v := (0 : Int32)) hx hb dX7_touch_40 (by decide) ?_
              replace hk := ob_s hk
              obtain ⟨x13, hx13, hk⟩ := hk
              obtain ⟨hx13, ex13⟩ := rd_s hx13
              refine w_ald hx hb hK hW (inM kd_177 rfl) (shp10 kd_177) hx13 ex13 dX7_touch_41 ?_
              refine lv_icmp_ge (tgt := 105) hx hb dX7_touch_42 (by decide) (fun c31 => ?_) (fun c31 => ?_)
              · replace hk := ite_t hk c31
                obtain ⟨rfl, rfl⟩ := sp2 hk
                exact KX34 _ _ _ hW (lv_sub hl [0, 1, 2, 3, 4] rfl)
              · replace hk := ite_f hk c31
                refine lv_aload_n hx hb dX7_touch_45 rfl (lv_at hl 0 rfl) ?_
                refine lv_iload hx hb dX7_touch_46 (lv_at hl 4 rfl) ?_
                replace hk := ob_s hk
                obtain ⟨x14, hx14, hk⟩ := hk
                refine cl_i (rn_V g_1025 g_1027 gs_76 g_9 g_1028 hd_X7_isSnapped (Nat.le_of_ble_eq_true rfl) (ci := 7) rfl (inM kd_176 rfl) (shp7 kd_176) hx hb hml hown hg hK hW (As := [.int x3]) (c_X7_isSnapped l G x3 M hx14) (by decide) rfl hl.1 rfl (Nat.le_of_ble_eq_true rfl) dX7_touch_48) hW (fun H locs hW => ?_)
                replace hk := ob2_s hk
                obtain ⟨x26, x27, hr30, hk⟩ := hk
                have KJ29 : ∀ (H : Heap) (locs : List Loc) (ls : Array Slot), Ws G false M s H locs → lv_has ls 6 [(0, .ref (ad G 176)), (1, .int a1), (2, .int x26), (3, .int x27), (4, .int x3), (5, .int x10)] → Wx p l e 4 s m args below meth c Q H locs 99 ls [] := by
                  intro H locs ls hW hl
                  replace hk := lq_s hk
                  obtain ⟨x28, ex28, hk⟩ := hk
                  refine lv_iinc (v := x28) (lv' := [(5, .int x28), (0, .ref (ad G 176)), (1, .int a1), (2, .int x26), (3, .int x27), (4, .int x3)]) hx hb dX7_touch_99 hl (k := 5) rfl (by rw [ex28]; rfl) (by decide) rfl (fun ls hl => ?_)
                  refine lv_goto (tgt := 34) hx hb dX7_touch_102 (by decide) ?_
                  exact ih34 _ _ _ _ _ _ hk hW (lv_sub hl [1, 2, 3, 4, 5, 0] rfl)
                clear hk
                have hk := hr30
                clear hr30
                refine lv_if_ne (tgt := 99) hx hb dX7_touch_51 (by decide) (fun c25 => ?_) (fun c25 => ?_)
                · replace hk := ite_f hk c25
                  obtain ⟨rfl, rfl⟩ := sp2 hk
                  exact KJ29 _ _ _ hW (lv_sub hl [0, 1, 2, 3, 4, 5] rfl)
                · replace hk := ite_t hk c25
                  refine lv_aload_n hx hb dX7_touch_54 rfl (lv_at hl 0 rfl) ?_
                  refine lv_iload hx hb dX7_touch_55 (lv_at hl 5 rfl) ?_
                  replace hk := ob_s hk
                  obtain ⟨x15, hx15, hk⟩ := hk
                  refine cl_i (rn_V g_1025 g_1027 gs_76 g_9 g_1028 hd_X7_isSnapped (Nat.le_of_ble_eq_true rfl) (ci := 7) rfl (inM kd_176 rfl) (shp7 kd_176) hx hb hml hown hg hK hW (As := [.int x10]) (c_X7_isSnapped l G x10 M hx15) (by decide) rfl hl.1 rfl (Nat.le_of_ble_eq_true rfl) dX7_touch_57) hW (fun H locs hW => ?_)
                  refine lv_if_ne (tgt := 99) hx hb dX7_touch_60 (by decide) (fun c24 => ?_) (fun c24 => ?_)
                  · replace hk := ite_f hk c24
                    obtain ⟨rfl, rfl⟩ := sp2 hk
                    exact KJ29 _ _ _ hW (lv_sub hl [0, 1, 2, 3, 4, 5] rfl)
                  · replace hk := ite_t hk c24
                    refine lv_aload_n hx hb dX7_touch_63 rfl (lv_at hl 0 rfl) ?_
                    refine lv_iload hx hb dX7_touch_64 (lv_at hl 4 rfl) ?_
                    replace hk := ob_s hk
                    obtain ⟨x16, hx16, hk⟩ := hk
                    refine cl_i (rn_V g_1074 g_1076 gs_83 g_9 g_1077 hd_X7_high (Nat.le_of_ble_eq_true rfl) (ci := 7) rfl (inM kd_176 rfl) (shp7 kd_176) hx hb hml hown hg hK hW (As := [.int x3]) (c_X7_high l G x3 M hx16) (by decide) rfl hl.1 rfl (Nat.le_of_ble_eq_true rfl) dX7_touch_66) hW (fun H locs hW => ?_)
                    refine lv_aload_n hx hb dX7_touch_69 rfl (lv_at hl 0 rfl) ?_
                    refine lv_iload hx hb dX7_touch_70 (lv_at hl 5 rfl) ?_
                    replace hk := ob_s hk
                    obtain ⟨x17, hx17, hk⟩ := hk
                    refine cl_i (rn_V g_1074 g_1076 gs_83 g_9 g_1077 hd_X7_high (Nat.le_of_ble_eq_true rfl) (ci := 7) rfl (inM kd_176 rfl) (shp7 kd_176) hx hb hml hown hg hK hW (As := [.int x10]) (c_X7_high l G x10 M hx17) (by decide) rfl hl.1 rfl (Nat.le_of_ble_eq_true rfl) dX7_touch_72) hW (fun H locs hW => ?_)
                    refine lv_icmp_ne (tgt := 99) hx hb dX7_touch_75 (by decide) (fun c23 => ?_) (fun c23 => ?_)
                    · replace hk := ite_f hk c23
                      obtain ⟨rfl, rfl⟩ := sp2 hk
                      exact KJ29 _ _ _ hW (lv_sub hl [0, 1, 2, 3, 4, 5] rfl)
                    · replace hk := ite_t hk c23
                      refine lv_iload_n hx hb dX7_touch_78 rfl (lv_at hl 2 rfl) ?_
                      refine lv_iload_n hx hb dX7_touch_79 rfl (lv_at hl 1 rfl) ?_
                      replace hk := lq_s hk
                      obtain ⟨x19, hr22, hk⟩ := hk
                      have KJ21 : ∀ (H : Heap) (locs : List Loc) (ls : Array Slot), Ws G false M s H locs → lv_has ls 6 [(0, .ref (ad G 176)), (1, .int a1), (2, .int x8), (4, .int x3), (5, .int x10)] → Wx p l e 4 s m args below meth c Q H locs 95 ls [.int x19] := by
                        intro H locs ls hW hl
                        refine lv_istore_n (lv' := [(3, .int x19), (0, .ref (ad G 176)), (1, .int a1), (2, .int x8), (4, .int x3), (5, .int x10)]) hx hb dX7_touch_95 rfl hl (by decide) rfl (fun ls hl => ?_)
                        replace hk := lq_s hk
                        obtain ⟨x20, ex20, hk⟩ := hk
                        refine lv_iinc (v := x20) (lv' := [(2, .int x20), (3, .int x19), (0, .ref (ad G 176)), (1, .int a1), (4, .int x3), (5, .int x10)]) hx hb dX7_touch_96 hl (k := 3) rfl (by rw [ex20]; rfl) (by decide) rfl (fun ls hl => ?_)
                        obtain ⟨rfl, rfl⟩ := sp2 hk
                        exact KJ29 _ _ _ hW (lv_sub hl [2, 3, 0, 1, 4, 5] rfl)
                      clear hk
                      have hk := hr22.symm
                      clear hr22
                      refine lv_icmp_ne (tgt := 94) hx hb dX7_touch_80 (by decide) (fun c18 => ?_) (fun c18 => ?_)
                      · replace hk := ite_f hk c18
                        refine lv_iload_n hx hb dX7_touch_94 rfl (lv_at hl 3 rfl) ?_
                        subst hk
                        exact KJ21 _ _ _ hW (lv_sub hl [0, 1, 2, 4, 5] rfl)
                      · replace hk := ite_t hk c18
                        refine lv_bipush (v := (10 : Int32)) hx hb dX7_touch_83 (by decide) ?_
                        refine lv_iload hx hb dX7_touch_85 (lv_at hl 4 rfl) ?_
                        refine lv_imul hx hb dX7_touch_87 ?_
                        refine lv_iload hx hb dX7_touch_88 (lv_at hl 5 rfl) ?_
                        refine lv_iadd hx hb dX7_touch_90 ?_
                        refine lv_goto (tgt := 95) hx hb dX7_touch_91 (by decide) ?_
                        subst hk
                        exact KJ21 _ _ _ hW (lv_sub hl [0, 1, 2, 4, 5] rfl)
          exact LH34 FU _ _ _ _ _ _ hz33 hW (lv_sub hl [1, 2, 3, 4, 5, 0] rfl)
    exact LH17 FU _ _ _ _ _ _ hz37 hW (lv_sub hl [3, 4, 2, 1, 0] rfl)
  · replace hk := ite_f hk c41
    refine lv_aload_n hx hb dX7_touch_5 rfl (lv_at hl 0 rfl) ?_
    replace hk := ob2_s hk
    obtain ⟨x39, M40, hx39, hk⟩ := hk
    refine cl_i (rn_V g_1092 g_1094 gs_85 g_9 g_1095 hd_X7_badTen (Nat.le_of_ble_eq_true rfl) (ci := 7) rfl (inM kd_176 rfl) (shp7 kd_176) hx hb hml hown hg hK hW (As := []) (c_X7_badTen l G M hx39) (by decide) rfl hl.1 rfl (Nat.le_of_ble_eq_true rfl) dX7_touch_6) hW (fun H locs hW => ?_)
    obtain ⟨rfl, rfl⟩ := sp2 hk
    exact hret _ _ _ _ hW dX7_touch_9
def f_X7_safe_L19 (a1 : Int32) : Nat → Int32 → Mem → Option (Int32 × Mem)
  | 0, _, _ => none
  | n + 1, x4, M5 =>
    if (61 : Int32) ≤ x4 then (
      some (x4, M5))
    else (
      ob (f_X7_isSnapped a1 M5) (fun x8 =>
      if x8 = (0 : Int32) then (
        ob (f_X7_goes (4 : Int32) M5) (fun M10 =>
        lq (x4 + (1 : Int32)) (fun x11 =>
        f_X7_safe_L19 a1 n x11 M10)))
      else (
        some (x4, M5))))
def f_X7_safe (a1 : Int32) (M : Mem) : Option (Int32 × Mem) :=
  ob (f_X7_isLimb a1 M) (fun x1 =>
  if x1 = (0 : Int32) then (
    ob2 (f_X7_bad M) (fun x19 M20 =>
    some (x19, M20)))
  else (
    ob (f_X7_asides M) (fun M3 =>
    ob2 (f_X7_safe_L19 a1 FU (0 : Int32) M3) (fun x6 M7 =>
    ob (f_X7_backs M7) (fun M15 =>
    if (61 : Int32) ≤ x6 then (
      some (((-1001) : Int32), M15))
    else (
      some (x6, M15)))))))
set_option maxHeartbeats 4000000 in
set_option maxRecDepth 100000 in
theorem c_X7_safe (l : Launch) (G : GT) (a1 : Int32) (M : Mem) {r : Int32} {M' : Mem} (hk : f_X7_safe a1 M = some (r, M')) : CMi l G false yX7_safe cX7_safe 3 (some .int) 4 [.ref (ad G 176), .int a1] M r M' := by
  unfold f_X7_safe at hk
  refine CMi.of (by decide) (Nat.le_of_ble_eq_true rfl) ?_
  intro p e s m args below meth c Q hx hb hml hown hg hK hW hret ls hl
  have hl : lv_has ls 3 [(0, .ref (ad G 176)), (1, .int a1)] := hl
  refine lv_aload_n hx hb dX7_safe_0 rfl (lv_at hl 0 rfl) ?_
  refine lv_iload_n hx hb dX7_safe_1 rfl (lv_at hl 1 rfl) ?_
  replace hk := ob_s hk
  obtain ⟨x1, hx1, hk⟩ := hk
  refine cl_i (rn_V g_1033 g_1035 gs_78 g_9 g_1036 hd_X7_isLimb (Nat.le_of_ble_eq_true rfl) (ci := 7) rfl (inM kd_176 rfl) (shp7 kd_176) hx hb hml hown hg hK hW (As := [.int a1]) (c_X7_isLimb l G a1 M hx1) (by decide) rfl hl.1 rfl (Nat.le_of_ble_eq_true rfl) dX7_safe_2) hW (fun H locs hW => ?_)
  refine lv_if_ne (tgt := 13) hx hb dX7_safe_5 (by decide) (fun c21 => ?_) (fun c21 => ?_)
  · replace hk := ite_f hk c21
    refine lv_aload_n hx hb dX7_safe_13 rfl (lv_at hl 0 rfl) ?_
    replace hk := ob_s hk
    obtain ⟨M3, hx2, hk⟩ := hk
    refine cl_v (rn_V g_1104 g_1106 gs_87 g_9 g_1107 hd_X7_asides (Nat.le_of_ble_eq_true rfl) (ci := 7) rfl (inM kd_176 rfl) (shp7 kd_176) hx hb hml hown hg hK hW (As := []) (c_X7_asides l G M hx2) (by decide) rfl hl.1 rfl (Nat.le_of_ble_eq_true rfl) dX7_safe_14) hW (fun H locs hW => ?_)
    refine lv_iconst (v := (0 : Int32)) hx hb dX7_safe_17 (by decide) ?_
    refine lv_istore_n (lv' := [(2, .int (0 : Int32)), (0, .ref (ad G 176)), (1, .int a1)]) hx hb dX7_safe_18 rfl hl (by decide) rfl (fun ls hl => ?_)
    replace hk := ob2_s hk
    obtain ⟨x6, M7, hz17, hk⟩ := hk
    have KX19 : ∀ (H : Heap) (locs : List Loc) (ls : Array Slot), Ws G false M7 s H locs → lv_has ls 3 [(0, .ref (ad G 176)), (2, .int x6)] → Wx p l e 4 s m args below meth c Q H locs 44 ls [] := by
      intro H locs ls hW hl
      refine lv_aload_n hx hb dX7_safe_44 rfl (lv_at hl 0 rfl) ?_
      replace hk := ob_s hk
      obtain ⟨M15, hx14, hk⟩ := hk
      refine cl_v (rn_V g_1108 g_1110 gs_88 g_9 g_1111 hd_X7_backs (Nat.le_of_ble_eq_true rfl) (ci := 7) rfl (inM kd_176 rfl) (shp7 kd_176) hx hb hml hown hg hK hW (As := []) (c_X7_backs l G M7 hx14) (by decide) rfl hl.1 rfl (Nat.le_of_ble_eq_true rfl) dX7_safe_45) hW (fun H locs hW => ?_)
      refine lv_iload_n hx hb dX7_safe_48 rfl (lv_at hl 1 rfl) ?_
      refine lv_bipush (v := (61 : Int32)) hx hb dX7_safe_49 (by decide) ?_
      refine lv_icmp_ge (tgt := 58) hx hb dX7_safe_51 (by decide) (fun c16 => ?_) (fun c16 => ?_)
      · replace hk := ite_t hk c16
        refine lv_sipush (v := ((-1001) : Int32)) hx hb dX7_safe_58 (by decide) ?_
        obtain ⟨rfl, rfl⟩ := sp2 hk
        exact hret _ _ _ _ hW dX7_safe_61
      · replace hk := ite_f hk c16
        refine lv_iload_n hx hb dX7_safe_54 rfl (lv_at hl 1 rfl) ?_
        refine lv_goto (tgt := 61) hx hb dX7_safe_55 (by decide) ?_
        obtain ⟨rfl, rfl⟩ := sp2 hk
        exact hret _ _ _ _ hW dX7_safe_61
    clear hk
    have LH19 : ∀ (n : Nat) (x4 : Int32) (M5 : Mem) (H : Heap) (locs : List Loc) (ls : Array Slot), f_X7_safe_L19 a1 n x4 M5 = some (x6, M7) → Ws G false M5 s H locs → lv_has ls 3 [(0, .ref (ad G 176)), (1, .int a1), (2, .int x4)] → Wx p l e 4 s m args below meth c Q H locs 19 ls [] := by
      clear hz17
      intro n
      induction n with
      | zero => intro _ _ _ _ _ hk; cases hk
      | succ n ih19 =>
        intro x4 M5 H locs ls hk hW hl
        rw [f_X7_safe_L19.eq_2] at hk
        refine lv_iload_n hx hb dX7_safe_19 rfl (lv_at hl 2 rfl) ?_
        refine lv_bipush (v := (61 : Int32)) hx hb dX7_safe_20 (by decide) ?_
        refine lv_icmp_ge (tgt := 44) hx hb dX7_safe_22 (by decide) (fun c13 => ?_) (fun c13 => ?_)
        · replace hk := ite_t hk c13
          obtain ⟨rfl, rfl⟩ := sp2 hk
          exact KX19 _ _ _ hW (lv_sub hl [0, 2] rfl)
        · replace hk := ite_f hk c13
          refine lv_aload_n hx hb dX7_safe_25 rfl (lv_at hl 0 rfl) ?_
          refine lv_iload_n hx hb dX7_safe_26 rfl (lv_at hl 1 rfl) ?_
          replace hk := ob_s hk
          obtain ⟨x8, hx8, hk⟩ := hk
          refine cl_i (rn_V g_1025 g_1027 gs_76 g_9 g_1028 hd_X7_isSnapped (Nat.le_of_ble_eq_true rfl) (ci := 7) rfl (inM kd_176 rfl) (shp7 kd_176) hx hb hml hown hg hK hW (As := [.int a1]) (c_X7_isSnapped l G a1 M5 hx8) (by decide) rfl hl.1 rfl (Nat.le_of_ble_eq_true rfl) dX7_safe_27) hW (fun H locs hW => ?_)
          refine lv_if_ne (tgt := 44) hx hb dX7_safe_30 (by decide) (fun c12 => ?_) (fun c12 => ?_)
          · replace hk := ite_f hk c12
            obtain ⟨rfl, rfl⟩ := sp2 hk
            exact KX19 _ _ _ hW (lv_sub hl [0, 2] rfl)
          · replace hk := ite_t hk c12
            refine lv_aload_n hx hb dX7_safe_33 rfl (lv_at hl 0 rfl) ?_
            refine lv_iconst (v := (4 : Int32)) hx hb dX7_safe_34 (by decide) ?_
            replace hk := ob_s hk
            obtain ⟨M10, hx9, hk⟩ := hk
            refine cl_v (rn_V g_1017 g_1019 gs_74 g_9 g_1020 hd_X7_goes (Nat.le_of_ble_eq_true rfl) (ci := 7) rfl (inM kd_176 rfl) (shp7 kd_176) hx hb hml hown hg hK hW (As := [.int (4 : Int32)]) (c_X7_goes l G (4 : Int32) M5 hx9) (by decide) rfl hl.1 rfl (Nat.le_of_ble_eq_true rfl) dX7_safe_35) hW (fun H locs hW => ?_)
            replace hk := lq_s hk
            obtain ⟨x11, ex11, hk⟩ := hk
            refine lv_iinc (v := x11) (lv' := [(2, .int x11), (0, .ref (ad G 176)), (1, .int a1)]) hx hb dX7_safe_38 hl (k := 2) rfl (by rw [ex11]; rfl) (by decide) rfl (fun ls hl => ?_)
            refine lv_goto (tgt := 19) hx hb dX7_safe_41 (by decide) ?_
            exact ih19 _ _ _ _ _ hk hW (lv_sub hl [1, 2, 0] rfl)
    exact LH19 FU _ _ _ _ _ hz17 hW (lv_sub hl [1, 2, 0] rfl)
  · replace hk := ite_t hk c21
    refine lv_aload_n hx hb dX7_safe_8 rfl (lv_at hl 0 rfl) ?_
    replace hk := ob2_s hk
    obtain ⟨x19, M20, hx19, hk⟩ := hk
    refine cl_i (rn_V g_924 g_926 gs_62 g_9 g_927 hd_X7_bad (Nat.le_of_ble_eq_true rfl) (ci := 7) rfl (inM kd_176 rfl) (shp7 kd_176) hx hb hml hown hg hK hW (As := []) (c_X7_bad l G M hx19) (by decide) rfl hl.1 rfl (Nat.le_of_ble_eq_true rfl) dX7_safe_9) hW (fun H locs hW => ?_)
    obtain ⟨rfl, rfl⟩ := sp2 hk
    exact hret _ _ _ _ hW dX7_safe_12
def f_X7_goesBy_L5 (a2 : Int32) : Nat → Int32 → Int32 → Option (Int32)
  | 0, _, _ => none
  | n + 1, x1, x2 =>
    if a2 ≤ x2 then (
      some x1)
    else (
      lq (x1 * (5 : Int32)) (fun x4 =>
      lq (x2 + (1 : Int32)) (fun x5 =>
      f_X7_goesBy_L5 a2 n x4 x5)))
def f_X7_goesBy_L24 (a1 : Int32) (a2 : Int32) : Nat → Int32 → Int32 → Mem → Option (Int32 × Int32 × Mem)
  | 0, _, _, _ => none
  | n + 1, x7, x8, M9 =>
    if a2 ≤ x8 then (
      some (x7, x8, M9))
    else (
      ob (dvI a1 x7) (fun x13 =>
      ob (f_X7_goes (x13 - x13 / (5 : Int32) * (5 : Int32)) M9) (fun M15 =>
      lq (x7 / (5 : Int32)) (fun x16 =>
      lq (x8 + (1 : Int32)) (fun x17 =>
      f_X7_goesBy_L24 a1 a2 n x16 x17 M15)))))
def f_X7_goesBy (a1 : Int32) (a2 : Int32) (M : Mem) : Option (Mem) :=
  ob (f_X7_goesBy_L5 a2 FU (1 : Int32) (1 : Int32)) (fun x3 =>
  ob3 (f_X7_goesBy_L24 a1 a2 FU x3 (0 : Int32) M) (fun x10 x11 M12 =>
  some M12))
set_option maxHeartbeats 4000000 in
set_option maxRecDepth 100000 in
theorem c_X7_goesBy (l : Launch) (G : GT) (a1 : Int32) (a2 : Int32) (M : Mem) {M' : Mem} (hk : f_X7_goesBy a1 a2 M = some M') : CMv l G false yX7_goesBy cX7_goesBy 5 none 4 [.ref (ad G 176), .int a1, .int a2] M M' := by
  unfold f_X7_goesBy at hk
  refine CMv.of (by decide) (Nat.le_of_ble_eq_true rfl) ?_
  intro p e s m args below meth c Q hx hb hml hown hg hK hW hret ls hl
  have hl : lv_has ls 5 [(0, .ref (ad G 176)), (1, .int a1), (2, .int a2)] := hl
  refine lv_iconst (v := (1 : Int32)) hx hb dX7_goesBy_0 (by decide) ?_
  refine lv_istore_n (lv' := [(3, .int (1 : Int32)), (0, .ref (ad G 176)), (1, .int a1), (2, .int a2)]) hx hb dX7_goesBy_1 rfl hl (by decide) rfl (fun ls hl => ?_)
  refine lv_iconst (v := (1 : Int32)) hx hb dX7_goesBy_2 (by decide) ?_
  refine lv_istore (lv' := [(4, .int (1 : Int32)), (3, .int (1 : Int32)), (0, .ref (ad G 176)), (1, .int a1), (2, .int a2)]) hx hb dX7_goesBy_3 hl (by decide) rfl (fun ls hl => ?_)
  replace hk := ob_s hk
  obtain ⟨x3, hz21, hk⟩ := hk
  have KX5 : ∀ (H : Heap) (locs : List Loc) (ls : Array Slot), Ws G false M s H locs → lv_has ls 5 [(0, .ref (ad G 176)), (1, .int a1), (2, .int a2), (3, .int x3)] → Wx p l e 4 s m args below meth c Q H locs 21 ls [] := by
    intro H locs ls hW hl
    refine lv_iconst (v := (0 : Int32)) hx hb dX7_goesBy_21 (by decide) ?_
    refine lv_istore (lv' := [(4, .int (0 : Int32)), (0, .ref (ad G 176)), (1, .int a1), (2, .int a2), (3, .int x3)]) hx hb dX7_goesBy_22 hl (by decide) rfl (fun ls hl => ?_)
    replace hk := ob3_s hk
    obtain ⟨x10, x11, M12, hz19, hk⟩ := hk
    have KX24 : ∀ (H : Heap) (locs : List Loc) (ls : Array Slot), Ws G false M12 s H locs → lv_has ls 5 [] → Wx p l e 4 s m args below meth c Q H locs 49 ls [] := by
      intro H locs ls hW hl
      obtain rfl := Option.some.inj hk
      exact hret _ _ _ _ hW dX7_goesBy_49
    clear hk
    have LH24 : ∀ (n : Nat) (x7 : Int32) (x8 : Int32) (M9 : Mem) (H : Heap) (locs : List Loc) (ls : Array Slot), f_X7_goesBy_L24 a1 a2 n x7 x8 M9 = some (x10, x11, M12) → Ws G false M9 s H locs → lv_has ls 5 [(0, .ref (ad G 176)), (1, .int a1), (2, .int a2), (3, .int x7), (4, .int x8)] → Wx p l e 4 s m args below meth c Q H locs 24 ls [] := by
      clear hz19
      intro n
      induction n with
      | zero => intro _ _ _ _ _ _ hk; cases hk
      | succ n ih24 =>
        intro x7 x8 M9 H locs ls hk hW hl
        rw [f_X7_goesBy_L24.eq_2] at hk
        refine lv_iload hx hb dX7_goesBy_24 (lv_at hl 4 rfl) ?_
        refine lv_iload_n hx hb dX7_goesBy_26 rfl (lv_at hl 2 rfl) ?_
        refine lv_icmp_ge (tgt := 49) hx hb dX7_goesBy_27 (by decide) (fun c18 => ?_) (fun c18 => ?_)
        · replace hk := ite_t hk c18
          obtain ⟨rfl, rfl, rfl⟩ := sp3 hk
          exact KX24 _ _ _ hW (lv_sub hl [] rfl)
        · replace hk := ite_f hk c18
          refine lv_aload_n hx hb dX7_goesBy_30 rfl (lv_at hl 0 rfl) ?_
          refine lv_iload_n hx hb dX7_goesBy_31 rfl (lv_at hl 1 rfl) ?_
          refine lv_iload_n hx hb dX7_goesBy_32 rfl (lv_at hl 3 rfl) ?_
          replace hk := ob_s hk
          obtain ⟨x13, hx13, hk⟩ := hk
          obtain ⟨hx13, ex13⟩ := dvI_s hx13
          refine lv_idiv hx hb dX7_goesBy_33 hx13 ?_
          refine nm_i ex13 ?_
          refine lv_iconst (v := (5 : Int32)) hx hb dX7_goesBy_34 (by decide) ?_
          refine lv_irem hx hb dX7_goesBy_35 (by decide) ?_
          replace hk := ob_s hk
          obtain ⟨M15, hx14, hk⟩ := hk
          refine cl_v (rn_V g_1017 g_1019 gs_74 g_9 g_1020 hd_X7_goes (Nat.le_of_ble_eq_true rfl) (ci := 7) rfl (inM kd_176 rfl) (shp7 kd_176) hx hb hml hown hg hK hW (As := [.int (x13 - x13 / (5 : Int32) * (5 : Int32))]) (c_X7_goes l G (x13 - x13 / (5 : Int32) * (5 : Int32)) M9 hx14) (by decide) rfl hl.1 rfl (Nat.le_of_ble_eq_true rfl) dX7_goesBy_36) hW (fun H locs hW => ?_)
          refine lv_iload_n hx hb dX7_goesBy_39 rfl (lv_at hl 3 rfl) ?_
          refine lv_iconst (v := (5 : Int32)) hx hb dX7_goesBy_40 (by decide) ?_
          refine lv_idiv hx hb dX7_goesBy_41 (by decide) ?_
          replace hk := lq_s hk
          obtain ⟨x16, ex16, hk⟩ := hk
          refine nm_i ex16 ?_
          refine lv_istore_n (lv' := [(3, .int x16), (0, .ref (ad G 176)), (1, .int a1), (2, .int a2), (4, .int x8)]) hx hb dX7_goesBy_42 rfl hl (by decide) rfl (fun ls hl => ?_)
          replace hk := lq_s hk
          obtain ⟨x17, ex17, hk⟩ := hk
          refine lv_iinc (v := x17) (lv' := [(4, .int x17), (3, .int x16), (0, .ref (ad G 176)), (1, .int a1), (2, .int a2)]) hx hb dX7_goesBy_43 hl (k := 4) rfl (by rw [ex17]; rfl) (by decide) rfl (fun ls hl => ?_)
          refine lv_goto (tgt := 24) hx hb dX7_goesBy_46 (by decide) ?_
          exact ih24 _ _ _ _ _ _ hk hW (lv_sub hl [2, 3, 4, 1, 0] rfl)
    exact LH24 FU _ _ _ _ _ _ hz19 hW (lv_sub hl [1, 2, 3, 4, 0] rfl)
  clear hk
  have LH5 : ∀ (n : Nat) (x1 : Int32) (x2 : Int32) (H : Heap) (locs : List Loc) (ls : Array Slot), f_X7_goesBy_L5 a2 n x1 x2 = some x3 → Ws G false M s H locs → lv_has ls 5 [(0, .ref (ad G 176)), (1, .int a1), (2, .int a2), (3, .int x1), (4, .int x2)] → Wx p l e 4 s m args below meth c Q H locs 5 ls [] := by
    clear hz21
    intro n
    induction n with
    | zero => intro _ _ _ _ _ hk; cases hk
    | succ n ih5 =>
      intro x1 x2 H locs ls hk hW hl
      rw [f_X7_goesBy_L5.eq_2] at hk
      refine lv_iload hx hb dX7_goesBy_5 (lv_at hl 4 rfl) ?_
      refine lv_iload_n hx hb dX7_goesBy_7 rfl (lv_at hl 2 rfl) ?_
      refine lv_icmp_ge (tgt := 21) hx hb dX7_goesBy_8 (by decide) (fun c6 => ?_) (fun c6 => ?_)
      · replace hk := ite_t hk c6
        obtain rfl := Option.some.inj hk
        exact KX5 _ _ _ hW (lv_sub hl [0, 1, 2, 3] rfl)
      · replace hk := ite_f hk c6
        refine lv_iload_n hx hb dX7_goesBy_11 rfl (lv_at hl 3 rfl) ?_
        refine lv_iconst (v := (5 : Int32)) hx hb dX7_goesBy_12 (by decide) ?_
        refine lv_imul hx hb dX7_goesBy_13 ?_
        replace hk := lq_s hk
        obtain ⟨x4, ex4, hk⟩ := hk
        refine nm_i ex4 ?_
        refine lv_istore_n (lv' := [(3, .int x4), (0, .ref (ad G 176)), (1, .int a1), (2, .int a2), (4, .int x2)]) hx hb dX7_goesBy_14 rfl hl (by decide) rfl (fun ls hl => ?_)
        replace hk := lq_s hk
        obtain ⟨x5, ex5, hk⟩ := hk
        refine lv_iinc (v := x5) (lv' := [(4, .int x5), (3, .int x4), (0, .ref (ad G 176)), (1, .int a1), (2, .int a2)]) hx hb dX7_goesBy_15 hl (k := 4) rfl (by rw [ex5]; rfl) (by decide) rfl (fun ls hl => ?_)
        refine lv_goto (tgt := 5) hx hb dX7_goesBy_18 (by decide) ?_
        exact ih5 _ _ _ _ _ hk hW (lv_sub hl [2, 3, 4, 1, 0] rfl)
  exact LH5 FU _ _ _ _ _ hz21 hW (lv_sub hl [2, 3, 4, 1, 0] rfl)
def f_X7_fewest_L20 (a1 : Int32) (a2 : Int32) (a3 : Int32) (a4 : Int32) (x3 : Int32) (x4 : Int32) : Nat → Int32 → Mem → Option ((Int32 × Mem) ⊕ (Int32 × Mem))
  | 0, _, _ => none
  | n + 1, x9, M10 =>
    if x3 ≤ x9 then (
      some (Sum.inl (x9, M10)))
    else (
      ob (f_X7_goesBy x9 x4 M10) (fun M14 =>
      ob (f_X7_high a1 M14) (fun x15 =>
      ob (
        if x15 = a2 then (
          ob (f_X7_high a3 M14) (fun x16 =>
          if x16 = a4 then (
            some (1 : Int32))
          else (
            some (0 : Int32))))
        else (
          some (0 : Int32)))
       (fun x19 =>
      ob (f_X7_backs M14) (fun M21 =>
      if x19 = (0 : Int32) then (
        lq (x9 + (1 : Int32)) (fun x22 =>
        f_X7_fewest_L20 a1 a2 a3 a4 x3 x4 n x22 M21))
      else (
        lq (s1 M21 176 15 x9) (fun M23 =>
        some (Sum.inr (x4, M23)))))))))
def f_X7_fewest_L10 (a1 : Int32) (a2 : Int32) (a3 : Int32) (a4 : Int32) : Nat → Int32 → Int32 → Mem → Option ((Int32 × Int32 × Mem) ⊕ (Int32 × Mem))
  | 0, _, _, _ => none
  | n + 1, x3, x4, M5 =>
    if (6 : Int32) ≤ x4 then (
      some (Sum.inl (x3, x4, M5)))
    else (
      oeI2 (f_X7_fewest_L20 a1 a2 a3 a4 x3 x4 FU (0 : Int32) M5) (fun x11 M12 =>
      lq (x3 * (5 : Int32)) (fun x28 =>
      lq (x4 + (1 : Int32)) (fun x29 =>
      f_X7_fewest_L10 a1 a2 a3 a4 n x28 x29 M12))))
def f_X7_fewest (a1 : Int32) (a2 : Int32) (a3 : Int32) (a4 : Int32) (M : Mem) : Option (Int32 × Mem) :=
  ob (f_X7_asides M) (fun M2 =>
  oeT3 (f_X7_fewest_L10 a1 a2 a3 a4 FU (1 : Int32) (0 : Int32) M2) (fun x6 x7 M8 =>
  some (((-1001) : Int32), M8)))
set_option maxHeartbeats 4000000 in
set_option maxRecDepth 100000 in
theorem c_X7_fewest (l : Launch) (G : GT) (a1 : Int32) (a2 : Int32) (a3 : Int32) (a4 : Int32) (M : Mem) {r : Int32} {M' : Mem} (hk : f_X7_fewest a1 a2 a3 a4 M = some (r, M')) : CMi l G false yX7_fewest cX7_fewest 9 (some .int) 5 [.ref (ad G 176), .int a1, .int a2, .int a3, .int a4] M r M' := by
  unfold f_X7_fewest at hk
  refine CMi.of (by decide) (Nat.le_of_ble_eq_true rfl) ?_
  intro p e s m args below meth c Q hx hb hml hown hg hK hW hret ls hl
  have hl : lv_has ls 9 [(0, .ref (ad G 176)), (1, .int a1), (2, .int a2), (3, .int a3), (4, .int a4)] := hl
  refine lv_iconst (v := (1 : Int32)) hx hb dX7_fewest_0 (by decide) ?_
  refine lv_istore (lv' := [(5, .int (1 : Int32)), (0, .ref (ad G 176)), (1, .int a1), (2, .int a2), (3, .int a3), (4, .int a4)]) hx hb dX7_fewest_1 hl (by decide) rfl (fun ls hl => ?_)
  refine lv_aload_n hx hb dX7_fewest_3 rfl (lv_at hl 1 rfl) ?_
  replace hk := ob_s hk
  obtain ⟨M2, hx1, hk⟩ := hk
  refine cl_v (rn_V g_1104 g_1106 gs_87 g_9 g_1107 hd_X7_asides (Nat.le_of_ble_eq_true rfl) (ci := 7) rfl (inM kd_176 rfl) (shp7 kd_176) hx hb hml hown hg hK hW (As := []) (c_X7_asides l G M hx1) (by decide) rfl hl.1 rfl (Nat.le_of_ble_eq_true rfl) dX7_fewest_4) hW (fun H locs hW => ?_)
  refine lv_iconst (v := (0 : Int32)) hx hb dX7_fewest_7 (by decide) ?_
  refine lv_istore (lv' := [(6, .int (0 : Int32)), (5, .int (1 : Int32)), (0, .ref (ad G 176)), (1, .int a1), (2, .int a2), (3, .int a3), (4, .int a4)]) hx hb dX7_fewest_8 hl (by decide) rfl (fun ls hl => ?_)
  replace hk := oeT3_s hk
  obtain ⟨z34, hz33, hk_10⟩ := hk
  have KX10 : ∀ (x6 : Int32) (x7 : Int32) (M8 : Mem), z34 = Sum.inl (x6, x7, M8) → ∀ (H : Heap) (locs : List Loc) (ls : Array Slot), Ws G false M8 s H locs → lv_has ls 9 [] → Wx p l e 5 s m args below meth c Q H locs 97 ls [] := by
    intro x6 x7 M8 ez H locs ls hW hl
    have hk := hk_10.1 x6 x7 M8 ez
    refine lv_sipush (v := ((-1001) : Int32)) hx hb dX7_fewest_97 (by decide) ?_
    obtain ⟨rfl, rfl⟩ := sp2 hk
    exact hret _ _ _ _ hW dX7_fewest_100
  have LH10 : ∀ (n : Nat) (x3 : Int32) (x4 : Int32) (M5 : Mem) (H : Heap) (locs : List Loc) (ls : Array Slot), f_X7_fewest_L10 a1 a2 a3 a4 n x3 x4 M5 = some z34 → Ws G false M5 s H locs → lv_has ls 9 [(0, .ref (ad G 176)), (1, .int a1), (2, .int a2), (3, .int a3), (4, .int a4), (5, .int x3), (6, .int x4)] → Wx p l e 5 s m args below meth c Q H locs 10 ls [] := by
    clear hz33
    intro n
    induction n with
    | zero => intro _ _ _ _ _ _ hk; cases hk
    | succ n ih10 =>
      intro x3 x4 M5 H locs ls hk hW hl
      rw [f_X7_fewest_L10.eq_2] at hk
      refine lv_iload hx hb dX7_fewest_10 (lv_at hl 6 rfl) ?_
      refine lv_bipush (v := (6 : Int32)) hx hb dX7_fewest_12 (by decide) ?_
      refine lv_icmp_ge (tgt := 97) hx hb dX7_fewest_14 (by decide) (fun c32 => ?_) (fun c32 => ?_)
      · replace hk := ite_t hk c32
        obtain rfl := Option.some.inj hk
        exact KX10 _ _ _ rfl _ _ _ hW (lv_sub hl [] rfl)
      · replace hk := ite_f hk c32
        refine lv_iconst (v := (0 : Int32)) hx hb dX7_fewest_17 (by decide) ?_
        refine lv_istore (lv' := [(7, .int (0 : Int32)), (0, .ref (ad G 176)), (1, .int a1), (2, .int a2), (3, .int a3), (4, .int a4), (5, .int x3), (6, .int x4)]) hx hb dX7_fewest_18 hl (by decide) rfl (fun ls hl => ?_)
        replace hk := oeI2_s hk
        obtain ⟨z31, hz30, hk_20⟩ := hk
        have KX20 : ∀ (x11 : Int32) (M12 : Mem), z31 = Sum.inl (x11, M12) → ∀ (H : Heap) (locs : List Loc) (ls : Array Slot), Ws G false M12 s H locs → lv_has ls 9 [(0, .ref (ad G 176)), (1, .int a1), (2, .int a2), (3, .int a3), (4, .int a4), (5, .int x3), (6, .int x4)] → Wx p l e 5 s m args below meth c Q H locs 85 ls [] := by
          intro x11 M12 ez H locs ls hW hl
          have hk := hk_20.1 x11 M12 ez
          refine lv_iload hx hb dX7_fewest_85 (lv_at hl 5 rfl) ?_
          refine lv_iconst (v := (5 : Int32)) hx hb dX7_fewest_87 (by decide) ?_
          refine lv_imul hx hb dX7_fewest_88 ?_
          replace hk := lq_s hk
          obtain ⟨x28, ex28, hk⟩ := hk
          refine nm_i ex28 ?_
          refine lv_istore (lv' := [(5, .int x28), (0, .ref (ad G 176)), (1, .int a1), (2, .int a2), (3, .int a3), (4, .int a4), (6, .int x4)]) hx hb dX7_fewest_89 hl (by decide) rfl (fun ls hl => ?_)
          replace hk := lq_s hk
          obtain ⟨x29, ex29, hk⟩ := hk
          refine lv_iinc (v := x29) (lv' := [(6, .int x29), (5, .int x28), (0, .ref (ad G 176)), (1, .int a1), (2, .int a2), (3, .int a3), (4, .int a4)]) hx hb dX7_fewest_91 hl (k := 6) rfl (by rw [ex29]; rfl) (by decide) rfl (fun ls hl => ?_)
          refine lv_goto (tgt := 10) hx hb dX7_fewest_94 (by decide) ?_
          exact ih10 _ _ _ _ _ _ hk hW (lv_sub hl [2, 3, 4, 5, 6, 1, 0] rfl)
        have LH20 : ∀ (n : Nat) (x9 : Int32) (M10 : Mem) (H : Heap) (locs : List Loc) (ls : Array Slot), f_X7_fewest_L20 a1 a2 a3 a4 x3 x4 n x9 M10 = some z31 → Ws G false M10 s H locs → lv_has ls 9 [(0, .ref (ad G 176)), (1, .int a1), (2, .int a2), (3, .int a3), (4, .int a4), (5, .int x3), (6, .int x4), (7, .int x9)] → Wx p l e 5 s m args below meth c Q H locs 20 ls [] := by
          clear hz30
          intro n
          induction n with
          | zero => intro _ _ _ _ _ hk; cases hk
          | succ n ih20 =>
            intro x9 M10 H locs ls hk hW hl
            rw [f_X7_fewest_L20.eq_2] at hk
            refine lv_iload hx hb dX7_fewest_20 (lv_at hl 7 rfl) ?_
            refine lv_iload hx hb dX7_fewest_22 (lv_at hl 5 rfl) ?_
            refine lv_icmp_ge (tgt := 85) hx hb dX7_fewest_24 (by decide) (fun c27 => ?_) (fun c27 => ?_)
            · replace hk := ite_t hk c27
              obtain rfl := Option.some.inj hk
              exact KX20 _ _ rfl _ _ _ hW (lv_sub hl [0, 1, 2, 3, 4, 5, 6] rfl)
            · replace hk := ite_f hk c27
              refine lv_aload_n hx hb dX7_fewest_27 rfl (lv_at hl 0 rfl) ?_
              refine lv_iload hx hb dX7_fewest_28 (lv_at hl 7 rfl) ?_
              refine lv_iload hx hb dX7_fewest_30 (lv_at hl 6 rfl) ?_
              replace hk := ob_s hk
              obtain ⟨M14, hx13, hk⟩ := hk
              refine cl_v (rn_V g_1122 g_1124 gs_90 g_9 g_1125 hd_X7_goesBy (Nat.le_of_ble_eq_true rfl) (ci := 7) rfl (inM kd_176 rfl) (shp7 kd_176) hx hb hml hown hg hK hW (As := [.int x9, .int x4]) (c_X7_goesBy l G x9 x4 M10 hx13) (by decide) rfl hl.1 rfl (Nat.le_of_ble_eq_true rfl) dX7_fewest_32) hW (fun H locs hW => ?_)
              refine lv_aload_n hx hb dX7_fewest_35 rfl (lv_at hl 0 rfl) ?_
              refine lv_iload_n hx hb dX7_fewest_36 rfl (lv_at hl 1 rfl) ?_
              replace hk := ob_s hk
              obtain ⟨x15, hx15, hk⟩ := hk
              refine cl_i (rn_V g_1074 g_1076 gs_83 g_9 g_1077 hd_X7_high (Nat.le_of_ble_eq_true rfl) (ci := 7) rfl (inM kd_176 rfl) (shp7 kd_176) hx hb hml hown hg hK hW (As := [.int a1]) (c_X7_high l G a1 M14 hx15) (by decide) rfl hl.1 rfl (Nat.le_of_ble_eq_true rfl) dX7_fewest_37) hW (fun H locs hW => ?_)
              refine lv_iload_n hx hb dX7_fewest_40 rfl (lv_at hl 2 rfl) ?_
              replace hk := ob_s hk
              obtain ⟨x19, hr26, hk⟩ := hk
              have KJ25 : ∀ (H : Heap) (locs : List Loc) (ls : Array Slot), Ws G false M14 s H locs → lv_has ls 9 [(0, .ref (ad G 176)), (1, .int a1), (2, .int a2), (3, .int a3), (4, .int a4), (5, .int x3), (6, .int x4), (7, .int x9)] → Wx p l e 5 s m args below meth c Q H locs 59 ls [.int x19] := by
                intro H locs ls hW hl
                refine lv_istore (lv' := [(8, .int x19), (0, .ref (ad G 176)), (1, .int a1), (2, .int a2), (3, .int a3), (4, .int a4), (5, .int x3), (6, .int x4), (7, .int x9)]) hx hb dX7_fewest_59 hl (by decide) rfl (fun ls hl => ?_)
                refine lv_aload_n hx hb dX7_fewest_61 rfl (lv_at hl 1 rfl) ?_
                replace hk := ob_s hk
                obtain ⟨M21, hx20, hk⟩ := hk
                refine cl_v (rn_V g_1108 g_1110 gs_88 g_9 g_1111 hd_X7_backs (Nat.le_of_ble_eq_true rfl) (ci := 7) rfl (inM kd_176 rfl) (shp7 kd_176) hx hb hml hown hg hK hW (As := []) (c_X7_backs l G M14 hx20) (by decide) rfl hl.1 rfl (Nat.le_of_ble_eq_true rfl) dX7_fewest_62) hW (fun H locs hW => ?_)
                refine lv_iload hx hb dX7_fewest_65 (lv_at hl 0 rfl) ?_
                refine lv_if_eq (tgt := 79) hx hb dX7_fewest_67 (by decide) (fun c24 => ?_) (fun c24 => ?_)
                · replace hk := ite_t hk c24
                  replace hk := lq_s hk
                  obtain ⟨x22, ex22, hk⟩ := hk
                  refine lv_iinc (v := x22) (lv' := [(7, .int x22), (8, .int x19), (0, .ref (ad G 176)), (1, .int a1), (2, .int a2), (3, .int a3), (4, .int a4), (5, .int x3), (6, .int x4)]) hx hb dX7_fewest_79 hl (k := 8) rfl (by rw [ex22]; rfl) (by decide) rfl (fun ls hl => ?_)
                  refine lv_goto (tgt := 20) hx hb dX7_fewest_82 (by decide) ?_
                  exact ih20 _ _ _ _ _ hk hW (lv_sub hl [2, 3, 4, 5, 6, 7, 8, 0] rfl)
                · replace hk := ite_f hk c24
                  refine lv_aload_n hx hb dX7_fewest_70 rfl (lv_at hl 1 rfl) ?_
                  refine lv_iload hx hb dX7_fewest_71 (lv_at hl 8 rfl) ?_
                  replace hk := lq_s hk
                  obtain ⟨M23, eM23, hk⟩ := hk
                  refine pt_X7_232 hx hb hg hown hK hW kd_176 eM23 dX7_fewest_73 (fun H locs hW => ?_)
                  refine lv_iload hx hb dX7_fewest_76 (lv_at hl 7 rfl) ?_
                  obtain rfl := Option.some.inj hk
                  have hk := hk_20.2 _ rfl
                  obtain rfl := Option.some.inj hk
                  have hk := hk_10.2 _ rfl
                  obtain ⟨rfl, rfl⟩ := sp2 hk
                  exact hret _ _ _ _ hW dX7_fewest_78
              clear hk
              have hk := hr26
              clear hr26
              refine lv_icmp_ne (tgt := 58) hx hb dX7_fewest_41 (by decide) (fun c18 => ?_) (fun c18 => ?_)
              · replace hk := ite_f hk c18
                refine lv_iconst (v := (0 : Int32)) hx hb dX7_fewest_58 (by decide) ?_
                obtain rfl := Option.some.inj hk
                exact KJ25 _ _ _ hW (lv_sub hl [0, 1, 2, 3, 4, 5, 6, 7] rfl)
              · replace hk := ite_t hk c18
                refine lv_aload_n hx hb dX7_fewest_44 rfl (lv_at hl 0 rfl) ?_
                refine lv_iload_n hx hb dX7_fewest_45 rfl (lv_at hl 3 rfl) ?_
                replace hk := ob_s hk
                obtain ⟨x16, hx16, hk⟩ := hk
                refine cl_i (rn_V g_1074 g_1076 gs_83 g_9 g_1077 hd_X7_high (Nat.le_of_ble_eq_true rfl) (ci := 7) rfl (inM kd_176 rfl) (shp7 kd_176) hx hb hml hown hg hK hW (As := [.int a3]) (c_X7_high l G a3 M14 hx16) (by decide) rfl hl.1 rfl (Nat.le_of_ble_eq_true rfl) dX7_fewest_46) hW (fun H locs hW => ?_)
                refine lv_iload hx hb dX7_fewest_49 (lv_at hl 4 rfl) ?_
                refine lv_icmp_ne (tgt := 58) hx hb dX7_fewest_51 (by decide) (fun c17 => ?_) (fun c17 => ?_)
                · replace hk := ite_f hk c17
                  refine lv_iconst (v := (0 : Int32)) hx hb dX7_fewest_58 (by decide) ?_
                  obtain rfl := Option.some.inj hk
                  exact KJ25 _ _ _ hW (lv_sub hl [0, 1, 2, 3, 4, 5, 6, 7] rfl)
                · replace hk := ite_t hk c17
                  refine lv_iconst (v := (1 : Int32)) hx hb dX7_fewest_54 (by decide) ?_
                  refine lv_goto (tgt := 59) hx hb dX7_fewest_55 (by decide) ?_
                  obtain rfl := Option.some.inj hk
                  exact KJ25 _ _ _ hW (lv_sub hl [0, 1, 2, 3, 4, 5, 6, 7] rfl)
        exact LH20 FU _ _ _ _ _ hz30 hW (lv_sub hl [1, 2, 3, 4, 5, 6, 7, 0] rfl)
  exact LH10 FU _ _ _ _ _ _ hz33 hW (lv_sub hl [2, 3, 4, 5, 6, 1, 0] rfl)
def f_X7_few_L68 (a3 : Int32) : Nat → Int32 → Int32 → Int32 → Option (Int32)
  | 0, _, _, _ => none
  | n + 1, x11, x12, x13 =>
    if x13 < (0 : Int32) then (
      some x12)
    else (
      ob (
        if x13 = a3 then (
          some (x11 - x11 / (5 : Int32) * (5 : Int32)))
        else (
          some x12))
       (fun x16 =>
      lq (x11 / (5 : Int32)) (fun x17 =>
      lq (x13 + ((-1) : Int32)) (fun x18 =>
      f_X7_few_L68 a3 n x17 x16 x18))))
def f_X7_few (a1 : Int32) (a2 : Int32) (a3 : Int32) (M : Mem) : Option (Int32 × Mem) :=
  ob (f_X7_isLimb a1 M) (fun x1 =>
  if x1 = (0 : Int32) then (
    ob2 (f_X7_badTen M) (fun x2 M3 =>
    some (x2, M3)))
  else (
    if (f_X7_in a2.toInt64 ((-40) : Int64) (60 : Int64)) = (0 : Int32) then (
      ob2 (f_X7_badTen M) (fun x5 M6 =>
      some (x5, M6)))
    else (
      if ((-1) : Int32) ≤ a3 then (
        ob2 (f_X7_fewest a1 a2 a1 a2 M) (fun x7 M8 =>
        if x7 = ((-1001) : Int32) then (
          some (((-6) : Int32), M8))
        else (
          lq (M8.1 176 15) (fun x9 =>
          lq (x7 - (1 : Int32)) (fun x10 =>
          ob (f_X7_few_L68 a3 FU x9 (0 : Int32) x10) (fun x14 =>
          some ((f_X7_found x7 a3 x14), M8)))))))
      else (
        ob2 (f_X7_badTen M) (fun x26 M27 =>
        some (x26, M27))))))
set_option maxHeartbeats 4000000 in
set_option maxRecDepth 100000 in
theorem c_X7_few (l : Launch) (G : GT) (a1 : Int32) (a2 : Int32) (a3 : Int32) (M : Mem) {r : Int32} {M' : Mem} (hk : f_X7_few a1 a2 a3 M = some (r, M')) : CMi l G false yX7_few cX7_few 8 (some .int) 6 [.ref (ad G 176), .int a1, .int a2, .int a3] M r M' := by
  unfold f_X7_few at hk
  refine CMi.of (by decide) (Nat.le_of_ble_eq_true rfl) ?_
  intro p e s m args below meth c Q hx hb hml hown hg hK hW hret ls hl
  have hl : lv_has ls 8 [(0, .ref (ad G 176)), (1, .int a1), (2, .int a2), (3, .int a3)] := hl
  refine lv_aload_n hx hb dX7_few_0 rfl (lv_at hl 0 rfl) ?_
  refine lv_iload_n hx hb dX7_few_1 rfl (lv_at hl 1 rfl) ?_
  replace hk := ob_s hk
  obtain ⟨x1, hx1, hk⟩ := hk
  refine cl_i (rn_V g_1033 g_1035 gs_78 g_9 g_1036 hd_X7_isLimb (Nat.le_of_ble_eq_true rfl) (ci := 7) rfl (inM kd_176 rfl) (shp7 kd_176) hx hb hml hown hg hK hW (As := [.int a1]) (c_X7_isLimb l G a1 M hx1) (by decide) rfl hl.1 rfl (Nat.le_of_ble_eq_true rfl) dX7_few_2) hW (fun H locs hW => ?_)
  refine lv_if_eq (tgt := 27) hx hb dX7_few_5 (by decide) (fun c30 => ?_) (fun c30 => ?_)
  · replace hk := ite_t hk c30
    refine lv_aload_n hx hb dX7_few_27 rfl (lv_at hl 0 rfl) ?_
    replace hk := ob2_s hk
    obtain ⟨x2, M3, hx2, hk⟩ := hk
    refine cl_i (rn_V g_1092 g_1094 gs_85 g_9 g_1095 hd_X7_badTen (Nat.le_of_ble_eq_true rfl) (ci := 7) rfl (inM kd_176 rfl) (shp7 kd_176) hx hb hml hown hg hK hW (As := []) (c_X7_badTen l G M hx2) (by decide) rfl hl.1 rfl (Nat.le_of_ble_eq_true rfl) dX7_few_28) hW (fun H locs hW => ?_)
    obtain ⟨rfl, rfl⟩ := sp2 hk
    exact hret _ _ _ _ hW dX7_few_31
  · replace hk := ite_f hk c30
    refine lv_iload_n hx hb dX7_few_8 rfl (lv_at hl 2 rfl) ?_
    refine lv_i2l hx hb dX7_few_9 rfl ?_
    refine lv_ldc2 hx hb hown (hg _ g_1116) dX7_few_10 ?_
    refine lv_ldc2 hx hb hown (hg _ g_1117) dX7_few_13 ?_
    refine cl_i (rn_S g_921 g_922 g_9 g_923 hd_X7_in (Nat.le_of_ble_eq_true rfl) hx hb hml hown hg hK hW (As := [.long a2.toInt64, .long ((-40) : Int64), .long (60 : Int64)]) (c_X7_in l G a2.toInt64 ((-40) : Int64) (60 : Int64) M) (by decide) rfl hl.1 rfl (Nat.le_of_ble_eq_true rfl) dX7_few_16) hW (fun H locs hW => ?_)
    refine lv_if_eq (tgt := 27) hx hb dX7_few_19 (by decide) (fun c29 => ?_) (fun c29 => ?_)
    · replace hk := ite_t hk c29
      refine lv_aload_n hx hb dX7_few_27 rfl (lv_at hl 0 rfl) ?_
      replace hk := ob2_s hk
      obtain ⟨x5, M6, hx5, hk⟩ := hk
      refine cl_i (rn_V g_1092 g_1094 gs_85 g_9 g_1095 hd_X7_badTen (Nat.le_of_ble_eq_true rfl) (ci := 7) rfl (inM kd_176 rfl) (shp7 kd_176) hx hb hml hown hg hK hW (As := []) (c_X7_badTen l G M hx5) (by decide) rfl hl.1 rfl (Nat.le_of_ble_eq_true rfl) dX7_few_28) hW (fun H locs hW => ?_)
      obtain ⟨rfl, rfl⟩ := sp2 hk
      exact hret _ _ _ _ hW dX7_few_31
    · replace hk := ite_f hk c29
      refine lv_iload_n hx hb dX7_few_22 rfl (lv_at hl 3 rfl) ?_
      refine lv_iconst (v := ((-1) : Int32)) hx hb dX7_few_23 (by decide) ?_
      refine lv_icmp_ge (tgt := 32) hx hb dX7_few_24 (by decide) (fun c28 => ?_) (fun c28 => ?_)
      · replace hk := ite_t hk c28
        refine lv_aload_n hx hb dX7_few_32 rfl (lv_at hl 0 rfl) ?_
        refine lv_iload_n hx hb dX7_few_33 rfl (lv_at hl 1 rfl) ?_
        refine lv_iload_n hx hb dX7_few_34 rfl (lv_at hl 2 rfl) ?_
        refine lv_iload_n hx hb dX7_few_35 rfl (lv_at hl 1 rfl) ?_
        refine lv_iload_n hx hb dX7_few_36 rfl (lv_at hl 2 rfl) ?_
        replace hk := ob2_s hk
        obtain ⟨x7, M8, hx7, hk⟩ := hk
        refine cl_i (rn_V g_1118 g_1120 gs_89 g_9 g_1121 hd_X7_fewest (Nat.le_of_ble_eq_true rfl) (ci := 7) rfl (inM kd_176 rfl) (shp7 kd_176) hx hb hml hown hg hK hW (As := [.int a1, .int a2, .int a1, .int a2]) (c_X7_fewest l G a1 a2 a1 a2 M hx7) (by decide) rfl hl.1 rfl (Nat.le_of_ble_eq_true rfl) dX7_few_37) hW (fun H locs hW => ?_)
        refine lv_istore (lv' := [(4, .int x7), (0, .ref (ad G 176)), (1, .int a1), (2, .int a2), (3, .int a3)]) hx hb dX7_few_40 hl (by decide) rfl (fun ls hl => ?_)
        refine lv_iload hx hb dX7_few_42 (lv_at hl 0 rfl) ?_
        refine lv_sipush (v := ((-1001) : Int32)) hx hb dX7_few_44 (by decide) ?_
        refine lv_icmp_ne (tgt := 53) hx hb dX7_few_47 (by decide) (fun c25 => ?_) (fun c25 => ?_)
        · replace hk := ite_f hk c25
          refine lv_aload_n hx hb dX7_few_53 rfl (lv_at hl 1 rfl) ?_
          refine gt_X7_232 hx hb hg hown hK hW kd_176 dX7_few_54 ?_
          replace hk := lq_s hk
          obtain ⟨x9, ex9, hk⟩ := hk
          refine nm_i ex9 ?_
          refine lv_istore (lv' := [(5, .int x9), (4, .int x7), (0, .ref (ad G 176)), (1, .int a1), (2, .int a2), (3, .int a3)]) hx hb dX7_few_57 hl (by decide) rfl (fun ls hl => ?_)
          refine lv_iconst (v := (0 : Int32)) hx hb dX7_few_59 (by decide) ?_
          refine lv_istore (lv' := [(6, .int (0 : Int32)), (5, .int x9), (4, .int x7), (0, .ref (ad G 176)), (1, .int a1), (2, .int a2), (3, .int a3)]) hx hb dX7_few_60 hl (by decide) rfl (fun ls hl => ?_)
          refine lv_iload hx hb dX7_few_62 (lv_at hl 2 rfl) ?_
          refine lv_iconst (v := (1 : Int32)) hx hb dX7_few_64 (by decide) ?_
          refine lv_isub hx hb dX7_few_65 ?_
          replace hk := lq_s hk
          obtain ⟨x10, ex10, hk⟩ := hk
          refine nm_i ex10 ?_
          refine lv_istore (lv' := [(7, .int x10), (6, .int (0 : Int32)), (5, .int x9), (4, .int x7), (0, .ref (ad G 176)), (1, .int a1), (2, .int a2), (3, .int a3)]) hx hb dX7_few_66 hl (by decide) rfl (fun ls hl => ?_)
          replace hk := ob_s hk
          obtain ⟨x14, hz23, hk⟩ := hk
          have KX68 : ∀ (H : Heap) (locs : List Loc) (ls : Array Slot), Ws G false M8 s H locs → lv_has ls 8 [(0, .ref (ad G 176)), (3, .int a3), (4, .int x7), (6, .int x14)] → Wx p l e 6 s m args below meth c Q H locs 102 ls [] := by
            intro H locs ls hW hl
            refine lv_aload_n hx hb dX7_few_102 rfl (lv_at hl 0 rfl) ?_
            refine lv_iload hx hb dX7_few_103 (lv_at hl 2 rfl) ?_
            refine lv_iload_n hx hb dX7_few_105 rfl (lv_at hl 1 rfl) ?_
            refine lv_iload hx hb dX7_few_106 (lv_at hl 3 rfl) ?_
            refine cl_i (rn_V g_1096 g_1098 gs_86 g_9 g_1099 hd_X7_found (Nat.le_of_ble_eq_true rfl) (ci := 7) rfl (inM kd_176 rfl) (shp7 kd_176) hx hb hml hown hg hK hW (As := [.int x7, .int a3, .int x14]) (c_X7_found l G x7 a3 x14 M8) (by decide) rfl hl.1 rfl (Nat.le_of_ble_eq_true rfl) dX7_few_108) hW (fun H locs hW => ?_)
            obtain ⟨rfl, rfl⟩ := sp2 hk
            exact hret _ _ _ _ hW dX7_few_111
          clear hk
          have LH68 : ∀ (n : Nat) (x11 : Int32) (x12 : Int32) (x13 : Int32) (H : Heap) (locs : List Loc) (ls : Array Slot), f_X7_few_L68 a3 n x11 x12 x13 = some x14 → Ws G false M8 s H locs → lv_has ls 8 [(0, .ref (ad G 176)), (3, .int a3), (4, .int x7), (5, .int x11), (6, .int x12), (7, .int x13)] → Wx p l e 6 s m args below meth c Q H locs 68 ls [] := by
            clear hz23
            intro n
            induction n with
            | zero => intro _ _ _ _ _ _ hk; cases hk
            | succ n ih68 =>
              intro x11 x12 x13 H locs ls hk hW hl
              rw [f_X7_few_L68.eq_2] at hk
              refine lv_iload hx hb dX7_few_68 (lv_at hl 5 rfl) ?_
              refine lv_if_lt (tgt := 102) hx hb dX7_few_70 (by decide) (fun c21 => ?_) (fun c21 => ?_)
              · replace hk := ite_t hk c21
                obtain rfl := Option.some.inj hk
                exact KX68 _ _ _ hW (lv_sub hl [0, 1, 2, 4] rfl)
              · replace hk := ite_f hk c21
                refine lv_iload hx hb dX7_few_73 (lv_at hl 5 rfl) ?_
                refine lv_iload_n hx hb dX7_few_75 rfl (lv_at hl 1 rfl) ?_
                replace hk := ob_s hk
                obtain ⟨x16, hr20, hk⟩ := hk
                have KJ19 : ∀ (H : Heap) (locs : List Loc) (ls : Array Slot), Ws G false M8 s H locs → lv_has ls 8 [(0, .ref (ad G 176)), (3, .int a3), (4, .int x7), (5, .int x11), (7, .int x13)] → Wx p l e 6 s m args below meth c Q H locs 88 ls [.int x16] := by
                  intro H locs ls hW hl
                  refine lv_istore (lv' := [(6, .int x16), (0, .ref (ad G 176)), (3, .int a3), (4, .int x7), (5, .int x11), (7, .int x13)]) hx hb dX7_few_88 hl (by decide) rfl (fun ls hl => ?_)
                  refine lv_iload hx hb dX7_few_90 (lv_at hl 4 rfl) ?_
                  refine lv_iconst (v := (5 : Int32)) hx hb dX7_few_92 (by decide) ?_
                  refine lv_idiv hx hb dX7_few_93 (by decide) ?_
                  replace hk := lq_s hk
                  obtain ⟨x17, ex17, hk⟩ := hk
                  refine nm_i ex17 ?_
                  refine lv_istore (lv' := [(5, .int x17), (6, .int x16), (0, .ref (ad G 176)), (3, .int a3), (4, .int x7), (7, .int x13)]) hx hb dX7_few_94 hl (by decide) rfl (fun ls hl => ?_)
                  replace hk := lq_s hk
                  obtain ⟨x18, ex18, hk⟩ := hk
                  refine lv_iinc (v := x18) (lv' := [(7, .int x18), (5, .int x17), (6, .int x16), (0, .ref (ad G 176)), (3, .int a3), (4, .int x7)]) hx hb dX7_few_96 hl (k := 5) rfl (by rw [ex18]; rfl) (by decide) rfl (fun ls hl => ?_)
                  refine lv_goto (tgt := 68) hx hb dX7_few_99 (by decide) ?_
                  exact ih68 _ _ _ _ _ _ hk hW (lv_sub hl [3, 4, 5, 1, 2, 0] rfl)
                clear hk
                have hk := hr20
                clear hr20
                refine lv_icmp_ne (tgt := 86) hx hb dX7_few_76 (by decide) (fun c15 => ?_) (fun c15 => ?_)
                · replace hk := ite_f hk c15
                  refine lv_iload hx hb dX7_few_86 (lv_at hl 4 rfl) ?_
                  obtain rfl := Option.some.inj hk
                  exact KJ19 _ _ _ hW (lv_sub hl [0, 1, 2, 3, 5] rfl)
                · replace hk := ite_t hk c15
                  refine lv_iload hx hb dX7_few_79 (lv_at hl 3 rfl) ?_
                  refine lv_iconst (v := (5 : Int32)) hx hb dX7_few_81 (by decide) ?_
                  refine lv_irem hx hb dX7_few_82 (by decide) ?_
                  refine lv_goto (tgt := 88) hx hb dX7_few_83 (by decide) ?_
                  obtain rfl := Option.some.inj hk
                  exact KJ19 _ _ _ hW (lv_sub hl [0, 1, 2, 3, 5] rfl)
          exact LH68 FU _ _ _ _ _ _ hz23 hW (lv_sub hl [4, 7, 3, 2, 1, 0] rfl)
        · replace hk := ite_t hk c25
          refine lv_bipush (v := ((-6) : Int32)) hx hb dX7_few_50 (by decide) ?_
          obtain ⟨rfl, rfl⟩ := sp2 hk
          exact hret _ _ _ _ hW dX7_few_52
      · replace hk := ite_f hk c28
        refine lv_aload_n hx hb dX7_few_27 rfl (lv_at hl 0 rfl) ?_
        replace hk := ob2_s hk
        obtain ⟨x26, M27, hx26, hk⟩ := hk
        refine cl_i (rn_V g_1092 g_1094 gs_85 g_9 g_1095 hd_X7_badTen (Nat.le_of_ble_eq_true rfl) (ci := 7) rfl (inM kd_176 rfl) (shp7 kd_176) hx hb hml hown hg hK hW (As := []) (c_X7_badTen l G M hx26) (by decide) rfl hl.1 rfl (Nat.le_of_ble_eq_true rfl) dX7_few_28) hW (fun H locs hW => ?_)
        obtain ⟨rfl, rfl⟩ := sp2 hk
        exact hret _ _ _ _ hW dX7_few_31
def f_X7_both (a1 : Int32) (a2 : Int32) (a3 : Int32) (a4 : Int32) (M : Mem) : Option (Int32 × Mem) :=
  ob (f_X7_isLimb a1 M) (fun x1 =>
  if x1 = (0 : Int32) then (
    ob2 (f_X7_bad M) (fun x2 M3 =>
    some (x2, M3)))
  else (
    ob (f_X7_isLimb a3 M) (fun x4 =>
    if x4 = (0 : Int32) then (
      ob2 (f_X7_bad M) (fun x5 M6 =>
      some (x5, M6)))
    else (
      if a1 = a3 then (
        ob2 (f_X7_bad M) (fun x7 M8 =>
        some (x7, M8)))
      else (
        if (f_X7_in a2.toInt64 ((-40) : Int64) (60 : Int64)) = (0 : Int32) then (
          ob2 (f_X7_bad M) (fun x10 M11 =>
          some (x10, M11)))
        else (
          if (f_X7_in a4.toInt64 ((-40) : Int64) (60 : Int64)) = (0 : Int32) then (
            ob2 (f_X7_bad M) (fun x15 M16 =>
            some (x15, M16)))
          else (
            ob2 (f_X7_fewest a1 a2 a3 a4 M) (fun x13 M14 =>
            some (x13, M14)))))))))
set_option maxHeartbeats 4000000 in
set_option maxRecDepth 100000 in
theorem c_X7_both (l : Launch) (G : GT) (a1 : Int32) (a2 : Int32) (a3 : Int32) (a4 : Int32) (M : Mem) {r : Int32} {M' : Mem} (hk : f_X7_both a1 a2 a3 a4 M = some (r, M')) : CMi l G false yX7_both cX7_both 5 (some .int) 6 [.ref (ad G 176), .int a1, .int a2, .int a3, .int a4] M r M' := by
  unfold f_X7_both at hk
  refine CMi.of (by decide) (Nat.le_of_ble_eq_true rfl) ?_
  intro p e s m args below meth c Q hx hb hml hown hg hK hW hret ls hl
  have hl : lv_has ls 5 [(0, .ref (ad G 176)), (1, .int a1), (2, .int a2), (3, .int a3), (4, .int a4)] := hl
  refine lv_aload_n hx hb dX7_both_0 rfl (lv_at hl 0 rfl) ?_
  refine lv_iload_n hx hb dX7_both_1 rfl (lv_at hl 1 rfl) ?_
  replace hk := ob_s hk
  obtain ⟨x1, hx1, hk⟩ := hk
  refine cl_i (rn_V g_1033 g_1035 gs_78 g_9 g_1036 hd_X7_isLimb (Nat.le_of_ble_eq_true rfl) (ci := 7) rfl (inM kd_176 rfl) (shp7 kd_176) hx hb hml hown hg hK hW (As := [.int a1]) (c_X7_isLimb l G a1 M hx1) (by decide) rfl hl.1 rfl (Nat.le_of_ble_eq_true rfl) dX7_both_2) hW (fun H locs hW => ?_)
  refine lv_if_eq (tgt := 50) hx hb dX7_both_5 (by decide) (fun c21 => ?_) (fun c21 => ?_)
  · replace hk := ite_t hk c21
    refine lv_aload_n hx hb dX7_both_50 rfl (lv_at hl 0 rfl) ?_
    replace hk := ob2_s hk
    obtain ⟨x2, M3, hx2, hk⟩ := hk
    refine cl_i (rn_V g_924 g_926 gs_62 g_9 g_927 hd_X7_bad (Nat.le_of_ble_eq_true rfl) (ci := 7) rfl (inM kd_176 rfl) (shp7 kd_176) hx hb hml hown hg hK hW (As := []) (c_X7_bad l G M hx2) (by decide) rfl hl.1 rfl (Nat.le_of_ble_eq_true rfl) dX7_both_51) hW (fun H locs hW => ?_)
    obtain ⟨rfl, rfl⟩ := sp2 hk
    exact hret _ _ _ _ hW dX7_both_54
  · replace hk := ite_f hk c21
    refine lv_aload_n hx hb dX7_both_8 rfl (lv_at hl 0 rfl) ?_
    refine lv_iload_n hx hb dX7_both_9 rfl (lv_at hl 3 rfl) ?_
    replace hk := ob_s hk
    obtain ⟨x4, hx4, hk⟩ := hk
    refine cl_i (rn_V g_1033 g_1035 gs_78 g_9 g_1036 hd_X7_isLimb (Nat.le_of_ble_eq_true rfl) (ci := 7) rfl (inM kd_176 rfl) (shp7 kd_176) hx hb hml hown hg hK hW (As := [.int a3]) (c_X7_isLimb l G a3 M hx4) (by decide) rfl hl.1 rfl (Nat.le_of_ble_eq_true rfl) dX7_both_10) hW (fun H locs hW => ?_)
    refine lv_if_eq (tgt := 50) hx hb dX7_both_13 (by decide) (fun c20 => ?_) (fun c20 => ?_)
    · replace hk := ite_t hk c20
      refine lv_aload_n hx hb dX7_both_50 rfl (lv_at hl 0 rfl) ?_
      replace hk := ob2_s hk
      obtain ⟨x5, M6, hx5, hk⟩ := hk
      refine cl_i (rn_V g_924 g_926 gs_62 g_9 g_927 hd_X7_bad (Nat.le_of_ble_eq_true rfl) (ci := 7) rfl (inM kd_176 rfl) (shp7 kd_176) hx hb hml hown hg hK hW (As := []) (c_X7_bad l G M hx5) (by decide) rfl hl.1 rfl (Nat.le_of_ble_eq_true rfl) dX7_both_51) hW (fun H locs hW => ?_)
      obtain ⟨rfl, rfl⟩ := sp2 hk
      exact hret _ _ _ _ hW dX7_both_54
    · replace hk := ite_f hk c20
      refine lv_iload_n hx hb dX7_both_16 rfl (lv_at hl 1 rfl) ?_
      refine lv_iload_n hx hb dX7_both_17 rfl (lv_at hl 3 rfl) ?_
      refine lv_icmp_eq (tgt := 50) hx hb dX7_both_18 (by decide) (fun c19 => ?_) (fun c19 => ?_)
      · replace hk := ite_t hk c19
        refine lv_aload_n hx hb dX7_both_50 rfl (lv_at hl 0 rfl) ?_
        replace hk := ob2_s hk
        obtain ⟨x7, M8, hx7, hk⟩ := hk
        refine cl_i (rn_V g_924 g_926 gs_62 g_9 g_927 hd_X7_bad (Nat.le_of_ble_eq_true rfl) (ci := 7) rfl (inM kd_176 rfl) (shp7 kd_176) hx hb hml hown hg hK hW (As := []) (c_X7_bad l G M hx7) (by decide) rfl hl.1 rfl (Nat.le_of_ble_eq_true rfl) dX7_both_51) hW (fun H locs hW => ?_)
        obtain ⟨rfl, rfl⟩ := sp2 hk
        exact hret _ _ _ _ hW dX7_both_54
      · replace hk := ite_f hk c19
        refine lv_iload_n hx hb dX7_both_21 rfl (lv_at hl 2 rfl) ?_
        refine lv_i2l hx hb dX7_both_22 rfl ?_
        refine lv_ldc2 hx hb hown (hg _ g_1116) dX7_both_23 ?_
        refine lv_ldc2 hx hb hown (hg _ g_1117) dX7_both_26 ?_
        refine cl_i (rn_S g_921 g_922 g_9 g_923 hd_X7_in (Nat.le_of_ble_eq_true rfl) hx hb hml hown hg hK hW (As := [.long a2.toInt64, .long ((-40) : Int64), .long (60 : Int64)]) (c_X7_in l G a2.toInt64 ((-40) : Int64) (60 : Int64) M) (by decide) rfl hl.1 rfl (Nat.le_of_ble_eq_true rfl) dX7_both_29) hW (fun H locs hW => ?_)
        refine lv_if_eq (tgt := 50) hx hb dX7_both_32 (by decide) (fun c18 => ?_) (fun c18 => ?_)
        · replace hk := ite_t hk c18
          refine lv_aload_n hx hb dX7_both_50 rfl (lv_at hl 0 rfl) ?_
          replace hk := ob2_s hk
          obtain ⟨x10, M11, hx10, hk⟩ := hk
          refine cl_i (rn_V g_924 g_926 gs_62 g_9 g_927 hd_X7_bad (Nat.le_of_ble_eq_true rfl) (ci := 7) rfl (inM kd_176 rfl) (shp7 kd_176) hx hb hml hown hg hK hW (As := []) (c_X7_bad l G M hx10) (by decide) rfl hl.1 rfl (Nat.le_of_ble_eq_true rfl) dX7_both_51) hW (fun H locs hW => ?_)
          obtain ⟨rfl, rfl⟩ := sp2 hk
          exact hret _ _ _ _ hW dX7_both_54
        · replace hk := ite_f hk c18
          refine lv_iload hx hb dX7_both_35 (lv_at hl 4 rfl) ?_
          refine lv_i2l hx hb dX7_both_37 rfl ?_
          refine lv_ldc2 hx hb hown (hg _ g_1116) dX7_both_38 ?_
          refine lv_ldc2 hx hb hown (hg _ g_1117) dX7_both_41 ?_
          refine cl_i (rn_S g_921 g_922 g_9 g_923 hd_X7_in (Nat.le_of_ble_eq_true rfl) hx hb hml hown hg hK hW (As := [.long a4.toInt64, .long ((-40) : Int64), .long (60 : Int64)]) (c_X7_in l G a4.toInt64 ((-40) : Int64) (60 : Int64) M) (by decide) rfl hl.1 rfl (Nat.le_of_ble_eq_true rfl) dX7_both_44) hW (fun H locs hW => ?_)
          refine lv_if_ne (tgt := 55) hx hb dX7_both_47 (by decide) (fun c17 => ?_) (fun c17 => ?_)
          · replace hk := ite_f hk c17
            refine lv_aload_n hx hb dX7_both_55 rfl (lv_at hl 0 rfl) ?_
            refine lv_iload_n hx hb dX7_both_56 rfl (lv_at hl 1 rfl) ?_
            refine lv_iload_n hx hb dX7_both_57 rfl (lv_at hl 2 rfl) ?_
            refine lv_iload_n hx hb dX7_both_58 rfl (lv_at hl 3 rfl) ?_
            refine lv_iload hx hb dX7_both_59 (lv_at hl 4 rfl) ?_
            replace hk := ob2_s hk
            obtain ⟨x13, M14, hx13, hk⟩ := hk
            refine cl_i (rn_V g_1118 g_1120 gs_89 g_9 g_1121 hd_X7_fewest (Nat.le_of_ble_eq_true rfl) (ci := 7) rfl (inM kd_176 rfl) (shp7 kd_176) hx hb hml hown hg hK hW (As := [.int a1, .int a2, .int a3, .int a4]) (c_X7_fewest l G a1 a2 a3 a4 M hx13) (by decide) rfl hl.1 rfl (Nat.le_of_ble_eq_true rfl) dX7_both_61) hW (fun H locs hW => ?_)
            obtain ⟨rfl, rfl⟩ := sp2 hk
            exact hret _ _ _ _ hW dX7_both_64
          · replace hk := ite_t hk c17
            refine lv_aload_n hx hb dX7_both_50 rfl (lv_at hl 0 rfl) ?_
            replace hk := ob2_s hk
            obtain ⟨x15, M16, hx15, hk⟩ := hk
            refine cl_i (rn_V g_924 g_926 gs_62 g_9 g_927 hd_X7_bad (Nat.le_of_ble_eq_true rfl) (ci := 7) rfl (inM kd_176 rfl) (shp7 kd_176) hx hb hml hown hg hK hW (As := []) (c_X7_bad l G M hx15) (by decide) rfl hl.1 rfl (Nat.le_of_ble_eq_true rfl) dX7_both_51) hW (fun H locs hW => ?_)
            obtain ⟨rfl, rfl⟩ := sp2 hk
            exact hret _ _ _ _ hW dX7_both_54
def f_X7_off (a0 : Int32) (a1 : Int32) : Int32 :=
  if a1 ≤ a0 then (
    (a0 - a1))
  else (
    (a1 - a0))
set_option maxHeartbeats 4000000 in
set_option maxRecDepth 100000 in
theorem c_X7_off (l : Launch) (G : GT) (a0 : Int32) (a1 : Int32) (M : Mem) : CMi l G false yX7_off cX7_off 2 (some .int) 0 [.int a0, .int a1] M (f_X7_off a0 a1) M := by
  obtain ⟨r, hk⟩ : ∃ r, f_X7_off a0 a1 = r := ⟨_, rfl⟩
  rw [hk]
  unfold f_X7_off at hk
  refine CMi.of (by decide) (Nat.le_of_ble_eq_true rfl) ?_
  intro p e s m args below meth c Q hx hb hml hown hg hK hW hret ls hl
  have hl : lv_has ls 2 [(0, .int a0), (1, .int a1)] := hl
  refine lv_iload_n hx hb dX7_off_0 rfl (lv_at hl 0 rfl) ?_
  refine lv_iload_n hx hb dX7_off_1 rfl (lv_at hl 1 rfl) ?_
  refine lv_icmp_ge (tgt := 11) hx hb dX7_off_2 (by decide) (fun c1 => ?_) (fun c1 => ?_)
  · replace hk := ite_t hk c1
    refine lv_iload_n hx hb dX7_off_11 rfl (lv_at hl 0 rfl) ?_
    refine lv_iload_n hx hb dX7_off_12 rfl (lv_at hl 1 rfl) ?_
    refine lv_isub hx hb dX7_off_13 ?_
    subst hk
    exact hret _ _ _ _ hW dX7_off_14
  · replace hk := ite_f hk c1
    refine lv_iload_n hx hb dX7_off_5 rfl (lv_at hl 1 rfl) ?_
    refine lv_iload_n hx hb dX7_off_6 rfl (lv_at hl 0 rfl) ?_
    refine lv_isub hx hb dX7_off_7 ?_
    refine lv_goto (tgt := 14) hx hb dX7_off_8 (by decide) ?_
    subst hk
    exact hret _ _ _ _ hW dX7_off_14
def f_X7_hole_L43 (a1 : Int32) (a2 : Int32) (M : Mem) : Nat → Int32 → Int32 → Option (Int32)
  | 0, _, _ => none
  | n + 1, x8, x9 =>
    if (9 : Int32) ≤ x9 then (
      some x8)
    else (
      ob (f_X7_highIn a1 x9 M) (fun x11 =>
      ob (f_X7_highIn a1 x8 M) (fun x13 =>
      lq (
        if (f_X7_off x13 a2) ≤ (f_X7_off x11 a2) then (
          x8)
        else (
          x9))
       (fun x16 =>
      lq (x9 + (1 : Int32)) (fun x17 =>
      f_X7_hole_L43 a1 a2 M n x16 x17)))))
def f_X7_hole (a1 : Int32) (a2 : Int32) (a3 : Int32) (M : Mem) : Option (Int32 × Mem) :=
  ob (f_X7_isLimb a1 M) (fun x1 =>
  if x1 = (0 : Int32) then (
    ob2 (f_X7_bad M) (fun x2 M3 =>
    some (x2, M3)))
  else (
    if (f_X7_in a2.toInt64 ((-40) : Int64) (60 : Int64)) = (0 : Int32) then (
      ob2 (f_X7_bad M) (fun x5 M6 =>
      some (x5, M6)))
    else (
      if (f_X7_in a3.toInt64 (0 : Int64) (1 : Int64)) = (0 : Int32) then (
        ob2 (f_X7_bad M) (fun x26 M27 =>
        some (x26, M27)))
      else (
        ob (f_X7_hole_L43 a1 a2 M FU (0 : Int32) (1 : Int32)) (fun x10 =>
        if a3 = (0 : Int32) then (
          some (x10, M))
        else (
          ob (f_X7_highIn a1 x10 M) (fun x21 =>
          some ((f_X7_off x21 a2), M))))))))
set_option maxHeartbeats 4000000 in
set_option maxRecDepth 100000 in
theorem c_X7_hole (l : Launch) (G : GT) (a1 : Int32) (a2 : Int32) (a3 : Int32) (M : Mem) {r : Int32} {M' : Mem} (hk : f_X7_hole a1 a2 a3 M = some (r, M')) : CMi l G false yX7_hole cX7_hole 6 (some .int) 3 [.ref (ad G 176), .int a1, .int a2, .int a3] M r M' := by
  unfold f_X7_hole at hk
  refine CMi.of (by decide) (Nat.le_of_ble_eq_true rfl) ?_
  intro p e s m args below meth c Q hx hb hml hown hg hK hW hret ls hl
  have hl : lv_has ls 6 [(0, .ref (ad G 176)), (1, .int a1), (2, .int a2), (3, .int a3)] := hl
  refine lv_aload_n hx hb dX7_hole_0 rfl (lv_at hl 0 rfl) ?_
  refine lv_iload_n hx hb dX7_hole_1 rfl (lv_at hl 1 rfl) ?_
  replace hk := ob_s hk
  obtain ⟨x1, hx1, hk⟩ := hk
  refine cl_i (rn_V g_1033 g_1035 gs_78 g_9 g_1036 hd_X7_isLimb (Nat.le_of_ble_eq_true rfl) (ci := 7) rfl (inM kd_176 rfl) (shp7 kd_176) hx hb hml hown hg hK hW (As := [.int a1]) (c_X7_isLimb l G a1 M hx1) (by decide) rfl hl.1 rfl (Nat.le_of_ble_eq_true rfl) dX7_hole_2) hW (fun H locs hW => ?_)
  refine lv_if_eq (tgt := 32) hx hb dX7_hole_5 (by decide) (fun c30 => ?_) (fun c30 => ?_)
  · replace hk := ite_t hk c30
    refine lv_aload_n hx hb dX7_hole_32 rfl (lv_at hl 0 rfl) ?_
    replace hk := ob2_s hk
    obtain ⟨x2, M3, hx2, hk⟩ := hk
    refine cl_i (rn_V g_924 g_926 gs_62 g_9 g_927 hd_X7_bad (Nat.le_of_ble_eq_true rfl) (ci := 7) rfl (inM kd_176 rfl) (shp7 kd_176) hx hb hml hown hg hK hW (As := []) (c_X7_bad l G M hx2) (by decide) rfl hl.1 rfl (Nat.le_of_ble_eq_true rfl) dX7_hole_33) hW (fun H locs hW => ?_)
    obtain ⟨rfl, rfl⟩ := sp2 hk
    exact hret _ _ _ _ hW dX7_hole_36
  · replace hk := ite_f hk c30
    refine lv_iload_n hx hb dX7_hole_8 rfl (lv_at hl 2 rfl) ?_
    refine lv_i2l hx hb dX7_hole_9 rfl ?_
    refine lv_ldc2 hx hb hown (hg _ g_1116) dX7_hole_10 ?_
    refine lv_ldc2 hx hb hown (hg _ g_1117) dX7_hole_13 ?_
    refine cl_i (rn_S g_921 g_922 g_9 g_923 hd_X7_in (Nat.le_of_ble_eq_true rfl) hx hb hml hown hg hK hW (As := [.long a2.toInt64, .long ((-40) : Int64), .long (60 : Int64)]) (c_X7_in l G a2.toInt64 ((-40) : Int64) (60 : Int64) M) (by decide) rfl hl.1 rfl (Nat.le_of_ble_eq_true rfl) dX7_hole_16) hW (fun H locs hW => ?_)
    refine lv_if_eq (tgt := 32) hx hb dX7_hole_19 (by decide) (fun c29 => ?_) (fun c29 => ?_)
    · replace hk := ite_t hk c29
      refine lv_aload_n hx hb dX7_hole_32 rfl (lv_at hl 0 rfl) ?_
      replace hk := ob2_s hk
      obtain ⟨x5, M6, hx5, hk⟩ := hk
      refine cl_i (rn_V g_924 g_926 gs_62 g_9 g_927 hd_X7_bad (Nat.le_of_ble_eq_true rfl) (ci := 7) rfl (inM kd_176 rfl) (shp7 kd_176) hx hb hml hown hg hK hW (As := []) (c_X7_bad l G M hx5) (by decide) rfl hl.1 rfl (Nat.le_of_ble_eq_true rfl) dX7_hole_33) hW (fun H locs hW => ?_)
      obtain ⟨rfl, rfl⟩ := sp2 hk
      exact hret _ _ _ _ hW dX7_hole_36
    · replace hk := ite_f hk c29
      refine lv_iload_n hx hb dX7_hole_22 rfl (lv_at hl 3 rfl) ?_
      refine lv_i2l hx hb dX7_hole_23 rfl ?_
      refine lv_lconst (v := (0 : Int64)) hx hb dX7_hole_24 (by decide) ?_
      refine lv_lconst (v := (1 : Int64)) hx hb dX7_hole_25 (by decide) ?_
      refine cl_i (rn_S g_921 g_922 g_9 g_923 hd_X7_in (Nat.le_of_ble_eq_true rfl) hx hb hml hown hg hK hW (As := [.long a3.toInt64, .long (0 : Int64), .long (1 : Int64)]) (c_X7_in l G a3.toInt64 (0 : Int64) (1 : Int64) M) (by decide) rfl hl.1 rfl (Nat.le_of_ble_eq_true rfl) dX7_hole_26) hW (fun H locs hW => ?_)
      refine lv_if_ne (tgt := 37) hx hb dX7_hole_29 (by decide) (fun c28 => ?_) (fun c28 => ?_)
      · replace hk := ite_f hk c28
        refine lv_iconst (v := (0 : Int32)) hx hb dX7_hole_37 (by decide) ?_
        refine lv_istore (lv' := [(4, .int (0 : Int32)), (0, .ref (ad G 176)), (1, .int a1), (2, .int a2), (3, .int a3)]) hx hb dX7_hole_38 hl (by decide) rfl (fun ls hl => ?_)
        refine lv_iconst (v := (1 : Int32)) hx hb dX7_hole_40 (by decide) ?_
        refine lv_istore (lv' := [(5, .int (1 : Int32)), (4, .int (0 : Int32)), (0, .ref (ad G 176)), (1, .int a1), (2, .int a2), (3, .int a3)]) hx hb dX7_hole_41 hl (by decide) rfl (fun ls hl => ?_)
        replace hk := ob_s hk
        obtain ⟨x10, hz24, hk⟩ := hk
        have KX43 : ∀ (H : Heap) (locs : List Loc) (ls : Array Slot), Ws G false M s H locs → lv_has ls 6 [(0, .ref (ad G 176)), (1, .int a1), (2, .int a2), (3, .int a3), (4, .int x10)] → Wx p l e 3 s m args below meth c Q H locs 90 ls [] := by
          intro H locs ls hW hl
          refine lv_iload_n hx hb dX7_hole_90 rfl (lv_at hl 3 rfl) ?_
          refine lv_if_ne (tgt := 99) hx hb dX7_hole_91 (by decide) (fun c23 => ?_) (fun c23 => ?_)
          · replace hk := ite_f hk c23
            refine lv_aload_n hx hb dX7_hole_99 rfl (lv_at hl 0 rfl) ?_
            refine lv_iload_n hx hb dX7_hole_100 rfl (lv_at hl 1 rfl) ?_
            refine lv_iload hx hb dX7_hole_101 (lv_at hl 4 rfl) ?_
            replace hk := ob_s hk
            obtain ⟨x21, hx21, hk⟩ := hk
            refine cl_i (rn_V g_1078 g_1080 gs_84 g_9 g_1081 hd_X7_highIn (Nat.le_of_ble_eq_true rfl) (ci := 7) rfl (inM kd_176 rfl) (shp7 kd_176) hx hb hml hown hg hK hW (As := [.int a1, .int x10]) (c_X7_highIn l G a1 x10 M hx21) (by decide) rfl hl.1 rfl (Nat.le_of_ble_eq_true rfl) dX7_hole_103) hW (fun H locs hW => ?_)
            refine lv_iload_n hx hb dX7_hole_106 rfl (lv_at hl 2 rfl) ?_
            refine cl_i (rn_S g_1134 g_1135 g_9 g_1136 hd_X7_off (Nat.le_of_ble_eq_true rfl) hx hb hml hown hg hK hW (As := [.int x21, .int a2]) (c_X7_off l G x21 a2 M) (by decide) rfl hl.1 rfl (Nat.le_of_ble_eq_true rfl) dX7_hole_107) hW (fun H locs hW => ?_)
            obtain ⟨rfl, rfl⟩ := sp2 hk
            exact hret _ _ _ _ hW dX7_hole_110
          · replace hk := ite_t hk c23
            refine lv_iload hx hb dX7_hole_94 (lv_at hl 4 rfl) ?_
            refine lv_goto (tgt := 110) hx hb dX7_hole_96 (by decide) ?_
            obtain ⟨rfl, rfl⟩ := sp2 hk
            exact hret _ _ _ _ hW dX7_hole_110
        clear hk
        have LH43 : ∀ (n : Nat) (x8 : Int32) (x9 : Int32) (H : Heap) (locs : List Loc) (ls : Array Slot), f_X7_hole_L43 a1 a2 M n x8 x9 = some x10 → Ws G false M s H locs → lv_has ls 6 [(0, .ref (ad G 176)), (1, .int a1), (2, .int a2), (3, .int a3), (4, .int x8), (5, .int x9)] → Wx p l e 3 s m args below meth c Q H locs 43 ls [] := by
          clear hz24
          intro n
          induction n with
          | zero => intro _ _ _ _ _ hk; cases hk
          | succ n ih43 =>
            intro x8 x9 H locs ls hk hW hl
            rw [f_X7_hole_L43.eq_2] at hk
            refine lv_iload hx hb dX7_hole_43 (lv_at hl 5 rfl) ?_
            refine lv_bipush (v := (9 : Int32)) hx hb dX7_hole_45 (by decide) ?_
            refine lv_icmp_ge (tgt := 90) hx hb dX7_hole_47 (by decide) (fun c20 => ?_) (fun c20 => ?_)
            · replace hk := ite_t hk c20
              obtain rfl := Option.some.inj hk
              exact KX43 _ _ _ hW (lv_sub hl [0, 1, 2, 3, 4] rfl)
            · replace hk := ite_f hk c20
              refine lv_aload_n hx hb dX7_hole_50 rfl (lv_at hl 0 rfl) ?_
              refine lv_iload_n hx hb dX7_hole_51 rfl (lv_at hl 1 rfl) ?_
              refine lv_iload hx hb dX7_hole_52 (lv_at hl 5 rfl) ?_
              replace hk := ob_s hk
              obtain ⟨x11, hx11, hk⟩ := hk
              refine cl_i (rn_V g_1078 g_1080 gs_84 g_9 g_1081 hd_X7_highIn (Nat.le_of_ble_eq_true rfl) (ci := 7) rfl (inM kd_176 rfl) (shp7 kd_176) hx hb hml hown hg hK hW (As := [.int a1, .int x9]) (c_X7_highIn l G a1 x9 M hx11) (by decide) rfl hl.1 rfl (Nat.le_of_ble_eq_true rfl) dX7_hole_54) hW (fun H locs hW => ?_)
              refine lv_iload_n hx hb dX7_hole_57 rfl (lv_at hl 2 rfl) ?_
              refine cl_i (rn_S g_1134 g_1135 g_9 g_1136 hd_X7_off (Nat.le_of_ble_eq_true rfl) hx hb hml hown hg hK hW (As := [.int x11, .int a2]) (c_X7_off l G x11 a2 M) (by decide) rfl hl.1 rfl (Nat.le_of_ble_eq_true rfl) dX7_hole_58) hW (fun H locs hW => ?_)
              refine lv_aload_n hx hb dX7_hole_61 rfl (lv_at hl 0 rfl) ?_
              refine lv_iload_n hx hb dX7_hole_62 rfl (lv_at hl 1 rfl) ?_
              refine lv_iload hx hb dX7_hole_63 (lv_at hl 4 rfl) ?_
              replace hk := ob_s hk
              obtain ⟨x13, hx13, hk⟩ := hk
              refine cl_i (rn_V g_1078 g_1080 gs_84 g_9 g_1081 hd_X7_highIn (Nat.le_of_ble_eq_true rfl) (ci := 7) rfl (inM kd_176 rfl) (shp7 kd_176) hx hb hml hown hg hK hW (As := [.int a1, .int x8]) (c_X7_highIn l G a1 x8 M hx13) (by decide) rfl hl.1 rfl (Nat.le_of_ble_eq_true rfl) dX7_hole_65) hW (fun H locs hW => ?_)
              refine lv_iload_n hx hb dX7_hole_68 rfl (lv_at hl 2 rfl) ?_
              refine cl_i (rn_S g_1134 g_1135 g_9 g_1136 hd_X7_off (Nat.le_of_ble_eq_true rfl) hx hb hml hown hg hK hW (As := [.int x13, .int a2]) (c_X7_off l G x13 a2 M) (by decide) rfl hl.1 rfl (Nat.le_of_ble_eq_true rfl) dX7_hole_69) hW (fun H locs hW => ?_)
              replace hk := lq_s hk
              obtain ⟨x16, hr19, hk⟩ := hk
              have KJ18 : ∀ (H : Heap) (locs : List Loc) (ls : Array Slot), Ws G false M s H locs → lv_has ls 6 [(0, .ref (ad G 176)), (1, .int a1), (2, .int a2), (3, .int a3), (5, .int x9)] → Wx p l e 3 s m args below meth c Q H locs 82 ls [.int x16] := by
                intro H locs ls hW hl
                refine lv_istore (lv' := [(4, .int x16), (0, .ref (ad G 176)), (1, .int a1), (2, .int a2), (3, .int a3), (5, .int x9)]) hx hb dX7_hole_82 hl (by decide) rfl (fun ls hl => ?_)
                replace hk := lq_s hk
                obtain ⟨x17, ex17, hk⟩ := hk
                refine lv_iinc (v := x17) (lv' := [(5, .int x17), (4, .int x16), (0, .ref (ad G 176)), (1, .int a1), (2, .int a2), (3, .int a3)]) hx hb dX7_hole_84 hl (k := 5) rfl (by rw [ex17]; rfl) (by decide) rfl (fun ls hl => ?_)
                refine lv_goto (tgt := 43) hx hb dX7_hole_87 (by decide) ?_
                exact ih43 _ _ _ _ _ hk hW (lv_sub hl [2, 3, 4, 5, 1, 0] rfl)
              clear hk
              have hk := hr19.symm
              clear hr19
              refine lv_icmp_ge (tgt := 80) hx hb dX7_hole_72 (by decide) (fun c15 => ?_) (fun c15 => ?_)
              · replace hk := ite_t hk c15
                refine lv_iload hx hb dX7_hole_80 (lv_at hl 4 rfl) ?_
                subst hk
                exact KJ18 _ _ _ hW (lv_sub hl [0, 1, 2, 3, 5] rfl)
              · replace hk := ite_f hk c15
                refine lv_iload hx hb dX7_hole_75 (lv_at hl 5 rfl) ?_
                refine lv_goto (tgt := 82) hx hb dX7_hole_77 (by decide) ?_
                subst hk
                exact KJ18 _ _ _ hW (lv_sub hl [0, 1, 2, 3, 5] rfl)
        exact LH43 FU _ _ _ _ _ hz24 hW (lv_sub hl [2, 3, 4, 5, 1, 0] rfl)
      · replace hk := ite_t hk c28
        refine lv_aload_n hx hb dX7_hole_32 rfl (lv_at hl 0 rfl) ?_
        replace hk := ob2_s hk
        obtain ⟨x26, M27, hx26, hk⟩ := hk
        refine cl_i (rn_V g_924 g_926 gs_62 g_9 g_927 hd_X7_bad (Nat.le_of_ble_eq_true rfl) (ci := 7) rfl (inM kd_176 rfl) (shp7 kd_176) hx hb hml hown hg hK hW (As := []) (c_X7_bad l G M hx26) (by decide) rfl hl.1 rfl (Nat.le_of_ble_eq_true rfl) dX7_hole_33) hW (fun H locs hW => ?_)
        obtain ⟨rfl, rfl⟩ := sp2 hk
        exact hret _ _ _ _ hW dX7_hole_36
def f_X7_beat (a1 : Int32) (a2 : Int32) (a3 : Int32) (M : Mem) : Option (Int32 × Mem) :=
  if (f_X7_in a1.toInt64 (0 : Int64) (7 : Int64)) = (0 : Int32) then (
    ob2 (f_X7_bad M) (fun x2 M3 =>
    some (x2, M3)))
  else (
    if (f_X7_in a2.toInt64 (0 : Int64) (4 : Int64)) = (0 : Int32) then (
      ob2 (f_X7_bad M) (fun x5 M6 =>
      some (x5, M6)))
    else (
      if (f_X7_in a3.toInt64 ((-40) : Int64) (60 : Int64)) = (0 : Int32) then (
        ob2 (f_X7_bad M) (fun x11 M12 =>
        some (x11, M12)))
      else (
        ob (rd M 177 ((54 : Int32) + ((2 : Int32) * a1))) (fun x8 =>
        ob (wr M 177 ((54 : Int32) + ((2 : Int32) * a1)) a2) (fun M9 =>
        ob (wr M9 177 (((54 : Int32) + ((2 : Int32) * a1)) + (1 : Int32)) a3) (fun M10 =>
        some (x8, M10)))))))
set_option maxHeartbeats 4000000 in
set_option maxRecDepth 100000 in
theorem c_X7_beat (l : Launch) (G : GT) (a1 : Int32) (a2 : Int32) (a3 : Int32) (M : Mem) {r : Int32} {M' : Mem} (hk : f_X7_beat a1 a2 a3 M = some (r, M')) : CMi l G false yX7_beat cX7_beat 5 (some .int) 1 [.ref (ad G 176), .int a1, .int a2, .int a3] M r M' := by
  unfold f_X7_beat at hk
  refine CMi.of (by decide) (Nat.le_of_ble_eq_true rfl) ?_
  intro p e s m args below meth c Q hx hb hml hown hg hK hW hret ls hl
  have hl : lv_has ls 5 [(0, .ref (ad G 176)), (1, .int a1), (2, .int a2), (3, .int a3)] := hl
  refine lv_iload_n hx hb dX7_beat_0 rfl (lv_at hl 1 rfl) ?_
  refine lv_i2l hx hb dX7_beat_1 rfl ?_
  refine lv_lconst (v := (0 : Int64)) hx hb dX7_beat_2 (by decide) ?_
  refine lv_ldc2 hx hb hown (hg _ g_1073) dX7_beat_3 ?_
  refine cl_i (rn_S g_921 g_922 g_9 g_923 hd_X7_in (Nat.le_of_ble_eq_true rfl) hx hb hml hown hg hK hW (As := [.long a1.toInt64, .long (0 : Int64), .long (7 : Int64)]) (c_X7_in l G a1.toInt64 (0 : Int64) (7 : Int64) M) (by decide) rfl hl.1 rfl (Nat.le_of_ble_eq_true rfl) dX7_beat_6) hW (fun H locs hW => ?_)
  refine lv_if_eq (tgt := 38) hx hb dX7_beat_9 (by decide) (fun c15 => ?_) (fun c15 => ?_)
  · replace hk := ite_t hk c15
    refine lv_aload_n hx hb dX7_beat_38 rfl (lv_at hl 0 rfl) ?_
    replace hk := ob2_s hk
    obtain ⟨x2, M3, hx2, hk⟩ := hk
    refine cl_i (rn_V g_924 g_926 gs_62 g_9 g_927 hd_X7_bad (Nat.le_of_ble_eq_true rfl) (ci := 7) rfl (inM kd_176 rfl) (shp7 kd_176) hx hb hml hown hg hK hW (As := []) (c_X7_bad l G M hx2) (by decide) rfl hl.1 rfl (Nat.le_of_ble_eq_true rfl) dX7_beat_39) hW (fun H locs hW => ?_)
    obtain ⟨rfl, rfl⟩ := sp2 hk
    exact hret _ _ _ _ hW dX7_beat_42
  · replace hk := ite_f hk c15
    refine lv_iload_n hx hb dX7_beat_12 rfl (lv_at hl 2 rfl) ?_
    refine lv_i2l hx hb dX7_beat_13 rfl ?_
    refine lv_lconst (v := (0 : Int64)) hx hb dX7_beat_14 (by decide) ?_
    refine lv_ldc2 hx hb hown (hg _ g_1016) dX7_beat_15 ?_
    refine cl_i (rn_S g_921 g_922 g_9 g_923 hd_X7_in (Nat.le_of_ble_eq_true rfl) hx hb hml hown hg hK hW (As := [.long a2.toInt64, .long (0 : Int64), .long (4 : Int64)]) (c_X7_in l G a2.toInt64 (0 : Int64) (4 : Int64) M) (by decide) rfl hl.1 rfl (Nat.le_of_ble_eq_true rfl) dX7_beat_18) hW (fun H locs hW => ?_)
    refine lv_if_eq (tgt := 38) hx hb dX7_beat_21 (by decide) (fun c14 => ?_) (fun c14 => ?_)
    · replace hk := ite_t hk c14
      refine lv_aload_n hx hb dX7_beat_38 rfl (lv_at hl 0 rfl) ?_
      replace hk := ob2_s hk
      obtain ⟨x5, M6, hx5, hk⟩ := hk
      refine cl_i (rn_V g_924 g_926 gs_62 g_9 g_927 hd_X7_bad (Nat.le_of_ble_eq_true rfl) (ci := 7) rfl (inM kd_176 rfl) (shp7 kd_176) hx hb hml hown hg hK hW (As := []) (c_X7_bad l G M hx5) (by decide) rfl hl.1 rfl (Nat.le_of_ble_eq_true rfl) dX7_beat_39) hW (fun H locs hW => ?_)
      obtain ⟨rfl, rfl⟩ := sp2 hk
      exact hret _ _ _ _ hW dX7_beat_42
    · replace hk := ite_f hk c14
      refine lv_iload_n hx hb dX7_beat_24 rfl (lv_at hl 3 rfl) ?_
      refine lv_i2l hx hb dX7_beat_25 rfl ?_
      refine lv_ldc2 hx hb hown (hg _ g_1116) dX7_beat_26 ?_
      refine lv_ldc2 hx hb hown (hg _ g_1117) dX7_beat_29 ?_
      refine cl_i (rn_S g_921 g_922 g_9 g_923 hd_X7_in (Nat.le_of_ble_eq_true rfl) hx hb hml hown hg hK hW (As := [.long a3.toInt64, .long ((-40) : Int64), .long (60 : Int64)]) (c_X7_in l G a3.toInt64 ((-40) : Int64) (60 : Int64) M) (by decide) rfl hl.1 rfl (Nat.le_of_ble_eq_true rfl) dX7_beat_32) hW (fun H locs hW => ?_)
      refine lv_if_ne (tgt := 43) hx hb dX7_beat_35 (by decide) (fun c13 => ?_) (fun c13 => ?_)
      · replace hk := ite_f hk c13
        refine lv_aload_n hx hb dX7_beat_43 rfl (lv_at hl 0 rfl) ?_
        refine gt_X7_7 hx hb hg hown hK hW kd_176 dX7_beat_44 ?_
        refine lv_bipush (v := (54 : Int32)) hx hb dX7_beat_47 (by decide) ?_
        refine lv_iconst (v := (2 : Int32)) hx hb dX7_beat_49 (by decide) ?_
        refine lv_iload_n hx hb dX7_beat_50 rfl (lv_at hl 1 rfl) ?_
        refine lv_imul hx hb dX7_beat_51 ?_
        refine lv_iadd hx hb dX7_beat_52 ?_
        replace hk := ob_s hk
        obtain ⟨x8, hx8, hk⟩ := hk
        obtain ⟨hx8, ex8⟩ := rd_s hx8
        refine w_ald hx hb hK hW (inM kd_177 rfl) (shp10 kd_177) hx8 ex8 dX7_beat_53 ?_
        refine lv_istore (lv' := [(4, .int x8), (0, .ref (ad G 176)), (1, .int a1), (2, .int a2), (3, .int a3)]) hx hb dX7_beat_54 hl (by decide) rfl (fun ls hl => ?_)
        refine lv_aload_n hx hb dX7_beat_56 rfl (lv_at hl 1 rfl) ?_
        refine gt_X7_7 hx hb hg hown hK hW kd_176 dX7_beat_57 ?_
        refine lv_bipush (v := (54 : Int32)) hx hb dX7_beat_60 (by decide) ?_
        refine lv_iconst (v := (2 : Int32)) hx hb dX7_beat_62 (by decide) ?_
        refine lv_iload_n hx hb dX7_beat_63 rfl (lv_at hl 2 rfl) ?_
        refine lv_imul hx hb dX7_beat_64 ?_
        refine lv_iadd hx hb dX7_beat_65 ?_
        refine lv_iload_n hx hb dX7_beat_66 rfl (lv_at hl 3 rfl) ?_
        replace hk := ob_s hk
        obtain ⟨M9, hM9, hk⟩ := hk
        obtain ⟨hM9, eM9⟩ := wr_s hM9
        refine w_ast hx hb hK hW (inM kd_177 rfl) (fun _ => (shp10 kd_177)) hM9 eM9 dX7_beat_67 (fun H locs hW => ?_)
        refine lv_aload_n hx hb dX7_beat_68 rfl (lv_at hl 1 rfl) ?_
        refine gt_X7_7 hx hb hg hown hK hW kd_176 dX7_beat_69 ?_
        refine lv_bipush (v := (54 : Int32)) hx hb dX7_beat_72 (by decide) ?_
        refine lv_iconst (v := (2 : Int32)) hx hb dX7_beat_74 (by decide) ?_
        refine lv_iload_n hx hb dX7_beat_75 rfl (lv_at hl 2 rfl) ?_
        refine lv_imul hx hb dX7_beat_76 ?_
        refine lv_iadd hx hb dX7_beat_77 ?_
        refine lv_iconst (v := (1 : Int32)) hx hb dX7_beat_78 (by decide) ?_
        refine lv_iadd hx hb dX7_beat_79 ?_
        refine lv_iload_n hx hb dX7_beat_80 rfl (lv_at hl 4 rfl) ?_
        replace hk := ob_s hk
        obtain ⟨M10, hM10, hk⟩ := hk
        obtain ⟨hM10, eM10⟩ := wr_s hM10
        refine w_ast hx hb hK hW (inM kd_177 rfl) (fun _ => (shp10 kd_177)) hM10 eM10 dX7_beat_81 (fun H locs hW => ?_)
        refine lv_iload hx hb dX7_beat_82 (lv_at hl 0 rfl) ?_
        obtain ⟨rfl, rfl⟩ := sp2 hk
        exact hret _ _ _ _ hW dX7_beat_84
      · replace hk := ite_t hk c13
        refine lv_aload_n hx hb dX7_beat_38 rfl (lv_at hl 0 rfl) ?_
        replace hk := ob2_s hk
        obtain ⟨x11, M12, hx11, hk⟩ := hk
        refine cl_i (rn_V g_924 g_926 gs_62 g_9 g_927 hd_X7_bad (Nat.le_of_ble_eq_true rfl) (ci := 7) rfl (inM kd_176 rfl) (shp7 kd_176) hx hb hml hown hg hK hW (As := []) (c_X7_bad l G M hx11) (by decide) rfl hl.1 rfl (Nat.le_of_ble_eq_true rfl) dX7_beat_39) hW (fun H locs hW => ?_)
        obtain ⟨rfl, rfl⟩ := sp2 hk
        exact hret _ _ _ _ hW dX7_beat_42
def f_X7_dance (a1 : Int32) (M : Mem) : Option (Int32 × Mem) :=
  if (f_X7_in a1.toInt64 (0 : Int64) (6 : Int64)) = (0 : Int32) then (
    ob2 (f_X7_bad M) (fun x4 M5 =>
    some (x4, M5)))
  else (
    ob (rd M 177 (53 : Int32)) (fun x2 =>
    ob (wr M 177 (53 : Int32) a1) (fun M3 =>
    some (x2, M3))))
set_option maxHeartbeats 4000000 in
set_option maxRecDepth 100000 in
theorem c_X7_dance (l : Launch) (G : GT) (a1 : Int32) (M : Mem) {r : Int32} {M' : Mem} (hk : f_X7_dance a1 M = some (r, M')) : CMi l G false yX7_dance cX7_dance 3 (some .int) 1 [.ref (ad G 176), .int a1] M r M' := by
  unfold f_X7_dance at hk
  refine CMi.of (by decide) (Nat.le_of_ble_eq_true rfl) ?_
  intro p e s m args below meth c Q hx hb hml hown hg hK hW hret ls hl
  have hl : lv_has ls 3 [(0, .ref (ad G 176)), (1, .int a1)] := hl
  refine lv_iload_n hx hb dX7_dance_0 rfl (lv_at hl 1 rfl) ?_
  refine lv_i2l hx hb dX7_dance_1 rfl ?_
  refine lv_lconst (v := (0 : Int64)) hx hb dX7_dance_2 (by decide) ?_
  refine lv_ldc2 hx hb hown (hg _ g_1145) dX7_dance_3 ?_
  refine cl_i (rn_S g_921 g_922 g_9 g_923 hd_X7_in (Nat.le_of_ble_eq_true rfl) hx hb hml hown hg hK hW (As := [.long a1.toInt64, .long (0 : Int64), .long (6 : Int64)]) (c_X7_in l G a1.toInt64 (0 : Int64) (6 : Int64) M) (by decide) rfl hl.1 rfl (Nat.le_of_ble_eq_true rfl) dX7_dance_6) hW (fun H locs hW => ?_)
  refine lv_if_ne (tgt := 17) hx hb dX7_dance_9 (by decide) (fun c6 => ?_) (fun c6 => ?_)
  · replace hk := ite_f hk c6
    refine lv_aload_n hx hb dX7_dance_17 rfl (lv_at hl 0 rfl) ?_
    refine gt_X7_7 hx hb hg hown hK hW kd_176 dX7_dance_18 ?_
    refine lv_bipush (v := (53 : Int32)) hx hb dX7_dance_21 (by decide) ?_
    replace hk := ob_s hk
    obtain ⟨x2, hx2, hk⟩ := hk
    obtain ⟨hx2, ex2⟩ := rd_s hx2
    refine w_ald hx hb hK hW (inM kd_177 rfl) (shp10 kd_177) hx2 ex2 dX7_dance_23 ?_
    refine lv_istore_n (lv' := [(2, .int x2), (0, .ref (ad G 176)), (1, .int a1)]) hx hb dX7_dance_24 rfl hl (by decide) rfl (fun ls hl => ?_)
    refine lv_aload_n hx hb dX7_dance_25 rfl (lv_at hl 1 rfl) ?_
    refine gt_X7_7 hx hb hg hown hK hW kd_176 dX7_dance_26 ?_
    refine lv_bipush (v := (53 : Int32)) hx hb dX7_dance_29 (by decide) ?_
    refine lv_iload_n hx hb dX7_dance_31 rfl (lv_at hl 2 rfl) ?_
    replace hk := ob_s hk
    obtain ⟨M3, hM3, hk⟩ := hk
    obtain ⟨hM3, eM3⟩ := wr_s hM3
    refine w_ast hx hb hK hW (inM kd_177 rfl) (fun _ => (shp10 kd_177)) hM3 eM3 dX7_dance_32 (fun H locs hW => ?_)
    refine lv_iload_n hx hb dX7_dance_33 rfl (lv_at hl 0 rfl) ?_
    obtain ⟨rfl, rfl⟩ := sp2 hk
    exact hret _ _ _ _ hW dX7_dance_34
  · replace hk := ite_t hk c6
    refine lv_aload_n hx hb dX7_dance_12 rfl (lv_at hl 0 rfl) ?_
    replace hk := ob2_s hk
    obtain ⟨x4, M5, hx4, hk⟩ := hk
    refine cl_i (rn_V g_924 g_926 gs_62 g_9 g_927 hd_X7_bad (Nat.le_of_ble_eq_true rfl) (ci := 7) rfl (inM kd_176 rfl) (shp7 kd_176) hx hb hml hown hg hK hW (As := []) (c_X7_bad l G M hx4) (by decide) rfl hl.1 rfl (Nat.le_of_ble_eq_true rfl) dX7_dance_13) hW (fun H locs hW => ?_)
    obtain ⟨rfl, rfl⟩ := sp2 hk
    exact hret _ _ _ _ hW dX7_dance_16
def f_X7_comesOut_L24 : Nat → Int32 → Int32 → Mem → Option (Int32 × Mem)
  | 0, _, _, _ => none
  | n + 1, x5, x6, M7 =>
    if (8 : Int32) ≤ x6 then (
      some (x5, M7))
    else (
      ob (rd M7 177 ((54 : Int32) + ((2 : Int32) * x6))) (fun x10 =>
      ob (f_X7_goes x10 M7) (fun M12 =>
      ob (rd M12 177 (53 : Int32)) (fun x13 =>
      ob (f_X7_high x13 M12) (fun x14 =>
      ob (rd M12 177 (((54 : Int32) + ((2 : Int32) * x6)) + (1 : Int32))) (fun x15 =>
      lq (
        if x14 = x15 then (
          (1 : Int32))
        else (
          (0 : Int32)))
       (fun x17 =>
      lq (x5 + x17) (fun x18 =>
      lq (x6 + (1 : Int32)) (fun x19 =>
      f_X7_comesOut_L24 n x18 x19 M12)))))))))
def f_X7_comesOut (M : Mem) : Option (Int32 × Mem) :=
  ob (rd M 177 (53 : Int32)) (fun x1 =>
  ob (f_X7_isLimb x1 M) (fun x2 =>
  if x2 = (0 : Int32) then (
    some ((0 : Int32), M))
  else (
    ob (f_X7_asides M) (fun M4 =>
    ob2 (f_X7_comesOut_L24 FU (0 : Int32) (0 : Int32) M4) (fun x8 M9 =>
    ob (f_X7_backs M9) (fun M24 =>
    some (x8, M24)))))))
set_option maxHeartbeats 4000000 in
set_option maxRecDepth 100000 in
theorem c_X7_comesOut (l : Launch) (G : GT)  (M : Mem) {r : Int32} {M' : Mem} (hk : f_X7_comesOut  M = some (r, M')) : CMi l G false yX7_comesOut cX7_comesOut 3 (some .int) 4 [.ref (ad G 176)] M r M' := by
  unfold f_X7_comesOut at hk
  refine CMi.of (by decide) (Nat.le_of_ble_eq_true rfl) ?_
  intro p e s m args below meth c Q hx hb hml hown hg hK hW hret ls hl
  have hl : lv_has ls 3 [(0, .ref (ad G 176))] := hl
  refine lv_aload_n hx hb dX7_comesOut_0 rfl (lv_at hl 0 rfl) ?_
  refine lv_aload_n hx hb dX7_comesOut_1 rfl (lv_at hl 0 rfl) ?_
  refine gt_X7_7 hx hb hg hown hK hW kd_176 dX7_comesOut_2 ?_
  refine lv_bipush (v := (53 : Int32)) hx hb dX7_comesOut_5 (by decide) ?_
  replace hk := ob_s hk
  obtain ⟨x1, hx1, hk⟩ := hk
  obtain ⟨hx1, ex1⟩ := rd_s hx1
  refine w_ald hx hb hK hW (inM kd_177 rfl) (shp10 kd_177) hx1 ex1 dX7_comesOut_7 ?_
  replace hk := ob_s hk
  obtain ⟨x2, hx2, hk⟩ := hk
  refine cl_i (rn_V g_1033 g_1035 gs_78 g_9 g_1036 hd_X7_isLimb (Nat.le_of_ble_eq_true rfl) (ci := 7) rfl (inM kd_176 rfl) (shp7 kd_176) hx hb hml hown hg hK hW (As := [.int x1]) (c_X7_isLimb l G x1 M hx2) (by decide) rfl hl.1 rfl (Nat.le_of_ble_eq_true rfl) dX7_comesOut_8) hW (fun H locs hW => ?_)
  refine lv_if_ne (tgt := 16) hx hb dX7_comesOut_11 (by decide) (fun c27 => ?_) (fun c27 => ?_)
  · replace hk := ite_f hk c27
    refine lv_aload_n hx hb dX7_comesOut_16 rfl (lv_at hl 0 rfl) ?_
    replace hk := ob_s hk
    obtain ⟨M4, hx3, hk⟩ := hk
    refine cl_v (rn_V g_1104 g_1106 gs_87 g_9 g_1107 hd_X7_asides (Nat.le_of_ble_eq_true rfl) (ci := 7) rfl (inM kd_176 rfl) (shp7 kd_176) hx hb hml hown hg hK hW (As := []) (c_X7_asides l G M hx3) (by decide) rfl hl.1 rfl (Nat.le_of_ble_eq_true rfl) dX7_comesOut_17) hW (fun H locs hW => ?_)
    refine lv_iconst (v := (0 : Int32)) hx hb dX7_comesOut_20 (by decide) ?_
    refine lv_istore_n (lv' := [(1, .int (0 : Int32)), (0, .ref (ad G 176))]) hx hb dX7_comesOut_21 rfl hl (by decide) rfl (fun ls hl => ?_)
    refine lv_iconst (v := (0 : Int32)) hx hb dX7_comesOut_22 (by decide) ?_
    refine lv_istore_n (lv' := [(2, .int (0 : Int32)), (1, .int (0 : Int32)), (0, .ref (ad G 176))]) hx hb dX7_comesOut_23 rfl hl (by decide) rfl (fun ls hl => ?_)
    replace hk := ob2_s hk
    obtain ⟨x8, M9, hz25, hk⟩ := hk
    have KX24 : ∀ (H : Heap) (locs : List Loc) (ls : Array Slot), Ws G false M9 s H locs → lv_has ls 3 [(0, .ref (ad G 176)), (1, .int x8)] → Wx p l e 4 s m args below meth c Q H locs 86 ls [] := by
      intro H locs ls hW hl
      refine lv_aload_n hx hb dX7_comesOut_86 rfl (lv_at hl 0 rfl) ?_
      replace hk := ob_s hk
      obtain ⟨M24, hx23, hk⟩ := hk
      refine cl_v (rn_V g_1108 g_1110 gs_88 g_9 g_1111 hd_X7_backs (Nat.le_of_ble_eq_true rfl) (ci := 7) rfl (inM kd_176 rfl) (shp7 kd_176) hx hb hml hown hg hK hW (As := []) (c_X7_backs l G M9 hx23) (by decide) rfl hl.1 rfl (Nat.le_of_ble_eq_true rfl) dX7_comesOut_87) hW (fun H locs hW => ?_)
      refine lv_iload_n hx hb dX7_comesOut_90 rfl (lv_at hl 1 rfl) ?_
      obtain ⟨rfl, rfl⟩ := sp2 hk
      exact hret _ _ _ _ hW dX7_comesOut_91
    clear hk
    have LH24 : ∀ (n : Nat) (x5 : Int32) (x6 : Int32) (M7 : Mem) (H : Heap) (locs : List Loc) (ls : Array Slot), f_X7_comesOut_L24 n x5 x6 M7 = some (x8, M9) → Ws G false M7 s H locs → lv_has ls 3 [(0, .ref (ad G 176)), (1, .int x5), (2, .int x6)] → Wx p l e 4 s m args below meth c Q H locs 24 ls [] := by
      clear hz25
      intro n
      induction n with
      | zero => intro _ _ _ _ _ _ hk; cases hk
      | succ n ih24 =>
        intro x5 x6 M7 H locs ls hk hW hl
        rw [f_X7_comesOut_L24.eq_2] at hk
        refine lv_iload_n hx hb dX7_comesOut_24 rfl (lv_at hl 2 rfl) ?_
        refine lv_bipush (v := (8 : Int32)) hx hb dX7_comesOut_25 (by decide) ?_
        refine lv_icmp_ge (tgt := 86) hx hb dX7_comesOut_27 (by decide) (fun c22 => ?_) (fun c22 => ?_)
        · replace hk := ite_t hk c22
          obtain ⟨rfl, rfl⟩ := sp2 hk
          exact KX24 _ _ _ hW (lv_sub hl [0, 1] rfl)
        · replace hk := ite_f hk c22
          refine lv_aload_n hx hb dX7_comesOut_30 rfl (lv_at hl 0 rfl) ?_
          refine lv_aload_n hx hb dX7_comesOut_31 rfl (lv_at hl 0 rfl) ?_
          refine gt_X7_7 hx hb hg hown hK hW kd_176 dX7_comesOut_32 ?_
          refine lv_bipush (v := (54 : Int32)) hx hb dX7_comesOut_35 (by decide) ?_
          refine lv_iconst (v := (2 : Int32)) hx hb dX7_comesOut_37 (by decide) ?_
          refine lv_iload_n hx hb dX7_comesOut_38 rfl (lv_at hl 2 rfl) ?_
          refine lv_imul hx hb dX7_comesOut_39 ?_
          refine lv_iadd hx hb dX7_comesOut_40 ?_
          replace hk := ob_s hk
          obtain ⟨x10, hx10, hk⟩ := hk
          obtain ⟨hx10, ex10⟩ := rd_s hx10
          refine w_ald hx hb hK hW (inM kd_177 rfl) (shp10 kd_177) hx10 ex10 dX7_comesOut_41 ?_
          replace hk := ob_s hk
          obtain ⟨M12, hx11, hk⟩ := hk
          refine cl_v (rn_V g_1017 g_1019 gs_74 g_9 g_1020 hd_X7_goes (Nat.le_of_ble_eq_true rfl) (ci := 7) rfl (inM kd_176 rfl) (shp7 kd_176) hx hb hml hown hg hK hW (As := [.int x10]) (c_X7_goes l G x10 M7 hx11) (by decide) rfl hl.1 rfl (Nat.le_of_ble_eq_true rfl) dX7_comesOut_42) hW (fun H locs hW => ?_)
          refine lv_iload_n hx hb dX7_comesOut_45 rfl (lv_at hl 1 rfl) ?_
          refine lv_aload_n hx hb dX7_comesOut_46 rfl (lv_at hl 0 rfl) ?_
          refine lv_aload_n hx hb dX7_comesOut_47 rfl (lv_at hl 0 rfl) ?_
          refine gt_X7_7 hx hb hg hown hK hW kd_176 dX7_comesOut_48 ?_
          refine lv_bipush (v := (53 : Int32)) hx hb dX7_comesOut_51 (by decide) ?_
          replace hk := ob_s hk
          obtain ⟨x13, hx13, hk⟩ := hk
          obtain ⟨hx13, ex13⟩ := rd_s hx13
          refine w_ald hx hb hK hW (inM kd_177 rfl) (shp10 kd_177) hx13 ex13 dX7_comesOut_53 ?_
          replace hk := ob_s hk
          obtain ⟨x14, hx14, hk⟩ := hk
          refine cl_i (rn_V g_1074 g_1076 gs_83 g_9 g_1077 hd_X7_high (Nat.le_of_ble_eq_true rfl) (ci := 7) rfl (inM kd_176 rfl) (shp7 kd_176) hx hb hml hown hg hK hW (As := [.int x13]) (c_X7_high l G x13 M12 hx14) (by decide) rfl hl.1 rfl (Nat.le_of_ble_eq_true rfl) dX7_comesOut_54) hW (fun H locs hW => ?_)
          refine lv_aload_n hx hb dX7_comesOut_57 rfl (lv_at hl 0 rfl) ?_
          refine gt_X7_7 hx hb hg hown hK hW kd_176 dX7_comesOut_58 ?_
          refine lv_bipush (v := (54 : Int32)) hx hb dX7_comesOut_61 (by decide) ?_
          refine lv_iconst (v := (2 : Int32)) hx hb dX7_comesOut_63 (by decide) ?_
          refine lv_iload_n hx hb dX7_comesOut_64 rfl (lv_at hl 2 rfl) ?_
          refine lv_imul hx hb dX7_comesOut_65 ?_
          refine lv_iadd hx hb dX7_comesOut_66 ?_
          refine lv_iconst (v := (1 : Int32)) hx hb dX7_comesOut_67 (by decide) ?_
          refine lv_iadd hx hb dX7_comesOut_68 ?_
          replace hk := ob_s hk
          obtain ⟨x15, hx15, hk⟩ := hk
          obtain ⟨hx15, ex15⟩ := rd_s hx15
          refine w_ald hx hb hK hW (inM kd_177 rfl) (shp10 kd_177) hx15 ex15 dX7_comesOut_69 ?_
          replace hk := lq_s hk
          obtain ⟨x17, hr21, hk⟩ := hk
          have KJ20 : ∀ (H : Heap) (locs : List Loc) (ls : Array Slot), Ws G false M12 s H locs → lv_has ls 3 [(0, .ref (ad G 176)), (2, .int x6)] → Wx p l e 4 s m args below meth c Q H locs 78 ls [.int x17, .int x5] := by
            intro H locs ls hW hl
            refine lv_iadd hx hb dX7_comesOut_78 ?_
            replace hk := lq_s hk
            obtain ⟨x18, ex18, hk⟩ := hk
            refine nm_i ex18 ?_
            refine lv_istore_n (lv' := [(1, .int x18), (0, .ref (ad G 176)), (2, .int x6)]) hx hb dX7_comesOut_79 rfl hl (by decide) rfl (fun ls hl => ?_)
            replace hk := lq_s hk
            obtain ⟨x19, ex19, hk⟩ := hk
            refine lv_iinc (v := x19) (lv' := [(2, .int x19), (1, .int x18), (0, .ref (ad G 176))]) hx hb dX7_comesOut_80 hl (k := 2) rfl (by rw [ex19]; rfl) (by decide) rfl (fun ls hl => ?_)
            refine lv_goto (tgt := 24) hx hb dX7_comesOut_83 (by decide) ?_
            exact ih24 _ _ _ _ _ _ hk hW (lv_sub hl [2, 1, 0] rfl)
          clear hk
          have hk := hr21.symm
          clear hr21
          refine lv_icmp_ne (tgt := 77) hx hb dX7_comesOut_70 (by decide) (fun c16 => ?_) (fun c16 => ?_)
          · replace hk := ite_f hk c16
            refine lv_iconst (v := (0 : Int32)) hx hb dX7_comesOut_77 (by decide) ?_
            subst hk
            exact KJ20 _ _ _ hW (lv_sub hl [0, 2] rfl)
          · replace hk := ite_t hk c16
            refine lv_iconst (v := (1 : Int32)) hx hb dX7_comesOut_73 (by decide) ?_
            refine lv_goto (tgt := 78) hx hb dX7_comesOut_74 (by decide) ?_
            subst hk
            exact KJ20 _ _ _ hW (lv_sub hl [0, 2] rfl)
    exact LH24 FU _ _ _ _ _ _ hz25 hW (lv_sub hl [2, 1, 0] rfl)
  · replace hk := ite_t hk c27
    refine lv_iconst (v := (0 : Int32)) hx hb dX7_comesOut_14 (by decide) ?_
    obtain ⟨rfl, rfl⟩ := sp2 hk
    exact hret _ _ _ _ hW dX7_comesOut_15
def f_X7_snaps_L15 (x3 : Int32) : Nat → Int32 → Int32 → Mem → Option (Int32 × Mem)
  | 0, _, _, _ => none
  | n + 1, x4, x5, M6 =>
    if (8 : Int32) ≤ x5 then (
      some (x4, M6))
    else (
      ob (rd M6 177 ((54 : Int32) + ((2 : Int32) * x5))) (fun x9 =>
      ob (f_X7_goes x9 M6) (fun M11 =>
      ob (
        if x4 = ((-1001) : Int32) then (
          ob (f_X7_snapped M11) (fun x12 =>
          if x12 ≤ x3 then (
            some x4)
          else (
            some x5)))
        else (
          some x4))
       (fun x15 =>
      lq (x5 + (1 : Int32)) (fun x16 =>
      f_X7_snaps_L15 x3 n x15 x16 M11)))))
def f_X7_snaps (M : Mem) : Option (Int32 × Mem) :=
  ob (f_X7_asides M) (fun M2 =>
  ob (f_X7_snapped M2) (fun x3 =>
  ob2 (f_X7_snaps_L15 x3 FU ((-1001) : Int32) (0 : Int32) M2) (fun x7 M8 =>
  ob (f_X7_backs M8) (fun M21 =>
  some (x7, M21)))))
set_option maxHeartbeats 4000000 in
set_option maxRecDepth 100000 in
theorem c_X7_snaps (l : Launch) (G : GT)  (M : Mem) {r : Int32} {M' : Mem} (hk : f_X7_snaps  M = some (r, M')) : CMi l G false yX7_snaps cX7_snaps 4 (some .int) 4 [.ref (ad G 176)] M r M' := by
  unfold f_X7_snaps at hk
  refine CMi.of (by decide) (Nat.le_of_ble_eq_true rfl) ?_
  intro p e s m args below meth c Q hx hb hml hown hg hK hW hret ls hl
  have hl : lv_has ls 4 [(0, .ref (ad G 176))] := hl
  refine lv_aload_n hx hb dX7_snaps_0 rfl (lv_at hl 0 rfl) ?_
  replace hk := ob_s hk
  obtain ⟨M2, hx1, hk⟩ := hk
  refine cl_v (rn_V g_1104 g_1106 gs_87 g_9 g_1107 hd_X7_asides (Nat.le_of_ble_eq_true rfl) (ci := 7) rfl (inM kd_176 rfl) (shp7 kd_176) hx hb hml hown hg hK hW (As := []) (c_X7_asides l G M hx1) (by decide) rfl hl.1 rfl (Nat.le_of_ble_eq_true rfl) dX7_snaps_1) hW (fun H locs hW => ?_)
  refine lv_aload_n hx hb dX7_snaps_4 rfl (lv_at hl 0 rfl) ?_
  replace hk := ob_s hk
  obtain ⟨x3, hx3, hk⟩ := hk
  refine cl_i (rn_V g_1053 g_1055 gs_82 g_9 g_1056 hd_X7_snapped (Nat.le_of_ble_eq_true rfl) (ci := 7) rfl (inM kd_176 rfl) (shp7 kd_176) hx hb hml hown hg hK hW (As := []) (c_X7_snapped l G M2 hx3) (by decide) rfl hl.1 rfl (Nat.le_of_ble_eq_true rfl) dX7_snaps_5) hW (fun H locs hW => ?_)
  refine lv_istore_n (lv' := [(1, .int x3), (0, .ref (ad G 176))]) hx hb dX7_snaps_8 rfl hl (by decide) rfl (fun ls hl => ?_)
  refine lv_sipush (v := ((-1001) : Int32)) hx hb dX7_snaps_9 (by decide) ?_
  refine lv_istore_n (lv' := [(2, .int ((-1001) : Int32)), (1, .int x3), (0, .ref (ad G 176))]) hx hb dX7_snaps_12 rfl hl (by decide) rfl (fun ls hl => ?_)
  refine lv_iconst (v := (0 : Int32)) hx hb dX7_snaps_13 (by decide) ?_
  refine lv_istore_n (lv' := [(3, .int (0 : Int32)), (2, .int ((-1001) : Int32)), (1, .int x3), (0, .ref (ad G 176))]) hx hb dX7_snaps_14 rfl hl (by decide) rfl (fun ls hl => ?_)
  replace hk := ob2_s hk
  obtain ⟨x7, M8, hz22, hk⟩ := hk
  have KX15 : ∀ (H : Heap) (locs : List Loc) (ls : Array Slot), Ws G false M8 s H locs → lv_has ls 4 [(0, .ref (ad G 176)), (2, .int x7)] → Wx p l e 4 s m args below meth c Q H locs 63 ls [] := by
    intro H locs ls hW hl
    refine lv_aload_n hx hb dX7_snaps_63 rfl (lv_at hl 0 rfl) ?_
    replace hk := ob_s hk
    obtain ⟨M21, hx20, hk⟩ := hk
    refine cl_v (rn_V g_1108 g_1110 gs_88 g_9 g_1111 hd_X7_backs (Nat.le_of_ble_eq_true rfl) (ci := 7) rfl (inM kd_176 rfl) (shp7 kd_176) hx hb hml hown hg hK hW (As := []) (c_X7_backs l G M8 hx20) (by decide) rfl hl.1 rfl (Nat.le_of_ble_eq_true rfl) dX7_snaps_64) hW (fun H locs hW => ?_)
    refine lv_iload_n hx hb dX7_snaps_67 rfl (lv_at hl 1 rfl) ?_
    obtain ⟨rfl, rfl⟩ := sp2 hk
    exact hret _ _ _ _ hW dX7_snaps_68
  clear hk
  have LH15 : ∀ (n : Nat) (x4 : Int32) (x5 : Int32) (M6 : Mem) (H : Heap) (locs : List Loc) (ls : Array Slot), f_X7_snaps_L15 x3 n x4 x5 M6 = some (x7, M8) → Ws G false M6 s H locs → lv_has ls 4 [(0, .ref (ad G 176)), (1, .int x3), (2, .int x4), (3, .int x5)] → Wx p l e 4 s m args below meth c Q H locs 15 ls [] := by
    clear hz22
    intro n
    induction n with
    | zero => intro _ _ _ _ _ _ hk; cases hk
    | succ n ih15 =>
      intro x4 x5 M6 H locs ls hk hW hl
      rw [f_X7_snaps_L15.eq_2] at hk
      refine lv_iload_n hx hb dX7_snaps_15 rfl (lv_at hl 3 rfl) ?_
      refine lv_bipush (v := (8 : Int32)) hx hb dX7_snaps_16 (by decide) ?_
      refine lv_icmp_ge (tgt := 63) hx hb dX7_snaps_18 (by decide) (fun c19 => ?_) (fun c19 => ?_)
      · replace hk := ite_t hk c19
        obtain ⟨rfl, rfl⟩ := sp2 hk
        exact KX15 _ _ _ hW (lv_sub hl [0, 2] rfl)
      · replace hk := ite_f hk c19
        refine lv_aload_n hx hb dX7_snaps_21 rfl (lv_at hl 0 rfl) ?_
        refine lv_aload_n hx hb dX7_snaps_22 rfl (lv_at hl 0 rfl) ?_
        refine gt_X7_7 hx hb hg hown hK hW kd_176 dX7_snaps_23 ?_
        refine lv_bipush (v := (54 : Int32)) hx hb dX7_snaps_26 (by decide) ?_
        refine lv_iconst (v := (2 : Int32)) hx hb dX7_snaps_28 (by decide) ?_
        refine lv_iload_n hx hb dX7_snaps_29 rfl (lv_at hl 3 rfl) ?_
        refine lv_imul hx hb dX7_snaps_30 ?_
        refine lv_iadd hx hb dX7_snaps_31 ?_
        replace hk := ob_s hk
        obtain ⟨x9, hx9, hk⟩ := hk
        obtain ⟨hx9, ex9⟩ := rd_s hx9
        refine w_ald hx hb hK hW (inM kd_177 rfl) (shp10 kd_177) hx9 ex9 dX7_snaps_32 ?_
        replace hk := ob_s hk
        obtain ⟨M11, hx10, hk⟩ := hk
        refine cl_v (rn_V g_1017 g_1019 gs_74 g_9 g_1020 hd_X7_goes (Nat.le_of_ble_eq_true rfl) (ci := 7) rfl (inM kd_176 rfl) (shp7 kd_176) hx hb hml hown hg hK hW (As := [.int x9]) (c_X7_goes l G x9 M6 hx10) (by decide) rfl hl.1 rfl (Nat.le_of_ble_eq_true rfl) dX7_snaps_33) hW (fun H locs hW => ?_)
        refine lv_iload_n hx hb dX7_snaps_36 rfl (lv_at hl 2 rfl) ?_
        refine lv_sipush (v := ((-1001) : Int32)) hx hb dX7_snaps_37 (by decide) ?_
        replace hk := ob_s hk
        obtain ⟨x15, hr18, hk⟩ := hk
        have KJ17 : ∀ (H : Heap) (locs : List Loc) (ls : Array Slot), Ws G false M11 s H locs → lv_has ls 4 [(0, .ref (ad G 176)), (1, .int x3), (3, .int x5)] → Wx p l e 4 s m args below meth c Q H locs 56 ls [.int x15] := by
          intro H locs ls hW hl
          refine lv_istore_n (lv' := [(2, .int x15), (0, .ref (ad G 176)), (1, .int x3), (3, .int x5)]) hx hb dX7_snaps_56 rfl hl (by decide) rfl (fun ls hl => ?_)
          replace hk := lq_s hk
          obtain ⟨x16, ex16, hk⟩ := hk
          refine lv_iinc (v := x16) (lv' := [(3, .int x16), (2, .int x15), (0, .ref (ad G 176)), (1, .int x3)]) hx hb dX7_snaps_57 hl (k := 3) rfl (by rw [ex16]; rfl) (by decide) rfl (fun ls hl => ?_)
          refine lv_goto (tgt := 15) hx hb dX7_snaps_60 (by decide) ?_
          exact ih15 _ _ _ _ _ _ hk hW (lv_sub hl [2, 3, 1, 0] rfl)
        clear hk
        have hk := hr18
        clear hr18
        refine lv_icmp_ne (tgt := 55) hx hb dX7_snaps_40 (by decide) (fun c14 => ?_) (fun c14 => ?_)
        · replace hk := ite_f hk c14
          refine lv_iload_n hx hb dX7_snaps_55 rfl (lv_at hl 2 rfl) ?_
          obtain rfl := Option.some.inj hk
          exact KJ17 _ _ _ hW (lv_sub hl [0, 1, 3] rfl)
        · replace hk := ite_t hk c14
          refine lv_aload_n hx hb dX7_snaps_43 rfl (lv_at hl 0 rfl) ?_
          replace hk := ob_s hk
          obtain ⟨x12, hx12, hk⟩ := hk
          refine cl_i (rn_V g_1053 g_1055 gs_82 g_9 g_1056 hd_X7_snapped (Nat.le_of_ble_eq_true rfl) (ci := 7) rfl (inM kd_176 rfl) (shp7 kd_176) hx hb hml hown hg hK hW (As := []) (c_X7_snapped l G M11 hx12) (by decide) rfl hl.1 rfl (Nat.le_of_ble_eq_true rfl) dX7_snaps_44) hW (fun H locs hW => ?_)
          refine lv_iload_n hx hb dX7_snaps_47 rfl (lv_at hl 1 rfl) ?_
          refine lv_icmp_le (tgt := 55) hx hb dX7_snaps_48 (by decide) (fun c13 => ?_) (fun c13 => ?_)
          · replace hk := ite_t hk c13
            refine lv_iload_n hx hb dX7_snaps_55 rfl (lv_at hl 2 rfl) ?_
            obtain rfl := Option.some.inj hk
            exact KJ17 _ _ _ hW (lv_sub hl [0, 1, 3] rfl)
          · replace hk := ite_f hk c13
            refine lv_iload_n hx hb dX7_snaps_51 rfl (lv_at hl 3 rfl) ?_
            refine lv_goto (tgt := 56) hx hb dX7_snaps_52 (by decide) ?_
            obtain rfl := Option.some.inj hk
            exact KJ17 _ _ _ hW (lv_sub hl [0, 1, 3] rfl)
  exact LH15 FU _ _ _ _ _ _ hz22 hW (lv_sub hl [3, 2, 1, 0] rfl)
