def f_X3_isNumber (o0 : Nat) (a1 : Int32) (a2 : Int32) (M : Mem) : Int32 :=
  if (M.1 o0 4) = (2 : Int32) then (
    if (f_X6_outside (M.1 o0 5) a1 a2) = (0 : Int32) then (
      (1 : Int32))
    else (
      (0 : Int32)))
  else (
    (0 : Int32))
theorem b_X3_isNumber (o0 : Nat) (a1 : Int32) (a2 : Int32) (M : Mem) : f_X3_isNumber o0 a1 a2 M = 0 ∨ f_X3_isNumber o0 a1 a2 M = 1 := by
  obtain ⟨r, hk⟩ : ∃ r, f_X3_isNumber o0 a1 a2 M = r := ⟨_, rfl⟩
  rw [hk]; unfold f_X3_isNumber at hk
  first | (repeat' (split at hk)) | skip
  all_goals (rw [← hk]; first | exact Or.inl rfl | exact Or.inr rfl)
set_option maxHeartbeats 4000000 in
set_option maxRecDepth 100000 in
theorem c_X3_isNumber (l : Launch) (G : GT) {o0 : Nat} (h0 : kd o0 = 3) (a1 : Int32) (a2 : Int32) (M : Mem) : CMi l G true yX3_isNumber cX3_isNumber 3 (some .boolean) 1 [.ref (ad G o0), .int a1, .int a2] M (f_X3_isNumber o0 a1 a2 M) M := by
  obtain ⟨r, hk⟩ : ∃ r, f_X3_isNumber o0 a1 a2 M = r := ⟨_, rfl⟩
  rw [hk]
  unfold f_X3_isNumber at hk
  refine CMi.ofZ (by decide) (Nat.le_of_ble_eq_true rfl) ?_
  intro p e s m args below meth c Q hx hb hml hown hg hK hW hret ls hl
  have hl : lv_has ls 3 [(0, .ref (ad G o0)), (1, .int a1), (2, .int a2)] := hl
  refine lv_aload_n hx hb dX3_isNumber_0 rfl (lv_at hl 0 rfl) ?_
  refine gt_X3_25 hx hb hg hown hK hW h0 dX3_isNumber_1 ?_
  refine lv_iconst (v := (2 : Int32)) hx hb dX3_isNumber_4 (by decide) ?_
  refine lv_icmp_ne (tgt := 24) hx hb dX3_isNumber_5 (by decide) (fun c3 => ?_) (fun c3 => ?_)
  · replace hk := ite_f hk c3
    refine lv_iconst (v := (0 : Int32)) hx hb dX3_isNumber_24 (by decide) ?_
    subst hk
    exact hret _ _ _ _ (Or.inl rfl) hW dX3_isNumber_25
  · replace hk := ite_t hk c3
    refine lv_aload_n hx hb dX3_isNumber_8 rfl (lv_at hl 0 rfl) ?_
    refine gt_X3_28 hx hb hg hown hK hW h0 dX3_isNumber_9 ?_
    refine lv_iload_n hx hb dX3_isNumber_12 rfl (lv_at hl 1 rfl) ?_
    refine lv_iload_n hx hb dX3_isNumber_13 rfl (lv_at hl 2 rfl) ?_
    refine cl_i (rn_SN n_348 g_279 g_1 g_280 hd_X6_outside (Nat.le_of_ble_eq_true rfl) hx hb hml hown hg hK hW (As := [.int (M.1 o0 5), .int a1, .int a2]) (c_X6_outside l G (M.1 o0 5) a1 a2 M) (by decide) rfl hl.1 rfl (Nat.le_of_ble_eq_true rfl) dX3_isNumber_14) hW (fun H locs hW => ?_)
    refine lv_if_ne (tgt := 24) hx hb dX3_isNumber_17 (by decide) (fun c2 => ?_) (fun c2 => ?_)
    · replace hk := ite_f hk c2
      refine lv_iconst (v := (0 : Int32)) hx hb dX3_isNumber_24 (by decide) ?_
      subst hk
      exact hret _ _ _ _ (Or.inl rfl) hW dX3_isNumber_25
    · replace hk := ite_t hk c2
      refine lv_iconst (v := (1 : Int32)) hx hb dX3_isNumber_20 (by decide) ?_
      refine lv_goto (tgt := 25) hx hb dX3_isNumber_21 (by decide) ?_
      subst hk
      exact hret _ _ _ _ (Or.inr rfl) hW dX3_isNumber_25
def f_X3_takeNumber (o0 : Nat) (a1 : Int32) (a2 : Int32) (M : Mem) : Option (Int32 × Mem) :=
  ob (f_X3_advance o0 M) (fun M2 =>
  some ((f_X3_isNumber o0 a1 a2 M2), M2))
set_option maxHeartbeats 4000000 in
set_option maxRecDepth 100000 in
theorem c_X3_takeNumber (l : Launch) (G : GT) {o0 : Nat} (h0 : kd o0 = 3) (a1 : Int32) (a2 : Int32) (M : Mem) {r : Int32} {M' : Mem} (hk : f_X3_takeNumber o0 a1 a2 M = some (r, M')) : CMi l G true yX3_takeNumber cX3_takeNumber 3 (some .boolean) 2 [.ref (ad G o0), .int a1, .int a2] M r M' := by
  unfold f_X3_takeNumber at hk
  refine CMi.ofZ (by decide) (Nat.le_of_ble_eq_true rfl) ?_
  intro p e s m args below meth c Q hx hb hml hown hg hK hW hret ls hl
  have hl : lv_has ls 3 [(0, .ref (ad G o0)), (1, .int a1), (2, .int a2)] := hl
  refine lv_aload_n hx hb dX3_takeNumber_0 rfl (lv_at hl 0 rfl) ?_
  replace hk := ob_s hk
  obtain ⟨M2, hx1, hk⟩ := hk
  refine cl_v (rn_V g_337 g_339 gs_9 g_6 g_340 hd_X3_advance (Nat.le_of_ble_eq_true rfl) (ci := 3) rfl (inC h0 rfl) (shp3 h0) hx hb hml hown hg hK hW (As := []) (c_X3_advance l G h0 M hx1) (by decide) rfl hl.1 rfl (Nat.le_of_ble_eq_true rfl) dX3_takeNumber_1) hW (fun H locs hW => ?_)
  refine lv_aload_n hx hb dX3_takeNumber_4 rfl (lv_at hl 0 rfl) ?_
  refine lv_iload_n hx hb dX3_takeNumber_5 rfl (lv_at hl 1 rfl) ?_
  refine lv_iload_n hx hb dX3_takeNumber_6 rfl (lv_at hl 2 rfl) ?_
  refine cl_i (rn_V g_406 g_408 gs_13 g_6 g_409 hd_X3_isNumber (Nat.le_of_ble_eq_true rfl) (ci := 3) rfl (inC h0 rfl) (shp3 h0) hx hb hml hown hg hK hW (As := [.int a1, .int a2]) (c_X3_isNumber l G h0 a1 a2 M2) (by decide) rfl hl.1 rfl (Nat.le_of_ble_eq_true rfl) dX3_takeNumber_7) hW (fun H locs hW => ?_)
  have hz := (b_X3_isNumber o0 a1 a2 M2)
  obtain ⟨rfl, rfl⟩ := sp2 hk
  exact hret _ _ _ _ hz hW dX3_takeNumber_10
def f_X3_takeSemicolon (o0 : Nat) (M : Mem) : Option (Int32 × Mem) :=
  ob (f_X3_advance o0 M) (fun M2 =>
  if (M2.1 o0 4) = (3 : Int32) then (
    some ((1 : Int32), M2))
  else (
    some ((0 : Int32), M2)))
set_option maxHeartbeats 4000000 in
set_option maxRecDepth 100000 in
theorem c_X3_takeSemicolon (l : Launch) (G : GT) {o0 : Nat} (h0 : kd o0 = 3) (M : Mem) {r : Int32} {M' : Mem} (hk : f_X3_takeSemicolon o0 M = some (r, M')) : CMi l G true yX3_takeSemicolon cX3_takeSemicolon 1 (some .boolean) 2 [.ref (ad G o0)] M r M' := by
  unfold f_X3_takeSemicolon at hk
  refine CMi.ofZ (by decide) (Nat.le_of_ble_eq_true rfl) ?_
  intro p e s m args below meth c Q hx hb hml hown hg hK hW hret ls hl
  have hl : lv_has ls 1 [(0, .ref (ad G o0))] := hl
  refine lv_aload_n hx hb dX3_takeSemicolon_0 rfl (lv_at hl 0 rfl) ?_
  replace hk := ob_s hk
  obtain ⟨M2, hx1, hk⟩ := hk
  refine cl_v (rn_V g_337 g_339 gs_9 g_6 g_340 hd_X3_advance (Nat.le_of_ble_eq_true rfl) (ci := 3) rfl (inC h0 rfl) (shp3 h0) hx hb hml hown hg hK hW (As := []) (c_X3_advance l G h0 M hx1) (by decide) rfl hl.1 rfl (Nat.le_of_ble_eq_true rfl) dX3_takeSemicolon_1) hW (fun H locs hW => ?_)
  refine lv_aload_n hx hb dX3_takeSemicolon_4 rfl (lv_at hl 0 rfl) ?_
  refine gt_X3_25 hx hb hg hown hK hW h0 dX3_takeSemicolon_5 ?_
  refine lv_iconst (v := (3 : Int32)) hx hb dX3_takeSemicolon_8 (by decide) ?_
  refine lv_icmp_ne (tgt := 16) hx hb dX3_takeSemicolon_9 (by decide) (fun c3 => ?_) (fun c3 => ?_)
  · replace hk := ite_f hk c3
    refine lv_iconst (v := (0 : Int32)) hx hb dX3_takeSemicolon_16 (by decide) ?_
    obtain ⟨rfl, rfl⟩ := sp2 hk
    exact hret _ _ _ _ (Or.inl rfl) hW dX3_takeSemicolon_17
  · replace hk := ite_t hk c3
    refine lv_iconst (v := (1 : Int32)) hx hb dX3_takeSemicolon_12 (by decide) ?_
    refine lv_goto (tgt := 17) hx hb dX3_takeSemicolon_13 (by decide) ?_
    obtain ⟨rfl, rfl⟩ := sp2 hk
    exact hret _ _ _ _ (Or.inr rfl) hW dX3_takeSemicolon_17
def f_X3_takeLimb (o0 : Nat) (o1 : Nat) (M : Mem) : Option (Int32 × Mem) :=
  ob2 (f_X3_takeNumber o0 (0 : Int32) (5 : Int32) M) (fun x1 M2 =>
  if x1 = (0 : Int32) then (
    some ((0 : Int32), M2))
  else (
    lq (M2.1 o0 5) (fun x3 =>
    ob2 (f_X3_takeNumber o0 (0 : Int32) (5 : Int32) M2) (fun x4 M5 =>
    if x4 = (0 : Int32) then (
      some ((0 : Int32), M5))
    else (
      lq (M5.1 o0 5) (fun x6 =>
      ob2 (f_X3_takeNumber o0 (1 : Int32) (9 : Int32) M5) (fun x7 M8 =>
      if x7 = (0 : Int32) then (
        some ((0 : Int32), M8))
      else (
        lq (M8.1 o0 5) (fun x9 =>
        ob2 (f_X3_takeNumber o0 (1 : Int32) (20 : Int32) M8) (fun x10 M11 =>
        if x10 = (0 : Int32) then (
          some ((0 : Int32), M11))
        else (
          lq (M11.1 o0 5) (fun x12 =>
          ob2 (f_X3_takeNumber o0 (0 : Int32) (8 : Int32) M11) (fun x13 M14 =>
          if x13 = (0 : Int32) then (
            some ((0 : Int32), M14))
          else (
            ob2 (f_X2_add o1 x3 x6 x9 x12 (M14.1 o0 5) M14) (fun x15 M16 =>
            ob2 (f_X3_takeSemicolon o0 M16) (fun x17 M18 =>
            if x17 = 0 ∨ x17 = 1 then some (x17, M18) else none))))))))))))))))
set_option maxHeartbeats 4000000 in
set_option maxRecDepth 100000 in
theorem c_X3_takeLimb (l : Launch) (G : GT) {o0 : Nat} (h0 : kd o0 = 3) {o1 : Nat} (h1 : kd o1 = 2) (M : Mem) {r : Int32} {M' : Mem} (hk : f_X3_takeLimb o0 o1 M = some (r, M')) : CMi l G true yX3_takeLimb cX3_takeLimb 6 (some .boolean) 3 [.ref (ad G o0), .ref (ad G o1)] M r M' := by
  unfold f_X3_takeLimb at hk
  refine CMi.ofZ (by decide) (Nat.le_of_ble_eq_true rfl) ?_
  intro p e s m args below meth c Q hx hb hml hown hg hK hW hret ls hl
  have hl : lv_has ls 6 [(0, .ref (ad G o0)), (1, .ref (ad G o1))] := hl
  refine lv_aload_n hx hb dX3_takeLimb_0 rfl (lv_at hl 0 rfl) ?_
  refine lv_iconst (v := (0 : Int32)) hx hb dX3_takeLimb_1 (by decide) ?_
  refine lv_iconst (v := (5 : Int32)) hx hb dX3_takeLimb_2 (by decide) ?_
  replace hk := ob2_s hk
  obtain ⟨x1, M2, hx1, hk⟩ := hk
  refine cl_i (rn_V g_402 g_404 gs_12 g_6 g_405 hd_X3_takeNumber (Nat.le_of_ble_eq_true rfl) (ci := 3) rfl (inC h0 rfl) (shp3 h0) hx hb hml hown hg hK hW (As := [.int (0 : Int32), .int (5 : Int32)]) (c_X3_takeNumber l G h0 (0 : Int32) (5 : Int32) M hx1) (by decide) rfl hl.1 rfl (Nat.le_of_ble_eq_true rfl) dX3_takeLimb_3) hW (fun H locs hW => ?_)
  refine lv_if_ne (tgt := 11) hx hb dX3_takeLimb_6 (by decide) (fun c23 => ?_) (fun c23 => ?_)
  · replace hk := ite_f hk c23
    refine lv_aload_n hx hb dX3_takeLimb_11 rfl (lv_at hl 0 rfl) ?_
    refine gt_X3_28 hx hb hg hown hK hW h0 dX3_takeLimb_12 ?_
    replace hk := lq_s hk
    obtain ⟨x3, ex3, hk⟩ := hk
    refine nm_i ex3 ?_
    refine lv_istore_n (lv' := [(2, .int x3), (0, .ref (ad G o0)), (1, .ref (ad G o1))]) hx hb dX3_takeLimb_15 rfl hl (by decide) rfl (fun ls hl => ?_)
    refine lv_aload_n hx hb dX3_takeLimb_16 rfl (lv_at hl 1 rfl) ?_
    refine lv_iconst (v := (0 : Int32)) hx hb dX3_takeLimb_17 (by decide) ?_
    refine lv_iconst (v := (5 : Int32)) hx hb dX3_takeLimb_18 (by decide) ?_
    replace hk := ob2_s hk
    obtain ⟨x4, M5, hx4, hk⟩ := hk
    refine cl_i (rn_V g_402 g_404 gs_12 g_6 g_405 hd_X3_takeNumber (Nat.le_of_ble_eq_true rfl) (ci := 3) rfl (inC h0 rfl) (shp3 h0) hx hb hml hown hg hK hW (As := [.int (0 : Int32), .int (5 : Int32)]) (c_X3_takeNumber l G h0 (0 : Int32) (5 : Int32) M2 hx4) (by decide) rfl hl.1 rfl (Nat.le_of_ble_eq_true rfl) dX3_takeLimb_19) hW (fun H locs hW => ?_)
    refine lv_if_ne (tgt := 27) hx hb dX3_takeLimb_22 (by decide) (fun c22 => ?_) (fun c22 => ?_)
    · replace hk := ite_f hk c22
      refine lv_aload_n hx hb dX3_takeLimb_27 rfl (lv_at hl 1 rfl) ?_
      refine gt_X3_28 hx hb hg hown hK hW h0 dX3_takeLimb_28 ?_
      replace hk := lq_s hk
      obtain ⟨x6, ex6, hk⟩ := hk
      refine nm_i ex6 ?_
      refine lv_istore_n (lv' := [(3, .int x6), (2, .int x3), (0, .ref (ad G o0)), (1, .ref (ad G o1))]) hx hb dX3_takeLimb_31 rfl hl (by decide) rfl (fun ls hl => ?_)
      refine lv_aload_n hx hb dX3_takeLimb_32 rfl (lv_at hl 2 rfl) ?_
      refine lv_iconst (v := (1 : Int32)) hx hb dX3_takeLimb_33 (by decide) ?_
      refine lv_bipush (v := (9 : Int32)) hx hb dX3_takeLimb_34 (by decide) ?_
      replace hk := ob2_s hk
      obtain ⟨x7, M8, hx7, hk⟩ := hk
      refine cl_i (rn_V g_402 g_404 gs_12 g_6 g_405 hd_X3_takeNumber (Nat.le_of_ble_eq_true rfl) (ci := 3) rfl (inC h0 rfl) (shp3 h0) hx hb hml hown hg hK hW (As := [.int (1 : Int32), .int (9 : Int32)]) (c_X3_takeNumber l G h0 (1 : Int32) (9 : Int32) M5 hx7) (by decide) rfl hl.1 rfl (Nat.le_of_ble_eq_true rfl) dX3_takeLimb_36) hW (fun H locs hW => ?_)
      refine lv_if_ne (tgt := 44) hx hb dX3_takeLimb_39 (by decide) (fun c21 => ?_) (fun c21 => ?_)
      · replace hk := ite_f hk c21
        refine lv_aload_n hx hb dX3_takeLimb_44 rfl (lv_at hl 2 rfl) ?_
        refine gt_X3_28 hx hb hg hown hK hW h0 dX3_takeLimb_45 ?_
        replace hk := lq_s hk
        obtain ⟨x9, ex9, hk⟩ := hk
        refine nm_i ex9 ?_
        refine lv_istore (lv' := [(4, .int x9), (3, .int x6), (2, .int x3), (0, .ref (ad G o0)), (1, .ref (ad G o1))]) hx hb dX3_takeLimb_48 hl (by decide) rfl (fun ls hl => ?_)
        refine lv_aload_n hx hb dX3_takeLimb_50 rfl (lv_at hl 3 rfl) ?_
        refine lv_iconst (v := (1 : Int32)) hx hb dX3_takeLimb_51 (by decide) ?_
        refine lv_bipush (v := (20 : Int32)) hx hb dX3_takeLimb_52 (by decide) ?_
        replace hk := ob2_s hk
        obtain ⟨x10, M11, hx10, hk⟩ := hk
        refine cl_i (rn_V g_402 g_404 gs_12 g_6 g_405 hd_X3_takeNumber (Nat.le_of_ble_eq_true rfl) (ci := 3) rfl (inC h0 rfl) (shp3 h0) hx hb hml hown hg hK hW (As := [.int (1 : Int32), .int (20 : Int32)]) (c_X3_takeNumber l G h0 (1 : Int32) (20 : Int32) M8 hx10) (by decide) rfl hl.1 rfl (Nat.le_of_ble_eq_true rfl) dX3_takeLimb_54) hW (fun H locs hW => ?_)
        refine lv_if_ne (tgt := 62) hx hb dX3_takeLimb_57 (by decide) (fun c20 => ?_) (fun c20 => ?_)
        · replace hk := ite_f hk c20
          refine lv_aload_n hx hb dX3_takeLimb_62 rfl (lv_at hl 3 rfl) ?_
          refine gt_X3_28 hx hb hg hown hK hW h0 dX3_takeLimb_63 ?_
          replace hk := lq_s hk
          obtain ⟨x12, ex12, hk⟩ := hk
          refine nm_i ex12 ?_
          refine lv_istore (lv' := [(5, .int x12), (4, .int x9), (3, .int x6), (2, .int x3), (0, .ref (ad G o0)), (1, .ref (ad G o1))]) hx hb dX3_takeLimb_66 hl (by decide) rfl (fun ls hl => ?_)
          refine lv_aload_n hx hb dX3_takeLimb_68 rfl (lv_at hl 4 rfl) ?_
          refine lv_iconst (v := (0 : Int32)) hx hb dX3_takeLimb_69 (by decide) ?_
          refine lv_bipush (v := (8 : Int32)) hx hb dX3_takeLimb_70 (by decide) ?_
          replace hk := ob2_s hk
          obtain ⟨x13, M14, hx13, hk⟩ := hk
          refine cl_i (rn_V g_402 g_404 gs_12 g_6 g_405 hd_X3_takeNumber (Nat.le_of_ble_eq_true rfl) (ci := 3) rfl (inC h0 rfl) (shp3 h0) hx hb hml hown hg hK hW (As := [.int (0 : Int32), .int (8 : Int32)]) (c_X3_takeNumber l G h0 (0 : Int32) (8 : Int32) M11 hx13) (by decide) rfl hl.1 rfl (Nat.le_of_ble_eq_true rfl) dX3_takeLimb_72) hW (fun H locs hW => ?_)
          refine lv_if_ne (tgt := 80) hx hb dX3_takeLimb_75 (by decide) (fun c19 => ?_) (fun c19 => ?_)
          · replace hk := ite_f hk c19
            refine lv_aload_n hx hb dX3_takeLimb_80 rfl (lv_at hl 5 rfl) ?_
            refine lv_iload_n hx hb dX3_takeLimb_81 rfl (lv_at hl 3 rfl) ?_
            refine lv_iload_n hx hb dX3_takeLimb_82 rfl (lv_at hl 2 rfl) ?_
            refine lv_iload hx hb dX3_takeLimb_83 (lv_at hl 1 rfl) ?_
            refine lv_iload hx hb dX3_takeLimb_85 (lv_at hl 0 rfl) ?_
            refine lv_aload_n hx hb dX3_takeLimb_87 rfl (lv_at hl 4 rfl) ?_
            refine gt_X3_28 hx hb hg hown hK hW h0 dX3_takeLimb_88 ?_
            replace hk := ob2_s hk
            obtain ⟨x15, M16, hx15, hk⟩ := hk
            refine cl_i (rn_VN n_424 g_310 gs_5 g_2 g_311 hd_X2_add (Nat.le_of_ble_eq_true rfl) (ci := 2) rfl (inC h1 rfl) (shp2 h1) hx hb hml hown hg hK hW (As := [.int x3, .int x6, .int x9, .int x12, .int (M14.1 o0 5)]) (c_X2_add l G h1 x3 x6 x9 x12 (M14.1 o0 5) M14 hx15) (by decide) rfl hl.1 rfl (Nat.le_of_ble_eq_true rfl) dX3_takeLimb_91) hW (fun H locs hW => ?_)
            refine lv_pop hx hb dX3_takeLimb_94 rfl ?_
            refine lv_aload_n hx hb dX3_takeLimb_95 rfl (lv_at hl 4 rfl) ?_
            replace hk := ob2_s hk
            obtain ⟨x17, M18, hx17, hk⟩ := hk
            refine cl_i (rn_V g_411 g_413 gs_14 g_6 g_414 hd_X3_takeSemicolon (Nat.le_of_ble_eq_true rfl) (ci := 3) rfl (inC h0 rfl) (shp3 h0) hx hb hml hown hg hK hW (As := []) (c_X3_takeSemicolon l G h0 M16 hx17) (by decide) rfl hl.1 rfl (Nat.le_of_ble_eq_true rfl) dX3_takeLimb_96) hW (fun H locs hW => ?_)
            by_cases hz : x17 = 0 ∨ x17 = 1
            · replace hk := ite_t hk hz
              obtain ⟨rfl, rfl⟩ := sp2 hk
              exact hret _ _ _ _ hz hW dX3_takeLimb_99
            · replace hk := ite_f hk hz
              cases hk
          · replace hk := ite_t hk c19
            refine lv_iconst (v := (0 : Int32)) hx hb dX3_takeLimb_78 (by decide) ?_
            obtain ⟨rfl, rfl⟩ := sp2 hk
            exact hret _ _ _ _ (Or.inl rfl) hW dX3_takeLimb_79
        · replace hk := ite_t hk c20
          refine lv_iconst (v := (0 : Int32)) hx hb dX3_takeLimb_60 (by decide) ?_
          obtain ⟨rfl, rfl⟩ := sp2 hk
          exact hret _ _ _ _ (Or.inl rfl) hW dX3_takeLimb_61
      · replace hk := ite_t hk c21
        refine lv_iconst (v := (0 : Int32)) hx hb dX3_takeLimb_42 (by decide) ?_
        obtain ⟨rfl, rfl⟩ := sp2 hk
        exact hret _ _ _ _ (Or.inl rfl) hW dX3_takeLimb_43
    · replace hk := ite_t hk c22
      refine lv_iconst (v := (0 : Int32)) hx hb dX3_takeLimb_25 (by decide) ?_
      obtain ⟨rfl, rfl⟩ := sp2 hk
      exact hret _ _ _ _ (Or.inl rfl) hW dX3_takeLimb_26
  · replace hk := ite_t hk c23
    refine lv_iconst (v := (0 : Int32)) hx hb dX3_takeLimb_9 (by decide) ?_
    obtain ⟨rfl, rfl⟩ := sp2 hk
    exact hret _ _ _ _ (Or.inl rfl) hW dX3_takeLimb_10
def f_X3_takeMoves_L2 (o0 : Nat) (o1 : Nat) : Nat → Int32 → Mem → Option ((Int32 × Mem) ⊕ (Int32 × Mem))
  | 0, _, _ => none
  | n + 1, x1, M2 =>
    if (9 : Int32) < x1 then (
      some (Sum.inl (x1, M2)))
    else (
      ob (f_X3_advance o0 M2) (fun M6 =>
      if x1 ≤ (0 : Int32) then (
        if x1 = (9 : Int32) then (
          some (Sum.inr ((0 : Int32), M6)))
        else (
          if (f_X3_isNumber o0 (0 : Int32) (4 : Int32) M6) = (0 : Int32) then (
            some (Sum.inr ((0 : Int32), M6)))
          else (
            ob (f_X2_step o1 (o1 + 5) (M6.1 o0 5) M6) (fun M9 =>
            lq (x1 + (1 : Int32)) (fun x10 =>
            f_X3_takeMoves_L2 o0 o1 n x10 M9)))))
      else (
        if (M6.1 o0 4) = (3 : Int32) then (
          some (Sum.inr ((1 : Int32), M6)))
        else (
          if x1 = (9 : Int32) then (
            some (Sum.inr ((0 : Int32), M6)))
          else (
            if (f_X3_isNumber o0 (0 : Int32) (4 : Int32) M6) = (0 : Int32) then (
              some (Sum.inr ((0 : Int32), M6)))
            else (
              ob (f_X2_step o1 (o1 + 5) (M6.1 o0 5) M6) (fun M15 =>
              lq (x1 + (1 : Int32)) (fun x16 =>
              f_X3_takeMoves_L2 o0 o1 n x16 M15))))))))
def f_X3_takeMoves (o0 : Nat) (o1 : Nat) (M : Mem) : Option (Int32 × Mem) :=
  oeT2 (f_X3_takeMoves_L2 o0 o1 FU (0 : Int32) M) (fun x3 M4 =>
  some ((0 : Int32), M4))
set_option maxHeartbeats 4000000 in
set_option maxRecDepth 100000 in
theorem c_X3_takeMoves (l : Launch) (G : GT) {o0 : Nat} (h0 : kd o0 = 3) {o1 : Nat} (h1 : kd o1 = 2) (M : Mem) {r : Int32} {M' : Mem} (hk : f_X3_takeMoves o0 o1 M = some (r, M')) : CMi l G true yX3_takeMoves cX3_takeMoves 3 (some .boolean) 3 [.ref (ad G o0), .ref (ad G o1)] M r M' := by
  unfold f_X3_takeMoves at hk
  refine CMi.ofZ (by decide) (Nat.le_of_ble_eq_true rfl) ?_
  intro p e s m args below meth c Q hx hb hml hown hg hK hW hret ls hl
  have hl : lv_has ls 3 [(0, .ref (ad G o0)), (1, .ref (ad G o1))] := hl
  refine lv_iconst (v := (0 : Int32)) hx hb dX3_takeMoves_0 (by decide) ?_
  refine lv_istore_n (lv' := [(2, .int (0 : Int32)), (0, .ref (ad G o0)), (1, .ref (ad G o1))]) hx hb dX3_takeMoves_1 rfl hl (by decide) rfl (fun ls hl => ?_)
  replace hk := oeT2_s hk
  obtain ⟨z23, hz22, hk_2⟩ := hk
  have KX2 : ∀ (x3 : Int32) (M4 : Mem), z23 = Sum.inl (x3, M4) → ∀ (H : Heap) (locs : List Loc) (ls : Array Slot), Ws G true M4 s H locs → lv_has ls 3 [] → Wx p l e 3 s m args below meth c Q H locs 61 ls [] := by
    intro x3 M4 ez H locs ls hW hl
    have hk := hk_2.1 x3 M4 ez
    refine lv_iconst (v := (0 : Int32)) hx hb dX3_takeMoves_61 (by decide) ?_
    obtain ⟨rfl, rfl⟩ := sp2 hk
    exact hret _ _ _ _ (Or.inl rfl) hW dX3_takeMoves_62
  have LH2 : ∀ (n : Nat) (x1 : Int32) (M2 : Mem) (H : Heap) (locs : List Loc) (ls : Array Slot), f_X3_takeMoves_L2 o0 o1 n x1 M2 = some z23 → Ws G true M2 s H locs → lv_has ls 3 [(0, .ref (ad G o0)), (1, .ref (ad G o1)), (2, .int x1)] → Wx p l e 3 s m args below meth c Q H locs 2 ls [] := by
    clear hz22
    intro n
    induction n with
    | zero => intro _ _ _ _ _ hk; cases hk
    | succ n ih2 =>
      intro x1 M2 H locs ls hk hW hl
      rw [f_X3_takeMoves_L2.eq_2] at hk
      refine lv_iload_n hx hb dX3_takeMoves_2 rfl (lv_at hl 2 rfl) ?_
      refine lv_bipush (v := (9 : Int32)) hx hb dX3_takeMoves_3 (by decide) ?_
      refine lv_icmp_gt (tgt := 61) hx hb dX3_takeMoves_5 (by decide) (fun c21 => ?_) (fun c21 => ?_)
      · replace hk := ite_t hk c21
        obtain rfl := Option.some.inj hk
        exact KX2 _ _ rfl _ _ _ hW (lv_sub hl [] rfl)
      · replace hk := ite_f hk c21
        refine lv_aload_n hx hb dX3_takeMoves_8 rfl (lv_at hl 0 rfl) ?_
        replace hk := ob_s hk
        obtain ⟨M6, hx5, hk⟩ := hk
        refine cl_v (rn_V g_337 g_339 gs_9 g_6 g_340 hd_X3_advance (Nat.le_of_ble_eq_true rfl) (ci := 3) rfl (inC h0 rfl) (shp3 h0) hx hb hml hown hg hK hW (As := []) (c_X3_advance l G h0 M2 hx5) (by decide) rfl hl.1 rfl (Nat.le_of_ble_eq_true rfl) dX3_takeMoves_9) hW (fun H locs hW => ?_)
        refine lv_iload_n hx hb dX3_takeMoves_12 rfl (lv_at hl 2 rfl) ?_
        refine lv_if_le (tgt := 26) hx hb dX3_takeMoves_13 (by decide) (fun c20 => ?_) (fun c20 => ?_)
        · replace hk := ite_t hk c20
          refine lv_iload_n hx hb dX3_takeMoves_26 rfl (lv_at hl 2 rfl) ?_
          refine lv_bipush (v := (9 : Int32)) hx hb dX3_takeMoves_27 (by decide) ?_
          refine lv_icmp_eq (tgt := 41) hx hb dX3_takeMoves_29 (by decide) (fun c12 => ?_) (fun c12 => ?_)
          · replace hk := ite_t hk c12
            refine lv_iconst (v := (0 : Int32)) hx hb dX3_takeMoves_41 (by decide) ?_
            obtain rfl := Option.some.inj hk
            have hk := hk_2.2 _ rfl
            obtain ⟨rfl, rfl⟩ := sp2 hk
            exact hret _ _ _ _ (Or.inl rfl) hW dX3_takeMoves_42
          · replace hk := ite_f hk c12
            refine lv_aload_n hx hb dX3_takeMoves_32 rfl (lv_at hl 0 rfl) ?_
            refine lv_iconst (v := (0 : Int32)) hx hb dX3_takeMoves_33 (by decide) ?_
            refine lv_iconst (v := (4 : Int32)) hx hb dX3_takeMoves_34 (by decide) ?_
            refine cl_i (rn_V g_406 g_408 gs_13 g_6 g_409 hd_X3_isNumber (Nat.le_of_ble_eq_true rfl) (ci := 3) rfl (inC h0 rfl) (shp3 h0) hx hb hml hown hg hK hW (As := [.int (0 : Int32), .int (4 : Int32)]) (c_X3_isNumber l G h0 (0 : Int32) (4 : Int32) M6) (by decide) rfl hl.1 rfl (Nat.le_of_ble_eq_true rfl) dX3_takeMoves_35) hW (fun H locs hW => ?_)
            refine lv_if_ne (tgt := 43) hx hb dX3_takeMoves_38 (by decide) (fun c11 => ?_) (fun c11 => ?_)
            · replace hk := ite_f hk c11
              refine lv_aload_n hx hb dX3_takeMoves_43 rfl (lv_at hl 1 rfl) ?_
              refine lv_aload_n hx hb dX3_takeMoves_44 rfl (lv_at hl 1 rfl) ?_
              refine gt_X3_95 hx hb hg hown hK hW h1 dX3_takeMoves_45 ?_
              refine lv_aload_n hx hb dX3_takeMoves_48 rfl (lv_at hl 0 rfl) ?_
              refine gt_X3_28 hx hb hg hown hK hW h0 dX3_takeMoves_49 ?_
              replace hk := ob_s hk
              obtain ⟨M9, hx8, hk⟩ := hk
              refine cl_v (rn_VN n_430 g_432 gs_18 g_2 g_433 hd_X2_step (Nat.le_of_ble_eq_true rfl) (ci := 2) rfl (inC h1 rfl) (shp2 h1) hx hb hml hown hg hK hW (As := [.ref (ad G (o1 + 5)), .int (M6.1 o0 5)]) (c_X2_step l G h1 (k2_5 h1) (M6.1 o0 5) M6 hx8) (by decide) rfl hl.1 rfl (Nat.le_of_ble_eq_true rfl) dX3_takeMoves_52) hW (fun H locs hW => ?_)
              replace hk := lq_s hk
              obtain ⟨x10, ex10, hk⟩ := hk
              refine lv_iinc (v := x10) (lv' := [(2, .int x10), (0, .ref (ad G o0)), (1, .ref (ad G o1))]) hx hb dX3_takeMoves_55 hl (k := 2) rfl (by rw [ex10]; rfl) (by decide) rfl (fun ls hl => ?_)
              refine lv_goto (tgt := 2) hx hb dX3_takeMoves_58 (by decide) ?_
              exact ih2 _ _ _ _ _ hk hW (lv_sub hl [1, 2, 0] rfl)
            · replace hk := ite_t hk c11
              refine lv_iconst (v := (0 : Int32)) hx hb dX3_takeMoves_41 (by decide) ?_
              obtain rfl := Option.some.inj hk
              have hk := hk_2.2 _ rfl
              obtain ⟨rfl, rfl⟩ := sp2 hk
              exact hret _ _ _ _ (Or.inl rfl) hW dX3_takeMoves_42
        · replace hk := ite_f hk c20
          refine lv_aload_n hx hb dX3_takeMoves_16 rfl (lv_at hl 0 rfl) ?_
          refine gt_X3_25 hx hb hg hown hK hW h0 dX3_takeMoves_17 ?_
          refine lv_iconst (v := (3 : Int32)) hx hb dX3_takeMoves_20 (by decide) ?_
          refine lv_icmp_ne (tgt := 26) hx hb dX3_takeMoves_21 (by decide) (fun c19 => ?_) (fun c19 => ?_)
          · replace hk := ite_f hk c19
            refine lv_iload_n hx hb dX3_takeMoves_26 rfl (lv_at hl 2 rfl) ?_
            refine lv_bipush (v := (9 : Int32)) hx hb dX3_takeMoves_27 (by decide) ?_
            refine lv_icmp_eq (tgt := 41) hx hb dX3_takeMoves_29 (by decide) (fun c18 => ?_) (fun c18 => ?_)
            · replace hk := ite_t hk c18
              refine lv_iconst (v := (0 : Int32)) hx hb dX3_takeMoves_41 (by decide) ?_
              obtain rfl := Option.some.inj hk
              have hk := hk_2.2 _ rfl
              obtain ⟨rfl, rfl⟩ := sp2 hk
              exact hret _ _ _ _ (Or.inl rfl) hW dX3_takeMoves_42
            · replace hk := ite_f hk c18
              refine lv_aload_n hx hb dX3_takeMoves_32 rfl (lv_at hl 0 rfl) ?_
              refine lv_iconst (v := (0 : Int32)) hx hb dX3_takeMoves_33 (by decide) ?_
              refine lv_iconst (v := (4 : Int32)) hx hb dX3_takeMoves_34 (by decide) ?_
              refine cl_i (rn_V g_406 g_408 gs_13 g_6 g_409 hd_X3_isNumber (Nat.le_of_ble_eq_true rfl) (ci := 3) rfl (inC h0 rfl) (shp3 h0) hx hb hml hown hg hK hW (As := [.int (0 : Int32), .int (4 : Int32)]) (c_X3_isNumber l G h0 (0 : Int32) (4 : Int32) M6) (by decide) rfl hl.1 rfl (Nat.le_of_ble_eq_true rfl) dX3_takeMoves_35) hW (fun H locs hW => ?_)
              refine lv_if_ne (tgt := 43) hx hb dX3_takeMoves_38 (by decide) (fun c17 => ?_) (fun c17 => ?_)
              · replace hk := ite_f hk c17
                refine lv_aload_n hx hb dX3_takeMoves_43 rfl (lv_at hl 1 rfl) ?_
                refine lv_aload_n hx hb dX3_takeMoves_44 rfl (lv_at hl 1 rfl) ?_
                refine gt_X3_95 hx hb hg hown hK hW h1 dX3_takeMoves_45 ?_
                refine lv_aload_n hx hb dX3_takeMoves_48 rfl (lv_at hl 0 rfl) ?_
                refine gt_X3_28 hx hb hg hown hK hW h0 dX3_takeMoves_49 ?_
                replace hk := ob_s hk
                obtain ⟨M15, hx14, hk⟩ := hk
                refine cl_v (rn_VN n_430 g_432 gs_18 g_2 g_433 hd_X2_step (Nat.le_of_ble_eq_true rfl) (ci := 2) rfl (inC h1 rfl) (shp2 h1) hx hb hml hown hg hK hW (As := [.ref (ad G (o1 + 5)), .int (M6.1 o0 5)]) (c_X2_step l G h1 (k2_5 h1) (M6.1 o0 5) M6 hx14) (by decide) rfl hl.1 rfl (Nat.le_of_ble_eq_true rfl) dX3_takeMoves_52) hW (fun H locs hW => ?_)
                replace hk := lq_s hk
                obtain ⟨x16, ex16, hk⟩ := hk
                refine lv_iinc (v := x16) (lv' := [(2, .int x16), (0, .ref (ad G o0)), (1, .ref (ad G o1))]) hx hb dX3_takeMoves_55 hl (k := 2) rfl (by rw [ex16]; rfl) (by decide) rfl (fun ls hl => ?_)
                refine lv_goto (tgt := 2) hx hb dX3_takeMoves_58 (by decide) ?_
                exact ih2 _ _ _ _ _ hk hW (lv_sub hl [1, 2, 0] rfl)
              · replace hk := ite_t hk c17
                refine lv_iconst (v := (0 : Int32)) hx hb dX3_takeMoves_41 (by decide) ?_
                obtain rfl := Option.some.inj hk
                have hk := hk_2.2 _ rfl
                obtain ⟨rfl, rfl⟩ := sp2 hk
                exact hret _ _ _ _ (Or.inl rfl) hW dX3_takeMoves_42
          · replace hk := ite_t hk c19
            refine lv_iconst (v := (1 : Int32)) hx hb dX3_takeMoves_24 (by decide) ?_
            obtain rfl := Option.some.inj hk
            have hk := hk_2.2 _ rfl
            obtain ⟨rfl, rfl⟩ := sp2 hk
            exact hret _ _ _ _ (Or.inr rfl) hW dX3_takeMoves_25
  exact LH2 FU _ _ _ _ _ hz22 hW (lv_sub hl [1, 2, 0] rfl)
def f_X3_takeTie (o0 : Nat) (o1 : Nat) (M : Mem) : Option (Int32 × Mem) :=
  ob2 (f_X3_takeNumber o0 (0 : Int32) ((M.1 o1 4) - (1 : Int32)) M) (fun x1 M2 =>
  if x1 = (0 : Int32) then (
    some ((0 : Int32), M2))
  else (
    ob (f_X2_wornOf o1 (M2.1 o0 5) M2) (fun x3 =>
    if (f_X6_isSnapped x3) = (0 : Int32) then (
      some ((0 : Int32), M2))
    else (
      ob (f_X6_put ((o1 + 5) + 2) (M2.1 o0 5) (0 : Int32) M2) (fun M6 =>
      ob2 (f_X3_takeSemicolon o0 M6) (fun x7 M8 =>
      if x7 = 0 ∨ x7 = 1 then some (x7, M8) else none))))))
set_option maxHeartbeats 4000000 in
set_option maxRecDepth 100000 in
theorem c_X3_takeTie (l : Launch) (G : GT) {o0 : Nat} (h0 : kd o0 = 3) {o1 : Nat} (h1 : kd o1 = 2) (M : Mem) {r : Int32} {M' : Mem} (hk : f_X3_takeTie o0 o1 M = some (r, M')) : CMi l G true yX3_takeTie cX3_takeTie 2 (some .boolean) 3 [.ref (ad G o0), .ref (ad G o1)] M r M' := by
  unfold f_X3_takeTie at hk
  refine CMi.ofZ (by decide) (Nat.le_of_ble_eq_true rfl) ?_
  intro p e s m args below meth c Q hx hb hml hown hg hK hW hret ls hl
  have hl : lv_has ls 2 [(0, .ref (ad G o0)), (1, .ref (ad G o1))] := hl
  refine lv_aload_n hx hb dX3_takeTie_0 rfl (lv_at hl 0 rfl) ?_
  refine lv_iconst (v := (0 : Int32)) hx hb dX3_takeTie_1 (by decide) ?_
  refine lv_aload_n hx hb dX3_takeTie_2 rfl (lv_at hl 1 rfl) ?_
  refine gt_X3_67 hx hb hg hown hK hW h1 dX3_takeTie_3 ?_
  refine lv_iconst (v := (1 : Int32)) hx hb dX3_takeTie_6 (by decide) ?_
  refine lv_isub hx hb dX3_takeTie_7 ?_
  replace hk := ob2_s hk
  obtain ⟨x1, M2, hx1, hk⟩ := hk
  refine cl_i (rn_V g_402 g_404 gs_12 g_6 g_405 hd_X3_takeNumber (Nat.le_of_ble_eq_true rfl) (ci := 3) rfl (inC h0 rfl) (shp3 h0) hx hb hml hown hg hK hW (As := [.int (0 : Int32), .int ((M.1 o1 4) - (1 : Int32))]) (c_X3_takeNumber l G h0 (0 : Int32) ((M.1 o1 4) - (1 : Int32)) M hx1) (by decide) rfl hl.1 rfl (Nat.le_of_ble_eq_true rfl) dX3_takeTie_8) hW (fun H locs hW => ?_)
  refine lv_if_eq (tgt := 28) hx hb dX3_takeTie_11 (by decide) (fun c10 => ?_) (fun c10 => ?_)
  · replace hk := ite_t hk c10
    refine lv_iconst (v := (0 : Int32)) hx hb dX3_takeTie_28 (by decide) ?_
    obtain ⟨rfl, rfl⟩ := sp2 hk
    exact hret _ _ _ _ (Or.inl rfl) hW dX3_takeTie_29
  · replace hk := ite_f hk c10
    refine lv_aload_n hx hb dX3_takeTie_14 rfl (lv_at hl 1 rfl) ?_
    refine lv_aload_n hx hb dX3_takeTie_15 rfl (lv_at hl 0 rfl) ?_
    refine gt_X3_28 hx hb hg hown hK hW h0 dX3_takeTie_16 ?_
    replace hk := ob_s hk
    obtain ⟨x3, hx3, hk⟩ := hk
    refine cl_i (rn_VN n_457 g_459 gs_21 g_2 g_460 hd_X2_wornOf (Nat.le_of_ble_eq_true rfl) (ci := 2) rfl (inC h1 rfl) (shp2 h1) hx hb hml hown hg hK hW (As := [.int (M2.1 o0 5)]) (c_X2_wornOf l G h1 (M2.1 o0 5) M2 hx3) (by decide) rfl hl.1 rfl (Nat.le_of_ble_eq_true rfl) dX3_takeTie_19) hW (fun H locs hW => ?_)
    refine cl_i (rn_SN n_461 g_462 g_1 g_463 hd_X6_isSnapped (Nat.le_of_ble_eq_true rfl) hx hb hml hown hg hK hW (As := [.int x3]) (c_X6_isSnapped l G x3 M2) (by decide) rfl hl.1 rfl (Nat.le_of_ble_eq_true rfl) dX3_takeTie_22) hW (fun H locs hW => ?_)
    refine lv_if_ne (tgt := 30) hx hb dX3_takeTie_25 (by decide) (fun c9 => ?_) (fun c9 => ?_)
    · replace hk := ite_f hk c9
      refine lv_aload_n hx hb dX3_takeTie_30 rfl (lv_at hl 1 rfl) ?_
      refine gt_X3_95 hx hb hg hown hK hW h1 dX3_takeTie_31 ?_
      refine gt_X3_111 hx hb hg hown hK hW (k2_5 h1) dX3_takeTie_34 ?_
      refine lv_aload_n hx hb dX3_takeTie_37 rfl (lv_at hl 0 rfl) ?_
      refine gt_X3_28 hx hb hg hown hK hW h0 dX3_takeTie_38 ?_
      refine lv_iconst (v := (0 : Int32)) hx hb dX3_takeTie_41 (by decide) ?_
      replace hk := ob_s hk
      obtain ⟨M6, hx5, hk⟩ := hk
      refine cl_v (rn_SN n_320 g_294 g_1 g_295 hd_X6_put (Nat.le_of_ble_eq_true rfl) hx hb hml hown hg hK hW (As := [.ref (ad G ((o1 + 5) + 2)), .int (M2.1 o0 5), .int (0 : Int32)]) (c_X6_put l G (k1_2 (k2_5 h1)) (M2.1 o0 5) (0 : Int32) M2 hx5) (by decide) rfl hl.1 rfl (Nat.le_of_ble_eq_true rfl) dX3_takeTie_42) hW (fun H locs hW => ?_)
      refine lv_aload_n hx hb dX3_takeTie_45 rfl (lv_at hl 0 rfl) ?_
      replace hk := ob2_s hk
      obtain ⟨x7, M8, hx7, hk⟩ := hk
      refine cl_i (rn_V g_411 g_413 gs_14 g_6 g_414 hd_X3_takeSemicolon (Nat.le_of_ble_eq_true rfl) (ci := 3) rfl (inC h0 rfl) (shp3 h0) hx hb hml hown hg hK hW (As := []) (c_X3_takeSemicolon l G h0 M6 hx7) (by decide) rfl hl.1 rfl (Nat.le_of_ble_eq_true rfl) dX3_takeTie_46) hW (fun H locs hW => ?_)
      by_cases hz : x7 = 0 ∨ x7 = 1
      · replace hk := ite_t hk hz
        obtain ⟨rfl, rfl⟩ := sp2 hk
        exact hret _ _ _ _ hz hW dX3_takeTie_49
      · replace hk := ite_f hk hz
        cases hk
    · replace hk := ite_t hk c9
      refine lv_iconst (v := (0 : Int32)) hx hb dX3_takeTie_28 (by decide) ?_
      obtain ⟨rfl, rfl⟩ := sp2 hk
      exact hret _ _ _ _ (Or.inl rfl) hW dX3_takeTie_29
def f_X3_takeHang (o0 : Nat) (o1 : Nat) (M : Mem) : Option (Int32 × Mem) :=
  ob2 (f_X3_takeNumber o0 (0 : Int32) ((M.1 o1 4) - (1 : Int32)) M) (fun x1 M2 =>
  if x1 = (0 : Int32) then (
    some ((0 : Int32), M2))
  else (
    lq (M2.1 o0 5) (fun x3 =>
    ob2 (f_X3_takeNumber o0 (0 : Int32) (8 : Int32) M2) (fun x4 M5 =>
    if x4 = (0 : Int32) then (
      some ((0 : Int32), M5))
    else (
      ob (f_X6_put ((o1 + 5) + 1) x3 (M5.1 o0 5) M5) (fun M7 =>
      ob2 (f_X3_takeSemicolon o0 M7) (fun x8 M9 =>
      if x8 = 0 ∨ x8 = 1 then some (x8, M9) else none)))))))
set_option maxHeartbeats 4000000 in
set_option maxRecDepth 100000 in
theorem c_X3_takeHang (l : Launch) (G : GT) {o0 : Nat} (h0 : kd o0 = 3) {o1 : Nat} (h1 : kd o1 = 2) (M : Mem) {r : Int32} {M' : Mem} (hk : f_X3_takeHang o0 o1 M = some (r, M')) : CMi l G true yX3_takeHang cX3_takeHang 3 (some .boolean) 3 [.ref (ad G o0), .ref (ad G o1)] M r M' := by
  unfold f_X3_takeHang at hk
  refine CMi.ofZ (by decide) (Nat.le_of_ble_eq_true rfl) ?_
  intro p e s m args below meth c Q hx hb hml hown hg hK hW hret ls hl
  have hl : lv_has ls 3 [(0, .ref (ad G o0)), (1, .ref (ad G o1))] := hl
  refine lv_aload_n hx hb dX3_takeHang_0 rfl (lv_at hl 0 rfl) ?_
  refine lv_iconst (v := (0 : Int32)) hx hb dX3_takeHang_1 (by decide) ?_
  refine lv_aload_n hx hb dX3_takeHang_2 rfl (lv_at hl 1 rfl) ?_
  refine gt_X3_67 hx hb hg hown hK hW h1 dX3_takeHang_3 ?_
  refine lv_iconst (v := (1 : Int32)) hx hb dX3_takeHang_6 (by decide) ?_
  refine lv_isub hx hb dX3_takeHang_7 ?_
  replace hk := ob2_s hk
  obtain ⟨x1, M2, hx1, hk⟩ := hk
  refine cl_i (rn_V g_402 g_404 gs_12 g_6 g_405 hd_X3_takeNumber (Nat.le_of_ble_eq_true rfl) (ci := 3) rfl (inC h0 rfl) (shp3 h0) hx hb hml hown hg hK hW (As := [.int (0 : Int32), .int ((M.1 o1 4) - (1 : Int32))]) (c_X3_takeNumber l G h0 (0 : Int32) ((M.1 o1 4) - (1 : Int32)) M hx1) (by decide) rfl hl.1 rfl (Nat.le_of_ble_eq_true rfl) dX3_takeHang_8) hW (fun H locs hW => ?_)
  refine lv_if_ne (tgt := 16) hx hb dX3_takeHang_11 (by decide) (fun c11 => ?_) (fun c11 => ?_)
  · replace hk := ite_f hk c11
    refine lv_aload_n hx hb dX3_takeHang_16 rfl (lv_at hl 0 rfl) ?_
    refine gt_X3_28 hx hb hg hown hK hW h0 dX3_takeHang_17 ?_
    replace hk := lq_s hk
    obtain ⟨x3, ex3, hk⟩ := hk
    refine nm_i ex3 ?_
    refine lv_istore_n (lv' := [(2, .int x3), (0, .ref (ad G o0)), (1, .ref (ad G o1))]) hx hb dX3_takeHang_20 rfl hl (by decide) rfl (fun ls hl => ?_)
    refine lv_aload_n hx hb dX3_takeHang_21 rfl (lv_at hl 1 rfl) ?_
    refine lv_iconst (v := (0 : Int32)) hx hb dX3_takeHang_22 (by decide) ?_
    refine lv_bipush (v := (8 : Int32)) hx hb dX3_takeHang_23 (by decide) ?_
    replace hk := ob2_s hk
    obtain ⟨x4, M5, hx4, hk⟩ := hk
    refine cl_i (rn_V g_402 g_404 gs_12 g_6 g_405 hd_X3_takeNumber (Nat.le_of_ble_eq_true rfl) (ci := 3) rfl (inC h0 rfl) (shp3 h0) hx hb hml hown hg hK hW (As := [.int (0 : Int32), .int (8 : Int32)]) (c_X3_takeNumber l G h0 (0 : Int32) (8 : Int32) M2 hx4) (by decide) rfl hl.1 rfl (Nat.le_of_ble_eq_true rfl) dX3_takeHang_25) hW (fun H locs hW => ?_)
    refine lv_if_ne (tgt := 33) hx hb dX3_takeHang_28 (by decide) (fun c10 => ?_) (fun c10 => ?_)
    · replace hk := ite_f hk c10
      refine lv_aload_n hx hb dX3_takeHang_33 rfl (lv_at hl 2 rfl) ?_
      refine gt_X3_95 hx hb hg hown hK hW h1 dX3_takeHang_34 ?_
      refine gt_X3_116 hx hb hg hown hK hW (k2_5 h1) dX3_takeHang_37 ?_
      refine lv_iload_n hx hb dX3_takeHang_40 rfl (lv_at hl 0 rfl) ?_
      refine lv_aload_n hx hb dX3_takeHang_41 rfl (lv_at hl 1 rfl) ?_
      refine gt_X3_28 hx hb hg hown hK hW h0 dX3_takeHang_42 ?_
      replace hk := ob_s hk
      obtain ⟨M7, hx6, hk⟩ := hk
      refine cl_v (rn_SN n_320 g_294 g_1 g_295 hd_X6_put (Nat.le_of_ble_eq_true rfl) hx hb hml hown hg hK hW (As := [.ref (ad G ((o1 + 5) + 1)), .int x3, .int (M5.1 o0 5)]) (c_X6_put l G (k1_1 (k2_5 h1)) x3 (M5.1 o0 5) M5 hx6) (by decide) rfl hl.1 rfl (Nat.le_of_ble_eq_true rfl) dX3_takeHang_45) hW (fun H locs hW => ?_)
      refine lv_aload_n hx hb dX3_takeHang_48 rfl (lv_at hl 1 rfl) ?_
      replace hk := ob2_s hk
      obtain ⟨x8, M9, hx8, hk⟩ := hk
      refine cl_i (rn_V g_411 g_413 gs_14 g_6 g_414 hd_X3_takeSemicolon (Nat.le_of_ble_eq_true rfl) (ci := 3) rfl (inC h0 rfl) (shp3 h0) hx hb hml hown hg hK hW (As := []) (c_X3_takeSemicolon l G h0 M7 hx8) (by decide) rfl hl.1 rfl (Nat.le_of_ble_eq_true rfl) dX3_takeHang_49) hW (fun H locs hW => ?_)
      by_cases hz : x8 = 0 ∨ x8 = 1
      · replace hk := ite_t hk hz
        obtain ⟨rfl, rfl⟩ := sp2 hk
        exact hret _ _ _ _ hz hW dX3_takeHang_52
      · replace hk := ite_f hk hz
        cases hk
    · replace hk := ite_t hk c10
      refine lv_iconst (v := (0 : Int32)) hx hb dX3_takeHang_31 (by decide) ?_
      obtain ⟨rfl, rfl⟩ := sp2 hk
      exact hret _ _ _ _ (Or.inl rfl) hW dX3_takeHang_32
  · replace hk := ite_t hk c11
    refine lv_iconst (v := (0 : Int32)) hx hb dX3_takeHang_14 (by decide) ?_
    obtain ⟨rfl, rfl⟩ := sp2 hk
    exact hret _ _ _ _ (Or.inl rfl) hW dX3_takeHang_15
def f_X4_isHigh (o0 : Nat) (o1 : Nat) (a2 : Int32) (a3 : Int32) (a4 : Int32) (a5 : Int32) (a6 : Int32) (M : Mem) : Option (Int32) :=
  ob (f_X2_holeOf o1 a2 M) (fun x1 =>
  lq (f_X6_holeAt a4 a5 x1) (fun x3 =>
  ob (f_X2_highFrom o1 a2 x3 a6 ((M.1 (o1 + 5) 2) + (M.1 o0 1)) M) (fun x4 =>
  if x4 = a3 then (
    some (1 : Int32))
  else (
    some (0 : Int32)))))
set_option maxHeartbeats 4000000 in
set_option maxRecDepth 100000 in
theorem c_X4_isHigh (l : Launch) (G : GT) {o0 : Nat} (h0 : kd o0 = 4) {o1 : Nat} (h1 : kd o1 = 2) (a2 : Int32) (a3 : Int32) (a4 : Int32) (a5 : Int32) (a6 : Int32) (M : Mem) {r : Int32} (hk : f_X4_isHigh o0 o1 a2 a3 a4 a5 a6 M = some r) : CMi l G true yX4_isHigh cX4_isHigh 8 (some .boolean) 3 [.ref (ad G o0), .ref (ad G o1), .int a2, .int a3, .int a4, .int a5, .int a6] M r M := by
  unfold f_X4_isHigh at hk
  refine CMi.ofZ (by decide) (Nat.le_of_ble_eq_true rfl) ?_
  intro p e s m args below meth c Q hx hb hml hown hg hK hW hret ls hl
  have hl : lv_has ls 8 [(0, .ref (ad G o0)), (1, .ref (ad G o1)), (2, .int a2), (3, .int a3), (4, .int a4), (5, .int a5), (6, .int a6)] := hl
  refine lv_iload hx hb dX4_isHigh_0 (lv_at hl 4 rfl) ?_
  refine lv_iload hx hb dX4_isHigh_2 (lv_at hl 5 rfl) ?_
  refine lv_aload_n hx hb dX4_isHigh_4 rfl (lv_at hl 1 rfl) ?_
  refine lv_iload_n hx hb dX4_isHigh_5 rfl (lv_at hl 2 rfl) ?_
  replace hk := ob_s hk
  obtain ⟨x1, hx1, hk⟩ := hk
  refine cl_i (rn_VN n_600 g_527 gs_31 g_2 g_528 hd_X2_holeOf (Nat.le_of_ble_eq_true rfl) (ci := 2) rfl (inC h1 rfl) (shp2 h1) hx hb hml hown hg hK hW (As := [.int a2]) (c_X2_holeOf l G h1 a2 M hx1) (by decide) rfl hl.1 rfl (Nat.le_of_ble_eq_true rfl) dX4_isHigh_6) hW (fun H locs hW => ?_)
  refine cl_i (rn_SN n_601 g_552 g_1 g_553 hd_X6_holeAt (Nat.le_of_ble_eq_true rfl) hx hb hml hown hg hK hW (As := [.int a4, .int a5, .int x1]) (c_X6_holeAt l G a4 a5 x1 M) (by decide) rfl hl.1 rfl (Nat.le_of_ble_eq_true rfl) dX4_isHigh_9) hW (fun H locs hW => ?_)
  replace hk := lq_s hk
  obtain ⟨x3, ex3, hk⟩ := hk
  refine nm_i ex3 ?_
  refine lv_istore (lv' := [(7, .int x3), (0, .ref (ad G o0)), (1, .ref (ad G o1)), (2, .int a2), (3, .int a3), (4, .int a4), (5, .int a5), (6, .int a6)]) hx hb dX4_isHigh_12 hl (by decide) rfl (fun ls hl => ?_)
  refine lv_aload_n hx hb dX4_isHigh_14 rfl (lv_at hl 2 rfl) ?_
  refine lv_iload_n hx hb dX4_isHigh_15 rfl (lv_at hl 3 rfl) ?_
  refine lv_iload hx hb dX4_isHigh_16 (lv_at hl 0 rfl) ?_
  refine lv_iload hx hb dX4_isHigh_18 (lv_at hl 7 rfl) ?_
  refine lv_aload_n hx hb dX4_isHigh_20 rfl (lv_at hl 2 rfl) ?_
  refine gt_X4_43 hx hb hg hown hK hW h1 dX4_isHigh_21 ?_
  refine gt_X4_86 hx hb hg hown hK hW (k2_5 h1) dX4_isHigh_24 ?_
  refine lv_aload_n hx hb dX4_isHigh_27 rfl (lv_at hl 1 rfl) ?_
  refine gt_X4_15 hx hb hg hown hK hW h0 dX4_isHigh_28 ?_
  refine lv_iadd hx hb dX4_isHigh_31 ?_
  replace hk := ob_s hk
  obtain ⟨x4, hx4, hk⟩ := hk
  refine cl_i (rn_VN n_602 g_556 gs_35 g_2 g_557 hd_X2_highFrom (Nat.le_of_ble_eq_true rfl) (ci := 2) rfl (inC h1 rfl) (shp2 h1) hx hb hml hown hg hK hW (As := [.int a2, .int x3, .int a6, .int ((M.1 (o1 + 5) 2) + (M.1 o0 1))]) (c_X2_highFrom l G h1 a2 x3 a6 ((M.1 (o1 + 5) 2) + (M.1 o0 1)) M hx4) (by decide) rfl hl.1 rfl (Nat.le_of_ble_eq_true rfl) dX4_isHigh_32) hW (fun H locs hW => ?_)
  refine lv_iload_n hx hb dX4_isHigh_35 rfl (lv_at hl 4 rfl) ?_
  refine lv_icmp_ne (tgt := 43) hx hb dX4_isHigh_36 (by decide) (fun c5 => ?_) (fun c5 => ?_)
  · replace hk := ite_f hk c5
    refine lv_iconst (v := (0 : Int32)) hx hb dX4_isHigh_43 (by decide) ?_
    obtain rfl := Option.some.inj hk
    exact hret _ _ _ _ (Or.inl rfl) hW dX4_isHigh_44
  · replace hk := ite_t hk c5
    refine lv_iconst (v := (1 : Int32)) hx hb dX4_isHigh_39 (by decide) ?_
    refine lv_goto (tgt := 44) hx hb dX4_isHigh_40 (by decide) ?_
    obtain rfl := Option.some.inj hk
    exact hret _ _ _ _ (Or.inr rfl) hW dX4_isHigh_44
def f_X4_reaches_L64 (FREC : Nat → Nat → Int32 → Int32 → Int32 → Int32 → Int32 → Mem → Option (Int32 × Mem)) (o0 : Nat) (o1 : Nat) (a2 : Int32) (a3 : Int32) (a4 : Int32) (a5 : Int32) (a6 : Int32) : Nat → Int32 → Mem → Option ((Int32 × Mem) ⊕ (Int32 × Mem))
  | 0, _, _ => none
  | n + 1, x6, M7 =>
    if (5 : Int32) ≤ x6 then (
      some (Sum.inl (x6, M7)))
    else (
      lq (f_X6_liftBehind a3 x6) (fun x11 =>
      lq (f_X6_tiltBehind a4 x6) (fun x13 =>
      lq (f_X6_wornBehind a5 (M7.1 o0 4) x13) (fun x15 =>
      lq (f_X6_wornBehind a6 (M7.1 o0 7) x13) (fun x17 =>
      ob (f_X6_put (o0 + 1) ((M7.1 o0 1) - a2) x6 M7) (fun M19 =>
      ob2 (FREC o0 o1 (a2 - (1 : Int32)) x11 x13 x15 x17 M19) (fun x20 M21 =>
      if x20 = (0 : Int32) then (
        lq (x6 + (1 : Int32)) (fun x22 =>
        f_X4_reaches_L64 FREC o0 o1 a2 a3 a4 a5 a6 n x22 M21))
      else (
        some (Sum.inr ((1 : Int32), M21))))))))))
def f_X4_reaches : Nat → Nat → Nat → Int32 → Int32 → Int32 → Int32 → Int32 → Mem → Option (Int32 × Mem)
  | 0, _, _, _, _, _, _, _, _ => none
  | n0 + 1, o0, o1, a2, a3, a4, a5, a6, M =>
    if a2 ≤ (0 : Int32) then (
      if a2 = (0 : Int32) then (
        ob (f_X4_isHigh o0 o1 (M.1 o0 2) (M.1 o0 3) a3 a4 a5 M) (fun x1 =>
        if x1 = (0 : Int32) then (
          some ((0 : Int32), M))
        else (
          ob (f_X4_isHigh o0 o1 (M.1 o0 5) (M.1 o0 6) a3 a4 a6 M) (fun x2 =>
          if x2 = (0 : Int32) then (
            some ((0 : Int32), M))
          else (
            some ((1 : Int32), M))))))
      else (
        some ((0 : Int32), M)))
    else (
      if a2 ≤ (5 : Int32) then (
        oeT2 (f_X4_reaches_L64 (f_X4_reaches n0) o0 o1 a2 a3 a4 a5 a6 FU (0 : Int32) M) (fun x8 M9 =>
        some ((0 : Int32), M9)))
      else (
        if a2 = (0 : Int32) then (
          ob (f_X4_isHigh o0 o1 (M.1 o0 2) (M.1 o0 3) a3 a4 a5 M) (fun x27 =>
          if x27 = (0 : Int32) then (
            some ((0 : Int32), M))
          else (
            ob (f_X4_isHigh o0 o1 (M.1 o0 5) (M.1 o0 6) a3 a4 a6 M) (fun x28 =>
            if x28 = (0 : Int32) then (
              some ((0 : Int32), M))
            else (
              some ((1 : Int32), M))))))
        else (
          some ((0 : Int32), M))))
set_option maxHeartbeats 4000000 in
set_option maxRecDepth 100000 in
theorem c_X4_reaches (l : Launch) (G : GT) : ∀ (n0 : Nat) {o0 : Nat} (h0 : kd o0 = 4) {o1 : Nat} (h1 : kd o1 = 2) (a2 : Int32) (a3 : Int32) (a4 : Int32) (a5 : Int32) (a6 : Int32) (M : Mem) {r : Int32} {M' : Mem} (hk : f_X4_reaches n0 o0 o1 a2 a3 a4 a5 a6 M = some (r, M')), CMi l G true yX4_reaches cX4_reaches 12 (some .boolean) (3 + n0) [.ref (ad G o0), .ref (ad G o1), .int a2, .int a3, .int a4, .int a5, .int a6] M r M' := by
  intro n0
  induction n0 with
  | zero => intro o0 h0 o1 h1 a2 a3 a4 a5 a6 M r M' hk; cases hk
  | succ n0 ih =>
  intro o0 h0 o1 h1 a2 a3 a4 a5 a6 M r M' hk
  rw [f_X4_reaches.eq_2] at hk
  refine CMi.ofZ (by decide) (Nat.le_of_ble_eq_true rfl) ?_
  intro p e s m args below meth c Q hx hb hml hown hg hK hW hret ls hl
  have hl : lv_has ls 12 [(0, .ref (ad G o0)), (1, .ref (ad G o1)), (2, .int a2), (3, .int a3), (4, .int a4), (5, .int a5), (6, .int a6)] := hl
  refine lv_iload_n hx hb dX4_reaches_0 rfl (lv_at hl 2 rfl) ?_
  refine lv_if_le (tgt := 9) hx hb dX4_reaches_1 (by decide) (fun c33 => ?_) (fun c33 => ?_)
  · replace hk := ite_t hk c33
    refine lv_iload_n hx hb dX4_reaches_9 rfl (lv_at hl 2 rfl) ?_
    refine lv_if_ne (tgt := 59) hx hb dX4_reaches_10 (by decide) (fun c5 => ?_) (fun c5 => ?_)
    · replace hk := ite_f hk c5
      refine lv_iconst (v := (0 : Int32)) hx hb dX4_reaches_59 (by decide) ?_
      obtain ⟨rfl, rfl⟩ := sp2 hk
      exact hret _ _ _ _ (Or.inl rfl) hW dX4_reaches_60
    · replace hk := ite_t hk c5
      refine lv_aload_n hx hb dX4_reaches_13 rfl (lv_at hl 0 rfl) ?_
      refine lv_aload_n hx hb dX4_reaches_14 rfl (lv_at hl 1 rfl) ?_
      refine lv_aload_n hx hb dX4_reaches_15 rfl (lv_at hl 0 rfl) ?_
      refine gt_X4_19 hx hb hg hown hK hW h0 dX4_reaches_16 ?_
      refine lv_aload_n hx hb dX4_reaches_19 rfl (lv_at hl 0 rfl) ?_
      refine gt_X4_22 hx hb hg hown hK hW h0 dX4_reaches_20 ?_
      refine lv_iload_n hx hb dX4_reaches_23 rfl (lv_at hl 3 rfl) ?_
      refine lv_iload hx hb dX4_reaches_24 (lv_at hl 4 rfl) ?_
      refine lv_iload hx hb dX4_reaches_26 (lv_at hl 5 rfl) ?_
      replace hk := ob_s hk
      obtain ⟨x1, hx1, hk⟩ := hk
      refine cl_i (rn_V g_596 g_598 gs_39 g_7 g_599 hd_X4_isHigh (Nat.le_of_ble_eq_true rfl) (ci := 4) rfl (inC h0 rfl) (shp4 h0) hx hb hml hown hg hK hW (As := [.ref (ad G o1), .int (M.1 o0 2), .int (M.1 o0 3), .int a3, .int a4, .int a5]) (c_X4_isHigh l G h0 h1 (M.1 o0 2) (M.1 o0 3) a3 a4 a5 M hx1) (by omega) rfl hl.1 rfl (Nat.le_of_ble_eq_true rfl) dX4_reaches_28) hW (fun H locs hW => ?_)
      refine lv_if_eq (tgt := 59) hx hb dX4_reaches_31 (by decide) (fun c4 => ?_) (fun c4 => ?_)
      · replace hk := ite_t hk c4
        refine lv_iconst (v := (0 : Int32)) hx hb dX4_reaches_59 (by decide) ?_
        obtain ⟨rfl, rfl⟩ := sp2 hk
        exact hret _ _ _ _ (Or.inl rfl) hW dX4_reaches_60
      · replace hk := ite_f hk c4
        refine lv_aload_n hx hb dX4_reaches_34 rfl (lv_at hl 0 rfl) ?_
        refine lv_aload_n hx hb dX4_reaches_35 rfl (lv_at hl 1 rfl) ?_
        refine lv_aload_n hx hb dX4_reaches_36 rfl (lv_at hl 0 rfl) ?_
        refine gt_X4_28 hx hb hg hown hK hW h0 dX4_reaches_37 ?_
        refine lv_aload_n hx hb dX4_reaches_40 rfl (lv_at hl 0 rfl) ?_
        refine gt_X4_31 hx hb hg hown hK hW h0 dX4_reaches_41 ?_
        refine lv_iload_n hx hb dX4_reaches_44 rfl (lv_at hl 3 rfl) ?_
        refine lv_iload hx hb dX4_reaches_45 (lv_at hl 4 rfl) ?_
        refine lv_iload hx hb dX4_reaches_47 (lv_at hl 6 rfl) ?_
        replace hk := ob_s hk
        obtain ⟨x2, hx2, hk⟩ := hk
        refine cl_i (rn_V g_596 g_598 gs_39 g_7 g_599 hd_X4_isHigh (Nat.le_of_ble_eq_true rfl) (ci := 4) rfl (inC h0 rfl) (shp4 h0) hx hb hml hown hg hK hW (As := [.ref (ad G o1), .int (M.1 o0 5), .int (M.1 o0 6), .int a3, .int a4, .int a6]) (c_X4_isHigh l G h0 h1 (M.1 o0 5) (M.1 o0 6) a3 a4 a6 M hx2) (by omega) rfl hl.1 rfl (Nat.le_of_ble_eq_true rfl) dX4_reaches_49) hW (fun H locs hW => ?_)
        refine lv_if_eq (tgt := 59) hx hb dX4_reaches_52 (by decide) (fun c3 => ?_) (fun c3 => ?_)
        · replace hk := ite_t hk c3
          refine lv_iconst (v := (0 : Int32)) hx hb dX4_reaches_59 (by decide) ?_
          obtain ⟨rfl, rfl⟩ := sp2 hk
          exact hret _ _ _ _ (Or.inl rfl) hW dX4_reaches_60
        · replace hk := ite_f hk c3
          refine lv_iconst (v := (1 : Int32)) hx hb dX4_reaches_55 (by decide) ?_
          refine lv_goto (tgt := 60) hx hb dX4_reaches_56 (by decide) ?_
          obtain ⟨rfl, rfl⟩ := sp2 hk
          exact hret _ _ _ _ (Or.inr rfl) hW dX4_reaches_60
  · replace hk := ite_f hk c33
    refine lv_iload_n hx hb dX4_reaches_4 rfl (lv_at hl 2 rfl) ?_
    refine lv_iconst (v := (5 : Int32)) hx hb dX4_reaches_5 (by decide) ?_
    refine lv_icmp_le (tgt := 61) hx hb dX4_reaches_6 (by decide) (fun c32 => ?_) (fun c32 => ?_)
    · replace hk := ite_t hk c32
      refine lv_iconst (v := (0 : Int32)) hx hb dX4_reaches_61 (by decide) ?_
      refine lv_istore (lv' := [(7, .int (0 : Int32)), (0, .ref (ad G o0)), (1, .ref (ad G o1)), (2, .int a2), (3, .int a3), (4, .int a4), (5, .int a5), (6, .int a6)]) hx hb dX4_reaches_62 hl (by decide) rfl (fun ls hl => ?_)
      replace hk := oeT2_s hk
      obtain ⟨z26, hz25, hk_64⟩ := hk
      have KX64 : ∀ (x8 : Int32) (M9 : Mem), z26 = Sum.inl (x8, M9) → ∀ (H : Heap) (locs : List Loc) (ls : Array Slot), Ws G true M9 s H locs → lv_has ls 12 [] → Wx p l e (3 + (n0 + 1)) s m args below meth c Q H locs 155 ls [] := by
        intro x8 M9 ez H locs ls hW hl
        have hk := hk_64.1 x8 M9 ez
        refine lv_iconst (v := (0 : Int32)) hx hb dX4_reaches_155 (by decide) ?_
        obtain ⟨rfl, rfl⟩ := sp2 hk
        exact hret _ _ _ _ (Or.inl rfl) hW dX4_reaches_156
      have LH64 : ∀ (n : Nat) (x6 : Int32) (M7 : Mem) (H : Heap) (locs : List Loc) (ls : Array Slot), f_X4_reaches_L64 (f_X4_reaches n0) o0 o1 a2 a3 a4 a5 a6 n x6 M7 = some z26 → Ws G true M7 s H locs → lv_has ls 12 [(0, .ref (ad G o0)), (1, .ref (ad G o1)), (2, .int a2), (3, .int a3), (4, .int a4), (5, .int a5), (6, .int a6), (7, .int x6)] → Wx p l e (3 + (n0 + 1)) s m args below meth c Q H locs 64 ls [] := by
        clear hz25
        intro n
        induction n with
        | zero => intro _ _ _ _ _ hk; cases hk
        | succ n ih64 =>
          intro x6 M7 H locs ls hk hW hl
          rw [f_X4_reaches_L64.eq_2] at hk
          refine lv_iload hx hb dX4_reaches_64 (lv_at hl 7 rfl) ?_
          refine lv_iconst (v := (5 : Int32)) hx hb dX4_reaches_66 (by decide) ?_
          refine lv_icmp_ge (tgt := 155) hx hb dX4_reaches_67 (by decide) (fun c24 => ?_) (fun c24 => ?_)
          · replace hk := ite_t hk c24
            obtain rfl := Option.some.inj hk
            exact KX64 _ _ rfl _ _ _ hW (lv_sub hl [] rfl)
          · replace hk := ite_f hk c24
            refine lv_iload_n hx hb dX4_reaches_70 rfl (lv_at hl 3 rfl) ?_
            refine lv_iload hx hb dX4_reaches_71 (lv_at hl 7 rfl) ?_
            refine cl_i (rn_SN n_603 g_435 g_1 g_436 hd_X6_liftBehind (Nat.le_of_ble_eq_true rfl) hx hb hml hown hg hK hW (As := [.int a3, .int x6]) (c_X6_liftBehind l G a3 x6 M7) (by omega) rfl hl.1 rfl (Nat.le_of_ble_eq_true rfl) dX4_reaches_73) hW (fun H locs hW => ?_)
            replace hk := lq_s hk
            obtain ⟨x11, ex11, hk⟩ := hk
            refine nm_i ex11 ?_
            refine lv_istore (lv' := [(8, .int x11), (0, .ref (ad G o0)), (1, .ref (ad G o1)), (2, .int a2), (3, .int a3), (4, .int a4), (5, .int a5), (6, .int a6), (7, .int x6)]) hx hb dX4_reaches_76 hl (by decide) rfl (fun ls hl => ?_)
            refine lv_iload hx hb dX4_reaches_78 (lv_at hl 5 rfl) ?_
            refine lv_iload hx hb dX4_reaches_80 (lv_at hl 8 rfl) ?_
            refine cl_i (rn_SN n_604 g_442 g_1 g_443 hd_X6_tiltBehind (Nat.le_of_ble_eq_true rfl) hx hb hml hown hg hK hW (As := [.int a4, .int x6]) (c_X6_tiltBehind l G a4 x6 M7) (by omega) rfl hl.1 rfl (Nat.le_of_ble_eq_true rfl) dX4_reaches_82) hW (fun H locs hW => ?_)
            replace hk := lq_s hk
            obtain ⟨x13, ex13, hk⟩ := hk
            refine nm_i ex13 ?_
            refine lv_istore (lv' := [(9, .int x13), (8, .int x11), (0, .ref (ad G o0)), (1, .ref (ad G o1)), (2, .int a2), (3, .int a3), (4, .int a4), (5, .int a5), (6, .int a6), (7, .int x6)]) hx hb dX4_reaches_85 hl (by decide) rfl (fun ls hl => ?_)
            refine lv_iload hx hb dX4_reaches_87 (lv_at hl 7 rfl) ?_
            refine lv_aload_n hx hb dX4_reaches_89 rfl (lv_at hl 2 rfl) ?_
            refine gt_X4_25 hx hb hg hown hK hW h0 dX4_reaches_90 ?_
            refine lv_iload hx hb dX4_reaches_93 (lv_at hl 0 rfl) ?_
            refine cl_i (rn_SN n_605 g_450 g_1 g_451 hd_X6_wornBehind (Nat.le_of_ble_eq_true rfl) hx hb hml hown hg hK hW (As := [.int a5, .int (M7.1 o0 4), .int x13]) (c_X6_wornBehind l G a5 (M7.1 o0 4) x13 M7) (by omega) rfl hl.1 rfl (Nat.le_of_ble_eq_true rfl) dX4_reaches_95) hW (fun H locs hW => ?_)
            replace hk := lq_s hk
            obtain ⟨x15, ex15, hk⟩ := hk
            refine nm_i ex15 ?_
            refine lv_istore (lv' := [(10, .int x15), (9, .int x13), (8, .int x11), (0, .ref (ad G o0)), (1, .ref (ad G o1)), (2, .int a2), (3, .int a3), (4, .int a4), (5, .int a5), (6, .int a6), (7, .int x6)]) hx hb dX4_reaches_98 hl (by decide) rfl (fun ls hl => ?_)
            refine lv_iload hx hb dX4_reaches_100 (lv_at hl 9 rfl) ?_
            refine lv_aload_n hx hb dX4_reaches_102 rfl (lv_at hl 3 rfl) ?_
            refine gt_X4_34 hx hb hg hown hK hW h0 dX4_reaches_103 ?_
            refine lv_iload hx hb dX4_reaches_106 (lv_at hl 1 rfl) ?_
            refine cl_i (rn_SN n_605 g_450 g_1 g_451 hd_X6_wornBehind (Nat.le_of_ble_eq_true rfl) hx hb hml hown hg hK hW (As := [.int a6, .int (M7.1 o0 7), .int x13]) (c_X6_wornBehind l G a6 (M7.1 o0 7) x13 M7) (by omega) rfl hl.1 rfl (Nat.le_of_ble_eq_true rfl) dX4_reaches_108) hW (fun H locs hW => ?_)
            replace hk := lq_s hk
            obtain ⟨x17, ex17, hk⟩ := hk
            refine nm_i ex17 ?_
            refine lv_istore (lv' := [(11, .int x17), (10, .int x15), (9, .int x13), (8, .int x11), (0, .ref (ad G o0)), (1, .ref (ad G o1)), (2, .int a2), (3, .int a3), (4, .int a4), (5, .int a5), (6, .int a6), (7, .int x6)]) hx hb dX4_reaches_111 hl (by decide) rfl (fun ls hl => ?_)
            refine lv_aload_n hx hb dX4_reaches_113 rfl (lv_at hl 4 rfl) ?_
            refine gt_X4_9 hx hb hg hown hK hW h0 dX4_reaches_114 ?_
            refine lv_aload_n hx hb dX4_reaches_117 rfl (lv_at hl 4 rfl) ?_
            refine gt_X4_15 hx hb hg hown hK hW h0 dX4_reaches_118 ?_
            refine lv_iload_n hx hb dX4_reaches_121 rfl (lv_at hl 6 rfl) ?_
            refine lv_isub hx hb dX4_reaches_122 ?_
            refine lv_iload hx hb dX4_reaches_123 (lv_at hl 11 rfl) ?_
            replace hk := ob_s hk
            obtain ⟨M19, hx18, hk⟩ := hk
            refine cl_v (rn_SN n_606 g_294 g_1 g_295 hd_X6_put (Nat.le_of_ble_eq_true rfl) hx hb hml hown hg hK hW (As := [.ref (ad G (o0 + 1)), .int ((M7.1 o0 1) - a2), .int x6]) (c_X6_put l G (k4_1 h0) ((M7.1 o0 1) - a2) x6 M7 hx18) (by omega) rfl hl.1 rfl (Nat.le_of_ble_eq_true rfl) dX4_reaches_125) hW (fun H locs hW => ?_)
            refine lv_aload_n hx hb dX4_reaches_128 rfl (lv_at hl 4 rfl) ?_
            refine lv_aload_n hx hb dX4_reaches_129 rfl (lv_at hl 5 rfl) ?_
            refine lv_iload_n hx hb dX4_reaches_130 rfl (lv_at hl 6 rfl) ?_
            refine lv_iconst (v := (1 : Int32)) hx hb dX4_reaches_131 (by decide) ?_
            refine lv_isub hx hb dX4_reaches_132 ?_
            refine lv_iload hx hb dX4_reaches_133 (lv_at hl 3 rfl) ?_
            refine lv_iload hx hb dX4_reaches_135 (lv_at hl 2 rfl) ?_
            refine lv_iload hx hb dX4_reaches_137 (lv_at hl 1 rfl) ?_
            refine lv_iload hx hb dX4_reaches_139 (lv_at hl 0 rfl) ?_
            replace hk := ob2_s hk
            obtain ⟨x20, M21, hx20, hk⟩ := hk
            refine cl_i (rn_V g_592 g_594 gs_38 g_7 g_595 hd_X4_reaches (Nat.le_of_ble_eq_true rfl) (ci := 4) rfl (inC h0 rfl) (shp4 h0) hx hb hml hown hg hK hW (As := [.ref (ad G o1), .int (a2 - (1 : Int32)), .int x11, .int x13, .int x15, .int x17]) (ih h0 h1 (a2 - (1 : Int32)) x11 x13 x15 x17 M19 hx20) (by omega) rfl hl.1 rfl (Nat.le_of_ble_eq_true rfl) dX4_reaches_141) hW (fun H locs hW => ?_)
            refine lv_if_eq (tgt := 149) hx hb dX4_reaches_144 (by decide) (fun c23 => ?_) (fun c23 => ?_)
            · replace hk := ite_t hk c23
              replace hk := lq_s hk
              obtain ⟨x22, ex22, hk⟩ := hk
              refine lv_iinc (v := x22) (lv' := [(7, .int x22), (11, .int x17), (10, .int x15), (9, .int x13), (8, .int x11), (0, .ref (ad G o0)), (1, .ref (ad G o1)), (2, .int a2), (3, .int a3), (4, .int a4), (5, .int a5), (6, .int a6)]) hx hb dX4_reaches_149 hl (k := 11) rfl (by rw [ex22]; rfl) (by decide) rfl (fun ls hl => ?_)
              refine lv_goto (tgt := 64) hx hb dX4_reaches_152 (by decide) ?_
              exact ih64 _ _ _ _ _ hk hW (lv_sub hl [5, 6, 7, 8, 9, 10, 11, 0] rfl)
            · replace hk := ite_f hk c23
              refine lv_iconst (v := (1 : Int32)) hx hb dX4_reaches_147 (by decide) ?_
              obtain rfl := Option.some.inj hk
              have hk := hk_64.2 _ rfl
              obtain ⟨rfl, rfl⟩ := sp2 hk
              exact hret _ _ _ _ (Or.inr rfl) hW dX4_reaches_148
      exact LH64 FU _ _ _ _ _ hz25 hW (lv_sub hl [1, 2, 3, 4, 5, 6, 7, 0] rfl)
    · replace hk := ite_f hk c32
      refine lv_iload_n hx hb dX4_reaches_9 rfl (lv_at hl 2 rfl) ?_
      refine lv_if_ne (tgt := 59) hx hb dX4_reaches_10 (by decide) (fun c31 => ?_) (fun c31 => ?_)
      · replace hk := ite_f hk c31
        refine lv_iconst (v := (0 : Int32)) hx hb dX4_reaches_59 (by decide) ?_
        obtain ⟨rfl, rfl⟩ := sp2 hk
        exact hret _ _ _ _ (Or.inl rfl) hW dX4_reaches_60
      · replace hk := ite_t hk c31
        refine lv_aload_n hx hb dX4_reaches_13 rfl (lv_at hl 0 rfl) ?_
        refine lv_aload_n hx hb dX4_reaches_14 rfl (lv_at hl 1 rfl) ?_
        refine lv_aload_n hx hb dX4_reaches_15 rfl (lv_at hl 0 rfl) ?_
        refine gt_X4_19 hx hb hg hown hK hW h0 dX4_reaches_16 ?_
        refine lv_aload_n hx hb dX4_reaches_19 rfl (lv_at hl 0 rfl) ?_
        refine gt_X4_22 hx hb hg hown hK hW h0 dX4_reaches_20 ?_
        refine lv_iload_n hx hb dX4_reaches_23 rfl (lv_at hl 3 rfl) ?_
        refine lv_iload hx hb dX4_reaches_24 (lv_at hl 4 rfl) ?_
        refine lv_iload hx hb dX4_reaches_26 (lv_at hl 5 rfl) ?_
        replace hk := ob_s hk
        obtain ⟨x27, hx27, hk⟩ := hk
        refine cl_i (rn_V g_596 g_598 gs_39 g_7 g_599 hd_X4_isHigh (Nat.le_of_ble_eq_true rfl) (ci := 4) rfl (inC h0 rfl) (shp4 h0) hx hb hml hown hg hK hW (As := [.ref (ad G o1), .int (M.1 o0 2), .int (M.1 o0 3), .int a3, .int a4, .int a5]) (c_X4_isHigh l G h0 h1 (M.1 o0 2) (M.1 o0 3) a3 a4 a5 M hx27) (by omega) rfl hl.1 rfl (Nat.le_of_ble_eq_true rfl) dX4_reaches_28) hW (fun H locs hW => ?_)
        refine lv_if_eq (tgt := 59) hx hb dX4_reaches_31 (by decide) (fun c30 => ?_) (fun c30 => ?_)
        · replace hk := ite_t hk c30
          refine lv_iconst (v := (0 : Int32)) hx hb dX4_reaches_59 (by decide) ?_
          obtain ⟨rfl, rfl⟩ := sp2 hk
          exact hret _ _ _ _ (Or.inl rfl) hW dX4_reaches_60
        · replace hk := ite_f hk c30
          refine lv_aload_n hx hb dX4_reaches_34 rfl (lv_at hl 0 rfl) ?_
          refine lv_aload_n hx hb dX4_reaches_35 rfl (lv_at hl 1 rfl) ?_
          refine lv_aload_n hx hb dX4_reaches_36 rfl (lv_at hl 0 rfl) ?_
          refine gt_X4_28 hx hb hg hown hK hW h0 dX4_reaches_37 ?_
          refine lv_aload_n hx hb dX4_reaches_40 rfl (lv_at hl 0 rfl) ?_
          refine gt_X4_31 hx hb hg hown hK hW h0 dX4_reaches_41 ?_
          refine lv_iload_n hx hb dX4_reaches_44 rfl (lv_at hl 3 rfl) ?_
          refine lv_iload hx hb dX4_reaches_45 (lv_at hl 4 rfl) ?_
          refine lv_iload hx hb dX4_reaches_47 (lv_at hl 6 rfl) ?_
          replace hk := ob_s hk
          obtain ⟨x28, hx28, hk⟩ := hk
          refine cl_i (rn_V g_596 g_598 gs_39 g_7 g_599 hd_X4_isHigh (Nat.le_of_ble_eq_true rfl) (ci := 4) rfl (inC h0 rfl) (shp4 h0) hx hb hml hown hg hK hW (As := [.ref (ad G o1), .int (M.1 o0 5), .int (M.1 o0 6), .int a3, .int a4, .int a6]) (c_X4_isHigh l G h0 h1 (M.1 o0 5) (M.1 o0 6) a3 a4 a6 M hx28) (by omega) rfl hl.1 rfl (Nat.le_of_ble_eq_true rfl) dX4_reaches_49) hW (fun H locs hW => ?_)
          refine lv_if_eq (tgt := 59) hx hb dX4_reaches_52 (by decide) (fun c29 => ?_) (fun c29 => ?_)
          · replace hk := ite_t hk c29
            refine lv_iconst (v := (0 : Int32)) hx hb dX4_reaches_59 (by decide) ?_
            obtain ⟨rfl, rfl⟩ := sp2 hk
            exact hret _ _ _ _ (Or.inl rfl) hW dX4_reaches_60
          · replace hk := ite_f hk c29
            refine lv_iconst (v := (1 : Int32)) hx hb dX4_reaches_55 (by decide) ?_
            refine lv_goto (tgt := 60) hx hb dX4_reaches_56 (by decide) ?_
            obtain ⟨rfl, rfl⟩ := sp2 hk
            exact hret _ _ _ _ (Or.inr rfl) hW dX4_reaches_60
def f_X4_fewest_L50 (o0 : Nat) (o1 : Nat) (a2 : Int32) (a4 : Int32) : Nat → Int32 → Mem → Option ((Int32 × Mem) ⊕ (Int32 × Mem))
  | 0, _, _ => none
  | n + 1, x9, M10 =>
    if (5 : Int32) < x9 then (
      some (Sum.inl (x9, M10)))
    else (
      lq (s1 M10 o0 1 x9) (fun M13 =>
      ob (f_X2_wornOf o1 a2 M13) (fun x14 =>
      ob (f_X2_wornOf o1 a4 M13) (fun x15 =>
      ob2 (f_X4_reaches 8 o0 o1 x9 (M13.1 (o1 + 5) 0) (M13.1 (o1 + 5) 1) x14 x15 M13) (fun x16 M17 =>
      if x16 = (0 : Int32) then (
        lq (x9 + (1 : Int32)) (fun x18 =>
        f_X4_fewest_L50 o0 o1 a2 a4 n x18 M17))
      else (
        some (Sum.inr (x9, M17))))))))
def f_X4_fewest (o0 : Nat) (o1 : Nat) (a2 : Int32) (a3 : Int32) (a4 : Int32) (a5 : Int32) (M : Mem) : Option (Int32 × Mem) :=
  lq (s1 M o0 2 a2) (fun M1 =>
  lq (s1 M1 o0 3 a3) (fun M2 =>
  ob (f_X2_weightOf o1 a2 M2) (fun x3 =>
  lq (s1 M2 o0 4 x3) (fun M4 =>
  lq (s1 M4 o0 5 a4) (fun M5 =>
  lq (s1 M5 o0 6 a5) (fun M6 =>
  ob (f_X2_weightOf o1 a4 M6) (fun x7 =>
  lq (s1 M6 o0 7 x7) (fun M8 =>
  oeT2 (f_X4_fewest_L50 o0 o1 a2 a4 FU (0 : Int32) M8) (fun x11 M12 =>
  some (((-1) : Int32), M12))))))))))
set_option maxHeartbeats 4000000 in
set_option maxRecDepth 100000 in
theorem c_X4_fewest (l : Launch) (G : GT) {o0 : Nat} (h0 : kd o0 = 4) {o1 : Nat} (h1 : kd o1 = 2) (a2 : Int32) (a3 : Int32) (a4 : Int32) (a5 : Int32) (M : Mem) {r : Int32} {M' : Mem} (hk : f_X4_fewest o0 o1 a2 a3 a4 a5 M = some (r, M')) : CMi l G true yX4_fewest cX4_fewest 8 (some .int) 13 [.ref (ad G o0), .ref (ad G o1), .int a2, .int a3, .int a4, .int a5] M r M' := by
  unfold f_X4_fewest at hk
  refine CMi.of (by decide) (Nat.le_of_ble_eq_true rfl) ?_
  intro p e s m args below meth c Q hx hb hml hown hg hK hW hret ls hl
  have hl : lv_has ls 8 [(0, .ref (ad G o0)), (1, .ref (ad G o1)), (2, .int a2), (3, .int a3), (4, .int a4), (5, .int a5)] := hl
  refine lv_aload_n hx hb dX4_fewest_0 rfl (lv_at hl 0 rfl) ?_
  refine lv_iload_n hx hb dX4_fewest_1 rfl (lv_at hl 2 rfl) ?_
  replace hk := lq_s hk
  obtain ⟨M1, eM1, hk⟩ := hk
  refine pt_X4_19 hx hb hg hown hK hW h0 eM1 dX4_fewest_2 (fun H locs hW => ?_)
  refine lv_aload_n hx hb dX4_fewest_5 rfl (lv_at hl 0 rfl) ?_
  refine lv_iload_n hx hb dX4_fewest_6 rfl (lv_at hl 3 rfl) ?_
  replace hk := lq_s hk
  obtain ⟨M2, eM2, hk⟩ := hk
  refine pt_X4_22 hx hb hg hown hK hW h0 eM2 dX4_fewest_7 (fun H locs hW => ?_)
  refine lv_aload_n hx hb dX4_fewest_10 rfl (lv_at hl 0 rfl) ?_
  refine lv_aload_n hx hb dX4_fewest_11 rfl (lv_at hl 1 rfl) ?_
  refine lv_iload_n hx hb dX4_fewest_12 rfl (lv_at hl 2 rfl) ?_
  replace hk := ob_s hk
  obtain ⟨x3, hx3, hk⟩ := hk
  refine cl_i (rn_VN n_590 g_447 gs_19 g_2 g_448 hd_X2_weightOf (Nat.le_of_ble_eq_true rfl) (ci := 2) rfl (inC h1 rfl) (shp2 h1) hx hb hml hown hg hK hW (As := [.int a2]) (c_X2_weightOf l G h1 a2 M2 hx3) (by decide) rfl hl.1 rfl (Nat.le_of_ble_eq_true rfl) dX4_fewest_13) hW (fun H locs hW => ?_)
  replace hk := lq_s hk
  obtain ⟨M4, eM4, hk⟩ := hk
  refine pt_X4_25 hx hb hg hown hK hW h0 eM4 dX4_fewest_16 (fun H locs hW => ?_)
  refine lv_aload_n hx hb dX4_fewest_19 rfl (lv_at hl 0 rfl) ?_
  refine lv_iload hx hb dX4_fewest_20 (lv_at hl 4 rfl) ?_
  replace hk := lq_s hk
  obtain ⟨M5, eM5, hk⟩ := hk
  refine pt_X4_28 hx hb hg hown hK hW h0 eM5 dX4_fewest_22 (fun H locs hW => ?_)
  refine lv_aload_n hx hb dX4_fewest_25 rfl (lv_at hl 0 rfl) ?_
  refine lv_iload hx hb dX4_fewest_26 (lv_at hl 5 rfl) ?_
  replace hk := lq_s hk
  obtain ⟨M6, eM6, hk⟩ := hk
  refine pt_X4_31 hx hb hg hown hK hW h0 eM6 dX4_fewest_28 (fun H locs hW => ?_)
  refine lv_aload_n hx hb dX4_fewest_31 rfl (lv_at hl 0 rfl) ?_
  refine lv_aload_n hx hb dX4_fewest_32 rfl (lv_at hl 1 rfl) ?_
  refine lv_iload hx hb dX4_fewest_33 (lv_at hl 4 rfl) ?_
  replace hk := ob_s hk
  obtain ⟨x7, hx7, hk⟩ := hk
  refine cl_i (rn_VN n_590 g_447 gs_19 g_2 g_448 hd_X2_weightOf (Nat.le_of_ble_eq_true rfl) (ci := 2) rfl (inC h1 rfl) (shp2 h1) hx hb hml hown hg hK hW (As := [.int a4]) (c_X2_weightOf l G h1 a4 M6 hx7) (by decide) rfl hl.1 rfl (Nat.le_of_ble_eq_true rfl) dX4_fewest_35) hW (fun H locs hW => ?_)
  replace hk := lq_s hk
  obtain ⟨M8, eM8, hk⟩ := hk
  refine pt_X4_34 hx hb hg hown hK hW h0 eM8 dX4_fewest_38 (fun H locs hW => ?_)
  refine lv_aload_n hx hb dX4_fewest_41 rfl (lv_at hl 1 rfl) ?_
  refine gt_X4_43 hx hb hg hown hK hW h1 dX4_fewest_42 ?_
  refine lv_astore (lv' := [(6, .ref (ad G (o1 + 5))), (0, .ref (ad G o0)), (1, .ref (ad G o1)), (2, .int a2), (3, .int a3), (4, .int a4), (5, .int a5)]) hx hb dX4_fewest_45 hl (by decide) rfl (fun ls hl => ?_)
  refine lv_iconst (v := (0 : Int32)) hx hb dX4_fewest_47 (by decide) ?_
  refine lv_istore (lv' := [(7, .int (0 : Int32)), (6, .ref (ad G (o1 + 5))), (0, .ref (ad G o0)), (1, .ref (ad G o1)), (2, .int a2), (3, .int a3), (4, .int a4), (5, .int a5)]) hx hb dX4_fewest_48 hl (by decide) rfl (fun ls hl => ?_)
  replace hk := oeT2_s hk
  obtain ⟨z22, hz21, hk_50⟩ := hk
  have KX50 : ∀ (x11 : Int32) (M12 : Mem), z22 = Sum.inl (x11, M12) → ∀ (H : Heap) (locs : List Loc) (ls : Array Slot), Ws G true M12 s H locs → lv_has ls 8 [] → Wx p l e 13 s m args below meth c Q H locs 102 ls [] := by
    intro x11 M12 ez H locs ls hW hl
    have hk := hk_50.1 x11 M12 ez
    refine lv_iconst (v := ((-1) : Int32)) hx hb dX4_fewest_102 (by decide) ?_
    obtain ⟨rfl, rfl⟩ := sp2 hk
    exact hret _ _ _ _ hW dX4_fewest_103
  have LH50 : ∀ (n : Nat) (x9 : Int32) (M10 : Mem) (H : Heap) (locs : List Loc) (ls : Array Slot), f_X4_fewest_L50 o0 o1 a2 a4 n x9 M10 = some z22 → Ws G true M10 s H locs → lv_has ls 8 [(0, .ref (ad G o0)), (1, .ref (ad G o1)), (2, .int a2), (4, .int a4), (6, .ref (ad G (o1 + 5))), (7, .int x9)] → Wx p l e 13 s m args below meth c Q H locs 50 ls [] := by
    clear hz21
    intro n
    induction n with
    | zero => intro _ _ _ _ _ hk; cases hk
    | succ n ih50 =>
      intro x9 M10 H locs ls hk hW hl
      rw [f_X4_fewest_L50.eq_2] at hk
      refine lv_iload hx hb dX4_fewest_50 (lv_at hl 5 rfl) ?_
      refine lv_iconst (v := (5 : Int32)) hx hb dX4_fewest_52 (by decide) ?_
      refine lv_icmp_gt (tgt := 102) hx hb dX4_fewest_53 (by decide) (fun c20 => ?_) (fun c20 => ?_)
      · replace hk := ite_t hk c20
        obtain rfl := Option.some.inj hk
        exact KX50 _ _ rfl _ _ _ hW (lv_sub hl [] rfl)
      · replace hk := ite_f hk c20
        refine lv_aload_n hx hb dX4_fewest_56 rfl (lv_at hl 0 rfl) ?_
        refine lv_iload hx hb dX4_fewest_57 (lv_at hl 5 rfl) ?_
        replace hk := lq_s hk
        obtain ⟨M13, eM13, hk⟩ := hk
        refine pt_X4_15 hx hb hg hown hK hW h0 eM13 dX4_fewest_59 (fun H locs hW => ?_)
        refine lv_aload_n hx hb dX4_fewest_62 rfl (lv_at hl 0 rfl) ?_
        refine lv_aload_n hx hb dX4_fewest_63 rfl (lv_at hl 1 rfl) ?_
        refine lv_iload hx hb dX4_fewest_64 (lv_at hl 5 rfl) ?_
        refine lv_aload hx hb dX4_fewest_66 (lv_at hl 4 rfl) ?_
        refine gt_X4_47 hx hb hg hown hK hW (k2_5 h1) dX4_fewest_68 ?_
        refine lv_aload hx hb dX4_fewest_71 (lv_at hl 4 rfl) ?_
        refine gt_X4_52 hx hb hg hown hK hW (k2_5 h1) dX4_fewest_73 ?_
        refine lv_aload_n hx hb dX4_fewest_76 rfl (lv_at hl 1 rfl) ?_
        refine lv_iload_n hx hb dX4_fewest_77 rfl (lv_at hl 2 rfl) ?_
        replace hk := ob_s hk
        obtain ⟨x14, hx14, hk⟩ := hk
        refine cl_i (rn_VN n_591 g_459 gs_21 g_2 g_460 hd_X2_wornOf (Nat.le_of_ble_eq_true rfl) (ci := 2) rfl (inC h1 rfl) (shp2 h1) hx hb hml hown hg hK hW (As := [.int a2]) (c_X2_wornOf l G h1 a2 M13 hx14) (by decide) rfl hl.1 rfl (Nat.le_of_ble_eq_true rfl) dX4_fewest_78) hW (fun H locs hW => ?_)
        refine lv_aload_n hx hb dX4_fewest_81 rfl (lv_at hl 1 rfl) ?_
        refine lv_iload hx hb dX4_fewest_82 (lv_at hl 3 rfl) ?_
        replace hk := ob_s hk
        obtain ⟨x15, hx15, hk⟩ := hk
        refine cl_i (rn_VN n_591 g_459 gs_21 g_2 g_460 hd_X2_wornOf (Nat.le_of_ble_eq_true rfl) (ci := 2) rfl (inC h1 rfl) (shp2 h1) hx hb hml hown hg hK hW (As := [.int a4]) (c_X2_wornOf l G h1 a4 M13 hx15) (by decide) rfl hl.1 rfl (Nat.le_of_ble_eq_true rfl) dX4_fewest_84) hW (fun H locs hW => ?_)
        replace hk := ob2_s hk
        obtain ⟨x16, M17, hx16, hk⟩ := hk
        refine cl_i (rn_V g_592 g_594 gs_38 g_7 g_595 hd_X4_reaches (Nat.le_of_ble_eq_true rfl) (ci := 4) rfl (inC h0 rfl) (shp4 h0) hx hb hml hown hg hK hW (As := [.ref (ad G o1), .int x9, .int (M13.1 (o1 + 5) 0), .int (M13.1 (o1 + 5) 1), .int x14, .int x15]) (c_X4_reaches l G 8 h0 h1 x9 (M13.1 (o1 + 5) 0) (M13.1 (o1 + 5) 1) x14 x15 M13 hx16) (by decide) rfl hl.1 rfl (Nat.le_of_ble_eq_true rfl) dX4_fewest_87) hW (fun H locs hW => ?_)
        refine lv_if_eq (tgt := 96) hx hb dX4_fewest_90 (by decide) (fun c19 => ?_) (fun c19 => ?_)
        · replace hk := ite_t hk c19
          replace hk := lq_s hk
          obtain ⟨x18, ex18, hk⟩ := hk
          refine lv_iinc (v := x18) (lv' := [(7, .int x18), (0, .ref (ad G o0)), (1, .ref (ad G o1)), (2, .int a2), (4, .int a4), (6, .ref (ad G (o1 + 5)))]) hx hb dX4_fewest_96 hl (k := 5) rfl (by rw [ex18]; rfl) (by decide) rfl (fun ls hl => ?_)
          refine lv_goto (tgt := 50) hx hb dX4_fewest_99 (by decide) ?_
          exact ih50 _ _ _ _ _ hk hW (lv_sub hl [1, 2, 3, 4, 5, 0] rfl)
        · replace hk := ite_f hk c19
          refine lv_iload hx hb dX4_fewest_93 (lv_at hl 5 rfl) ?_
          obtain rfl := Option.some.inj hk
          have hk := hk_50.2 _ rfl
          obtain ⟨rfl, rfl⟩ := sp2 hk
          exact hret _ _ _ _ hW dX4_fewest_95
  exact LH50 FU _ _ _ _ _ hz21 hW (lv_sub hl [2, 3, 4, 6, 1, 0] rfl)
def f_X5_isFull (o0 : Nat) (M : Mem) : Int32 :=
  if (M.1 o0 3) < (M.1 o0 2) then (
    (0 : Int32))
  else (
    (1 : Int32))
theorem b_X5_isFull (o0 : Nat) (M : Mem) : f_X5_isFull o0 M = 0 ∨ f_X5_isFull o0 M = 1 := by
  obtain ⟨r, hk⟩ : ∃ r, f_X5_isFull o0 M = r := ⟨_, rfl⟩
  rw [hk]; unfold f_X5_isFull at hk
  first | (repeat' (split at hk)) | skip
  all_goals (rw [← hk]; first | exact Or.inl rfl | exact Or.inr rfl)
set_option maxHeartbeats 4000000 in
set_option maxRecDepth 100000 in
theorem c_X5_isFull (l : Launch) (G : GT) {o0 : Nat} (h0 : kd o0 = 5) (M : Mem) : CMi l G true yX5_isFull cX5_isFull 1 (some .boolean) 0 [.ref (ad G o0)] M (f_X5_isFull o0 M) M := by
  obtain ⟨r, hk⟩ : ∃ r, f_X5_isFull o0 M = r := ⟨_, rfl⟩
  rw [hk]
  unfold f_X5_isFull at hk
  refine CMi.ofZ (by decide) (Nat.le_of_ble_eq_true rfl) ?_
  intro p e s m args below meth c Q hx hb hml hown hg hK hW hret ls hl
  have hl : lv_has ls 1 [(0, .ref (ad G o0))] := hl
  refine lv_aload_n hx hb dX5_isFull_0 rfl (lv_at hl 0 rfl) ?_
  refine gt_X5_7 hx hb hg hown hK hW h0 dX5_isFull_1 ?_
  refine lv_aload_n hx hb dX5_isFull_4 rfl (lv_at hl 0 rfl) ?_
  refine gt_X5_22 hx hb hg hown hK hW h0 dX5_isFull_5 ?_
  refine lv_icmp_lt (tgt := 15) hx hb dX5_isFull_8 (by decide) (fun c1 => ?_) (fun c1 => ?_)
  · replace hk := ite_t hk c1
    refine lv_iconst (v := (0 : Int32)) hx hb dX5_isFull_15 (by decide) ?_
    subst hk
    exact hret _ _ _ _ (Or.inl rfl) hW dX5_isFull_16
  · replace hk := ite_f hk c1
    refine lv_iconst (v := (1 : Int32)) hx hb dX5_isFull_11 (by decide) ?_
    refine lv_goto (tgt := 16) hx hb dX5_isFull_12 (by decide) ?_
    subst hk
    exact hret _ _ _ _ (Or.inr rfl) hW dX5_isFull_16
def f_X5_append (o0 : Nat) (a1 : Int32) (a2 : Int32) (a3 : Int32) (a4 : Int32) (a5 : Int32) (M : Mem) : Option (Int32 × Mem) :=
  lq ((M.1 o0 3) * (M.1 o0 0)) (fun x1 =>
  ob (f_X6_put (o0 + 1) x1 a1 M) (fun M3 =>
  ob (f_X6_put (o0 + 1) (x1 + (1 : Int32)) a2 M3) (fun M5 =>
  ob (f_X6_put (o0 + 1) (x1 + (2 : Int32)) a3 M5) (fun M7 =>
  ob (f_X6_put (o0 + 1) (x1 + (3 : Int32)) a4 M7) (fun M9 =>
  ob (
    if (M9.1 o0 0) ≤ (4 : Int32) then (
      some M9)
    else (
      ob (f_X6_put (o0 + 1) (x1 + (4 : Int32)) a5 M9) (fun M11 =>
      some M11)))
   (fun M13 =>
  lq (s1 M13 o0 3 ((M13.1 o0 3) + (1 : Int32))) (fun M14 =>
  some ((M14.1 o0 3), M14))))))))
set_option maxHeartbeats 4000000 in
set_option maxRecDepth 100000 in
theorem c_X5_append (l : Launch) (G : GT) {o0 : Nat} (h0 : kd o0 = 5) (a1 : Int32) (a2 : Int32) (a3 : Int32) (a4 : Int32) (a5 : Int32) (M : Mem) {r : Int32} {M' : Mem} (hk : f_X5_append o0 a1 a2 a3 a4 a5 M = some (r, M')) : CMi l G true yX5_append cX5_append 7 (some .int) 1 [.ref (ad G o0), .int a1, .int a2, .int a3, .int a4, .int a5] M r M' := by
  unfold f_X5_append at hk
  refine CMi.of (by decide) (Nat.le_of_ble_eq_true rfl) ?_
  intro p e s m args below meth c Q hx hb hml hown hg hK hW hret ls hl
  have hl : lv_has ls 7 [(0, .ref (ad G o0)), (1, .int a1), (2, .int a2), (3, .int a3), (4, .int a4), (5, .int a5)] := hl
  refine lv_aload_n hx hb dX5_append_0 rfl (lv_at hl 0 rfl) ?_
  refine gt_X5_7 hx hb hg hown hK hW h0 dX5_append_1 ?_
  refine lv_aload_n hx hb dX5_append_4 rfl (lv_at hl 0 rfl) ?_
  refine gt_X5_19 hx hb hg hown hK hW h0 dX5_append_5 ?_
  refine lv_imul hx hb dX5_append_8 ?_
  replace hk := lq_s hk
  obtain ⟨x1, ex1, hk⟩ := hk
  refine nm_i ex1 ?_
  refine lv_istore (lv' := [(6, .int x1), (0, .ref (ad G o0)), (1, .int a1), (2, .int a2), (3, .int a3), (4, .int a4), (5, .int a5)]) hx hb dX5_append_9 hl (by decide) rfl (fun ls hl => ?_)
  refine lv_aload_n hx hb dX5_append_11 rfl (lv_at hl 1 rfl) ?_
  refine gt_X5_25 hx hb hg hown hK hW h0 dX5_append_12 ?_
  refine lv_iload hx hb dX5_append_15 (lv_at hl 0 rfl) ?_
  refine lv_iload_n hx hb dX5_append_17 rfl (lv_at hl 2 rfl) ?_
  replace hk := ob_s hk
  obtain ⟨M3, hx2, hk⟩ := hk
  refine cl_v (rn_SN n_654 g_294 g_1 g_295 hd_X6_put (Nat.le_of_ble_eq_true rfl) hx hb hml hown hg hK hW (As := [.ref (ad G (o0 + 1)), .int x1, .int a1]) (c_X6_put l G (k5_1 h0) x1 a1 M hx2) (by decide) rfl hl.1 rfl (Nat.le_of_ble_eq_true rfl) dX5_append_18) hW (fun H locs hW => ?_)
  refine lv_aload_n hx hb dX5_append_21 rfl (lv_at hl 1 rfl) ?_
  refine gt_X5_25 hx hb hg hown hK hW h0 dX5_append_22 ?_
  refine lv_iload hx hb dX5_append_25 (lv_at hl 0 rfl) ?_
  refine lv_iconst (v := (1 : Int32)) hx hb dX5_append_27 (by decide) ?_
  refine lv_iadd hx hb dX5_append_28 ?_
  refine lv_iload_n hx hb dX5_append_29 rfl (lv_at hl 3 rfl) ?_
  replace hk := ob_s hk
  obtain ⟨M5, hx4, hk⟩ := hk
  refine cl_v (rn_SN n_654 g_294 g_1 g_295 hd_X6_put (Nat.le_of_ble_eq_true rfl) hx hb hml hown hg hK hW (As := [.ref (ad G (o0 + 1)), .int (x1 + (1 : Int32)), .int a2]) (c_X6_put l G (k5_1 h0) (x1 + (1 : Int32)) a2 M3 hx4) (by decide) rfl hl.1 rfl (Nat.le_of_ble_eq_true rfl) dX5_append_30) hW (fun H locs hW => ?_)
  refine lv_aload_n hx hb dX5_append_33 rfl (lv_at hl 1 rfl) ?_
  refine gt_X5_25 hx hb hg hown hK hW h0 dX5_append_34 ?_
  refine lv_iload hx hb dX5_append_37 (lv_at hl 0 rfl) ?_
  refine lv_iconst (v := (2 : Int32)) hx hb dX5_append_39 (by decide) ?_
  refine lv_iadd hx hb dX5_append_40 ?_
  refine lv_iload_n hx hb dX5_append_41 rfl (lv_at hl 4 rfl) ?_
  replace hk := ob_s hk
  obtain ⟨M7, hx6, hk⟩ := hk
  refine cl_v (rn_SN n_654 g_294 g_1 g_295 hd_X6_put (Nat.le_of_ble_eq_true rfl) hx hb hml hown hg hK hW (As := [.ref (ad G (o0 + 1)), .int (x1 + (2 : Int32)), .int a3]) (c_X6_put l G (k5_1 h0) (x1 + (2 : Int32)) a3 M5 hx6) (by decide) rfl hl.1 rfl (Nat.le_of_ble_eq_true rfl) dX5_append_42) hW (fun H locs hW => ?_)
  refine lv_aload_n hx hb dX5_append_45 rfl (lv_at hl 1 rfl) ?_
  refine gt_X5_25 hx hb hg hown hK hW h0 dX5_append_46 ?_
  refine lv_iload hx hb dX5_append_49 (lv_at hl 0 rfl) ?_
  refine lv_iconst (v := (3 : Int32)) hx hb dX5_append_51 (by decide) ?_
  refine lv_iadd hx hb dX5_append_52 ?_
  refine lv_iload hx hb dX5_append_53 (lv_at hl 5 rfl) ?_
  replace hk := ob_s hk
  obtain ⟨M9, hx8, hk⟩ := hk
  refine cl_v (rn_SN n_654 g_294 g_1 g_295 hd_X6_put (Nat.le_of_ble_eq_true rfl) hx hb hml hown hg hK hW (As := [.ref (ad G (o0 + 1)), .int (x1 + (3 : Int32)), .int a4]) (c_X6_put l G (k5_1 h0) (x1 + (3 : Int32)) a4 M7 hx8) (by decide) rfl hl.1 rfl (Nat.le_of_ble_eq_true rfl) dX5_append_55) hW (fun H locs hW => ?_)
  refine lv_aload_n hx hb dX5_append_58 rfl (lv_at hl 1 rfl) ?_
  refine gt_X5_19 hx hb hg hown hK hW h0 dX5_append_59 ?_
  refine lv_iconst (v := (4 : Int32)) hx hb dX5_append_62 (by decide) ?_
  replace hk := ob_s hk
  obtain ⟨M13, hr16, hk⟩ := hk
  have KJ15 : ∀ (H : Heap) (locs : List Loc) (ls : Array Slot), Ws G true M13 s H locs → lv_has ls 7 [(0, .ref (ad G o0))] → Wx p l e 1 s m args below meth c Q H locs 79 ls [] := by
    intro H locs ls hW hl
    refine lv_aload_n hx hb dX5_append_79 rfl (lv_at hl 0 rfl) ?_
    refine lv_dup hx hb dX5_append_80 rfl ?_
    refine gt_X5_7 hx hb hg hown hK hW h0 dX5_append_81 ?_
    refine lv_iconst (v := (1 : Int32)) hx hb dX5_append_84 (by decide) ?_
    refine lv_iadd hx hb dX5_append_85 ?_
    replace hk := lq_s hk
    obtain ⟨M14, eM14, hk⟩ := hk
    refine pt_X5_7 hx hb hg hown hK hW h0 eM14 dX5_append_86 (fun H locs hW => ?_)
    refine lv_aload_n hx hb dX5_append_89 rfl (lv_at hl 0 rfl) ?_
    refine gt_X5_7 hx hb hg hown hK hW h0 dX5_append_90 ?_
    obtain ⟨rfl, rfl⟩ := sp2 hk
    exact hret _ _ _ _ hW dX5_append_93
  clear hk
  have hk := hr16
  clear hr16
  refine lv_icmp_le (tgt := 79) hx hb dX5_append_63 (by decide) (fun c12 => ?_) (fun c12 => ?_)
  · replace hk := ite_t hk c12
    obtain rfl := Option.some.inj hk
    exact KJ15 _ _ _ hW (lv_sub hl [1] rfl)
  · replace hk := ite_f hk c12
    refine lv_aload_n hx hb dX5_append_66 rfl (lv_at hl 1 rfl) ?_
    refine gt_X5_25 hx hb hg hown hK hW h0 dX5_append_67 ?_
    refine lv_iload hx hb dX5_append_70 (lv_at hl 0 rfl) ?_
    refine lv_iconst (v := (4 : Int32)) hx hb dX5_append_72 (by decide) ?_
    refine lv_iadd hx hb dX5_append_73 ?_
    refine lv_iload hx hb dX5_append_74 (lv_at hl 6 rfl) ?_
    replace hk := ob_s hk
    obtain ⟨M11, hx10, hk⟩ := hk
    refine cl_v (rn_SN n_654 g_294 g_1 g_295 hd_X6_put (Nat.le_of_ble_eq_true rfl) hx hb hml hown hg hK hW (As := [.ref (ad G (o0 + 1)), .int (x1 + (4 : Int32)), .int a5]) (c_X6_put l G (k5_1 h0) (x1 + (4 : Int32)) a5 M9 hx10) (by decide) rfl hl.1 rfl (Nat.le_of_ble_eq_true rfl) dX5_append_76) hW (fun H locs hW => ?_)
    obtain rfl := Option.some.inj hk
    exact KJ15 _ _ _ hW (lv_sub hl [1] rfl)
def f_X5_value (o0 : Nat) (a1 : Int32) (a2 : Int32) (M : Mem) : Option (Int32) :=
  ob (f_X6_cell (o0 + 1) ((a1 * (M.1 o0 0)) + a2) M) (fun x1 =>
  some x1)
set_option maxHeartbeats 4000000 in
set_option maxRecDepth 100000 in
theorem c_X5_value (l : Launch) (G : GT) {o0 : Nat} (h0 : kd o0 = 5) (a1 : Int32) (a2 : Int32) (M : Mem) {r : Int32} (hk : f_X5_value o0 a1 a2 M = some r) : CMi l G true yX5_value cX5_value 3 (some .int) 1 [.ref (ad G o0), .int a1, .int a2] M r M := by
  unfold f_X5_value at hk
  refine CMi.of (by decide) (Nat.le_of_ble_eq_true rfl) ?_
  intro p e s m args below meth c Q hx hb hml hown hg hK hW hret ls hl
  have hl : lv_has ls 3 [(0, .ref (ad G o0)), (1, .int a1), (2, .int a2)] := hl
  refine lv_aload_n hx hb dX5_value_0 rfl (lv_at hl 0 rfl) ?_
  refine gt_X5_25 hx hb hg hown hK hW h0 dX5_value_1 ?_
  refine lv_iload_n hx hb dX5_value_4 rfl (lv_at hl 1 rfl) ?_
  refine lv_aload_n hx hb dX5_value_5 rfl (lv_at hl 0 rfl) ?_
  refine gt_X5_19 hx hb hg hown hK hW h0 dX5_value_6 ?_
  refine lv_imul hx hb dX5_value_9 ?_
  refine lv_iload_n hx hb dX5_value_10 rfl (lv_at hl 2 rfl) ?_
  refine lv_iadd hx hb dX5_value_11 ?_
  replace hk := ob_s hk
  obtain ⟨x1, hx1, hk⟩ := hk
  refine cl_i (rn_SN n_671 g_346 g_1 g_347 hd_X6_cell (Nat.le_of_ble_eq_true rfl) hx hb hml hown hg hK hW (As := [.ref (ad G (o0 + 1)), .int ((a1 * (M.1 o0 0)) + a2)]) (c_X6_cell l G (k5_1 h0) ((a1 * (M.1 o0 0)) + a2) M hx1) (by decide) rfl hl.1 rfl (Nat.le_of_ble_eq_true rfl) dX5_value_12) hW (fun H locs hW => ?_)
  obtain rfl := Option.some.inj hk
  exact hret _ _ _ _ hW dX5_value_15
def f_X5_digestOn_L5 (o0 : Nat) (M : Mem) : Nat → Int64 → Int32 → Option (Int64)
  | 0, _, _ => none
  | n + 1, x1, x2 =>
    if ((M.1 o0 3) * (M.1 o0 0)) ≤ x2 then (
      some x1)
    else (
      ob (f_X6_cell (o0 + 1) x2 M) (fun x4 =>
      lq (((31 : Int64) * x1) + x4.toInt64) (fun x5 =>
      lq (x2 + (1 : Int32)) (fun x6 =>
      f_X5_digestOn_L5 o0 M n x5 x6))))
def f_X5_digestOn (o0 : Nat) (a1 : Int64) (M : Mem) : Option (Int64) :=
  ob (f_X5_digestOn_L5 o0 M FU a1 (0 : Int32)) (fun x3 =>
  some x3)
set_option maxHeartbeats 4000000 in
set_option maxRecDepth 100000 in
theorem c_X5_digestOn (l : Launch) (G : GT) {o0 : Nat} (h0 : kd o0 = 5) (a1 : Int64) (M : Mem) {r : Int64} (hk : f_X5_digestOn o0 a1 M = some r) : CMl l G true yX5_digestOn cX5_digestOn 6 (some .long) 1 [.ref (ad G o0), .long a1] M r M := by
  unfold f_X5_digestOn at hk
  refine CMl.of (by decide) (Nat.le_of_ble_eq_true rfl) ?_
  intro p e s m args below meth c Q hx hb hml hown hg hK hW hret ls hl
  have hl : lv_has ls 6 [(0, .ref (ad G o0)), (1, .long a1)] := hl
  refine lv_lload_n hx hb dX5_digestOn_0 rfl (lv_at hl 1 rfl) ?_
  refine lv_lstore_n (lv' := [(3, .long a1), (0, .ref (ad G o0)), (1, .long a1)]) hx hb dX5_digestOn_1 rfl hl (by decide) rfl (fun ls hl => ?_)
  refine lv_iconst (v := (0 : Int32)) hx hb dX5_digestOn_2 (by decide) ?_
  refine lv_istore (lv' := [(5, .int (0 : Int32)), (3, .long a1), (0, .ref (ad G o0)), (1, .long a1)]) hx hb dX5_digestOn_3 hl (by decide) rfl (fun ls hl => ?_)
  replace hk := ob_s hk
  obtain ⟨x3, hz8, hk⟩ := hk
  have KX5 : ∀ (H : Heap) (locs : List Loc) (ls : Array Slot), Ws G true M s H locs → lv_has ls 6 [(3, .long x3)] → Wx p l e 1 s m args below meth c Q H locs 42 ls [] := by
    intro H locs ls hW hl
    refine lv_lload_n hx hb dX5_digestOn_42 rfl (lv_at hl 0 rfl) ?_
    obtain rfl := Option.some.inj hk
    exact hret _ _ _ _ hW dX5_digestOn_43
  clear hk
  have LH5 : ∀ (n : Nat) (x1 : Int64) (x2 : Int32) (H : Heap) (locs : List Loc) (ls : Array Slot), f_X5_digestOn_L5 o0 M n x1 x2 = some x3 → Ws G true M s H locs → lv_has ls 6 [(0, .ref (ad G o0)), (3, .long x1), (5, .int x2)] → Wx p l e 1 s m args below meth c Q H locs 5 ls [] := by
    clear hz8
    intro n
    induction n with
    | zero => intro _ _ _ _ _ hk; cases hk
    | succ n ih5 =>
      intro x1 x2 H locs ls hk hW hl
      rw [f_X5_digestOn_L5.eq_2] at hk
      refine lv_iload hx hb dX5_digestOn_5 (lv_at hl 2 rfl) ?_
      refine lv_aload_n hx hb dX5_digestOn_7 rfl (lv_at hl 0 rfl) ?_
      refine gt_X5_7 hx hb hg hown hK hW h0 dX5_digestOn_8 ?_
      refine lv_aload_n hx hb dX5_digestOn_11 rfl (lv_at hl 0 rfl) ?_
      refine gt_X5_19 hx hb hg hown hK hW h0 dX5_digestOn_12 ?_
      refine lv_imul hx hb dX5_digestOn_15 ?_
      refine lv_icmp_ge (tgt := 42) hx hb dX5_digestOn_16 (by decide) (fun c7 => ?_) (fun c7 => ?_)
      · replace hk := ite_t hk c7
        obtain rfl := Option.some.inj hk
        exact KX5 _ _ _ hW (lv_sub hl [1] rfl)
      · replace hk := ite_f hk c7
        refine lv_ldc2 hx hb hown (hg _ g_841) dX5_digestOn_19 ?_
        refine lv_lload_n hx hb dX5_digestOn_22 rfl (lv_at hl 1 rfl) ?_
        refine lv_lmul hx hb dX5_digestOn_23 ?_
        refine lv_aload_n hx hb dX5_digestOn_24 rfl (lv_at hl 0 rfl) ?_
        refine gt_X5_25 hx hb hg hown hK hW h0 dX5_digestOn_25 ?_
        refine lv_iload hx hb dX5_digestOn_28 (lv_at hl 2 rfl) ?_
        replace hk := ob_s hk
        obtain ⟨x4, hx4, hk⟩ := hk
        refine cl_i (rn_SN n_671 g_346 g_1 g_347 hd_X6_cell (Nat.le_of_ble_eq_true rfl) hx hb hml hown hg hK hW (As := [.ref (ad G (o0 + 1)), .int x2]) (c_X6_cell l G (k5_1 h0) x2 M hx4) (by decide) rfl hl.1 rfl (Nat.le_of_ble_eq_true rfl) dX5_digestOn_30) hW (fun H locs hW => ?_)
        refine lv_i2l hx hb dX5_digestOn_33 rfl ?_
        refine lv_ladd hx hb dX5_digestOn_34 ?_
        replace hk := lq_s hk
        obtain ⟨x5, ex5, hk⟩ := hk
        refine nm_l ex5 ?_
        refine lv_lstore_n (lv' := [(3, .long x5), (0, .ref (ad G o0)), (5, .int x2)]) hx hb dX5_digestOn_35 rfl hl (by decide) rfl (fun ls hl => ?_)
        replace hk := lq_s hk
        obtain ⟨x6, ex6, hk⟩ := hk
        refine lv_iinc (v := x6) (lv' := [(5, .int x6), (3, .long x5), (0, .ref (ad G o0))]) hx hb dX5_digestOn_36 hl (k := 2) rfl (by rw [ex6]; rfl) (by decide) rfl (fun ls hl => ?_)
        refine lv_goto (tgt := 5) hx hb dX5_digestOn_39 (by decide) ?_
        exact ih5 _ _ _ _ _ hk hW (lv_sub hl [2, 1, 0] rfl)
  exact LH5 FU _ _ _ _ _ hz8 hW (lv_sub hl [2, 1, 0] rfl)
