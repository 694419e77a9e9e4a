def f_X3_isWord_L28 (o0 : Nat) (o1 : Nat) (M : Mem) : Nat → Int32 → Option ((Int32) ⊕ (Int32))
  | 0, _ => none
  | n + 1, x2 =>
    if (nI (sLen.getD o1 0)) ≤ x2 then (
      some (Sum.inl x2))
    else (
      ob (f_X6_cell (o0 + 1) ((M.1 o0 2) + x2) M) (fun x5 =>
      ob (chS o1 x2) (fun x6 =>
      if x5 = x6 then (
        lq (x2 + (1 : Int32)) (fun x7 =>
        f_X3_isWord_L28 o0 o1 M n x7))
      else (
        some (Sum.inr (0 : Int32))))))
def f_X3_isWord (o0 : Nat) (o1 : Nat) (M : Mem) : Option (Int32) :=
  if (M.1 o0 4) = (1 : Int32) then (
    if ((M.1 o0 3) - (M.1 o0 2)) = (nI (sLen.getD o1 0)) then (
      oeT1 (f_X3_isWord_L28 o0 o1 M FU (0 : Int32)) (fun x3 =>
      some (1 : Int32)))
    else (
      some (0 : Int32)))
  else (
    some (0 : Int32))
set_option maxHeartbeats 4000000 in
set_option maxRecDepth 100000 in
theorem c_X3_isWord (l : Launch) (G : GT) {o0 : Nat} (h0 : kd o0 = 3) {o1 : Nat} (h1 : o1 < 5) (M : Mem) {r : Int32} (hk : f_X3_isWord o0 o1 M = some r) : CMi l G true yX3_isWord cX3_isWord 3 (some .boolean) 5 [.ref (ad G o0), .ref (G.2.2.2.2.1 o1)] M r M := by
  unfold f_X3_isWord at hk
  refine CMi.ofZ (by decide) (Nat.le_of_ble_eq_true rfl) ?_
  intro p e s m args below meth c Q hx hb hml hown hg hK hW hret ls hl
  have hl : lv_has ls 3 [(0, .ref (ad G o0)), (1, .ref (G.2.2.2.2.1 o1))] := hl
  refine lv_aload_n hx hb dX3_isWord_0 rfl (lv_at hl 0 rfl) ?_
  refine gt_X3_25 hx hb hg hown hK hW h0 dX3_isWord_1 ?_
  refine lv_iconst (v := (1 : Int32)) hx hb dX3_isWord_4 (by decide) ?_
  refine lv_icmp_ne (tgt := 24) hx hb dX3_isWord_5 (by decide) (fun c13 => ?_) (fun c13 => ?_)
  · replace hk := ite_f hk c13
    refine lv_iconst (v := (0 : Int32)) hx hb dX3_isWord_24 (by decide) ?_
    obtain rfl := Option.some.inj hk
    exact hret _ _ _ _ (Or.inl rfl) hW dX3_isWord_25
  · replace hk := ite_t hk c13
    refine lv_aload_n hx hb dX3_isWord_8 rfl (lv_at hl 0 rfl) ?_
    refine gt_X3_22 hx hb hg hown hK hW h0 dX3_isWord_9 ?_
    refine lv_aload_n hx hb dX3_isWord_12 rfl (lv_at hl 0 rfl) ?_
    refine gt_X3_19 hx hb hg hown hK hW h0 dX3_isWord_13 ?_
    refine lv_isub hx hb dX3_isWord_16 ?_
    refine lv_aload_n hx hb dX3_isWord_17 rfl (lv_at hl 1 rfl) ?_
    refine cl_i (rn_VT g_354 g_355 g_356 g_10 g_357 hd_J0_length_8abf5 (Nat.le_of_ble_eq_true rfl) h1 hx hb hml hown hg hK hW (As := []) (c_J0_length_8abf5 l G h1 M) (by decide) rfl hl.1 rfl (Nat.le_of_ble_eq_true rfl) dX3_isWord_18) hW (fun H locs hW => ?_)
    refine lv_icmp_eq (tgt := 26) hx hb dX3_isWord_21 (by decide) (fun c12 => ?_) (fun c12 => ?_)
    · replace hk := ite_t hk c12
      refine lv_iconst (v := (0 : Int32)) hx hb dX3_isWord_26 (by decide) ?_
      refine lv_istore_n (lv' := [(2, .int (0 : Int32)), (0, .ref (ad G o0)), (1, .ref (G.2.2.2.2.1 o1))]) hx hb dX3_isWord_27 rfl hl (by decide) rfl (fun ls hl => ?_)
      replace hk := oeT1_s hk
      obtain ⟨z11, hz10, hk_28⟩ := hk
      have KX28 : ∀ (x3 : Int32), z11 = Sum.inl x3 → ∀ (H : Heap) (locs : List Loc) (ls : Array Slot), Ws G true M s H locs → lv_has ls 3 [] → Wx p l e 5 s m args below meth c Q H locs 65 ls [] := by
        intro x3 ez H locs ls hW hl
        have hk := hk_28.1 x3 ez
        refine lv_iconst (v := (1 : Int32)) hx hb dX3_isWord_65 (by decide) ?_
        obtain rfl := Option.some.inj hk
        exact hret _ _ _ _ (Or.inr rfl) hW dX3_isWord_66
      have LH28 : ∀ (n : Nat) (x2 : Int32) (H : Heap) (locs : List Loc) (ls : Array Slot), f_X3_isWord_L28 o0 o1 M n x2 = some z11 → Ws G true M s H locs → lv_has ls 3 [(0, .ref (ad G o0)), (1, .ref (G.2.2.2.2.1 o1)), (2, .int x2)] → Wx p l e 5 s m args below meth c Q H locs 28 ls [] := by
        clear hz10
        intro n
        induction n with
        | zero => intro _ _ _ _ hk; cases hk
        | succ n ih28 =>
          intro x2 H locs ls hk hW hl
          rw [f_X3_isWord_L28.eq_2] at hk
          refine lv_iload_n hx hb dX3_isWord_28 rfl (lv_at hl 2 rfl) ?_
          refine lv_aload_n hx hb dX3_isWord_29 rfl (lv_at hl 1 rfl) ?_
          refine cl_i (rn_VT g_354 g_355 g_356 g_10 g_357 hd_J0_length_8abf5 (Nat.le_of_ble_eq_true rfl) h1 hx hb hml hown hg hK hW (As := []) (c_J0_length_8abf5 l G h1 M) (by decide) rfl hl.1 rfl (Nat.le_of_ble_eq_true rfl) dX3_isWord_30) hW (fun H locs hW => ?_)
          refine lv_icmp_ge (tgt := 65) hx hb dX3_isWord_33 (by decide) (fun c9 => ?_) (fun c9 => ?_)
          · replace hk := ite_t hk c9
            obtain rfl := Option.some.inj hk
            exact KX28 _ rfl _ _ _ hW (lv_sub hl [] rfl)
          · replace hk := ite_f hk c9
            refine lv_aload_n hx hb dX3_isWord_36 rfl (lv_at hl 0 rfl) ?_
            refine gt_X3_9 hx hb hg hown hK hW h0 dX3_isWord_37 ?_
            refine lv_aload_n hx hb dX3_isWord_40 rfl (lv_at hl 0 rfl) ?_
            refine gt_X3_19 hx hb hg hown hK hW h0 dX3_isWord_41 ?_
            refine lv_iload_n hx hb dX3_isWord_44 rfl (lv_at hl 2 rfl) ?_
            refine lv_iadd hx hb dX3_isWord_45 ?_
            replace hk := ob_s hk
            obtain ⟨x5, hx5, hk⟩ := hk
            refine cl_i (rn_SN n_345 g_346 g_1 g_347 hd_X6_cell (Nat.le_of_ble_eq_true rfl) hx hb hml hown hg hK hW (As := [.ref (ad G (o0 + 1)), .int ((M.1 o0 2) + x2)]) (c_X6_cell l G (k3_1 h0) ((M.1 o0 2) + x2) M hx5) (by decide) rfl hl.1 rfl (Nat.le_of_ble_eq_true rfl) dX3_isWord_46) hW (fun H locs hW => ?_)
            refine lv_aload_n hx hb dX3_isWord_49 rfl (lv_at hl 1 rfl) ?_
            refine lv_iload_n hx hb dX3_isWord_50 rfl (lv_at hl 2 rfl) ?_
            replace hk := ob_s hk
            obtain ⟨x6, hx6, hk⟩ := hk
            refine cl_i (rn_VT g_364 g_365 g_366 g_10 g_367 hd_J0_charAt_5068e (Nat.le_of_ble_eq_true rfl) h1 hx hb hml hown hg hK hW (As := [.int x2]) (c_J0_charAt_5068e l G h1 x2 M hx6) (by decide) rfl hl.1 rfl (Nat.le_of_ble_eq_true rfl) dX3_isWord_51) hW (fun H locs hW => ?_)
            refine lv_icmp_eq (tgt := 59) hx hb dX3_isWord_54 (by decide) (fun c8 => ?_) (fun c8 => ?_)
            · replace hk := ite_t hk c8
              replace hk := lq_s hk
              obtain ⟨x7, ex7, hk⟩ := hk
              refine lv_iinc (v := x7) (lv' := [(2, .int x7), (0, .ref (ad G o0)), (1, .ref (G.2.2.2.2.1 o1))]) hx hb dX3_isWord_59 hl (k := 2) rfl (by rw [ex7]; rfl) (by decide) rfl (fun ls hl => ?_)
              refine lv_goto (tgt := 28) hx hb dX3_isWord_62 (by decide) ?_
              exact ih28 _ _ _ _ hk hW (lv_sub hl [1, 2, 0] rfl)
            · replace hk := ite_f hk c8
              refine lv_iconst (v := (0 : Int32)) hx hb dX3_isWord_57 (by decide) ?_
              obtain rfl := Option.some.inj hk
              have hk := hk_28.2 _ rfl
              obtain rfl := Option.some.inj hk
              exact hret _ _ _ _ (Or.inl rfl) hW dX3_isWord_58
      exact LH28 FU _ _ _ _ hz10 hW (lv_sub hl [1, 2, 0] rfl)
    · replace hk := ite_f hk c12
      refine lv_iconst (v := (0 : Int32)) hx hb dX3_isWord_24 (by decide) ?_
      obtain rfl := Option.some.inj hk
      exact hret _ _ _ _ (Or.inl rfl) hW dX3_isWord_25
def f_X3_takeOpening (o0 : Nat) (o1 : Nat) (M : Mem) : Option (Int32 × Mem) :=
  ob (f_X3_advance o0 M) (fun M2 =>
  ob (f_X3_isWord o0 0 M2) (fun x3 =>
  if x3 = (0 : Int32) then (
    some ((0 : Int32), M2))
  else (
    ob2 (f_X3_takeNumber o0 (0 : Int32) (40 : Int32) M2) (fun x4 M5 =>
    if x4 = (0 : Int32) then (
      some ((0 : Int32), M5))
    else (
      ob (f_X2_begin o1 (M5.1 o0 5) M5) (fun M7 =>
      ob2 (f_X3_takeSemicolon o0 M7) (fun x8 M9 =>
      if x8 = 0 ∨ x8 = 1 then some (x8, M9) else none)))))))
set_option maxHeartbeats 4000000 in
set_option maxRecDepth 100000 in
theorem c_X3_takeOpening (l : Launch) (G : GT) {o0 : Nat} (h0 : kd o0 = 3) {o1 : Nat} (h1 : kd o1 = 2) (M : Mem) {r : Int32} {M' : Mem} (hk : f_X3_takeOpening o0 o1 M = some (r, M')) : CMi l G true yX3_takeOpening cX3_takeOpening 2 (some .boolean) 6 [.ref (ad G o0), .ref (ad G o1)] M r M' := by
  unfold f_X3_takeOpening at hk
  refine CMi.ofZ (by decide) (Nat.le_of_ble_eq_true rfl) ?_
  intro p e s m args below meth c Q hx hb hml hown hg hK hW hret ls hl
  have hl : lv_has ls 2 [(0, .ref (ad G o0)), (1, .ref (ad G o1))] := hl
  refine lv_aload_n hx hb dX3_takeOpening_0 rfl (lv_at hl 0 rfl) ?_
  replace hk := ob_s hk
  obtain ⟨M2, hx1, hk⟩ := hk
  refine cl_v (rn_V g_337 g_339 gs_9 g_6 g_340 hd_X3_advance (Nat.le_of_ble_eq_true rfl) (ci := 3) rfl (inC h0 rfl) (shp3 h0) hx hb hml hown hg hK hW (As := []) (c_X3_advance l G h0 M hx1) (by decide) rfl hl.1 rfl (Nat.le_of_ble_eq_true rfl) dX3_takeOpening_1) hW (fun H locs hW => ?_)
  refine lv_aload_n hx hb dX3_takeOpening_4 rfl (lv_at hl 0 rfl) ?_
  refine va_ldcS hx hb hown ((hK.2.2.2 rfl).2.1 0 _ rfl) dX3_takeOpening_5 ?_
  replace hk := ob_s hk
  obtain ⟨x3, hx3, hk⟩ := hk
  refine cl_i (rn_V g_350 g_352 gs_11 g_6 g_353 hd_X3_isWord (Nat.le_of_ble_eq_true rfl) (ci := 3) rfl (inC h0 rfl) (shp3 h0) hx hb hml hown hg hK hW (As := [.ref (G.2.2.2.2.1 0)]) (c_X3_isWord l G h0 (by decide) M2 hx3) (by decide) rfl hl.1 rfl (Nat.le_of_ble_eq_true rfl) dX3_takeOpening_7) hW (fun H locs hW => ?_)
  refine lv_if_eq (tgt := 23) hx hb dX3_takeOpening_10 (by decide) (fun c11 => ?_) (fun c11 => ?_)
  · replace hk := ite_t hk c11
    refine lv_iconst (v := (0 : Int32)) hx hb dX3_takeOpening_23 (by decide) ?_
    obtain ⟨rfl, rfl⟩ := sp2 hk
    exact hret _ _ _ _ (Or.inl rfl) hW dX3_takeOpening_24
  · replace hk := ite_f hk c11
    refine lv_aload_n hx hb dX3_takeOpening_13 rfl (lv_at hl 0 rfl) ?_
    refine lv_iconst (v := (0 : Int32)) hx hb dX3_takeOpening_14 (by decide) ?_
    refine lv_bipush (v := (40 : Int32)) hx hb dX3_takeOpening_15 (by decide) ?_
    replace hk := ob2_s hk
    obtain ⟨x4, M5, hx4, hk⟩ := hk
    refine cl_i (rn_V g_402 g_404 gs_12 g_6 g_405 hd_X3_takeNumber (Nat.le_of_ble_eq_true rfl) (ci := 3) rfl (inC h0 rfl) (shp3 h0) hx hb hml hown hg hK hW (As := [.int (0 : Int32), .int (40 : Int32)]) (c_X3_takeNumber l G h0 (0 : Int32) (40 : Int32) M2 hx4) (by decide) rfl hl.1 rfl (Nat.le_of_ble_eq_true rfl) dX3_takeOpening_17) hW (fun H locs hW => ?_)
    refine lv_if_ne (tgt := 25) hx hb dX3_takeOpening_20 (by decide) (fun c10 => ?_) (fun c10 => ?_)
    · replace hk := ite_f hk c10
      refine lv_aload_n hx hb dX3_takeOpening_25 rfl (lv_at hl 1 rfl) ?_
      refine lv_aload_n hx hb dX3_takeOpening_26 rfl (lv_at hl 0 rfl) ?_
      refine gt_X3_28 hx hb hg hown hK hW h0 dX3_takeOpening_27 ?_
      replace hk := ob_s hk
      obtain ⟨M7, hx6, hk⟩ := hk
      refine cl_v (rn_VN n_410 g_287 gs_1 g_2 g_288 hd_X2_begin (Nat.le_of_ble_eq_true rfl) (ci := 2) rfl (inC h1 rfl) (shp2 h1) hx hb hml hown hg hK hW (As := [.int (M5.1 o0 5)]) (c_X2_begin l G h1 (M5.1 o0 5) M5 hx6) (by decide) rfl hl.1 rfl (Nat.le_of_ble_eq_true rfl) dX3_takeOpening_30) hW (fun H locs hW => ?_)
      refine lv_aload_n hx hb dX3_takeOpening_33 rfl (lv_at hl 0 rfl) ?_
      replace hk := ob2_s hk
      obtain ⟨x8, M9, hx8, hk⟩ := hk
      refine cl_i (rn_V g_411 g_413 gs_14 g_6 g_414 hd_X3_takeSemicolon (Nat.le_of_ble_eq_true rfl) (ci := 3) rfl (inC h0 rfl) (shp3 h0) hx hb hml hown hg hK hW (As := []) (c_X3_takeSemicolon l G h0 M7 hx8) (by decide) rfl hl.1 rfl (Nat.le_of_ble_eq_true rfl) dX3_takeOpening_34) hW (fun H locs hW => ?_)
      by_cases hz : x8 = 0 ∨ x8 = 1
      · replace hk := ite_t hk hz
        obtain ⟨rfl, rfl⟩ := sp2 hk
        exact hret _ _ _ _ hz hW dX3_takeOpening_37
      · replace hk := ite_f hk hz
        cases hk
    · replace hk := ite_t hk c10
      refine lv_iconst (v := (0 : Int32)) hx hb dX3_takeOpening_23 (by decide) ?_
      obtain ⟨rfl, rfl⟩ := sp2 hk
      exact hret _ _ _ _ (Or.inl rfl) hW dX3_takeOpening_24
def f_X3_takeItem (o0 : Nat) (o1 : Nat) (M : Mem) : Option (Int32 × Mem) :=
  ob (f_X3_isWord o0 1 M) (fun x1 =>
  if x1 = (0 : Int32) then (
    ob (f_X3_isWord o0 2 M) (fun x2 =>
    if x2 = (0 : Int32) then (
      ob (f_X3_isWord o0 3 M) (fun x3 =>
      if x3 = (0 : Int32) then (
        ob (f_X3_isWord o0 4 M) (fun x4 =>
        if x4 = (0 : Int32) then (
          some ((0 : Int32), M))
        else (
          ob2 (f_X3_takeHang o0 o1 M) (fun x5 M6 =>
          if x5 = (0 : Int32) then (
            some ((0 : Int32), M6))
          else (
            some ((1 : Int32), M6))))))
      else (
        ob2 (f_X3_takeTie o0 o1 M) (fun x9 M10 =>
        if x9 = 0 ∨ x9 = 1 then some (x9, M10) else none))))
    else (
      ob2 (f_X3_takeMoves o0 o1 M) (fun x12 M13 =>
      if x12 = 0 ∨ x12 = 1 then some (x12, M13) else none))))
  else (
    if (7 : Int32) ≤ (M.1 o1 4) then (
      some ((0 : Int32), M))
    else (
      ob2 (f_X3_takeLimb o0 o1 M) (fun x15 M16 =>
      if x15 = (0 : Int32) then (
        some ((0 : Int32), M16))
      else (
        some ((1 : Int32), M16))))))
set_option maxHeartbeats 4000000 in
set_option maxRecDepth 100000 in
theorem c_X3_takeItem (l : Launch) (G : GT) {o0 : Nat} (h0 : kd o0 = 3) {o1 : Nat} (h1 : kd o1 = 2) (M : Mem) {r : Int32} {M' : Mem} (hk : f_X3_takeItem o0 o1 M = some (r, M')) : CMi l G true yX3_takeItem cX3_takeItem 2 (some .boolean) 6 [.ref (ad G o0), .ref (ad G o1)] M r M' := by
  unfold f_X3_takeItem at hk
  refine CMi.ofZ (by decide) (Nat.le_of_ble_eq_true rfl) ?_
  intro p e s m args below meth c Q hx hb hml hown hg hK hW hret ls hl
  have hl : lv_has ls 2 [(0, .ref (ad G o0)), (1, .ref (ad G o1))] := hl
  refine lv_aload_n hx hb dX3_takeItem_0 rfl (lv_at hl 0 rfl) ?_
  refine va_ldcS hx hb hown ((hK.2.2.2 rfl).2.1 1 _ rfl) dX3_takeItem_1 ?_
  replace hk := ob_s hk
  obtain ⟨x1, hx1, hk⟩ := hk
  refine cl_i (rn_V g_350 g_352 gs_11 g_6 g_353 hd_X3_isWord (Nat.le_of_ble_eq_true rfl) (ci := 3) rfl (inC h0 rfl) (shp3 h0) hx hb hml hown hg hK hW (As := [.ref (G.2.2.2.2.1 1)]) (c_X3_isWord l G h0 (by decide) M hx1) (by decide) rfl hl.1 rfl (Nat.le_of_ble_eq_true rfl) dX3_takeItem_3) hW (fun H locs hW => ?_)
  refine lv_if_eq (tgt := 32) hx hb dX3_takeItem_6 (by decide) (fun c19 => ?_) (fun c19 => ?_)
  · replace hk := ite_t hk c19
    refine lv_aload_n hx hb dX3_takeItem_32 rfl (lv_at hl 0 rfl) ?_
    refine va_ldcS hx hb hown ((hK.2.2.2 rfl).2.1 2 _ rfl) dX3_takeItem_33 ?_
    replace hk := ob_s hk
    obtain ⟨x2, hx2, hk⟩ := hk
    refine cl_i (rn_V g_350 g_352 gs_11 g_6 g_353 hd_X3_isWord (Nat.le_of_ble_eq_true rfl) (ci := 3) rfl (inC h0 rfl) (shp3 h0) hx hb hml hown hg hK hW (As := [.ref (G.2.2.2.2.1 2)]) (c_X3_isWord l G h0 (by decide) M hx2) (by decide) rfl hl.1 rfl (Nat.le_of_ble_eq_true rfl) dX3_takeItem_35) hW (fun H locs hW => ?_)
    refine lv_if_eq (tgt := 47) hx hb dX3_takeItem_38 (by decide) (fun c14 => ?_) (fun c14 => ?_)
    · replace hk := ite_t hk c14
      refine lv_aload_n hx hb dX3_takeItem_47 rfl (lv_at hl 0 rfl) ?_
      refine va_ldcS hx hb hown ((hK.2.2.2 rfl).2.1 3 _ rfl) dX3_takeItem_48 ?_
      replace hk := ob_s hk
      obtain ⟨x3, hx3, hk⟩ := hk
      refine cl_i (rn_V g_350 g_352 gs_11 g_6 g_353 hd_X3_isWord (Nat.le_of_ble_eq_true rfl) (ci := 3) rfl (inC h0 rfl) (shp3 h0) hx hb hml hown hg hK hW (As := [.ref (G.2.2.2.2.1 3)]) (c_X3_isWord l G h0 (by decide) M hx3) (by decide) rfl hl.1 rfl (Nat.le_of_ble_eq_true rfl) dX3_takeItem_50) hW (fun H locs hW => ?_)
      refine lv_if_eq (tgt := 62) hx hb dX3_takeItem_53 (by decide) (fun c11 => ?_) (fun c11 => ?_)
      · replace hk := ite_t hk c11
        refine lv_aload_n hx hb dX3_takeItem_62 rfl (lv_at hl 0 rfl) ?_
        refine va_ldcS hx hb hown ((hK.2.2.2 rfl).2.1 4 _ rfl) dX3_takeItem_63 ?_
        replace hk := ob_s hk
        obtain ⟨x4, hx4, hk⟩ := hk
        refine cl_i (rn_V g_350 g_352 gs_11 g_6 g_353 hd_X3_isWord (Nat.le_of_ble_eq_true rfl) (ci := 3) rfl (inC h0 rfl) (shp3 h0) hx hb hml hown hg hK hW (As := [.ref (G.2.2.2.2.1 4)]) (c_X3_isWord l G h0 (by decide) M hx4) (by decide) rfl hl.1 rfl (Nat.le_of_ble_eq_true rfl) dX3_takeItem_65) hW (fun H locs hW => ?_)
        refine lv_if_eq (tgt := 83) hx hb dX3_takeItem_68 (by decide) (fun c8 => ?_) (fun c8 => ?_)
        · replace hk := ite_t hk c8
          refine lv_iconst (v := (0 : Int32)) hx hb dX3_takeItem_83 (by decide) ?_
          obtain ⟨rfl, rfl⟩ := sp2 hk
          exact hret _ _ _ _ (Or.inl rfl) hW dX3_takeItem_84
        · replace hk := ite_f hk c8
          refine lv_aload_n hx hb dX3_takeItem_71 rfl (lv_at hl 0 rfl) ?_
          refine lv_aload_n hx hb dX3_takeItem_72 rfl (lv_at hl 1 rfl) ?_
          replace hk := ob2_s hk
          obtain ⟨x5, M6, hx5, hk⟩ := hk
          refine cl_i (rn_V g_465 g_467 gs_22 g_6 g_468 hd_X3_takeHang (Nat.le_of_ble_eq_true rfl) (ci := 3) rfl (inC h0 rfl) (shp3 h0) hx hb hml hown hg hK hW (As := [.ref (ad G o1)]) (c_X3_takeHang l G h0 h1 M hx5) (by decide) rfl hl.1 rfl (Nat.le_of_ble_eq_true rfl) dX3_takeItem_73) hW (fun H locs hW => ?_)
          refine lv_if_eq (tgt := 83) hx hb dX3_takeItem_76 (by decide) (fun c7 => ?_) (fun c7 => ?_)
          · replace hk := ite_t hk c7
            refine lv_iconst (v := (0 : Int32)) hx hb dX3_takeItem_83 (by decide) ?_
            obtain ⟨rfl, rfl⟩ := sp2 hk
            exact hret _ _ _ _ (Or.inl rfl) hW dX3_takeItem_84
          · replace hk := ite_f hk c7
            refine lv_iconst (v := (1 : Int32)) hx hb dX3_takeItem_79 (by decide) ?_
            refine lv_goto (tgt := 84) hx hb dX3_takeItem_80 (by decide) ?_
            obtain ⟨rfl, rfl⟩ := sp2 hk
            exact hret _ _ _ _ (Or.inr rfl) hW dX3_takeItem_84
      · replace hk := ite_f hk c11
        refine lv_aload_n hx hb dX3_takeItem_56 rfl (lv_at hl 0 rfl) ?_
        refine lv_aload_n hx hb dX3_takeItem_57 rfl (lv_at hl 1 rfl) ?_
        replace hk := ob2_s hk
        obtain ⟨x9, M10, hx9, hk⟩ := hk
        refine cl_i (rn_V g_453 g_455 gs_20 g_6 g_456 hd_X3_takeTie (Nat.le_of_ble_eq_true rfl) (ci := 3) rfl (inC h0 rfl) (shp3 h0) hx hb hml hown hg hK hW (As := [.ref (ad G o1)]) (c_X3_takeTie l G h0 h1 M hx9) (by decide) rfl hl.1 rfl (Nat.le_of_ble_eq_true rfl) dX3_takeItem_58) hW (fun H locs hW => ?_)
        by_cases hz : x9 = 0 ∨ x9 = 1
        · replace hk := ite_t hk hz
          obtain ⟨rfl, rfl⟩ := sp2 hk
          exact hret _ _ _ _ hz hW dX3_takeItem_61
        · replace hk := ite_f hk hz
          cases hk
    · replace hk := ite_f hk c14
      refine lv_aload_n hx hb dX3_takeItem_41 rfl (lv_at hl 0 rfl) ?_
      refine lv_aload_n hx hb dX3_takeItem_42 rfl (lv_at hl 1 rfl) ?_
      replace hk := ob2_s hk
      obtain ⟨x12, M13, hx12, hk⟩ := hk
      refine cl_i (rn_V g_426 g_428 gs_17 g_6 g_429 hd_X3_takeMoves (Nat.le_of_ble_eq_true rfl) (ci := 3) rfl (inC h0 rfl) (shp3 h0) hx hb hml hown hg hK hW (As := [.ref (ad G o1)]) (c_X3_takeMoves l G h0 h1 M hx12) (by decide) rfl hl.1 rfl (Nat.le_of_ble_eq_true rfl) dX3_takeItem_43) hW (fun H locs hW => ?_)
      by_cases hz : x12 = 0 ∨ x12 = 1
      · replace hk := ite_t hk hz
        obtain ⟨rfl, rfl⟩ := sp2 hk
        exact hret _ _ _ _ hz hW dX3_takeItem_46
      · replace hk := ite_f hk hz
        cases hk
  · replace hk := ite_f hk c19
    refine lv_aload_n hx hb dX3_takeItem_9 rfl (lv_at hl 1 rfl) ?_
    refine gt_X3_67 hx hb hg hown hK hW h1 dX3_takeItem_10 ?_
    refine lv_bipush (v := (7 : Int32)) hx hb dX3_takeItem_13 (by decide) ?_
    refine lv_icmp_ge (tgt := 30) hx hb dX3_takeItem_15 (by decide) (fun c18 => ?_) (fun c18 => ?_)
    · replace hk := ite_t hk c18
      refine lv_iconst (v := (0 : Int32)) hx hb dX3_takeItem_30 (by decide) ?_
      obtain ⟨rfl, rfl⟩ := sp2 hk
      exact hret _ _ _ _ (Or.inl rfl) hW dX3_takeItem_31
    · replace hk := ite_f hk c18
      refine lv_aload_n hx hb dX3_takeItem_18 rfl (lv_at hl 0 rfl) ?_
      refine lv_aload_n hx hb dX3_takeItem_19 rfl (lv_at hl 1 rfl) ?_
      replace hk := ob2_s hk
      obtain ⟨x15, M16, hx15, hk⟩ := hk
      refine cl_i (rn_V g_420 g_422 gs_16 g_6 g_423 hd_X3_takeLimb (Nat.le_of_ble_eq_true rfl) (ci := 3) rfl (inC h0 rfl) (shp3 h0) hx hb hml hown hg hK hW (As := [.ref (ad G o1)]) (c_X3_takeLimb l G h0 h1 M hx15) (by decide) rfl hl.1 rfl (Nat.le_of_ble_eq_true rfl) dX3_takeItem_20) hW (fun H locs hW => ?_)
      refine lv_if_eq (tgt := 30) hx hb dX3_takeItem_23 (by decide) (fun c17 => ?_) (fun c17 => ?_)
      · replace hk := ite_t hk c17
        refine lv_iconst (v := (0 : Int32)) hx hb dX3_takeItem_30 (by decide) ?_
        obtain ⟨rfl, rfl⟩ := sp2 hk
        exact hret _ _ _ _ (Or.inl rfl) hW dX3_takeItem_31
      · replace hk := ite_f hk c17
        refine lv_iconst (v := (1 : Int32)) hx hb dX3_takeItem_26 (by decide) ?_
        refine lv_goto (tgt := 31) hx hb dX3_takeItem_27 (by decide) ?_
        obtain ⟨rfl, rfl⟩ := sp2 hk
        exact hret _ _ _ _ (Or.inr rfl) hW dX3_takeItem_31
def f_X3_readInto_L23 (o0 : Nat) (o1 : Nat) : Nat → Int32 → Mem → Option ((Int32 × Mem) ⊕ (Int32 × Mem))
  | 0, _, _ => none
  | n + 1, x4, M5 =>
    if (150 : Int32) < x4 then (
      some (Sum.inl (x4, M5)))
    else (
      ob (f_X3_advance o0 M5) (fun M9 =>
      if (M9.1 o0 4) = (0 : Int32) then (
        some (Sum.inr (x4, M9)))
      else (
        ob2 (f_X3_takeItem o0 o1 M9) (fun x10 M11 =>
        if x10 = (0 : Int32) then (
          some (Sum.inr ((((-10) : Int32) - (M11.1 o0 2)), M11)))
        else (
          lq (x4 + (1 : Int32)) (fun x12 =>
          f_X3_readInto_L23 o0 o1 n x12 M11))))))
def f_X3_readInto (o0 : Nat) (o1 : Nat) (M : Mem) : Option (Int32 × Mem) :=
  lq (s1 M o0 3 (0 : Int32)) (fun M1 =>
  ob2 (f_X3_takeOpening o0 o1 M1) (fun x2 M3 =>
  if x2 = (0 : Int32) then (
    some ((((-10) : Int32) - (M3.1 o0 2)), M3))
  else (
    oeT2 (f_X3_readInto_L23 o0 o1 FU (1 : Int32) M3) (fun x6 M7 =>
    some ((((-10) : Int32) - (M7.1 o0 2)), M7)))))
set_option maxHeartbeats 4000000 in
set_option maxRecDepth 100000 in
theorem c_X3_readInto (l : Launch) (G : GT) {o0 : Nat} (h0 : kd o0 = 3) {o1 : Nat} (h1 : kd o1 = 2) (M : Mem) {r : Int32} {M' : Mem} (hk : f_X3_readInto o0 o1 M = some (r, M')) : CMi l G true yX3_readInto cX3_readInto 3 (some .int) 7 [.ref (ad G o0), .ref (ad G o1)] M r M' := by
  unfold f_X3_readInto at hk
  refine CMi.of (by decide) (Nat.le_of_ble_eq_true rfl) ?_
  intro p e s m args below meth c Q hx hb hml hown hg hK hW hret ls hl
  have hl : lv_has ls 3 [(0, .ref (ad G o0)), (1, .ref (ad G o1))] := hl
  refine lv_aload_n hx hb dX3_readInto_0 rfl (lv_at hl 0 rfl) ?_
  refine lv_iconst (v := (0 : Int32)) hx hb dX3_readInto_1 (by decide) ?_
  replace hk := lq_s hk
  obtain ⟨M1, eM1, hk⟩ := hk
  refine pt_X3_22 hx hb hg hown hK hW h0 eM1 dX3_readInto_2 (fun H locs hW => ?_)
  refine lv_aload_n hx hb dX3_readInto_5 rfl (lv_at hl 0 rfl) ?_
  refine lv_aload_n hx hb dX3_readInto_6 rfl (lv_at hl 1 rfl) ?_
  replace hk := ob2_s hk
  obtain ⟨x2, M3, hx2, hk⟩ := hk
  refine cl_i (rn_V g_333 g_335 gs_8 g_6 g_336 hd_X3_takeOpening (Nat.le_of_ble_eq_true rfl) (ci := 3) rfl (inC h0 rfl) (shp3 h0) hx hb hml hown hg hK hW (As := [.ref (ad G o1)]) (c_X3_takeOpening l G h0 h1 M1 hx2) (by decide) rfl hl.1 rfl (Nat.le_of_ble_eq_true rfl) dX3_readInto_7) hW (fun H locs hW => ?_)
  refine lv_if_ne (tgt := 21) hx hb dX3_readInto_10 (by decide) (fun c18 => ?_) (fun c18 => ?_)
  · replace hk := ite_f hk c18
    refine lv_iconst (v := (1 : Int32)) hx hb dX3_readInto_21 (by decide) ?_
    refine lv_istore_n (lv' := [(2, .int (1 : Int32)), (0, .ref (ad G o0)), (1, .ref (ad G o1))]) hx hb dX3_readInto_22 rfl hl (by decide) rfl (fun ls hl => ?_)
    replace hk := oeT2_s hk
    obtain ⟨z17, hz16, hk_23⟩ := hk
    have KX23 : ∀ (x6 : Int32) (M7 : Mem), z17 = Sum.inl (x6, M7) → ∀ (H : Heap) (locs : List Loc) (ls : Array Slot), Ws G true M7 s H locs → lv_has ls 3 [(0, .ref (ad G o0))] → Wx p l e 7 s m args below meth c Q H locs 65 ls [] := by
      intro x6 M7 ez H locs ls hW hl
      have hk := hk_23.1 x6 M7 ez
      refine lv_bipush (v := ((-10) : Int32)) hx hb dX3_readInto_65 (by decide) ?_
      refine lv_aload_n hx hb dX3_readInto_67 rfl (lv_at hl 0 rfl) ?_
      refine gt_X3_19 hx hb hg hown hK hW h0 dX3_readInto_68 ?_
      refine lv_isub hx hb dX3_readInto_71 ?_
      obtain ⟨rfl, rfl⟩ := sp2 hk
      exact hret _ _ _ _ hW dX3_readInto_72
    have LH23 : ∀ (n : Nat) (x4 : Int32) (M5 : Mem) (H : Heap) (locs : List Loc) (ls : Array Slot), f_X3_readInto_L23 o0 o1 n x4 M5 = some z17 → Ws G true M5 s H locs → lv_has ls 3 [(0, .ref (ad G o0)), (1, .ref (ad G o1)), (2, .int x4)] → Wx p l e 7 s m args below meth c Q H locs 23 ls [] := by
      clear hz16
      intro n
      induction n with
      | zero => intro _ _ _ _ _ hk; cases hk
      | succ n ih23 =>
        intro x4 M5 H locs ls hk hW hl
        rw [f_X3_readInto_L23.eq_2] at hk
        refine lv_iload_n hx hb dX3_readInto_23 rfl (lv_at hl 2 rfl) ?_
        refine lv_sipush (v := (150 : Int32)) hx hb dX3_readInto_24 (by decide) ?_
        refine lv_icmp_gt (tgt := 65) hx hb dX3_readInto_27 (by decide) (fun c15 => ?_) (fun c15 => ?_)
        · replace hk := ite_t hk c15
          obtain rfl := Option.some.inj hk
          exact KX23 _ _ rfl _ _ _ hW (lv_sub hl [0] rfl)
        · replace hk := ite_f hk c15
          refine lv_aload_n hx hb dX3_readInto_30 rfl (lv_at hl 0 rfl) ?_
          replace hk := ob_s hk
          obtain ⟨M9, hx8, hk⟩ := hk
          refine cl_v (rn_V g_337 g_339 gs_9 g_6 g_340 hd_X3_advance (Nat.le_of_ble_eq_true rfl) (ci := 3) rfl (inC h0 rfl) (shp3 h0) hx hb hml hown hg hK hW (As := []) (c_X3_advance l G h0 M5 hx8) (by decide) rfl hl.1 rfl (Nat.le_of_ble_eq_true rfl) dX3_readInto_31) hW (fun H locs hW => ?_)
          refine lv_aload_n hx hb dX3_readInto_34 rfl (lv_at hl 0 rfl) ?_
          refine gt_X3_25 hx hb hg hown hK hW h0 dX3_readInto_35 ?_
          refine lv_if_ne (tgt := 43) hx hb dX3_readInto_38 (by decide) (fun c14 => ?_) (fun c14 => ?_)
          · replace hk := ite_f hk c14
            refine lv_aload_n hx hb dX3_readInto_43 rfl (lv_at hl 0 rfl) ?_
            refine lv_aload_n hx hb dX3_readInto_44 rfl (lv_at hl 1 rfl) ?_
            replace hk := ob2_s hk
            obtain ⟨x10, M11, hx10, hk⟩ := hk
            refine cl_i (rn_V g_415 g_417 gs_15 g_6 g_418 hd_X3_takeItem (Nat.le_of_ble_eq_true rfl) (ci := 3) rfl (inC h0 rfl) (shp3 h0) hx hb hml hown hg hK hW (As := [.ref (ad G o1)]) (c_X3_takeItem l G h0 h1 M9 hx10) (by decide) rfl hl.1 rfl (Nat.le_of_ble_eq_true rfl) dX3_readInto_45) hW (fun H locs hW => ?_)
            refine lv_if_ne (tgt := 59) hx hb dX3_readInto_48 (by decide) (fun c13 => ?_) (fun c13 => ?_)
            · replace hk := ite_f hk c13
              replace hk := lq_s hk
              obtain ⟨x12, ex12, hk⟩ := hk
              refine lv_iinc (v := x12) (lv' := [(2, .int x12), (0, .ref (ad G o0)), (1, .ref (ad G o1))]) hx hb dX3_readInto_59 hl (k := 2) rfl (by rw [ex12]; rfl) (by decide) rfl (fun ls hl => ?_)
              refine lv_goto (tgt := 23) hx hb dX3_readInto_62 (by decide) ?_
              exact ih23 _ _ _ _ _ hk hW (lv_sub hl [1, 2, 0] rfl)
            · replace hk := ite_t hk c13
              refine lv_bipush (v := ((-10) : Int32)) hx hb dX3_readInto_51 (by decide) ?_
              refine lv_aload_n hx hb dX3_readInto_53 rfl (lv_at hl 0 rfl) ?_
              refine gt_X3_19 hx hb hg hown hK hW h0 dX3_readInto_54 ?_
              refine lv_isub hx hb dX3_readInto_57 ?_
              obtain rfl := Option.some.inj hk
              have hk := hk_23.2 _ rfl
              obtain ⟨rfl, rfl⟩ := sp2 hk
              exact hret _ _ _ _ hW dX3_readInto_58
          · replace hk := ite_t hk c14
            refine lv_iload_n hx hb dX3_readInto_41 rfl (lv_at hl 2 rfl) ?_
            obtain rfl := Option.some.inj hk
            have hk := hk_23.2 _ rfl
            obtain ⟨rfl, rfl⟩ := sp2 hk
            exact hret _ _ _ _ hW dX3_readInto_42
    exact LH23 FU _ _ _ _ _ hz16 hW (lv_sub hl [1, 2, 0] rfl)
  · replace hk := ite_t hk c18
    refine lv_bipush (v := ((-10) : Int32)) hx hb dX3_readInto_13 (by decide) ?_
    refine lv_aload_n hx hb dX3_readInto_15 rfl (lv_at hl 0 rfl) ?_
    refine gt_X3_19 hx hb hg hown hK hW h0 dX3_readInto_16 ?_
    refine lv_isub hx hb dX3_readInto_19 ?_
    obtain ⟨rfl, rfl⟩ := sp2 hk
    exact hret _ _ _ _ hW dX3_readInto_20
def f_X6_read (M : Mem) : Option (Int32 × Mem) :=
  ob2 (f_X3_readInto 165 42 M) (fun x1 M2 =>
  ob (
    if x1 < (0 : Int32) then (
      some M2)
    else (
      ob (f_X2_become 1 42 M2) (fun M4 =>
      some M4)))
   (fun M6 =>
  some (x1, M6)))
set_option maxHeartbeats 4000000 in
set_option maxRecDepth 100000 in
theorem c_X6_read (l : Launch) (G : GT)  (M : Mem) {r : Int32} {M' : Mem} (hk : f_X6_read  M = some (r, M')) : CMi l G true yX6_read cX6_read 2 (some .int) 8 [.ref (ad G 0)] M r M' := by
  unfold f_X6_read at hk
  refine CMi.of (by decide) (Nat.le_of_ble_eq_true rfl) ?_
  intro p e s m args below meth c Q hx hb hml hown hg hK hW hret ls hl
  have hl : lv_has ls 2 [(0, .ref (ad G 0))] := hl
  refine lv_aload_n hx hb dX6_read_0 rfl (lv_at hl 0 rfl) ?_
  refine gt_X6_35 hx hb hg hown hK hW kd_0 dX6_read_1 ?_
  refine lv_aload_n hx hb dX6_read_4 rfl (lv_at hl 0 rfl) ?_
  refine gt_X6_16 hx hb hg hown hK hW kd_0 dX6_read_5 ?_
  replace hk := ob2_s hk
  obtain ⟨x1, M2, hx1, hk⟩ := hk
  refine cl_i (rn_VN n_329 g_331 gs_7 g_6 g_332 hd_X3_readInto (Nat.le_of_ble_eq_true rfl) (ci := 3) rfl (inC kd_165 rfl) (shp3 kd_165) hx hb hml hown hg hK hW (As := [.ref (ad G 42)]) (c_X3_readInto l G kd_165 kd_42 M hx1) (by decide) rfl hl.1 rfl (Nat.le_of_ble_eq_true rfl) dX6_read_8) hW (fun H locs hW => ?_)
  refine lv_istore_n (lv' := [(1, .int x1), (0, .ref (ad G 0))]) hx hb dX6_read_11 rfl hl (by decide) rfl (fun ls hl => ?_)
  refine lv_iload_n hx hb dX6_read_12 rfl (lv_at hl 0 rfl) ?_
  replace hk := ob_s hk
  obtain ⟨M6, hr8, hk⟩ := hk
  have KJ7 : ∀ (H : Heap) (locs : List Loc) (ls : Array Slot), Ws G true M6 s H locs → lv_has ls 2 [(1, .int x1)] → Wx p l e 8 s m args below meth c Q H locs 27 ls [] := by
    intro H locs ls hW hl
    refine lv_iload_n hx hb dX6_read_27 rfl (lv_at hl 0 rfl) ?_
    obtain ⟨rfl, rfl⟩ := sp2 hk
    exact hret _ _ _ _ hW dX6_read_28
  clear hk
  have hk := hr8
  clear hr8
  refine lv_if_lt (tgt := 27) hx hb dX6_read_13 (by decide) (fun c5 => ?_) (fun c5 => ?_)
  · replace hk := ite_t hk c5
    obtain rfl := Option.some.inj hk
    exact KJ7 _ _ _ hW (lv_sub hl [0] rfl)
  · replace hk := ite_f hk c5
    refine lv_aload_n hx hb dX6_read_16 rfl (lv_at hl 1 rfl) ?_
    refine gt_X6_10 hx hb hg hown hK hW kd_0 dX6_read_17 ?_
    refine lv_aload_n hx hb dX6_read_20 rfl (lv_at hl 1 rfl) ?_
    refine gt_X6_16 hx hb hg hown hK hW kd_0 dX6_read_21 ?_
    replace hk := ob_s hk
    obtain ⟨M4, hx3, hk⟩ := hk
    refine cl_v (rn_VN n_469 g_471 gs_23 g_2 g_472 hd_X2_become (Nat.le_of_ble_eq_true rfl) (ci := 2) rfl (inC kd_1 rfl) (shp2 kd_1) hx hb hml hown hg hK hW (As := [.ref (ad G 42)]) (c_X2_become l G kd_1 kd_42 M2 hx3) (by decide) rfl hl.1 rfl (Nat.le_of_ble_eq_true rfl) dX6_read_24) hW (fun H locs hW => ?_)
    obtain rfl := Option.some.inj hk
    exact KJ7 _ _ _ hW (lv_sub hl [0] rfl)
