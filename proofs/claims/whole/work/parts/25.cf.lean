def f_X6_hasBit (a0 : Int32) (a1 : Int32) : Int32 :=
  if ((a0 >>> (a1 &&& 31)) &&& (1 : Int32)) = (1 : Int32) then (
    (1 : Int32))
  else (
    (0 : Int32))
theorem b_X6_hasBit (a0 : Int32) (a1 : Int32) : f_X6_hasBit a0 a1 = 0 ∨ f_X6_hasBit a0 a1 = 1 := by
  obtain ⟨r, hk⟩ : ∃ r, f_X6_hasBit a0 a1 = r := ⟨_, rfl⟩
  rw [hk]; unfold f_X6_hasBit at hk
  first | (repeat' (split at hk)) | skip
  all_goals (rw [← hk]; first | exact Or.inl rfl | exact Or.inr rfl)
set_option maxHeartbeats 4000000 in
set_option maxRecDepth 100000 in
theorem c_X6_hasBit (l : Launch) (G : GT) (a0 : Int32) (a1 : Int32) (M : Mem) : CMi l G true yX6_hasBit cX6_hasBit 2 (some .boolean) 0 [.int a0, .int a1] M (f_X6_hasBit a0 a1) M := by
  obtain ⟨r, hk⟩ : ∃ r, f_X6_hasBit a0 a1 = r := ⟨_, rfl⟩
  rw [hk]
  unfold f_X6_hasBit at hk
  refine CMi.ofZ (by decide) (Nat.le_of_ble_eq_true rfl) ?_
  intro p e s m args below meth c Q hx hb hml hown hg hK hW hret ls hl
  have hl : lv_has ls 2 [(0, .int a0), (1, .int a1)] := hl
  refine lv_iload_n hx hb dX6_hasBit_0 rfl (lv_at hl 0 rfl) ?_
  refine lv_iload_n hx hb dX6_hasBit_1 rfl (lv_at hl 1 rfl) ?_
  refine lv_ishr hx hb dX6_hasBit_2 ?_
  refine lv_iconst (v := (1 : Int32)) hx hb dX6_hasBit_3 (by decide) ?_
  refine lv_iand hx hb dX6_hasBit_4 ?_
  refine lv_iconst (v := (1 : Int32)) hx hb dX6_hasBit_5 (by decide) ?_
  refine lv_icmp_ne (tgt := 13) hx hb dX6_hasBit_6 (by decide) (fun c1 => ?_) (fun c1 => ?_)
  · replace hk := ite_f hk c1
    refine lv_iconst (v := (0 : Int32)) hx hb dX6_hasBit_13 (by decide) ?_
    subst hk
    exact hret _ _ _ _ (Or.inl rfl) hW dX6_hasBit_14
  · replace hk := ite_t hk c1
    refine lv_iconst (v := (1 : Int32)) hx hb dX6_hasBit_9 (by decide) ?_
    refine lv_goto (tgt := 14) hx hb dX6_hasBit_10 (by decide) ?_
    subst hk
    exact hret _ _ _ _ (Or.inr rfl) hW dX6_hasBit_14
def f_X6_leastBit_L2 (a0 : Int32) : Nat → Int32 → Option (Int32)
  | 0, _ => none
  | n + 1, x1 =>
    if (31 : Int32) ≤ x1 then (
      some x1)
    else (
      if (f_X6_hasBit a0 x1) = (0 : Int32) then (
        lq (x1 + (1 : Int32)) (fun x4 =>
        f_X6_leastBit_L2 a0 n x4))
      else (
        some x1))
def f_X6_leastBit (a0 : Int32) : Option (Int32) :=
  ob (f_X6_leastBit_L2 a0 FU (0 : Int32)) (fun x2 =>
  some x2)
set_option maxHeartbeats 4000000 in
set_option maxRecDepth 100000 in
theorem c_X6_leastBit (l : Launch) (G : GT) (a0 : Int32) (M : Mem) {r : Int32} (hk : f_X6_leastBit a0 = some r) : CMi l G true yX6_leastBit cX6_leastBit 2 (some .int) 1 [.int a0] M r M := by
  unfold f_X6_leastBit at hk
  refine CMi.of (by decide) (Nat.le_of_ble_eq_true rfl) ?_
  intro p e s m args below meth c Q hx hb hml hown hg hK hW hret ls hl
  have hl : lv_has ls 2 [(0, .int a0)] := hl
  refine lv_iconst (v := (0 : Int32)) hx hb dX6_leastBit_0 (by decide) ?_
  refine lv_istore_n (lv' := [(1, .int (0 : Int32)), (0, .int a0)]) hx hb dX6_leastBit_1 rfl hl (by decide) rfl (fun ls hl => ?_)
  replace hk := ob_s hk
  obtain ⟨x2, hz7, hk⟩ := hk
  have KX2 : ∀ (H : Heap) (locs : List Loc) (ls : Array Slot), Ws G true M s H locs → lv_has ls 2 [(1, .int x2)] → Wx p l e 1 s m args below meth c Q H locs 22 ls [] := by
    intro H locs ls hW hl
    refine lv_iload_n hx hb dX6_leastBit_22 rfl (lv_at hl 0 rfl) ?_
    obtain rfl := Option.some.inj hk
    exact hret _ _ _ _ hW dX6_leastBit_23
  clear hk
  have LH2 : ∀ (n : Nat) (x1 : Int32) (H : Heap) (locs : List Loc) (ls : Array Slot), f_X6_leastBit_L2 a0 n x1 = some x2 → Ws G true M s H locs → lv_has ls 2 [(0, .int a0), (1, .int x1)] → Wx p l e 1 s m args below meth c Q H locs 2 ls [] := by
    clear hz7
    intro n
    induction n with
    | zero => intro _ _ _ _ hk; cases hk
    | succ n ih2 =>
      intro x1 H locs ls hk hW hl
      rw [f_X6_leastBit_L2.eq_2] at hk
      refine lv_iload_n hx hb dX6_leastBit_2 rfl (lv_at hl 1 rfl) ?_
      refine lv_bipush (v := (31 : Int32)) hx hb dX6_leastBit_3 (by decide) ?_
      refine lv_icmp_ge (tgt := 22) hx hb dX6_leastBit_5 (by decide) (fun c6 => ?_) (fun c6 => ?_)
      · replace hk := ite_t hk c6
        obtain rfl := Option.some.inj hk
        exact KX2 _ _ _ hW (lv_sub hl [1] rfl)
      · replace hk := ite_f hk c6
        refine lv_iload_n hx hb dX6_leastBit_8 rfl (lv_at hl 0 rfl) ?_
        refine lv_iload_n hx hb dX6_leastBit_9 rfl (lv_at hl 1 rfl) ?_
        refine cl_i (rn_S g_687 g_688 g_1 g_689 hd_X6_hasBit (Nat.le_of_ble_eq_true rfl) hx hb hml hown hg hK hW (As := [.int a0, .int x1]) (c_X6_hasBit l G a0 x1 M) (by decide) rfl hl.1 rfl (Nat.le_of_ble_eq_true rfl) dX6_leastBit_10) hW (fun H locs hW => ?_)
        refine lv_if_ne (tgt := 22) hx hb dX6_leastBit_13 (by decide) (fun c5 => ?_) (fun c5 => ?_)
        · replace hk := ite_f hk c5
          obtain rfl := Option.some.inj hk
          exact KX2 _ _ _ hW (lv_sub hl [1] rfl)
        · replace hk := ite_t hk c5
          replace hk := lq_s hk
          obtain ⟨x4, ex4, hk⟩ := hk
          refine lv_iinc (v := x4) (lv' := [(1, .int x4), (0, .int a0)]) hx hb dX6_leastBit_16 hl (k := 1) rfl (by rw [ex4]; rfl) (by decide) rfl (fun ls hl => ?_)
          refine lv_goto (tgt := 2) hx hb dX6_leastBit_19 (by decide) ?_
          exact ih2 _ _ _ _ hk hW (lv_sub hl [1, 0] rfl)
  exact LH2 FU _ _ _ _ hz7 hW (lv_sub hl [1, 0] rfl)
def f_X6_greatestBit_L3 (a0 : Int32) : Nat → Int32 → Option (Int32)
  | 0, _ => none
  | n + 1, x1 =>
    if x1 ≤ (0 : Int32) then (
      some x1)
    else (
      if (f_X6_hasBit a0 x1) = (0 : Int32) then (
        lq (x1 + ((-1) : Int32)) (fun x4 =>
        f_X6_greatestBit_L3 a0 n x4))
      else (
        some x1))
def f_X6_greatestBit (a0 : Int32) : Option (Int32) :=
  ob (f_X6_greatestBit_L3 a0 FU (31 : Int32)) (fun x2 =>
  some x2)
set_option maxHeartbeats 4000000 in
set_option maxRecDepth 100000 in
theorem c_X6_greatestBit (l : Launch) (G : GT) (a0 : Int32) (M : Mem) {r : Int32} (hk : f_X6_greatestBit a0 = some r) : CMi l G true yX6_greatestBit cX6_greatestBit 2 (some .int) 1 [.int a0] M r M := by
  unfold f_X6_greatestBit at hk
  refine CMi.of (by decide) (Nat.le_of_ble_eq_true rfl) ?_
  intro p e s m args below meth c Q hx hb hml hown hg hK hW hret ls hl
  have hl : lv_has ls 2 [(0, .int a0)] := hl
  refine lv_bipush (v := (31 : Int32)) hx hb dX6_greatestBit_0 (by decide) ?_
  refine lv_istore_n (lv' := [(1, .int (31 : Int32)), (0, .int a0)]) hx hb dX6_greatestBit_2 rfl hl (by decide) rfl (fun ls hl => ?_)
  replace hk := ob_s hk
  obtain ⟨x2, hz7, hk⟩ := hk
  have KX3 : ∀ (H : Heap) (locs : List Loc) (ls : Array Slot), Ws G true M s H locs → lv_has ls 2 [(1, .int x2)] → Wx p l e 1 s m args below meth c Q H locs 21 ls [] := by
    intro H locs ls hW hl
    refine lv_iload_n hx hb dX6_greatestBit_21 rfl (lv_at hl 0 rfl) ?_
    obtain rfl := Option.some.inj hk
    exact hret _ _ _ _ hW dX6_greatestBit_22
  clear hk
  have LH3 : ∀ (n : Nat) (x1 : Int32) (H : Heap) (locs : List Loc) (ls : Array Slot), f_X6_greatestBit_L3 a0 n x1 = some x2 → Ws G true M s H locs → lv_has ls 2 [(0, .int a0), (1, .int x1)] → Wx p l e 1 s m args below meth c Q H locs 3 ls [] := by
    clear hz7
    intro n
    induction n with
    | zero => intro _ _ _ _ hk; cases hk
    | succ n ih3 =>
      intro x1 H locs ls hk hW hl
      rw [f_X6_greatestBit_L3.eq_2] at hk
      refine lv_iload_n hx hb dX6_greatestBit_3 rfl (lv_at hl 1 rfl) ?_
      refine lv_if_le (tgt := 21) hx hb dX6_greatestBit_4 (by decide) (fun c6 => ?_) (fun c6 => ?_)
      · replace hk := ite_t hk c6
        obtain rfl := Option.some.inj hk
        exact KX3 _ _ _ hW (lv_sub hl [1] rfl)
      · replace hk := ite_f hk c6
        refine lv_iload_n hx hb dX6_greatestBit_7 rfl (lv_at hl 0 rfl) ?_
        refine lv_iload_n hx hb dX6_greatestBit_8 rfl (lv_at hl 1 rfl) ?_
        refine cl_i (rn_S g_687 g_688 g_1 g_689 hd_X6_hasBit (Nat.le_of_ble_eq_true rfl) hx hb hml hown hg hK hW (As := [.int a0, .int x1]) (c_X6_hasBit l G a0 x1 M) (by decide) rfl hl.1 rfl (Nat.le_of_ble_eq_true rfl) dX6_greatestBit_9) hW (fun H locs hW => ?_)
        refine lv_if_ne (tgt := 21) hx hb dX6_greatestBit_12 (by decide) (fun c5 => ?_) (fun c5 => ?_)
        · replace hk := ite_f hk c5
          obtain rfl := Option.some.inj hk
          exact KX3 _ _ _ hW (lv_sub hl [1] rfl)
        · replace hk := ite_t hk c5
          replace hk := lq_s hk
          obtain ⟨x4, ex4, hk⟩ := hk
          refine lv_iinc (v := x4) (lv' := [(1, .int x4), (0, .int a0)]) hx hb dX6_greatestBit_15 hl (k := 1) rfl (by rw [ex4]; rfl) (by decide) rfl (fun ls hl => ?_)
          refine lv_goto (tgt := 3) hx hb dX6_greatestBit_18 (by decide) ?_
          exact ih3 _ _ _ _ hk hW (lv_sub hl [1, 0] rfl)
  exact LH3 FU _ _ _ _ hz7 hW (lv_sub hl [1, 0] rfl)
def f_X6_heavy (a1 : Int32) (a2 : Int32) (M : Mem) : Option (Int32 × Mem) :=
  if (f_X6_noLimb a1 M) = (0 : Int32) then (
    if (f_X6_outside a2 (0 : Int32) (2 : Int32)) = (0 : Int32) then (
      ob (f_X6_fittingWeights a1 M) (fun x5 =>
      if a2 = (0 : Int32) then (
        some ((f_J6_bitCount_0f7a4 x5), M))
      else (
        if x5 = (0 : Int32) then (
          some (((-1001) : Int32), M))
        else (
          if a2 = (1 : Int32) then (
            ob (f_X6_leastBit x5) (fun x7 =>
            some (x7, M)))
          else (
            ob (f_X6_greatestBit x5) (fun x6 =>
            some (x6, M)))))))
    else (
      ob2 (f_X6_refuseBad ((-1002) : Int32) M) (fun x12 M13 =>
      some (x12, M13))))
  else (
    ob2 (f_X6_refuseBad ((-1002) : Int32) M) (fun x2 M3 =>
    some (x2, M3)))
set_option maxHeartbeats 4000000 in
set_option maxRecDepth 100000 in
theorem c_X6_heavy (l : Launch) (G : GT) (a1 : Int32) (a2 : Int32) (M : Mem) {r : Int32} {M' : Mem} (hk : f_X6_heavy a1 a2 M = some (r, M')) : CMi l G true yX6_heavy cX6_heavy 4 (some .int) 5 [.ref (ad G 0), .int a1, .int a2] M r M' := by
  unfold f_X6_heavy at hk
  refine CMi.of (by decide) (Nat.le_of_ble_eq_true rfl) ?_
  intro p e s m args below meth c Q hx hb hml hown hg hK hW hret ls hl
  have hl : lv_has ls 4 [(0, .ref (ad G 0)), (1, .int a1), (2, .int a2)] := hl
  refine lv_aload_n hx hb dX6_heavy_0 rfl (lv_at hl 0 rfl) ?_
  refine lv_iload_n hx hb dX6_heavy_1 rfl (lv_at hl 1 rfl) ?_
  refine cl_i (rn_V g_514 g_516 gs_30 g_1 g_517 hd_X6_noLimb (Nat.le_of_ble_eq_true rfl) (ci := 6) rfl (inC kd_0 rfl) (shp6 kd_0) hx hb hml hown hg hK hW (As := [.int a1]) (c_X6_noLimb l G a1 M) (by decide) rfl hl.1 rfl (Nat.le_of_ble_eq_true rfl) dX6_heavy_2) hW (fun H locs hW => ?_)
  refine lv_if_ne (tgt := 17) hx hb dX6_heavy_5 (by decide) (fun c15 => ?_) (fun c15 => ?_)
  · replace hk := ite_f hk c15
    refine lv_aload_n hx hb dX6_heavy_17 rfl (lv_at hl 0 rfl) ?_
    refine lv_sipush (v := ((-1002) : Int32)) hx hb dX6_heavy_18 (by decide) ?_
    replace hk := ob2_s hk
    obtain ⟨x2, M3, hx2, hk⟩ := hk
    refine cl_i (rn_V g_281 g_283 gs_0 g_1 g_284 hd_X6_refuseBad (Nat.le_of_ble_eq_true rfl) (ci := 6) rfl (inC kd_0 rfl) (shp6 kd_0) hx hb hml hown hg hK hW (As := [.int ((-1002) : Int32)]) (c_X6_refuseBad l G ((-1002) : Int32) M hx2) (by decide) rfl hl.1 rfl (Nat.le_of_ble_eq_true rfl) dX6_heavy_21) hW (fun H locs hW => ?_)
    obtain ⟨rfl, rfl⟩ := sp2 hk
    exact hret _ _ _ _ hW dX6_heavy_24
  · replace hk := ite_t hk c15
    refine lv_iload_n hx hb dX6_heavy_8 rfl (lv_at hl 2 rfl) ?_
    refine lv_iconst (v := (0 : Int32)) hx hb dX6_heavy_9 (by decide) ?_
    refine lv_iconst (v := (2 : Int32)) hx hb dX6_heavy_10 (by decide) ?_
    refine cl_i (rn_S g_278 g_279 g_1 g_280 hd_X6_outside (Nat.le_of_ble_eq_true rfl) hx hb hml hown hg hK hW (As := [.int a2, .int (0 : Int32), .int (2 : Int32)]) (c_X6_outside l G a2 (0 : Int32) (2 : Int32) M) (by decide) rfl hl.1 rfl (Nat.le_of_ble_eq_true rfl) dX6_heavy_11) hW (fun H locs hW => ?_)
    refine lv_if_eq (tgt := 25) hx hb dX6_heavy_14 (by decide) (fun c14 => ?_) (fun c14 => ?_)
    · replace hk := ite_t hk c14
      refine lv_aload_n hx hb dX6_heavy_25 rfl (lv_at hl 0 rfl) ?_
      refine lv_iload_n hx hb dX6_heavy_26 rfl (lv_at hl 1 rfl) ?_
      replace hk := ob_s hk
      obtain ⟨x5, hx5, hk⟩ := hk
      refine cl_i (rn_V g_659 g_661 gs_43 g_1 g_662 hd_X6_fittingWeights (Nat.le_of_ble_eq_true rfl) (ci := 6) rfl (inC kd_0 rfl) (shp6 kd_0) hx hb hml hown hg hK hW (As := [.int a1]) (c_X6_fittingWeights l G a1 M hx5) (by decide) rfl hl.1 rfl (Nat.le_of_ble_eq_true rfl) dX6_heavy_27) hW (fun H locs hW => ?_)
      refine lv_istore_n (lv' := [(3, .int x5), (0, .ref (ad G 0)), (1, .int a1), (2, .int a2)]) hx hb dX6_heavy_30 rfl hl (by decide) rfl (fun ls hl => ?_)
      refine lv_iload_n hx hb dX6_heavy_31 rfl (lv_at hl 3 rfl) ?_
      refine lv_if_ne (tgt := 40) hx hb dX6_heavy_32 (by decide) (fun c11 => ?_) (fun c11 => ?_)
      · replace hk := ite_f hk c11
        refine lv_iload_n hx hb dX6_heavy_40 rfl (lv_at hl 0 rfl) ?_
        refine lv_if_ne (tgt := 48) hx hb dX6_heavy_41 (by decide) (fun c9 => ?_) (fun c9 => ?_)
        · replace hk := ite_f hk c9
          refine lv_iload_n hx hb dX6_heavy_48 rfl (lv_at hl 3 rfl) ?_
          refine lv_iconst (v := (1 : Int32)) hx hb dX6_heavy_49 (by decide) ?_
          refine lv_icmp_ne (tgt := 60) hx hb dX6_heavy_50 (by decide) (fun c8 => ?_) (fun c8 => ?_)
          · replace hk := ite_f hk c8
            refine lv_iload_n hx hb dX6_heavy_60 rfl (lv_at hl 0 rfl) ?_
            replace hk := ob_s hk
            obtain ⟨x6, hx6, hk⟩ := hk
            refine cl_i (rn_S g_690 g_691 g_1 g_692 hd_X6_greatestBit (Nat.le_of_ble_eq_true rfl) hx hb hml hown hg hK hW (As := [.int x5]) (c_X6_greatestBit l G x5 M hx6) (by decide) rfl hl.1 rfl (Nat.le_of_ble_eq_true rfl) dX6_heavy_61) hW (fun H locs hW => ?_)
            obtain ⟨rfl, rfl⟩ := sp2 hk
            exact hret _ _ _ _ hW dX6_heavy_64
          · replace hk := ite_t hk c8
            refine lv_iload_n hx hb dX6_heavy_53 rfl (lv_at hl 0 rfl) ?_
            replace hk := ob_s hk
            obtain ⟨x7, hx7, hk⟩ := hk
            refine cl_i (rn_S g_684 g_685 g_1 g_686 hd_X6_leastBit (Nat.le_of_ble_eq_true rfl) hx hb hml hown hg hK hW (As := [.int x5]) (c_X6_leastBit l G x5 M hx7) (by decide) rfl hl.1 rfl (Nat.le_of_ble_eq_true rfl) dX6_heavy_54) hW (fun H locs hW => ?_)
            refine lv_goto (tgt := 64) hx hb dX6_heavy_57 (by decide) ?_
            obtain ⟨rfl, rfl⟩ := sp2 hk
            exact hret _ _ _ _ hW dX6_heavy_64
        · replace hk := ite_t hk c9
          refine lv_sipush (v := ((-1001) : Int32)) hx hb dX6_heavy_44 (by decide) ?_
          obtain ⟨rfl, rfl⟩ := sp2 hk
          exact hret _ _ _ _ hW dX6_heavy_47
      · replace hk := ite_t hk c11
        refine lv_iload_n hx hb dX6_heavy_35 rfl (lv_at hl 0 rfl) ?_
        refine cl_i (rn_S g_678 g_679 g_14 g_680 hd_J6_bitCount_0f7a4 (Nat.le_of_ble_eq_true rfl) hx hb hml hown hg hK hW (As := [.int x5]) (c_J6_bitCount_0f7a4 l G x5 M) (by decide) rfl hl.1 rfl (Nat.le_of_ble_eq_true rfl) dX6_heavy_36) hW (fun H locs hW => ?_)
        obtain ⟨rfl, rfl⟩ := sp2 hk
        exact hret _ _ _ _ hW dX6_heavy_39
    · replace hk := ite_f hk c14
      refine lv_aload_n hx hb dX6_heavy_17 rfl (lv_at hl 0 rfl) ?_
      refine lv_sipush (v := ((-1002) : Int32)) hx hb dX6_heavy_18 (by decide) ?_
      replace hk := ob2_s hk
      obtain ⟨x12, M13, hx12, hk⟩ := hk
      refine cl_i (rn_V g_281 g_283 gs_0 g_1 g_284 hd_X6_refuseBad (Nat.le_of_ble_eq_true rfl) (ci := 6) rfl (inC kd_0 rfl) (shp6 kd_0) hx hb hml hown hg hK hW (As := [.int ((-1002) : Int32)]) (c_X6_refuseBad l G ((-1002) : Int32) M hx12) (by decide) rfl hl.1 rfl (Nat.le_of_ble_eq_true rfl) dX6_heavy_21) hW (fun H locs hW => ?_)
      obtain ⟨rfl, rfl⟩ := sp2 hk
      exact hret _ _ _ _ hW dX6_heavy_24
def f_X6_mostAlike_L21 (o0 : Nat) (a1 : Int32) (M : Mem) (x2 : Int32) : Nat → Int32 → Int32 → Option (Int32)
  | 0, _, _ => none
  | n + 1, x4, x5 =>
    if a1 ≤ x5 then (
      some x4)
    else (
      if (nI (ln o0)) ≤ x5 then (
        some x4)
      else (
        ob (rd M o0 x2) (fun x7 =>
        ob (rd M o0 x5) (fun x8 =>
        lq (
          if x7 = x8 then (
            lq (x4 + (1 : Int32)) (fun x9 =>
            x9))
          else (
            x4))
         (fun x11 =>
        lq (x5 + (1 : Int32)) (fun x12 =>
        f_X6_mostAlike_L21 o0 a1 M x2 n x11 x12))))))
def f_X6_mostAlike_L4 (o0 : Nat) (a1 : Int32) (M : Mem) : Nat → Int32 → Int32 → Option (Int32)
  | 0, _, _ => none
  | n + 1, x1, x2 =>
    if a1 ≤ x2 then (
      some x1)
    else (
      if (nI (ln o0)) ≤ x2 then (
        some x1)
      else (
        ob (f_X6_mostAlike_L21 o0 a1 M x2 FU (0 : Int32) (0 : Int32)) (fun x6 =>
        lq (if x1 < x6 then x6 else x1) (fun x17 =>
        lq (x2 + (1 : Int32)) (fun x18 =>
        f_X6_mostAlike_L4 o0 a1 M n x17 x18)))))
def f_X6_mostAlike (o0 : Nat) (a1 : Int32) (M : Mem) : Option (Int32) :=
  ob (f_X6_mostAlike_L4 o0 a1 M FU (0 : Int32) (0 : Int32)) (fun x3 =>
  some x3)
set_option maxHeartbeats 4000000 in
set_option maxRecDepth 100000 in
theorem c_X6_mostAlike (l : Launch) (G : GT) {o0 : Nat} (h0 : kd o0 = 8) (a1 : Int32) (M : Mem) {r : Int32} (hk : f_X6_mostAlike o0 a1 M = some r) : CMi l G true yX6_mostAlike cX6_mostAlike 6 (some .int) 1 [.ref (ad G o0), .int a1] M r M := by
  unfold f_X6_mostAlike at hk
  refine CMi.of (by decide) (Nat.le_of_ble_eq_true rfl) ?_
  intro p e s m args below meth c Q hx hb hml hown hg hK hW hret ls hl
  have hl : lv_has ls 6 [(0, .ref (ad G o0)), (1, .int a1)] := hl
  refine lv_iconst (v := (0 : Int32)) hx hb dX6_mostAlike_0 (by decide) ?_
  refine lv_istore_n (lv' := [(2, .int (0 : Int32)), (0, .ref (ad G o0)), (1, .int a1)]) hx hb dX6_mostAlike_1 rfl hl (by decide) rfl (fun ls hl => ?_)
  refine lv_iconst (v := (0 : Int32)) hx hb dX6_mostAlike_2 (by decide) ?_
  refine lv_istore_n (lv' := [(3, .int (0 : Int32)), (2, .int (0 : Int32)), (0, .ref (ad G o0)), (1, .int a1)]) hx hb dX6_mostAlike_3 rfl hl (by decide) rfl (fun ls hl => ?_)
  replace hk := ob_s hk
  obtain ⟨x3, hz23, hk⟩ := hk
  have KX4 : ∀ (H : Heap) (locs : List Loc) (ls : Array Slot), Ws G true M s H locs → lv_has ls 6 [(2, .int x3)] → Wx p l e 1 s m args below meth c Q H locs 66 ls [] := by
    intro H locs ls hW hl
    refine lv_iload_n hx hb dX6_mostAlike_66 rfl (lv_at hl 0 rfl) ?_
    obtain rfl := Option.some.inj hk
    exact hret _ _ _ _ hW dX6_mostAlike_67
  clear hk
  have LH4 : ∀ (n : Nat) (x1 : Int32) (x2 : Int32) (H : Heap) (locs : List Loc) (ls : Array Slot), f_X6_mostAlike_L4 o0 a1 M n x1 x2 = some x3 → Ws G true M s H locs → lv_has ls 6 [(0, .ref (ad G o0)), (1, .int a1), (2, .int x1), (3, .int x2)] → Wx p l e 1 s m args below meth c Q H locs 4 ls [] := by
    clear hz23
    intro n
    induction n with
    | zero => intro _ _ _ _ _ hk; cases hk
    | succ n ih4 =>
      intro x1 x2 H locs ls hk hW hl
      rw [f_X6_mostAlike_L4.eq_2] at hk
      refine lv_iload_n hx hb dX6_mostAlike_4 rfl (lv_at hl 3 rfl) ?_
      refine lv_iload_n hx hb dX6_mostAlike_5 rfl (lv_at hl 1 rfl) ?_
      refine lv_icmp_ge (tgt := 66) hx hb dX6_mostAlike_6 (by decide) (fun c22 => ?_) (fun c22 => ?_)
      · replace hk := ite_t hk c22
        obtain rfl := Option.some.inj hk
        exact KX4 _ _ _ hW (lv_sub hl [2] rfl)
      · replace hk := ite_f hk c22
        refine lv_iload_n hx hb dX6_mostAlike_9 rfl (lv_at hl 3 rfl) ?_
        refine lv_aload_n hx hb dX6_mostAlike_10 rfl (lv_at hl 0 rfl) ?_
        refine w_len hx hb hK hW (inC h0 rfl) (shp8 h0) dX6_mostAlike_11 ?_
        refine lv_icmp_ge (tgt := 66) hx hb dX6_mostAlike_12 (by decide) (fun c21 => ?_) (fun c21 => ?_)
        · replace hk := ite_t hk c21
          obtain rfl := Option.some.inj hk
          exact KX4 _ _ _ hW (lv_sub hl [2] rfl)
        · replace hk := ite_f hk c21
          refine lv_iconst (v := (0 : Int32)) hx hb dX6_mostAlike_15 (by decide) ?_
          refine lv_istore (lv' := [(4, .int (0 : Int32)), (0, .ref (ad G o0)), (1, .int a1), (2, .int x1), (3, .int x2)]) hx hb dX6_mostAlike_16 hl (by decide) rfl (fun ls hl => ?_)
          refine lv_iconst (v := (0 : Int32)) hx hb dX6_mostAlike_18 (by decide) ?_
          refine lv_istore (lv' := [(5, .int (0 : Int32)), (4, .int (0 : Int32)), (0, .ref (ad G o0)), (1, .int a1), (2, .int x1), (3, .int x2)]) hx hb dX6_mostAlike_19 hl (by decide) rfl (fun ls hl => ?_)
          replace hk := ob_s hk
          obtain ⟨x6, hz19, hk⟩ := hk
          have KX21 : ∀ (H : Heap) (locs : List Loc) (ls : Array Slot), Ws G true M s H locs → lv_has ls 6 [(0, .ref (ad G o0)), (1, .int a1), (2, .int x1), (3, .int x2), (4, .int x6)] → Wx p l e 1 s m args below meth c Q H locs 53 ls [] := by
            intro H locs ls hW hl
            refine lv_iload_n hx hb dX6_mostAlike_53 rfl (lv_at hl 2 rfl) ?_
            refine lv_iload hx hb dX6_mostAlike_54 (lv_at hl 4 rfl) ?_
            refine mx_i g_440 g_75 g_5 g_76 hx hb hml hown hg hl.1 (by decide) (Nat.le_of_ble_eq_true rfl) dX6_mostAlike_56 ?_
            replace hk := lq_s hk
            obtain ⟨x17, ex17, hk⟩ := hk
            refine nm_i ex17 ?_
            refine lv_istore_n (lv' := [(2, .int x17), (0, .ref (ad G o0)), (1, .int a1), (3, .int x2), (4, .int x6)]) hx hb dX6_mostAlike_59 rfl hl (by decide) rfl (fun ls hl => ?_)
            replace hk := lq_s hk
            obtain ⟨x18, ex18, hk⟩ := hk
            refine lv_iinc (v := x18) (lv' := [(3, .int x18), (2, .int x17), (0, .ref (ad G o0)), (1, .int a1), (4, .int x6)]) hx hb dX6_mostAlike_60 hl (k := 3) rfl (by rw [ex18]; rfl) (by decide) rfl (fun ls hl => ?_)
            refine lv_goto (tgt := 4) hx hb dX6_mostAlike_63 (by decide) ?_
            exact ih4 _ _ _ _ _ hk hW (lv_sub hl [2, 3, 1, 0] rfl)
          clear hk
          have LH21 : ∀ (n : Nat) (x4 : Int32) (x5 : Int32) (H : Heap) (locs : List Loc) (ls : Array Slot), f_X6_mostAlike_L21 o0 a1 M x2 n x4 x5 = some x6 → Ws G true M s H locs → lv_has ls 6 [(0, .ref (ad G o0)), (1, .int a1), (2, .int x1), (3, .int x2), (4, .int x4), (5, .int x5)] → Wx p l e 1 s m args below meth c Q H locs 21 ls [] := by
            clear hz19
            intro n
            induction n with
            | zero => intro _ _ _ _ _ hk; cases hk
            | succ n ih21 =>
              intro x4 x5 H locs ls hk hW hl
              rw [f_X6_mostAlike_L21.eq_2] at hk
              refine lv_iload hx hb dX6_mostAlike_21 (lv_at hl 5 rfl) ?_
              refine lv_iload_n hx hb dX6_mostAlike_23 rfl (lv_at hl 1 rfl) ?_
              refine lv_icmp_ge (tgt := 53) hx hb dX6_mostAlike_24 (by decide) (fun c16 => ?_) (fun c16 => ?_)
              · replace hk := ite_t hk c16
                obtain rfl := Option.some.inj hk
                exact KX21 _ _ _ hW (lv_sub hl [0, 1, 2, 3, 4] rfl)
              · replace hk := ite_f hk c16
                refine lv_iload hx hb dX6_mostAlike_27 (lv_at hl 5 rfl) ?_
                refine lv_aload_n hx hb dX6_mostAlike_29 rfl (lv_at hl 0 rfl) ?_
                refine w_len hx hb hK hW (inC h0 rfl) (shp8 h0) dX6_mostAlike_30 ?_
                refine lv_icmp_ge (tgt := 53) hx hb dX6_mostAlike_31 (by decide) (fun c15 => ?_) (fun c15 => ?_)
                · replace hk := ite_t hk c15
                  obtain rfl := Option.some.inj hk
                  exact KX21 _ _ _ hW (lv_sub hl [0, 1, 2, 3, 4] rfl)
                · replace hk := ite_f hk c15
                  refine lv_aload_n hx hb dX6_mostAlike_34 rfl (lv_at hl 0 rfl) ?_
                  refine lv_iload_n hx hb dX6_mostAlike_35 rfl (lv_at hl 3 rfl) ?_
                  replace hk := ob_s hk
                  obtain ⟨x7, hx7, hk⟩ := hk
                  obtain ⟨hx7, ex7⟩ := rd_s hx7
                  refine w_ald hx hb hK hW (inC h0 rfl) (shp8 h0) hx7 ex7 dX6_mostAlike_36 ?_
                  refine lv_aload_n hx hb dX6_mostAlike_37 rfl (lv_at hl 0 rfl) ?_
                  refine lv_iload hx hb dX6_mostAlike_38 (lv_at hl 5 rfl) ?_
                  replace hk := ob_s hk
                  obtain ⟨x8, hx8, hk⟩ := hk
                  obtain ⟨hx8, ex8⟩ := rd_s hx8
                  refine w_ald hx hb hK hW (inC h0 rfl) (shp8 h0) hx8 ex8 dX6_mostAlike_40 ?_
                  replace hk := lq_s hk
                  obtain ⟨x11, hr14, hk⟩ := hk
                  have KJ13 : ∀ (H : Heap) (locs : List Loc) (ls : Array Slot), Ws G true M s H locs → lv_has ls 6 [(0, .ref (ad G o0)), (1, .int a1), (2, .int x1), (3, .int x2), (4, .int x11), (5, .int x5)] → Wx p l e 1 s m args below meth c Q H locs 47 ls [] := by
                    intro H locs ls hW hl
                    replace hk := lq_s hk
                    obtain ⟨x12, ex12, hk⟩ := hk
                    refine lv_iinc (v := x12) (lv' := [(5, .int x12), (0, .ref (ad G o0)), (1, .int a1), (2, .int x1), (3, .int x2), (4, .int x11)]) hx hb dX6_mostAlike_47 hl (k := 5) rfl (by rw [ex12]; rfl) (by decide) rfl (fun ls hl => ?_)
                    refine lv_goto (tgt := 21) hx hb dX6_mostAlike_50 (by decide) ?_
                    exact ih21 _ _ _ _ _ hk hW (lv_sub hl [1, 2, 3, 4, 5, 0] rfl)
                  clear hk
                  have hk := hr14.symm
                  clear hr14
                  refine lv_icmp_ne (tgt := 47) hx hb dX6_mostAlike_41 (by decide) (fun c10 => ?_) (fun c10 => ?_)
                  · replace hk := ite_f hk c10
                    subst hk
                    exact KJ13 _ _ _ hW (lv_sub hl [0, 1, 2, 3, 4, 5] rfl)
                  · replace hk := ite_t hk c10
                    replace hk := lq_s hk
                    obtain ⟨x9, ex9, hk⟩ := hk
                    refine lv_iinc (v := x9) (lv' := [(4, .int x9), (0, .ref (ad G o0)), (1, .int a1), (2, .int x1), (3, .int x2), (5, .int x5)]) hx hb dX6_mostAlike_44 hl (k := 4) rfl (by rw [ex9]; rfl) (by decide) rfl (fun ls hl => ?_)
                    subst hk
                    exact KJ13 _ _ _ hW (lv_sub hl [1, 2, 3, 4, 0, 5] rfl)
          exact LH21 FU _ _ _ _ _ hz19 hW (lv_sub hl [2, 3, 4, 5, 1, 0] rfl)
  exact LH4 FU _ _ _ _ _ hz23 hW (lv_sub hl [2, 3, 1, 0] rfl)
def f_X6_alikeByLength_L6 (a1 : Int32) (a2 : Int32) (a3 : Int32) : Nat → Int32 → Int32 → Mem → Option (Int32 × Mem)
  | 0, _, _, _ => none
  | n + 1, x1, x2, M3 =>
    if (9 : Int32) < x2 then (
      some (x1, M3))
    else (
      ob2 (
        if (f_X6_hasBit a2 x2) = (0 : Int32) then (
          some (x1, M3))
        else (
          ob (f_X6_freshHigh a1 a3 x2 (30 : Int32) M3) (fun x7 =>
          ob (f_X6_put 175 x1 x7 M3) (fun M9 =>
          lq (x1 + (1 : Int32)) (fun x10 =>
          some (x10, M9))))))
       (fun x12 M13 =>
      lq (x2 + (1 : Int32)) (fun x14 =>
      f_X6_alikeByLength_L6 a1 a2 a3 n x12 x14 M13)))
def f_X6_alikeByLength (a1 : Int32) (a2 : Int32) (a3 : Int32) (M : Mem) : Option (Int32 × Mem) :=
  ob2 (f_X6_alikeByLength_L6 a1 a2 a3 FU (0 : Int32) (1 : Int32) M) (fun x4 M5 =>
  ob (f_X6_mostAlike 175 x4 M5) (fun x18 =>
  some (x18, M5)))
set_option maxHeartbeats 4000000 in
set_option maxRecDepth 100000 in
theorem c_X6_alikeByLength (l : Launch) (G : GT) (a1 : Int32) (a2 : Int32) (a3 : Int32) (M : Mem) {r : Int32} {M' : Mem} (hk : f_X6_alikeByLength a1 a2 a3 M = some (r, M')) : CMi l G true yX6_alikeByLength cX6_alikeByLength 6 (some .int) 3 [.ref (ad G 0), .int a1, .int a2, .int a3] M r M' := by
  unfold f_X6_alikeByLength at hk
  refine CMi.of (by decide) (Nat.le_of_ble_eq_true rfl) ?_
  intro p e s m args below meth c Q hx hb hml hown hg hK hW hret ls hl
  have hl : lv_has ls 6 [(0, .ref (ad G 0)), (1, .int a1), (2, .int a2), (3, .int a3)] := hl
  refine lv_iconst (v := (0 : Int32)) hx hb dX6_alikeByLength_0 (by decide) ?_
  refine lv_istore (lv' := [(4, .int (0 : Int32)), (0, .ref (ad G 0)), (1, .int a1), (2, .int a2), (3, .int a3)]) hx hb dX6_alikeByLength_1 hl (by decide) rfl (fun ls hl => ?_)
  refine lv_iconst (v := (1 : Int32)) hx hb dX6_alikeByLength_3 (by decide) ?_
  refine lv_istore (lv' := [(5, .int (1 : Int32)), (4, .int (0 : Int32)), (0, .ref (ad G 0)), (1, .int a1), (2, .int a2), (3, .int a3)]) hx hb dX6_alikeByLength_4 hl (by decide) rfl (fun ls hl => ?_)
  replace hk := ob2_s hk
  obtain ⟨x4, M5, hz19, hk⟩ := hk
  have KX6 : ∀ (H : Heap) (locs : List Loc) (ls : Array Slot), Ws G true M5 s H locs → lv_has ls 6 [(0, .ref (ad G 0)), (4, .int x4)] → Wx p l e 3 s m args below meth c Q H locs 50 ls [] := by
    intro H locs ls hW hl
    refine lv_aload_n hx hb dX6_alikeByLength_50 rfl (lv_at hl 0 rfl) ?_
    refine gt_X6_60 hx hb hg hown hK hW kd_0 dX6_alikeByLength_51 ?_
    refine lv_iload hx hb dX6_alikeByLength_54 (lv_at hl 1 rfl) ?_
    replace hk := ob_s hk
    obtain ⟨x18, hx18, hk⟩ := hk
    refine cl_i (rn_S g_701 g_702 g_1 g_703 hd_X6_mostAlike (Nat.le_of_ble_eq_true rfl) hx hb hml hown hg hK hW (As := [.ref (ad G 175), .int x4]) (c_X6_mostAlike l G kd_175 x4 M5 hx18) (by decide) rfl hl.1 rfl (Nat.le_of_ble_eq_true rfl) dX6_alikeByLength_56) hW (fun H locs hW => ?_)
    obtain ⟨rfl, rfl⟩ := sp2 hk
    exact hret _ _ _ _ hW dX6_alikeByLength_59
  clear hk
  have LH6 : ∀ (n : Nat) (x1 : Int32) (x2 : Int32) (M3 : Mem) (H : Heap) (locs : List Loc) (ls : Array Slot), f_X6_alikeByLength_L6 a1 a2 a3 n x1 x2 M3 = some (x4, M5) → Ws G true M3 s H locs → lv_has ls 6 [(0, .ref (ad G 0)), (1, .int a1), (2, .int a2), (3, .int a3), (4, .int x1), (5, .int x2)] → Wx p l e 3 s m args below meth c Q H locs 6 ls [] := by
    clear hz19
    intro n
    induction n with
    | zero => intro _ _ _ _ _ _ hk; cases hk
    | succ n ih6 =>
      intro x1 x2 M3 H locs ls hk hW hl
      rw [f_X6_alikeByLength_L6.eq_2] at hk
      refine lv_iload hx hb dX6_alikeByLength_6 (lv_at hl 5 rfl) ?_
      refine lv_bipush (v := (9 : Int32)) hx hb dX6_alikeByLength_8 (by decide) ?_
      refine lv_icmp_gt (tgt := 50) hx hb dX6_alikeByLength_10 (by decide) (fun c17 => ?_) (fun c17 => ?_)
      · replace hk := ite_t hk c17
        obtain ⟨rfl, rfl⟩ := sp2 hk
        exact KX6 _ _ _ hW (lv_sub hl [0, 4] rfl)
      · replace hk := ite_f hk c17
        refine lv_iload_n hx hb dX6_alikeByLength_13 rfl (lv_at hl 2 rfl) ?_
        refine lv_iload hx hb dX6_alikeByLength_14 (lv_at hl 5 rfl) ?_
        refine cl_i (rn_S g_687 g_688 g_1 g_689 hd_X6_hasBit (Nat.le_of_ble_eq_true rfl) hx hb hml hown hg hK hW (As := [.int a2, .int x2]) (c_X6_hasBit l G a2 x2 M3) (by decide) rfl hl.1 rfl (Nat.le_of_ble_eq_true rfl) dX6_alikeByLength_16) hW (fun H locs hW => ?_)
        replace hk := ob2_s hk
        obtain ⟨x12, M13, hr16, hk⟩ := hk
        have KJ15 : ∀ (H : Heap) (locs : List Loc) (ls : Array Slot), Ws G true M13 s H locs → lv_has ls 6 [(0, .ref (ad G 0)), (1, .int a1), (2, .int a2), (3, .int a3), (4, .int x12), (5, .int x2)] → Wx p l e 3 s m args below meth c Q H locs 44 ls [] := by
          intro H locs ls hW hl
          replace hk := lq_s hk
          obtain ⟨x14, ex14, hk⟩ := hk
          refine lv_iinc (v := x14) (lv' := [(5, .int x14), (0, .ref (ad G 0)), (1, .int a1), (2, .int a2), (3, .int a3), (4, .int x12)]) hx hb dX6_alikeByLength_44 hl (k := 5) rfl (by rw [ex14]; rfl) (by decide) rfl (fun ls hl => ?_)
          refine lv_goto (tgt := 6) hx hb dX6_alikeByLength_47 (by decide) ?_
          exact ih6 _ _ _ _ _ _ hk hW (lv_sub hl [1, 2, 3, 4, 5, 0] rfl)
        clear hk
        have hk := hr16
        clear hr16
        refine lv_if_eq (tgt := 44) hx hb dX6_alikeByLength_19 (by decide) (fun c11 => ?_) (fun c11 => ?_)
        · replace hk := ite_t hk c11
          obtain ⟨rfl, rfl⟩ := sp2 hk
          exact KJ15 _ _ _ hW (lv_sub hl [0, 1, 2, 3, 4, 5] rfl)
        · replace hk := ite_f hk c11
          refine lv_aload_n hx hb dX6_alikeByLength_22 rfl (lv_at hl 0 rfl) ?_
          refine gt_X6_60 hx hb hg hown hK hW kd_0 dX6_alikeByLength_23 ?_
          refine lv_iload hx hb dX6_alikeByLength_26 (lv_at hl 4 rfl) ?_
          refine lv_aload_n hx hb dX6_alikeByLength_28 rfl (lv_at hl 0 rfl) ?_
          refine lv_iload_n hx hb dX6_alikeByLength_29 rfl (lv_at hl 1 rfl) ?_
          refine lv_iload_n hx hb dX6_alikeByLength_30 rfl (lv_at hl 3 rfl) ?_
          refine lv_iload hx hb dX6_alikeByLength_31 (lv_at hl 5 rfl) ?_
          refine lv_bipush (v := (30 : Int32)) hx hb dX6_alikeByLength_33 (by decide) ?_
          replace hk := ob_s hk
          obtain ⟨x7, hx7, hk⟩ := hk
          refine cl_i (rn_V g_672 g_674 gs_46 g_1 g_675 hd_X6_freshHigh (Nat.le_of_ble_eq_true rfl) (ci := 6) rfl (inC kd_0 rfl) (shp6 kd_0) hx hb hml hown hg hK hW (As := [.int a1, .int a3, .int x2, .int (30 : Int32)]) (c_X6_freshHigh l G a1 a3 x2 (30 : Int32) M3 hx7) (by decide) rfl hl.1 rfl (Nat.le_of_ble_eq_true rfl) dX6_alikeByLength_35) hW (fun H locs hW => ?_)
          replace hk := ob_s hk
          obtain ⟨M9, hx8, hk⟩ := hk
          refine cl_v (rn_S g_520 g_294 g_1 g_295 hd_X6_put (Nat.le_of_ble_eq_true rfl) hx hb hml hown hg hK hW (As := [.ref (ad G 175), .int x1, .int x7]) (c_X6_put l G kd_175 x1 x7 M3 hx8) (by decide) rfl hl.1 rfl (Nat.le_of_ble_eq_true rfl) dX6_alikeByLength_38) hW (fun H locs hW => ?_)
          replace hk := lq_s hk
          obtain ⟨x10, ex10, hk⟩ := hk
          refine lv_iinc (v := x10) (lv' := [(4, .int x10), (0, .ref (ad G 0)), (1, .int a1), (2, .int a2), (3, .int a3), (5, .int x2)]) hx hb dX6_alikeByLength_41 hl (k := 4) rfl (by rw [ex10]; rfl) (by decide) rfl (fun ls hl => ?_)
          obtain ⟨rfl, rfl⟩ := sp2 hk
          exact KJ15 _ _ _ hW (lv_sub hl [1, 2, 3, 4, 0, 5] rfl)
  exact LH6 FU _ _ _ _ _ _ hz19 hW (lv_sub hl [2, 3, 4, 5, 1, 0] rfl)
def f_X6_tell_L44 (a1 : Int32) (x2 : Int32) : Nat → Int32 → Int32 → Int32 → Mem → Option (Int32 × Mem)
  | 0, _, _, _, _ => none
  | n + 1, x5, x6, x7, M8 =>
    if (20 : Int32) < x7 then (
      some (x5, M8))
    else (
      ob2 (f_X6_alikeByLength a1 x2 x7 M8) (fun x11 M12 =>
      ob2 (
        if x6 ≤ x11 then (
          some (x5, x6))
        else (
          some (x7, x11)))
       (fun x14 x15 =>
      lq (x7 + (1 : Int32)) (fun x16 =>
      f_X6_tell_L44 a1 x2 n x14 x15 x16 M12))))
def f_X6_tell (a1 : Int32) (M : Mem) : Option (Int32 × Mem) :=
  if (f_X6_noLimb a1 M) = (0 : Int32) then (
    ob (f_X6_fittingWeights a1 M) (fun x2 =>
    if x2 = (0 : Int32) then (
      some (((-1001) : Int32), M))
    else (
      ob2 (f_X6_alikeByLength a1 x2 (1 : Int32) M) (fun x3 M4 =>
      ob2 (f_X6_tell_L44 a1 x2 FU (1 : Int32) x3 (2 : Int32) M4) (fun x9 M10 =>
      some (x9, M10))))))
  else (
    ob2 (f_X6_refuseBad ((-1002) : Int32) M) (fun x23 M24 =>
    some (x23, M24)))
set_option maxHeartbeats 4000000 in
set_option maxRecDepth 100000 in
theorem c_X6_tell (l : Launch) (G : GT) (a1 : Int32) (M : Mem) {r : Int32} {M' : Mem} (hk : f_X6_tell a1 M = some (r, M')) : CMi l G true yX6_tell cX6_tell 7 (some .int) 5 [.ref (ad G 0), .int a1] M r M' := by
  unfold f_X6_tell at hk
  refine CMi.of (by decide) (Nat.le_of_ble_eq_true rfl) ?_
  intro p e s m args below meth c Q hx hb hml hown hg hK hW hret ls hl
  have hl : lv_has ls 7 [(0, .ref (ad G 0)), (1, .int a1)] := hl
  refine lv_aload_n hx hb dX6_tell_0 rfl (lv_at hl 0 rfl) ?_
  refine lv_iload_n hx hb dX6_tell_1 rfl (lv_at hl 1 rfl) ?_
  refine cl_i (rn_V g_514 g_516 gs_30 g_1 g_517 hd_X6_noLimb (Nat.le_of_ble_eq_true rfl) (ci := 6) rfl (inC kd_0 rfl) (shp6 kd_0) hx hb hml hown hg hK hW (As := [.int a1]) (c_X6_noLimb l G a1 M) (by decide) rfl hl.1 rfl (Nat.le_of_ble_eq_true rfl) dX6_tell_2) hW (fun H locs hW => ?_)
  refine lv_if_eq (tgt := 16) hx hb dX6_tell_5 (by decide) (fun c25 => ?_) (fun c25 => ?_)
  · replace hk := ite_t hk c25
    refine lv_aload_n hx hb dX6_tell_16 rfl (lv_at hl 0 rfl) ?_
    refine lv_iload_n hx hb dX6_tell_17 rfl (lv_at hl 1 rfl) ?_
    replace hk := ob_s hk
    obtain ⟨x2, hx2, hk⟩ := hk
    refine cl_i (rn_V g_659 g_661 gs_43 g_1 g_662 hd_X6_fittingWeights (Nat.le_of_ble_eq_true rfl) (ci := 6) rfl (inC kd_0 rfl) (shp6 kd_0) hx hb hml hown hg hK hW (As := [.int a1]) (c_X6_fittingWeights l G a1 M hx2) (by decide) rfl hl.1 rfl (Nat.le_of_ble_eq_true rfl) dX6_tell_18) hW (fun H locs hW => ?_)
    refine lv_istore_n (lv' := [(2, .int x2), (0, .ref (ad G 0)), (1, .int a1)]) hx hb dX6_tell_21 rfl hl (by decide) rfl (fun ls hl => ?_)
    refine lv_iload_n hx hb dX6_tell_22 rfl (lv_at hl 0 rfl) ?_
    refine lv_if_ne (tgt := 30) hx hb dX6_tell_23 (by decide) (fun c22 => ?_) (fun c22 => ?_)
    · replace hk := ite_f hk c22
      refine lv_iconst (v := (1 : Int32)) hx hb dX6_tell_30 (by decide) ?_
      refine lv_istore_n (lv' := [(3, .int (1 : Int32)), (2, .int x2), (0, .ref (ad G 0)), (1, .int a1)]) hx hb dX6_tell_31 rfl hl (by decide) rfl (fun ls hl => ?_)
      refine lv_aload_n hx hb dX6_tell_32 rfl (lv_at hl 2 rfl) ?_
      refine lv_iload_n hx hb dX6_tell_33 rfl (lv_at hl 3 rfl) ?_
      refine lv_iload_n hx hb dX6_tell_34 rfl (lv_at hl 1 rfl) ?_
      refine lv_iconst (v := (1 : Int32)) hx hb dX6_tell_35 (by decide) ?_
      replace hk := ob2_s hk
      obtain ⟨x3, M4, hx3, hk⟩ := hk
      refine cl_i (rn_V g_697 g_699 gs_47 g_1 g_700 hd_X6_alikeByLength (Nat.le_of_ble_eq_true rfl) (ci := 6) rfl (inC kd_0 rfl) (shp6 kd_0) hx hb hml hown hg hK hW (As := [.int a1, .int x2, .int (1 : Int32)]) (c_X6_alikeByLength l G a1 x2 (1 : Int32) M hx3) (by decide) rfl hl.1 rfl (Nat.le_of_ble_eq_true rfl) dX6_tell_36) hW (fun H locs hW => ?_)
      refine lv_istore (lv' := [(4, .int x3), (3, .int (1 : Int32)), (2, .int x2), (0, .ref (ad G 0)), (1, .int a1)]) hx hb dX6_tell_39 hl (by decide) rfl (fun ls hl => ?_)
      refine lv_iconst (v := (2 : Int32)) hx hb dX6_tell_41 (by decide) ?_
      refine lv_istore (lv' := [(5, .int (2 : Int32)), (4, .int x3), (3, .int (1 : Int32)), (2, .int x2), (0, .ref (ad G 0)), (1, .int a1)]) hx hb dX6_tell_42 hl (by decide) rfl (fun ls hl => ?_)
      replace hk := ob2_s hk
      obtain ⟨x9, M10, hz20, hk⟩ := hk
      have KX44 : ∀ (H : Heap) (locs : List Loc) (ls : Array Slot), Ws G true M10 s H locs → lv_has ls 7 [(3, .int x9)] → Wx p l e 5 s m args below meth c Q H locs 81 ls [] := by
        intro H locs ls hW hl
        refine lv_iload_n hx hb dX6_tell_81 rfl (lv_at hl 0 rfl) ?_
        obtain ⟨rfl, rfl⟩ := sp2 hk
        exact hret _ _ _ _ hW dX6_tell_82
      clear hk
      have LH44 : ∀ (n : Nat) (x5 : Int32) (x6 : Int32) (x7 : Int32) (M8 : Mem) (H : Heap) (locs : List Loc) (ls : Array Slot), f_X6_tell_L44 a1 x2 n x5 x6 x7 M8 = some (x9, M10) → Ws G true M8 s H locs → lv_has ls 7 [(0, .ref (ad G 0)), (1, .int a1), (2, .int x2), (3, .int x5), (4, .int x6), (5, .int x7)] → Wx p l e 5 s m args below meth c Q H locs 44 ls [] := by
        clear hz20
        intro n
        induction n with
        | zero => intro _ _ _ _ _ _ _ hk; cases hk
        | succ n ih44 =>
          intro x5 x6 x7 M8 H locs ls hk hW hl
          rw [f_X6_tell_L44.eq_2] at hk
          refine lv_iload hx hb dX6_tell_44 (lv_at hl 5 rfl) ?_
          refine lv_bipush (v := (20 : Int32)) hx hb dX6_tell_46 (by decide) ?_
          refine lv_icmp_gt (tgt := 81) hx hb dX6_tell_48 (by decide) (fun c19 => ?_) (fun c19 => ?_)
          · replace hk := ite_t hk c19
            obtain ⟨rfl, rfl⟩ := sp2 hk
            exact KX44 _ _ _ hW (lv_sub hl [3] rfl)
          · replace hk := ite_f hk c19
            refine lv_aload_n hx hb dX6_tell_51 rfl (lv_at hl 0 rfl) ?_
            refine lv_iload_n hx hb dX6_tell_52 rfl (lv_at hl 1 rfl) ?_
            refine lv_iload_n hx hb dX6_tell_53 rfl (lv_at hl 2 rfl) ?_
            refine lv_iload hx hb dX6_tell_54 (lv_at hl 5 rfl) ?_
            replace hk := ob2_s hk
            obtain ⟨x11, M12, hx11, hk⟩ := hk
            refine cl_i (rn_V g_697 g_699 gs_47 g_1 g_700 hd_X6_alikeByLength (Nat.le_of_ble_eq_true rfl) (ci := 6) rfl (inC kd_0 rfl) (shp6 kd_0) hx hb hml hown hg hK hW (As := [.int a1, .int x2, .int x7]) (c_X6_alikeByLength l G a1 x2 x7 M8 hx11) (by decide) rfl hl.1 rfl (Nat.le_of_ble_eq_true rfl) dX6_tell_56) hW (fun H locs hW => ?_)
            refine lv_istore (lv' := [(6, .int x11), (0, .ref (ad G 0)), (1, .int a1), (2, .int x2), (3, .int x5), (4, .int x6), (5, .int x7)]) hx hb dX6_tell_59 hl (by decide) rfl (fun ls hl => ?_)
            refine lv_iload hx hb dX6_tell_61 (lv_at hl 0 rfl) ?_
            refine lv_iload hx hb dX6_tell_63 (lv_at hl 5 rfl) ?_
            replace hk := ob2_s hk
            obtain ⟨x14, x15, hr18, hk⟩ := hk
            have KJ17 : ∀ (H : Heap) (locs : List Loc) (ls : Array Slot), Ws G true M12 s H locs → lv_has ls 7 [(0, .ref (ad G 0)), (1, .int a1), (2, .int x2), (3, .int x14), (4, .int x15), (5, .int x7)] → Wx p l e 5 s m args below meth c Q H locs 75 ls [] := by
              intro H locs ls hW hl
              replace hk := lq_s hk
              obtain ⟨x16, ex16, hk⟩ := hk
              refine lv_iinc (v := x16) (lv' := [(5, .int x16), (0, .ref (ad G 0)), (1, .int a1), (2, .int x2), (3, .int x14), (4, .int x15)]) hx hb dX6_tell_75 hl (k := 5) rfl (by rw [ex16]; rfl) (by decide) rfl (fun ls hl => ?_)
              refine lv_goto (tgt := 44) hx hb dX6_tell_78 (by decide) ?_
              exact ih44 _ _ _ _ _ _ _ hk hW (lv_sub hl [1, 2, 3, 4, 5, 0] rfl)
            clear hk
            have hk := hr18
            clear hr18
            refine lv_icmp_ge (tgt := 75) hx hb dX6_tell_65 (by decide) (fun c13 => ?_) (fun c13 => ?_)
            · replace hk := ite_t hk c13
              obtain ⟨rfl, rfl⟩ := sp2 hk
              exact KJ17 _ _ _ hW (lv_sub hl [1, 2, 3, 4, 5, 6] rfl)
            · replace hk := ite_f hk c13
              refine lv_iload hx hb dX6_tell_68 (lv_at hl 6 rfl) ?_
              refine lv_istore_n (lv' := [(3, .int x7), (6, .int x11), (0, .ref (ad G 0)), (1, .int a1), (2, .int x2), (4, .int x6), (5, .int x7)]) hx hb dX6_tell_70 rfl hl (by decide) rfl (fun ls hl => ?_)
              refine lv_iload hx hb dX6_tell_71 (lv_at hl 1 rfl) ?_
              refine lv_istore (lv' := [(4, .int x11), (3, .int x7), (6, .int x11), (0, .ref (ad G 0)), (1, .int a1), (2, .int x2), (5, .int x7)]) hx hb dX6_tell_73 hl (by decide) rfl (fun ls hl => ?_)
              obtain ⟨rfl, rfl⟩ := sp2 hk
              exact KJ17 _ _ _ hW (lv_sub hl [3, 4, 5, 1, 0, 6] rfl)
      exact LH44 FU _ _ _ _ _ _ _ hz20 hW (lv_sub hl [4, 5, 3, 2, 1, 0] rfl)
    · replace hk := ite_t hk c22
      refine lv_sipush (v := ((-1001) : Int32)) hx hb dX6_tell_26 (by decide) ?_
      obtain ⟨rfl, rfl⟩ := sp2 hk
      exact hret _ _ _ _ hW dX6_tell_29
  · replace hk := ite_f hk c25
    refine lv_aload_n hx hb dX6_tell_8 rfl (lv_at hl 0 rfl) ?_
    refine lv_sipush (v := ((-1002) : Int32)) hx hb dX6_tell_9 (by decide) ?_
    replace hk := ob2_s hk
    obtain ⟨x23, M24, hx23, hk⟩ := hk
    refine cl_i (rn_V g_281 g_283 gs_0 g_1 g_284 hd_X6_refuseBad (Nat.le_of_ble_eq_true rfl) (ci := 6) rfl (inC kd_0 rfl) (shp6 kd_0) hx hb hml hown hg hK hW (As := [.int ((-1002) : Int32)]) (c_X6_refuseBad l G ((-1002) : Int32) M hx23) (by decide) rfl hl.1 rfl (Nat.le_of_ble_eq_true rfl) dX6_tell_12) hW (fun H locs hW => ?_)
    obtain ⟨rfl, rfl⟩ := sp2 hk
    exact hret _ _ _ _ hW dX6_tell_15
def f_X6_note (a1 : Int32) (a2 : Int32) (a3 : Int32) (a4 : Int32) (a5 : Int32) (M : Mem) : Option (Int32 × Mem) :=
  if (f_X6_noLimb a1 M) = (0 : Int32) then (
    if (f_X6_outside a2 (1 : Int32) (20 : Int32)) = (0 : Int32) then (
      if (f_X6_outside a3 (1 : Int32) (9 : Int32)) = (0 : Int32) then (
        if (f_X6_outside a4 (0 : Int32) (99 : Int32)) = (0 : Int32) then (
          if (f_X6_outside a5 (0 : Int32) (60 : Int32)) = (0 : Int32) then (
            if (f_X5_isFull (1 + 37) M) = (0 : Int32) then (
              ob2 (f_X5_append (1 + 37) a1 a2 a3 a4 a5 M) (fun x15 M16 =>
              some (x15, M16)))
            else (
              ob2 (f_X6_refuseFull M) (fun x17 M18 =>
              some (x17, M18))))
          else (
            ob2 (f_X6_refuseBad ((-1002) : Int32) M) (fun x20 M21 =>
            some (x20, M21))))
        else (
          ob2 (f_X6_refuseBad ((-1002) : Int32) M) (fun x11 M12 =>
          some (x11, M12))))
      else (
        ob2 (f_X6_refuseBad ((-1002) : Int32) M) (fun x8 M9 =>
        some (x8, M9))))
    else (
      ob2 (f_X6_refuseBad ((-1002) : Int32) M) (fun x5 M6 =>
      some (x5, M6))))
  else (
    ob2 (f_X6_refuseBad ((-1002) : Int32) M) (fun x2 M3 =>
    some (x2, M3)))
set_option maxHeartbeats 4000000 in
set_option maxRecDepth 100000 in
theorem c_X6_note (l : Launch) (G : GT) (a1 : Int32) (a2 : Int32) (a3 : Int32) (a4 : Int32) (a5 : Int32) (M : Mem) {r : Int32} {M' : Mem} (hk : f_X6_note a1 a2 a3 a4 a5 M = some (r, M')) : CMi l G true yX6_note cX6_note 6 (some .int) 2 [.ref (ad G 0), .int a1, .int a2, .int a3, .int a4, .int a5] M r M' := by
  unfold f_X6_note at hk
  refine CMi.of (by decide) (Nat.le_of_ble_eq_true rfl) ?_
  intro p e s m args below meth c Q hx hb hml hown hg hK hW hret ls hl
  have hl : lv_has ls 6 [(0, .ref (ad G 0)), (1, .int a1), (2, .int a2), (3, .int a3), (4, .int a4), (5, .int a5)] := hl
  refine lv_aload_n hx hb dX6_note_0 rfl (lv_at hl 0 rfl) ?_
  refine lv_iload_n hx hb dX6_note_1 rfl (lv_at hl 1 rfl) ?_
  refine cl_i (rn_V g_514 g_516 gs_30 g_1 g_517 hd_X6_noLimb (Nat.le_of_ble_eq_true rfl) (ci := 6) rfl (inC kd_0 rfl) (shp6 kd_0) hx hb hml hown hg hK hW (As := [.int a1]) (c_X6_noLimb l G a1 M) (by decide) rfl hl.1 rfl (Nat.le_of_ble_eq_true rfl) dX6_note_2) hW (fun H locs hW => ?_)
  refine lv_if_ne (tgt := 50) hx hb dX6_note_5 (by decide) (fun c26 => ?_) (fun c26 => ?_)
  · replace hk := ite_f hk c26
    refine lv_aload_n hx hb dX6_note_50 rfl (lv_at hl 0 rfl) ?_
    refine lv_sipush (v := ((-1002) : Int32)) hx hb dX6_note_51 (by decide) ?_
    replace hk := ob2_s hk
    obtain ⟨x2, M3, hx2, hk⟩ := hk
    refine cl_i (rn_V g_281 g_283 gs_0 g_1 g_284 hd_X6_refuseBad (Nat.le_of_ble_eq_true rfl) (ci := 6) rfl (inC kd_0 rfl) (shp6 kd_0) hx hb hml hown hg hK hW (As := [.int ((-1002) : Int32)]) (c_X6_refuseBad l G ((-1002) : Int32) M hx2) (by decide) rfl hl.1 rfl (Nat.le_of_ble_eq_true rfl) dX6_note_54) hW (fun H locs hW => ?_)
    obtain ⟨rfl, rfl⟩ := sp2 hk
    exact hret _ _ _ _ hW dX6_note_57
  · replace hk := ite_t hk c26
    refine lv_iload_n hx hb dX6_note_8 rfl (lv_at hl 2 rfl) ?_
    refine lv_iconst (v := (1 : Int32)) hx hb dX6_note_9 (by decide) ?_
    refine lv_bipush (v := (20 : Int32)) hx hb dX6_note_10 (by decide) ?_
    refine cl_i (rn_S g_278 g_279 g_1 g_280 hd_X6_outside (Nat.le_of_ble_eq_true rfl) hx hb hml hown hg hK hW (As := [.int a2, .int (1 : Int32), .int (20 : Int32)]) (c_X6_outside l G a2 (1 : Int32) (20 : Int32) M) (by decide) rfl hl.1 rfl (Nat.le_of_ble_eq_true rfl) dX6_note_12) hW (fun H locs hW => ?_)
    refine lv_if_ne (tgt := 50) hx hb dX6_note_15 (by decide) (fun c25 => ?_) (fun c25 => ?_)
    · replace hk := ite_f hk c25
      refine lv_aload_n hx hb dX6_note_50 rfl (lv_at hl 0 rfl) ?_
      refine lv_sipush (v := ((-1002) : Int32)) hx hb dX6_note_51 (by decide) ?_
      replace hk := ob2_s hk
      obtain ⟨x5, M6, hx5, hk⟩ := hk
      refine cl_i (rn_V g_281 g_283 gs_0 g_1 g_284 hd_X6_refuseBad (Nat.le_of_ble_eq_true rfl) (ci := 6) rfl (inC kd_0 rfl) (shp6 kd_0) hx hb hml hown hg hK hW (As := [.int ((-1002) : Int32)]) (c_X6_refuseBad l G ((-1002) : Int32) M hx5) (by decide) rfl hl.1 rfl (Nat.le_of_ble_eq_true rfl) dX6_note_54) hW (fun H locs hW => ?_)
      obtain ⟨rfl, rfl⟩ := sp2 hk
      exact hret _ _ _ _ hW dX6_note_57
    · replace hk := ite_t hk c25
      refine lv_iload_n hx hb dX6_note_18 rfl (lv_at hl 3 rfl) ?_
      refine lv_iconst (v := (1 : Int32)) hx hb dX6_note_19 (by decide) ?_
      refine lv_bipush (v := (9 : Int32)) hx hb dX6_note_20 (by decide) ?_
      refine cl_i (rn_S g_278 g_279 g_1 g_280 hd_X6_outside (Nat.le_of_ble_eq_true rfl) hx hb hml hown hg hK hW (As := [.int a3, .int (1 : Int32), .int (9 : Int32)]) (c_X6_outside l G a3 (1 : Int32) (9 : Int32) M) (by decide) rfl hl.1 rfl (Nat.le_of_ble_eq_true rfl) dX6_note_22) hW (fun H locs hW => ?_)
      refine lv_if_ne (tgt := 50) hx hb dX6_note_25 (by decide) (fun c24 => ?_) (fun c24 => ?_)
      · replace hk := ite_f hk c24
        refine lv_aload_n hx hb dX6_note_50 rfl (lv_at hl 0 rfl) ?_
        refine lv_sipush (v := ((-1002) : Int32)) hx hb dX6_note_51 (by decide) ?_
        replace hk := ob2_s hk
        obtain ⟨x8, M9, hx8, hk⟩ := hk
        refine cl_i (rn_V g_281 g_283 gs_0 g_1 g_284 hd_X6_refuseBad (Nat.le_of_ble_eq_true rfl) (ci := 6) rfl (inC kd_0 rfl) (shp6 kd_0) hx hb hml hown hg hK hW (As := [.int ((-1002) : Int32)]) (c_X6_refuseBad l G ((-1002) : Int32) M hx8) (by decide) rfl hl.1 rfl (Nat.le_of_ble_eq_true rfl) dX6_note_54) hW (fun H locs hW => ?_)
        obtain ⟨rfl, rfl⟩ := sp2 hk
        exact hret _ _ _ _ hW dX6_note_57
      · replace hk := ite_t hk c24
        refine lv_iload hx hb dX6_note_28 (lv_at hl 4 rfl) ?_
        refine lv_iconst (v := (0 : Int32)) hx hb dX6_note_30 (by decide) ?_
        refine lv_bipush (v := (99 : Int32)) hx hb dX6_note_31 (by decide) ?_
        refine cl_i (rn_S g_278 g_279 g_1 g_280 hd_X6_outside (Nat.le_of_ble_eq_true rfl) hx hb hml hown hg hK hW (As := [.int a4, .int (0 : Int32), .int (99 : Int32)]) (c_X6_outside l G a4 (0 : Int32) (99 : Int32) M) (by decide) rfl hl.1 rfl (Nat.le_of_ble_eq_true rfl) dX6_note_33) hW (fun H locs hW => ?_)
        refine lv_if_ne (tgt := 50) hx hb dX6_note_36 (by decide) (fun c23 => ?_) (fun c23 => ?_)
        · replace hk := ite_f hk c23
          refine lv_aload_n hx hb dX6_note_50 rfl (lv_at hl 0 rfl) ?_
          refine lv_sipush (v := ((-1002) : Int32)) hx hb dX6_note_51 (by decide) ?_
          replace hk := ob2_s hk
          obtain ⟨x11, M12, hx11, hk⟩ := hk
          refine cl_i (rn_V g_281 g_283 gs_0 g_1 g_284 hd_X6_refuseBad (Nat.le_of_ble_eq_true rfl) (ci := 6) rfl (inC kd_0 rfl) (shp6 kd_0) hx hb hml hown hg hK hW (As := [.int ((-1002) : Int32)]) (c_X6_refuseBad l G ((-1002) : Int32) M hx11) (by decide) rfl hl.1 rfl (Nat.le_of_ble_eq_true rfl) dX6_note_54) hW (fun H locs hW => ?_)
          obtain ⟨rfl, rfl⟩ := sp2 hk
          exact hret _ _ _ _ hW dX6_note_57
        · replace hk := ite_t hk c23
          refine lv_iload hx hb dX6_note_39 (lv_at hl 5 rfl) ?_
          refine lv_iconst (v := (0 : Int32)) hx hb dX6_note_41 (by decide) ?_
          refine lv_bipush (v := (60 : Int32)) hx hb dX6_note_42 (by decide) ?_
          refine cl_i (rn_S g_278 g_279 g_1 g_280 hd_X6_outside (Nat.le_of_ble_eq_true rfl) hx hb hml hown hg hK hW (As := [.int a5, .int (0 : Int32), .int (60 : Int32)]) (c_X6_outside l G a5 (0 : Int32) (60 : Int32) M) (by decide) rfl hl.1 rfl (Nat.le_of_ble_eq_true rfl) dX6_note_44) hW (fun H locs hW => ?_)
          refine lv_if_eq (tgt := 58) hx hb dX6_note_47 (by decide) (fun c22 => ?_) (fun c22 => ?_)
          · replace hk := ite_t hk c22
            refine lv_aload_n hx hb dX6_note_58 rfl (lv_at hl 0 rfl) ?_
            refine gt_X6_10 hx hb hg hown hK hW kd_0 dX6_note_59 ?_
            refine gt_X6_247 hx hb hg hown hK hW kd_1 dX6_note_62 ?_
            refine cl_i (rn_VN n_646 g_648 gs_41 g_4 g_649 hd_X5_isFull (Nat.le_of_ble_eq_true rfl) (ci := 5) rfl (inC (k2_37 kd_1) rfl) (shp5 (k2_37 kd_1)) hx hb hml hown hg hK hW (As := []) (c_X5_isFull l G (k2_37 kd_1) M) (by decide) rfl hl.1 rfl (Nat.le_of_ble_eq_true rfl) dX6_note_65) hW (fun H locs hW => ?_)
            refine lv_if_eq (tgt := 76) hx hb dX6_note_68 (by decide) (fun c19 => ?_) (fun c19 => ?_)
            · replace hk := ite_t hk c19
              refine lv_aload_n hx hb dX6_note_76 rfl (lv_at hl 0 rfl) ?_
              refine gt_X6_10 hx hb hg hown hK hW kd_0 dX6_note_77 ?_
              refine gt_X6_247 hx hb hg hown hK hW kd_1 dX6_note_80 ?_
              refine lv_iload_n hx hb dX6_note_83 rfl (lv_at hl 1 rfl) ?_
              refine lv_iload_n hx hb dX6_note_84 rfl (lv_at hl 2 rfl) ?_
              refine lv_iload_n hx hb dX6_note_85 rfl (lv_at hl 3 rfl) ?_
              refine lv_iload hx hb dX6_note_86 (lv_at hl 4 rfl) ?_
              refine lv_iload hx hb dX6_note_88 (lv_at hl 5 rfl) ?_
              replace hk := ob2_s hk
              obtain ⟨x15, M16, hx15, hk⟩ := hk
              refine cl_i (rn_VN n_650 g_652 gs_42 g_4 g_653 hd_X5_append (Nat.le_of_ble_eq_true rfl) (ci := 5) rfl (inC (k2_37 kd_1) rfl) (shp5 (k2_37 kd_1)) hx hb hml hown hg hK hW (As := [.int a1, .int a2, .int a3, .int a4, .int a5]) (c_X5_append l G (k2_37 kd_1) a1 a2 a3 a4 a5 M hx15) (by decide) rfl hl.1 rfl (Nat.le_of_ble_eq_true rfl) dX6_note_90) hW (fun H locs hW => ?_)
              obtain ⟨rfl, rfl⟩ := sp2 hk
              exact hret _ _ _ _ hW dX6_note_93
            · replace hk := ite_f hk c19
              refine lv_aload_n hx hb dX6_note_71 rfl (lv_at hl 0 rfl) ?_
              replace hk := ob2_s hk
              obtain ⟨x17, M18, hx17, hk⟩ := hk
              refine cl_i (rn_V g_304 g_306 gs_4 g_1 g_307 hd_X6_refuseFull (Nat.le_of_ble_eq_true rfl) (ci := 6) rfl (inC kd_0 rfl) (shp6 kd_0) hx hb hml hown hg hK hW (As := []) (c_X6_refuseFull l G M hx17) (by decide) rfl hl.1 rfl (Nat.le_of_ble_eq_true rfl) dX6_note_72) hW (fun H locs hW => ?_)
              obtain ⟨rfl, rfl⟩ := sp2 hk
              exact hret _ _ _ _ hW dX6_note_75
          · replace hk := ite_f hk c22
            refine lv_aload_n hx hb dX6_note_50 rfl (lv_at hl 0 rfl) ?_
            refine lv_sipush (v := ((-1002) : Int32)) hx hb dX6_note_51 (by decide) ?_
            replace hk := ob2_s hk
            obtain ⟨x20, M21, hx20, hk⟩ := hk
            refine cl_i (rn_V g_281 g_283 gs_0 g_1 g_284 hd_X6_refuseBad (Nat.le_of_ble_eq_true rfl) (ci := 6) rfl (inC kd_0 rfl) (shp6 kd_0) hx hb hml hown hg hK hW (As := [.int ((-1002) : Int32)]) (c_X6_refuseBad l G ((-1002) : Int32) M hx20) (by decide) rfl hl.1 rfl (Nat.le_of_ble_eq_true rfl) dX6_note_54) hW (fun H locs hW => ?_)
            obtain ⟨rfl, rfl⟩ := sp2 hk
            exact hret _ _ _ _ hW dX6_note_57
def f_X6_mark (a1 : Int32) (a2 : Int32) (a3 : Int32) (a4 : Int32) (M : Mem) : Option (Int32 × Mem) :=
  if (f_X6_noLimb a1 M) = (0 : Int32) then (
    if (f_X6_notHigh a2) = (0 : Int32) then (
      if (f_X6_outside a3 (0 : Int32) (99 : Int32)) = (0 : Int32) then (
        if (f_X6_notHigh a4) = (0 : Int32) then (
          if (f_X5_isFull (1 + 39) M) = (0 : Int32) then (
            ob2 (f_X5_append (1 + 39) a1 a2 a3 a4 (0 : Int32) M) (fun x12 M13 =>
            some (x12, M13)))
          else (
            ob2 (f_X6_refuseFull M) (fun x14 M15 =>
            some (x14, M15))))
        else (
          ob2 (f_X6_refuseBad ((-1002) : Int32) M) (fun x17 M18 =>
          some (x17, M18))))
      else (
        ob2 (f_X6_refuseBad ((-1002) : Int32) M) (fun x8 M9 =>
        some (x8, M9))))
    else (
      ob2 (f_X6_refuseBad ((-1002) : Int32) M) (fun x5 M6 =>
      some (x5, M6))))
  else (
    ob2 (f_X6_refuseBad ((-1002) : Int32) M) (fun x2 M3 =>
    some (x2, M3)))
set_option maxHeartbeats 4000000 in
set_option maxRecDepth 100000 in
theorem c_X6_mark (l : Launch) (G : GT) (a1 : Int32) (a2 : Int32) (a3 : Int32) (a4 : Int32) (M : Mem) {r : Int32} {M' : Mem} (hk : f_X6_mark a1 a2 a3 a4 M = some (r, M')) : CMi l G true yX6_mark cX6_mark 5 (some .int) 2 [.ref (ad G 0), .int a1, .int a2, .int a3, .int a4] M r M' := by
  unfold f_X6_mark at hk
  refine CMi.of (by decide) (Nat.le_of_ble_eq_true rfl) ?_
  intro p e s m args below meth c Q hx hb hml hown hg hK hW hret ls hl
  have hl : lv_has ls 5 [(0, .ref (ad G 0)), (1, .int a1), (2, .int a2), (3, .int a3), (4, .int a4)] := hl
  refine lv_aload_n hx hb dX6_mark_0 rfl (lv_at hl 0 rfl) ?_
  refine lv_iload_n hx hb dX6_mark_1 rfl (lv_at hl 1 rfl) ?_
  refine cl_i (rn_V g_514 g_516 gs_30 g_1 g_517 hd_X6_noLimb (Nat.le_of_ble_eq_true rfl) (ci := 6) rfl (inC kd_0 rfl) (shp6 kd_0) hx hb hml hown hg hK hW (As := [.int a1]) (c_X6_noLimb l G a1 M) (by decide) rfl hl.1 rfl (Nat.le_of_ble_eq_true rfl) dX6_mark_2) hW (fun H locs hW => ?_)
  refine lv_if_ne (tgt := 33) hx hb dX6_mark_5 (by decide) (fun c22 => ?_) (fun c22 => ?_)
  · replace hk := ite_f hk c22
    refine lv_aload_n hx hb dX6_mark_33 rfl (lv_at hl 0 rfl) ?_
    refine lv_sipush (v := ((-1002) : Int32)) hx hb dX6_mark_34 (by decide) ?_
    replace hk := ob2_s hk
    obtain ⟨x2, M3, hx2, hk⟩ := hk
    refine cl_i (rn_V g_281 g_283 gs_0 g_1 g_284 hd_X6_refuseBad (Nat.le_of_ble_eq_true rfl) (ci := 6) rfl (inC kd_0 rfl) (shp6 kd_0) hx hb hml hown hg hK hW (As := [.int ((-1002) : Int32)]) (c_X6_refuseBad l G ((-1002) : Int32) M hx2) (by decide) rfl hl.1 rfl (Nat.le_of_ble_eq_true rfl) dX6_mark_37) hW (fun H locs hW => ?_)
    obtain ⟨rfl, rfl⟩ := sp2 hk
    exact hret _ _ _ _ hW dX6_mark_40
  · replace hk := ite_t hk c22
    refine lv_iload_n hx hb dX6_mark_8 rfl (lv_at hl 2 rfl) ?_
    refine cl_i (rn_S g_583 g_584 g_1 g_585 hd_X6_notHigh (Nat.le_of_ble_eq_true rfl) hx hb hml hown hg hK hW (As := [.int a2]) (c_X6_notHigh l G a2 M) (by decide) rfl hl.1 rfl (Nat.le_of_ble_eq_true rfl) dX6_mark_9) hW (fun H locs hW => ?_)
    refine lv_if_ne (tgt := 33) hx hb dX6_mark_12 (by decide) (fun c21 => ?_) (fun c21 => ?_)
    · replace hk := ite_f hk c21
      refine lv_aload_n hx hb dX6_mark_33 rfl (lv_at hl 0 rfl) ?_
      refine lv_sipush (v := ((-1002) : Int32)) hx hb dX6_mark_34 (by decide) ?_
      replace hk := ob2_s hk
      obtain ⟨x5, M6, hx5, hk⟩ := hk
      refine cl_i (rn_V g_281 g_283 gs_0 g_1 g_284 hd_X6_refuseBad (Nat.le_of_ble_eq_true rfl) (ci := 6) rfl (inC kd_0 rfl) (shp6 kd_0) hx hb hml hown hg hK hW (As := [.int ((-1002) : Int32)]) (c_X6_refuseBad l G ((-1002) : Int32) M hx5) (by decide) rfl hl.1 rfl (Nat.le_of_ble_eq_true rfl) dX6_mark_37) hW (fun H locs hW => ?_)
      obtain ⟨rfl, rfl⟩ := sp2 hk
      exact hret _ _ _ _ hW dX6_mark_40
    · replace hk := ite_t hk c21
      refine lv_iload_n hx hb dX6_mark_15 rfl (lv_at hl 3 rfl) ?_
      refine lv_iconst (v := (0 : Int32)) hx hb dX6_mark_16 (by decide) ?_
      refine lv_bipush (v := (99 : Int32)) hx hb dX6_mark_17 (by decide) ?_
      refine cl_i (rn_S g_278 g_279 g_1 g_280 hd_X6_outside (Nat.le_of_ble_eq_true rfl) hx hb hml hown hg hK hW (As := [.int a3, .int (0 : Int32), .int (99 : Int32)]) (c_X6_outside l G a3 (0 : Int32) (99 : Int32) M) (by decide) rfl hl.1 rfl (Nat.le_of_ble_eq_true rfl) dX6_mark_19) hW (fun H locs hW => ?_)
      refine lv_if_ne (tgt := 33) hx hb dX6_mark_22 (by decide) (fun c20 => ?_) (fun c20 => ?_)
      · replace hk := ite_f hk c20
        refine lv_aload_n hx hb dX6_mark_33 rfl (lv_at hl 0 rfl) ?_
        refine lv_sipush (v := ((-1002) : Int32)) hx hb dX6_mark_34 (by decide) ?_
        replace hk := ob2_s hk
        obtain ⟨x8, M9, hx8, hk⟩ := hk
        refine cl_i (rn_V g_281 g_283 gs_0 g_1 g_284 hd_X6_refuseBad (Nat.le_of_ble_eq_true rfl) (ci := 6) rfl (inC kd_0 rfl) (shp6 kd_0) hx hb hml hown hg hK hW (As := [.int ((-1002) : Int32)]) (c_X6_refuseBad l G ((-1002) : Int32) M hx8) (by decide) rfl hl.1 rfl (Nat.le_of_ble_eq_true rfl) dX6_mark_37) hW (fun H locs hW => ?_)
        obtain ⟨rfl, rfl⟩ := sp2 hk
        exact hret _ _ _ _ hW dX6_mark_40
      · replace hk := ite_t hk c20
        refine lv_iload hx hb dX6_mark_25 (lv_at hl 4 rfl) ?_
        refine cl_i (rn_S g_583 g_584 g_1 g_585 hd_X6_notHigh (Nat.le_of_ble_eq_true rfl) hx hb hml hown hg hK hW (As := [.int a4]) (c_X6_notHigh l G a4 M) (by decide) rfl hl.1 rfl (Nat.le_of_ble_eq_true rfl) dX6_mark_27) hW (fun H locs hW => ?_)
        refine lv_if_eq (tgt := 41) hx hb dX6_mark_30 (by decide) (fun c19 => ?_) (fun c19 => ?_)
        · replace hk := ite_t hk c19
          refine lv_aload_n hx hb dX6_mark_41 rfl (lv_at hl 0 rfl) ?_
          refine gt_X6_10 hx hb hg hown hK hW kd_0 dX6_mark_42 ?_
          refine gt_X6_250 hx hb hg hown hK hW kd_1 dX6_mark_45 ?_
          refine cl_i (rn_VN n_646 g_648 gs_41 g_4 g_649 hd_X5_isFull (Nat.le_of_ble_eq_true rfl) (ci := 5) rfl (inC (k2_39 kd_1) rfl) (shp5 (k2_39 kd_1)) hx hb hml hown hg hK hW (As := []) (c_X5_isFull l G (k2_39 kd_1) M) (by decide) rfl hl.1 rfl (Nat.le_of_ble_eq_true rfl) dX6_mark_48) hW (fun H locs hW => ?_)
          refine lv_if_eq (tgt := 59) hx hb dX6_mark_51 (by decide) (fun c16 => ?_) (fun c16 => ?_)
          · replace hk := ite_t hk c16
            refine lv_aload_n hx hb dX6_mark_59 rfl (lv_at hl 0 rfl) ?_
            refine gt_X6_10 hx hb hg hown hK hW kd_0 dX6_mark_60 ?_
            refine gt_X6_250 hx hb hg hown hK hW kd_1 dX6_mark_63 ?_
            refine lv_iload_n hx hb dX6_mark_66 rfl (lv_at hl 1 rfl) ?_
            refine lv_iload_n hx hb dX6_mark_67 rfl (lv_at hl 2 rfl) ?_
            refine lv_iload_n hx hb dX6_mark_68 rfl (lv_at hl 3 rfl) ?_
            refine lv_iload hx hb dX6_mark_69 (lv_at hl 4 rfl) ?_
            refine lv_iconst (v := (0 : Int32)) hx hb dX6_mark_71 (by decide) ?_
            replace hk := ob2_s hk
            obtain ⟨x12, M13, hx12, hk⟩ := hk
            refine cl_i (rn_VN n_650 g_652 gs_42 g_4 g_653 hd_X5_append (Nat.le_of_ble_eq_true rfl) (ci := 5) rfl (inC (k2_39 kd_1) rfl) (shp5 (k2_39 kd_1)) hx hb hml hown hg hK hW (As := [.int a1, .int a2, .int a3, .int a4, .int (0 : Int32)]) (c_X5_append l G (k2_39 kd_1) a1 a2 a3 a4 (0 : Int32) M hx12) (by decide) rfl hl.1 rfl (Nat.le_of_ble_eq_true rfl) dX6_mark_72) hW (fun H locs hW => ?_)
            obtain ⟨rfl, rfl⟩ := sp2 hk
            exact hret _ _ _ _ hW dX6_mark_75
          · replace hk := ite_f hk c16
            refine lv_aload_n hx hb dX6_mark_54 rfl (lv_at hl 0 rfl) ?_
            replace hk := ob2_s hk
            obtain ⟨x14, M15, hx14, hk⟩ := hk
            refine cl_i (rn_V g_304 g_306 gs_4 g_1 g_307 hd_X6_refuseFull (Nat.le_of_ble_eq_true rfl) (ci := 6) rfl (inC kd_0 rfl) (shp6 kd_0) hx hb hml hown hg hK hW (As := []) (c_X6_refuseFull l G M hx14) (by decide) rfl hl.1 rfl (Nat.le_of_ble_eq_true rfl) dX6_mark_55) hW (fun H locs hW => ?_)
            obtain ⟨rfl, rfl⟩ := sp2 hk
            exact hret _ _ _ _ hW dX6_mark_58
        · replace hk := ite_f hk c19
          refine lv_aload_n hx hb dX6_mark_33 rfl (lv_at hl 0 rfl) ?_
          refine lv_sipush (v := ((-1002) : Int32)) hx hb dX6_mark_34 (by decide) ?_
          replace hk := ob2_s hk
          obtain ⟨x17, M18, hx17, hk⟩ := hk
          refine cl_i (rn_V g_281 g_283 gs_0 g_1 g_284 hd_X6_refuseBad (Nat.le_of_ble_eq_true rfl) (ci := 6) rfl (inC kd_0 rfl) (shp6 kd_0) hx hb hml hown hg hK hW (As := [.int ((-1002) : Int32)]) (c_X6_refuseBad l G ((-1002) : Int32) M hx17) (by decide) rfl hl.1 rfl (Nat.le_of_ble_eq_true rfl) dX6_mark_37) hW (fun H locs hW => ?_)
          obtain ⟨rfl, rfl⟩ := sp2 hk
          exact hret _ _ _ _ hW dX6_mark_40
def f_X6_forget (a1 : Int32) (M : Mem) : Option (Int32 × Mem) :=
  if a1 = (0 : Int32) then (
    ob2 (f_X5_drain (1 + 35) M) (fun x1 M2 =>
    some (x1, M2)))
  else (
  if a1 = (1 : Int32) then (
    ob2 (f_X5_drain (1 + 37) M) (fun x3 M4 =>
    some (x3, M4)))
  else (
  if a1 = (2 : Int32) then (
    ob2 (f_X5_drain (1 + 39) M) (fun x5 M6 =>
    some (x5, M6)))
  else (
    ob2 (f_X6_refuseBad ((-1002) : Int32) M) (fun x7 M8 =>
    some (x7, M8)))))
set_option maxHeartbeats 4000000 in
set_option maxRecDepth 100000 in
theorem c_X6_forget (l : Launch) (G : GT) (a1 : Int32) (M : Mem) {r : Int32} {M' : Mem} (hk : f_X6_forget a1 M = some (r, M')) : CMi l G true yX6_forget cX6_forget 2 (some .int) 1 [.ref (ad G 0), .int a1] M r M' := by
  unfold f_X6_forget at hk
  refine CMi.of (by decide) (Nat.le_of_ble_eq_true rfl) ?_
  intro p e s m args below meth c Q hx hb hml hown hg hK hW hret ls hl
  have hl : lv_has ls 2 [(0, .ref (ad G 0)), (1, .int a1)] := hl
  refine lv_iload_n hx hb dX6_forget_0 rfl (lv_at hl 1 rfl) ?_
  by_cases c9 : a1 = (0 : Int32)
  · replace hk := ite_t hk c9
    refine lv_tableIn (tgt := 28) hx hb dX6_forget_1 (by rw [c9]; decide) (by rw [c9]; decide) (by rw [c9]; rfl) (by decide) ?_
    refine lv_aload_n hx hb dX6_forget_28 rfl (lv_at hl 0 rfl) ?_
    refine gt_X6_10 hx hb hg hown hK hW kd_0 dX6_forget_29 ?_
    refine gt_X6_218 hx hb hg hown hK hW kd_1 dX6_forget_32 ?_
    replace hk := ob2_s hk
    obtain ⟨x1, M2, hx1, hk⟩ := hk
    refine cl_i (rn_VN n_716 g_298 gs_3 g_4 g_299 hd_X5_drain (Nat.le_of_ble_eq_true rfl) (ci := 5) rfl (inC (k2_35 kd_1) rfl) (shp5 (k2_35 kd_1)) hx hb hml hown hg hK hW (As := []) (c_X5_drain l G (k2_35 kd_1) M hx1) (by decide) rfl hl.1 rfl (Nat.le_of_ble_eq_true rfl) dX6_forget_35) hW (fun H locs hW => ?_)
    obtain ⟨rfl, rfl⟩ := sp2 hk
    exact hret _ _ _ _ hW dX6_forget_38
  replace hk := ite_f hk c9
  have c9_0 := c9
  by_cases c9 : a1 = (1 : Int32)
  · replace hk := ite_t hk c9
    refine lv_tableIn (tgt := 39) hx hb dX6_forget_1 (by rw [c9]; decide) (by rw [c9]; decide) (by rw [c9]; rfl) (by decide) ?_
    refine lv_aload_n hx hb dX6_forget_39 rfl (lv_at hl 0 rfl) ?_
    refine gt_X6_10 hx hb hg hown hK hW kd_0 dX6_forget_40 ?_
    refine gt_X6_247 hx hb hg hown hK hW kd_1 dX6_forget_43 ?_
    replace hk := ob2_s hk
    obtain ⟨x3, M4, hx3, hk⟩ := hk
    refine cl_i (rn_VN n_716 g_298 gs_3 g_4 g_299 hd_X5_drain (Nat.le_of_ble_eq_true rfl) (ci := 5) rfl (inC (k2_37 kd_1) rfl) (shp5 (k2_37 kd_1)) hx hb hml hown hg hK hW (As := []) (c_X5_drain l G (k2_37 kd_1) M hx3) (by decide) rfl hl.1 rfl (Nat.le_of_ble_eq_true rfl) dX6_forget_46) hW (fun H locs hW => ?_)
    obtain ⟨rfl, rfl⟩ := sp2 hk
    exact hret _ _ _ _ hW dX6_forget_49
  replace hk := ite_f hk c9
  have c9_1 := c9
  by_cases c9 : a1 = (2 : Int32)
  · replace hk := ite_t hk c9
    refine lv_tableIn (tgt := 50) hx hb dX6_forget_1 (by rw [c9]; decide) (by rw [c9]; decide) (by rw [c9]; rfl) (by decide) ?_
    refine lv_aload_n hx hb dX6_forget_50 rfl (lv_at hl 0 rfl) ?_
    refine gt_X6_10 hx hb hg hown hK hW kd_0 dX6_forget_51 ?_
    refine gt_X6_250 hx hb hg hown hK hW kd_1 dX6_forget_54 ?_
    replace hk := ob2_s hk
    obtain ⟨x5, M6, hx5, hk⟩ := hk
    refine cl_i (rn_VN n_716 g_298 gs_3 g_4 g_299 hd_X5_drain (Nat.le_of_ble_eq_true rfl) (ci := 5) rfl (inC (k2_39 kd_1) rfl) (shp5 (k2_39 kd_1)) hx hb hml hown hg hK hW (As := []) (c_X5_drain l G (k2_39 kd_1) M hx5) (by decide) rfl hl.1 rfl (Nat.le_of_ble_eq_true rfl) dX6_forget_57) hW (fun H locs hW => ?_)
    obtain ⟨rfl, rfl⟩ := sp2 hk
    exact hret _ _ _ _ hW dX6_forget_60
  replace hk := ite_f hk c9
  have c9_2 := c9
  refine lv_tableOut (tgt := 61) hx hb dX6_forget_1 (by have q0 := lv_neT c9_0 (a := 0) (by decide); have q1 := lv_neT c9_1 (a := 1) (by decide); have q2 := lv_neT c9_2 (a := 2) (by decide); omega) (by decide) ?_
  refine lv_aload_n hx hb dX6_forget_61 rfl (lv_at hl 0 rfl) ?_
  refine lv_sipush (v := ((-1002) : Int32)) hx hb dX6_forget_62 (by decide) ?_
  replace hk := ob2_s hk
  obtain ⟨x7, M8, hx7, hk⟩ := hk
  refine cl_i (rn_V g_281 g_283 gs_0 g_1 g_284 hd_X6_refuseBad (Nat.le_of_ble_eq_true rfl) (ci := 6) rfl (inC kd_0 rfl) (shp6 kd_0) hx hb hml hown hg hK hW (As := [.int ((-1002) : Int32)]) (c_X6_refuseBad l G ((-1002) : Int32) M hx7) (by decide) rfl hl.1 rfl (Nat.le_of_ble_eq_true rfl) dX6_forget_65) hW (fun H locs hW => ?_)
  obtain ⟨rfl, rfl⟩ := sp2 hk
  exact hret _ _ _ _ hW dX6_forget_68
def f_X6_fitsNotes_L11 (a1 : Int32) (a2 : Int32) (M : Mem) : Nat → Int32 → Option ((Int32) ⊕ (Int32))
  | 0, _ => none
  | n + 1, x1 =>
    if (M.1 (1 + 37) 3) ≤ x1 then (
      some (Sum.inl x1))
    else (
      ob (f_X5_value (1 + 37) x1 (0 : Int32) M) (fun x3 =>
      if x3 = a1 then (
        ob (f_X5_value (1 + 37) x1 (1 : Int32) M) (fun x5 =>
        ob (f_X5_value (1 + 37) x1 (2 : Int32) M) (fun x6 =>
        ob (f_X5_value (1 + 37) x1 (3 : Int32) M) (fun x7 =>
        ob (f_X5_value (1 + 37) x1 (4 : Int32) M) (fun x9 =>
        if (f_X6_dropOf a2 x5 x6 x7) = x9 then (
          lq (x1 + (1 : Int32)) (fun x10 =>
          f_X6_fitsNotes_L11 a1 a2 M n x10))
        else (
          some (Sum.inr (0 : Int32))))))))
      else (
        lq (x1 + (1 : Int32)) (fun x4 =>
        f_X6_fitsNotes_L11 a1 a2 M n x4))))
def f_X6_fitsNotes (a1 : Int32) (a2 : Int32) (M : Mem) : Option (Int32) :=
  oeT1 (f_X6_fitsNotes_L11 a1 a2 M FU (0 : Int32)) (fun x2 =>
  some (1 : Int32))
set_option maxHeartbeats 4000000 in
set_option maxRecDepth 100000 in
theorem c_X6_fitsNotes (l : Launch) (G : GT) (a1 : Int32) (a2 : Int32) (M : Mem) {r : Int32} (hk : f_X6_fitsNotes a1 a2 M = some r) : CMi l G true yX6_fitsNotes cX6_fitsNotes 5 (some .boolean) 2 [.ref (ad G 0), .int a1, .int a2] M r M := by
  unfold f_X6_fitsNotes at hk
  refine CMi.ofZ (by decide) (Nat.le_of_ble_eq_true rfl) ?_
  intro p e s m args below meth c Q hx hb hml hown hg hK hW hret ls hl
  have hl : lv_has ls 5 [(0, .ref (ad G 0)), (1, .int a1), (2, .int a2)] := hl
  refine lv_aload_n hx hb dX6_fitsNotes_0 rfl (lv_at hl 0 rfl) ?_
  refine gt_X6_10 hx hb hg hown hK hW kd_0 dX6_fitsNotes_1 ?_
  refine gt_X6_247 hx hb hg hown hK hW kd_1 dX6_fitsNotes_4 ?_
  refine lv_astore_n (lv' := [(3, .ref (ad G (1 + 37))), (0, .ref (ad G 0)), (1, .int a1), (2, .int a2)]) hx hb dX6_fitsNotes_7 rfl hl (by decide) rfl (fun ls hl => ?_)
  refine lv_iconst (v := (0 : Int32)) hx hb dX6_fitsNotes_8 (by decide) ?_
  refine lv_istore (lv' := [(4, .int (0 : Int32)), (3, .ref (ad G (1 + 37))), (0, .ref (ad G 0)), (1, .int a1), (2, .int a2)]) hx hb dX6_fitsNotes_9 hl (by decide) rfl (fun ls hl => ?_)
  replace hk := oeT1_s hk
  obtain ⟨z15, hz14, hk_11⟩ := hk
  have KX11 : ∀ (x2 : Int32), z15 = Sum.inl x2 → ∀ (H : Heap) (locs : List Loc) (ls : Array Slot), Ws G true M s H locs → lv_has ls 5 [] → Wx p l e 2 s m args below meth c Q H locs 74 ls [] := by
    intro x2 ez H locs ls hW hl
    have hk := hk_11.1 x2 ez
    refine lv_iconst (v := (1 : Int32)) hx hb dX6_fitsNotes_74 (by decide) ?_
    obtain rfl := Option.some.inj hk
    exact hret _ _ _ _ (Or.inr rfl) hW dX6_fitsNotes_75
  have LH11 : ∀ (n : Nat) (x1 : Int32) (H : Heap) (locs : List Loc) (ls : Array Slot), f_X6_fitsNotes_L11 a1 a2 M n x1 = some z15 → Ws G true M s H locs → lv_has ls 5 [(1, .int a1), (2, .int a2), (3, .ref (ad G (1 + 37))), (4, .int x1)] → Wx p l e 2 s m args below meth c Q H locs 11 ls [] := by
    clear hz14
    intro n
    induction n with
    | zero => intro _ _ _ _ hk; cases hk
    | succ n ih11 =>
      intro x1 H locs ls hk hW hl
      rw [f_X6_fitsNotes_L11.eq_2] at hk
      refine lv_iload hx hb dX6_fitsNotes_11 (lv_at hl 3 rfl) ?_
      refine lv_aload_n hx hb dX6_fitsNotes_13 rfl (lv_at hl 2 rfl) ?_
      refine gt_X6_325 hx hb hg hown hK hW (k2_37 kd_1) dX6_fitsNotes_14 ?_
      refine lv_icmp_ge (tgt := 74) hx hb dX6_fitsNotes_17 (by decide) (fun c13 => ?_) (fun c13 => ?_)
      · replace hk := ite_t hk c13
        obtain rfl := Option.some.inj hk
        exact KX11 _ rfl _ _ _ hW (lv_sub hl [] rfl)
      · replace hk := ite_f hk c13
        refine lv_aload_n hx hb dX6_fitsNotes_20 rfl (lv_at hl 2 rfl) ?_
        refine lv_iload hx hb dX6_fitsNotes_21 (lv_at hl 3 rfl) ?_
        refine lv_iconst (v := (0 : Int32)) hx hb dX6_fitsNotes_23 (by decide) ?_
        replace hk := ob_s hk
        obtain ⟨x3, hx3, hk⟩ := hk
        refine cl_i (rn_VN n_667 g_669 gs_45 g_4 g_670 hd_X5_value (Nat.le_of_ble_eq_true rfl) (ci := 5) rfl (inC (k2_37 kd_1) rfl) (shp5 (k2_37 kd_1)) hx hb hml hown hg hK hW (As := [.int x1, .int (0 : Int32)]) (c_X5_value l G (k2_37 kd_1) x1 (0 : Int32) M hx3) (by decide) rfl hl.1 rfl (Nat.le_of_ble_eq_true rfl) dX6_fitsNotes_24) hW (fun H locs hW => ?_)
        refine lv_iload_n hx hb dX6_fitsNotes_27 rfl (lv_at hl 0 rfl) ?_
        refine lv_icmp_ne (tgt := 68) hx hb dX6_fitsNotes_28 (by decide) (fun c12 => ?_) (fun c12 => ?_)
        · replace hk := ite_f hk c12
          replace hk := lq_s hk
          obtain ⟨x4, ex4, hk⟩ := hk
          refine lv_iinc (v := x4) (lv' := [(4, .int x4), (1, .int a1), (2, .int a2), (3, .ref (ad G (1 + 37)))]) hx hb dX6_fitsNotes_68 hl (k := 3) rfl (by rw [ex4]; rfl) (by decide) rfl (fun ls hl => ?_)
          refine lv_goto (tgt := 11) hx hb dX6_fitsNotes_71 (by decide) ?_
          exact ih11 _ _ _ _ hk hW (lv_sub hl [1, 2, 3, 0] rfl)
        · replace hk := ite_t hk c12
          refine lv_iload_n hx hb dX6_fitsNotes_31 rfl (lv_at hl 1 rfl) ?_
          refine lv_aload_n hx hb dX6_fitsNotes_32 rfl (lv_at hl 2 rfl) ?_
          refine lv_iload hx hb dX6_fitsNotes_33 (lv_at hl 3 rfl) ?_
          refine lv_iconst (v := (1 : Int32)) hx hb dX6_fitsNotes_35 (by decide) ?_
          replace hk := ob_s hk
          obtain ⟨x5, hx5, hk⟩ := hk
          refine cl_i (rn_VN n_667 g_669 gs_45 g_4 g_670 hd_X5_value (Nat.le_of_ble_eq_true rfl) (ci := 5) rfl (inC (k2_37 kd_1) rfl) (shp5 (k2_37 kd_1)) hx hb hml hown hg hK hW (As := [.int x1, .int (1 : Int32)]) (c_X5_value l G (k2_37 kd_1) x1 (1 : Int32) M hx5) (by decide) rfl hl.1 rfl (Nat.le_of_ble_eq_true rfl) dX6_fitsNotes_36) hW (fun H locs hW => ?_)
          refine lv_aload_n hx hb dX6_fitsNotes_39 rfl (lv_at hl 2 rfl) ?_
          refine lv_iload hx hb dX6_fitsNotes_40 (lv_at hl 3 rfl) ?_
          refine lv_iconst (v := (2 : Int32)) hx hb dX6_fitsNotes_42 (by decide) ?_
          replace hk := ob_s hk
          obtain ⟨x6, hx6, hk⟩ := hk
          refine cl_i (rn_VN n_667 g_669 gs_45 g_4 g_670 hd_X5_value (Nat.le_of_ble_eq_true rfl) (ci := 5) rfl (inC (k2_37 kd_1) rfl) (shp5 (k2_37 kd_1)) hx hb hml hown hg hK hW (As := [.int x1, .int (2 : Int32)]) (c_X5_value l G (k2_37 kd_1) x1 (2 : Int32) M hx6) (by decide) rfl hl.1 rfl (Nat.le_of_ble_eq_true rfl) dX6_fitsNotes_43) hW (fun H locs hW => ?_)
          refine lv_aload_n hx hb dX6_fitsNotes_46 rfl (lv_at hl 2 rfl) ?_
          refine lv_iload hx hb dX6_fitsNotes_47 (lv_at hl 3 rfl) ?_
          refine lv_iconst (v := (3 : Int32)) hx hb dX6_fitsNotes_49 (by decide) ?_
          replace hk := ob_s hk
          obtain ⟨x7, hx7, hk⟩ := hk
          refine cl_i (rn_VN n_667 g_669 gs_45 g_4 g_670 hd_X5_value (Nat.le_of_ble_eq_true rfl) (ci := 5) rfl (inC (k2_37 kd_1) rfl) (shp5 (k2_37 kd_1)) hx hb hml hown hg hK hW (As := [.int x1, .int (3 : Int32)]) (c_X5_value l G (k2_37 kd_1) x1 (3 : Int32) M hx7) (by decide) rfl hl.1 rfl (Nat.le_of_ble_eq_true rfl) dX6_fitsNotes_50) hW (fun H locs hW => ?_)
          refine cl_i (rn_S g_676 g_559 g_1 g_560 hd_X6_dropOf (Nat.le_of_ble_eq_true rfl) hx hb hml hown hg hK hW (As := [.int a2, .int x5, .int x6, .int x7]) (c_X6_dropOf l G a2 x5 x6 x7 M) (by decide) rfl hl.1 rfl (Nat.le_of_ble_eq_true rfl) dX6_fitsNotes_53) hW (fun H locs hW => ?_)
          refine lv_aload_n hx hb dX6_fitsNotes_56 rfl (lv_at hl 2 rfl) ?_
          refine lv_iload hx hb dX6_fitsNotes_57 (lv_at hl 3 rfl) ?_
          refine lv_iconst (v := (4 : Int32)) hx hb dX6_fitsNotes_59 (by decide) ?_
          replace hk := ob_s hk
          obtain ⟨x9, hx9, hk⟩ := hk
          refine cl_i (rn_VN n_667 g_669 gs_45 g_4 g_670 hd_X5_value (Nat.le_of_ble_eq_true rfl) (ci := 5) rfl (inC (k2_37 kd_1) rfl) (shp5 (k2_37 kd_1)) hx hb hml hown hg hK hW (As := [.int x1, .int (4 : Int32)]) (c_X5_value l G (k2_37 kd_1) x1 (4 : Int32) M hx9) (by decide) rfl hl.1 rfl (Nat.le_of_ble_eq_true rfl) dX6_fitsNotes_60) hW (fun H locs hW => ?_)
          refine lv_icmp_eq (tgt := 68) hx hb dX6_fitsNotes_63 (by decide) (fun c11 => ?_) (fun c11 => ?_)
          · replace hk := ite_t hk c11
            replace hk := lq_s hk
            obtain ⟨x10, ex10, hk⟩ := hk
            refine lv_iinc (v := x10) (lv' := [(4, .int x10), (1, .int a1), (2, .int a2), (3, .ref (ad G (1 + 37)))]) hx hb dX6_fitsNotes_68 hl (k := 3) rfl (by rw [ex10]; rfl) (by decide) rfl (fun ls hl => ?_)
            refine lv_goto (tgt := 11) hx hb dX6_fitsNotes_71 (by decide) ?_
            exact ih11 _ _ _ _ hk hW (lv_sub hl [1, 2, 3, 0] rfl)
          · replace hk := ite_f hk c11
            refine lv_iconst (v := (0 : Int32)) hx hb dX6_fitsNotes_66 (by decide) ?_
            obtain rfl := Option.some.inj hk
            have hk := hk_11.2 _ rfl
            obtain rfl := Option.some.inj hk
            exact hret _ _ _ _ (Or.inl rfl) hW dX6_fitsNotes_67
  exact LH11 FU _ _ _ _ hz14 hW (lv_sub hl [3, 4, 1, 0] rfl)
def f_X6_fittingStrings_L4 (a1 : Int32) (M : Mem) : Nat → Int32 → Int32 → Option (Int32)
  | 0, _, _ => none
  | n + 1, x1, x2 =>
    if (6 : Int32) ≤ x2 then (
      some x1)
    else (
      ob (f_X6_fitsNotes a1 x2 M) (fun x4 =>
      lq (
        if x4 = (0 : Int32) then (
          x1)
        else (
          lq (x1 ||| ((1 : Int32) <<< (x2 &&& 31))) (fun x5 =>
          x5)))
       (fun x7 =>
      lq (x2 + (1 : Int32)) (fun x8 =>
      f_X6_fittingStrings_L4 a1 M n x7 x8))))
def f_X6_fittingStrings (a1 : Int32) (M : Mem) : Option (Int32) :=
  ob (f_X6_fittingStrings_L4 a1 M FU (0 : Int32) (0 : Int32)) (fun x3 =>
  some x3)
set_option maxHeartbeats 4000000 in
set_option maxRecDepth 100000 in
theorem c_X6_fittingStrings (l : Launch) (G : GT) (a1 : Int32) (M : Mem) {r : Int32} (hk : f_X6_fittingStrings a1 M = some r) : CMi l G true yX6_fittingStrings cX6_fittingStrings 4 (some .int) 3 [.ref (ad G 0), .int a1] M r M := by
  unfold f_X6_fittingStrings at hk
  refine CMi.of (by decide) (Nat.le_of_ble_eq_true rfl) ?_
  intro p e s m args below meth c Q hx hb hml hown hg hK hW hret ls hl
  have hl : lv_has ls 4 [(0, .ref (ad G 0)), (1, .int a1)] := hl
  refine lv_iconst (v := (0 : Int32)) hx hb dX6_fittingStrings_0 (by decide) ?_
  refine lv_istore_n (lv' := [(2, .int (0 : Int32)), (0, .ref (ad G 0)), (1, .int a1)]) hx hb dX6_fittingStrings_1 rfl hl (by decide) rfl (fun ls hl => ?_)
  refine lv_iconst (v := (0 : Int32)) hx hb dX6_fittingStrings_2 (by decide) ?_
  refine lv_istore_n (lv' := [(3, .int (0 : Int32)), (2, .int (0 : Int32)), (0, .ref (ad G 0)), (1, .int a1)]) hx hb dX6_fittingStrings_3 rfl hl (by decide) rfl (fun ls hl => ?_)
  replace hk := ob_s hk
  obtain ⟨x3, hz12, hk⟩ := hk
  have KX4 : ∀ (H : Heap) (locs : List Loc) (ls : Array Slot), Ws G true M s H locs → lv_has ls 4 [(2, .int x3)] → Wx p l e 3 s m args below meth c Q H locs 31 ls [] := by
    intro H locs ls hW hl
    refine lv_iload_n hx hb dX6_fittingStrings_31 rfl (lv_at hl 0 rfl) ?_
    obtain rfl := Option.some.inj hk
    exact hret _ _ _ _ hW dX6_fittingStrings_32
  clear hk
  have LH4 : ∀ (n : Nat) (x1 : Int32) (x2 : Int32) (H : Heap) (locs : List Loc) (ls : Array Slot), f_X6_fittingStrings_L4 a1 M n x1 x2 = some x3 → Ws G true M s H locs → lv_has ls 4 [(0, .ref (ad G 0)), (1, .int a1), (2, .int x1), (3, .int x2)] → Wx p l e 3 s m args below meth c Q H locs 4 ls [] := by
    clear hz12
    intro n
    induction n with
    | zero => intro _ _ _ _ _ hk; cases hk
    | succ n ih4 =>
      intro x1 x2 H locs ls hk hW hl
      rw [f_X6_fittingStrings_L4.eq_2] at hk
      refine lv_iload_n hx hb dX6_fittingStrings_4 rfl (lv_at hl 3 rfl) ?_
      refine lv_bipush (v := (6 : Int32)) hx hb dX6_fittingStrings_5 (by decide) ?_
      refine lv_icmp_ge (tgt := 31) hx hb dX6_fittingStrings_7 (by decide) (fun c11 => ?_) (fun c11 => ?_)
      · replace hk := ite_t hk c11
        obtain rfl := Option.some.inj hk
        exact KX4 _ _ _ hW (lv_sub hl [2] rfl)
      · replace hk := ite_f hk c11
        refine lv_aload_n hx hb dX6_fittingStrings_10 rfl (lv_at hl 0 rfl) ?_
        refine lv_iload_n hx hb dX6_fittingStrings_11 rfl (lv_at hl 1 rfl) ?_
        refine lv_iload_n hx hb dX6_fittingStrings_12 rfl (lv_at hl 3 rfl) ?_
        replace hk := ob_s hk
        obtain ⟨x4, hx4, hk⟩ := hk
        refine cl_i (rn_V g_725 g_727 gs_49 g_1 g_728 hd_X6_fitsNotes (Nat.le_of_ble_eq_true rfl) (ci := 6) rfl (inC kd_0 rfl) (shp6 kd_0) hx hb hml hown hg hK hW (As := [.int a1, .int x2]) (c_X6_fitsNotes l G a1 x2 M hx4) (by decide) rfl hl.1 rfl (Nat.le_of_ble_eq_true rfl) dX6_fittingStrings_13) hW (fun H locs hW => ?_)
        replace hk := lq_s hk
        obtain ⟨x7, hr10, hk⟩ := hk
        have KJ9 : ∀ (H : Heap) (locs : List Loc) (ls : Array Slot), Ws G true M s H locs → lv_has ls 4 [(0, .ref (ad G 0)), (1, .int a1), (2, .int x7), (3, .int x2)] → Wx p l e 3 s m args below meth c Q H locs 25 ls [] := by
          intro H locs ls hW hl
          replace hk := lq_s hk
          obtain ⟨x8, ex8, hk⟩ := hk
          refine lv_iinc (v := x8) (lv' := [(3, .int x8), (0, .ref (ad G 0)), (1, .int a1), (2, .int x7)]) hx hb dX6_fittingStrings_25 hl (k := 3) rfl (by rw [ex8]; rfl) (by decide) rfl (fun ls hl => ?_)
          refine lv_goto (tgt := 4) hx hb dX6_fittingStrings_28 (by decide) ?_
          exact ih4 _ _ _ _ _ hk hW (lv_sub hl [1, 2, 3, 0] rfl)
        clear hk
        have hk := hr10.symm
        clear hr10
        refine lv_if_eq (tgt := 25) hx hb dX6_fittingStrings_16 (by decide) (fun c6 => ?_) (fun c6 => ?_)
        · replace hk := ite_t hk c6
          subst hk
          exact KJ9 _ _ _ hW (lv_sub hl [0, 1, 2, 3] rfl)
        · replace hk := ite_f hk c6
          refine lv_iload_n hx hb dX6_fittingStrings_19 rfl (lv_at hl 2 rfl) ?_
          refine lv_iconst (v := (1 : Int32)) hx hb dX6_fittingStrings_20 (by decide) ?_
          refine lv_iload_n hx hb dX6_fittingStrings_21 rfl (lv_at hl 3 rfl) ?_
          refine lv_ishl hx hb dX6_fittingStrings_22 ?_
          refine lv_ior hx hb dX6_fittingStrings_23 ?_
          replace hk := lq_s hk
          obtain ⟨x5, ex5, hk⟩ := hk
          refine nm_i ex5 ?_
          refine lv_istore_n (lv' := [(2, .int x5), (0, .ref (ad G 0)), (1, .int a1), (3, .int x2)]) hx hb dX6_fittingStrings_24 rfl hl (by decide) rfl (fun ls hl => ?_)
          subst hk
          exact KJ9 _ _ _ hW (lv_sub hl [1, 2, 0, 3] rfl)
  exact LH4 FU _ _ _ _ _ hz12 hW (lv_sub hl [2, 3, 1, 0] rfl)
def f_X6_is (a1 : Int32) (M : Mem) : Option (Int32 × Mem) :=
  if (f_X6_noLimb a1 M) = (0 : Int32) then (
    ob (f_X6_fittingStrings a1 M) (fun x2 =>
    some (x2, M)))
  else (
    ob2 (f_X6_refuseBad ((-1002) : Int32) M) (fun x3 M4 =>
    some (x3, M4)))
set_option maxHeartbeats 4000000 in
set_option maxRecDepth 100000 in
theorem c_X6_is (l : Launch) (G : GT) (a1 : Int32) (M : Mem) {r : Int32} {M' : Mem} (hk : f_X6_is a1 M = some (r, M')) : CMi l G true yX6_is cX6_is 2 (some .int) 4 [.ref (ad G 0), .int a1] M r M' := by
  unfold f_X6_is at hk
  refine CMi.of (by decide) (Nat.le_of_ble_eq_true rfl) ?_
  intro p e s m args below meth c Q hx hb hml hown hg hK hW hret ls hl
  have hl : lv_has ls 2 [(0, .ref (ad G 0)), (1, .int a1)] := hl
  refine lv_aload_n hx hb dX6_is_0 rfl (lv_at hl 0 rfl) ?_
  refine lv_iload_n hx hb dX6_is_1 rfl (lv_at hl 1 rfl) ?_
  refine cl_i (rn_V g_514 g_516 gs_30 g_1 g_517 hd_X6_noLimb (Nat.le_of_ble_eq_true rfl) (ci := 6) rfl (inC kd_0 rfl) (shp6 kd_0) hx hb hml hown hg hK hW (As := [.int a1]) (c_X6_noLimb l G a1 M) (by decide) rfl hl.1 rfl (Nat.le_of_ble_eq_true rfl) dX6_is_2) hW (fun H locs hW => ?_)
  refine lv_if_eq (tgt := 16) hx hb dX6_is_5 (by decide) (fun c5 => ?_) (fun c5 => ?_)
  · replace hk := ite_t hk c5
    refine lv_aload_n hx hb dX6_is_16 rfl (lv_at hl 0 rfl) ?_
    refine lv_iload_n hx hb dX6_is_17 rfl (lv_at hl 1 rfl) ?_
    replace hk := ob_s hk
    obtain ⟨x2, hx2, hk⟩ := hk
    refine cl_i (rn_V g_721 g_723 gs_48 g_1 g_724 hd_X6_fittingStrings (Nat.le_of_ble_eq_true rfl) (ci := 6) rfl (inC kd_0 rfl) (shp6 kd_0) hx hb hml hown hg hK hW (As := [.int a1]) (c_X6_fittingStrings l G a1 M hx2) (by decide) rfl hl.1 rfl (Nat.le_of_ble_eq_true rfl) dX6_is_18) hW (fun H locs hW => ?_)
    obtain ⟨rfl, rfl⟩ := sp2 hk
    exact hret _ _ _ _ hW dX6_is_21
  · replace hk := ite_f hk c5
    refine lv_aload_n hx hb dX6_is_8 rfl (lv_at hl 0 rfl) ?_
    refine lv_sipush (v := ((-1002) : Int32)) hx hb dX6_is_9 (by decide) ?_
    replace hk := ob2_s hk
    obtain ⟨x3, M4, hx3, hk⟩ := hk
    refine cl_i (rn_V g_281 g_283 gs_0 g_1 g_284 hd_X6_refuseBad (Nat.le_of_ble_eq_true rfl) (ci := 6) rfl (inC kd_0 rfl) (shp6 kd_0) hx hb hml hown hg hK hW (As := [.int ((-1002) : Int32)]) (c_X6_refuseBad l G ((-1002) : Int32) M hx3) (by decide) rfl hl.1 rfl (Nat.le_of_ble_eq_true rfl) dX6_is_12) hW (fun H locs hW => ?_)
    obtain ⟨rfl, rfl⟩ := sp2 hk
    exact hret _ _ _ _ hW dX6_is_15
def f_X6_alikeByDrop_L6 (a1 : Int32) (a2 : Int32) (a3 : Int32) (a4 : Int32) : Nat → Int32 → Int32 → Mem → Option (Int32 × Mem)
  | 0, _, _, _ => none
  | n + 1, x1, x2, M3 =>
    if (6 : Int32) ≤ x2 then (
      some (x1, M3))
    else (
      ob2 (
        if (f_X6_hasBit a1 x2) = (0 : Int32) then (
          some (x1, M3))
        else (
          ob (f_X6_put 175 x1 (f_X6_dropOf x2 a2 a3 a4) M3) (fun M9 =>
          lq (x1 + (1 : Int32)) (fun x10 =>
          some (x10, M9)))))
       (fun x12 M13 =>
      lq (x2 + (1 : Int32)) (fun x14 =>
      f_X6_alikeByDrop_L6 a1 a2 a3 a4 n x12 x14 M13)))
def f_X6_alikeByDrop (a1 : Int32) (a2 : Int32) (a3 : Int32) (a4 : Int32) (M : Mem) : Option (Int32 × Mem) :=
  ob2 (f_X6_alikeByDrop_L6 a1 a2 a3 a4 FU (0 : Int32) (0 : Int32) M) (fun x4 M5 =>
  ob (f_X6_mostAlike 175 x4 M5) (fun x18 =>
  some (x18, M5)))
set_option maxHeartbeats 4000000 in
set_option maxRecDepth 100000 in
theorem c_X6_alikeByDrop (l : Launch) (G : GT) (a1 : Int32) (a2 : Int32) (a3 : Int32) (a4 : Int32) (M : Mem) {r : Int32} {M' : Mem} (hk : f_X6_alikeByDrop a1 a2 a3 a4 M = some (r, M')) : CMi l G true yX6_alikeByDrop cX6_alikeByDrop 7 (some .int) 2 [.ref (ad G 0), .int a1, .int a2, .int a3, .int a4] M r M' := by
  unfold f_X6_alikeByDrop at hk
  refine CMi.of (by decide) (Nat.le_of_ble_eq_true rfl) ?_
  intro p e s m args below meth c Q hx hb hml hown hg hK hW hret ls hl
  have hl : lv_has ls 7 [(0, .ref (ad G 0)), (1, .int a1), (2, .int a2), (3, .int a3), (4, .int a4)] := hl
  refine lv_iconst (v := (0 : Int32)) hx hb dX6_alikeByDrop_0 (by decide) ?_
  refine lv_istore (lv' := [(5, .int (0 : Int32)), (0, .ref (ad G 0)), (1, .int a1), (2, .int a2), (3, .int a3), (4, .int a4)]) hx hb dX6_alikeByDrop_1 hl (by decide) rfl (fun ls hl => ?_)
  refine lv_iconst (v := (0 : Int32)) hx hb dX6_alikeByDrop_3 (by decide) ?_
  refine lv_istore (lv' := [(6, .int (0 : Int32)), (5, .int (0 : Int32)), (0, .ref (ad G 0)), (1, .int a1), (2, .int a2), (3, .int a3), (4, .int a4)]) hx hb dX6_alikeByDrop_4 hl (by decide) rfl (fun ls hl => ?_)
  replace hk := ob2_s hk
  obtain ⟨x4, M5, hz19, hk⟩ := hk
  have KX6 : ∀ (H : Heap) (locs : List Loc) (ls : Array Slot), Ws G true M5 s H locs → lv_has ls 7 [(0, .ref (ad G 0)), (5, .int x4)] → Wx p l e 2 s m args below meth c Q H locs 49 ls [] := by
    intro H locs ls hW hl
    refine lv_aload_n hx hb dX6_alikeByDrop_49 rfl (lv_at hl 0 rfl) ?_
    refine gt_X6_60 hx hb hg hown hK hW kd_0 dX6_alikeByDrop_50 ?_
    refine lv_iload hx hb dX6_alikeByDrop_53 (lv_at hl 1 rfl) ?_
    replace hk := ob_s hk
    obtain ⟨x18, hx18, hk⟩ := hk
    refine cl_i (rn_S g_701 g_702 g_1 g_703 hd_X6_mostAlike (Nat.le_of_ble_eq_true rfl) hx hb hml hown hg hK hW (As := [.ref (ad G 175), .int x4]) (c_X6_mostAlike l G kd_175 x4 M5 hx18) (by decide) rfl hl.1 rfl (Nat.le_of_ble_eq_true rfl) dX6_alikeByDrop_55) hW (fun H locs hW => ?_)
    obtain ⟨rfl, rfl⟩ := sp2 hk
    exact hret _ _ _ _ hW dX6_alikeByDrop_58
  clear hk
  have LH6 : ∀ (n : Nat) (x1 : Int32) (x2 : Int32) (M3 : Mem) (H : Heap) (locs : List Loc) (ls : Array Slot), f_X6_alikeByDrop_L6 a1 a2 a3 a4 n x1 x2 M3 = some (x4, M5) → Ws G true M3 s H locs → lv_has ls 7 [(0, .ref (ad G 0)), (1, .int a1), (2, .int a2), (3, .int a3), (4, .int a4), (5, .int x1), (6, .int x2)] → Wx p l e 2 s m args below meth c Q H locs 6 ls [] := by
    clear hz19
    intro n
    induction n with
    | zero => intro _ _ _ _ _ _ hk; cases hk
    | succ n ih6 =>
      intro x1 x2 M3 H locs ls hk hW hl
      rw [f_X6_alikeByDrop_L6.eq_2] at hk
      refine lv_iload hx hb dX6_alikeByDrop_6 (lv_at hl 6 rfl) ?_
      refine lv_bipush (v := (6 : Int32)) hx hb dX6_alikeByDrop_8 (by decide) ?_
      refine lv_icmp_ge (tgt := 49) hx hb dX6_alikeByDrop_10 (by decide) (fun c17 => ?_) (fun c17 => ?_)
      · replace hk := ite_t hk c17
        obtain ⟨rfl, rfl⟩ := sp2 hk
        exact KX6 _ _ _ hW (lv_sub hl [0, 5] rfl)
      · replace hk := ite_f hk c17
        refine lv_iload_n hx hb dX6_alikeByDrop_13 rfl (lv_at hl 1 rfl) ?_
        refine lv_iload hx hb dX6_alikeByDrop_14 (lv_at hl 6 rfl) ?_
        refine cl_i (rn_S g_687 g_688 g_1 g_689 hd_X6_hasBit (Nat.le_of_ble_eq_true rfl) hx hb hml hown hg hK hW (As := [.int a1, .int x2]) (c_X6_hasBit l G a1 x2 M3) (by decide) rfl hl.1 rfl (Nat.le_of_ble_eq_true rfl) dX6_alikeByDrop_16) hW (fun H locs hW => ?_)
        replace hk := ob2_s hk
        obtain ⟨x12, M13, hr16, hk⟩ := hk
        have KJ15 : ∀ (H : Heap) (locs : List Loc) (ls : Array Slot), Ws G true M13 s H locs → lv_has ls 7 [(0, .ref (ad G 0)), (1, .int a1), (2, .int a2), (3, .int a3), (4, .int a4), (5, .int x12), (6, .int x2)] → Wx p l e 2 s m args below meth c Q H locs 43 ls [] := by
          intro H locs ls hW hl
          replace hk := lq_s hk
          obtain ⟨x14, ex14, hk⟩ := hk
          refine lv_iinc (v := x14) (lv' := [(6, .int x14), (0, .ref (ad G 0)), (1, .int a1), (2, .int a2), (3, .int a3), (4, .int a4), (5, .int x12)]) hx hb dX6_alikeByDrop_43 hl (k := 6) rfl (by rw [ex14]; rfl) (by decide) rfl (fun ls hl => ?_)
          refine lv_goto (tgt := 6) hx hb dX6_alikeByDrop_46 (by decide) ?_
          exact ih6 _ _ _ _ _ _ hk hW (lv_sub hl [1, 2, 3, 4, 5, 6, 0] rfl)
        clear hk
        have hk := hr16
        clear hr16
        refine lv_if_eq (tgt := 43) hx hb dX6_alikeByDrop_19 (by decide) (fun c11 => ?_) (fun c11 => ?_)
        · replace hk := ite_t hk c11
          obtain ⟨rfl, rfl⟩ := sp2 hk
          exact KJ15 _ _ _ hW (lv_sub hl [0, 1, 2, 3, 4, 5, 6] rfl)
        · replace hk := ite_f hk c11
          refine lv_aload_n hx hb dX6_alikeByDrop_22 rfl (lv_at hl 0 rfl) ?_
          refine gt_X6_60 hx hb hg hown hK hW kd_0 dX6_alikeByDrop_23 ?_
          refine lv_iload hx hb dX6_alikeByDrop_26 (lv_at hl 5 rfl) ?_
          refine lv_iload hx hb dX6_alikeByDrop_28 (lv_at hl 6 rfl) ?_
          refine lv_iload_n hx hb dX6_alikeByDrop_30 rfl (lv_at hl 2 rfl) ?_
          refine lv_iload_n hx hb dX6_alikeByDrop_31 rfl (lv_at hl 3 rfl) ?_
          refine lv_iload hx hb dX6_alikeByDrop_32 (lv_at hl 4 rfl) ?_
          refine cl_i (rn_S g_676 g_559 g_1 g_560 hd_X6_dropOf (Nat.le_of_ble_eq_true rfl) hx hb hml hown hg hK hW (As := [.int x2, .int a2, .int a3, .int a4]) (c_X6_dropOf l G x2 a2 a3 a4 M3) (by decide) rfl hl.1 rfl (Nat.le_of_ble_eq_true rfl) dX6_alikeByDrop_34) hW (fun H locs hW => ?_)
          replace hk := ob_s hk
          obtain ⟨M9, hx8, hk⟩ := hk
          refine cl_v (rn_S g_520 g_294 g_1 g_295 hd_X6_put (Nat.le_of_ble_eq_true rfl) hx hb hml hown hg hK hW (As := [.ref (ad G 175), .int x1, .int (f_X6_dropOf x2 a2 a3 a4)]) (c_X6_put l G kd_175 x1 (f_X6_dropOf x2 a2 a3 a4) M3 hx8) (by decide) rfl hl.1 rfl (Nat.le_of_ble_eq_true rfl) dX6_alikeByDrop_37) hW (fun H locs hW => ?_)
          replace hk := lq_s hk
          obtain ⟨x10, ex10, hk⟩ := hk
          refine lv_iinc (v := x10) (lv' := [(5, .int x10), (0, .ref (ad G 0)), (1, .int a1), (2, .int a2), (3, .int a3), (4, .int a4), (6, .int x2)]) hx hb dX6_alikeByDrop_40 hl (k := 5) rfl (by rw [ex10]; rfl) (by decide) rfl (fun ls hl => ?_)
          obtain ⟨rfl, rfl⟩ := sp2 hk
          exact KJ15 _ _ _ hW (lv_sub hl [1, 2, 3, 4, 5, 0, 6] rfl)
  exact LH6 FU _ _ _ _ _ _ hz19 hW (lv_sub hl [2, 3, 4, 5, 6, 1, 0] rfl)
def f_X6_look_L51 (a1 : Int32) (x2 : Int32) (x5 : Int32) : Nat → Int32 → Int32 → Int32 → Mem → Option (Int32 × Int32 × Mem)
  | 0, _, _, _, _ => none
  | n + 1, x9, x10, x11, M12 =>
    if (20 : Int32) < x11 then (
      some (x9, x10, M12))
    else (
      ob (f_X2_wornOf 1 a1 M12) (fun x16 =>
      ob2 (f_X6_alikeByDrop x2 x11 x5 x16 M12) (fun x17 M18 =>
      ob2 (
        if x10 ≤ x17 then (
          some (x9, x10))
        else (
          lq (((100 : Int32) * x5) + x11) (fun x19 =>
          some (x19, x17))))
       (fun x21 x22 =>
      lq (x11 + (1 : Int32)) (fun x23 =>
      f_X6_look_L51 a1 x2 x5 n x21 x22 x23 M18)))))
def f_X6_look_L41 (a1 : Int32) (x2 : Int32) : Nat → Int32 → Int32 → Int32 → Mem → Option (Int32 × Mem)
  | 0, _, _, _, _ => none
  | n + 1, x3, x4, x5, M6 =>
    if (9 : Int32) < x5 then (
      some (x3, M6))
    else (
      ob3 (f_X6_look_L51 a1 x2 x5 FU x3 x4 (1 : Int32) M6) (fun x13 x14 M15 =>
      lq (x5 + (1 : Int32)) (fun x27 =>
      f_X6_look_L41 a1 x2 n x13 x14 x27 M15)))
def f_X6_look (a1 : Int32) (M : Mem) : Option (Int32 × Mem) :=
  if (f_X6_noLimb a1 M) = (0 : Int32) then (
    ob (f_X6_fittingStrings a1 M) (fun x2 =>
    if x2 = (0 : Int32) then (
      some (((-1001) : Int32), M))
    else (
      ob2 (f_X6_look_L41 a1 x2 FU ((-1001) : Int32) (7 : Int32) (1 : Int32) M) (fun x7 M8 =>
      some (x7, M8)))))
  else (
    ob2 (f_X6_refuseBad ((-1002) : Int32) M) (fun x34 M35 =>
    some (x34, M35)))
set_option maxHeartbeats 4000000 in
set_option maxRecDepth 100000 in
theorem c_X6_look (l : Launch) (G : GT) (a1 : Int32) (M : Mem) {r : Int32} {M' : Mem} (hk : f_X6_look a1 M = some (r, M')) : CMi l G true yX6_look cX6_look 8 (some .int) 4 [.ref (ad G 0), .int a1] M r M' := by
  unfold f_X6_look at hk
  refine CMi.of (by decide) (Nat.le_of_ble_eq_true rfl) ?_
  intro p e s m args below meth c Q hx hb hml hown hg hK hW hret ls hl
  have hl : lv_has ls 8 [(0, .ref (ad G 0)), (1, .int a1)] := hl
  refine lv_aload_n hx hb dX6_look_0 rfl (lv_at hl 0 rfl) ?_
  refine lv_iload_n hx hb dX6_look_1 rfl (lv_at hl 1 rfl) ?_
  refine cl_i (rn_V g_514 g_516 gs_30 g_1 g_517 hd_X6_noLimb (Nat.le_of_ble_eq_true rfl) (ci := 6) rfl (inC kd_0 rfl) (shp6 kd_0) hx hb hml hown hg hK hW (As := [.int a1]) (c_X6_noLimb l G a1 M) (by decide) rfl hl.1 rfl (Nat.le_of_ble_eq_true rfl) dX6_look_2) hW (fun H locs hW => ?_)
  refine lv_if_eq (tgt := 16) hx hb dX6_look_5 (by decide) (fun c36 => ?_) (fun c36 => ?_)
  · replace hk := ite_t hk c36
    refine lv_aload_n hx hb dX6_look_16 rfl (lv_at hl 0 rfl) ?_
    refine lv_iload_n hx hb dX6_look_17 rfl (lv_at hl 1 rfl) ?_
    replace hk := ob_s hk
    obtain ⟨x2, hx2, hk⟩ := hk
    refine cl_i (rn_V g_721 g_723 gs_48 g_1 g_724 hd_X6_fittingStrings (Nat.le_of_ble_eq_true rfl) (ci := 6) rfl (inC kd_0 rfl) (shp6 kd_0) hx hb hml hown hg hK hW (As := [.int a1]) (c_X6_fittingStrings l G a1 M hx2) (by decide) rfl hl.1 rfl (Nat.le_of_ble_eq_true rfl) dX6_look_18) hW (fun H locs hW => ?_)
    refine lv_istore_n (lv' := [(2, .int x2), (0, .ref (ad G 0)), (1, .int a1)]) hx hb dX6_look_21 rfl hl (by decide) rfl (fun ls hl => ?_)
    refine lv_iload_n hx hb dX6_look_22 rfl (lv_at hl 0 rfl) ?_
    refine lv_if_ne (tgt := 30) hx hb dX6_look_23 (by decide) (fun c33 => ?_) (fun c33 => ?_)
    · replace hk := ite_f hk c33
      refine lv_sipush (v := ((-1001) : Int32)) hx hb dX6_look_30 (by decide) ?_
      refine lv_istore_n (lv' := [(3, .int ((-1001) : Int32)), (2, .int x2), (0, .ref (ad G 0)), (1, .int a1)]) hx hb dX6_look_33 rfl hl (by decide) rfl (fun ls hl => ?_)
      refine lv_bipush (v := (7 : Int32)) hx hb dX6_look_34 (by decide) ?_
      refine lv_istore (lv' := [(4, .int (7 : Int32)), (3, .int ((-1001) : Int32)), (2, .int x2), (0, .ref (ad G 0)), (1, .int a1)]) hx hb dX6_look_36 hl (by decide) rfl (fun ls hl => ?_)
      refine lv_iconst (v := (1 : Int32)) hx hb dX6_look_38 (by decide) ?_
      refine lv_istore (lv' := [(5, .int (1 : Int32)), (4, .int (7 : Int32)), (3, .int ((-1001) : Int32)), (2, .int x2), (0, .ref (ad G 0)), (1, .int a1)]) hx hb dX6_look_39 hl (by decide) rfl (fun ls hl => ?_)
      replace hk := ob2_s hk
      obtain ⟨x7, M8, hz31, hk⟩ := hk
      have KX41 : ∀ (H : Heap) (locs : List Loc) (ls : Array Slot), Ws G true M8 s H locs → lv_has ls 8 [(3, .int x7)] → Wx p l e 4 s m args below meth c Q H locs 109 ls [] := by
        intro H locs ls hW hl
        refine lv_iload_n hx hb dX6_look_109 rfl (lv_at hl 0 rfl) ?_
        obtain ⟨rfl, rfl⟩ := sp2 hk
        exact hret _ _ _ _ hW dX6_look_110
      clear hk
      have LH41 : ∀ (n : Nat) (x3 : Int32) (x4 : Int32) (x5 : Int32) (M6 : Mem) (H : Heap) (locs : List Loc) (ls : Array Slot), f_X6_look_L41 a1 x2 n x3 x4 x5 M6 = some (x7, M8) → Ws G true M6 s H locs → lv_has ls 8 [(0, .ref (ad G 0)), (1, .int a1), (2, .int x2), (3, .int x3), (4, .int x4), (5, .int x5)] → Wx p l e 4 s m args below meth c Q H locs 41 ls [] := by
        clear hz31
        intro n
        induction n with
        | zero => intro _ _ _ _ _ _ _ hk; cases hk
        | succ n ih41 =>
          intro x3 x4 x5 M6 H locs ls hk hW hl
          rw [f_X6_look_L41.eq_2] at hk
          refine lv_iload hx hb dX6_look_41 (lv_at hl 5 rfl) ?_
          refine lv_bipush (v := (9 : Int32)) hx hb dX6_look_43 (by decide) ?_
          refine lv_icmp_gt (tgt := 109) hx hb dX6_look_45 (by decide) (fun c30 => ?_) (fun c30 => ?_)
          · replace hk := ite_t hk c30
            obtain ⟨rfl, rfl⟩ := sp2 hk
            exact KX41 _ _ _ hW (lv_sub hl [3] rfl)
          · replace hk := ite_f hk c30
            refine lv_iconst (v := (1 : Int32)) hx hb dX6_look_48 (by decide) ?_
            refine lv_istore (lv' := [(6, .int (1 : Int32)), (0, .ref (ad G 0)), (1, .int a1), (2, .int x2), (3, .int x3), (4, .int x4), (5, .int x5)]) hx hb dX6_look_49 hl (by decide) rfl (fun ls hl => ?_)
            replace hk := ob3_s hk
            obtain ⟨x13, x14, M15, hz28, hk⟩ := hk
            have KX51 : ∀ (H : Heap) (locs : List Loc) (ls : Array Slot), Ws G true M15 s H locs → lv_has ls 8 [(0, .ref (ad G 0)), (1, .int a1), (2, .int x2), (3, .int x13), (4, .int x14), (5, .int x5)] → Wx p l e 4 s m args below meth c Q H locs 103 ls [] := by
              intro H locs ls hW hl
              replace hk := lq_s hk
              obtain ⟨x27, ex27, hk⟩ := hk
              refine lv_iinc (v := x27) (lv' := [(5, .int x27), (0, .ref (ad G 0)), (1, .int a1), (2, .int x2), (3, .int x13), (4, .int x14)]) hx hb dX6_look_103 hl (k := 5) rfl (by rw [ex27]; rfl) (by decide) rfl (fun ls hl => ?_)
              refine lv_goto (tgt := 41) hx hb dX6_look_106 (by decide) ?_
              exact ih41 _ _ _ _ _ _ _ hk hW (lv_sub hl [1, 2, 3, 4, 5, 0] rfl)
            clear hk
            have LH51 : ∀ (n : Nat) (x9 : Int32) (x10 : Int32) (x11 : Int32) (M12 : Mem) (H : Heap) (locs : List Loc) (ls : Array Slot), f_X6_look_L51 a1 x2 x5 n x9 x10 x11 M12 = some (x13, x14, M15) → Ws G true M12 s H locs → lv_has ls 8 [(0, .ref (ad G 0)), (1, .int a1), (2, .int x2), (3, .int x9), (4, .int x10), (5, .int x5), (6, .int x11)] → Wx p l e 4 s m args below meth c Q H locs 51 ls [] := by
              clear hz28
              intro n
              induction n with
              | zero => intro _ _ _ _ _ _ _ hk; cases hk
              | succ n ih51 =>
                intro x9 x10 x11 M12 H locs ls hk hW hl
                rw [f_X6_look_L51.eq_2] at hk
                refine lv_iload hx hb dX6_look_51 (lv_at hl 6 rfl) ?_
                refine lv_bipush (v := (20 : Int32)) hx hb dX6_look_53 (by decide) ?_
                refine lv_icmp_gt (tgt := 103) hx hb dX6_look_55 (by decide) (fun c26 => ?_) (fun c26 => ?_)
                · replace hk := ite_t hk c26
                  obtain ⟨rfl, rfl, rfl⟩ := sp3 hk
                  exact KX51 _ _ _ hW (lv_sub hl [0, 1, 2, 3, 4, 5] rfl)
                · replace hk := ite_f hk c26
                  refine lv_aload_n hx hb dX6_look_58 rfl (lv_at hl 0 rfl) ?_
                  refine lv_iload_n hx hb dX6_look_59 rfl (lv_at hl 2 rfl) ?_
                  refine lv_iload hx hb dX6_look_60 (lv_at hl 6 rfl) ?_
                  refine lv_iload hx hb dX6_look_62 (lv_at hl 5 rfl) ?_
                  refine lv_aload_n hx hb dX6_look_64 rfl (lv_at hl 0 rfl) ?_
                  refine gt_X6_10 hx hb hg hown hK hW kd_0 dX6_look_65 ?_
                  refine lv_iload_n hx hb dX6_look_68 rfl (lv_at hl 1 rfl) ?_
                  replace hk := ob_s hk
                  obtain ⟨x16, hx16, hk⟩ := hk
                  refine cl_i (rn_VN n_518 g_459 gs_21 g_2 g_460 hd_X2_wornOf (Nat.le_of_ble_eq_true rfl) (ci := 2) rfl (inC kd_1 rfl) (shp2 kd_1) hx hb hml hown hg hK hW (As := [.int a1]) (c_X2_wornOf l G kd_1 a1 M12 hx16) (by decide) rfl hl.1 rfl (Nat.le_of_ble_eq_true rfl) dX6_look_69) hW (fun H locs hW => ?_)
                  replace hk := ob2_s hk
                  obtain ⟨x17, M18, hx17, hk⟩ := hk
                  refine cl_i (rn_V g_733 g_735 gs_50 g_1 g_736 hd_X6_alikeByDrop (Nat.le_of_ble_eq_true rfl) (ci := 6) rfl (inC kd_0 rfl) (shp6 kd_0) hx hb hml hown hg hK hW (As := [.int x2, .int x11, .int x5, .int x16]) (c_X6_alikeByDrop l G x2 x11 x5 x16 M12 hx17) (by decide) rfl hl.1 rfl (Nat.le_of_ble_eq_true rfl) dX6_look_72) hW (fun H locs hW => ?_)
                  refine lv_istore (lv' := [(7, .int x17), (0, .ref (ad G 0)), (1, .int a1), (2, .int x2), (3, .int x9), (4, .int x10), (5, .int x5), (6, .int x11)]) hx hb dX6_look_75 hl (by decide) rfl (fun ls hl => ?_)
                  refine lv_iload hx hb dX6_look_77 (lv_at hl 0 rfl) ?_
                  refine lv_iload hx hb dX6_look_79 (lv_at hl 5 rfl) ?_
                  replace hk := ob2_s hk
                  obtain ⟨x21, x22, hr25, hk⟩ := hk
                  have KJ24 : ∀ (H : Heap) (locs : List Loc) (ls : Array Slot), Ws G true M18 s H locs → lv_has ls 8 [(0, .ref (ad G 0)), (1, .int a1), (2, .int x2), (3, .int x21), (4, .int x22), (5, .int x5), (6, .int x11)] → Wx p l e 4 s m args below meth c Q H locs 97 ls [] := by
                    intro H locs ls hW hl
                    replace hk := lq_s hk
                    obtain ⟨x23, ex23, hk⟩ := hk
                    refine lv_iinc (v := x23) (lv' := [(6, .int x23), (0, .ref (ad G 0)), (1, .int a1), (2, .int x2), (3, .int x21), (4, .int x22), (5, .int x5)]) hx hb dX6_look_97 hl (k := 6) rfl (by rw [ex23]; rfl) (by decide) rfl (fun ls hl => ?_)
                    refine lv_goto (tgt := 51) hx hb dX6_look_100 (by decide) ?_
                    exact ih51 _ _ _ _ _ _ _ hk hW (lv_sub hl [1, 2, 3, 4, 5, 6, 0] rfl)
                  clear hk
                  have hk := hr25
                  clear hr25
                  refine lv_icmp_ge (tgt := 97) hx hb dX6_look_81 (by decide) (fun c20 => ?_) (fun c20 => ?_)
                  · replace hk := ite_t hk c20
                    obtain ⟨rfl, rfl⟩ := sp2 hk
                    exact KJ24 _ _ _ hW (lv_sub hl [1, 2, 3, 4, 5, 6, 7] rfl)
                  · replace hk := ite_f hk c20
                    refine lv_bipush (v := (100 : Int32)) hx hb dX6_look_84 (by decide) ?_
                    refine lv_iload hx hb dX6_look_86 (lv_at hl 6 rfl) ?_
                    refine lv_imul hx hb dX6_look_88 ?_
                    refine lv_iload hx hb dX6_look_89 (lv_at hl 7 rfl) ?_
                    refine lv_iadd hx hb dX6_look_91 ?_
                    replace hk := lq_s hk
                    obtain ⟨x19, ex19, hk⟩ := hk
                    refine nm_i ex19 ?_
                    refine lv_istore_n (lv' := [(3, .int x19), (7, .int x17), (0, .ref (ad G 0)), (1, .int a1), (2, .int x2), (4, .int x10), (5, .int x5), (6, .int x11)]) hx hb dX6_look_92 rfl hl (by decide) rfl (fun ls hl => ?_)
                    refine lv_iload hx hb dX6_look_93 (lv_at hl 1 rfl) ?_
                    refine lv_istore (lv' := [(4, .int x17), (3, .int x19), (7, .int x17), (0, .ref (ad G 0)), (1, .int a1), (2, .int x2), (5, .int x5), (6, .int x11)]) hx hb dX6_look_95 hl (by decide) rfl (fun ls hl => ?_)
                    obtain ⟨rfl, rfl⟩ := sp2 hk
                    exact KJ24 _ _ _ hW (lv_sub hl [3, 4, 5, 1, 0, 6, 7] rfl)
            exact LH51 FU _ _ _ _ _ _ _ hz28 hW (lv_sub hl [1, 2, 3, 4, 5, 6, 0] rfl)
      exact LH41 FU _ _ _ _ _ _ _ hz31 hW (lv_sub hl [4, 5, 3, 2, 1, 0] rfl)
    · replace hk := ite_t hk c33
      refine lv_sipush (v := ((-1001) : Int32)) hx hb dX6_look_26 (by decide) ?_
      obtain ⟨rfl, rfl⟩ := sp2 hk
      exact hret _ _ _ _ hW dX6_look_29
  · replace hk := ite_f hk c36
    refine lv_aload_n hx hb dX6_look_8 rfl (lv_at hl 0 rfl) ?_
    refine lv_sipush (v := ((-1002) : Int32)) hx hb dX6_look_9 (by decide) ?_
    replace hk := ob2_s hk
    obtain ⟨x34, M35, hx34, hk⟩ := hk
    refine cl_i (rn_V g_281 g_283 gs_0 g_1 g_284 hd_X6_refuseBad (Nat.le_of_ble_eq_true rfl) (ci := 6) rfl (inC kd_0 rfl) (shp6 kd_0) hx hb hml hown hg hK hW (As := [.int ((-1002) : Int32)]) (c_X6_refuseBad l G ((-1002) : Int32) M hx34) (by decide) rfl hl.1 rfl (Nat.le_of_ble_eq_true rfl) dX6_look_12) hW (fun H locs hW => ?_)
    obtain ⟨rfl, rfl⟩ := sp2 hk
    exact hret _ _ _ _ hW dX6_look_15
def f_X6_fitsMarks_L11 (a1 : Int32) (a2 : Int32) (M : Mem) : Nat → Int32 → Option ((Int32) ⊕ (Int32))
  | 0, _ => none
  | n + 1, x1 =>
    if (M.1 (1 + 39) 3) ≤ x1 then (
      some (Sum.inl x1))
    else (
      ob (f_X5_value (1 + 39) x1 (0 : Int32) M) (fun x3 =>
      if x3 = a1 then (
        ob (f_X5_value (1 + 39) x1 (1 : Int32) M) (fun x5 =>
        ob (f_X5_value (1 + 39) x1 (2 : Int32) M) (fun x6 =>
        ob (f_X5_value (1 + 39) x1 (3 : Int32) M) (fun x8 =>
        if (f_X6_highOf a2 x5 x6) = x8 then (
          lq (x1 + (1 : Int32)) (fun x9 =>
          f_X6_fitsMarks_L11 a1 a2 M n x9))
        else (
          some (Sum.inr (0 : Int32)))))))
      else (
        lq (x1 + (1 : Int32)) (fun x4 =>
        f_X6_fitsMarks_L11 a1 a2 M n x4))))
def f_X6_fitsMarks (a1 : Int32) (a2 : Int32) (M : Mem) : Option (Int32) :=
  oeT1 (f_X6_fitsMarks_L11 a1 a2 M FU (0 : Int32)) (fun x2 =>
  some (1 : Int32))
set_option maxHeartbeats 4000000 in
set_option maxRecDepth 100000 in
theorem c_X6_fitsMarks (l : Launch) (G : GT) (a1 : Int32) (a2 : Int32) (M : Mem) {r : Int32} (hk : f_X6_fitsMarks a1 a2 M = some r) : CMi l G true yX6_fitsMarks cX6_fitsMarks 5 (some .boolean) 2 [.ref (ad G 0), .int a1, .int a2] M r M := by
  unfold f_X6_fitsMarks at hk
  refine CMi.ofZ (by decide) (Nat.le_of_ble_eq_true rfl) ?_
  intro p e s m args below meth c Q hx hb hml hown hg hK hW hret ls hl
  have hl : lv_has ls 5 [(0, .ref (ad G 0)), (1, .int a1), (2, .int a2)] := hl
  refine lv_aload_n hx hb dX6_fitsMarks_0 rfl (lv_at hl 0 rfl) ?_
  refine gt_X6_10 hx hb hg hown hK hW kd_0 dX6_fitsMarks_1 ?_
  refine gt_X6_250 hx hb hg hown hK hW kd_1 dX6_fitsMarks_4 ?_
  refine lv_astore_n (lv' := [(3, .ref (ad G (1 + 39))), (0, .ref (ad G 0)), (1, .int a1), (2, .int a2)]) hx hb dX6_fitsMarks_7 rfl hl (by decide) rfl (fun ls hl => ?_)
  refine lv_iconst (v := (0 : Int32)) hx hb dX6_fitsMarks_8 (by decide) ?_
  refine lv_istore (lv' := [(4, .int (0 : Int32)), (3, .ref (ad G (1 + 39))), (0, .ref (ad G 0)), (1, .int a1), (2, .int a2)]) hx hb dX6_fitsMarks_9 hl (by decide) rfl (fun ls hl => ?_)
  replace hk := oeT1_s hk
  obtain ⟨z14, hz13, hk_11⟩ := hk
  have KX11 : ∀ (x2 : Int32), z14 = Sum.inl x2 → ∀ (H : Heap) (locs : List Loc) (ls : Array Slot), Ws G true M s H locs → lv_has ls 5 [] → Wx p l e 2 s m args below meth c Q H locs 67 ls [] := by
    intro x2 ez H locs ls hW hl
    have hk := hk_11.1 x2 ez
    refine lv_iconst (v := (1 : Int32)) hx hb dX6_fitsMarks_67 (by decide) ?_
    obtain rfl := Option.some.inj hk
    exact hret _ _ _ _ (Or.inr rfl) hW dX6_fitsMarks_68
  have LH11 : ∀ (n : Nat) (x1 : Int32) (H : Heap) (locs : List Loc) (ls : Array Slot), f_X6_fitsMarks_L11 a1 a2 M n x1 = some z14 → Ws G true M s H locs → lv_has ls 5 [(1, .int a1), (2, .int a2), (3, .ref (ad G (1 + 39))), (4, .int x1)] → Wx p l e 2 s m args below meth c Q H locs 11 ls [] := by
    clear hz13
    intro n
    induction n with
    | zero => intro _ _ _ _ hk; cases hk
    | succ n ih11 =>
      intro x1 H locs ls hk hW hl
      rw [f_X6_fitsMarks_L11.eq_2] at hk
      refine lv_iload hx hb dX6_fitsMarks_11 (lv_at hl 3 rfl) ?_
      refine lv_aload_n hx hb dX6_fitsMarks_13 rfl (lv_at hl 2 rfl) ?_
      refine gt_X6_325 hx hb hg hown hK hW (k2_39 kd_1) dX6_fitsMarks_14 ?_
      refine lv_icmp_ge (tgt := 67) hx hb dX6_fitsMarks_17 (by decide) (fun c12 => ?_) (fun c12 => ?_)
      · replace hk := ite_t hk c12
        obtain rfl := Option.some.inj hk
        exact KX11 _ rfl _ _ _ hW (lv_sub hl [] rfl)
      · replace hk := ite_f hk c12
        refine lv_aload_n hx hb dX6_fitsMarks_20 rfl (lv_at hl 2 rfl) ?_
        refine lv_iload hx hb dX6_fitsMarks_21 (lv_at hl 3 rfl) ?_
        refine lv_iconst (v := (0 : Int32)) hx hb dX6_fitsMarks_23 (by decide) ?_
        replace hk := ob_s hk
        obtain ⟨x3, hx3, hk⟩ := hk
        refine cl_i (rn_VN n_667 g_669 gs_45 g_4 g_670 hd_X5_value (Nat.le_of_ble_eq_true rfl) (ci := 5) rfl (inC (k2_39 kd_1) rfl) (shp5 (k2_39 kd_1)) hx hb hml hown hg hK hW (As := [.int x1, .int (0 : Int32)]) (c_X5_value l G (k2_39 kd_1) x1 (0 : Int32) M hx3) (by decide) rfl hl.1 rfl (Nat.le_of_ble_eq_true rfl) dX6_fitsMarks_24) hW (fun H locs hW => ?_)
        refine lv_iload_n hx hb dX6_fitsMarks_27 rfl (lv_at hl 0 rfl) ?_
        refine lv_icmp_ne (tgt := 61) hx hb dX6_fitsMarks_28 (by decide) (fun c11 => ?_) (fun c11 => ?_)
        · replace hk := ite_f hk c11
          replace hk := lq_s hk
          obtain ⟨x4, ex4, hk⟩ := hk
          refine lv_iinc (v := x4) (lv' := [(4, .int x4), (1, .int a1), (2, .int a2), (3, .ref (ad G (1 + 39)))]) hx hb dX6_fitsMarks_61 hl (k := 3) rfl (by rw [ex4]; rfl) (by decide) rfl (fun ls hl => ?_)
          refine lv_goto (tgt := 11) hx hb dX6_fitsMarks_64 (by decide) ?_
          exact ih11 _ _ _ _ hk hW (lv_sub hl [1, 2, 3, 0] rfl)
        · replace hk := ite_t hk c11
          refine lv_iload_n hx hb dX6_fitsMarks_31 rfl (lv_at hl 1 rfl) ?_
          refine lv_aload_n hx hb dX6_fitsMarks_32 rfl (lv_at hl 2 rfl) ?_
          refine lv_iload hx hb dX6_fitsMarks_33 (lv_at hl 3 rfl) ?_
          refine lv_iconst (v := (1 : Int32)) hx hb dX6_fitsMarks_35 (by decide) ?_
          replace hk := ob_s hk
          obtain ⟨x5, hx5, hk⟩ := hk
          refine cl_i (rn_VN n_667 g_669 gs_45 g_4 g_670 hd_X5_value (Nat.le_of_ble_eq_true rfl) (ci := 5) rfl (inC (k2_39 kd_1) rfl) (shp5 (k2_39 kd_1)) hx hb hml hown hg hK hW (As := [.int x1, .int (1 : Int32)]) (c_X5_value l G (k2_39 kd_1) x1 (1 : Int32) M hx5) (by decide) rfl hl.1 rfl (Nat.le_of_ble_eq_true rfl) dX6_fitsMarks_36) hW (fun H locs hW => ?_)
          refine lv_aload_n hx hb dX6_fitsMarks_39 rfl (lv_at hl 2 rfl) ?_
          refine lv_iload hx hb dX6_fitsMarks_40 (lv_at hl 3 rfl) ?_
          refine lv_iconst (v := (2 : Int32)) hx hb dX6_fitsMarks_42 (by decide) ?_
          replace hk := ob_s hk
          obtain ⟨x6, hx6, hk⟩ := hk
          refine cl_i (rn_VN n_667 g_669 gs_45 g_4 g_670 hd_X5_value (Nat.le_of_ble_eq_true rfl) (ci := 5) rfl (inC (k2_39 kd_1) rfl) (shp5 (k2_39 kd_1)) hx hb hml hown hg hK hW (As := [.int x1, .int (2 : Int32)]) (c_X5_value l G (k2_39 kd_1) x1 (2 : Int32) M hx6) (by decide) rfl hl.1 rfl (Nat.le_of_ble_eq_true rfl) dX6_fitsMarks_43) hW (fun H locs hW => ?_)
          refine cl_i (rn_S g_677 g_562 g_1 g_563 hd_X6_highOf (Nat.le_of_ble_eq_true rfl) hx hb hml hown hg hK hW (As := [.int a2, .int x5, .int x6]) (c_X6_highOf l G a2 x5 x6 M) (by decide) rfl hl.1 rfl (Nat.le_of_ble_eq_true rfl) dX6_fitsMarks_46) hW (fun H locs hW => ?_)
          refine lv_aload_n hx hb dX6_fitsMarks_49 rfl (lv_at hl 2 rfl) ?_
          refine lv_iload hx hb dX6_fitsMarks_50 (lv_at hl 3 rfl) ?_
          refine lv_iconst (v := (3 : Int32)) hx hb dX6_fitsMarks_52 (by decide) ?_
          replace hk := ob_s hk
          obtain ⟨x8, hx8, hk⟩ := hk
          refine cl_i (rn_VN n_667 g_669 gs_45 g_4 g_670 hd_X5_value (Nat.le_of_ble_eq_true rfl) (ci := 5) rfl (inC (k2_39 kd_1) rfl) (shp5 (k2_39 kd_1)) hx hb hml hown hg hK hW (As := [.int x1, .int (3 : Int32)]) (c_X5_value l G (k2_39 kd_1) x1 (3 : Int32) M hx8) (by decide) rfl hl.1 rfl (Nat.le_of_ble_eq_true rfl) dX6_fitsMarks_53) hW (fun H locs hW => ?_)
          refine lv_icmp_eq (tgt := 61) hx hb dX6_fitsMarks_56 (by decide) (fun c10 => ?_) (fun c10 => ?_)
          · replace hk := ite_t hk c10
            replace hk := lq_s hk
            obtain ⟨x9, ex9, hk⟩ := hk
            refine lv_iinc (v := x9) (lv' := [(4, .int x9), (1, .int a1), (2, .int a2), (3, .ref (ad G (1 + 39)))]) hx hb dX6_fitsMarks_61 hl (k := 3) rfl (by rw [ex9]; rfl) (by decide) rfl (fun ls hl => ?_)
            refine lv_goto (tgt := 11) hx hb dX6_fitsMarks_64 (by decide) ?_
            exact ih11 _ _ _ _ hk hW (lv_sub hl [1, 2, 3, 0] rfl)
          · replace hk := ite_f hk c10
            refine lv_iconst (v := (0 : Int32)) hx hb dX6_fitsMarks_59 (by decide) ?_
            obtain rfl := Option.some.inj hk
            have hk := hk_11.2 _ rfl
            obtain rfl := Option.some.inj hk
            exact hret _ _ _ _ (Or.inl rfl) hW dX6_fitsMarks_60
  exact LH11 FU _ _ _ _ hz13 hW (lv_sub hl [3, 4, 1, 0] rfl)
def f_X6_fittingKinds_L4 (a1 : Int32) (M : Mem) : Nat → Int32 → Int32 → Option (Int32)
  | 0, _, _ => none
  | n + 1, x1, x2 =>
    if (6 : Int32) ≤ x2 then (
      some x1)
    else (
      ob (f_X6_fitsMarks a1 x2 M) (fun x4 =>
      lq (
        if x4 = (0 : Int32) then (
          x1)
        else (
          lq (x1 ||| ((1 : Int32) <<< (x2 &&& 31))) (fun x5 =>
          x5)))
       (fun x7 =>
      lq (x2 + (1 : Int32)) (fun x8 =>
      f_X6_fittingKinds_L4 a1 M n x7 x8))))
def f_X6_fittingKinds (a1 : Int32) (M : Mem) : Option (Int32) :=
  ob (f_X6_fittingKinds_L4 a1 M FU (0 : Int32) (0 : Int32)) (fun x3 =>
  some x3)
set_option maxHeartbeats 4000000 in
set_option maxRecDepth 100000 in
theorem c_X6_fittingKinds (l : Launch) (G : GT) (a1 : Int32) (M : Mem) {r : Int32} (hk : f_X6_fittingKinds a1 M = some r) : CMi l G true yX6_fittingKinds cX6_fittingKinds 4 (some .int) 3 [.ref (ad G 0), .int a1] M r M := by
  unfold f_X6_fittingKinds at hk
  refine CMi.of (by decide) (Nat.le_of_ble_eq_true rfl) ?_
  intro p e s m args below meth c Q hx hb hml hown hg hK hW hret ls hl
  have hl : lv_has ls 4 [(0, .ref (ad G 0)), (1, .int a1)] := hl
  refine lv_iconst (v := (0 : Int32)) hx hb dX6_fittingKinds_0 (by decide) ?_
  refine lv_istore_n (lv' := [(2, .int (0 : Int32)), (0, .ref (ad G 0)), (1, .int a1)]) hx hb dX6_fittingKinds_1 rfl hl (by decide) rfl (fun ls hl => ?_)
  refine lv_iconst (v := (0 : Int32)) hx hb dX6_fittingKinds_2 (by decide) ?_
  refine lv_istore_n (lv' := [(3, .int (0 : Int32)), (2, .int (0 : Int32)), (0, .ref (ad G 0)), (1, .int a1)]) hx hb dX6_fittingKinds_3 rfl hl (by decide) rfl (fun ls hl => ?_)
  replace hk := ob_s hk
  obtain ⟨x3, hz12, hk⟩ := hk
  have KX4 : ∀ (H : Heap) (locs : List Loc) (ls : Array Slot), Ws G true M s H locs → lv_has ls 4 [(2, .int x3)] → Wx p l e 3 s m args below meth c Q H locs 31 ls [] := by
    intro H locs ls hW hl
    refine lv_iload_n hx hb dX6_fittingKinds_31 rfl (lv_at hl 0 rfl) ?_
    obtain rfl := Option.some.inj hk
    exact hret _ _ _ _ hW dX6_fittingKinds_32
  clear hk
  have LH4 : ∀ (n : Nat) (x1 : Int32) (x2 : Int32) (H : Heap) (locs : List Loc) (ls : Array Slot), f_X6_fittingKinds_L4 a1 M n x1 x2 = some x3 → Ws G true M s H locs → lv_has ls 4 [(0, .ref (ad G 0)), (1, .int a1), (2, .int x1), (3, .int x2)] → Wx p l e 3 s m args below meth c Q H locs 4 ls [] := by
    clear hz12
    intro n
    induction n with
    | zero => intro _ _ _ _ _ hk; cases hk
    | succ n ih4 =>
      intro x1 x2 H locs ls hk hW hl
      rw [f_X6_fittingKinds_L4.eq_2] at hk
      refine lv_iload_n hx hb dX6_fittingKinds_4 rfl (lv_at hl 3 rfl) ?_
      refine lv_bipush (v := (6 : Int32)) hx hb dX6_fittingKinds_5 (by decide) ?_
      refine lv_icmp_ge (tgt := 31) hx hb dX6_fittingKinds_7 (by decide) (fun c11 => ?_) (fun c11 => ?_)
      · replace hk := ite_t hk c11
        obtain rfl := Option.some.inj hk
        exact KX4 _ _ _ hW (lv_sub hl [2] rfl)
      · replace hk := ite_f hk c11
        refine lv_aload_n hx hb dX6_fittingKinds_10 rfl (lv_at hl 0 rfl) ?_
        refine lv_iload_n hx hb dX6_fittingKinds_11 rfl (lv_at hl 1 rfl) ?_
        refine lv_iload_n hx hb dX6_fittingKinds_12 rfl (lv_at hl 3 rfl) ?_
        replace hk := ob_s hk
        obtain ⟨x4, hx4, hk⟩ := hk
        refine cl_i (rn_V g_745 g_747 gs_52 g_1 g_748 hd_X6_fitsMarks (Nat.le_of_ble_eq_true rfl) (ci := 6) rfl (inC kd_0 rfl) (shp6 kd_0) hx hb hml hown hg hK hW (As := [.int a1, .int x2]) (c_X6_fitsMarks l G a1 x2 M hx4) (by decide) rfl hl.1 rfl (Nat.le_of_ble_eq_true rfl) dX6_fittingKinds_13) hW (fun H locs hW => ?_)
        replace hk := lq_s hk
        obtain ⟨x7, hr10, hk⟩ := hk
        have KJ9 : ∀ (H : Heap) (locs : List Loc) (ls : Array Slot), Ws G true M s H locs → lv_has ls 4 [(0, .ref (ad G 0)), (1, .int a1), (2, .int x7), (3, .int x2)] → Wx p l e 3 s m args below meth c Q H locs 25 ls [] := by
          intro H locs ls hW hl
          replace hk := lq_s hk
          obtain ⟨x8, ex8, hk⟩ := hk
          refine lv_iinc (v := x8) (lv' := [(3, .int x8), (0, .ref (ad G 0)), (1, .int a1), (2, .int x7)]) hx hb dX6_fittingKinds_25 hl (k := 3) rfl (by rw [ex8]; rfl) (by decide) rfl (fun ls hl => ?_)
          refine lv_goto (tgt := 4) hx hb dX6_fittingKinds_28 (by decide) ?_
          exact ih4 _ _ _ _ _ hk hW (lv_sub hl [1, 2, 3, 0] rfl)
        clear hk
        have hk := hr10.symm
        clear hr10
        refine lv_if_eq (tgt := 25) hx hb dX6_fittingKinds_16 (by decide) (fun c6 => ?_) (fun c6 => ?_)
        · replace hk := ite_t hk c6
          subst hk
          exact KJ9 _ _ _ hW (lv_sub hl [0, 1, 2, 3] rfl)
        · replace hk := ite_f hk c6
          refine lv_iload_n hx hb dX6_fittingKinds_19 rfl (lv_at hl 2 rfl) ?_
          refine lv_iconst (v := (1 : Int32)) hx hb dX6_fittingKinds_20 (by decide) ?_
          refine lv_iload_n hx hb dX6_fittingKinds_21 rfl (lv_at hl 3 rfl) ?_
          refine lv_ishl hx hb dX6_fittingKinds_22 ?_
          refine lv_ior hx hb dX6_fittingKinds_23 ?_
          replace hk := lq_s hk
          obtain ⟨x5, ex5, hk⟩ := hk
          refine nm_i ex5 ?_
          refine lv_istore_n (lv' := [(2, .int x5), (0, .ref (ad G 0)), (1, .int a1), (3, .int x2)]) hx hb dX6_fittingKinds_24 rfl hl (by decide) rfl (fun ls hl => ?_)
          subst hk
          exact KJ9 _ _ _ hW (lv_sub hl [1, 2, 0, 3] rfl)
  exact LH4 FU _ _ _ _ _ hz12 hW (lv_sub hl [2, 3, 1, 0] rfl)
def f_X6_kinds (a1 : Int32) (M : Mem) : Option (Int32 × Mem) :=
  if (f_X6_noLimb a1 M) = (0 : Int32) then (
    ob (f_X6_fittingKinds a1 M) (fun x2 =>
    some (x2, M)))
  else (
    ob2 (f_X6_refuseBad ((-1002) : Int32) M) (fun x3 M4 =>
    some (x3, M4)))
set_option maxHeartbeats 4000000 in
set_option maxRecDepth 100000 in
theorem c_X6_kinds (l : Launch) (G : GT) (a1 : Int32) (M : Mem) {r : Int32} {M' : Mem} (hk : f_X6_kinds a1 M = some (r, M')) : CMi l G true yX6_kinds cX6_kinds 2 (some .int) 4 [.ref (ad G 0), .int a1] M r M' := by
  unfold f_X6_kinds at hk
  refine CMi.of (by decide) (Nat.le_of_ble_eq_true rfl) ?_
  intro p e s m args below meth c Q hx hb hml hown hg hK hW hret ls hl
  have hl : lv_has ls 2 [(0, .ref (ad G 0)), (1, .int a1)] := hl
  refine lv_aload_n hx hb dX6_kinds_0 rfl (lv_at hl 0 rfl) ?_
  refine lv_iload_n hx hb dX6_kinds_1 rfl (lv_at hl 1 rfl) ?_
  refine cl_i (rn_V g_514 g_516 gs_30 g_1 g_517 hd_X6_noLimb (Nat.le_of_ble_eq_true rfl) (ci := 6) rfl (inC kd_0 rfl) (shp6 kd_0) hx hb hml hown hg hK hW (As := [.int a1]) (c_X6_noLimb l G a1 M) (by decide) rfl hl.1 rfl (Nat.le_of_ble_eq_true rfl) dX6_kinds_2) hW (fun H locs hW => ?_)
  refine lv_if_eq (tgt := 16) hx hb dX6_kinds_5 (by decide) (fun c5 => ?_) (fun c5 => ?_)
  · replace hk := ite_t hk c5
    refine lv_aload_n hx hb dX6_kinds_16 rfl (lv_at hl 0 rfl) ?_
    refine lv_iload_n hx hb dX6_kinds_17 rfl (lv_at hl 1 rfl) ?_
    replace hk := ob_s hk
    obtain ⟨x2, hx2, hk⟩ := hk
    refine cl_i (rn_V g_741 g_743 gs_51 g_1 g_744 hd_X6_fittingKinds (Nat.le_of_ble_eq_true rfl) (ci := 6) rfl (inC kd_0 rfl) (shp6 kd_0) hx hb hml hown hg hK hW (As := [.int a1]) (c_X6_fittingKinds l G a1 M hx2) (by decide) rfl hl.1 rfl (Nat.le_of_ble_eq_true rfl) dX6_kinds_18) hW (fun H locs hW => ?_)
    obtain ⟨rfl, rfl⟩ := sp2 hk
    exact hret _ _ _ _ hW dX6_kinds_21
  · replace hk := ite_f hk c5
    refine lv_aload_n hx hb dX6_kinds_8 rfl (lv_at hl 0 rfl) ?_
    refine lv_sipush (v := ((-1002) : Int32)) hx hb dX6_kinds_9 (by decide) ?_
    replace hk := ob2_s hk
    obtain ⟨x3, M4, hx3, hk⟩ := hk
    refine cl_i (rn_V g_281 g_283 gs_0 g_1 g_284 hd_X6_refuseBad (Nat.le_of_ble_eq_true rfl) (ci := 6) rfl (inC kd_0 rfl) (shp6 kd_0) hx hb hml hown hg hK hW (As := [.int ((-1002) : Int32)]) (c_X6_refuseBad l G ((-1002) : Int32) M hx3) (by decide) rfl hl.1 rfl (Nat.le_of_ble_eq_true rfl) dX6_kinds_12) hW (fun H locs hW => ?_)
    obtain ⟨rfl, rfl⟩ := sp2 hk
    exact hret _ _ _ _ hW dX6_kinds_15
def f_X6_alikeByHigh_L6 (a1 : Int32) (a2 : Int32) (a3 : Int32) : Nat → Int32 → Int32 → Mem → Option (Int32 × Mem)
  | 0, _, _, _ => none
  | n + 1, x1, x2, M3 =>
    if (6 : Int32) ≤ x2 then (
      some (x1, M3))
    else (
      ob2 (
        if (f_X6_hasBit a1 x2) = (0 : Int32) then (
          some (x1, M3))
        else (
          ob (f_X6_put 175 x1 (f_X6_highOf x2 a2 a3) M3) (fun M9 =>
          lq (x1 + (1 : Int32)) (fun x10 =>
          some (x10, M9)))))
       (fun x12 M13 =>
      lq (x2 + (1 : Int32)) (fun x14 =>
      f_X6_alikeByHigh_L6 a1 a2 a3 n x12 x14 M13)))
def f_X6_alikeByHigh (a1 : Int32) (a2 : Int32) (a3 : Int32) (M : Mem) : Option (Int32 × Mem) :=
  ob2 (f_X6_alikeByHigh_L6 a1 a2 a3 FU (0 : Int32) (0 : Int32) M) (fun x4 M5 =>
  ob (f_X6_mostAlike 175 x4 M5) (fun x18 =>
  some (x18, M5)))
set_option maxHeartbeats 4000000 in
set_option maxRecDepth 100000 in
theorem c_X6_alikeByHigh (l : Launch) (G : GT) (a1 : Int32) (a2 : Int32) (a3 : Int32) (M : Mem) {r : Int32} {M' : Mem} (hk : f_X6_alikeByHigh a1 a2 a3 M = some (r, M')) : CMi l G true yX6_alikeByHigh cX6_alikeByHigh 6 (some .int) 2 [.ref (ad G 0), .int a1, .int a2, .int a3] M r M' := by
  unfold f_X6_alikeByHigh at hk
  refine CMi.of (by decide) (Nat.le_of_ble_eq_true rfl) ?_
  intro p e s m args below meth c Q hx hb hml hown hg hK hW hret ls hl
  have hl : lv_has ls 6 [(0, .ref (ad G 0)), (1, .int a1), (2, .int a2), (3, .int a3)] := hl
  refine lv_iconst (v := (0 : Int32)) hx hb dX6_alikeByHigh_0 (by decide) ?_
  refine lv_istore (lv' := [(4, .int (0 : Int32)), (0, .ref (ad G 0)), (1, .int a1), (2, .int a2), (3, .int a3)]) hx hb dX6_alikeByHigh_1 hl (by decide) rfl (fun ls hl => ?_)
  refine lv_iconst (v := (0 : Int32)) hx hb dX6_alikeByHigh_3 (by decide) ?_
  refine lv_istore (lv' := [(5, .int (0 : Int32)), (4, .int (0 : Int32)), (0, .ref (ad G 0)), (1, .int a1), (2, .int a2), (3, .int a3)]) hx hb dX6_alikeByHigh_4 hl (by decide) rfl (fun ls hl => ?_)
  replace hk := ob2_s hk
  obtain ⟨x4, M5, hz19, hk⟩ := hk
  have KX6 : ∀ (H : Heap) (locs : List Loc) (ls : Array Slot), Ws G true M5 s H locs → lv_has ls 6 [(0, .ref (ad G 0)), (4, .int x4)] → Wx p l e 2 s m args below meth c Q H locs 47 ls [] := by
    intro H locs ls hW hl
    refine lv_aload_n hx hb dX6_alikeByHigh_47 rfl (lv_at hl 0 rfl) ?_
    refine gt_X6_60 hx hb hg hown hK hW kd_0 dX6_alikeByHigh_48 ?_
    refine lv_iload hx hb dX6_alikeByHigh_51 (lv_at hl 1 rfl) ?_
    replace hk := ob_s hk
    obtain ⟨x18, hx18, hk⟩ := hk
    refine cl_i (rn_S g_701 g_702 g_1 g_703 hd_X6_mostAlike (Nat.le_of_ble_eq_true rfl) hx hb hml hown hg hK hW (As := [.ref (ad G 175), .int x4]) (c_X6_mostAlike l G kd_175 x4 M5 hx18) (by decide) rfl hl.1 rfl (Nat.le_of_ble_eq_true rfl) dX6_alikeByHigh_53) hW (fun H locs hW => ?_)
    obtain ⟨rfl, rfl⟩ := sp2 hk
    exact hret _ _ _ _ hW dX6_alikeByHigh_56
  clear hk
  have LH6 : ∀ (n : Nat) (x1 : Int32) (x2 : Int32) (M3 : Mem) (H : Heap) (locs : List Loc) (ls : Array Slot), f_X6_alikeByHigh_L6 a1 a2 a3 n x1 x2 M3 = some (x4, M5) → Ws G true M3 s H locs → lv_has ls 6 [(0, .ref (ad G 0)), (1, .int a1), (2, .int a2), (3, .int a3), (4, .int x1), (5, .int x2)] → Wx p l e 2 s m args below meth c Q H locs 6 ls [] := by
    clear hz19
    intro n
    induction n with
    | zero => intro _ _ _ _ _ _ hk; cases hk
    | succ n ih6 =>
      intro x1 x2 M3 H locs ls hk hW hl
      rw [f_X6_alikeByHigh_L6.eq_2] at hk
      refine lv_iload hx hb dX6_alikeByHigh_6 (lv_at hl 5 rfl) ?_
      refine lv_bipush (v := (6 : Int32)) hx hb dX6_alikeByHigh_8 (by decide) ?_
      refine lv_icmp_ge (tgt := 47) hx hb dX6_alikeByHigh_10 (by decide) (fun c17 => ?_) (fun c17 => ?_)
      · replace hk := ite_t hk c17
        obtain ⟨rfl, rfl⟩ := sp2 hk
        exact KX6 _ _ _ hW (lv_sub hl [0, 4] rfl)
      · replace hk := ite_f hk c17
        refine lv_iload_n hx hb dX6_alikeByHigh_13 rfl (lv_at hl 1 rfl) ?_
        refine lv_iload hx hb dX6_alikeByHigh_14 (lv_at hl 5 rfl) ?_
        refine cl_i (rn_S g_687 g_688 g_1 g_689 hd_X6_hasBit (Nat.le_of_ble_eq_true rfl) hx hb hml hown hg hK hW (As := [.int a1, .int x2]) (c_X6_hasBit l G a1 x2 M3) (by decide) rfl hl.1 rfl (Nat.le_of_ble_eq_true rfl) dX6_alikeByHigh_16) hW (fun H locs hW => ?_)
        replace hk := ob2_s hk
        obtain ⟨x12, M13, hr16, hk⟩ := hk
        have KJ15 : ∀ (H : Heap) (locs : List Loc) (ls : Array Slot), Ws G true M13 s H locs → lv_has ls 6 [(0, .ref (ad G 0)), (1, .int a1), (2, .int a2), (3, .int a3), (4, .int x12), (5, .int x2)] → Wx p l e 2 s m args below meth c Q H locs 41 ls [] := by
          intro H locs ls hW hl
          replace hk := lq_s hk
          obtain ⟨x14, ex14, hk⟩ := hk
          refine lv_iinc (v := x14) (lv' := [(5, .int x14), (0, .ref (ad G 0)), (1, .int a1), (2, .int a2), (3, .int a3), (4, .int x12)]) hx hb dX6_alikeByHigh_41 hl (k := 5) rfl (by rw [ex14]; rfl) (by decide) rfl (fun ls hl => ?_)
          refine lv_goto (tgt := 6) hx hb dX6_alikeByHigh_44 (by decide) ?_
          exact ih6 _ _ _ _ _ _ hk hW (lv_sub hl [1, 2, 3, 4, 5, 0] rfl)
        clear hk
        have hk := hr16
        clear hr16
        refine lv_if_eq (tgt := 41) hx hb dX6_alikeByHigh_19 (by decide) (fun c11 => ?_) (fun c11 => ?_)
        · replace hk := ite_t hk c11
          obtain ⟨rfl, rfl⟩ := sp2 hk
          exact KJ15 _ _ _ hW (lv_sub hl [0, 1, 2, 3, 4, 5] rfl)
        · replace hk := ite_f hk c11
          refine lv_aload_n hx hb dX6_alikeByHigh_22 rfl (lv_at hl 0 rfl) ?_
          refine gt_X6_60 hx hb hg hown hK hW kd_0 dX6_alikeByHigh_23 ?_
          refine lv_iload hx hb dX6_alikeByHigh_26 (lv_at hl 4 rfl) ?_
          refine lv_iload hx hb dX6_alikeByHigh_28 (lv_at hl 5 rfl) ?_
          refine lv_iload_n hx hb dX6_alikeByHigh_30 rfl (lv_at hl 2 rfl) ?_
          refine lv_iload_n hx hb dX6_alikeByHigh_31 rfl (lv_at hl 3 rfl) ?_
          refine cl_i (rn_S g_677 g_562 g_1 g_563 hd_X6_highOf (Nat.le_of_ble_eq_true rfl) hx hb hml hown hg hK hW (As := [.int x2, .int a2, .int a3]) (c_X6_highOf l G x2 a2 a3 M3) (by decide) rfl hl.1 rfl (Nat.le_of_ble_eq_true rfl) dX6_alikeByHigh_32) hW (fun H locs hW => ?_)
          replace hk := ob_s hk
          obtain ⟨M9, hx8, hk⟩ := hk
          refine cl_v (rn_S g_520 g_294 g_1 g_295 hd_X6_put (Nat.le_of_ble_eq_true rfl) hx hb hml hown hg hK hW (As := [.ref (ad G 175), .int x1, .int (f_X6_highOf x2 a2 a3)]) (c_X6_put l G kd_175 x1 (f_X6_highOf x2 a2 a3) M3 hx8) (by decide) rfl hl.1 rfl (Nat.le_of_ble_eq_true rfl) dX6_alikeByHigh_35) hW (fun H locs hW => ?_)
          replace hk := lq_s hk
          obtain ⟨x10, ex10, hk⟩ := hk
          refine lv_iinc (v := x10) (lv' := [(4, .int x10), (0, .ref (ad G 0)), (1, .int a1), (2, .int a2), (3, .int a3), (5, .int x2)]) hx hb dX6_alikeByHigh_38 hl (k := 4) rfl (by rw [ex10]; rfl) (by decide) rfl (fun ls hl => ?_)
          obtain ⟨rfl, rfl⟩ := sp2 hk
          exact KJ15 _ _ _ hW (lv_sub hl [1, 2, 3, 4, 0, 5] rfl)
  exact LH6 FU _ _ _ _ _ _ hz19 hW (lv_sub hl [2, 3, 4, 5, 1, 0] rfl)
def f_X6_ask_L51 (x2 : Int32) (x5 : Int32) : Nat → Int32 → Int32 → Int32 → Mem → Option (Int32 × Int32 × Mem)
  | 0, _, _, _, _ => none
  | n + 1, x9, x10, x11, M12 =>
    if (1 : Int32) < x11 then (
      some (x9, x10, M12))
    else (
      ob2 (f_X6_alikeByHigh x2 x5 x11 M12) (fun x16 M17 =>
      ob2 (
        if x10 ≤ x16 then (
          some (x9, x10))
        else (
          lq (((10 : Int32) * x5) + x11) (fun x18 =>
          some (x18, x16))))
       (fun x20 x21 =>
      lq (x11 + (1 : Int32)) (fun x22 =>
      f_X6_ask_L51 x2 x5 n x20 x21 x22 M17))))
def f_X6_ask_L41 (x2 : Int32) : Nat → Int32 → Int32 → Int32 → Mem → Option (Int32 × Mem)
  | 0, _, _, _, _ => none
  | n + 1, x3, x4, x5, M6 =>
    if (20 : Int32) < x5 then (
      some (x3, M6))
    else (
      ob3 (f_X6_ask_L51 x2 x5 FU x3 x4 (0 : Int32) M6) (fun x13 x14 M15 =>
      lq (x5 + (1 : Int32)) (fun x26 =>
      f_X6_ask_L41 x2 n x13 x14 x26 M15)))
def f_X6_ask (a1 : Int32) (M : Mem) : Option (Int32 × Mem) :=
  if (f_X6_noLimb a1 M) = (0 : Int32) then (
    ob (f_X6_fittingKinds a1 M) (fun x2 =>
    if x2 = (0 : Int32) then (
      some (((-1001) : Int32), M))
    else (
      ob2 (f_X6_ask_L41 x2 FU ((-1001) : Int32) (7 : Int32) (0 : Int32) M) (fun x7 M8 =>
      some (x7, M8)))))
  else (
    ob2 (f_X6_refuseBad ((-1002) : Int32) M) (fun x33 M34 =>
    some (x33, M34)))
set_option maxHeartbeats 4000000 in
set_option maxRecDepth 100000 in
theorem c_X6_ask (l : Launch) (G : GT) (a1 : Int32) (M : Mem) {r : Int32} {M' : Mem} (hk : f_X6_ask a1 M = some (r, M')) : CMi l G true yX6_ask cX6_ask 8 (some .int) 4 [.ref (ad G 0), .int a1] M r M' := by
  unfold f_X6_ask at hk
  refine CMi.of (by decide) (Nat.le_of_ble_eq_true rfl) ?_
  intro p e s m args below meth c Q hx hb hml hown hg hK hW hret ls hl
  have hl : lv_has ls 8 [(0, .ref (ad G 0)), (1, .int a1)] := hl
  refine lv_aload_n hx hb dX6_ask_0 rfl (lv_at hl 0 rfl) ?_
  refine lv_iload_n hx hb dX6_ask_1 rfl (lv_at hl 1 rfl) ?_
  refine cl_i (rn_V g_514 g_516 gs_30 g_1 g_517 hd_X6_noLimb (Nat.le_of_ble_eq_true rfl) (ci := 6) rfl (inC kd_0 rfl) (shp6 kd_0) hx hb hml hown hg hK hW (As := [.int a1]) (c_X6_noLimb l G a1 M) (by decide) rfl hl.1 rfl (Nat.le_of_ble_eq_true rfl) dX6_ask_2) hW (fun H locs hW => ?_)
  refine lv_if_eq (tgt := 16) hx hb dX6_ask_5 (by decide) (fun c35 => ?_) (fun c35 => ?_)
  · replace hk := ite_t hk c35
    refine lv_aload_n hx hb dX6_ask_16 rfl (lv_at hl 0 rfl) ?_
    refine lv_iload_n hx hb dX6_ask_17 rfl (lv_at hl 1 rfl) ?_
    replace hk := ob_s hk
    obtain ⟨x2, hx2, hk⟩ := hk
    refine cl_i (rn_V g_741 g_743 gs_51 g_1 g_744 hd_X6_fittingKinds (Nat.le_of_ble_eq_true rfl) (ci := 6) rfl (inC kd_0 rfl) (shp6 kd_0) hx hb hml hown hg hK hW (As := [.int a1]) (c_X6_fittingKinds l G a1 M hx2) (by decide) rfl hl.1 rfl (Nat.le_of_ble_eq_true rfl) dX6_ask_18) hW (fun H locs hW => ?_)
    refine lv_istore_n (lv' := [(2, .int x2), (0, .ref (ad G 0)), (1, .int a1)]) hx hb dX6_ask_21 rfl hl (by decide) rfl (fun ls hl => ?_)
    refine lv_iload_n hx hb dX6_ask_22 rfl (lv_at hl 0 rfl) ?_
    refine lv_if_ne (tgt := 30) hx hb dX6_ask_23 (by decide) (fun c32 => ?_) (fun c32 => ?_)
    · replace hk := ite_f hk c32
      refine lv_sipush (v := ((-1001) : Int32)) hx hb dX6_ask_30 (by decide) ?_
      refine lv_istore_n (lv' := [(3, .int ((-1001) : Int32)), (2, .int x2), (0, .ref (ad G 0)), (1, .int a1)]) hx hb dX6_ask_33 rfl hl (by decide) rfl (fun ls hl => ?_)
      refine lv_bipush (v := (7 : Int32)) hx hb dX6_ask_34 (by decide) ?_
      refine lv_istore (lv' := [(4, .int (7 : Int32)), (3, .int ((-1001) : Int32)), (2, .int x2), (0, .ref (ad G 0)), (1, .int a1)]) hx hb dX6_ask_36 hl (by decide) rfl (fun ls hl => ?_)
      refine lv_iconst (v := (0 : Int32)) hx hb dX6_ask_38 (by decide) ?_
      refine lv_istore (lv' := [(5, .int (0 : Int32)), (4, .int (7 : Int32)), (3, .int ((-1001) : Int32)), (2, .int x2), (0, .ref (ad G 0)), (1, .int a1)]) hx hb dX6_ask_39 hl (by decide) rfl (fun ls hl => ?_)
      replace hk := ob2_s hk
      obtain ⟨x7, M8, hz30, hk⟩ := hk
      have KX41 : ∀ (H : Heap) (locs : List Loc) (ls : Array Slot), Ws G true M8 s H locs → lv_has ls 8 [(3, .int x7)] → Wx p l e 4 s m args below meth c Q H locs 100 ls [] := by
        intro H locs ls hW hl
        refine lv_iload_n hx hb dX6_ask_100 rfl (lv_at hl 0 rfl) ?_
        obtain ⟨rfl, rfl⟩ := sp2 hk
        exact hret _ _ _ _ hW dX6_ask_101
      clear hk
      have LH41 : ∀ (n : Nat) (x3 : Int32) (x4 : Int32) (x5 : Int32) (M6 : Mem) (H : Heap) (locs : List Loc) (ls : Array Slot), f_X6_ask_L41 x2 n x3 x4 x5 M6 = some (x7, M8) → Ws G true M6 s H locs → lv_has ls 8 [(0, .ref (ad G 0)), (2, .int x2), (3, .int x3), (4, .int x4), (5, .int x5)] → Wx p l e 4 s m args below meth c Q H locs 41 ls [] := by
        clear hz30
        intro n
        induction n with
        | zero => intro _ _ _ _ _ _ _ hk; cases hk
        | succ n ih41 =>
          intro x3 x4 x5 M6 H locs ls hk hW hl
          rw [f_X6_ask_L41.eq_2] at hk
          refine lv_iload hx hb dX6_ask_41 (lv_at hl 4 rfl) ?_
          refine lv_bipush (v := (20 : Int32)) hx hb dX6_ask_43 (by decide) ?_
          refine lv_icmp_gt (tgt := 100) hx hb dX6_ask_45 (by decide) (fun c29 => ?_) (fun c29 => ?_)
          · replace hk := ite_t hk c29
            obtain ⟨rfl, rfl⟩ := sp2 hk
            exact KX41 _ _ _ hW (lv_sub hl [2] rfl)
          · replace hk := ite_f hk c29
            refine lv_iconst (v := (0 : Int32)) hx hb dX6_ask_48 (by decide) ?_
            refine lv_istore (lv' := [(6, .int (0 : Int32)), (0, .ref (ad G 0)), (2, .int x2), (3, .int x3), (4, .int x4), (5, .int x5)]) hx hb dX6_ask_49 hl (by decide) rfl (fun ls hl => ?_)
            replace hk := ob3_s hk
            obtain ⟨x13, x14, M15, hz27, hk⟩ := hk
            have KX51 : ∀ (H : Heap) (locs : List Loc) (ls : Array Slot), Ws G true M15 s H locs → lv_has ls 8 [(0, .ref (ad G 0)), (2, .int x2), (3, .int x13), (4, .int x14), (5, .int x5)] → Wx p l e 4 s m args below meth c Q H locs 94 ls [] := by
              intro H locs ls hW hl
              replace hk := lq_s hk
              obtain ⟨x26, ex26, hk⟩ := hk
              refine lv_iinc (v := x26) (lv' := [(5, .int x26), (0, .ref (ad G 0)), (2, .int x2), (3, .int x13), (4, .int x14)]) hx hb dX6_ask_94 hl (k := 4) rfl (by rw [ex26]; rfl) (by decide) rfl (fun ls hl => ?_)
              refine lv_goto (tgt := 41) hx hb dX6_ask_97 (by decide) ?_
              exact ih41 _ _ _ _ _ _ _ hk hW (lv_sub hl [1, 2, 3, 4, 0] rfl)
            clear hk
            have LH51 : ∀ (n : Nat) (x9 : Int32) (x10 : Int32) (x11 : Int32) (M12 : Mem) (H : Heap) (locs : List Loc) (ls : Array Slot), f_X6_ask_L51 x2 x5 n x9 x10 x11 M12 = some (x13, x14, M15) → Ws G true M12 s H locs → lv_has ls 8 [(0, .ref (ad G 0)), (2, .int x2), (3, .int x9), (4, .int x10), (5, .int x5), (6, .int x11)] → Wx p l e 4 s m args below meth c Q H locs 51 ls [] := by
              clear hz27
              intro n
              induction n with
              | zero => intro _ _ _ _ _ _ _ hk; cases hk
              | succ n ih51 =>
                intro x9 x10 x11 M12 H locs ls hk hW hl
                rw [f_X6_ask_L51.eq_2] at hk
                refine lv_iload hx hb dX6_ask_51 (lv_at hl 5 rfl) ?_
                refine lv_iconst (v := (1 : Int32)) hx hb dX6_ask_53 (by decide) ?_
                refine lv_icmp_gt (tgt := 94) hx hb dX6_ask_54 (by decide) (fun c25 => ?_) (fun c25 => ?_)
                · replace hk := ite_t hk c25
                  obtain ⟨rfl, rfl, rfl⟩ := sp3 hk
                  exact KX51 _ _ _ hW (lv_sub hl [0, 1, 2, 3, 4] rfl)
                · replace hk := ite_f hk c25
                  refine lv_aload_n hx hb dX6_ask_57 rfl (lv_at hl 0 rfl) ?_
                  refine lv_iload_n hx hb dX6_ask_58 rfl (lv_at hl 1 rfl) ?_
                  refine lv_iload hx hb dX6_ask_59 (lv_at hl 4 rfl) ?_
                  refine lv_iload hx hb dX6_ask_61 (lv_at hl 5 rfl) ?_
                  replace hk := ob2_s hk
                  obtain ⟨x16, M17, hx16, hk⟩ := hk
                  refine cl_i (rn_V g_753 g_755 gs_53 g_1 g_756 hd_X6_alikeByHigh (Nat.le_of_ble_eq_true rfl) (ci := 6) rfl (inC kd_0 rfl) (shp6 kd_0) hx hb hml hown hg hK hW (As := [.int x2, .int x5, .int x11]) (c_X6_alikeByHigh l G x2 x5 x11 M12 hx16) (by decide) rfl hl.1 rfl (Nat.le_of_ble_eq_true rfl) dX6_ask_63) hW (fun H locs hW => ?_)
                  refine lv_istore (lv' := [(7, .int x16), (0, .ref (ad G 0)), (2, .int x2), (3, .int x9), (4, .int x10), (5, .int x5), (6, .int x11)]) hx hb dX6_ask_66 hl (by decide) rfl (fun ls hl => ?_)
                  refine lv_iload hx hb dX6_ask_68 (lv_at hl 0 rfl) ?_
                  refine lv_iload hx hb dX6_ask_70 (lv_at hl 4 rfl) ?_
                  replace hk := ob2_s hk
                  obtain ⟨x20, x21, hr24, hk⟩ := hk
                  have KJ23 : ∀ (H : Heap) (locs : List Loc) (ls : Array Slot), Ws G true M17 s H locs → lv_has ls 8 [(0, .ref (ad G 0)), (2, .int x2), (3, .int x20), (4, .int x21), (5, .int x5), (6, .int x11)] → Wx p l e 4 s m args below meth c Q H locs 88 ls [] := by
                    intro H locs ls hW hl
                    replace hk := lq_s hk
                    obtain ⟨x22, ex22, hk⟩ := hk
                    refine lv_iinc (v := x22) (lv' := [(6, .int x22), (0, .ref (ad G 0)), (2, .int x2), (3, .int x20), (4, .int x21), (5, .int x5)]) hx hb dX6_ask_88 hl (k := 5) rfl (by rw [ex22]; rfl) (by decide) rfl (fun ls hl => ?_)
                    refine lv_goto (tgt := 51) hx hb dX6_ask_91 (by decide) ?_
                    exact ih51 _ _ _ _ _ _ _ hk hW (lv_sub hl [1, 2, 3, 4, 5, 0] rfl)
                  clear hk
                  have hk := hr24
                  clear hr24
                  refine lv_icmp_ge (tgt := 88) hx hb dX6_ask_72 (by decide) (fun c19 => ?_) (fun c19 => ?_)
                  · replace hk := ite_t hk c19
                    obtain ⟨rfl, rfl⟩ := sp2 hk
                    exact KJ23 _ _ _ hW (lv_sub hl [1, 2, 3, 4, 5, 6] rfl)
                  · replace hk := ite_f hk c19
                    refine lv_bipush (v := (10 : Int32)) hx hb dX6_ask_75 (by decide) ?_
                    refine lv_iload hx hb dX6_ask_77 (lv_at hl 5 rfl) ?_
                    refine lv_imul hx hb dX6_ask_79 ?_
                    refine lv_iload hx hb dX6_ask_80 (lv_at hl 6 rfl) ?_
                    refine lv_iadd hx hb dX6_ask_82 ?_
                    replace hk := lq_s hk
                    obtain ⟨x18, ex18, hk⟩ := hk
                    refine nm_i ex18 ?_
                    refine lv_istore_n (lv' := [(3, .int x18), (7, .int x16), (0, .ref (ad G 0)), (2, .int x2), (4, .int x10), (5, .int x5), (6, .int x11)]) hx hb dX6_ask_83 rfl hl (by decide) rfl (fun ls hl => ?_)
                    refine lv_iload hx hb dX6_ask_84 (lv_at hl 1 rfl) ?_
                    refine lv_istore (lv' := [(4, .int x16), (3, .int x18), (7, .int x16), (0, .ref (ad G 0)), (2, .int x2), (5, .int x5), (6, .int x11)]) hx hb dX6_ask_86 hl (by decide) rfl (fun ls hl => ?_)
                    obtain ⟨rfl, rfl⟩ := sp2 hk
                    exact KJ23 _ _ _ hW (lv_sub hl [3, 4, 1, 0, 5, 6] rfl)
            exact LH51 FU _ _ _ _ _ _ _ hz27 hW (lv_sub hl [1, 2, 3, 4, 5, 0] rfl)
      exact LH41 FU _ _ _ _ _ _ _ hz30 hW (lv_sub hl [4, 3, 2, 1, 0] rfl)
    · replace hk := ite_t hk c32
      refine lv_sipush (v := ((-1001) : Int32)) hx hb dX6_ask_26 (by decide) ?_
      obtain ⟨rfl, rfl⟩ := sp2 hk
      exact hret _ _ _ _ hW dX6_ask_29
  · replace hk := ite_f hk c35
    refine lv_aload_n hx hb dX6_ask_8 rfl (lv_at hl 0 rfl) ?_
    refine lv_sipush (v := ((-1002) : Int32)) hx hb dX6_ask_9 (by decide) ?_
    replace hk := ob2_s hk
    obtain ⟨x33, M34, hx33, hk⟩ := hk
    refine cl_i (rn_V g_281 g_283 gs_0 g_1 g_284 hd_X6_refuseBad (Nat.le_of_ble_eq_true rfl) (ci := 6) rfl (inC kd_0 rfl) (shp6 kd_0) hx hb hml hown hg hK hW (As := [.int ((-1002) : Int32)]) (c_X6_refuseBad l G ((-1002) : Int32) M hx33) (by decide) rfl hl.1 rfl (Nat.le_of_ble_eq_true rfl) dX6_ask_12) hW (fun H locs hW => ?_)
    obtain ⟨rfl, rfl⟩ := sp2 hk
    exact hret _ _ _ _ hW dX6_ask_15
def f_X6_hands_L65 (a3 : Int32) (M10 : Mem) (x12 : Int32) : Nat → Int32 → Int32 → Option ((Int32) ⊕ (Int32 × Mem))
  | 0, _, _ => none
  | n + 1, x14, x15 =>
    if (5 : Int32) ≤ x15 then (
      some (Sum.inl x14))
    else (
      ob (f_X0_rests 169 x12 x15 M10) (fun x17 =>
      if x17 = (0 : Int32) then (
        lq (x15 + (1 : Int32)) (fun x18 =>
        f_X6_hands_L65 a3 M10 x12 n x14 x18))
      else (
        if x14 = a3 then (
          some (Sum.inr ((((10 : Int32) * x12) + x15), M10)))
        else (
          lq (x14 + (1 : Int32)) (fun x19 =>
          lq (x15 + (1 : Int32)) (fun x20 =>
          f_X6_hands_L65 a3 M10 x12 n x19 x20))))))
def f_X6_hands_L56 (a3 : Int32) (M10 : Mem) : Nat → Int32 → Int32 → Option ((Int32) ⊕ (Int32 × Mem))
  | 0, _, _ => none
  | n + 1, x11, x12 =>
    if (5 : Int32) ≤ x12 then (
      some (Sum.inl x11))
    else (
      oeI1 (f_X6_hands_L65 a3 M10 x12 FU x11 (0 : Int32)) (fun x16 =>
      lq (x12 + (1 : Int32)) (fun x24 =>
      f_X6_hands_L56 a3 M10 n x16 x24)))
def f_X6_hands (a1 : Int32) (a2 : Int32) (a3 : Int32) (M : Mem) : Option (Int32 × Mem) :=
  if (f_X6_noLimb a1 M) = (0 : Int32) then (
    if (f_X6_noLimb a2 M) = (0 : Int32) then (
      if a1 = a2 then (
        ob2 (f_X6_refuseBad ((-10) : Int32) M) (fun x7 M8 =>
        some (x7, M8)))
      else (
        if ((-1) : Int32) ≤ a3 then (
          ob (f_X0_weigh 169 1 172 a1 a2 M) (fun M10 =>
          oeT1 (f_X6_hands_L56 a3 M10 FU (0 : Int32) (0 : Int32)) (fun x13 =>
          if a3 = ((-1) : Int32) then (
            some (x13, M10))
          else (
            some (((-5) : Int32), M10)))))
        else (
          ob2 (f_X6_refuseBad ((-10) : Int32) M) (fun x31 M32 =>
          some (x31, M32)))))
    else (
      ob2 (f_X6_refuseBad ((-10) : Int32) M) (fun x5 M6 =>
      some (x5, M6))))
  else (
    ob2 (f_X6_refuseBad ((-10) : Int32) M) (fun x2 M3 =>
    some (x2, M3)))
set_option maxHeartbeats 4000000 in
set_option maxRecDepth 100000 in
theorem c_X6_hands (l : Launch) (G : GT) (a1 : Int32) (a2 : Int32) (a3 : Int32) (M : Mem) {r : Int32} {M' : Mem} (hk : f_X6_hands a1 a2 a3 M = some (r, M')) : CMi l G true yX6_hands cX6_hands 7 (some .int) 5 [.ref (ad G 0), .int a1, .int a2, .int a3] M r M' := by
  unfold f_X6_hands at hk
  refine CMi.of (by decide) (Nat.le_of_ble_eq_true rfl) ?_
  intro p e s m args below meth c Q hx hb hml hown hg hK hW hret ls hl
  have hl : lv_has ls 7 [(0, .ref (ad G 0)), (1, .int a1), (2, .int a2), (3, .int a3)] := hl
  refine lv_aload_n hx hb dX6_hands_0 rfl (lv_at hl 0 rfl) ?_
  refine lv_iload_n hx hb dX6_hands_1 rfl (lv_at hl 1 rfl) ?_
  refine cl_i (rn_V g_514 g_516 gs_30 g_1 g_517 hd_X6_noLimb (Nat.le_of_ble_eq_true rfl) (ci := 6) rfl (inC kd_0 rfl) (shp6 kd_0) hx hb hml hown hg hK hW (As := [.int a1]) (c_X6_noLimb l G a1 M) (by decide) rfl hl.1 rfl (Nat.le_of_ble_eq_true rfl) dX6_hands_2) hW (fun H locs hW => ?_)
  refine lv_if_ne (tgt := 26) hx hb dX6_hands_5 (by decide) (fun c36 => ?_) (fun c36 => ?_)
  · replace hk := ite_f hk c36
    refine lv_aload_n hx hb dX6_hands_26 rfl (lv_at hl 0 rfl) ?_
    refine lv_bipush (v := ((-10) : Int32)) hx hb dX6_hands_27 (by decide) ?_
    replace hk := ob2_s hk
    obtain ⟨x2, M3, hx2, hk⟩ := hk
    refine cl_i (rn_V g_281 g_283 gs_0 g_1 g_284 hd_X6_refuseBad (Nat.le_of_ble_eq_true rfl) (ci := 6) rfl (inC kd_0 rfl) (shp6 kd_0) hx hb hml hown hg hK hW (As := [.int ((-10) : Int32)]) (c_X6_refuseBad l G ((-10) : Int32) M hx2) (by decide) rfl hl.1 rfl (Nat.le_of_ble_eq_true rfl) dX6_hands_29) hW (fun H locs hW => ?_)
    obtain ⟨rfl, rfl⟩ := sp2 hk
    exact hret _ _ _ _ hW dX6_hands_32
  · replace hk := ite_t hk c36
    refine lv_aload_n hx hb dX6_hands_8 rfl (lv_at hl 0 rfl) ?_
    refine lv_iload_n hx hb dX6_hands_9 rfl (lv_at hl 2 rfl) ?_
    refine cl_i (rn_V g_514 g_516 gs_30 g_1 g_517 hd_X6_noLimb (Nat.le_of_ble_eq_true rfl) (ci := 6) rfl (inC kd_0 rfl) (shp6 kd_0) hx hb hml hown hg hK hW (As := [.int a2]) (c_X6_noLimb l G a2 M) (by decide) rfl hl.1 rfl (Nat.le_of_ble_eq_true rfl) dX6_hands_10) hW (fun H locs hW => ?_)
    refine lv_if_ne (tgt := 26) hx hb dX6_hands_13 (by decide) (fun c35 => ?_) (fun c35 => ?_)
    · replace hk := ite_f hk c35
      refine lv_aload_n hx hb dX6_hands_26 rfl (lv_at hl 0 rfl) ?_
      refine lv_bipush (v := ((-10) : Int32)) hx hb dX6_hands_27 (by decide) ?_
      replace hk := ob2_s hk
      obtain ⟨x5, M6, hx5, hk⟩ := hk
      refine cl_i (rn_V g_281 g_283 gs_0 g_1 g_284 hd_X6_refuseBad (Nat.le_of_ble_eq_true rfl) (ci := 6) rfl (inC kd_0 rfl) (shp6 kd_0) hx hb hml hown hg hK hW (As := [.int ((-10) : Int32)]) (c_X6_refuseBad l G ((-10) : Int32) M hx5) (by decide) rfl hl.1 rfl (Nat.le_of_ble_eq_true rfl) dX6_hands_29) hW (fun H locs hW => ?_)
      obtain ⟨rfl, rfl⟩ := sp2 hk
      exact hret _ _ _ _ hW dX6_hands_32
    · replace hk := ite_t hk c35
      refine lv_iload_n hx hb dX6_hands_16 rfl (lv_at hl 1 rfl) ?_
      refine lv_iload_n hx hb dX6_hands_17 rfl (lv_at hl 2 rfl) ?_
      refine lv_icmp_eq (tgt := 26) hx hb dX6_hands_18 (by decide) (fun c34 => ?_) (fun c34 => ?_)
      · replace hk := ite_t hk c34
        refine lv_aload_n hx hb dX6_hands_26 rfl (lv_at hl 0 rfl) ?_
        refine lv_bipush (v := ((-10) : Int32)) hx hb dX6_hands_27 (by decide) ?_
        replace hk := ob2_s hk
        obtain ⟨x7, M8, hx7, hk⟩ := hk
        refine cl_i (rn_V g_281 g_283 gs_0 g_1 g_284 hd_X6_refuseBad (Nat.le_of_ble_eq_true rfl) (ci := 6) rfl (inC kd_0 rfl) (shp6 kd_0) hx hb hml hown hg hK hW (As := [.int ((-10) : Int32)]) (c_X6_refuseBad l G ((-10) : Int32) M hx7) (by decide) rfl hl.1 rfl (Nat.le_of_ble_eq_true rfl) dX6_hands_29) hW (fun H locs hW => ?_)
        obtain ⟨rfl, rfl⟩ := sp2 hk
        exact hret _ _ _ _ hW dX6_hands_32
      · replace hk := ite_f hk c34
        refine lv_iload_n hx hb dX6_hands_21 rfl (lv_at hl 3 rfl) ?_
        refine lv_iconst (v := ((-1) : Int32)) hx hb dX6_hands_22 (by decide) ?_
        refine lv_icmp_ge (tgt := 33) hx hb dX6_hands_23 (by decide) (fun c33 => ?_) (fun c33 => ?_)
        · replace hk := ite_t hk c33
          refine lv_aload_n hx hb dX6_hands_33 rfl (lv_at hl 0 rfl) ?_
          refine gt_X6_49 hx hb hg hown hK hW kd_0 dX6_hands_34 ?_
          refine lv_aload_n hx hb dX6_hands_37 rfl (lv_at hl 0 rfl) ?_
          refine gt_X6_10 hx hb hg hown hK hW kd_0 dX6_hands_38 ?_
          refine lv_aload_n hx hb dX6_hands_41 rfl (lv_at hl 0 rfl) ?_
          refine gt_X6_56 hx hb hg hown hK hW kd_0 dX6_hands_42 ?_
          refine lv_iload_n hx hb dX6_hands_45 rfl (lv_at hl 1 rfl) ?_
          refine lv_iload_n hx hb dX6_hands_46 rfl (lv_at hl 2 rfl) ?_
          replace hk := ob_s hk
          obtain ⟨M10, hx9, hk⟩ := hk
          refine cl_v (rn_VN n_761 g_763 gs_54 g_8 g_764 hd_X0_weigh (Nat.le_of_ble_eq_true rfl) (ci := 0) rfl (inC kd_169 rfl) (shp0 kd_169) hx hb hml hown hg hK hW (As := [.ref (ad G 1), .ref (ad G 172), .int a1, .int a2]) (c_X0_weigh l G kd_169 kd_1 kd_172 a1 a2 M hx9) (by decide) rfl hl.1 rfl (Nat.le_of_ble_eq_true rfl) dX6_hands_47) hW (fun H locs hW => ?_)
          refine lv_iconst (v := (0 : Int32)) hx hb dX6_hands_50 (by decide) ?_
          refine lv_istore (lv' := [(4, .int (0 : Int32)), (0, .ref (ad G 0)), (1, .int a1), (2, .int a2), (3, .int a3)]) hx hb dX6_hands_51 hl (by decide) rfl (fun ls hl => ?_)
          refine lv_iconst (v := (0 : Int32)) hx hb dX6_hands_53 (by decide) ?_
          refine lv_istore (lv' := [(5, .int (0 : Int32)), (4, .int (0 : Int32)), (0, .ref (ad G 0)), (1, .int a1), (2, .int a2), (3, .int a3)]) hx hb dX6_hands_54 hl (by decide) rfl (fun ls hl => ?_)
          replace hk := oeT1_s hk
          obtain ⟨z30, hz29, hk_56⟩ := hk
          have KX56 : ∀ (x13 : Int32), z30 = Sum.inl x13 → ∀ (H : Heap) (locs : List Loc) (ls : Array Slot), Ws G true M10 s H locs → lv_has ls 7 [(3, .int a3), (4, .int x13)] → Wx p l e 5 s m args below meth c Q H locs 115 ls [] := by
            intro x13 ez H locs ls hW hl
            have hk := hk_56.1 x13 ez
            refine lv_iload_n hx hb dX6_hands_115 rfl (lv_at hl 0 rfl) ?_
            refine lv_iconst (v := ((-1) : Int32)) hx hb dX6_hands_116 (by decide) ?_
            refine lv_icmp_ne (tgt := 125) hx hb dX6_hands_117 (by decide) (fun c28 => ?_) (fun c28 => ?_)
            · replace hk := ite_f hk c28
              refine lv_bipush (v := ((-5) : Int32)) hx hb dX6_hands_125 (by decide) ?_
              obtain ⟨rfl, rfl⟩ := sp2 hk
              exact hret _ _ _ _ hW dX6_hands_127
            · replace hk := ite_t hk c28
              refine lv_iload hx hb dX6_hands_120 (lv_at hl 1 rfl) ?_
              refine lv_goto (tgt := 127) hx hb dX6_hands_122 (by decide) ?_
              obtain ⟨rfl, rfl⟩ := sp2 hk
              exact hret _ _ _ _ hW dX6_hands_127
          have LH56 : ∀ (n : Nat) (x11 : Int32) (x12 : Int32) (H : Heap) (locs : List Loc) (ls : Array Slot), f_X6_hands_L56 a3 M10 n x11 x12 = some z30 → Ws G true M10 s H locs → lv_has ls 7 [(0, .ref (ad G 0)), (3, .int a3), (4, .int x11), (5, .int x12)] → Wx p l e 5 s m args below meth c Q H locs 56 ls [] := by
            clear hz29
            intro n
            induction n with
            | zero => intro _ _ _ _ _ hk; cases hk
            | succ n ih56 =>
              intro x11 x12 H locs ls hk hW hl
              rw [f_X6_hands_L56.eq_2] at hk
              refine lv_iload hx hb dX6_hands_56 (lv_at hl 3 rfl) ?_
              refine lv_iconst (v := (5 : Int32)) hx hb dX6_hands_58 (by decide) ?_
              refine lv_icmp_ge (tgt := 115) hx hb dX6_hands_59 (by decide) (fun c27 => ?_) (fun c27 => ?_)
              · replace hk := ite_t hk c27
                obtain rfl := Option.some.inj hk
                exact KX56 _ rfl _ _ _ hW (lv_sub hl [1, 2] rfl)
              · replace hk := ite_f hk c27
                refine lv_iconst (v := (0 : Int32)) hx hb dX6_hands_62 (by decide) ?_
                refine lv_istore (lv' := [(6, .int (0 : Int32)), (0, .ref (ad G 0)), (3, .int a3), (4, .int x11), (5, .int x12)]) hx hb dX6_hands_63 hl (by decide) rfl (fun ls hl => ?_)
                replace hk := oeI1_s hk
                obtain ⟨z26, hz25, hk_65⟩ := hk
                have KX65 : ∀ (x16 : Int32), z26 = Sum.inl x16 → ∀ (H : Heap) (locs : List Loc) (ls : Array Slot), Ws G true M10 s H locs → lv_has ls 7 [(0, .ref (ad G 0)), (3, .int a3), (4, .int x16), (5, .int x12)] → Wx p l e 5 s m args below meth c Q H locs 109 ls [] := by
                  intro x16 ez H locs ls hW hl
                  have hk := hk_65.1 x16 ez
                  replace hk := lq_s hk
                  obtain ⟨x24, ex24, hk⟩ := hk
                  refine lv_iinc (v := x24) (lv' := [(5, .int x24), (0, .ref (ad G 0)), (3, .int a3), (4, .int x16)]) hx hb dX6_hands_109 hl (k := 3) rfl (by rw [ex24]; rfl) (by decide) rfl (fun ls hl => ?_)
                  refine lv_goto (tgt := 56) hx hb dX6_hands_112 (by decide) ?_
                  exact ih56 _ _ _ _ _ hk hW (lv_sub hl [1, 2, 3, 0] rfl)
                have LH65 : ∀ (n : Nat) (x14 : Int32) (x15 : Int32) (H : Heap) (locs : List Loc) (ls : Array Slot), f_X6_hands_L65 a3 M10 x12 n x14 x15 = some z26 → Ws G true M10 s H locs → lv_has ls 7 [(0, .ref (ad G 0)), (3, .int a3), (4, .int x14), (5, .int x12), (6, .int x15)] → Wx p l e 5 s m args below meth c Q H locs 65 ls [] := by
                  clear hz25
                  intro n
                  induction n with
                  | zero => intro _ _ _ _ _ hk; cases hk
                  | succ n ih65 =>
                    intro x14 x15 H locs ls hk hW hl
                    rw [f_X6_hands_L65.eq_2] at hk
                    refine lv_iload hx hb dX6_hands_65 (lv_at hl 4 rfl) ?_
                    refine lv_iconst (v := (5 : Int32)) hx hb dX6_hands_67 (by decide) ?_
                    refine lv_icmp_ge (tgt := 109) hx hb dX6_hands_68 (by decide) (fun c23 => ?_) (fun c23 => ?_)
                    · replace hk := ite_t hk c23
                      obtain rfl := Option.some.inj hk
                      exact KX65 _ rfl _ _ _ hW (lv_sub hl [0, 1, 2, 3] rfl)
                    · replace hk := ite_f hk c23
                      refine lv_aload_n hx hb dX6_hands_71 rfl (lv_at hl 0 rfl) ?_
                      refine gt_X6_49 hx hb hg hown hK hW kd_0 dX6_hands_72 ?_
                      refine lv_iload hx hb dX6_hands_75 (lv_at hl 3 rfl) ?_
                      refine lv_iload hx hb dX6_hands_77 (lv_at hl 4 rfl) ?_
                      replace hk := ob_s hk
                      obtain ⟨x17, hx17, hk⟩ := hk
                      refine cl_i (rn_VN n_775 g_777 gs_55 g_8 g_778 hd_X0_rests (Nat.le_of_ble_eq_true rfl) (ci := 0) rfl (inC kd_169 rfl) (shp0 kd_169) hx hb hml hown hg hK hW (As := [.int x12, .int x15]) (c_X0_rests l G kd_169 x12 x15 M10 hx17) (by decide) rfl hl.1 rfl (Nat.le_of_ble_eq_true rfl) dX6_hands_79) hW (fun H locs hW => ?_)
                      refine lv_if_eq (tgt := 103) hx hb dX6_hands_82 (by decide) (fun c22 => ?_) (fun c22 => ?_)
                      · replace hk := ite_t hk c22
                        replace hk := lq_s hk
                        obtain ⟨x18, ex18, hk⟩ := hk
                        refine lv_iinc (v := x18) (lv' := [(6, .int x18), (0, .ref (ad G 0)), (3, .int a3), (4, .int x14), (5, .int x12)]) hx hb dX6_hands_103 hl (k := 4) rfl (by rw [ex18]; rfl) (by decide) rfl (fun ls hl => ?_)
                        refine lv_goto (tgt := 65) hx hb dX6_hands_106 (by decide) ?_
                        exact ih65 _ _ _ _ _ hk hW (lv_sub hl [1, 2, 3, 4, 0] rfl)
                      · replace hk := ite_f hk c22
                        refine lv_iload hx hb dX6_hands_85 (lv_at hl 2 rfl) ?_
                        refine lv_iload_n hx hb dX6_hands_87 rfl (lv_at hl 1 rfl) ?_
                        refine lv_icmp_ne (tgt := 100) hx hb dX6_hands_88 (by decide) (fun c21 => ?_) (fun c21 => ?_)
                        · replace hk := ite_f hk c21
                          replace hk := lq_s hk
                          obtain ⟨x19, ex19, hk⟩ := hk
                          refine lv_iinc (v := x19) (lv' := [(4, .int x19), (0, .ref (ad G 0)), (3, .int a3), (5, .int x12), (6, .int x15)]) hx hb dX6_hands_100 hl (k := 2) rfl (by rw [ex19]; rfl) (by decide) rfl (fun ls hl => ?_)
                          replace hk := lq_s hk
                          obtain ⟨x20, ex20, hk⟩ := hk
                          refine lv_iinc (v := x20) (lv' := [(6, .int x20), (4, .int x19), (0, .ref (ad G 0)), (3, .int a3), (5, .int x12)]) hx hb dX6_hands_103 hl (k := 4) rfl (by rw [ex20]; rfl) (by decide) rfl (fun ls hl => ?_)
                          refine lv_goto (tgt := 65) hx hb dX6_hands_106 (by decide) ?_
                          exact ih65 _ _ _ _ _ hk hW (lv_sub hl [2, 3, 1, 4, 0] rfl)
                        · replace hk := ite_t hk c21
                          refine lv_bipush (v := (10 : Int32)) hx hb dX6_hands_91 (by decide) ?_
                          refine lv_iload hx hb dX6_hands_93 (lv_at hl 3 rfl) ?_
                          refine lv_imul hx hb dX6_hands_95 ?_
                          refine lv_iload hx hb dX6_hands_96 (lv_at hl 4 rfl) ?_
                          refine lv_iadd hx hb dX6_hands_98 ?_
                          obtain rfl := Option.some.inj hk
                          have hk := hk_65.2 _ rfl
                          obtain rfl := Option.some.inj hk
                          have hk := hk_56.2 _ rfl
                          obtain ⟨rfl, rfl⟩ := sp2 hk
                          exact hret _ _ _ _ hW dX6_hands_99
                exact LH65 FU _ _ _ _ _ hz25 hW (lv_sub hl [1, 2, 3, 4, 0] rfl)
          exact LH56 FU _ _ _ _ _ hz29 hW (lv_sub hl [2, 5, 1, 0] rfl)
        · replace hk := ite_f hk c33
          refine lv_aload_n hx hb dX6_hands_26 rfl (lv_at hl 0 rfl) ?_
          refine lv_bipush (v := ((-10) : Int32)) hx hb dX6_hands_27 (by decide) ?_
          replace hk := ob2_s hk
          obtain ⟨x31, M32, hx31, hk⟩ := hk
          refine cl_i (rn_V g_281 g_283 gs_0 g_1 g_284 hd_X6_refuseBad (Nat.le_of_ble_eq_true rfl) (ci := 6) rfl (inC kd_0 rfl) (shp6 kd_0) hx hb hml hown hg hK hW (As := [.int ((-10) : Int32)]) (c_X6_refuseBad l G ((-10) : Int32) M hx31) (by decide) rfl hl.1 rfl (Nat.le_of_ble_eq_true rfl) dX6_hands_29) hW (fun H locs hW => ?_)
          obtain ⟨rfl, rfl⟩ := sp2 hk
          exact hret _ _ _ _ hW dX6_hands_32
def f_X6_chanceOfSlack_L64 (a1 : Int32) (a2 : Int32) (x4 : Int32) : Nat → Int64 → Int32 → Mem → Option (Int64 × Mem)
  | 0, _, _, _ => none
  | n + 1, x10, x11, M12 =>
    if a1 ≤ x11 then (
      some (x10, M12))
    else (
      lq (f_X6_hasBit x4 x11) (fun x16 =>
      lq (
        if x16 = (0 : Int32) then (
          ((10 : Int32) - a2).toInt64)
        else (
          a2.toInt64))
       (fun x18 =>
      lq (x10 * x18) (fun x19 =>
      ob (
        if x16 = (0 : Int32) then (
          ob (f_X6_cell (1 + 33) x11 M12) (fun x20 =>
          some x20))
        else (
          some (4 : Int32)))
       (fun x22 =>
      ob (f_X2_step 1 172 x22 M12) (fun M24 =>
      lq (x11 + (1 : Int32)) (fun x25 =>
      f_X6_chanceOfSlack_L64 a1 a2 x4 n x19 x25 M24)))))))
def f_X6_chanceOfSlack_L36 (a1 : Int32) (a2 : Int32) (x2 : Int32) : Nat → Int64 → Int32 → Mem → Option (Int64 × Mem)
  | 0, _, _, _ => none
  | n + 1, x3, x4, M5 =>
    if ((1 : Int32) <<< (a1 &&& 31)) ≤ x4 then (
      some (x3, M5))
    else (
      ob (f_X1_become 172 (1 + 5) M5) (fun M9 =>
      ob2 (f_X6_chanceOfSlack_L64 a1 a2 x4 FU (1 : Int64) (0 : Int32) M9) (fun x13 M14 =>
      ob (f_X2_highIn 1 172 (M14.1 1 11) M14) (fun x31 =>
      lq (
        if x31 = x2 then (
          lq (x3 + x13) (fun x32 =>
          x32))
        else (
          x3))
       (fun x34 =>
      lq (x4 + (1 : Int32)) (fun x35 =>
      f_X6_chanceOfSlack_L36 a1 a2 x2 n x34 x35 M14))))))
def f_X6_chanceOfSlack (a1 : Int32) (a2 : Int32) (M : Mem) : Option (Int64 × Mem) :=
  if (f_X6_noLimb (M.1 1 11) M) = (0 : Int32) then (
    ob (f_X6_cell (1 + 34) (a1 - (1 : Int32)) M) (fun x2 =>
    ob2 (f_X6_chanceOfSlack_L36 a1 a2 x2 FU (0 : Int64) (0 : Int32) M) (fun x6 M7 =>
    some (x6, M7))))
  else (
    some ((0 : Int64), M))
set_option maxHeartbeats 4000000 in
set_option maxRecDepth 100000 in
theorem c_X6_chanceOfSlack (l : Launch) (G : GT) (a1 : Int32) (a2 : Int32) (M : Mem) {r : Int64} {M' : Mem} (hk : f_X6_chanceOfSlack a1 a2 M = some (r, M')) : CMl l G true yX6_chanceOfSlack cX6_chanceOfSlack 11 (some .long) 4 [.ref (ad G 0), .int a1, .int a2] M r M' := by
  unfold f_X6_chanceOfSlack at hk
  refine CMl.of (by decide) (Nat.le_of_ble_eq_true rfl) ?_
  intro p e s m args below meth c Q hx hb hml hown hg hK hW hret ls hl
  have hl : lv_has ls 11 [(0, .ref (ad G 0)), (1, .int a1), (2, .int a2)] := hl
  refine lv_aload_n hx hb dX6_chanceOfSlack_0 rfl (lv_at hl 0 rfl) ?_
  refine lv_aload_n hx hb dX6_chanceOfSlack_1 rfl (lv_at hl 0 rfl) ?_
  refine gt_X6_10 hx hb hg hown hK hW kd_0 dX6_chanceOfSlack_2 ?_
  refine gt_X6_208 hx hb hg hown hK hW kd_1 dX6_chanceOfSlack_5 ?_
  refine cl_i (rn_V g_514 g_516 gs_30 g_1 g_517 hd_X6_noLimb (Nat.le_of_ble_eq_true rfl) (ci := 6) rfl (inC kd_0 rfl) (shp6 kd_0) hx hb hml hown hg hK hW (As := [.int (M.1 1 11)]) (c_X6_noLimb l G (M.1 1 11) M) (by decide) rfl hl.1 rfl (Nat.le_of_ble_eq_true rfl) dX6_chanceOfSlack_8) hW (fun H locs hW => ?_)
  refine lv_if_eq (tgt := 16) hx hb dX6_chanceOfSlack_11 (by decide) (fun c43 => ?_) (fun c43 => ?_)
  · replace hk := ite_t hk c43
    refine lv_aload_n hx hb dX6_chanceOfSlack_16 rfl (lv_at hl 0 rfl) ?_
    refine gt_X6_10 hx hb hg hown hK hW kd_0 dX6_chanceOfSlack_17 ?_
    refine gt_X6_205 hx hb hg hown hK hW kd_1 dX6_chanceOfSlack_20 ?_
    refine lv_iload_n hx hb dX6_chanceOfSlack_23 rfl (lv_at hl 1 rfl) ?_
    refine lv_iconst (v := (1 : Int32)) hx hb dX6_chanceOfSlack_24 (by decide) ?_
    refine lv_isub hx hb dX6_chanceOfSlack_25 ?_
    replace hk := ob_s hk
    obtain ⟨x2, hx2, hk⟩ := hk
    refine cl_i (rn_S g_607 g_346 g_1 g_347 hd_X6_cell (Nat.le_of_ble_eq_true rfl) hx hb hml hown hg hK hW (As := [.ref (ad G (1 + 34)), .int (a1 - (1 : Int32))]) (c_X6_cell l G (k2_34 kd_1) (a1 - (1 : Int32)) M hx2) (by decide) rfl hl.1 rfl (Nat.le_of_ble_eq_true rfl) dX6_chanceOfSlack_26) hW (fun H locs hW => ?_)
    refine lv_istore_n (lv' := [(3, .int x2), (0, .ref (ad G 0)), (1, .int a1), (2, .int a2)]) hx hb dX6_chanceOfSlack_29 rfl hl (by decide) rfl (fun ls hl => ?_)
    refine lv_lconst (v := (0 : Int64)) hx hb dX6_chanceOfSlack_30 (by decide) ?_
    refine lv_lstore (lv' := [(4, .long (0 : Int64)), (3, .int x2), (0, .ref (ad G 0)), (1, .int a1), (2, .int a2)]) hx hb dX6_chanceOfSlack_31 hl (by decide) rfl (fun ls hl => ?_)
    refine lv_iconst (v := (0 : Int32)) hx hb dX6_chanceOfSlack_33 (by decide) ?_
    refine lv_istore (lv' := [(6, .int (0 : Int32)), (4, .long (0 : Int64)), (3, .int x2), (0, .ref (ad G 0)), (1, .int a1), (2, .int a2)]) hx hb dX6_chanceOfSlack_34 hl (by decide) rfl (fun ls hl => ?_)
    replace hk := ob2_s hk
    obtain ⟨x6, M7, hz41, hk⟩ := hk
    have KX36 : ∀ (H : Heap) (locs : List Loc) (ls : Array Slot), Ws G true M7 s H locs → lv_has ls 11 [(4, .long x6)] → Wx p l e 4 s m args below meth c Q H locs 172 ls [] := by
      intro H locs ls hW hl
      refine lv_lload hx hb dX6_chanceOfSlack_172 (lv_at hl 0 rfl) ?_
      obtain ⟨rfl, rfl⟩ := sp2 hk
      exact hret _ _ _ _ hW dX6_chanceOfSlack_174
    clear hk
    have LH36 : ∀ (n : Nat) (x3 : Int64) (x4 : Int32) (M5 : Mem) (H : Heap) (locs : List Loc) (ls : Array Slot), f_X6_chanceOfSlack_L36 a1 a2 x2 n x3 x4 M5 = some (x6, M7) → Ws G true M5 s H locs → lv_has ls 11 [(0, .ref (ad G 0)), (1, .int a1), (2, .int a2), (3, .int x2), (4, .long x3), (6, .int x4)] → Wx p l e 4 s m args below meth c Q H locs 36 ls [] := by
      clear hz41
      intro n
      induction n with
      | zero => intro _ _ _ _ _ _ hk; cases hk
      | succ n ih36 =>
        intro x3 x4 M5 H locs ls hk hW hl
        rw [f_X6_chanceOfSlack_L36.eq_2] at hk
        refine lv_iload hx hb dX6_chanceOfSlack_36 (lv_at hl 5 rfl) ?_
        refine lv_iconst (v := (1 : Int32)) hx hb dX6_chanceOfSlack_38 (by decide) ?_
        refine lv_iload_n hx hb dX6_chanceOfSlack_39 rfl (lv_at hl 1 rfl) ?_
        refine lv_ishl hx hb dX6_chanceOfSlack_40 ?_
        refine lv_icmp_ge (tgt := 172) hx hb dX6_chanceOfSlack_41 (by decide) (fun c40 => ?_) (fun c40 => ?_)
        · replace hk := ite_t hk c40
          obtain ⟨rfl, rfl⟩ := sp2 hk
          exact KX36 _ _ _ hW (lv_sub hl [4] rfl)
        · replace hk := ite_f hk c40
          refine lv_lconst (v := (1 : Int64)) hx hb dX6_chanceOfSlack_44 (by decide) ?_
          refine lv_lstore (lv' := [(7, .long (1 : Int64)), (0, .ref (ad G 0)), (1, .int a1), (2, .int a2), (3, .int x2), (4, .long x3), (6, .int x4)]) hx hb dX6_chanceOfSlack_45 hl (by decide) rfl (fun ls hl => ?_)
          refine lv_aload_n hx hb dX6_chanceOfSlack_47 rfl (lv_at hl 1 rfl) ?_
          refine gt_X6_56 hx hb hg hown hK hW kd_0 dX6_chanceOfSlack_48 ?_
          refine lv_aload_n hx hb dX6_chanceOfSlack_51 rfl (lv_at hl 1 rfl) ?_
          refine gt_X6_10 hx hb hg hown hK hW kd_0 dX6_chanceOfSlack_52 ?_
          refine gt_X6_118 hx hb hg hown hK hW kd_1 dX6_chanceOfSlack_55 ?_
          replace hk := ob_s hk
          obtain ⟨M9, hx8, hk⟩ := hk
          refine cl_v (rn_VN n_637 g_478 gs_24 g_3 g_479 hd_X1_become (Nat.le_of_ble_eq_true rfl) (ci := 1) rfl (inC kd_172 rfl) (shp1 kd_172) hx hb hml hown hg hK hW (As := [.ref (ad G (1 + 5))]) (c_X1_become l G kd_172 (k2_5 kd_1) M5 hx8) (by decide) rfl hl.1 rfl (Nat.le_of_ble_eq_true rfl) dX6_chanceOfSlack_58) hW (fun H locs hW => ?_)
          refine lv_iconst (v := (0 : Int32)) hx hb dX6_chanceOfSlack_61 (by decide) ?_
          refine lv_istore (lv' := [(9, .int (0 : Int32)), (7, .long (1 : Int64)), (0, .ref (ad G 0)), (1, .int a1), (2, .int a2), (3, .int x2), (4, .long x3), (6, .int x4)]) hx hb dX6_chanceOfSlack_62 hl (by decide) rfl (fun ls hl => ?_)
          replace hk := ob2_s hk
          obtain ⟨x13, M14, hz38, hk⟩ := hk
          have KX64 : ∀ (H : Heap) (locs : List Loc) (ls : Array Slot), Ws G true M14 s H locs → lv_has ls 11 [(0, .ref (ad G 0)), (1, .int a1), (2, .int a2), (3, .int x2), (4, .long x3), (6, .int x4), (7, .long x13)] → Wx p l e 4 s m args below meth c Q H locs 137 ls [] := by
            intro H locs ls hW hl
            refine lv_aload_n hx hb dX6_chanceOfSlack_137 rfl (lv_at hl 0 rfl) ?_
            refine gt_X6_10 hx hb hg hown hK hW kd_0 dX6_chanceOfSlack_138 ?_
            refine lv_aload_n hx hb dX6_chanceOfSlack_141 rfl (lv_at hl 0 rfl) ?_
            refine gt_X6_56 hx hb hg hown hK hW kd_0 dX6_chanceOfSlack_142 ?_
            refine lv_aload_n hx hb dX6_chanceOfSlack_145 rfl (lv_at hl 0 rfl) ?_
            refine gt_X6_10 hx hb hg hown hK hW kd_0 dX6_chanceOfSlack_146 ?_
            refine gt_X6_208 hx hb hg hown hK hW kd_1 dX6_chanceOfSlack_149 ?_
            replace hk := ob_s hk
            obtain ⟨x31, hx31, hk⟩ := hk
            refine cl_i (rn_VN n_572 g_549 gs_34 g_2 g_550 hd_X2_highIn (Nat.le_of_ble_eq_true rfl) (ci := 2) rfl (inC kd_1 rfl) (shp2 kd_1) hx hb hml hown hg hK hW (As := [.ref (ad G 172), .int (M14.1 1 11)]) (c_X2_highIn l G kd_1 kd_172 (M14.1 1 11) M14 hx31) (by decide) rfl hl.1 rfl (Nat.le_of_ble_eq_true rfl) dX6_chanceOfSlack_152) hW (fun H locs hW => ?_)
            refine lv_iload_n hx hb dX6_chanceOfSlack_155 rfl (lv_at hl 3 rfl) ?_
            replace hk := lq_s hk
            obtain ⟨x34, hr37, hk⟩ := hk
            have KJ36 : ∀ (H : Heap) (locs : List Loc) (ls : Array Slot), Ws G true M14 s H locs → lv_has ls 11 [(0, .ref (ad G 0)), (1, .int a1), (2, .int a2), (3, .int x2), (4, .long x34), (6, .int x4)] → Wx p l e 4 s m args below meth c Q H locs 166 ls [] := by
              intro H locs ls hW hl
              replace hk := lq_s hk
              obtain ⟨x35, ex35, hk⟩ := hk
              refine lv_iinc (v := x35) (lv' := [(6, .int x35), (0, .ref (ad G 0)), (1, .int a1), (2, .int a2), (3, .int x2), (4, .long x34)]) hx hb dX6_chanceOfSlack_166 hl (k := 5) rfl (by rw [ex35]; rfl) (by decide) rfl (fun ls hl => ?_)
              refine lv_goto (tgt := 36) hx hb dX6_chanceOfSlack_169 (by decide) ?_
              exact ih36 _ _ _ _ _ _ hk hW (lv_sub hl [1, 2, 3, 4, 5, 0] rfl)
            clear hk
            have hk := hr37.symm
            clear hr37
            refine lv_icmp_ne (tgt := 166) hx hb dX6_chanceOfSlack_156 (by decide) (fun c33 => ?_) (fun c33 => ?_)
            · replace hk := ite_f hk c33
              subst hk
              exact KJ36 _ _ _ hW (lv_sub hl [0, 1, 2, 3, 4, 5] rfl)
            · replace hk := ite_t hk c33
              refine lv_lload hx hb dX6_chanceOfSlack_159 (lv_at hl 4 rfl) ?_
              refine lv_lload hx hb dX6_chanceOfSlack_161 (lv_at hl 6 rfl) ?_
              refine lv_ladd hx hb dX6_chanceOfSlack_163 ?_
              replace hk := lq_s hk
              obtain ⟨x32, ex32, hk⟩ := hk
              refine nm_l ex32 ?_
              refine lv_lstore (lv' := [(4, .long x32), (0, .ref (ad G 0)), (1, .int a1), (2, .int a2), (3, .int x2), (6, .int x4), (7, .long x13)]) hx hb dX6_chanceOfSlack_164 hl (by decide) rfl (fun ls hl => ?_)
              subst hk
              exact KJ36 _ _ _ hW (lv_sub hl [1, 2, 3, 4, 0, 5] rfl)
          clear hk
          have LH64 : ∀ (n : Nat) (x10 : Int64) (x11 : Int32) (M12 : Mem) (H : Heap) (locs : List Loc) (ls : Array Slot), f_X6_chanceOfSlack_L64 a1 a2 x4 n x10 x11 M12 = some (x13, M14) → Ws G true M12 s H locs → lv_has ls 11 [(0, .ref (ad G 0)), (1, .int a1), (2, .int a2), (3, .int x2), (4, .long x3), (6, .int x4), (7, .long x10), (9, .int x11)] → Wx p l e 4 s m args below meth c Q H locs 64 ls [] := by
            clear hz38
            intro n
            induction n with
            | zero => intro _ _ _ _ _ _ hk; cases hk
            | succ n ih64 =>
              intro x10 x11 M12 H locs ls hk hW hl
              rw [f_X6_chanceOfSlack_L64.eq_2] at hk
              refine lv_iload hx hb dX6_chanceOfSlack_64 (lv_at hl 7 rfl) ?_
              refine lv_iload_n hx hb dX6_chanceOfSlack_66 rfl (lv_at hl 1 rfl) ?_
              refine lv_icmp_ge (tgt := 137) hx hb dX6_chanceOfSlack_67 (by decide) (fun c30 => ?_) (fun c30 => ?_)
              · replace hk := ite_t hk c30
                obtain ⟨rfl, rfl⟩ := sp2 hk
                exact KX64 _ _ _ hW (lv_sub hl [0, 1, 2, 3, 4, 5, 6] rfl)
              · replace hk := ite_f hk c30
                refine lv_iload hx hb dX6_chanceOfSlack_70 (lv_at hl 5 rfl) ?_
                refine lv_iload hx hb dX6_chanceOfSlack_72 (lv_at hl 7 rfl) ?_
                refine cl_i (rn_S g_687 g_688 g_1 g_689 hd_X6_hasBit (Nat.le_of_ble_eq_true rfl) hx hb hml hown hg hK hW (As := [.int x4, .int x11]) (c_X6_hasBit l G x4 x11 M12) (by decide) rfl hl.1 rfl (Nat.le_of_ble_eq_true rfl) dX6_chanceOfSlack_74) hW (fun H locs hW => ?_)
                replace hk := lq_s hk
                obtain ⟨x16, ex16, hk⟩ := hk
                refine nm_i ex16 ?_
                refine lv_istore (lv' := [(10, .int x16), (0, .ref (ad G 0)), (1, .int a1), (2, .int a2), (3, .int x2), (4, .long x3), (6, .int x4), (7, .long x10), (9, .int x11)]) hx hb dX6_chanceOfSlack_77 hl (by decide) rfl (fun ls hl => ?_)
                refine lv_lload hx hb dX6_chanceOfSlack_79 (lv_at hl 7 rfl) ?_
                refine lv_iload hx hb dX6_chanceOfSlack_81 (lv_at hl 0 rfl) ?_
                replace hk := lq_s hk
                obtain ⟨x18, hr29, hk⟩ := hk
                have KJ28 : ∀ (H : Heap) (locs : List Loc) (ls : Array Slot), Ws G true M12 s H locs → lv_has ls 11 [(0, .ref (ad G 0)), (1, .int a1), (2, .int a2), (3, .int x2), (4, .long x3), (6, .int x4), (9, .int x11), (10, .int x16)] → Wx p l e 4 s m args below meth c Q H locs 96 ls [.long x18, .long x10] := by
                  intro H locs ls hW hl
                  refine lv_lmul hx hb dX6_chanceOfSlack_96 ?_
                  replace hk := lq_s hk
                  obtain ⟨x19, ex19, hk⟩ := hk
                  refine nm_l ex19 ?_
                  refine lv_lstore (lv' := [(7, .long x19), (0, .ref (ad G 0)), (1, .int a1), (2, .int a2), (3, .int x2), (4, .long x3), (6, .int x4), (9, .int x11), (10, .int x16)]) hx hb dX6_chanceOfSlack_97 hl (by decide) rfl (fun ls hl => ?_)
                  refine lv_aload_n hx hb dX6_chanceOfSlack_99 rfl (lv_at hl 1 rfl) ?_
                  refine gt_X6_10 hx hb hg hown hK hW kd_0 dX6_chanceOfSlack_100 ?_
                  refine lv_aload_n hx hb dX6_chanceOfSlack_103 rfl (lv_at hl 1 rfl) ?_
                  refine gt_X6_56 hx hb hg hown hK hW kd_0 dX6_chanceOfSlack_104 ?_
                  refine lv_iload hx hb dX6_chanceOfSlack_107 (lv_at hl 8 rfl) ?_
                  replace hk := ob_s hk
                  obtain ⟨x22, hr27, hk⟩ := hk
                  have KJ26 : ∀ (H : Heap) (locs : List Loc) (ls : Array Slot), Ws G true M12 s H locs → lv_has ls 11 [(0, .ref (ad G 0)), (1, .int a1), (2, .int a2), (3, .int x2), (4, .long x3), (6, .int x4), (7, .long x19), (9, .int x11)] → Wx p l e 4 s m args below meth c Q H locs 128 ls [.int x22, .ref (ad G 172), .ref (ad G 1)] := by
                    intro H locs ls hW hl
                    replace hk := ob_s hk
                    obtain ⟨M24, hx23, hk⟩ := hk
                    refine cl_v (rn_VN n_504 g_432 gs_18 g_2 g_433 hd_X2_step (Nat.le_of_ble_eq_true rfl) (ci := 2) rfl (inC kd_1 rfl) (shp2 kd_1) hx hb hml hown hg hK hW (As := [.ref (ad G 172), .int x22]) (c_X2_step l G kd_1 kd_172 x22 M12 hx23) (by decide) rfl hl.1 rfl (Nat.le_of_ble_eq_true rfl) dX6_chanceOfSlack_128) hW (fun H locs hW => ?_)
                    replace hk := lq_s hk
                    obtain ⟨x25, ex25, hk⟩ := hk
                    refine lv_iinc (v := x25) (lv' := [(9, .int x25), (0, .ref (ad G 0)), (1, .int a1), (2, .int a2), (3, .int x2), (4, .long x3), (6, .int x4), (7, .long x19)]) hx hb dX6_chanceOfSlack_131 hl (k := 7) rfl (by rw [ex25]; rfl) (by decide) rfl (fun ls hl => ?_)
                    refine lv_goto (tgt := 64) hx hb dX6_chanceOfSlack_134 (by decide) ?_
                    exact ih64 _ _ _ _ _ _ hk hW (lv_sub hl [1, 2, 3, 4, 5, 6, 7, 0] rfl)
                  clear hk
                  have hk := hr27
                  clear hr27
                  refine lv_if_eq (tgt := 116) hx hb dX6_chanceOfSlack_109 (by decide) (fun c21 => ?_) (fun c21 => ?_)
                  · replace hk := ite_t hk c21
                    refine lv_aload_n hx hb dX6_chanceOfSlack_116 rfl (lv_at hl 1 rfl) ?_
                    refine gt_X6_10 hx hb hg hown hK hW kd_0 dX6_chanceOfSlack_117 ?_
                    refine gt_X6_202 hx hb hg hown hK hW kd_1 dX6_chanceOfSlack_120 ?_
                    refine lv_iload hx hb dX6_chanceOfSlack_123 (lv_at hl 7 rfl) ?_
                    replace hk := ob_s hk
                    obtain ⟨x20, hx20, hk⟩ := hk
                    refine cl_i (rn_S g_607 g_346 g_1 g_347 hd_X6_cell (Nat.le_of_ble_eq_true rfl) hx hb hml hown hg hK hW (As := [.ref (ad G (1 + 33)), .int x11]) (c_X6_cell l G (k2_33 kd_1) x11 M12 hx20) (by decide) rfl hl.1 rfl (Nat.le_of_ble_eq_true rfl) dX6_chanceOfSlack_125) hW (fun H locs hW => ?_)
                    obtain rfl := Option.some.inj hk
                    exact KJ26 _ _ _ hW (lv_sub hl [1, 2, 3, 4, 5, 6, 0, 7] rfl)
                  · replace hk := ite_f hk c21
                    refine lv_iconst (v := (4 : Int32)) hx hb dX6_chanceOfSlack_112 (by decide) ?_
                    refine lv_goto (tgt := 128) hx hb dX6_chanceOfSlack_113 (by decide) ?_
                    obtain rfl := Option.some.inj hk
                    exact KJ26 _ _ _ hW (lv_sub hl [1, 2, 3, 4, 5, 6, 0, 7] rfl)
                clear hk
                have hk := hr29.symm
                clear hr29
                refine lv_if_eq (tgt := 91) hx hb dX6_chanceOfSlack_83 (by decide) (fun c17 => ?_) (fun c17 => ?_)
                · replace hk := ite_t hk c17
                  refine lv_bipush (v := (10 : Int32)) hx hb dX6_chanceOfSlack_91 (by decide) ?_
                  refine lv_iload_n hx hb dX6_chanceOfSlack_93 rfl (lv_at hl 3 rfl) ?_
                  refine lv_isub hx hb dX6_chanceOfSlack_94 ?_
                  refine lv_i2l hx hb dX6_chanceOfSlack_95 rfl ?_
                  subst hk
                  exact KJ28 _ _ _ hW (lv_sub hl [1, 2, 3, 4, 5, 6, 8, 0] rfl)
                · replace hk := ite_f hk c17
                  refine lv_iload_n hx hb dX6_chanceOfSlack_86 rfl (lv_at hl 3 rfl) ?_
                  refine lv_i2l hx hb dX6_chanceOfSlack_87 rfl ?_
                  refine lv_goto (tgt := 96) hx hb dX6_chanceOfSlack_88 (by decide) ?_
                  subst hk
                  exact KJ28 _ _ _ hW (lv_sub hl [1, 2, 3, 4, 5, 6, 8, 0] rfl)
          exact LH64 FU _ _ _ _ _ _ hz38 hW (lv_sub hl [2, 3, 4, 5, 6, 7, 1, 0] rfl)
    exact LH36 FU _ _ _ _ _ _ hz41 hW (lv_sub hl [3, 4, 5, 2, 1, 0] rfl)
  · replace hk := ite_f hk c43
    refine lv_lconst (v := (0 : Int64)) hx hb dX6_chanceOfSlack_14 (by decide) ?_
    obtain ⟨rfl, rfl⟩ := sp2 hk
    exact hret _ _ _ _ hW dX6_chanceOfSlack_15
def f_X6_setFraction_L9 : Nat → Int64 → Int64 → Int32 → Option (Int64)
  | 0, _, _, _ => none
  | n + 1, x1, x2, x3 =>
    if (100 : Int32) ≤ x3 then (
      some x1)
    else (
      if (lg_cmp x2 (0 : Int64)) = (0 : Int32) then (
        some x1)
      else (
        ob (rmL x1 x2) (fun x5 =>
        lq (x3 + (1 : Int32)) (fun x6 =>
        f_X6_setFraction_L9 n x2 x5 x6))))
def f_X6_setFraction (a1 : Int64) (a3 : Int64) (M : Mem) : Option (Mem) :=
  ob (f_X6_setFraction_L9 FU a3 a1 (0 : Int32)) (fun x4 =>
  if (lg_cmp x4 (0 : Int64)) ≤ (0 : Int32) then (
    some M)
  else (
    ob (dvL a1 x4) (fun x9 =>
    lq (s2 M 0 11 x9) (fun M10 =>
    ob (dvL a3 x4) (fun x11 =>
    lq (s2 M10 0 12 x11) (fun M12 =>
    some M12))))))
set_option maxHeartbeats 4000000 in
set_option maxRecDepth 100000 in
theorem c_X6_setFraction (l : Launch) (G : GT) (a1 : Int64) (a3 : Int64) (M : Mem) {M' : Mem} (hk : f_X6_setFraction a1 a3 M = some M') : CMv l G true yX6_setFraction cX6_setFraction 12 none 0 [.ref (ad G 0), .long a1, .long a3] M M' := by
  unfold f_X6_setFraction at hk
  refine CMv.of (by decide) (Nat.le_of_ble_eq_true rfl) ?_
  intro p e s m args below meth c Q hx hb hml hown hg hK hW hret ls hl
  have hl : lv_has ls 12 [(0, .ref (ad G 0)), (1, .long a1), (3, .long a3)] := hl
  refine lv_lload_n hx hb dX6_setFraction_0 rfl (lv_at hl 2 rfl) ?_
  refine lv_lstore (lv' := [(5, .long a3), (0, .ref (ad G 0)), (1, .long a1), (3, .long a3)]) hx hb dX6_setFraction_1 hl (by decide) rfl (fun ls hl => ?_)
  refine lv_lload_n hx hb dX6_setFraction_3 rfl (lv_at hl 2 rfl) ?_
  refine lv_lstore (lv' := [(7, .long a1), (5, .long a3), (0, .ref (ad G 0)), (1, .long a1), (3, .long a3)]) hx hb dX6_setFraction_4 hl (by decide) rfl (fun ls hl => ?_)
  refine lv_iconst (v := (0 : Int32)) hx hb dX6_setFraction_6 (by decide) ?_
  refine lv_istore (lv' := [(9, .int (0 : Int32)), (7, .long a1), (5, .long a3), (0, .ref (ad G 0)), (1, .long a1), (3, .long a3)]) hx hb dX6_setFraction_7 hl (by decide) rfl (fun ls hl => ?_)
  replace hk := ob_s hk
  obtain ⟨x4, hz14, hk⟩ := hk
  have KX9 : ∀ (H : Heap) (locs : List Loc) (ls : Array Slot), Ws G true M s H locs → lv_has ls 12 [(0, .ref (ad G 0)), (1, .long a1), (3, .long a3), (5, .long x4)] → Wx p l e 0 s m args below meth c Q H locs 44 ls [] := by
    intro H locs ls hW hl
    refine lv_lload hx hb dX6_setFraction_44 (lv_at hl 3 rfl) ?_
    refine lv_lconst (v := (0 : Int64)) hx hb dX6_setFraction_46 (by decide) ?_
    refine W.lcmp hx hb dX6_setFraction_47 ?_
    refine lv_if_le (tgt := 67) hx hb dX6_setFraction_48 (by decide) (fun c13 => ?_) (fun c13 => ?_)
    · replace hk := ite_t hk c13
      obtain rfl := Option.some.inj hk
      exact hret _ _ _ _ hW dX6_setFraction_67
    · replace hk := ite_f hk c13
      refine lv_aload_n hx hb dX6_setFraction_51 rfl (lv_at hl 0 rfl) ?_
      refine lv_lload_n hx hb dX6_setFraction_52 rfl (lv_at hl 1 rfl) ?_
      refine lv_lload hx hb dX6_setFraction_53 (lv_at hl 3 rfl) ?_
      replace hk := ob_s hk
      obtain ⟨x9, hx9, hk⟩ := hk
      obtain ⟨hx9, ex9⟩ := dvL_s hx9
      refine lv_ldiv hx hb dX6_setFraction_55 hx9 ?_
      refine nm_l ex9 ?_
      replace hk := lq_s hk
      obtain ⟨M10, eM10, hk⟩ := hk
      refine pt_X6_64 hx hb hg hown hK hW kd_0 eM10 dX6_setFraction_56 (fun H locs hW => ?_)
      refine lv_aload_n hx hb dX6_setFraction_59 rfl (lv_at hl 0 rfl) ?_
      refine lv_lload_n hx hb dX6_setFraction_60 rfl (lv_at hl 2 rfl) ?_
      refine lv_lload hx hb dX6_setFraction_61 (lv_at hl 3 rfl) ?_
      replace hk := ob_s hk
      obtain ⟨x11, hx11, hk⟩ := hk
      obtain ⟨hx11, ex11⟩ := dvL_s hx11
      refine lv_ldiv hx hb dX6_setFraction_63 hx11 ?_
      refine nm_l ex11 ?_
      replace hk := lq_s hk
      obtain ⟨M12, eM12, hk⟩ := hk
      refine pt_X6_68 hx hb hg hown hK hW kd_0 eM12 dX6_setFraction_64 (fun H locs hW => ?_)
      obtain rfl := Option.some.inj hk
      exact hret _ _ _ _ hW dX6_setFraction_67
  clear hk
  have LH9 : ∀ (n : Nat) (x1 : Int64) (x2 : Int64) (x3 : Int32) (H : Heap) (locs : List Loc) (ls : Array Slot), f_X6_setFraction_L9 n x1 x2 x3 = some x4 → Ws G true M s H locs → lv_has ls 12 [(0, .ref (ad G 0)), (1, .long a1), (3, .long a3), (5, .long x1), (7, .long x2), (9, .int x3)] → Wx p l e 0 s m args below meth c Q H locs 9 ls [] := by
    clear hz14
    intro n
    induction n with
    | zero => intro _ _ _ _ _ _ hk; cases hk
    | succ n ih9 =>
      intro x1 x2 x3 H locs ls hk hW hl
      rw [f_X6_setFraction_L9.eq_2] at hk
      refine lv_iload hx hb dX6_setFraction_9 (lv_at hl 5 rfl) ?_
      refine lv_bipush (v := (100 : Int32)) hx hb dX6_setFraction_11 (by decide) ?_
      refine lv_icmp_ge (tgt := 44) hx hb dX6_setFraction_13 (by decide) (fun c8 => ?_) (fun c8 => ?_)
      · replace hk := ite_t hk c8
        obtain rfl := Option.some.inj hk
        exact KX9 _ _ _ hW (lv_sub hl [0, 1, 2, 3] rfl)
      · replace hk := ite_f hk c8
        refine lv_lload hx hb dX6_setFraction_16 (lv_at hl 4 rfl) ?_
        refine lv_lconst (v := (0 : Int64)) hx hb dX6_setFraction_18 (by decide) ?_
        refine W.lcmp hx hb dX6_setFraction_19 ?_
        refine lv_if_eq (tgt := 44) hx hb dX6_setFraction_20 (by decide) (fun c7 => ?_) (fun c7 => ?_)
        · replace hk := ite_t hk c7
          obtain rfl := Option.some.inj hk
          exact KX9 _ _ _ hW (lv_sub hl [0, 1, 2, 3] rfl)
        · replace hk := ite_f hk c7
          refine lv_lload hx hb dX6_setFraction_23 (lv_at hl 3 rfl) ?_
          refine lv_lload hx hb dX6_setFraction_25 (lv_at hl 4 rfl) ?_
          replace hk := ob_s hk
          obtain ⟨x5, hx5, hk⟩ := hk
          obtain ⟨hx5, ex5⟩ := rmL_s hx5
          refine lv_lrem hx hb dX6_setFraction_27 hx5 ?_
          refine nm_l ex5 ?_
          refine lv_lstore (lv' := [(10, .long x5), (0, .ref (ad G 0)), (1, .long a1), (3, .long a3), (5, .long x1), (7, .long x2), (9, .int x3)]) hx hb dX6_setFraction_28 hl (by decide) rfl (fun ls hl => ?_)
          refine lv_lload hx hb dX6_setFraction_30 (lv_at hl 5 rfl) ?_
          refine lv_lstore (lv' := [(5, .long x2), (10, .long x5), (0, .ref (ad G 0)), (1, .long a1), (3, .long a3), (7, .long x2), (9, .int x3)]) hx hb dX6_setFraction_32 hl (by decide) rfl (fun ls hl => ?_)
          refine lv_lload hx hb dX6_setFraction_34 (lv_at hl 1 rfl) ?_
          refine lv_lstore (lv' := [(7, .long x5), (5, .long x2), (10, .long x5), (0, .ref (ad G 0)), (1, .long a1), (3, .long a3), (9, .int x3)]) hx hb dX6_setFraction_36 hl (by decide) rfl (fun ls hl => ?_)
          replace hk := lq_s hk
          obtain ⟨x6, ex6, hk⟩ := hk
          refine lv_iinc (v := x6) (lv' := [(9, .int x6), (7, .long x5), (5, .long x2), (10, .long x5), (0, .ref (ad G 0)), (1, .long a1), (3, .long a3)]) hx hb dX6_setFraction_38 hl (k := 6) rfl (by rw [ex6]; rfl) (by decide) rfl (fun ls hl => ?_)
          refine lv_goto (tgt := 9) hx hb dX6_setFraction_41 (by decide) ?_
          exact ih9 _ _ _ _ _ _ hk hW (lv_sub hl [4, 5, 6, 2, 1, 0] rfl)
  exact LH9 FU _ _ _ _ _ _ hz14 hW (lv_sub hl [3, 4, 5, 2, 1, 0] rfl)
def f_X6_slack_L33 (a1 : Int32) : Nat → Int64 → Int32 → Option (Int64)
  | 0, _, _ => none
  | n + 1, x5, x6 =>
    if a1 ≤ x6 then (
      some x5)
    else (
      lq (x5 * (10 : Int64)) (fun x8 =>
      lq (x6 + (1 : Int32)) (fun x9 =>
      f_X6_slack_L33 a1 n x8 x9)))
def f_X6_slack (a1 : Int32) (a2 : Int32) (M : Mem) : Option (Int32 × Mem) :=
  if (f_X6_outside a1 (0 : Int32) (6 : Int32)) = (0 : Int32) then (
    if (f_X6_outside a2 (0 : Int32) (10 : Int32)) = (0 : Int32) then (
      ob (f_X6_slack_L33 a1 FU (1 : Int64) (0 : Int32)) (fun x7 =>
      ob2 (
        if a1 = (0 : Int32) then (
          some ((1 : Int64), M))
        else (
          ob2 (f_X6_chanceOfSlack a1 a2 M) (fun x11 M12 =>
          some (x11, M12))))
       (fun x14 M15 =>
      ob (f_X6_setFraction x14 x7 M15) (fun M17 =>
      some ((1 : Int32), M17)))))
    else (
      ob2 (f_X6_refuseBad ((-1002) : Int32) M) (fun x22 M23 =>
      some (x22, M23))))
  else (
    ob2 (f_X6_refuseBad ((-1002) : Int32) M) (fun x2 M3 =>
    some (x2, M3)))
set_option maxHeartbeats 4000000 in
set_option maxRecDepth 100000 in
theorem c_X6_slack (l : Launch) (G : GT) (a1 : Int32) (a2 : Int32) (M : Mem) {r : Int32} {M' : Mem} (hk : f_X6_slack a1 a2 M = some (r, M')) : CMi l G true yX6_slack cX6_slack 6 (some .int) 5 [.ref (ad G 0), .int a1, .int a2] M r M' := by
  unfold f_X6_slack at hk
  refine CMi.of (by decide) (Nat.le_of_ble_eq_true rfl) ?_
  intro p e s m args below meth c Q hx hb hml hown hg hK hW hret ls hl
  have hl : lv_has ls 6 [(0, .ref (ad G 0)), (1, .int a1), (2, .int a2)] := hl
  refine lv_iload_n hx hb dX6_slack_0 rfl (lv_at hl 1 rfl) ?_
  refine lv_iconst (v := (0 : Int32)) hx hb dX6_slack_1 (by decide) ?_
  refine lv_bipush (v := (6 : Int32)) hx hb dX6_slack_2 (by decide) ?_
  refine cl_i (rn_S g_278 g_279 g_1 g_280 hd_X6_outside (Nat.le_of_ble_eq_true rfl) hx hb hml hown hg hK hW (As := [.int a1, .int (0 : Int32), .int (6 : Int32)]) (c_X6_outside l G a1 (0 : Int32) (6 : Int32) M) (by decide) rfl hl.1 rfl (Nat.le_of_ble_eq_true rfl) dX6_slack_4) hW (fun H locs hW => ?_)
  refine lv_if_ne (tgt := 20) hx hb dX6_slack_7 (by decide) (fun c25 => ?_) (fun c25 => ?_)
  · replace hk := ite_f hk c25
    refine lv_aload_n hx hb dX6_slack_20 rfl (lv_at hl 0 rfl) ?_
    refine lv_sipush (v := ((-1002) : Int32)) hx hb dX6_slack_21 (by decide) ?_
    replace hk := ob2_s hk
    obtain ⟨x2, M3, hx2, hk⟩ := hk
    refine cl_i (rn_V g_281 g_283 gs_0 g_1 g_284 hd_X6_refuseBad (Nat.le_of_ble_eq_true rfl) (ci := 6) rfl (inC kd_0 rfl) (shp6 kd_0) hx hb hml hown hg hK hW (As := [.int ((-1002) : Int32)]) (c_X6_refuseBad l G ((-1002) : Int32) M hx2) (by decide) rfl hl.1 rfl (Nat.le_of_ble_eq_true rfl) dX6_slack_24) hW (fun H locs hW => ?_)
    obtain ⟨rfl, rfl⟩ := sp2 hk
    exact hret _ _ _ _ hW dX6_slack_27
  · replace hk := ite_t hk c25
    refine lv_iload_n hx hb dX6_slack_10 rfl (lv_at hl 2 rfl) ?_
    refine lv_iconst (v := (0 : Int32)) hx hb dX6_slack_11 (by decide) ?_
    refine lv_bipush (v := (10 : Int32)) hx hb dX6_slack_12 (by decide) ?_
    refine cl_i (rn_S g_278 g_279 g_1 g_280 hd_X6_outside (Nat.le_of_ble_eq_true rfl) hx hb hml hown hg hK hW (As := [.int a2, .int (0 : Int32), .int (10 : Int32)]) (c_X6_outside l G a2 (0 : Int32) (10 : Int32) M) (by decide) rfl hl.1 rfl (Nat.le_of_ble_eq_true rfl) dX6_slack_14) hW (fun H locs hW => ?_)
    refine lv_if_eq (tgt := 28) hx hb dX6_slack_17 (by decide) (fun c24 => ?_) (fun c24 => ?_)
    · replace hk := ite_t hk c24
      refine lv_lconst (v := (1 : Int64)) hx hb dX6_slack_28 (by decide) ?_
      refine lv_lstore_n (lv' := [(3, .long (1 : Int64)), (0, .ref (ad G 0)), (1, .int a1), (2, .int a2)]) hx hb dX6_slack_29 rfl hl (by decide) rfl (fun ls hl => ?_)
      refine lv_iconst (v := (0 : Int32)) hx hb dX6_slack_30 (by decide) ?_
      refine lv_istore (lv' := [(5, .int (0 : Int32)), (3, .long (1 : Int64)), (0, .ref (ad G 0)), (1, .int a1), (2, .int a2)]) hx hb dX6_slack_31 hl (by decide) rfl (fun ls hl => ?_)
      replace hk := ob_s hk
      obtain ⟨x7, hz20, hk⟩ := hk
      have KX33 : ∀ (H : Heap) (locs : List Loc) (ls : Array Slot), Ws G true M s H locs → lv_has ls 6 [(0, .ref (ad G 0)), (1, .int a1), (2, .int a2), (3, .long x7)] → Wx p l e 5 s m args below meth c Q H locs 51 ls [] := by
        intro H locs ls hW hl
        refine lv_aload_n hx hb dX6_slack_51 rfl (lv_at hl 0 rfl) ?_
        refine lv_iload_n hx hb dX6_slack_52 rfl (lv_at hl 1 rfl) ?_
        replace hk := ob2_s hk
        obtain ⟨x14, M15, hr19, hk⟩ := hk
        have KJ18 : ∀ (H : Heap) (locs : List Loc) (ls : Array Slot), Ws G true M15 s H locs → lv_has ls 6 [(3, .long x7)] → Wx p l e 5 s m args below meth c Q H locs 66 ls [.long x14, .ref (ad G 0)] := by
          intro H locs ls hW hl
          refine lv_lload_n hx hb dX6_slack_66 rfl (lv_at hl 0 rfl) ?_
          replace hk := ob_s hk
          obtain ⟨M17, hx16, hk⟩ := hk
          refine cl_v (rn_V g_789 g_791 gs_57 g_1 g_792 hd_X6_setFraction (Nat.le_of_ble_eq_true rfl) (ci := 6) rfl (inC kd_0 rfl) (shp6 kd_0) hx hb hml hown hg hK hW (As := [.long x14, .long x7]) (c_X6_setFraction l G x14 x7 M15 hx16) (by decide) rfl hl.1 rfl (Nat.le_of_ble_eq_true rfl) dX6_slack_67) hW (fun H locs hW => ?_)
          refine lv_iconst (v := (1 : Int32)) hx hb dX6_slack_70 (by decide) ?_
          obtain ⟨rfl, rfl⟩ := sp2 hk
          exact hret _ _ _ _ hW dX6_slack_71
        clear hk
        have hk := hr19
        clear hr19
        refine lv_if_ne (tgt := 60) hx hb dX6_slack_53 (by decide) (fun c13 => ?_) (fun c13 => ?_)
        · replace hk := ite_f hk c13
          refine lv_aload_n hx hb dX6_slack_60 rfl (lv_at hl 0 rfl) ?_
          refine lv_iload_n hx hb dX6_slack_61 rfl (lv_at hl 1 rfl) ?_
          refine lv_iload_n hx hb dX6_slack_62 rfl (lv_at hl 2 rfl) ?_
          replace hk := ob2_s hk
          obtain ⟨x11, M12, hx11, hk⟩ := hk
          refine cl_l (rn_V g_785 g_787 gs_56 g_1 g_788 hd_X6_chanceOfSlack (Nat.le_of_ble_eq_true rfl) (ci := 6) rfl (inC kd_0 rfl) (shp6 kd_0) hx hb hml hown hg hK hW (As := [.int a1, .int a2]) (c_X6_chanceOfSlack l G a1 a2 M hx11) (by decide) rfl hl.1 rfl (Nat.le_of_ble_eq_true rfl) dX6_slack_63) hW (fun H locs hW => ?_)
          obtain ⟨rfl, rfl⟩ := sp2 hk
          exact KJ18 _ _ _ hW (lv_sub hl [3] rfl)
        · replace hk := ite_t hk c13
          refine lv_lconst (v := (1 : Int64)) hx hb dX6_slack_56 (by decide) ?_
          refine lv_goto (tgt := 66) hx hb dX6_slack_57 (by decide) ?_
          obtain ⟨rfl, rfl⟩ := sp2 hk
          exact KJ18 _ _ _ hW (lv_sub hl [3] rfl)
      clear hk
      have LH33 : ∀ (n : Nat) (x5 : Int64) (x6 : Int32) (H : Heap) (locs : List Loc) (ls : Array Slot), f_X6_slack_L33 a1 n x5 x6 = some x7 → Ws G true M s H locs → lv_has ls 6 [(0, .ref (ad G 0)), (1, .int a1), (2, .int a2), (3, .long x5), (5, .int x6)] → Wx p l e 5 s m args below meth c Q H locs 33 ls [] := by
        clear hz20
        intro n
        induction n with
        | zero => intro _ _ _ _ _ hk; cases hk
        | succ n ih33 =>
          intro x5 x6 H locs ls hk hW hl
          rw [f_X6_slack_L33.eq_2] at hk
          refine lv_iload hx hb dX6_slack_33 (lv_at hl 4 rfl) ?_
          refine lv_iload_n hx hb dX6_slack_35 rfl (lv_at hl 1 rfl) ?_
          refine lv_icmp_ge (tgt := 51) hx hb dX6_slack_36 (by decide) (fun c10 => ?_) (fun c10 => ?_)
          · replace hk := ite_t hk c10
            obtain rfl := Option.some.inj hk
            exact KX33 _ _ _ hW (lv_sub hl [0, 1, 2, 3] rfl)
          · replace hk := ite_f hk c10
            refine lv_lload_n hx hb dX6_slack_39 rfl (lv_at hl 3 rfl) ?_
            refine lv_ldc2 hx hb hown (hg _ g_784) dX6_slack_40 ?_
            refine lv_lmul hx hb dX6_slack_43 ?_
            replace hk := lq_s hk
            obtain ⟨x8, ex8, hk⟩ := hk
            refine nm_l ex8 ?_
            refine lv_lstore_n (lv' := [(3, .long x8), (0, .ref (ad G 0)), (1, .int a1), (2, .int a2), (5, .int x6)]) hx hb dX6_slack_44 rfl hl (by decide) rfl (fun ls hl => ?_)
            replace hk := lq_s hk
            obtain ⟨x9, ex9, hk⟩ := hk
            refine lv_iinc (v := x9) (lv' := [(5, .int x9), (3, .long x8), (0, .ref (ad G 0)), (1, .int a1), (2, .int a2)]) hx hb dX6_slack_45 hl (k := 4) rfl (by rw [ex9]; rfl) (by decide) rfl (fun ls hl => ?_)
            refine lv_goto (tgt := 33) hx hb dX6_slack_48 (by decide) ?_
            exact ih33 _ _ _ _ _ hk hW (lv_sub hl [2, 3, 4, 1, 0] rfl)
      exact LH33 FU _ _ _ _ _ hz20 hW (lv_sub hl [2, 3, 4, 1, 0] rfl)
    · replace hk := ite_f hk c24
      refine lv_aload_n hx hb dX6_slack_20 rfl (lv_at hl 0 rfl) ?_
      refine lv_sipush (v := ((-1002) : Int32)) hx hb dX6_slack_21 (by decide) ?_
      replace hk := ob2_s hk
      obtain ⟨x22, M23, hx22, hk⟩ := hk
      refine cl_i (rn_V g_281 g_283 gs_0 g_1 g_284 hd_X6_refuseBad (Nat.le_of_ble_eq_true rfl) (ci := 6) rfl (inC kd_0 rfl) (shp6 kd_0) hx hb hml hown hg hK hW (As := [.int ((-1002) : Int32)]) (c_X6_refuseBad l G ((-1002) : Int32) M hx22) (by decide) rfl hl.1 rfl (Nat.le_of_ble_eq_true rfl) dX6_slack_24) hW (fun H locs hW => ?_)
      obtain ⟨rfl, rfl⟩ := sp2 hk
      exact hret _ _ _ _ hW dX6_slack_27
def f_X6_nights_L49 (a2 : Int32) : Nat → Int64 → Int32 → Mem → Option (Int64 × Int32 × Mem)
  | 0, _, _, _ => none
  | n + 1, x8, x9, M10 =>
    if a2 ≤ x9 then (
      some (x8, x9, M10))
    else (
      lq (((x8 * (1103515245 : Int64)) + (12345 : Int64)) - ((x8 * (1103515245 : Int64)) + (12345 : Int64)) / (2147483648 : Int64) * (2147483648 : Int64)) (fun x14 =>
      ob (f_X2_step 1 172 (((x14 / (65536 : Int64)) - (x14 / (65536 : Int64)) / (5 : Int64) * (5 : Int64)).toInt32) M10) (fun M16 =>
      lq (x9 + (1 : Int32)) (fun x17 =>
      f_X6_nights_L49 a2 n x14 x17 M16))))
def f_X6_nights (a1 : Int32) (a2 : Int32) (M : Mem) : Option (Int32 × Mem) :=
  if (f_X6_outside a1 (0 : Int32) (999999 : Int32)) = (0 : Int32) then (
    if (f_X6_outside a2 (0 : Int32) (60 : Int32)) = (0 : Int32) then (
      lq a1.toInt64 (fun x5 =>
      ob (f_X1_become 172 (1 + 5) M) (fun M7 =>
      ob3 (f_X6_nights_L49 a2 FU x5 (0 : Int32) M7) (fun x11 x12 M13 =>
      ob (f_X2_snappedIn 1 172 M13) (fun x19 =>
      some (x19, M13))))))
    else (
      ob2 (f_X6_refuseBad ((-1002) : Int32) M) (fun x22 M23 =>
      some (x22, M23))))
  else (
    ob2 (f_X6_refuseBad ((-1002) : Int32) M) (fun x2 M3 =>
    some (x2, M3)))
set_option maxHeartbeats 4000000 in
set_option maxRecDepth 100000 in
theorem c_X6_nights (l : Launch) (G : GT) (a1 : Int32) (a2 : Int32) (M : Mem) {r : Int32} {M' : Mem} (hk : f_X6_nights a1 a2 M = some (r, M')) : CMi l G true yX6_nights cX6_nights 6 (some .int) 3 [.ref (ad G 0), .int a1, .int a2] M r M' := by
  unfold f_X6_nights at hk
  refine CMi.of (by decide) (Nat.le_of_ble_eq_true rfl) ?_
  intro p e s m args below meth c Q hx hb hml hown hg hK hW hret ls hl
  have hl : lv_has ls 6 [(0, .ref (ad G 0)), (1, .int a1), (2, .int a2)] := hl
  refine lv_iload_n hx hb dX6_nights_0 rfl (lv_at hl 1 rfl) ?_
  refine lv_iconst (v := (0 : Int32)) hx hb dX6_nights_1 (by decide) ?_
  refine lv_ldcw hx hb hown (hg _ g_797) dX6_nights_2 ?_
  refine cl_i (rn_S g_278 g_279 g_1 g_280 hd_X6_outside (Nat.le_of_ble_eq_true rfl) hx hb hml hown hg hK hW (As := [.int a1, .int (0 : Int32), .int (999999 : Int32)]) (c_X6_outside l G a1 (0 : Int32) (999999 : Int32) M) (by decide) rfl hl.1 rfl (Nat.le_of_ble_eq_true rfl) dX6_nights_5) hW (fun H locs hW => ?_)
  refine lv_if_ne (tgt := 21) hx hb dX6_nights_8 (by decide) (fun c25 => ?_) (fun c25 => ?_)
  · replace hk := ite_f hk c25
    refine lv_aload_n hx hb dX6_nights_21 rfl (lv_at hl 0 rfl) ?_
    refine lv_sipush (v := ((-1002) : Int32)) hx hb dX6_nights_22 (by decide) ?_
    replace hk := ob2_s hk
    obtain ⟨x2, M3, hx2, hk⟩ := hk
    refine cl_i (rn_V g_281 g_283 gs_0 g_1 g_284 hd_X6_refuseBad (Nat.le_of_ble_eq_true rfl) (ci := 6) rfl (inC kd_0 rfl) (shp6 kd_0) hx hb hml hown hg hK hW (As := [.int ((-1002) : Int32)]) (c_X6_refuseBad l G ((-1002) : Int32) M hx2) (by decide) rfl hl.1 rfl (Nat.le_of_ble_eq_true rfl) dX6_nights_25) hW (fun H locs hW => ?_)
    obtain ⟨rfl, rfl⟩ := sp2 hk
    exact hret _ _ _ _ hW dX6_nights_28
  · replace hk := ite_t hk c25
    refine lv_iload_n hx hb dX6_nights_11 rfl (lv_at hl 2 rfl) ?_
    refine lv_iconst (v := (0 : Int32)) hx hb dX6_nights_12 (by decide) ?_
    refine lv_bipush (v := (60 : Int32)) hx hb dX6_nights_13 (by decide) ?_
    refine cl_i (rn_S g_278 g_279 g_1 g_280 hd_X6_outside (Nat.le_of_ble_eq_true rfl) hx hb hml hown hg hK hW (As := [.int a2, .int (0 : Int32), .int (60 : Int32)]) (c_X6_outside l G a2 (0 : Int32) (60 : Int32) M) (by decide) rfl hl.1 rfl (Nat.le_of_ble_eq_true rfl) dX6_nights_15) hW (fun H locs hW => ?_)
    refine lv_if_eq (tgt := 29) hx hb dX6_nights_18 (by decide) (fun c24 => ?_) (fun c24 => ?_)
    · replace hk := ite_t hk c24
      refine lv_iload_n hx hb dX6_nights_29 rfl (lv_at hl 1 rfl) ?_
      refine lv_i2l hx hb dX6_nights_30 rfl ?_
      replace hk := lq_s hk
      obtain ⟨x5, ex5, hk⟩ := hk
      refine nm_l ex5 ?_
      refine lv_lstore_n (lv' := [(3, .long x5), (0, .ref (ad G 0)), (1, .int a1), (2, .int a2)]) hx hb dX6_nights_31 rfl hl (by decide) rfl (fun ls hl => ?_)
      refine lv_aload_n hx hb dX6_nights_32 rfl (lv_at hl 1 rfl) ?_
      refine gt_X6_56 hx hb hg hown hK hW kd_0 dX6_nights_33 ?_
      refine lv_aload_n hx hb dX6_nights_36 rfl (lv_at hl 1 rfl) ?_
      refine gt_X6_10 hx hb hg hown hK hW kd_0 dX6_nights_37 ?_
      refine gt_X6_118 hx hb hg hown hK hW kd_1 dX6_nights_40 ?_
      replace hk := ob_s hk
      obtain ⟨M7, hx6, hk⟩ := hk
      refine cl_v (rn_VN n_637 g_478 gs_24 g_3 g_479 hd_X1_become (Nat.le_of_ble_eq_true rfl) (ci := 1) rfl (inC kd_172 rfl) (shp1 kd_172) hx hb hml hown hg hK hW (As := [.ref (ad G (1 + 5))]) (c_X1_become l G kd_172 (k2_5 kd_1) M hx6) (by decide) rfl hl.1 rfl (Nat.le_of_ble_eq_true rfl) dX6_nights_43) hW (fun H locs hW => ?_)
      refine lv_iconst (v := (0 : Int32)) hx hb dX6_nights_46 (by decide) ?_
      refine lv_istore (lv' := [(5, .int (0 : Int32)), (3, .long x5), (0, .ref (ad G 0)), (1, .int a1), (2, .int a2)]) hx hb dX6_nights_47 hl (by decide) rfl (fun ls hl => ?_)
      replace hk := ob3_s hk
      obtain ⟨x11, x12, M13, hz20, hk⟩ := hk
      have KX49 : ∀ (H : Heap) (locs : List Loc) (ls : Array Slot), Ws G true M13 s H locs → lv_has ls 6 [(0, .ref (ad G 0))] → Wx p l e 3 s m args below meth c Q H locs 96 ls [] := by
        intro H locs ls hW hl
        refine lv_aload_n hx hb dX6_nights_96 rfl (lv_at hl 0 rfl) ?_
        refine gt_X6_10 hx hb hg hown hK hW kd_0 dX6_nights_97 ?_
        refine lv_aload_n hx hb dX6_nights_100 rfl (lv_at hl 0 rfl) ?_
        refine gt_X6_56 hx hb hg hown hK hW kd_0 dX6_nights_101 ?_
        replace hk := ob_s hk
        obtain ⟨x19, hx19, hk⟩ := hk
        refine cl_i (rn_VN n_505 g_507 gs_29 g_2 g_508 hd_X2_snappedIn (Nat.le_of_ble_eq_true rfl) (ci := 2) rfl (inC kd_1 rfl) (shp2 kd_1) hx hb hml hown hg hK hW (As := [.ref (ad G 172)]) (c_X2_snappedIn l G kd_1 kd_172 M13 hx19) (by decide) rfl hl.1 rfl (Nat.le_of_ble_eq_true rfl) dX6_nights_104) hW (fun H locs hW => ?_)
        obtain ⟨rfl, rfl⟩ := sp2 hk
        exact hret _ _ _ _ hW dX6_nights_107
      clear hk
      have LH49 : ∀ (n : Nat) (x8 : Int64) (x9 : Int32) (M10 : Mem) (H : Heap) (locs : List Loc) (ls : Array Slot), f_X6_nights_L49 a2 n x8 x9 M10 = some (x11, x12, M13) → Ws G true M10 s H locs → lv_has ls 6 [(0, .ref (ad G 0)), (2, .int a2), (3, .long x8), (5, .int x9)] → Wx p l e 3 s m args below meth c Q H locs 49 ls [] := by
        clear hz20
        intro n
        induction n with
        | zero => intro _ _ _ _ _ _ hk; cases hk
        | succ n ih49 =>
          intro x8 x9 M10 H locs ls hk hW hl
          rw [f_X6_nights_L49.eq_2] at hk
          refine lv_iload hx hb dX6_nights_49 (lv_at hl 3 rfl) ?_
          refine lv_iload_n hx hb dX6_nights_51 rfl (lv_at hl 1 rfl) ?_
          refine lv_icmp_ge (tgt := 96) hx hb dX6_nights_52 (by decide) (fun c18 => ?_) (fun c18 => ?_)
          · replace hk := ite_t hk c18
            obtain ⟨rfl, rfl, rfl⟩ := sp3 hk
            exact KX49 _ _ _ hW (lv_sub hl [0] rfl)
          · replace hk := ite_f hk c18
            refine lv_lload_n hx hb dX6_nights_55 rfl (lv_at hl 2 rfl) ?_
            refine lv_ldc2 hx hb hown (hg _ g_798) dX6_nights_56 ?_
            refine lv_lmul hx hb dX6_nights_59 ?_
            refine lv_ldc2 hx hb hown (hg _ g_799) dX6_nights_60 ?_
            refine lv_ladd hx hb dX6_nights_63 ?_
            refine lv_ldc2 hx hb hown (hg _ g_800) dX6_nights_64 ?_
            refine lv_lrem hx hb dX6_nights_67 (by decide) ?_
            replace hk := lq_s hk
            obtain ⟨x14, ex14, hk⟩ := hk
            refine nm_l ex14 ?_
            refine lv_lstore_n (lv' := [(3, .long x14), (0, .ref (ad G 0)), (2, .int a2), (5, .int x9)]) hx hb dX6_nights_68 rfl hl (by decide) rfl (fun ls hl => ?_)
            refine lv_aload_n hx hb dX6_nights_69 rfl (lv_at hl 1 rfl) ?_
            refine gt_X6_10 hx hb hg hown hK hW kd_0 dX6_nights_70 ?_
            refine lv_aload_n hx hb dX6_nights_73 rfl (lv_at hl 1 rfl) ?_
            refine gt_X6_56 hx hb hg hown hK hW kd_0 dX6_nights_74 ?_
            refine lv_lload_n hx hb dX6_nights_77 rfl (lv_at hl 0 rfl) ?_
            refine lv_ldc2 hx hb hown (hg _ g_801) dX6_nights_78 ?_
            refine lv_ldiv hx hb dX6_nights_81 (by decide) ?_
            refine lv_ldc2 hx hb hown (hg _ g_802) dX6_nights_82 ?_
            refine lv_lrem hx hb dX6_nights_85 (by decide) ?_
            refine lv_l2i hx hb dX6_nights_86 rfl ?_
            replace hk := ob_s hk
            obtain ⟨M16, hx15, hk⟩ := hk
            refine cl_v (rn_VN n_504 g_432 gs_18 g_2 g_433 hd_X2_step (Nat.le_of_ble_eq_true rfl) (ci := 2) rfl (inC kd_1 rfl) (shp2 kd_1) hx hb hml hown hg hK hW (As := [.ref (ad G 172), .int (((x14 / (65536 : Int64)) - (x14 / (65536 : Int64)) / (5 : Int64) * (5 : Int64)).toInt32)]) (c_X2_step l G kd_1 kd_172 (((x14 / (65536 : Int64)) - (x14 / (65536 : Int64)) / (5 : Int64) * (5 : Int64)).toInt32) M10 hx15) (by decide) rfl hl.1 rfl (Nat.le_of_ble_eq_true rfl) dX6_nights_87) hW (fun H locs hW => ?_)
            replace hk := lq_s hk
            obtain ⟨x17, ex17, hk⟩ := hk
            refine lv_iinc (v := x17) (lv' := [(5, .int x17), (3, .long x14), (0, .ref (ad G 0)), (2, .int a2)]) hx hb dX6_nights_90 hl (k := 3) rfl (by rw [ex17]; rfl) (by decide) rfl (fun ls hl => ?_)
            refine lv_goto (tgt := 49) hx hb dX6_nights_93 (by decide) ?_
            exact ih49 _ _ _ _ _ _ hk hW (lv_sub hl [2, 3, 1, 0] rfl)
      exact LH49 FU _ _ _ _ _ _ hz20 hW (lv_sub hl [2, 4, 1, 0] rfl)
    · replace hk := ite_f hk c24
      refine lv_aload_n hx hb dX6_nights_21 rfl (lv_at hl 0 rfl) ?_
      refine lv_sipush (v := ((-1002) : Int32)) hx hb dX6_nights_22 (by decide) ?_
      replace hk := ob2_s hk
      obtain ⟨x22, M23, hx22, hk⟩ := hk
      refine cl_i (rn_V g_281 g_283 gs_0 g_1 g_284 hd_X6_refuseBad (Nat.le_of_ble_eq_true rfl) (ci := 6) rfl (inC kd_0 rfl) (shp6 kd_0) hx hb hml hown hg hK hW (As := [.int ((-1002) : Int32)]) (c_X6_refuseBad l G ((-1002) : Int32) M hx22) (by decide) rfl hl.1 rfl (Nat.le_of_ble_eq_true rfl) dX6_nights_25) hW (fun H locs hW => ?_)
      obtain ⟨rfl, rfl⟩ := sp2 hk
      exact hret _ _ _ _ hW dX6_nights_28
def f_X6_part (a1 : Int32) (M : Mem) : Option (Int64 × Mem) :=
  if (f_X6_outside a1 (0 : Int32) (1 : Int32)) = (0 : Int32) then (
    if a1 = (0 : Int32) then (
      some ((M.2 0 11), M))
    else (
      some ((M.2 0 12), M)))
  else (
    ob2 (f_X6_refuseBad ((-1002) : Int32) M) (fun x3 M4 =>
    some (x3.toInt64, M4)))
set_option maxHeartbeats 4000000 in
set_option maxRecDepth 100000 in
theorem c_X6_part (l : Launch) (G : GT) (a1 : Int32) (M : Mem) {r : Int64} {M' : Mem} (hk : f_X6_part a1 M = some (r, M')) : CMl l G true yX6_part cX6_part 2 (some .long) 1 [.ref (ad G 0), .int a1] M r M' := by
  unfold f_X6_part at hk
  refine CMl.of (by decide) (Nat.le_of_ble_eq_true rfl) ?_
  intro p e s m args below meth c Q hx hb hml hown hg hK hW hret ls hl
  have hl : lv_has ls 2 [(0, .ref (ad G 0)), (1, .int a1)] := hl
  refine lv_iload_n hx hb dX6_part_0 rfl (lv_at hl 1 rfl) ?_
  refine lv_iconst (v := (0 : Int32)) hx hb dX6_part_1 (by decide) ?_
  refine lv_iconst (v := (1 : Int32)) hx hb dX6_part_2 (by decide) ?_
  refine cl_i (rn_S g_278 g_279 g_1 g_280 hd_X6_outside (Nat.le_of_ble_eq_true rfl) hx hb hml hown hg hK hW (As := [.int a1, .int (0 : Int32), .int (1 : Int32)]) (c_X6_outside l G a1 (0 : Int32) (1 : Int32) M) (by decide) rfl hl.1 rfl (Nat.le_of_ble_eq_true rfl) dX6_part_3) hW (fun H locs hW => ?_)
  refine lv_if_eq (tgt := 18) hx hb dX6_part_6 (by decide) (fun c5 => ?_) (fun c5 => ?_)
  · replace hk := ite_t hk c5
    refine lv_iload_n hx hb dX6_part_18 rfl (lv_at hl 1 rfl) ?_
    refine lv_if_ne (tgt := 29) hx hb dX6_part_19 (by decide) (fun c2 => ?_) (fun c2 => ?_)
    · replace hk := ite_f hk c2
      refine lv_aload_n hx hb dX6_part_29 rfl (lv_at hl 0 rfl) ?_
      refine gt_X6_68 hx hb hg hown hK hW kd_0 dX6_part_30 ?_
      obtain ⟨rfl, rfl⟩ := sp2 hk
      exact hret _ _ _ _ hW dX6_part_33
    · replace hk := ite_t hk c2
      refine lv_aload_n hx hb dX6_part_22 rfl (lv_at hl 0 rfl) ?_
      refine gt_X6_64 hx hb hg hown hK hW kd_0 dX6_part_23 ?_
      refine lv_goto (tgt := 33) hx hb dX6_part_26 (by decide) ?_
      obtain ⟨rfl, rfl⟩ := sp2 hk
      exact hret _ _ _ _ hW dX6_part_33
  · replace hk := ite_f hk c5
    refine lv_aload_n hx hb dX6_part_9 rfl (lv_at hl 0 rfl) ?_
    refine lv_sipush (v := ((-1002) : Int32)) hx hb dX6_part_10 (by decide) ?_
    replace hk := ob2_s hk
    obtain ⟨x3, M4, hx3, hk⟩ := hk
    refine cl_i (rn_V g_281 g_283 gs_0 g_1 g_284 hd_X6_refuseBad (Nat.le_of_ble_eq_true rfl) (ci := 6) rfl (inC kd_0 rfl) (shp6 kd_0) hx hb hml hown hg hK hW (As := [.int ((-1002) : Int32)]) (c_X6_refuseBad l G ((-1002) : Int32) M hx3) (by decide) rfl hl.1 rfl (Nat.le_of_ble_eq_true rfl) dX6_part_13) hW (fun H locs hW => ?_)
    refine lv_i2l hx hb dX6_part_16 rfl ?_
    obtain ⟨rfl, rfl⟩ := sp2 hk
    exact hret _ _ _ _ hW dX6_part_17
def f_X6_image (a1 : Int32) (M : Mem) : Option (Int32 × Mem) :=
  if (f_X6_outside a1 (0 : Int32) (1 : Int32)) = (0 : Int32) then (
    ob (
      if a1 = (0 : Int32) then (
        ob (f_X2_become 83 1 M) (fun M6 =>
        lq (s1 M6 0 4 (1 : Int32)) (fun M7 =>
        some M7)))
      else (
        ob (f_X2_become 124 1 M) (fun M3 =>
        lq (s1 M3 0 5 (1 : Int32)) (fun M4 =>
        some M4))))
     (fun M9 =>
    some ((1 : Int32), M9)))
  else (
    ob2 (f_X6_refuseBad ((-1002) : Int32) M) (fun x12 M13 =>
    some (x12, M13)))
set_option maxHeartbeats 4000000 in
set_option maxRecDepth 100000 in
theorem c_X6_image (l : Launch) (G : GT) (a1 : Int32) (M : Mem) {r : Int32} {M' : Mem} (hk : f_X6_image a1 M = some (r, M')) : CMi l G true yX6_image cX6_image 2 (some .int) 3 [.ref (ad G 0), .int a1] M r M' := by
  unfold f_X6_image at hk
  refine CMi.of (by decide) (Nat.le_of_ble_eq_true rfl) ?_
  intro p e s m args below meth c Q hx hb hml hown hg hK hW hret ls hl
  have hl : lv_has ls 2 [(0, .ref (ad G 0)), (1, .int a1)] := hl
  refine lv_iload_n hx hb dX6_image_0 rfl (lv_at hl 1 rfl) ?_
  refine lv_iconst (v := (0 : Int32)) hx hb dX6_image_1 (by decide) ?_
  refine lv_iconst (v := (1 : Int32)) hx hb dX6_image_2 (by decide) ?_
  refine cl_i (rn_S g_278 g_279 g_1 g_280 hd_X6_outside (Nat.le_of_ble_eq_true rfl) hx hb hml hown hg hK hW (As := [.int a1, .int (0 : Int32), .int (1 : Int32)]) (c_X6_outside l G a1 (0 : Int32) (1 : Int32) M) (by decide) rfl hl.1 rfl (Nat.le_of_ble_eq_true rfl) dX6_image_3) hW (fun H locs hW => ?_)
  refine lv_if_eq (tgt := 17) hx hb dX6_image_6 (by decide) (fun c14 => ?_) (fun c14 => ?_)
  · replace hk := ite_t hk c14
    refine lv_iload_n hx hb dX6_image_17 rfl (lv_at hl 1 rfl) ?_
    replace hk := ob_s hk
    obtain ⟨M9, hr11, hk⟩ := hk
    have KJ10 : ∀ (H : Heap) (locs : List Loc) (ls : Array Slot), Ws G true M9 s H locs → lv_has ls 2 [] → Wx p l e 3 s m args below meth c Q H locs 56 ls [] := by
      intro H locs ls hW hl
      refine lv_iconst (v := (1 : Int32)) hx hb dX6_image_56 (by decide) ?_
      obtain ⟨rfl, rfl⟩ := sp2 hk
      exact hret _ _ _ _ hW dX6_image_57
    clear hk
    have hk := hr11
    clear hr11
    refine lv_if_ne (tgt := 40) hx hb dX6_image_18 (by decide) (fun c8 => ?_) (fun c8 => ?_)
    · replace hk := ite_f hk c8
      refine lv_aload_n hx hb dX6_image_40 rfl (lv_at hl 0 rfl) ?_
      refine gt_X6_22 hx hb hg hown hK hW kd_0 dX6_image_41 ?_
      refine lv_aload_n hx hb dX6_image_44 rfl (lv_at hl 0 rfl) ?_
      refine gt_X6_10 hx hb hg hown hK hW kd_0 dX6_image_45 ?_
      replace hk := ob_s hk
      obtain ⟨M3, hx2, hk⟩ := hk
      refine cl_v (rn_VN n_469 g_471 gs_23 g_2 g_472 hd_X2_become (Nat.le_of_ble_eq_true rfl) (ci := 2) rfl (inC kd_124 rfl) (shp2 kd_124) hx hb hml hown hg hK hW (As := [.ref (ad G 1)]) (c_X2_become l G kd_124 kd_1 M hx2) (by decide) rfl hl.1 rfl (Nat.le_of_ble_eq_true rfl) dX6_image_48) hW (fun H locs hW => ?_)
      refine lv_aload_n hx hb dX6_image_51 rfl (lv_at hl 0 rfl) ?_
      refine lv_iconst (v := (1 : Int32)) hx hb dX6_image_52 (by decide) ?_
      replace hk := lq_s hk
      obtain ⟨M4, eM4, hk⟩ := hk
      refine pt_X6_29 hx hb hg hown hK hW kd_0 (Or.inr rfl) eM4 dX6_image_53 (fun H locs hW => ?_)
      obtain rfl := Option.some.inj hk
      exact KJ10 _ _ _ hW (lv_sub hl [] rfl)
    · replace hk := ite_t hk c8
      refine lv_aload_n hx hb dX6_image_21 rfl (lv_at hl 0 rfl) ?_
      refine gt_X6_19 hx hb hg hown hK hW kd_0 dX6_image_22 ?_
      refine lv_aload_n hx hb dX6_image_25 rfl (lv_at hl 0 rfl) ?_
      refine gt_X6_10 hx hb hg hown hK hW kd_0 dX6_image_26 ?_
      replace hk := ob_s hk
      obtain ⟨M6, hx5, hk⟩ := hk
      refine cl_v (rn_VN n_469 g_471 gs_23 g_2 g_472 hd_X2_become (Nat.le_of_ble_eq_true rfl) (ci := 2) rfl (inC kd_83 rfl) (shp2 kd_83) hx hb hml hown hg hK hW (As := [.ref (ad G 1)]) (c_X2_become l G kd_83 kd_1 M hx5) (by decide) rfl hl.1 rfl (Nat.le_of_ble_eq_true rfl) dX6_image_29) hW (fun H locs hW => ?_)
      refine lv_aload_n hx hb dX6_image_32 rfl (lv_at hl 0 rfl) ?_
      refine lv_iconst (v := (1 : Int32)) hx hb dX6_image_33 (by decide) ?_
      replace hk := lq_s hk
      obtain ⟨M7, eM7, hk⟩ := hk
      refine pt_X6_25 hx hb hg hown hK hW kd_0 (Or.inr rfl) eM7 dX6_image_34 (fun H locs hW => ?_)
      refine lv_goto (tgt := 56) hx hb dX6_image_37 (by decide) ?_
      obtain rfl := Option.some.inj hk
      exact KJ10 _ _ _ hW (lv_sub hl [] rfl)
  · replace hk := ite_f hk c14
    refine lv_aload_n hx hb dX6_image_9 rfl (lv_at hl 0 rfl) ?_
    refine lv_sipush (v := ((-1002) : Int32)) hx hb dX6_image_10 (by decide) ?_
    replace hk := ob2_s hk
    obtain ⟨x12, M13, hx12, hk⟩ := hk
    refine cl_i (rn_V g_281 g_283 gs_0 g_1 g_284 hd_X6_refuseBad (Nat.le_of_ble_eq_true rfl) (ci := 6) rfl (inC kd_0 rfl) (shp6 kd_0) hx hb hml hown hg hK hW (As := [.int ((-1002) : Int32)]) (c_X6_refuseBad l G ((-1002) : Int32) M hx12) (by decide) rfl hl.1 rfl (Nat.le_of_ble_eq_true rfl) dX6_image_13) hW (fun H locs hW => ?_)
    obtain ⟨rfl, rfl⟩ := sp2 hk
    exact hret _ _ _ _ hW dX6_image_16
def f_X6_from (a1 : Int32) (M : Mem) : Option (Int32 × Mem) :=
  if (f_X6_outside a1 (0 : Int32) (1 : Int32)) = (0 : Int32) then (
    if a1 = (0 : Int32) then (
      lq (M.1 0 4) (fun x11 =>
      if x11 = (0 : Int32) then (
        ob2 (f_X6_refuseNo M) (fun x17 M18 =>
        some (x17, M18)))
      else (
        if a1 = (0 : Int32) then (
          ob (f_X2_become 1 83 M) (fun M15 =>
          some ((1 : Int32), M15)))
        else (
          ob (f_X2_become 1 124 M) (fun M13 =>
          some ((1 : Int32), M13))))))
    else (
      lq (M.1 0 5) (fun x2 =>
      if x2 = (0 : Int32) then (
        ob2 (f_X6_refuseNo M) (fun x8 M9 =>
        some (x8, M9)))
      else (
        if a1 = (0 : Int32) then (
          ob (f_X2_become 1 83 M) (fun M6 =>
          some ((1 : Int32), M6)))
        else (
          ob (f_X2_become 1 124 M) (fun M4 =>
          some ((1 : Int32), M4)))))))
  else (
    ob2 (f_X6_refuseBad ((-1002) : Int32) M) (fun x21 M22 =>
    some (x21, M22)))
set_option maxHeartbeats 4000000 in
set_option maxRecDepth 100000 in
theorem c_X6_from (l : Launch) (G : GT) (a1 : Int32) (M : Mem) {r : Int32} {M' : Mem} (hk : f_X6_from a1 M = some (r, M')) : CMi l G true yX6_from cX6_from 3 (some .int) 3 [.ref (ad G 0), .int a1] M r M' := by
  unfold f_X6_from at hk
  refine CMi.of (by decide) (Nat.le_of_ble_eq_true rfl) ?_
  intro p e s m args below meth c Q hx hb hml hown hg hK hW hret ls hl
  have hl : lv_has ls 3 [(0, .ref (ad G 0)), (1, .int a1)] := hl
  refine lv_iload_n hx hb dX6_from_0 rfl (lv_at hl 1 rfl) ?_
  refine lv_iconst (v := (0 : Int32)) hx hb dX6_from_1 (by decide) ?_
  refine lv_iconst (v := (1 : Int32)) hx hb dX6_from_2 (by decide) ?_
  refine cl_i (rn_S g_278 g_279 g_1 g_280 hd_X6_outside (Nat.le_of_ble_eq_true rfl) hx hb hml hown hg hK hW (As := [.int a1, .int (0 : Int32), .int (1 : Int32)]) (c_X6_outside l G a1 (0 : Int32) (1 : Int32) M) (by decide) rfl hl.1 rfl (Nat.le_of_ble_eq_true rfl) dX6_from_3) hW (fun H locs hW => ?_)
  refine lv_if_eq (tgt := 17) hx hb dX6_from_6 (by decide) (fun c23 => ?_) (fun c23 => ?_)
  · replace hk := ite_t hk c23
    refine lv_iload_n hx hb dX6_from_17 rfl (lv_at hl 1 rfl) ?_
    refine lv_if_ne (tgt := 28) hx hb dX6_from_18 (by decide) (fun c20 => ?_) (fun c20 => ?_)
    · replace hk := ite_f hk c20
      refine lv_aload_n hx hb dX6_from_28 rfl (lv_at hl 0 rfl) ?_
      refine gt_X6_29 hx hb hg hown hK hW kd_0 dX6_from_29 ?_
      replace hk := lq_s hk
      obtain ⟨x2, ex2, hk⟩ := hk
      refine nm_i ex2 ?_
      refine lv_istore_n (lv' := [(2, .int x2), (0, .ref (ad G 0)), (1, .int a1)]) hx hb dX6_from_32 rfl hl (by decide) rfl (fun ls hl => ?_)
      refine lv_iload_n hx hb dX6_from_33 rfl (lv_at hl 0 rfl) ?_
      refine lv_if_ne (tgt := 42) hx hb dX6_from_34 (by decide) (fun c10 => ?_) (fun c10 => ?_)
      · replace hk := ite_f hk c10
        refine lv_aload_n hx hb dX6_from_42 rfl (lv_at hl 1 rfl) ?_
        refine gt_X6_10 hx hb hg hown hK hW kd_0 dX6_from_43 ?_
        refine lv_iload_n hx hb dX6_from_46 rfl (lv_at hl 2 rfl) ?_
        refine lv_if_ne (tgt := 57) hx hb dX6_from_47 (by decide) (fun c7 => ?_) (fun c7 => ?_)
        · replace hk := ite_f hk c7
          refine lv_aload_n hx hb dX6_from_57 rfl (lv_at hl 1 rfl) ?_
          refine gt_X6_22 hx hb hg hown hK hW kd_0 dX6_from_58 ?_
          replace hk := ob_s hk
          obtain ⟨M4, hx3, hk⟩ := hk
          refine cl_v (rn_VN n_469 g_471 gs_23 g_2 g_472 hd_X2_become (Nat.le_of_ble_eq_true rfl) (ci := 2) rfl (inC kd_1 rfl) (shp2 kd_1) hx hb hml hown hg hK hW (As := [.ref (ad G 124)]) (c_X2_become l G kd_1 kd_124 M hx3) (by decide) rfl hl.1 rfl (Nat.le_of_ble_eq_true rfl) dX6_from_61) hW (fun H locs hW => ?_)
          refine lv_iconst (v := (1 : Int32)) hx hb dX6_from_64 (by decide) ?_
          obtain ⟨rfl, rfl⟩ := sp2 hk
          exact hret _ _ _ _ hW dX6_from_65
        · replace hk := ite_t hk c7
          refine lv_aload_n hx hb dX6_from_50 rfl (lv_at hl 1 rfl) ?_
          refine gt_X6_19 hx hb hg hown hK hW kd_0 dX6_from_51 ?_
          refine lv_goto (tgt := 61) hx hb dX6_from_54 (by decide) ?_
          replace hk := ob_s hk
          obtain ⟨M6, hx5, hk⟩ := hk
          refine cl_v (rn_VN n_469 g_471 gs_23 g_2 g_472 hd_X2_become (Nat.le_of_ble_eq_true rfl) (ci := 2) rfl (inC kd_1 rfl) (shp2 kd_1) hx hb hml hown hg hK hW (As := [.ref (ad G 83)]) (c_X2_become l G kd_1 kd_83 M hx5) (by decide) rfl hl.1 rfl (Nat.le_of_ble_eq_true rfl) dX6_from_61) hW (fun H locs hW => ?_)
          refine lv_iconst (v := (1 : Int32)) hx hb dX6_from_64 (by decide) ?_
          obtain ⟨rfl, rfl⟩ := sp2 hk
          exact hret _ _ _ _ hW dX6_from_65
      · replace hk := ite_t hk c10
        refine lv_aload_n hx hb dX6_from_37 rfl (lv_at hl 1 rfl) ?_
        replace hk := ob2_s hk
        obtain ⟨x8, M9, hx8, hk⟩ := hk
        refine cl_i (rn_V g_495 g_497 gs_27 g_1 g_498 hd_X6_refuseNo (Nat.le_of_ble_eq_true rfl) (ci := 6) rfl (inC kd_0 rfl) (shp6 kd_0) hx hb hml hown hg hK hW (As := []) (c_X6_refuseNo l G M hx8) (by decide) rfl hl.1 rfl (Nat.le_of_ble_eq_true rfl) dX6_from_38) hW (fun H locs hW => ?_)
        obtain ⟨rfl, rfl⟩ := sp2 hk
        exact hret _ _ _ _ hW dX6_from_41
    · replace hk := ite_t hk c20
      refine lv_aload_n hx hb dX6_from_21 rfl (lv_at hl 0 rfl) ?_
      refine gt_X6_25 hx hb hg hown hK hW kd_0 dX6_from_22 ?_
      refine lv_goto (tgt := 32) hx hb dX6_from_25 (by decide) ?_
      replace hk := lq_s hk
      obtain ⟨x11, ex11, hk⟩ := hk
      refine nm_i ex11 ?_
      refine lv_istore_n (lv' := [(2, .int x11), (0, .ref (ad G 0)), (1, .int a1)]) hx hb dX6_from_32 rfl hl (by decide) rfl (fun ls hl => ?_)
      refine lv_iload_n hx hb dX6_from_33 rfl (lv_at hl 0 rfl) ?_
      refine lv_if_ne (tgt := 42) hx hb dX6_from_34 (by decide) (fun c19 => ?_) (fun c19 => ?_)
      · replace hk := ite_f hk c19
        refine lv_aload_n hx hb dX6_from_42 rfl (lv_at hl 1 rfl) ?_
        refine gt_X6_10 hx hb hg hown hK hW kd_0 dX6_from_43 ?_
        refine lv_iload_n hx hb dX6_from_46 rfl (lv_at hl 2 rfl) ?_
        refine lv_if_ne (tgt := 57) hx hb dX6_from_47 (by decide) (fun c16 => ?_) (fun c16 => ?_)
        · replace hk := ite_f hk c16
          refine lv_aload_n hx hb dX6_from_57 rfl (lv_at hl 1 rfl) ?_
          refine gt_X6_22 hx hb hg hown hK hW kd_0 dX6_from_58 ?_
          replace hk := ob_s hk
          obtain ⟨M13, hx12, hk⟩ := hk
          refine cl_v (rn_VN n_469 g_471 gs_23 g_2 g_472 hd_X2_become (Nat.le_of_ble_eq_true rfl) (ci := 2) rfl (inC kd_1 rfl) (shp2 kd_1) hx hb hml hown hg hK hW (As := [.ref (ad G 124)]) (c_X2_become l G kd_1 kd_124 M hx12) (by decide) rfl hl.1 rfl (Nat.le_of_ble_eq_true rfl) dX6_from_61) hW (fun H locs hW => ?_)
          refine lv_iconst (v := (1 : Int32)) hx hb dX6_from_64 (by decide) ?_
          obtain ⟨rfl, rfl⟩ := sp2 hk
          exact hret _ _ _ _ hW dX6_from_65
        · replace hk := ite_t hk c16
          refine lv_aload_n hx hb dX6_from_50 rfl (lv_at hl 1 rfl) ?_
          refine gt_X6_19 hx hb hg hown hK hW kd_0 dX6_from_51 ?_
          refine lv_goto (tgt := 61) hx hb dX6_from_54 (by decide) ?_
          replace hk := ob_s hk
          obtain ⟨M15, hx14, hk⟩ := hk
          refine cl_v (rn_VN n_469 g_471 gs_23 g_2 g_472 hd_X2_become (Nat.le_of_ble_eq_true rfl) (ci := 2) rfl (inC kd_1 rfl) (shp2 kd_1) hx hb hml hown hg hK hW (As := [.ref (ad G 83)]) (c_X2_become l G kd_1 kd_83 M hx14) (by decide) rfl hl.1 rfl (Nat.le_of_ble_eq_true rfl) dX6_from_61) hW (fun H locs hW => ?_)
          refine lv_iconst (v := (1 : Int32)) hx hb dX6_from_64 (by decide) ?_
          obtain ⟨rfl, rfl⟩ := sp2 hk
          exact hret _ _ _ _ hW dX6_from_65
      · replace hk := ite_t hk c19
        refine lv_aload_n hx hb dX6_from_37 rfl (lv_at hl 1 rfl) ?_
        replace hk := ob2_s hk
        obtain ⟨x17, M18, hx17, hk⟩ := hk
        refine cl_i (rn_V g_495 g_497 gs_27 g_1 g_498 hd_X6_refuseNo (Nat.le_of_ble_eq_true rfl) (ci := 6) rfl (inC kd_0 rfl) (shp6 kd_0) hx hb hml hown hg hK hW (As := []) (c_X6_refuseNo l G M hx17) (by decide) rfl hl.1 rfl (Nat.le_of_ble_eq_true rfl) dX6_from_38) hW (fun H locs hW => ?_)
        obtain ⟨rfl, rfl⟩ := sp2 hk
        exact hret _ _ _ _ hW dX6_from_41
  · replace hk := ite_f hk c23
    refine lv_aload_n hx hb dX6_from_9 rfl (lv_at hl 0 rfl) ?_
    refine lv_sipush (v := ((-1002) : Int32)) hx hb dX6_from_10 (by decide) ?_
    replace hk := ob2_s hk
    obtain ⟨x21, M22, hx21, hk⟩ := hk
    refine cl_i (rn_V g_281 g_283 gs_0 g_1 g_284 hd_X6_refuseBad (Nat.le_of_ble_eq_true rfl) (ci := 6) rfl (inC kd_0 rfl) (shp6 kd_0) hx hb hml hown hg hK hW (As := [.int ((-1002) : Int32)]) (c_X6_refuseBad l G ((-1002) : Int32) M hx21) (by decide) rfl hl.1 rfl (Nat.le_of_ble_eq_true rfl) dX6_from_13) hW (fun H locs hW => ?_)
    obtain ⟨rfl, rfl⟩ := sp2 hk
    exact hret _ _ _ _ hW dX6_from_16
def f_X6_status (a1 : Int32) (M : Mem) : Option (Int32 × Mem) :=
  if a1 = (0 : Int32) then (
    some ((M.1 0 13), M))
  else (
  if a1 = (1 : Int32) then (
    some ((M.1 0 14), M))
  else (
  if a1 = (2 : Int32) then (
    some ((M.1 0 15), M))
  else (
    ob2 (f_X6_refuseBad ((-1) : Int32) M) (fun x1 M2 =>
    some (x1, M2)))))
set_option maxHeartbeats 4000000 in
set_option maxRecDepth 100000 in
theorem c_X6_status (l : Launch) (G : GT) (a1 : Int32) (M : Mem) {r : Int32} {M' : Mem} (hk : f_X6_status a1 M = some (r, M')) : CMi l G true yX6_status cX6_status 2 (some .int) 1 [.ref (ad G 0), .int a1] M r M' := by
  unfold f_X6_status at hk
  refine CMi.of (by decide) (Nat.le_of_ble_eq_true rfl) ?_
  intro p e s m args below meth c Q hx hb hml hown hg hK hW hret ls hl
  have hl : lv_has ls 2 [(0, .ref (ad G 0)), (1, .int a1)] := hl
  refine lv_iload_n hx hb dX6_status_0 rfl (lv_at hl 1 rfl) ?_
  by_cases c3 : a1 = (0 : Int32)
  · replace hk := ite_t hk c3
    refine lv_tableIn (tgt := 28) hx hb dX6_status_1 (by rw [c3]; decide) (by rw [c3]; decide) (by rw [c3]; rfl) (by decide) ?_
    refine lv_aload_n hx hb dX6_status_28 rfl (lv_at hl 0 rfl) ?_
    refine gt_X6_71 hx hb hg hown hK hW kd_0 dX6_status_29 ?_
    obtain ⟨rfl, rfl⟩ := sp2 hk
    exact hret _ _ _ _ hW dX6_status_32
  replace hk := ite_f hk c3
  have c3_0 := c3
  by_cases c3 : a1 = (1 : Int32)
  · replace hk := ite_t hk c3
    refine lv_tableIn (tgt := 33) hx hb dX6_status_1 (by rw [c3]; decide) (by rw [c3]; decide) (by rw [c3]; rfl) (by decide) ?_
    refine lv_aload_n hx hb dX6_status_33 rfl (lv_at hl 0 rfl) ?_
    refine gt_X6_75 hx hb hg hown hK hW kd_0 dX6_status_34 ?_
    obtain ⟨rfl, rfl⟩ := sp2 hk
    exact hret _ _ _ _ hW dX6_status_37
  replace hk := ite_f hk c3
  have c3_1 := c3
  by_cases c3 : a1 = (2 : Int32)
  · replace hk := ite_t hk c3
    refine lv_tableIn (tgt := 38) hx hb dX6_status_1 (by rw [c3]; decide) (by rw [c3]; decide) (by rw [c3]; rfl) (by decide) ?_
    refine lv_aload_n hx hb dX6_status_38 rfl (lv_at hl 0 rfl) ?_
    refine gt_X6_78 hx hb hg hown hK hW kd_0 dX6_status_39 ?_
    obtain ⟨rfl, rfl⟩ := sp2 hk
    exact hret _ _ _ _ hW dX6_status_42
  replace hk := ite_f hk c3
  have c3_2 := c3
  refine lv_tableOut (tgt := 43) hx hb dX6_status_1 (by have q0 := lv_neT c3_0 (a := 0) (by decide); have q1 := lv_neT c3_1 (a := 1) (by decide); have q2 := lv_neT c3_2 (a := 2) (by decide); omega) (by decide) ?_
  refine lv_aload_n hx hb dX6_status_43 rfl (lv_at hl 0 rfl) ?_
  refine lv_iconst (v := ((-1) : Int32)) hx hb dX6_status_44 (by decide) ?_
  replace hk := ob2_s hk
  obtain ⟨x1, M2, hx1, hk⟩ := hk
  refine cl_i (rn_V g_281 g_283 gs_0 g_1 g_284 hd_X6_refuseBad (Nat.le_of_ble_eq_true rfl) (ci := 6) rfl (inC kd_0 rfl) (shp6 kd_0) hx hb hml hown hg hK hW (As := [.int ((-1) : Int32)]) (c_X6_refuseBad l G ((-1) : Int32) M hx1) (by decide) rfl hl.1 rfl (Nat.le_of_ble_eq_true rfl) dX6_status_45) hW (fun H locs hW => ?_)
  obtain ⟨rfl, rfl⟩ := sp2 hk
  exact hret _ _ _ _ hW dX6_status_48
def f_X6_counted (a1 : Int32) (M : Mem) : Option (Int32) :=
  if a1 = (0 : Int32) then (
    some (M.1 1 4))
  else (
  if a1 = (1 : Int32) then (
    ob (f_X2_snappedIn 1 (1 + 5) M) (fun x1 =>
    some x1))
  else (
  if a1 = (2 : Int32) then (
    some (M.1 (1 + 5) 0))
  else (
  if a1 = (3 : Int32) then (
    some (M.1 (1 + 5) 1))
  else (
  if a1 = (4 : Int32) then (
    some (M.1 (1 + 5) 2))
  else (
  if a1 = (5 : Int32) then (
    ob (f_X2_wornTogether 1 M) (fun x2 =>
    some x2))
  else (
  if a1 = (6 : Int32) then (
    some (M.1 (1 + 35) 3))
  else (
  if a1 = (7 : Int32) then (
    some (M.1 (1 + 37) 3))
  else (
  if a1 = (8 : Int32) then (
    some (M.1 (1 + 39) 3))
  else (
  if a1 = (9 : Int32) then (
    some (M.1 1 8))
  else (
    some (M.1 165 1)))))))))))
set_option maxHeartbeats 4000000 in
set_option maxRecDepth 100000 in
theorem c_X6_counted (l : Launch) (G : GT) (a1 : Int32) (M : Mem) {r : Int32} (hk : f_X6_counted a1 M = some r) : CMi l G true yX6_counted cX6_counted 2 (some .int) 3 [.ref (ad G 0), .int a1] M r M := by
  unfold f_X6_counted at hk
  refine CMi.of (by decide) (Nat.le_of_ble_eq_true rfl) ?_
  intro p e s m args below meth c Q hx hb hml hown hg hK hW hret ls hl
  have hl : lv_has ls 2 [(0, .ref (ad G 0)), (1, .int a1)] := hl
  refine lv_iload_n hx hb dX6_counted_0 rfl (lv_at hl 1 rfl) ?_
  by_cases c3 : a1 = (0 : Int32)
  · replace hk := ite_t hk c3
    refine lv_tableIn (tgt := 56) hx hb dX6_counted_1 (by rw [c3]; decide) (by rw [c3]; decide) (by rw [c3]; rfl) (by decide) ?_
    refine lv_aload_n hx hb dX6_counted_56 rfl (lv_at hl 0 rfl) ?_
    refine gt_X6_10 hx hb hg hown hK hW kd_0 dX6_counted_57 ?_
    refine gt_X6_89 hx hb hg hown hK hW kd_1 dX6_counted_60 ?_
    obtain rfl := Option.some.inj hk
    exact hret _ _ _ _ hW dX6_counted_63
  replace hk := ite_f hk c3
  have c3_0 := c3
  by_cases c3 : a1 = (1 : Int32)
  · replace hk := ite_t hk c3
    refine lv_tableIn (tgt := 64) hx hb dX6_counted_1 (by rw [c3]; decide) (by rw [c3]; decide) (by rw [c3]; rfl) (by decide) ?_
    refine lv_aload_n hx hb dX6_counted_64 rfl (lv_at hl 0 rfl) ?_
    refine gt_X6_10 hx hb hg hown hK hW kd_0 dX6_counted_65 ?_
    refine lv_aload_n hx hb dX6_counted_68 rfl (lv_at hl 0 rfl) ?_
    refine gt_X6_10 hx hb hg hown hK hW kd_0 dX6_counted_69 ?_
    refine gt_X6_118 hx hb hg hown hK hW kd_1 dX6_counted_72 ?_
    replace hk := ob_s hk
    obtain ⟨x1, hx1, hk⟩ := hk
    refine cl_i (rn_VN n_505 g_507 gs_29 g_2 g_508 hd_X2_snappedIn (Nat.le_of_ble_eq_true rfl) (ci := 2) rfl (inC kd_1 rfl) (shp2 kd_1) hx hb hml hown hg hK hW (As := [.ref (ad G (1 + 5))]) (c_X2_snappedIn l G kd_1 (k2_5 kd_1) M hx1) (by decide) rfl hl.1 rfl (Nat.le_of_ble_eq_true rfl) dX6_counted_75) hW (fun H locs hW => ?_)
    obtain rfl := Option.some.inj hk
    exact hret _ _ _ _ hW dX6_counted_78
  replace hk := ite_f hk c3
  have c3_1 := c3
  by_cases c3 : a1 = (2 : Int32)
  · replace hk := ite_t hk c3
    refine lv_tableIn (tgt := 79) hx hb dX6_counted_1 (by rw [c3]; decide) (by rw [c3]; decide) (by rw [c3]; rfl) (by decide) ?_
    refine lv_aload_n hx hb dX6_counted_79 rfl (lv_at hl 0 rfl) ?_
    refine gt_X6_10 hx hb hg hown hK hW kd_0 dX6_counted_80 ?_
    refine gt_X6_118 hx hb hg hown hK hW kd_1 dX6_counted_83 ?_
    refine gt_X6_319 hx hb hg hown hK hW (k2_5 kd_1) dX6_counted_86 ?_
    obtain rfl := Option.some.inj hk
    exact hret _ _ _ _ hW dX6_counted_89
  replace hk := ite_f hk c3
  have c3_2 := c3
  by_cases c3 : a1 = (3 : Int32)
  · replace hk := ite_t hk c3
    refine lv_tableIn (tgt := 90) hx hb dX6_counted_1 (by rw [c3]; decide) (by rw [c3]; decide) (by rw [c3]; rfl) (by decide) ?_
    refine lv_aload_n hx hb dX6_counted_90 rfl (lv_at hl 0 rfl) ?_
    refine gt_X6_10 hx hb hg hown hK hW kd_0 dX6_counted_91 ?_
    refine gt_X6_118 hx hb hg hown hK hW kd_1 dX6_counted_94 ?_
    refine gt_X6_178 hx hb hg hown hK hW (k2_5 kd_1) dX6_counted_97 ?_
    obtain rfl := Option.some.inj hk
    exact hret _ _ _ _ hW dX6_counted_100
  replace hk := ite_f hk c3
  have c3_3 := c3
  by_cases c3 : a1 = (4 : Int32)
  · replace hk := ite_t hk c3
    refine lv_tableIn (tgt := 101) hx hb dX6_counted_1 (by rw [c3]; decide) (by rw [c3]; decide) (by rw [c3]; rfl) (by decide) ?_
    refine lv_aload_n hx hb dX6_counted_101 rfl (lv_at hl 0 rfl) ?_
    refine gt_X6_10 hx hb hg hown hK hW kd_0 dX6_counted_102 ?_
    refine gt_X6_118 hx hb hg hown hK hW kd_1 dX6_counted_105 ?_
    refine gt_X6_121 hx hb hg hown hK hW (k2_5 kd_1) dX6_counted_108 ?_
    obtain rfl := Option.some.inj hk
    exact hret _ _ _ _ hW dX6_counted_111
  replace hk := ite_f hk c3
  have c3_4 := c3
  by_cases c3 : a1 = (5 : Int32)
  · replace hk := ite_t hk c3
    refine lv_tableIn (tgt := 112) hx hb dX6_counted_1 (by rw [c3]; decide) (by rw [c3]; decide) (by rw [c3]; rfl) (by decide) ?_
    refine lv_aload_n hx hb dX6_counted_112 rfl (lv_at hl 0 rfl) ?_
    refine gt_X6_10 hx hb hg hown hK hW kd_0 dX6_counted_113 ?_
    replace hk := ob_s hk
    obtain ⟨x2, hx2, hk⟩ := hk
    refine cl_i (rn_VN n_827 g_829 gs_59 g_2 g_830 hd_X2_wornTogether (Nat.le_of_ble_eq_true rfl) (ci := 2) rfl (inC kd_1 rfl) (shp2 kd_1) hx hb hml hown hg hK hW (As := []) (c_X2_wornTogether l G kd_1 M hx2) (by decide) rfl hl.1 rfl (Nat.le_of_ble_eq_true rfl) dX6_counted_116) hW (fun H locs hW => ?_)
    obtain rfl := Option.some.inj hk
    exact hret _ _ _ _ hW dX6_counted_119
  replace hk := ite_f hk c3
  have c3_5 := c3
  by_cases c3 : a1 = (6 : Int32)
  · replace hk := ite_t hk c3
    refine lv_tableIn (tgt := 120) hx hb dX6_counted_1 (by rw [c3]; decide) (by rw [c3]; decide) (by rw [c3]; rfl) (by decide) ?_
    refine lv_aload_n hx hb dX6_counted_120 rfl (lv_at hl 0 rfl) ?_
    refine gt_X6_10 hx hb hg hown hK hW kd_0 dX6_counted_121 ?_
    refine gt_X6_218 hx hb hg hown hK hW kd_1 dX6_counted_124 ?_
    refine gt_X6_325 hx hb hg hown hK hW (k2_35 kd_1) dX6_counted_127 ?_
    obtain rfl := Option.some.inj hk
    exact hret _ _ _ _ hW dX6_counted_130
  replace hk := ite_f hk c3
  have c3_6 := c3
  by_cases c3 : a1 = (7 : Int32)
  · replace hk := ite_t hk c3
    refine lv_tableIn (tgt := 131) hx hb dX6_counted_1 (by rw [c3]; decide) (by rw [c3]; decide) (by rw [c3]; rfl) (by decide) ?_
    refine lv_aload_n hx hb dX6_counted_131 rfl (lv_at hl 0 rfl) ?_
    refine gt_X6_10 hx hb hg hown hK hW kd_0 dX6_counted_132 ?_
    refine gt_X6_247 hx hb hg hown hK hW kd_1 dX6_counted_135 ?_
    refine gt_X6_325 hx hb hg hown hK hW (k2_37 kd_1) dX6_counted_138 ?_
    obtain rfl := Option.some.inj hk
    exact hret _ _ _ _ hW dX6_counted_141
  replace hk := ite_f hk c3
  have c3_7 := c3
  by_cases c3 : a1 = (8 : Int32)
  · replace hk := ite_t hk c3
    refine lv_tableIn (tgt := 142) hx hb dX6_counted_1 (by rw [c3]; decide) (by rw [c3]; decide) (by rw [c3]; rfl) (by decide) ?_
    refine lv_aload_n hx hb dX6_counted_142 rfl (lv_at hl 0 rfl) ?_
    refine gt_X6_10 hx hb hg hown hK hW kd_0 dX6_counted_143 ?_
    refine gt_X6_250 hx hb hg hown hK hW kd_1 dX6_counted_146 ?_
    refine gt_X6_325 hx hb hg hown hK hW (k2_39 kd_1) dX6_counted_149 ?_
    obtain rfl := Option.some.inj hk
    exact hret _ _ _ _ hW dX6_counted_152
  replace hk := ite_f hk c3
  have c3_8 := c3
  by_cases c3 : a1 = (9 : Int32)
  · replace hk := ite_t hk c3
    refine lv_tableIn (tgt := 153) hx hb dX6_counted_1 (by rw [c3]; decide) (by rw [c3]; decide) (by rw [c3]; rfl) (by decide) ?_
    refine lv_aload_n hx hb dX6_counted_153 rfl (lv_at hl 0 rfl) ?_
    refine gt_X6_10 hx hb hg hown hK hW kd_0 dX6_counted_154 ?_
    refine gt_X6_161 hx hb hg hown hK hW kd_1 dX6_counted_157 ?_
    obtain rfl := Option.some.inj hk
    exact hret _ _ _ _ hW dX6_counted_160
  replace hk := ite_f hk c3
  have c3_9 := c3
  refine lv_tableOut (tgt := 161) hx hb dX6_counted_1 (by have q0 := lv_neT c3_0 (a := 0) (by decide); have q1 := lv_neT c3_1 (a := 1) (by decide); have q2 := lv_neT c3_2 (a := 2) (by decide); have q3 := lv_neT c3_3 (a := 3) (by decide); have q4 := lv_neT c3_4 (a := 4) (by decide); have q5 := lv_neT c3_5 (a := 5) (by decide); have q6 := lv_neT c3_6 (a := 6) (by decide); have q7 := lv_neT c3_7 (a := 7) (by decide); have q8 := lv_neT c3_8 (a := 8) (by decide); have q9 := lv_neT c3_9 (a := 9) (by decide); omega) (by decide) ?_
  refine lv_aload_n hx hb dX6_counted_161 rfl (lv_at hl 0 rfl) ?_
  refine gt_X6_35 hx hb hg hown hK hW kd_0 dX6_counted_162 ?_
  refine gt_X6_104 hx hb hg hown hK hW kd_165 dX6_counted_165 ?_
  obtain rfl := Option.some.inj hk
  exact hret _ _ _ _ hW dX6_counted_168
def f_X6_count (a1 : Int32) (M : Mem) : Option (Int32 × Mem) :=
  if (f_X6_outside a1 (0 : Int32) (10 : Int32)) = (0 : Int32) then (
    ob (f_X6_counted a1 M) (fun x2 =>
    some (x2, M)))
  else (
    ob2 (f_X6_refuseBad ((-1002) : Int32) M) (fun x3 M4 =>
    some (x3, M4)))
set_option maxHeartbeats 4000000 in
set_option maxRecDepth 100000 in
theorem c_X6_count (l : Launch) (G : GT) (a1 : Int32) (M : Mem) {r : Int32} {M' : Mem} (hk : f_X6_count a1 M = some (r, M')) : CMi l G true yX6_count cX6_count 2 (some .int) 4 [.ref (ad G 0), .int a1] M r M' := by
  unfold f_X6_count at hk
  refine CMi.of (by decide) (Nat.le_of_ble_eq_true rfl) ?_
  intro p e s m args below meth c Q hx hb hml hown hg hK hW hret ls hl
  have hl : lv_has ls 2 [(0, .ref (ad G 0)), (1, .int a1)] := hl
  refine lv_iload_n hx hb dX6_count_0 rfl (lv_at hl 1 rfl) ?_
  refine lv_iconst (v := (0 : Int32)) hx hb dX6_count_1 (by decide) ?_
  refine lv_bipush (v := (10 : Int32)) hx hb dX6_count_2 (by decide) ?_
  refine cl_i (rn_S g_278 g_279 g_1 g_280 hd_X6_outside (Nat.le_of_ble_eq_true rfl) hx hb hml hown hg hK hW (As := [.int a1, .int (0 : Int32), .int (10 : Int32)]) (c_X6_outside l G a1 (0 : Int32) (10 : Int32) M) (by decide) rfl hl.1 rfl (Nat.le_of_ble_eq_true rfl) dX6_count_4) hW (fun H locs hW => ?_)
  refine lv_if_eq (tgt := 18) hx hb dX6_count_7 (by decide) (fun c5 => ?_) (fun c5 => ?_)
  · replace hk := ite_t hk c5
    refine lv_aload_n hx hb dX6_count_18 rfl (lv_at hl 0 rfl) ?_
    refine lv_iload_n hx hb dX6_count_19 rfl (lv_at hl 1 rfl) ?_
    replace hk := ob_s hk
    obtain ⟨x2, hx2, hk⟩ := hk
    refine cl_i (rn_V g_823 g_825 gs_58 g_1 g_826 hd_X6_counted (Nat.le_of_ble_eq_true rfl) (ci := 6) rfl (inC kd_0 rfl) (shp6 kd_0) hx hb hml hown hg hK hW (As := [.int a1]) (c_X6_counted l G a1 M hx2) (by decide) rfl hl.1 rfl (Nat.le_of_ble_eq_true rfl) dX6_count_20) hW (fun H locs hW => ?_)
    obtain ⟨rfl, rfl⟩ := sp2 hk
    exact hret _ _ _ _ hW dX6_count_23
  · replace hk := ite_f hk c5
    refine lv_aload_n hx hb dX6_count_10 rfl (lv_at hl 0 rfl) ?_
    refine lv_sipush (v := ((-1002) : Int32)) hx hb dX6_count_11 (by decide) ?_
    replace hk := ob2_s hk
    obtain ⟨x3, M4, hx3, hk⟩ := hk
    refine cl_i (rn_V g_281 g_283 gs_0 g_1 g_284 hd_X6_refuseBad (Nat.le_of_ble_eq_true rfl) (ci := 6) rfl (inC kd_0 rfl) (shp6 kd_0) hx hb hml hown hg hK hW (As := [.int ((-1002) : Int32)]) (c_X6_refuseBad l G ((-1002) : Int32) M hx3) (by decide) rfl hl.1 rfl (Nat.le_of_ble_eq_true rfl) dX6_count_14) hW (fun H locs hW => ?_)
    obtain ⟨rfl, rfl⟩ := sp2 hk
    exact hret _ _ _ _ hW dX6_count_17
def f_X6_digest_L6 (M : Mem) : Nat → Int64 → Int32 → Option (Int64)
  | 0, _, _ => none
  | n + 1, x1, x2 =>
    if (10 : Int32) < x2 then (
      some x1)
    else (
      ob (f_X6_counted x2 M) (fun x4 =>
      lq (((31 : Int64) * x1) + x4.toInt64) (fun x5 =>
      lq (x2 + (1 : Int32)) (fun x6 =>
      f_X6_digest_L6 M n x5 x6))))
def f_X6_digest_L47 (M : Mem) (x9 : Int32) : Nat → Int64 → Int32 → Option (Int64)
  | 0, _, _ => none
  | n + 1, x11, x12 =>
    if (6 : Int32) < x12 then (
      some x11)
    else (
      ob (f_X2_tellOf 1 x9 x12 M) (fun x14 =>
      lq (((31 : Int64) * x11) + x14.toInt64) (fun x15 =>
      lq (x12 + (1 : Int32)) (fun x16 =>
      f_X6_digest_L47 M x9 n x15 x16))))
def f_X6_digest_L33 (M : Mem) : Nat → Int64 → Int32 → Option (Int64)
  | 0, _, _ => none
  | n + 1, x8, x9 =>
    if (M.1 1 4) ≤ x9 then (
      some x8)
    else (
      ob (f_X6_digest_L47 M x9 FU x8 (0 : Int32)) (fun x13 =>
      lq (x9 + (1 : Int32)) (fun x18 =>
      f_X6_digest_L33 M n x13 x18)))
def f_X6_digest_L86 (M : Mem) : Nat → Int64 → Int32 → Option (Int64)
  | 0, _, _ => none
  | n + 1, x22, x23 =>
    if (8 : Int32) ≤ x23 then (
      some x22)
    else (
      ob (f_X6_cell (1 + 33) x23 M) (fun x25 =>
      lq (((31 : Int64) * x22) + x25.toInt64) (fun x26 =>
      ob (f_X6_cell (1 + 34) x23 M) (fun x27 =>
      lq (((31 : Int64) * x26) + x27.toInt64) (fun x28 =>
      lq (x23 + (1 : Int32)) (fun x29 =>
      f_X6_digest_L86 M n x28 x29))))))
def f_X6_digest (M : Mem) : Option (Int64) :=
  ob (f_X6_digest_L6 M FU (1783 : Int64) (0 : Int32)) (fun x3 =>
  ob (f_X6_digest_L33 M FU x3 (0 : Int32)) (fun x10 =>
  ob (f_X6_digest_L86 M FU x10 (0 : Int32)) (fun x24 =>
  lq (((31 : Int64) * x24) + (M.1 1 11).toInt64) (fun x31 =>
  ob (f_X5_digestOn (1 + 35) x31 M) (fun x32 =>
  ob (f_X5_digestOn (1 + 37) x32 M) (fun x33 =>
  ob (f_X5_digestOn (1 + 39) x33 M) (fun x34 =>
  lq (((31 : Int64) * x34) + (M.2 0 11)) (fun x35 =>
  some (((31 : Int64) * x35) + (M.2 0 12))))))))))
set_option maxHeartbeats 4000000 in
set_option maxRecDepth 100000 in
theorem c_X6_digest (l : Launch) (G : GT)  (M : Mem) {r : Int64} (hk : f_X6_digest  M = some r) : CMl l G true yX6_digest cX6_digest 5 (some .long) 5 [.ref (ad G 0)] M r M := by
  unfold f_X6_digest at hk
  refine CMl.of (by decide) (Nat.le_of_ble_eq_true rfl) ?_
  intro p e s m args below meth c Q hx hb hml hown hg hK hW hret ls hl
  have hl : lv_has ls 5 [(0, .ref (ad G 0))] := hl
  refine lv_ldc2 hx hb hown (hg _ g_835) dX6_digest_0 ?_
  refine lv_lstore_n (lv' := [(1, .long (1783 : Int64)), (0, .ref (ad G 0))]) hx hb dX6_digest_3 rfl hl (by decide) rfl (fun ls hl => ?_)
  refine lv_iconst (v := (0 : Int32)) hx hb dX6_digest_4 (by decide) ?_
  refine lv_istore_n (lv' := [(3, .int (0 : Int32)), (1, .long (1783 : Int64)), (0, .ref (ad G 0))]) hx hb dX6_digest_5 rfl hl (by decide) rfl (fun ls hl => ?_)
  replace hk := ob_s hk
  obtain ⟨x3, hz40, hk⟩ := hk
  have KX6 : ∀ (H : Heap) (locs : List Loc) (ls : Array Slot), Ws G true M s H locs → lv_has ls 5 [(0, .ref (ad G 0)), (1, .long x3)] → Wx p l e 5 s m args below meth c Q H locs 31 ls [] := by
    intro H locs ls hW hl
    refine lv_iconst (v := (0 : Int32)) hx hb dX6_digest_31 (by decide) ?_
    refine lv_istore_n (lv' := [(3, .int (0 : Int32)), (0, .ref (ad G 0)), (1, .long x3)]) hx hb dX6_digest_32 rfl hl (by decide) rfl (fun ls hl => ?_)
    replace hk := ob_s hk
    obtain ⟨x10, hz38, hk⟩ := hk
    have KX33 : ∀ (H : Heap) (locs : List Loc) (ls : Array Slot), Ws G true M s H locs → lv_has ls 5 [(0, .ref (ad G 0)), (1, .long x10)] → Wx p l e 5 s m args below meth c Q H locs 84 ls [] := by
      intro H locs ls hW hl
      refine lv_iconst (v := (0 : Int32)) hx hb dX6_digest_84 (by decide) ?_
      refine lv_istore_n (lv' := [(3, .int (0 : Int32)), (0, .ref (ad G 0)), (1, .long x10)]) hx hb dX6_digest_85 rfl hl (by decide) rfl (fun ls hl => ?_)
      replace hk := ob_s hk
      obtain ⟨x24, hz36, hk⟩ := hk
      have KX86 : ∀ (H : Heap) (locs : List Loc) (ls : Array Slot), Ws G true M s H locs → lv_has ls 5 [(0, .ref (ad G 0)), (1, .long x24)] → Wx p l e 5 s m args below meth c Q H locs 136 ls [] := by
        intro H locs ls hW hl
        refine lv_ldc2 hx hb hown (hg _ g_836) dX6_digest_136 ?_
        refine lv_lload_n hx hb dX6_digest_139 rfl (lv_at hl 1 rfl) ?_
        refine lv_lmul hx hb dX6_digest_140 ?_
        refine lv_aload_n hx hb dX6_digest_141 rfl (lv_at hl 0 rfl) ?_
        refine gt_X6_10 hx hb hg hown hK hW kd_0 dX6_digest_142 ?_
        refine gt_X6_208 hx hb hg hown hK hW kd_1 dX6_digest_145 ?_
        refine lv_i2l hx hb dX6_digest_148 rfl ?_
        refine lv_ladd hx hb dX6_digest_149 ?_
        replace hk := lq_s hk
        obtain ⟨x31, ex31, hk⟩ := hk
        refine nm_l ex31 ?_
        refine lv_lstore_n (lv' := [(1, .long x31), (0, .ref (ad G 0))]) hx hb dX6_digest_150 rfl hl (by decide) rfl (fun ls hl => ?_)
        refine lv_aload_n hx hb dX6_digest_151 rfl (lv_at hl 1 rfl) ?_
        refine gt_X6_10 hx hb hg hown hK hW kd_0 dX6_digest_152 ?_
        refine gt_X6_218 hx hb hg hown hK hW kd_1 dX6_digest_155 ?_
        refine lv_lload_n hx hb dX6_digest_158 rfl (lv_at hl 0 rfl) ?_
        replace hk := ob_s hk
        obtain ⟨x32, hx32, hk⟩ := hk
        refine cl_l (rn_VN n_837 g_839 gs_60 g_4 g_840 hd_X5_digestOn (Nat.le_of_ble_eq_true rfl) (ci := 5) rfl (inC (k2_35 kd_1) rfl) (shp5 (k2_35 kd_1)) hx hb hml hown hg hK hW (As := [.long x31]) (c_X5_digestOn l G (k2_35 kd_1) x31 M hx32) (by decide) rfl hl.1 rfl (Nat.le_of_ble_eq_true rfl) dX6_digest_159) hW (fun H locs hW => ?_)
        refine lv_lstore_n (lv' := [(1, .long x32), (0, .ref (ad G 0))]) hx hb dX6_digest_162 rfl hl (by decide) rfl (fun ls hl => ?_)
        refine lv_aload_n hx hb dX6_digest_163 rfl (lv_at hl 1 rfl) ?_
        refine gt_X6_10 hx hb hg hown hK hW kd_0 dX6_digest_164 ?_
        refine gt_X6_247 hx hb hg hown hK hW kd_1 dX6_digest_167 ?_
        refine lv_lload_n hx hb dX6_digest_170 rfl (lv_at hl 0 rfl) ?_
        replace hk := ob_s hk
        obtain ⟨x33, hx33, hk⟩ := hk
        refine cl_l (rn_VN n_837 g_839 gs_60 g_4 g_840 hd_X5_digestOn (Nat.le_of_ble_eq_true rfl) (ci := 5) rfl (inC (k2_37 kd_1) rfl) (shp5 (k2_37 kd_1)) hx hb hml hown hg hK hW (As := [.long x32]) (c_X5_digestOn l G (k2_37 kd_1) x32 M hx33) (by decide) rfl hl.1 rfl (Nat.le_of_ble_eq_true rfl) dX6_digest_171) hW (fun H locs hW => ?_)
        refine lv_lstore_n (lv' := [(1, .long x33), (0, .ref (ad G 0))]) hx hb dX6_digest_174 rfl hl (by decide) rfl (fun ls hl => ?_)
        refine lv_aload_n hx hb dX6_digest_175 rfl (lv_at hl 1 rfl) ?_
        refine gt_X6_10 hx hb hg hown hK hW kd_0 dX6_digest_176 ?_
        refine gt_X6_250 hx hb hg hown hK hW kd_1 dX6_digest_179 ?_
        refine lv_lload_n hx hb dX6_digest_182 rfl (lv_at hl 0 rfl) ?_
        replace hk := ob_s hk
        obtain ⟨x34, hx34, hk⟩ := hk
        refine cl_l (rn_VN n_837 g_839 gs_60 g_4 g_840 hd_X5_digestOn (Nat.le_of_ble_eq_true rfl) (ci := 5) rfl (inC (k2_39 kd_1) rfl) (shp5 (k2_39 kd_1)) hx hb hml hown hg hK hW (As := [.long x33]) (c_X5_digestOn l G (k2_39 kd_1) x33 M hx34) (by decide) rfl hl.1 rfl (Nat.le_of_ble_eq_true rfl) dX6_digest_183) hW (fun H locs hW => ?_)
        refine lv_lstore_n (lv' := [(1, .long x34), (0, .ref (ad G 0))]) hx hb dX6_digest_186 rfl hl (by decide) rfl (fun ls hl => ?_)
        refine lv_ldc2 hx hb hown (hg _ g_836) dX6_digest_187 ?_
        refine lv_lload_n hx hb dX6_digest_190 rfl (lv_at hl 0 rfl) ?_
        refine lv_lmul hx hb dX6_digest_191 ?_
        refine lv_aload_n hx hb dX6_digest_192 rfl (lv_at hl 1 rfl) ?_
        refine gt_X6_64 hx hb hg hown hK hW kd_0 dX6_digest_193 ?_
        refine lv_ladd hx hb dX6_digest_196 ?_
        replace hk := lq_s hk
        obtain ⟨x35, ex35, hk⟩ := hk
        refine nm_l ex35 ?_
        refine lv_lstore_n (lv' := [(1, .long x35), (0, .ref (ad G 0))]) hx hb dX6_digest_197 rfl hl (by decide) rfl (fun ls hl => ?_)
        refine lv_ldc2 hx hb hown (hg _ g_836) dX6_digest_198 ?_
        refine lv_lload_n hx hb dX6_digest_201 rfl (lv_at hl 0 rfl) ?_
        refine lv_lmul hx hb dX6_digest_202 ?_
        refine lv_aload_n hx hb dX6_digest_203 rfl (lv_at hl 1 rfl) ?_
        refine gt_X6_68 hx hb hg hown hK hW kd_0 dX6_digest_204 ?_
        refine lv_ladd hx hb dX6_digest_207 ?_
        obtain rfl := Option.some.inj hk
        exact hret _ _ _ _ hW dX6_digest_208
      clear hk
      have LH86 : ∀ (n : Nat) (x22 : Int64) (x23 : Int32) (H : Heap) (locs : List Loc) (ls : Array Slot), f_X6_digest_L86 M n x22 x23 = some x24 → Ws G true M s H locs → lv_has ls 5 [(0, .ref (ad G 0)), (1, .long x22), (3, .int x23)] → Wx p l e 5 s m args below meth c Q H locs 86 ls [] := by
        clear hz36
        intro n
        induction n with
        | zero => intro _ _ _ _ _ hk; cases hk
        | succ n ih86 =>
          intro x22 x23 H locs ls hk hW hl
          rw [f_X6_digest_L86.eq_2] at hk
          refine lv_iload_n hx hb dX6_digest_86 rfl (lv_at hl 2 rfl) ?_
          refine lv_bipush (v := (8 : Int32)) hx hb dX6_digest_87 (by decide) ?_
          refine lv_icmp_ge (tgt := 136) hx hb dX6_digest_89 (by decide) (fun c30 => ?_) (fun c30 => ?_)
          · replace hk := ite_t hk c30
            obtain rfl := Option.some.inj hk
            exact KX86 _ _ _ hW (lv_sub hl [0, 1] rfl)
          · replace hk := ite_f hk c30
            refine lv_ldc2 hx hb hown (hg _ g_836) dX6_digest_92 ?_
            refine lv_lload_n hx hb dX6_digest_95 rfl (lv_at hl 1 rfl) ?_
            refine lv_lmul hx hb dX6_digest_96 ?_
            refine lv_aload_n hx hb dX6_digest_97 rfl (lv_at hl 0 rfl) ?_
            refine gt_X6_10 hx hb hg hown hK hW kd_0 dX6_digest_98 ?_
            refine gt_X6_202 hx hb hg hown hK hW kd_1 dX6_digest_101 ?_
            refine lv_iload_n hx hb dX6_digest_104 rfl (lv_at hl 2 rfl) ?_
            replace hk := ob_s hk
            obtain ⟨x25, hx25, hk⟩ := hk
            refine cl_i (rn_S g_607 g_346 g_1 g_347 hd_X6_cell (Nat.le_of_ble_eq_true rfl) hx hb hml hown hg hK hW (As := [.ref (ad G (1 + 33)), .int x23]) (c_X6_cell l G (k2_33 kd_1) x23 M hx25) (by decide) rfl hl.1 rfl (Nat.le_of_ble_eq_true rfl) dX6_digest_105) hW (fun H locs hW => ?_)
            refine lv_i2l hx hb dX6_digest_108 rfl ?_
            refine lv_ladd hx hb dX6_digest_109 ?_
            replace hk := lq_s hk
            obtain ⟨x26, ex26, hk⟩ := hk
            refine nm_l ex26 ?_
            refine lv_lstore_n (lv' := [(1, .long x26), (0, .ref (ad G 0)), (3, .int x23)]) hx hb dX6_digest_110 rfl hl (by decide) rfl (fun ls hl => ?_)
            refine lv_ldc2 hx hb hown (hg _ g_836) dX6_digest_111 ?_
            refine lv_lload_n hx hb dX6_digest_114 rfl (lv_at hl 0 rfl) ?_
            refine lv_lmul hx hb dX6_digest_115 ?_
            refine lv_aload_n hx hb dX6_digest_116 rfl (lv_at hl 1 rfl) ?_
            refine gt_X6_10 hx hb hg hown hK hW kd_0 dX6_digest_117 ?_
            refine gt_X6_205 hx hb hg hown hK hW kd_1 dX6_digest_120 ?_
            refine lv_iload_n hx hb dX6_digest_123 rfl (lv_at hl 2 rfl) ?_
            replace hk := ob_s hk
            obtain ⟨x27, hx27, hk⟩ := hk
            refine cl_i (rn_S g_607 g_346 g_1 g_347 hd_X6_cell (Nat.le_of_ble_eq_true rfl) hx hb hml hown hg hK hW (As := [.ref (ad G (1 + 34)), .int x23]) (c_X6_cell l G (k2_34 kd_1) x23 M hx27) (by decide) rfl hl.1 rfl (Nat.le_of_ble_eq_true rfl) dX6_digest_124) hW (fun H locs hW => ?_)
            refine lv_i2l hx hb dX6_digest_127 rfl ?_
            refine lv_ladd hx hb dX6_digest_128 ?_
            replace hk := lq_s hk
            obtain ⟨x28, ex28, hk⟩ := hk
            refine nm_l ex28 ?_
            refine lv_lstore_n (lv' := [(1, .long x28), (0, .ref (ad G 0)), (3, .int x23)]) hx hb dX6_digest_129 rfl hl (by decide) rfl (fun ls hl => ?_)
            replace hk := lq_s hk
            obtain ⟨x29, ex29, hk⟩ := hk
            refine lv_iinc (v := x29) (lv' := [(3, .int x29), (1, .long x28), (0, .ref (ad G 0))]) hx hb dX6_digest_130 hl (k := 2) rfl (by rw [ex29]; rfl) (by decide) rfl (fun ls hl => ?_)
            refine lv_goto (tgt := 86) hx hb dX6_digest_133 (by decide) ?_
            exact ih86 _ _ _ _ _ hk hW (lv_sub hl [2, 1, 0] rfl)
      exact LH86 FU _ _ _ _ _ hz36 hW (lv_sub hl [1, 2, 0] rfl)
    clear hk
    have LH33 : ∀ (n : Nat) (x8 : Int64) (x9 : Int32) (H : Heap) (locs : List Loc) (ls : Array Slot), f_X6_digest_L33 M n x8 x9 = some x10 → Ws G true M s H locs → lv_has ls 5 [(0, .ref (ad G 0)), (1, .long x8), (3, .int x9)] → Wx p l e 5 s m args below meth c Q H locs 33 ls [] := by
      clear hz38
      intro n
      induction n with
      | zero => intro _ _ _ _ _ hk; cases hk
      | succ n ih33 =>
        intro x8 x9 H locs ls hk hW hl
        rw [f_X6_digest_L33.eq_2] at hk
        refine lv_iload_n hx hb dX6_digest_33 rfl (lv_at hl 2 rfl) ?_
        refine lv_aload_n hx hb dX6_digest_34 rfl (lv_at hl 0 rfl) ?_
        refine gt_X6_10 hx hb hg hown hK hW kd_0 dX6_digest_35 ?_
        refine gt_X6_89 hx hb hg hown hK hW kd_1 dX6_digest_38 ?_
        refine lv_icmp_ge (tgt := 84) hx hb dX6_digest_41 (by decide) (fun c21 => ?_) (fun c21 => ?_)
        · replace hk := ite_t hk c21
          obtain rfl := Option.some.inj hk
          exact KX33 _ _ _ hW (lv_sub hl [0, 1] rfl)
        · replace hk := ite_f hk c21
          refine lv_iconst (v := (0 : Int32)) hx hb dX6_digest_44 (by decide) ?_
          refine lv_istore (lv' := [(4, .int (0 : Int32)), (0, .ref (ad G 0)), (1, .long x8), (3, .int x9)]) hx hb dX6_digest_45 hl (by decide) rfl (fun ls hl => ?_)
          replace hk := ob_s hk
          obtain ⟨x13, hz19, hk⟩ := hk
          have KX47 : ∀ (H : Heap) (locs : List Loc) (ls : Array Slot), Ws G true M s H locs → lv_has ls 5 [(0, .ref (ad G 0)), (1, .long x13), (3, .int x9)] → Wx p l e 5 s m args below meth c Q H locs 78 ls [] := by
            intro H locs ls hW hl
            replace hk := lq_s hk
            obtain ⟨x18, ex18, hk⟩ := hk
            refine lv_iinc (v := x18) (lv' := [(3, .int x18), (0, .ref (ad G 0)), (1, .long x13)]) hx hb dX6_digest_78 hl (k := 2) rfl (by rw [ex18]; rfl) (by decide) rfl (fun ls hl => ?_)
            refine lv_goto (tgt := 33) hx hb dX6_digest_81 (by decide) ?_
            exact ih33 _ _ _ _ _ hk hW (lv_sub hl [1, 2, 0] rfl)
          clear hk
          have LH47 : ∀ (n : Nat) (x11 : Int64) (x12 : Int32) (H : Heap) (locs : List Loc) (ls : Array Slot), f_X6_digest_L47 M x9 n x11 x12 = some x13 → Ws G true M s H locs → lv_has ls 5 [(0, .ref (ad G 0)), (1, .long x11), (3, .int x9), (4, .int x12)] → Wx p l e 5 s m args below meth c Q H locs 47 ls [] := by
            clear hz19
            intro n
            induction n with
            | zero => intro _ _ _ _ _ hk; cases hk
            | succ n ih47 =>
              intro x11 x12 H locs ls hk hW hl
              rw [f_X6_digest_L47.eq_2] at hk
              refine lv_iload hx hb dX6_digest_47 (lv_at hl 3 rfl) ?_
              refine lv_bipush (v := (6 : Int32)) hx hb dX6_digest_49 (by decide) ?_
              refine lv_icmp_gt (tgt := 78) hx hb dX6_digest_51 (by decide) (fun c17 => ?_) (fun c17 => ?_)
              · replace hk := ite_t hk c17
                obtain rfl := Option.some.inj hk
                exact KX47 _ _ _ hW (lv_sub hl [0, 1, 2] rfl)
              · replace hk := ite_f hk c17
                refine lv_ldc2 hx hb hown (hg _ g_836) dX6_digest_54 ?_
                refine lv_lload_n hx hb dX6_digest_57 rfl (lv_at hl 1 rfl) ?_
                refine lv_lmul hx hb dX6_digest_58 ?_
                refine lv_aload_n hx hb dX6_digest_59 rfl (lv_at hl 0 rfl) ?_
                refine gt_X6_10 hx hb hg hown hK hW kd_0 dX6_digest_60 ?_
                refine lv_iload_n hx hb dX6_digest_63 rfl (lv_at hl 2 rfl) ?_
                refine lv_iload hx hb dX6_digest_64 (lv_at hl 3 rfl) ?_
                replace hk := ob_s hk
                obtain ⟨x14, hx14, hk⟩ := hk
                refine cl_i (rn_VN n_541 g_543 gs_33 g_2 g_544 hd_X2_tellOf (Nat.le_of_ble_eq_true rfl) (ci := 2) rfl (inC kd_1 rfl) (shp2 kd_1) hx hb hml hown hg hK hW (As := [.int x9, .int x12]) (c_X2_tellOf l G kd_1 x9 x12 M hx14) (by decide) rfl hl.1 rfl (Nat.le_of_ble_eq_true rfl) dX6_digest_66) hW (fun H locs hW => ?_)
                refine lv_i2l hx hb dX6_digest_69 rfl ?_
                refine lv_ladd hx hb dX6_digest_70 ?_
                replace hk := lq_s hk
                obtain ⟨x15, ex15, hk⟩ := hk
                refine nm_l ex15 ?_
                refine lv_lstore_n (lv' := [(1, .long x15), (0, .ref (ad G 0)), (3, .int x9), (4, .int x12)]) hx hb dX6_digest_71 rfl hl (by decide) rfl (fun ls hl => ?_)
                replace hk := lq_s hk
                obtain ⟨x16, ex16, hk⟩ := hk
                refine lv_iinc (v := x16) (lv' := [(4, .int x16), (1, .long x15), (0, .ref (ad G 0)), (3, .int x9)]) hx hb dX6_digest_72 hl (k := 3) rfl (by rw [ex16]; rfl) (by decide) rfl (fun ls hl => ?_)
                refine lv_goto (tgt := 47) hx hb dX6_digest_75 (by decide) ?_
                exact ih47 _ _ _ _ _ hk hW (lv_sub hl [2, 1, 3, 0] rfl)
          exact LH47 FU _ _ _ _ _ hz19 hW (lv_sub hl [1, 2, 3, 0] rfl)
    exact LH33 FU _ _ _ _ _ hz38 hW (lv_sub hl [1, 2, 0] rfl)
  clear hk
  have LH6 : ∀ (n : Nat) (x1 : Int64) (x2 : Int32) (H : Heap) (locs : List Loc) (ls : Array Slot), f_X6_digest_L6 M n x1 x2 = some x3 → Ws G true M s H locs → lv_has ls 5 [(0, .ref (ad G 0)), (1, .long x1), (3, .int x2)] → Wx p l e 5 s m args below meth c Q H locs 6 ls [] := by
    clear hz40
    intro n
    induction n with
    | zero => intro _ _ _ _ _ hk; cases hk
    | succ n ih6 =>
      intro x1 x2 H locs ls hk hW hl
      rw [f_X6_digest_L6.eq_2] at hk
      refine lv_iload_n hx hb dX6_digest_6 rfl (lv_at hl 2 rfl) ?_
      refine lv_bipush (v := (10 : Int32)) hx hb dX6_digest_7 (by decide) ?_
      refine lv_icmp_gt (tgt := 31) hx hb dX6_digest_9 (by decide) (fun c7 => ?_) (fun c7 => ?_)
      · replace hk := ite_t hk c7
        obtain rfl := Option.some.inj hk
        exact KX6 _ _ _ hW (lv_sub hl [0, 1] rfl)
      · replace hk := ite_f hk c7
        refine lv_ldc2 hx hb hown (hg _ g_836) dX6_digest_12 ?_
        refine lv_lload_n hx hb dX6_digest_15 rfl (lv_at hl 1 rfl) ?_
        refine lv_lmul hx hb dX6_digest_16 ?_
        refine lv_aload_n hx hb dX6_digest_17 rfl (lv_at hl 0 rfl) ?_
        refine lv_iload_n hx hb dX6_digest_18 rfl (lv_at hl 2 rfl) ?_
        replace hk := ob_s hk
        obtain ⟨x4, hx4, hk⟩ := hk
        refine cl_i (rn_V g_823 g_825 gs_58 g_1 g_826 hd_X6_counted (Nat.le_of_ble_eq_true rfl) (ci := 6) rfl (inC kd_0 rfl) (shp6 kd_0) hx hb hml hown hg hK hW (As := [.int x2]) (c_X6_counted l G x2 M hx4) (by decide) rfl hl.1 rfl (Nat.le_of_ble_eq_true rfl) dX6_digest_19) hW (fun H locs hW => ?_)
        refine lv_i2l hx hb dX6_digest_22 rfl ?_
        refine lv_ladd hx hb dX6_digest_23 ?_
        replace hk := lq_s hk
        obtain ⟨x5, ex5, hk⟩ := hk
        refine nm_l ex5 ?_
        refine lv_lstore_n (lv' := [(1, .long x5), (0, .ref (ad G 0)), (3, .int x2)]) hx hb dX6_digest_24 rfl hl (by decide) rfl (fun ls hl => ?_)
        replace hk := lq_s hk
        obtain ⟨x6, ex6, hk⟩ := hk
        refine lv_iinc (v := x6) (lv' := [(3, .int x6), (1, .long x5), (0, .ref (ad G 0))]) hx hb dX6_digest_25 hl (k := 2) rfl (by rw [ex6]; rfl) (by decide) rfl (fun ls hl => ?_)
        refine lv_goto (tgt := 6) hx hb dX6_digest_28 (by decide) ?_
        exact ih6 _ _ _ _ _ hk hW (lv_sub hl [2, 1, 0] rfl)
  exact LH6 FU _ _ _ _ _ hz40 hW (lv_sub hl [2, 1, 0] rfl)
