def f_X7_in (a0 : Int64) (a2 : Int64) (a4 : Int64) : Int32 :=
  if (lg_cmp a0 a2) < (0 : Int32) then (
    (0 : Int32))
  else (
    if (0 : Int32) < (lg_cmp a0 a4) then (
      (0 : Int32))
    else (
      (1 : Int32)))
theorem b_X7_in (a0 : Int64) (a2 : Int64) (a4 : Int64) : f_X7_in a0 a2 a4 = 0 ∨ f_X7_in a0 a2 a4 = 1 := by
  obtain ⟨r, hk⟩ : ∃ r, f_X7_in a0 a2 a4 = r := ⟨_, rfl⟩
  rw [hk]; unfold f_X7_in at hk
  first | (repeat' (split at hk)) | skip
  all_goals (rw [← hk]; first | exact Or.inl rfl | exact Or.inr rfl)
set_option maxHeartbeats 4000000 in
set_option maxRecDepth 100000 in
theorem c_X7_in (l : Launch) (G : GT) (a0 : Int64) (a2 : Int64) (a4 : Int64) (M : Mem) : CMi l G false yX7_in cX7_in 6 (some .boolean) 0 [.long a0, .long a2, .long a4] M (f_X7_in a0 a2 a4) M := by
  obtain ⟨r, hk⟩ : ∃ r, f_X7_in a0 a2 a4 = r := ⟨_, rfl⟩
  rw [hk]
  unfold f_X7_in at hk
  refine CMi.ofZ (by decide) (Nat.le_of_ble_eq_true rfl) ?_
  intro p e s m args below meth c Q hx hb hml hown hg hK hW hret ls hl
  have hl : lv_has ls 6 [(0, .long a0), (2, .long a2), (4, .long a4)] := hl
  refine lv_lload_n hx hb dX7_in_0 rfl (lv_at hl 0 rfl) ?_
  refine lv_lload_n hx hb dX7_in_1 rfl (lv_at hl 1 rfl) ?_
  refine W.lcmp hx hb dX7_in_2 ?_
  refine lv_if_lt (tgt := 17) hx hb dX7_in_3 (by decide) (fun c2 => ?_) (fun c2 => ?_)
  · replace hk := ite_t hk c2
    refine lv_iconst (v := (0 : Int32)) hx hb dX7_in_17 (by decide) ?_
    subst hk
    exact hret _ _ _ _ (Or.inl rfl) hW dX7_in_18
  · replace hk := ite_f hk c2
    refine lv_lload_n hx hb dX7_in_6 rfl (lv_at hl 0 rfl) ?_
    refine lv_lload hx hb dX7_in_7 (lv_at hl 2 rfl) ?_
    refine W.lcmp hx hb dX7_in_9 ?_
    refine lv_if_gt (tgt := 17) hx hb dX7_in_10 (by decide) (fun c1 => ?_) (fun c1 => ?_)
    · replace hk := ite_t hk c1
      refine lv_iconst (v := (0 : Int32)) hx hb dX7_in_17 (by decide) ?_
      subst hk
      exact hret _ _ _ _ (Or.inl rfl) hW dX7_in_18
    · replace hk := ite_f hk c1
      refine lv_iconst (v := (1 : Int32)) hx hb dX7_in_13 (by decide) ?_
      refine lv_goto (tgt := 18) hx hb dX7_in_14 (by decide) ?_
      subst hk
      exact hret _ _ _ _ (Or.inr rfl) hW dX7_in_18
def f_X7_begins_L2 : Nat → Int32 → Mem → Option (Int32 × Mem)
  | 0, _, _ => none
  | n + 1, x1, M2 =>
    if (340 : Int32) ≤ x1 then (
      some (x1, M2))
    else (
      ob (wr M2 177 x1 (0 : Int32)) (fun M5 =>
      lq (x1 + (1 : Int32)) (fun x6 =>
      f_X7_begins_L2 n x6 M5)))
def f_X7_begins_L31 : Nat → Int32 → Mem → Option (Int32 × Mem)
  | 0, _, _ => none
  | n + 1, x9, M10 =>
    if (8 : Int32) ≤ x9 then (
      some (x9, M10))
    else (
      ob (wr M10 177 ((54 : Int32) + ((2 : Int32) * x9)) (4 : Int32)) (fun M13 =>
      lq (x9 + (1 : Int32)) (fun x14 =>
      f_X7_begins_L31 n x14 M13)))
def f_X7_begins (a1 : Int32) (M : Mem) : Option (Mem) :=
  ob2 (f_X7_begins_L2 FU (0 : Int32) M) (fun x3 M4 =>
  ob (wr M4 177 (1 : Int32) a1) (fun M8 =>
  ob2 (f_X7_begins_L31 FU (0 : Int32) M8) (fun x11 M12 =>
  some M12)))
set_option maxHeartbeats 4000000 in
set_option maxRecDepth 100000 in
theorem c_X7_begins (l : Launch) (G : GT) (a1 : Int32) (M : Mem) {M' : Mem} (hk : f_X7_begins a1 M = some M') : CMv l G false yX7_begins cX7_begins 3 none 0 [.ref (ad G 176), .int a1] M M' := by
  unfold f_X7_begins at hk
  refine CMv.of (by decide) (Nat.le_of_ble_eq_true rfl) ?_
  intro p e s m args below meth c Q hx hb hml hown hg hK hW hret ls hl
  have hl : lv_has ls 3 [(0, .ref (ad G 176)), (1, .int a1)] := hl
  refine lv_iconst (v := (0 : Int32)) hx hb dX7_begins_0 (by decide) ?_
  refine lv_istore_n (lv' := [(2, .int (0 : Int32)), (0, .ref (ad G 176)), (1, .int a1)]) hx hb dX7_begins_1 rfl hl (by decide) rfl (fun ls hl => ?_)
  replace hk := ob2_s hk
  obtain ⟨x3, M4, hz18, hk⟩ := hk
  have KX2 : ∀ (H : Heap) (locs : List Loc) (ls : Array Slot), Ws G false M4 s H locs → lv_has ls 3 [(0, .ref (ad G 176)), (1, .int a1)] → Wx p l e 0 s m args below meth c Q H locs 22 ls [] := by
    intro H locs ls hW hl
    refine lv_aload_n hx hb dX7_begins_22 rfl (lv_at hl 0 rfl) ?_
    refine gt_X7_7 hx hb hg hown hK hW kd_176 dX7_begins_23 ?_
    refine lv_iconst (v := (1 : Int32)) hx hb dX7_begins_26 (by decide) ?_
    refine lv_iload_n hx hb dX7_begins_27 rfl (lv_at hl 1 rfl) ?_
    replace hk := ob_s hk
    obtain ⟨M8, hM8, hk⟩ := hk
    obtain ⟨hM8, eM8⟩ := wr_s hM8
    refine w_ast hx hb hK hW (inM kd_177 rfl) (fun _ => (shp10 kd_177)) hM8 eM8 dX7_begins_28 (fun H locs hW => ?_)
    refine lv_iconst (v := (0 : Int32)) hx hb dX7_begins_29 (by decide) ?_
    refine lv_istore_n (lv' := [(2, .int (0 : Int32)), (0, .ref (ad G 176)), (1, .int a1)]) hx hb dX7_begins_30 rfl hl (by decide) rfl (fun ls hl => ?_)
    replace hk := ob2_s hk
    obtain ⟨x11, M12, hz16, hk⟩ := hk
    have KX31 : ∀ (H : Heap) (locs : List Loc) (ls : Array Slot), Ws G false M12 s H locs → lv_has ls 3 [] → Wx p l e 0 s m args below meth c Q H locs 55 ls [] := by
      intro H locs ls hW hl
      obtain rfl := Option.some.inj hk
      exact hret _ _ _ _ hW dX7_begins_55
    clear hk
    have LH31 : ∀ (n : Nat) (x9 : Int32) (M10 : Mem) (H : Heap) (locs : List Loc) (ls : Array Slot), f_X7_begins_L31 n x9 M10 = some (x11, M12) → Ws G false M10 s H locs → lv_has ls 3 [(0, .ref (ad G 176)), (2, .int x9)] → Wx p l e 0 s m args below meth c Q H locs 31 ls [] := by
      clear hz16
      intro n
      induction n with
      | zero => intro _ _ _ _ _ hk; cases hk
      | succ n ih31 =>
        intro x9 M10 H locs ls hk hW hl
        rw [f_X7_begins_L31.eq_2] at hk
        refine lv_iload_n hx hb dX7_begins_31 rfl (lv_at hl 1 rfl) ?_
        refine lv_bipush (v := (8 : Int32)) hx hb dX7_begins_32 (by decide) ?_
        refine lv_icmp_ge (tgt := 55) hx hb dX7_begins_34 (by decide) (fun c15 => ?_) (fun c15 => ?_)
        · replace hk := ite_t hk c15
          obtain ⟨rfl, rfl⟩ := sp2 hk
          exact KX31 _ _ _ hW (lv_sub hl [] rfl)
        · replace hk := ite_f hk c15
          refine lv_aload_n hx hb dX7_begins_37 rfl (lv_at hl 0 rfl) ?_
          refine gt_X7_7 hx hb hg hown hK hW kd_176 dX7_begins_38 ?_
          refine lv_bipush (v := (54 : Int32)) hx hb dX7_begins_41 (by decide) ?_
          refine lv_iconst (v := (2 : Int32)) hx hb dX7_begins_43 (by decide) ?_
          refine lv_iload_n hx hb dX7_begins_44 rfl (lv_at hl 1 rfl) ?_
          refine lv_imul hx hb dX7_begins_45 ?_
          refine lv_iadd hx hb dX7_begins_46 ?_
          refine lv_iconst (v := (4 : Int32)) hx hb dX7_begins_47 (by decide) ?_
          replace hk := ob_s hk
          obtain ⟨M13, hM13, hk⟩ := hk
          obtain ⟨hM13, eM13⟩ := wr_s hM13
          refine w_ast hx hb hK hW (inM kd_177 rfl) (fun _ => (shp10 kd_177)) hM13 eM13 dX7_begins_48 (fun H locs hW => ?_)
          replace hk := lq_s hk
          obtain ⟨x14, ex14, hk⟩ := hk
          refine lv_iinc (v := x14) (lv' := [(2, .int x14), (0, .ref (ad G 176))]) hx hb dX7_begins_49 hl (k := 1) rfl (by rw [ex14]; rfl) (by decide) rfl (fun ls hl => ?_)
          refine lv_goto (tgt := 31) hx hb dX7_begins_52 (by decide) ?_
          exact ih31 _ _ _ _ _ hk hW (lv_sub hl [1, 0] rfl)
    exact LH31 FU _ _ _ _ _ hz16 hW (lv_sub hl [1, 0] rfl)
  clear hk
  have LH2 : ∀ (n : Nat) (x1 : Int32) (M2 : Mem) (H : Heap) (locs : List Loc) (ls : Array Slot), f_X7_begins_L2 n x1 M2 = some (x3, M4) → Ws G false M2 s H locs → lv_has ls 3 [(0, .ref (ad G 176)), (1, .int a1), (2, .int x1)] → Wx p l e 0 s m args below meth c Q H locs 2 ls [] := by
    clear hz18
    intro n
    induction n with
    | zero => intro _ _ _ _ _ hk; cases hk
    | succ n ih2 =>
      intro x1 M2 H locs ls hk hW hl
      rw [f_X7_begins_L2.eq_2] at hk
      refine lv_iload_n hx hb dX7_begins_2 rfl (lv_at hl 2 rfl) ?_
      refine lv_sipush (v := (340 : Int32)) hx hb dX7_begins_3 (by decide) ?_
      refine lv_icmp_ge (tgt := 22) hx hb dX7_begins_6 (by decide) (fun c7 => ?_) (fun c7 => ?_)
      · replace hk := ite_t hk c7
        obtain ⟨rfl, rfl⟩ := sp2 hk
        exact KX2 _ _ _ hW (lv_sub hl [0, 1] rfl)
      · replace hk := ite_f hk c7
        refine lv_aload_n hx hb dX7_begins_9 rfl (lv_at hl 0 rfl) ?_
        refine gt_X7_7 hx hb hg hown hK hW kd_176 dX7_begins_10 ?_
        refine lv_iload_n hx hb dX7_begins_13 rfl (lv_at hl 2 rfl) ?_
        refine lv_iconst (v := (0 : Int32)) hx hb dX7_begins_14 (by decide) ?_
        replace hk := ob_s hk
        obtain ⟨M5, hM5, hk⟩ := hk
        obtain ⟨hM5, eM5⟩ := wr_s hM5
        refine w_ast hx hb hK hW (inM kd_177 rfl) (fun _ => (shp10 kd_177)) hM5 eM5 dX7_begins_15 (fun H locs hW => ?_)
        replace hk := lq_s hk
        obtain ⟨x6, ex6, hk⟩ := hk
        refine lv_iinc (v := x6) (lv' := [(2, .int x6), (0, .ref (ad G 176)), (1, .int a1)]) hx hb dX7_begins_16 hl (k := 2) rfl (by rw [ex6]; rfl) (by decide) rfl (fun ls hl => ?_)
        refine lv_goto (tgt := 2) hx hb dX7_begins_19 (by decide) ?_
        exact ih2 _ _ _ _ _ hk hW (lv_sub hl [1, 2, 0] rfl)
  exact LH2 FU _ _ _ _ _ hz18 hW (lv_sub hl [1, 2, 0] rfl)
def f_X7_bad (M : Mem) : Option (Int32 × Mem) :=
  lq (s1 M 176 1 ((M.1 176 1) + (1 : Int32))) (fun M1 =>
  some (((-1002) : Int32), M1))
set_option maxHeartbeats 4000000 in
set_option maxRecDepth 100000 in
theorem c_X7_bad (l : Launch) (G : GT)  (M : Mem) {r : Int32} {M' : Mem} (hk : f_X7_bad  M = some (r, M')) : CMi l G false yX7_bad cX7_bad 1 (some .int) 0 [.ref (ad G 176)] M r M' := by
  unfold f_X7_bad at hk
  refine CMi.of (by decide) (Nat.le_of_ble_eq_true rfl) ?_
  intro p e s m args below meth c Q hx hb hml hown hg hK hW hret ls hl
  have hl : lv_has ls 1 [(0, .ref (ad G 176))] := hl
  refine lv_aload_n hx hb dX7_bad_0 rfl (lv_at hl 0 rfl) ?_
  refine lv_dup hx hb dX7_bad_1 rfl ?_
  refine gt_X7_42 hx hb hg hown hK hW kd_176 dX7_bad_2 ?_
  refine lv_iconst (v := (1 : Int32)) hx hb dX7_bad_5 (by decide) ?_
  refine lv_iadd hx hb dX7_bad_6 ?_
  replace hk := lq_s hk
  obtain ⟨M1, eM1, hk⟩ := hk
  refine pt_X7_42 hx hb hg hown hK hW kd_176 eM1 dX7_bad_7 (fun H locs hW => ?_)
  refine lv_sipush (v := ((-1002) : Int32)) hx hb dX7_bad_10 (by decide) ?_
  obtain ⟨rfl, rfl⟩ := sp2 hk
  exact hret _ _ _ _ hW dX7_bad_13
def f_X7_badTen (M : Mem) : Option (Int32 × Mem) :=
  lq (s1 M 176 1 ((M.1 176 1) + (1 : Int32))) (fun M1 =>
  some (((-10) : Int32), M1))
set_option maxHeartbeats 4000000 in
set_option maxRecDepth 100000 in
theorem c_X7_badTen (l : Launch) (G : GT)  (M : Mem) {r : Int32} {M' : Mem} (hk : f_X7_badTen  M = some (r, M')) : CMi l G false yX7_badTen cX7_badTen 1 (some .int) 0 [.ref (ad G 176)] M r M' := by
  unfold f_X7_badTen at hk
  refine CMi.of (by decide) (Nat.le_of_ble_eq_true rfl) ?_
  intro p e s m args below meth c Q hx hb hml hown hg hK hW hret ls hl
  have hl : lv_has ls 1 [(0, .ref (ad G 176))] := hl
  refine lv_aload_n hx hb dX7_badTen_0 rfl (lv_at hl 0 rfl) ?_
  refine lv_dup hx hb dX7_badTen_1 rfl ?_
  refine gt_X7_42 hx hb hg hown hK hW kd_176 dX7_badTen_2 ?_
  refine lv_iconst (v := (1 : Int32)) hx hb dX7_badTen_5 (by decide) ?_
  refine lv_iadd hx hb dX7_badTen_6 ?_
  replace hk := lq_s hk
  obtain ⟨M1, eM1, hk⟩ := hk
  refine pt_X7_42 hx hb hg hown hK hW kd_176 eM1 dX7_badTen_7 (fun H locs hW => ?_)
  refine lv_bipush (v := ((-10) : Int32)) hx hb dX7_badTen_10 (by decide) ?_
  obtain ⟨rfl, rfl⟩ := sp2 hk
  exact hret _ _ _ _ hW dX7_badTen_12
def f_X7_no (M : Mem) : Option (Int32 × Mem) :=
  lq (s1 M 176 2 ((M.1 176 2) + (1 : Int32))) (fun M1 =>
  some (((-1003) : Int32), M1))
set_option maxHeartbeats 4000000 in
set_option maxRecDepth 100000 in
theorem c_X7_no (l : Launch) (G : GT)  (M : Mem) {r : Int32} {M' : Mem} (hk : f_X7_no  M = some (r, M')) : CMi l G false yX7_no cX7_no 1 (some .int) 0 [.ref (ad G 176)] M r M' := by
  unfold f_X7_no at hk
  refine CMi.of (by decide) (Nat.le_of_ble_eq_true rfl) ?_
  intro p e s m args below meth c Q hx hb hml hown hg hK hW hret ls hl
  have hl : lv_has ls 1 [(0, .ref (ad G 176))] := hl
  refine lv_aload_n hx hb dX7_no_0 rfl (lv_at hl 0 rfl) ?_
  refine lv_dup hx hb dX7_no_1 rfl ?_
  refine gt_X7_46 hx hb hg hown hK hW kd_176 dX7_no_2 ?_
  refine lv_iconst (v := (1 : Int32)) hx hb dX7_no_5 (by decide) ?_
  refine lv_iadd hx hb dX7_no_6 ?_
  replace hk := lq_s hk
  obtain ⟨M1, eM1, hk⟩ := hk
  refine pt_X7_46 hx hb hg hown hK hW kd_176 eM1 dX7_no_7 (fun H locs hW => ?_)
  refine lv_sipush (v := ((-1003) : Int32)) hx hb dX7_no_10 (by decide) ?_
  obtain ⟨rfl, rfl⟩ := sp2 hk
  exact hret _ _ _ _ hW dX7_no_13
def f_X7_full (M : Mem) : Option (Int32 × Mem) :=
  lq (s1 M 176 3 ((M.1 176 3) + (1 : Int32))) (fun M1 =>
  some (((-1004) : Int32), M1))
set_option maxHeartbeats 4000000 in
set_option maxRecDepth 100000 in
theorem c_X7_full (l : Launch) (G : GT)  (M : Mem) {r : Int32} {M' : Mem} (hk : f_X7_full  M = some (r, M')) : CMi l G false yX7_full cX7_full 1 (some .int) 0 [.ref (ad G 176)] M r M' := by
  unfold f_X7_full at hk
  refine CMi.of (by decide) (Nat.le_of_ble_eq_true rfl) ?_
  intro p e s m args below meth c Q hx hb hml hown hg hK hW hret ls hl
  have hl : lv_has ls 1 [(0, .ref (ad G 176))] := hl
  refine lv_aload_n hx hb dX7_full_0 rfl (lv_at hl 0 rfl) ?_
  refine lv_dup hx hb dX7_full_1 rfl ?_
  refine gt_X7_49 hx hb hg hown hK hW kd_176 dX7_full_2 ?_
  refine lv_iconst (v := (1 : Int32)) hx hb dX7_full_5 (by decide) ?_
  refine lv_iadd hx hb dX7_full_6 ?_
  replace hk := lq_s hk
  obtain ⟨M1, eM1, hk⟩ := hk
  refine pt_X7_49 hx hb hg hown hK hW kd_176 eM1 dX7_full_7 (fun H locs hW => ?_)
  refine lv_sipush (v := ((-1004) : Int32)) hx hb dX7_full_10 (by decide) ?_
  obtain ⟨rfl, rfl⟩ := sp2 hk
  exact hret _ _ _ _ hW dX7_full_13
def f_X7_drops (a0 : Int32) (a1 : Int32) (a2 : Int32) (a3 : Int32) : Int32 :=
  if a0 = (0 : Int32) then (
    a1)
  else (
  if a0 = (1 : Int32) then (
    (a1 + (a2 / (3 : Int32))))
  else (
  if a0 = (2 : Int32) then (
    (a1 + a2))
  else (
  if a0 = (3 : Int32) then (
    if (a1 - a1 / (2 : Int32) * (2 : Int32)) = (0 : Int32) then (
      (a1 - (1 : Int32)))
    else (
      a1))
  else (
  if a0 = (4 : Int32) then (
    ((a1 + (a2 / (3 : Int32))) + (a3 / (10 : Int32))))
  else (
    if (a1 + a2) ≤ ((2 : Int32) * a1) then (
      (a1 + a2))
    else (
      ((2 : Int32) * a1)))))))
set_option maxHeartbeats 4000000 in
set_option maxRecDepth 100000 in
theorem c_X7_drops (l : Launch) (G : GT) (a0 : Int32) (a1 : Int32) (a2 : Int32) (a3 : Int32) (M : Mem) : CMi l G false yX7_drops cX7_drops 4 (some .int) 0 [.int a0, .int a1, .int a2, .int a3] M (f_X7_drops a0 a1 a2 a3) M := by
  obtain ⟨r, hk⟩ : ∃ r, f_X7_drops a0 a1 a2 a3 = r := ⟨_, rfl⟩
  rw [hk]
  unfold f_X7_drops at hk
  refine CMi.of (by decide) (Nat.le_of_ble_eq_true rfl) ?_
  intro p e s m args below meth c Q hx hb hml hown hg hK hW hret ls hl
  have hl : lv_has ls 4 [(0, .int a0), (1, .int a1), (2, .int a2), (3, .int a3)] := hl
  refine lv_iload_n hx hb dX7_drops_0 rfl (lv_at hl 0 rfl) ?_
  by_cases c3 : a0 = (0 : Int32)
  · replace hk := ite_t hk c3
    refine lv_tableIn (tgt := 36) hx hb dX7_drops_1 (by rw [c3]; decide) (by rw [c3]; decide) (by rw [c3]; rfl) (by decide) ?_
    refine lv_iload_n hx hb dX7_drops_36 rfl (lv_at hl 1 rfl) ?_
    subst hk
    exact hret _ _ _ _ hW dX7_drops_37
  replace hk := ite_f hk c3
  have c3_0 := c3
  by_cases c3 : a0 = (1 : Int32)
  · replace hk := ite_t hk c3
    refine lv_tableIn (tgt := 38) hx hb dX7_drops_1 (by rw [c3]; decide) (by rw [c3]; decide) (by rw [c3]; rfl) (by decide) ?_
    refine lv_iload_n hx hb dX7_drops_38 rfl (lv_at hl 1 rfl) ?_
    refine lv_iload_n hx hb dX7_drops_39 rfl (lv_at hl 2 rfl) ?_
    refine lv_iconst (v := (3 : Int32)) hx hb dX7_drops_40 (by decide) ?_
    refine lv_idiv hx hb dX7_drops_41 (by decide) ?_
    refine lv_iadd hx hb dX7_drops_42 ?_
    subst hk
    exact hret _ _ _ _ hW dX7_drops_43
  replace hk := ite_f hk c3
  have c3_1 := c3
  by_cases c3 : a0 = (2 : Int32)
  · replace hk := ite_t hk c3
    refine lv_tableIn (tgt := 44) hx hb dX7_drops_1 (by rw [c3]; decide) (by rw [c3]; decide) (by rw [c3]; rfl) (by decide) ?_
    refine lv_iload_n hx hb dX7_drops_44 rfl (lv_at hl 1 rfl) ?_
    refine lv_iload_n hx hb dX7_drops_45 rfl (lv_at hl 2 rfl) ?_
    refine lv_iadd hx hb dX7_drops_46 ?_
    subst hk
    exact hret _ _ _ _ hW dX7_drops_47
  replace hk := ite_f hk c3
  have c3_2 := c3
  by_cases c3 : a0 = (3 : Int32)
  · replace hk := ite_t hk c3
    refine lv_tableIn (tgt := 48) hx hb dX7_drops_1 (by rw [c3]; decide) (by rw [c3]; decide) (by rw [c3]; rfl) (by decide) ?_
    refine lv_iload_n hx hb dX7_drops_48 rfl (lv_at hl 1 rfl) ?_
    refine lv_iconst (v := (2 : Int32)) hx hb dX7_drops_49 (by decide) ?_
    refine lv_irem hx hb dX7_drops_50 (by decide) ?_
    refine lv_if_ne (tgt := 60) hx hb dX7_drops_51 (by decide) (fun c1 => ?_) (fun c1 => ?_)
    · replace hk := ite_f hk c1
      refine lv_iload_n hx hb dX7_drops_60 rfl (lv_at hl 1 rfl) ?_
      subst hk
      exact hret _ _ _ _ hW dX7_drops_61
    · replace hk := ite_t hk c1
      refine lv_iload_n hx hb dX7_drops_54 rfl (lv_at hl 1 rfl) ?_
      refine lv_iconst (v := (1 : Int32)) hx hb dX7_drops_55 (by decide) ?_
      refine lv_isub hx hb dX7_drops_56 ?_
      refine lv_goto (tgt := 61) hx hb dX7_drops_57 (by decide) ?_
      subst hk
      exact hret _ _ _ _ hW dX7_drops_61
  replace hk := ite_f hk c3
  have c3_3 := c3
  by_cases c3 : a0 = (4 : Int32)
  · replace hk := ite_t hk c3
    refine lv_tableIn (tgt := 62) hx hb dX7_drops_1 (by rw [c3]; decide) (by rw [c3]; decide) (by rw [c3]; rfl) (by decide) ?_
    refine lv_iload_n hx hb dX7_drops_62 rfl (lv_at hl 1 rfl) ?_
    refine lv_iload_n hx hb dX7_drops_63 rfl (lv_at hl 2 rfl) ?_
    refine lv_iconst (v := (3 : Int32)) hx hb dX7_drops_64 (by decide) ?_
    refine lv_idiv hx hb dX7_drops_65 (by decide) ?_
    refine lv_iadd hx hb dX7_drops_66 ?_
    refine lv_iload_n hx hb dX7_drops_67 rfl (lv_at hl 3 rfl) ?_
    refine lv_bipush (v := (10 : Int32)) hx hb dX7_drops_68 (by decide) ?_
    refine lv_idiv hx hb dX7_drops_70 (by decide) ?_
    refine lv_iadd hx hb dX7_drops_71 ?_
    subst hk
    exact hret _ _ _ _ hW dX7_drops_72
  replace hk := ite_f hk c3
  have c3_4 := c3
  refine lv_tableOut (tgt := 73) hx hb dX7_drops_1 (by have q0 := lv_neT c3_0 (a := 0) (by decide); have q1 := lv_neT c3_1 (a := 1) (by decide); have q2 := lv_neT c3_2 (a := 2) (by decide); have q3 := lv_neT c3_3 (a := 3) (by decide); have q4 := lv_neT c3_4 (a := 4) (by decide); omega) (by decide) ?_
  refine lv_iload_n hx hb dX7_drops_73 rfl (lv_at hl 1 rfl) ?_
  refine lv_iload_n hx hb dX7_drops_74 rfl (lv_at hl 2 rfl) ?_
  refine lv_iadd hx hb dX7_drops_75 ?_
  refine lv_iconst (v := (2 : Int32)) hx hb dX7_drops_76 (by decide) ?_
  refine lv_iload_n hx hb dX7_drops_77 rfl (lv_at hl 1 rfl) ?_
  refine lv_imul hx hb dX7_drops_78 ?_
  refine lv_icmp_le (tgt := 88) hx hb dX7_drops_79 (by decide) (fun c2 => ?_) (fun c2 => ?_)
  · replace hk := ite_t hk c2
    refine lv_iload_n hx hb dX7_drops_88 rfl (lv_at hl 1 rfl) ?_
    refine lv_iload_n hx hb dX7_drops_89 rfl (lv_at hl 2 rfl) ?_
    refine lv_iadd hx hb dX7_drops_90 ?_
    subst hk
    exact hret _ _ _ _ hW dX7_drops_91
  · replace hk := ite_f hk c2
    refine lv_iconst (v := (2 : Int32)) hx hb dX7_drops_82 (by decide) ?_
    refine lv_iload_n hx hb dX7_drops_83 rfl (lv_at hl 1 rfl) ?_
    refine lv_imul hx hb dX7_drops_84 ?_
    refine lv_goto (tgt := 91) hx hb dX7_drops_85 (by decide) ?_
    subst hk
    exact hret _ _ _ _ hW dX7_drops_91
def f_X7_comesTo (a0 : Int32) (a1 : Int32) (a2 : Int32) : Int32 :=
  lq (
    if (0 : Int32) ≤ a1 then (
      if a1 ≤ (9 : Int32) then (
        a1)
      else (
        (9 : Int32)))
    else (
      (0 : Int32)))
   (fun x3 =>
  lq (
    if (2 : Int32) ≤ a1 then (
      a1)
    else (
      (2 : Int32)))
   (fun x5 =>
  if a0 = (0 : Int32) then (
    a1)
  else (
  if a0 = (1 : Int32) then (
    x5)
  else (
  if a0 = (2 : Int32) then (
    x3)
  else (
  if a0 = (3 : Int32) then (
    (x3 / (2 : Int32)))
  else (
  if a0 = (4 : Int32) then (
    if (a2 - a2 / (2 : Int32) * (2 : Int32)) = (1 : Int32) then (
      (a1 - (1 : Int32)))
    else (
      a1))
  else (
    (x5 + (3 : Int32)))))))))
set_option maxHeartbeats 4000000 in
set_option maxRecDepth 100000 in
theorem c_X7_comesTo (l : Launch) (G : GT) (a0 : Int32) (a1 : Int32) (a2 : Int32) (M : Mem) : CMi l G false yX7_comesTo cX7_comesTo 5 (some .int) 0 [.int a0, .int a1, .int a2] M (f_X7_comesTo a0 a1 a2) M := by
  obtain ⟨r, hk⟩ : ∃ r, f_X7_comesTo a0 a1 a2 = r := ⟨_, rfl⟩
  rw [hk]
  unfold f_X7_comesTo at hk
  refine CMi.of (by decide) (Nat.le_of_ble_eq_true rfl) ?_
  intro p e s m args below meth c Q hx hb hml hown hg hK hW hret ls hl
  have hl : lv_has ls 5 [(0, .int a0), (1, .int a1), (2, .int a2)] := hl
  refine lv_iload_n hx hb dX7_comesTo_0 rfl (lv_at hl 1 rfl) ?_
  replace hk := lq_s hk
  obtain ⟨x3, hr11, hk⟩ := hk
  have KJ10 : ∀ (H : Heap) (locs : List Loc) (ls : Array Slot), Ws G false M s H locs → lv_has ls 5 [(0, .int a0), (1, .int a1), (2, .int a2)] → Wx p l e 0 s m args below meth c Q H locs 20 ls [.int x3] := by
    intro H locs ls hW hl
    refine lv_istore_n (lv' := [(3, .int x3), (0, .int a0), (1, .int a1), (2, .int a2)]) hx hb dX7_comesTo_20 rfl hl (by decide) rfl (fun ls hl => ?_)
    refine lv_iload_n hx hb dX7_comesTo_21 rfl (lv_at hl 2 rfl) ?_
    refine lv_iconst (v := (2 : Int32)) hx hb dX7_comesTo_22 (by decide) ?_
    replace hk := lq_s hk
    obtain ⟨x5, hr9, hk⟩ := hk
    have KJ8 : ∀ (H : Heap) (locs : List Loc) (ls : Array Slot), Ws G false M s H locs → lv_has ls 5 [(0, .int a0), (1, .int a1), (2, .int a2), (3, .int x3)] → Wx p l e 0 s m args below meth c Q H locs 31 ls [.int x5] := by
      intro H locs ls hW hl
      refine lv_istore (lv' := [(4, .int x5), (0, .int a0), (1, .int a1), (2, .int a2), (3, .int x3)]) hx hb dX7_comesTo_31 hl (by decide) rfl (fun ls hl => ?_)
      refine lv_iload_n hx hb dX7_comesTo_33 rfl (lv_at hl 1 rfl) ?_
      by_cases c7 : a0 = (0 : Int32)
      · replace hk := ite_t hk c7
        refine lv_tableIn (tgt := 68) hx hb dX7_comesTo_34 (by rw [c7]; decide) (by rw [c7]; decide) (by rw [c7]; rfl) (by decide) ?_
        refine lv_iload_n hx hb dX7_comesTo_68 rfl (lv_at hl 2 rfl) ?_
        subst hk
        exact hret _ _ _ _ hW dX7_comesTo_69
      replace hk := ite_f hk c7
      have c7_0 := c7
      by_cases c7 : a0 = (1 : Int32)
      · replace hk := ite_t hk c7
        refine lv_tableIn (tgt := 70) hx hb dX7_comesTo_34 (by rw [c7]; decide) (by rw [c7]; decide) (by rw [c7]; rfl) (by decide) ?_
        refine lv_iload hx hb dX7_comesTo_70 (lv_at hl 0 rfl) ?_
        subst hk
        exact hret _ _ _ _ hW dX7_comesTo_72
      replace hk := ite_f hk c7
      have c7_1 := c7
      by_cases c7 : a0 = (2 : Int32)
      · replace hk := ite_t hk c7
        refine lv_tableIn (tgt := 73) hx hb dX7_comesTo_34 (by rw [c7]; decide) (by rw [c7]; decide) (by rw [c7]; rfl) (by decide) ?_
        refine lv_iload_n hx hb dX7_comesTo_73 rfl (lv_at hl 4 rfl) ?_
        subst hk
        exact hret _ _ _ _ hW dX7_comesTo_74
      replace hk := ite_f hk c7
      have c7_2 := c7
      by_cases c7 : a0 = (3 : Int32)
      · replace hk := ite_t hk c7
        refine lv_tableIn (tgt := 75) hx hb dX7_comesTo_34 (by rw [c7]; decide) (by rw [c7]; decide) (by rw [c7]; rfl) (by decide) ?_
        refine lv_iload_n hx hb dX7_comesTo_75 rfl (lv_at hl 4 rfl) ?_
        refine lv_iconst (v := (2 : Int32)) hx hb dX7_comesTo_76 (by decide) ?_
        refine lv_idiv hx hb dX7_comesTo_77 (by decide) ?_
        subst hk
        exact hret _ _ _ _ hW dX7_comesTo_78
      replace hk := ite_f hk c7
      have c7_3 := c7
      by_cases c7 : a0 = (4 : Int32)
      · replace hk := ite_t hk c7
        refine lv_tableIn (tgt := 79) hx hb dX7_comesTo_34 (by rw [c7]; decide) (by rw [c7]; decide) (by rw [c7]; rfl) (by decide) ?_
        refine lv_iload_n hx hb dX7_comesTo_79 rfl (lv_at hl 3 rfl) ?_
        refine lv_iconst (v := (2 : Int32)) hx hb dX7_comesTo_80 (by decide) ?_
        refine lv_irem hx hb dX7_comesTo_81 (by decide) ?_
        refine lv_iconst (v := (1 : Int32)) hx hb dX7_comesTo_82 (by decide) ?_
        refine lv_icmp_ne (tgt := 92) hx hb dX7_comesTo_83 (by decide) (fun c6 => ?_) (fun c6 => ?_)
        · replace hk := ite_f hk c6
          refine lv_iload_n hx hb dX7_comesTo_92 rfl (lv_at hl 2 rfl) ?_
          subst hk
          exact hret _ _ _ _ hW dX7_comesTo_93
        · replace hk := ite_t hk c6
          refine lv_iload_n hx hb dX7_comesTo_86 rfl (lv_at hl 2 rfl) ?_
          refine lv_iconst (v := (1 : Int32)) hx hb dX7_comesTo_87 (by decide) ?_
          refine lv_isub hx hb dX7_comesTo_88 ?_
          refine lv_goto (tgt := 93) hx hb dX7_comesTo_89 (by decide) ?_
          subst hk
          exact hret _ _ _ _ hW dX7_comesTo_93
      replace hk := ite_f hk c7
      have c7_4 := c7
      refine lv_tableOut (tgt := 94) hx hb dX7_comesTo_34 (by have q0 := lv_neT c7_0 (a := 0) (by decide); have q1 := lv_neT c7_1 (a := 1) (by decide); have q2 := lv_neT c7_2 (a := 2) (by decide); have q3 := lv_neT c7_3 (a := 3) (by decide); have q4 := lv_neT c7_4 (a := 4) (by decide); omega) (by decide) ?_
      refine lv_iload hx hb dX7_comesTo_94 (lv_at hl 0 rfl) ?_
      refine lv_iconst (v := (3 : Int32)) hx hb dX7_comesTo_96 (by decide) ?_
      refine lv_iadd hx hb dX7_comesTo_97 ?_
      subst hk
      exact hret _ _ _ _ hW dX7_comesTo_98
    clear hk
    have hk := hr9.symm
    clear hr9
    refine lv_icmp_ge (tgt := 30) hx hb dX7_comesTo_23 (by decide) (fun c4 => ?_) (fun c4 => ?_)
    · replace hk := ite_t hk c4
      refine lv_iload_n hx hb dX7_comesTo_30 rfl (lv_at hl 2 rfl) ?_
      subst hk
      exact KJ8 _ _ _ hW (lv_sub hl [1, 2, 3, 0] rfl)
    · replace hk := ite_f hk c4
      refine lv_iconst (v := (2 : Int32)) hx hb dX7_comesTo_26 (by decide) ?_
      refine lv_goto (tgt := 31) hx hb dX7_comesTo_27 (by decide) ?_
      subst hk
      exact KJ8 _ _ _ hW (lv_sub hl [1, 2, 3, 0] rfl)
  clear hk
  have hk := hr11.symm
  clear hr11
  refine lv_if_ge (tgt := 8) hx hb dX7_comesTo_1 (by decide) (fun c2 => ?_) (fun c2 => ?_)
  · replace hk := ite_t hk c2
    refine lv_iload_n hx hb dX7_comesTo_8 rfl (lv_at hl 1 rfl) ?_
    refine lv_bipush (v := (9 : Int32)) hx hb dX7_comesTo_9 (by decide) ?_
    refine lv_icmp_le (tgt := 19) hx hb dX7_comesTo_11 (by decide) (fun c1 => ?_) (fun c1 => ?_)
    · replace hk := ite_t hk c1
      refine lv_iload_n hx hb dX7_comesTo_19 rfl (lv_at hl 1 rfl) ?_
      subst hk
      exact KJ10 _ _ _ hW (lv_sub hl [0, 1, 2] rfl)
    · replace hk := ite_f hk c1
      refine lv_bipush (v := (9 : Int32)) hx hb dX7_comesTo_14 (by decide) ?_
      refine lv_goto (tgt := 20) hx hb dX7_comesTo_16 (by decide) ?_
      subst hk
      exact KJ10 _ _ _ hW (lv_sub hl [0, 1, 2] rfl)
  · replace hk := ite_f hk c2
    refine lv_iconst (v := (0 : Int32)) hx hb dX7_comesTo_4 (by decide) ?_
    refine lv_goto (tgt := 20) hx hb dX7_comesTo_5 (by decide) ?_
    subst hk
    exact KJ10 _ _ _ hW (lv_sub hl [0, 1, 2] rfl)
def f_X7_limbOf (a1 : Int32) (a2 : Int32) (M : Mem) : Option (Int32) :=
  ob (rd M 177 (((4 : Int32) + ((7 : Int32) * a1)) + a2)) (fun x1 =>
  some x1)
set_option maxHeartbeats 4000000 in
set_option maxRecDepth 100000 in
theorem c_X7_limbOf (l : Launch) (G : GT) (a1 : Int32) (a2 : Int32) (M : Mem) {r : Int32} (hk : f_X7_limbOf a1 a2 M = some r) : CMi l G false yX7_limbOf cX7_limbOf 3 (some .int) 0 [.ref (ad G 176), .int a1, .int a2] M r M := by
  unfold f_X7_limbOf at hk
  refine CMi.of (by decide) (Nat.le_of_ble_eq_true rfl) ?_
  intro p e s m args below meth c Q hx hb hml hown hg hK hW hret ls hl
  have hl : lv_has ls 3 [(0, .ref (ad G 176)), (1, .int a1), (2, .int a2)] := hl
  refine lv_aload_n hx hb dX7_limbOf_0 rfl (lv_at hl 0 rfl) ?_
  refine gt_X7_7 hx hb hg hown hK hW kd_176 dX7_limbOf_1 ?_
  refine lv_iconst (v := (4 : Int32)) hx hb dX7_limbOf_4 (by decide) ?_
  refine lv_bipush (v := (7 : Int32)) hx hb dX7_limbOf_5 (by decide) ?_
  refine lv_iload_n hx hb dX7_limbOf_7 rfl (lv_at hl 1 rfl) ?_
  refine lv_imul hx hb dX7_limbOf_8 ?_
  refine lv_iadd hx hb dX7_limbOf_9 ?_
  refine lv_iload_n hx hb dX7_limbOf_10 rfl (lv_at hl 2 rfl) ?_
  refine lv_iadd hx hb dX7_limbOf_11 ?_
  replace hk := ob_s hk
  obtain ⟨x1, hx1, hk⟩ := hk
  obtain ⟨hx1, ex1⟩ := rd_s hx1
  refine w_ald hx hb hK hW (inM kd_177 rfl) (shp10 kd_177) hx1 ex1 dX7_limbOf_12 ?_
  obtain rfl := Option.some.inj hk
  exact hret _ _ _ _ hW dX7_limbOf_13
def f_X7_sets (a1 : Int32) (a2 : Int32) (a3 : Int32) (M : Mem) : Option (Mem) :=
  ob (wr M 177 (((4 : Int32) + ((7 : Int32) * a1)) + a2) a3) (fun M1 =>
  some M1)
set_option maxHeartbeats 4000000 in
set_option maxRecDepth 100000 in
theorem c_X7_sets (l : Launch) (G : GT) (a1 : Int32) (a2 : Int32) (a3 : Int32) (M : Mem) {M' : Mem} (hk : f_X7_sets a1 a2 a3 M = some M') : CMv l G false yX7_sets cX7_sets 4 none 0 [.ref (ad G 176), .int a1, .int a2, .int a3] M M' := by
  unfold f_X7_sets at hk
  refine CMv.of (by decide) (Nat.le_of_ble_eq_true rfl) ?_
  intro p e s m args below meth c Q hx hb hml hown hg hK hW hret ls hl
  have hl : lv_has ls 4 [(0, .ref (ad G 176)), (1, .int a1), (2, .int a2), (3, .int a3)] := hl
  refine lv_aload_n hx hb dX7_sets_0 rfl (lv_at hl 0 rfl) ?_
  refine gt_X7_7 hx hb hg hown hK hW kd_176 dX7_sets_1 ?_
  refine lv_iconst (v := (4 : Int32)) hx hb dX7_sets_4 (by decide) ?_
  refine lv_bipush (v := (7 : Int32)) hx hb dX7_sets_5 (by decide) ?_
  refine lv_iload_n hx hb dX7_sets_7 rfl (lv_at hl 1 rfl) ?_
  refine lv_imul hx hb dX7_sets_8 ?_
  refine lv_iadd hx hb dX7_sets_9 ?_
  refine lv_iload_n hx hb dX7_sets_10 rfl (lv_at hl 2 rfl) ?_
  refine lv_iadd hx hb dX7_sets_11 ?_
  refine lv_iload_n hx hb dX7_sets_12 rfl (lv_at hl 3 rfl) ?_
  replace hk := ob_s hk
  obtain ⟨M1, hM1, hk⟩ := hk
  obtain ⟨hM1, eM1⟩ := wr_s hM1
  refine w_ast hx hb hK hW (inM kd_177 rfl) (fun _ => (shp10 kd_177)) hM1 eM1 dX7_sets_13 (fun H locs hW => ?_)
  obtain rfl := Option.some.inj hk
  exact hret _ _ _ _ hW dX7_sets_14
def f_X7_isLimb (a1 : Int32) (M : Mem) : Option (Int32) :=
  ob (rd M 177 (0 : Int32)) (fun x1 =>
  some (f_X7_in a1.toInt64 (0 : Int64) ((x1 - (1 : Int32)).toInt64)))
set_option maxHeartbeats 4000000 in
set_option maxRecDepth 100000 in
theorem c_X7_isLimb (l : Launch) (G : GT) (a1 : Int32) (M : Mem) {r : Int32} (hk : f_X7_isLimb a1 M = some r) : CMi l G false yX7_isLimb cX7_isLimb 2 (some .boolean) 1 [.ref (ad G 176), .int a1] M r M := by
  unfold f_X7_isLimb at hk
  refine CMi.ofZ (by decide) (Nat.le_of_ble_eq_true rfl) ?_
  intro p e s m args below meth c Q hx hb hml hown hg hK hW hret ls hl
  have hl : lv_has ls 2 [(0, .ref (ad G 176)), (1, .int a1)] := hl
  refine lv_iload_n hx hb dX7_isLimb_0 rfl (lv_at hl 1 rfl) ?_
  refine lv_i2l hx hb dX7_isLimb_1 rfl ?_
  refine lv_lconst (v := (0 : Int64)) hx hb dX7_isLimb_2 (by decide) ?_
  refine lv_aload_n hx hb dX7_isLimb_3 rfl (lv_at hl 0 rfl) ?_
  refine gt_X7_7 hx hb hg hown hK hW kd_176 dX7_isLimb_4 ?_
  refine lv_iconst (v := (0 : Int32)) hx hb dX7_isLimb_7 (by decide) ?_
  replace hk := ob_s hk
  obtain ⟨x1, hx1, hk⟩ := hk
  obtain ⟨hx1, ex1⟩ := rd_s hx1
  refine w_ald hx hb hK hW (inM kd_177 rfl) (shp10 kd_177) hx1 ex1 dX7_isLimb_8 ?_
  refine lv_iconst (v := (1 : Int32)) hx hb dX7_isLimb_9 (by decide) ?_
  refine lv_isub hx hb dX7_isLimb_10 ?_
  refine lv_i2l hx hb dX7_isLimb_11 rfl ?_
  refine cl_i (rn_S g_921 g_922 g_9 g_923 hd_X7_in (Nat.le_of_ble_eq_true rfl) hx hb hml hown hg hK hW (As := [.long a1.toInt64, .long (0 : Int64), .long ((x1 - (1 : Int32)).toInt64)]) (c_X7_in l G a1.toInt64 (0 : Int64) ((x1 - (1 : Int32)).toInt64) M) (by decide) rfl hl.1 rfl (Nat.le_of_ble_eq_true rfl) dX7_isLimb_12) hW (fun H locs hW => ?_)
  have hz := (b_X7_in a1.toInt64 (0 : Int64) ((x1 - (1 : Int32)).toInt64))
  obtain rfl := Option.some.inj hk
  exact hret _ _ _ _ hz hW dX7_isLimb_15
def f_X7_isSnapped (a1 : Int32) (M : Mem) : Option (Int32) :=
  ob (f_X7_limbOf a1 (6 : Int32) M) (fun x1 =>
  if x1 = (1 : Int32) then (
    some (1 : Int32))
  else (
    some (0 : Int32)))
set_option maxHeartbeats 4000000 in
set_option maxRecDepth 100000 in
theorem c_X7_isSnapped (l : Launch) (G : GT) (a1 : Int32) (M : Mem) {r : Int32} (hk : f_X7_isSnapped a1 M = some r) : CMi l G false yX7_isSnapped cX7_isSnapped 2 (some .boolean) 1 [.ref (ad G 176), .int a1] M r M := by
  unfold f_X7_isSnapped at hk
  refine CMi.ofZ (by decide) (Nat.le_of_ble_eq_true rfl) ?_
  intro p e s m args below meth c Q hx hb hml hown hg hK hW hret ls hl
  have hl : lv_has ls 2 [(0, .ref (ad G 176)), (1, .int a1)] := hl
  refine lv_aload_n hx hb dX7_isSnapped_0 rfl (lv_at hl 0 rfl) ?_
  refine lv_iload_n hx hb dX7_isSnapped_1 rfl (lv_at hl 1 rfl) ?_
  refine lv_bipush (v := (6 : Int32)) hx hb dX7_isSnapped_2 (by decide) ?_
  replace hk := ob_s hk
  obtain ⟨x1, hx1, hk⟩ := hk
  refine cl_i (rn_V g_1029 g_1031 gs_77 g_9 g_1032 hd_X7_limbOf (Nat.le_of_ble_eq_true rfl) (ci := 7) rfl (inM kd_176 rfl) (shp7 kd_176) hx hb hml hown hg hK hW (As := [.int a1, .int (6 : Int32)]) (c_X7_limbOf l G a1 (6 : Int32) M hx1) (by decide) rfl hl.1 rfl (Nat.le_of_ble_eq_true rfl) dX7_isSnapped_4) hW (fun H locs hW => ?_)
  refine lv_iconst (v := (1 : Int32)) hx hb dX7_isSnapped_7 (by decide) ?_
  refine lv_icmp_ne (tgt := 15) hx hb dX7_isSnapped_8 (by decide) (fun c2 => ?_) (fun c2 => ?_)
  · replace hk := ite_f hk c2
    refine lv_iconst (v := (0 : Int32)) hx hb dX7_isSnapped_15 (by decide) ?_
    obtain rfl := Option.some.inj hk
    exact hret _ _ _ _ (Or.inl rfl) hW dX7_isSnapped_16
  · replace hk := ite_t hk c2
    refine lv_iconst (v := (1 : Int32)) hx hb dX7_isSnapped_11 (by decide) ?_
    refine lv_goto (tgt := 16) hx hb dX7_isSnapped_12 (by decide) ?_
    obtain rfl := Option.some.inj hk
    exact hret _ _ _ _ (Or.inr rfl) hW dX7_isSnapped_16
def f_X7_highIn (a1 : Int32) (a2 : Int32) (M : Mem) : Option (Int32) :=
  ob (f_X7_isSnapped a1 M) (fun x1 =>
  if x1 = (0 : Int32) then (
    ob (rd M 177 (1 : Int32)) (fun x2 =>
    ob (rd M 177 (2 : Int32)) (fun x3 =>
    lq (x2 + (x3 * (a2 - (4 : Int32)))) (fun x4 =>
    ob (f_X7_limbOf a1 (0 : Int32) M) (fun x5 =>
    ob (f_X7_limbOf a1 (1 : Int32) M) (fun x6 =>
    ob (f_X7_limbOf a1 (3 : Int32) M) (fun x7 =>
    ob (f_X7_limbOf a1 (2 : Int32) M) (fun x8 =>
    ob (f_X7_limbOf a1 (5 : Int32) M) (fun x9 =>
    ob (rd M 177 (3 : Int32)) (fun x11 =>
    some (f_X7_comesTo x5 (x4 - (f_X7_drops x6 x7 x8 x9)) x11)))))))))))
  else (
    some ((-20) : Int32)))
set_option maxHeartbeats 4000000 in
set_option maxRecDepth 100000 in
theorem c_X7_highIn (l : Launch) (G : GT) (a1 : Int32) (a2 : Int32) (M : Mem) {r : Int32} (hk : f_X7_highIn a1 a2 M = some r) : CMi l G false yX7_highIn cX7_highIn 4 (some .int) 2 [.ref (ad G 176), .int a1, .int a2] M r M := by
  unfold f_X7_highIn at hk
  refine CMi.of (by decide) (Nat.le_of_ble_eq_true rfl) ?_
  intro p e s m args below meth c Q hx hb hml hown hg hK hW hret ls hl
  have hl : lv_has ls 4 [(0, .ref (ad G 176)), (1, .int a1), (2, .int a2)] := hl
  refine lv_aload_n hx hb dX7_highIn_0 rfl (lv_at hl 0 rfl) ?_
  refine lv_iload_n hx hb dX7_highIn_1 rfl (lv_at hl 1 rfl) ?_
  replace hk := ob_s hk
  obtain ⟨x1, hx1, hk⟩ := hk
  refine cl_i (rn_V g_1025 g_1027 gs_76 g_9 g_1028 hd_X7_isSnapped (Nat.le_of_ble_eq_true rfl) (ci := 7) rfl (inM kd_176 rfl) (shp7 kd_176) hx hb hml hown hg hK hW (As := [.int a1]) (c_X7_isSnapped l G a1 M hx1) (by decide) rfl hl.1 rfl (Nat.le_of_ble_eq_true rfl) dX7_highIn_2) hW (fun H locs hW => ?_)
  refine lv_if_eq (tgt := 11) hx hb dX7_highIn_5 (by decide) (fun c13 => ?_) (fun c13 => ?_)
  · replace hk := ite_t hk c13
    refine lv_aload_n hx hb dX7_highIn_11 rfl (lv_at hl 0 rfl) ?_
    refine gt_X7_7 hx hb hg hown hK hW kd_176 dX7_highIn_12 ?_
    refine lv_iconst (v := (1 : Int32)) hx hb dX7_highIn_15 (by decide) ?_
    replace hk := ob_s hk
    obtain ⟨x2, hx2, hk⟩ := hk
    obtain ⟨hx2, ex2⟩ := rd_s hx2
    refine w_ald hx hb hK hW (inM kd_177 rfl) (shp10 kd_177) hx2 ex2 dX7_highIn_16 ?_
    refine lv_aload_n hx hb dX7_highIn_17 rfl (lv_at hl 0 rfl) ?_
    refine gt_X7_7 hx hb hg hown hK hW kd_176 dX7_highIn_18 ?_
    refine lv_iconst (v := (2 : Int32)) hx hb dX7_highIn_21 (by decide) ?_
    replace hk := ob_s hk
    obtain ⟨x3, hx3, hk⟩ := hk
    obtain ⟨hx3, ex3⟩ := rd_s hx3
    refine w_ald hx hb hK hW (inM kd_177 rfl) (shp10 kd_177) hx3 ex3 dX7_highIn_22 ?_
    refine lv_iload_n hx hb dX7_highIn_23 rfl (lv_at hl 2 rfl) ?_
    refine lv_iconst (v := (4 : Int32)) hx hb dX7_highIn_24 (by decide) ?_
    refine lv_isub hx hb dX7_highIn_25 ?_
    refine lv_imul hx hb dX7_highIn_26 ?_
    refine lv_iadd hx hb dX7_highIn_27 ?_
    replace hk := lq_s hk
    obtain ⟨x4, ex4, hk⟩ := hk
    refine nm_i ex4 ?_
    refine lv_istore_n (lv' := [(3, .int x4), (0, .ref (ad G 176)), (1, .int a1), (2, .int a2)]) hx hb dX7_highIn_28 rfl hl (by decide) rfl (fun ls hl => ?_)
    refine lv_aload_n hx hb dX7_highIn_29 rfl (lv_at hl 1 rfl) ?_
    refine lv_iload_n hx hb dX7_highIn_30 rfl (lv_at hl 2 rfl) ?_
    refine lv_iconst (v := (0 : Int32)) hx hb dX7_highIn_31 (by decide) ?_
    replace hk := ob_s hk
    obtain ⟨x5, hx5, hk⟩ := hk
    refine cl_i (rn_V g_1029 g_1031 gs_77 g_9 g_1032 hd_X7_limbOf (Nat.le_of_ble_eq_true rfl) (ci := 7) rfl (inM kd_176 rfl) (shp7 kd_176) hx hb hml hown hg hK hW (As := [.int a1, .int (0 : Int32)]) (c_X7_limbOf l G a1 (0 : Int32) M hx5) (by decide) rfl hl.1 rfl (Nat.le_of_ble_eq_true rfl) dX7_highIn_32) hW (fun H locs hW => ?_)
    refine lv_iload_n hx hb dX7_highIn_35 rfl (lv_at hl 0 rfl) ?_
    refine lv_aload_n hx hb dX7_highIn_36 rfl (lv_at hl 1 rfl) ?_
    refine lv_iload_n hx hb dX7_highIn_37 rfl (lv_at hl 2 rfl) ?_
    refine lv_iconst (v := (1 : Int32)) hx hb dX7_highIn_38 (by decide) ?_
    replace hk := ob_s hk
    obtain ⟨x6, hx6, hk⟩ := hk
    refine cl_i (rn_V g_1029 g_1031 gs_77 g_9 g_1032 hd_X7_limbOf (Nat.le_of_ble_eq_true rfl) (ci := 7) rfl (inM kd_176 rfl) (shp7 kd_176) hx hb hml hown hg hK hW (As := [.int a1, .int (1 : Int32)]) (c_X7_limbOf l G a1 (1 : Int32) M hx6) (by decide) rfl hl.1 rfl (Nat.le_of_ble_eq_true rfl) dX7_highIn_39) hW (fun H locs hW => ?_)
    refine lv_aload_n hx hb dX7_highIn_42 rfl (lv_at hl 1 rfl) ?_
    refine lv_iload_n hx hb dX7_highIn_43 rfl (lv_at hl 2 rfl) ?_
    refine lv_iconst (v := (3 : Int32)) hx hb dX7_highIn_44 (by decide) ?_
    replace hk := ob_s hk
    obtain ⟨x7, hx7, hk⟩ := hk
    refine cl_i (rn_V g_1029 g_1031 gs_77 g_9 g_1032 hd_X7_limbOf (Nat.le_of_ble_eq_true rfl) (ci := 7) rfl (inM kd_176 rfl) (shp7 kd_176) hx hb hml hown hg hK hW (As := [.int a1, .int (3 : Int32)]) (c_X7_limbOf l G a1 (3 : Int32) M hx7) (by decide) rfl hl.1 rfl (Nat.le_of_ble_eq_true rfl) dX7_highIn_45) hW (fun H locs hW => ?_)
    refine lv_aload_n hx hb dX7_highIn_48 rfl (lv_at hl 1 rfl) ?_
    refine lv_iload_n hx hb dX7_highIn_49 rfl (lv_at hl 2 rfl) ?_
    refine lv_iconst (v := (2 : Int32)) hx hb dX7_highIn_50 (by decide) ?_
    replace hk := ob_s hk
    obtain ⟨x8, hx8, hk⟩ := hk
    refine cl_i (rn_V g_1029 g_1031 gs_77 g_9 g_1032 hd_X7_limbOf (Nat.le_of_ble_eq_true rfl) (ci := 7) rfl (inM kd_176 rfl) (shp7 kd_176) hx hb hml hown hg hK hW (As := [.int a1, .int (2 : Int32)]) (c_X7_limbOf l G a1 (2 : Int32) M hx8) (by decide) rfl hl.1 rfl (Nat.le_of_ble_eq_true rfl) dX7_highIn_51) hW (fun H locs hW => ?_)
    refine lv_aload_n hx hb dX7_highIn_54 rfl (lv_at hl 1 rfl) ?_
    refine lv_iload_n hx hb dX7_highIn_55 rfl (lv_at hl 2 rfl) ?_
    refine lv_iconst (v := (5 : Int32)) hx hb dX7_highIn_56 (by decide) ?_
    replace hk := ob_s hk
    obtain ⟨x9, hx9, hk⟩ := hk
    refine cl_i (rn_V g_1029 g_1031 gs_77 g_9 g_1032 hd_X7_limbOf (Nat.le_of_ble_eq_true rfl) (ci := 7) rfl (inM kd_176 rfl) (shp7 kd_176) hx hb hml hown hg hK hW (As := [.int a1, .int (5 : Int32)]) (c_X7_limbOf l G a1 (5 : Int32) M hx9) (by decide) rfl hl.1 rfl (Nat.le_of_ble_eq_true rfl) dX7_highIn_57) hW (fun H locs hW => ?_)
    refine cl_i (rn_S g_1082 g_1083 g_9 g_1084 hd_X7_drops (Nat.le_of_ble_eq_true rfl) hx hb hml hown hg hK hW (As := [.int x6, .int x7, .int x8, .int x9]) (c_X7_drops l G x6 x7 x8 x9 M) (by decide) rfl hl.1 rfl (Nat.le_of_ble_eq_true rfl) dX7_highIn_60) hW (fun H locs hW => ?_)
    refine lv_isub hx hb dX7_highIn_63 ?_
    refine lv_aload_n hx hb dX7_highIn_64 rfl (lv_at hl 1 rfl) ?_
    refine gt_X7_7 hx hb hg hown hK hW kd_176 dX7_highIn_65 ?_
    refine lv_iconst (v := (3 : Int32)) hx hb dX7_highIn_68 (by decide) ?_
    replace hk := ob_s hk
    obtain ⟨x11, hx11, hk⟩ := hk
    obtain ⟨hx11, ex11⟩ := rd_s hx11
    refine w_ald hx hb hK hW (inM kd_177 rfl) (shp10 kd_177) hx11 ex11 dX7_highIn_69 ?_
    refine cl_i (rn_S g_1085 g_1086 g_9 g_1087 hd_X7_comesTo (Nat.le_of_ble_eq_true rfl) hx hb hml hown hg hK hW (As := [.int x5, .int (x4 - (f_X7_drops x6 x7 x8 x9)), .int x11]) (c_X7_comesTo l G x5 (x4 - (f_X7_drops x6 x7 x8 x9)) x11 M) (by decide) rfl hl.1 rfl (Nat.le_of_ble_eq_true rfl) dX7_highIn_70) hW (fun H locs hW => ?_)
    obtain rfl := Option.some.inj hk
    exact hret _ _ _ _ hW dX7_highIn_73
  · replace hk := ite_f hk c13
    refine lv_bipush (v := ((-20) : Int32)) hx hb dX7_highIn_8 (by decide) ?_
    obtain rfl := Option.some.inj hk
    exact hret _ _ _ _ hW dX7_highIn_10
def f_X7_high (a1 : Int32) (M : Mem) : Option (Int32) :=
  ob (f_X7_limbOf a1 (4 : Int32) M) (fun x1 =>
  ob (f_X7_highIn a1 x1 M) (fun x2 =>
  some x2))
set_option maxHeartbeats 4000000 in
set_option maxRecDepth 100000 in
theorem c_X7_high (l : Launch) (G : GT) (a1 : Int32) (M : Mem) {r : Int32} (hk : f_X7_high a1 M = some r) : CMi l G false yX7_high cX7_high 2 (some .int) 3 [.ref (ad G 176), .int a1] M r M := by
  unfold f_X7_high at hk
  refine CMi.of (by decide) (Nat.le_of_ble_eq_true rfl) ?_
  intro p e s m args below meth c Q hx hb hml hown hg hK hW hret ls hl
  have hl : lv_has ls 2 [(0, .ref (ad G 176)), (1, .int a1)] := hl
  refine lv_aload_n hx hb dX7_high_0 rfl (lv_at hl 0 rfl) ?_
  refine lv_iload_n hx hb dX7_high_1 rfl (lv_at hl 1 rfl) ?_
  refine lv_aload_n hx hb dX7_high_2 rfl (lv_at hl 0 rfl) ?_
  refine lv_iload_n hx hb dX7_high_3 rfl (lv_at hl 1 rfl) ?_
  refine lv_iconst (v := (4 : Int32)) hx hb dX7_high_4 (by decide) ?_
  replace hk := ob_s hk
  obtain ⟨x1, hx1, hk⟩ := hk
  refine cl_i (rn_V g_1029 g_1031 gs_77 g_9 g_1032 hd_X7_limbOf (Nat.le_of_ble_eq_true rfl) (ci := 7) rfl (inM kd_176 rfl) (shp7 kd_176) hx hb hml hown hg hK hW (As := [.int a1, .int (4 : Int32)]) (c_X7_limbOf l G a1 (4 : Int32) M hx1) (by decide) rfl hl.1 rfl (Nat.le_of_ble_eq_true rfl) dX7_high_5) hW (fun H locs hW => ?_)
  replace hk := ob_s hk
  obtain ⟨x2, hx2, hk⟩ := hk
  refine cl_i (rn_V g_1078 g_1080 gs_84 g_9 g_1081 hd_X7_highIn (Nat.le_of_ble_eq_true rfl) (ci := 7) rfl (inM kd_176 rfl) (shp7 kd_176) hx hb hml hown hg hK hW (As := [.int a1, .int x1]) (c_X7_highIn l G a1 x1 M hx2) (by decide) rfl hl.1 rfl (Nat.le_of_ble_eq_true rfl) dX7_high_8) hW (fun H locs hW => ?_)
  obtain rfl := Option.some.inj hk
  exact hret _ _ _ _ hW dX7_high_11
def f_X7_wears_L29 (x5 : Int32) : Nat → Int32 → Mem → Option (Int32 × Mem)
  | 0, _, _ => none
  | n + 1, x6, M7 =>
    ob (rd M7 177 (0 : Int32)) (fun x10 =>
    if x10 ≤ x6 then (
      some (x6, M7))
    else (
      ob (f_X7_isSnapped x6 M7) (fun x11 =>
      ob (
        if x11 = (0 : Int32) then (
          ob (f_X7_limbOf x6 (5 : Int32) M7) (fun x12 =>
          ob (f_X7_limbOf x6 (2 : Int32) M7) (fun x13 =>
          lq (x12 + (x5 * x13)) (fun x14 =>
          lq (
            if x14 ≤ (99 : Int32) then (
              x14)
            else (
              (99 : Int32)))
           (fun x16 =>
          ob (f_X7_sets x6 (5 : Int32) x16 M7) (fun M18 =>
          lq (
            if x14 < (99 : Int32) then (
              (0 : Int32))
            else (
              (1 : Int32)))
           (fun x20 =>
          ob (f_X7_sets x6 (6 : Int32) x20 M18) (fun M22 =>
          some M22))))))))
        else (
          some M7))
       (fun M28 =>
      lq (x6 + (1 : Int32)) (fun x29 =>
      f_X7_wears_L29 x5 n x29 M28)))))
def f_X7_wears (M : Mem) : Option (Mem) :=
  ob (rd M 177 (2 : Int32)) (fun x1 =>
  ob (
    if x1 = (4 : Int32) then (
      some (2 : Int32))
    else (
      ob (rd M 177 (2 : Int32)) (fun x2 =>
      if x2 = ((-4) : Int32) then (
        some (2 : Int32))
      else (
        some (1 : Int32)))))
   (fun x5 =>
  ob2 (f_X7_wears_L29 x5 FU (0 : Int32) M) (fun x8 M9 =>
  some M9)))
set_option maxHeartbeats 4000000 in
set_option maxRecDepth 100000 in
theorem c_X7_wears (l : Launch) (G : GT)  (M : Mem) {M' : Mem} (hk : f_X7_wears  M = some M') : CMv l G false yX7_wears cX7_wears 4 none 2 [.ref (ad G 176)] M M' := by
  unfold f_X7_wears at hk
  refine CMv.of (by decide) (Nat.le_of_ble_eq_true rfl) ?_
  intro p e s m args below meth c Q hx hb hml hown hg hK hW hret ls hl
  have hl : lv_has ls 4 [(0, .ref (ad G 176))] := hl
  refine lv_aload_n hx hb dX7_wears_0 rfl (lv_at hl 0 rfl) ?_
  refine gt_X7_7 hx hb hg hown hK hW kd_176 dX7_wears_1 ?_
  refine lv_iconst (v := (2 : Int32)) hx hb dX7_wears_4 (by decide) ?_
  replace hk := ob_s hk
  obtain ⟨x1, hx1, hk⟩ := hk
  obtain ⟨hx1, ex1⟩ := rd_s hx1
  refine w_ald hx hb hK hW (inM kd_177 rfl) (shp10 kd_177) hx1 ex1 dX7_wears_5 ?_
  refine lv_iconst (v := (4 : Int32)) hx hb dX7_wears_6 (by decide) ?_
  replace hk := ob_s hk
  obtain ⟨x5, hr36, hk⟩ := hk
  have KJ35 : ∀ (H : Heap) (locs : List Loc) (ls : Array Slot), Ws G false M s H locs → lv_has ls 4 [(0, .ref (ad G 176))] → Wx p l e 2 s m args below meth c Q H locs 26 ls [.int x5] := by
    intro H locs ls hW hl
    refine lv_istore_n (lv' := [(1, .int x5), (0, .ref (ad G 176))]) hx hb dX7_wears_26 rfl hl (by decide) rfl (fun ls hl => ?_)
    refine lv_iconst (v := (0 : Int32)) hx hb dX7_wears_27 (by decide) ?_
    refine lv_istore_n (lv' := [(2, .int (0 : Int32)), (1, .int x5), (0, .ref (ad G 176))]) hx hb dX7_wears_28 rfl hl (by decide) rfl (fun ls hl => ?_)
    replace hk := ob2_s hk
    obtain ⟨x8, M9, hz33, hk⟩ := hk
    have KX29 : ∀ (H : Heap) (locs : List Loc) (ls : Array Slot), Ws G false M9 s H locs → lv_has ls 4 [] → Wx p l e 2 s m args below meth c Q H locs 105 ls [] := by
      intro H locs ls hW hl
      obtain rfl := Option.some.inj hk
      exact hret _ _ _ _ hW dX7_wears_105
    clear hk
    have LH29 : ∀ (n : Nat) (x6 : Int32) (M7 : Mem) (H : Heap) (locs : List Loc) (ls : Array Slot), f_X7_wears_L29 x5 n x6 M7 = some (x8, M9) → Ws G false M7 s H locs → lv_has ls 4 [(0, .ref (ad G 176)), (1, .int x5), (2, .int x6)] → Wx p l e 2 s m args below meth c Q H locs 29 ls [] := by
      clear hz33
      intro n
      induction n with
      | zero => intro _ _ _ _ _ hk; cases hk
      | succ n ih29 =>
        intro x6 M7 H locs ls hk hW hl
        rw [f_X7_wears_L29.eq_2] at hk
        refine lv_iload_n hx hb dX7_wears_29 rfl (lv_at hl 2 rfl) ?_
        refine lv_aload_n hx hb dX7_wears_30 rfl (lv_at hl 0 rfl) ?_
        refine gt_X7_7 hx hb hg hown hK hW kd_176 dX7_wears_31 ?_
        refine lv_iconst (v := (0 : Int32)) hx hb dX7_wears_34 (by decide) ?_
        replace hk := ob_s hk
        obtain ⟨x10, hx10, hk⟩ := hk
        obtain ⟨hx10, ex10⟩ := rd_s hx10
        refine w_ald hx hb hK hW (inM kd_177 rfl) (shp10 kd_177) hx10 ex10 dX7_wears_35 ?_
        refine lv_icmp_ge (tgt := 105) hx hb dX7_wears_36 (by decide) (fun c32 => ?_) (fun c32 => ?_)
        · replace hk := ite_t hk c32
          obtain ⟨rfl, rfl⟩ := sp2 hk
          exact KX29 _ _ _ hW (lv_sub hl [] rfl)
        · replace hk := ite_f hk c32
          refine lv_aload_n hx hb dX7_wears_39 rfl (lv_at hl 0 rfl) ?_
          refine lv_iload_n hx hb dX7_wears_40 rfl (lv_at hl 2 rfl) ?_
          replace hk := ob_s hk
          obtain ⟨x11, hx11, hk⟩ := hk
          refine cl_i (rn_V g_1025 g_1027 gs_76 g_9 g_1028 hd_X7_isSnapped (Nat.le_of_ble_eq_true rfl) (ci := 7) rfl (inM kd_176 rfl) (shp7 kd_176) hx hb hml hown hg hK hW (As := [.int x6]) (c_X7_isSnapped l G x6 M7 hx11) (by decide) rfl hl.1 rfl (Nat.le_of_ble_eq_true rfl) dX7_wears_41) hW (fun H locs hW => ?_)
          replace hk := ob_s hk
          obtain ⟨M28, hr31, hk⟩ := hk
          have KJ30 : ∀ (H : Heap) (locs : List Loc) (ls : Array Slot), Ws G false M28 s H locs → lv_has ls 4 [(0, .ref (ad G 176)), (1, .int x5), (2, .int x6)] → Wx p l e 2 s m args below meth c Q H locs 99 ls [] := by
            intro H locs ls hW hl
            replace hk := lq_s hk
            obtain ⟨x29, ex29, hk⟩ := hk
            refine lv_iinc (v := x29) (lv' := [(2, .int x29), (0, .ref (ad G 176)), (1, .int x5)]) hx hb dX7_wears_99 hl (k := 2) rfl (by rw [ex29]; rfl) (by decide) rfl (fun ls hl => ?_)
            refine lv_goto (tgt := 29) hx hb dX7_wears_102 (by decide) ?_
            exact ih29 _ _ _ _ _ hk hW (lv_sub hl [1, 2, 0] rfl)
          clear hk
          have hk := hr31
          clear hr31
          refine lv_if_ne (tgt := 99) hx hb dX7_wears_44 (by decide) (fun c27 => ?_) (fun c27 => ?_)
          · replace hk := ite_f hk c27
            obtain rfl := Option.some.inj hk
            exact KJ30 _ _ _ hW (lv_sub hl [0, 1, 2] rfl)
          · replace hk := ite_t hk c27
            refine lv_aload_n hx hb dX7_wears_47 rfl (lv_at hl 0 rfl) ?_
            refine lv_iload_n hx hb dX7_wears_48 rfl (lv_at hl 2 rfl) ?_
            refine lv_iconst (v := (5 : Int32)) hx hb dX7_wears_49 (by decide) ?_
            replace hk := ob_s hk
            obtain ⟨x12, hx12, hk⟩ := hk
            refine cl_i (rn_V g_1029 g_1031 gs_77 g_9 g_1032 hd_X7_limbOf (Nat.le_of_ble_eq_true rfl) (ci := 7) rfl (inM kd_176 rfl) (shp7 kd_176) hx hb hml hown hg hK hW (As := [.int x6, .int (5 : Int32)]) (c_X7_limbOf l G x6 (5 : Int32) M7 hx12) (by decide) rfl hl.1 rfl (Nat.le_of_ble_eq_true rfl) dX7_wears_50) hW (fun H locs hW => ?_)
            refine lv_iload_n hx hb dX7_wears_53 rfl (lv_at hl 1 rfl) ?_
            refine lv_aload_n hx hb dX7_wears_54 rfl (lv_at hl 0 rfl) ?_
            refine lv_iload_n hx hb dX7_wears_55 rfl (lv_at hl 2 rfl) ?_
            refine lv_iconst (v := (2 : Int32)) hx hb dX7_wears_56 (by decide) ?_
            replace hk := ob_s hk
            obtain ⟨x13, hx13, hk⟩ := hk
            refine cl_i (rn_V g_1029 g_1031 gs_77 g_9 g_1032 hd_X7_limbOf (Nat.le_of_ble_eq_true rfl) (ci := 7) rfl (inM kd_176 rfl) (shp7 kd_176) hx hb hml hown hg hK hW (As := [.int x6, .int (2 : Int32)]) (c_X7_limbOf l G x6 (2 : Int32) M7 hx13) (by decide) rfl hl.1 rfl (Nat.le_of_ble_eq_true rfl) dX7_wears_57) hW (fun H locs hW => ?_)
            refine lv_imul hx hb dX7_wears_60 ?_
            refine lv_iadd hx hb dX7_wears_61 ?_
            replace hk := lq_s hk
            obtain ⟨x14, ex14, hk⟩ := hk
            refine nm_i ex14 ?_
            refine lv_istore_n (lv' := [(3, .int x14), (0, .ref (ad G 176)), (1, .int x5), (2, .int x6)]) hx hb dX7_wears_62 rfl hl (by decide) rfl (fun ls hl => ?_)
            refine lv_aload_n hx hb dX7_wears_63 rfl (lv_at hl 1 rfl) ?_
            refine lv_iload_n hx hb dX7_wears_64 rfl (lv_at hl 3 rfl) ?_
            refine lv_iconst (v := (5 : Int32)) hx hb dX7_wears_65 (by decide) ?_
            refine lv_iload_n hx hb dX7_wears_66 rfl (lv_at hl 0 rfl) ?_
            refine lv_bipush (v := (99 : Int32)) hx hb dX7_wears_67 (by decide) ?_
            replace hk := lq_s hk
            obtain ⟨x16, hr26, hk⟩ := hk
            have KJ25 : ∀ (H : Heap) (locs : List Loc) (ls : Array Slot), Ws G false M7 s H locs → lv_has ls 4 [(0, .ref (ad G 176)), (1, .int x5), (2, .int x6), (3, .int x14)] → Wx p l e 2 s m args below meth c Q H locs 78 ls [.int x16, .int (5 : Int32), .int x6, .ref (ad G 176)] := by
              intro H locs ls hW hl
              replace hk := ob_s hk
              obtain ⟨M18, hx17, hk⟩ := hk
              refine cl_v (rn_V g_947 g_949 gs_65 g_9 g_950 hd_X7_sets (Nat.le_of_ble_eq_true rfl) (ci := 7) rfl (inM kd_176 rfl) (shp7 kd_176) hx hb hml hown hg hK hW (As := [.int x6, .int (5 : Int32), .int x16]) (c_X7_sets l G x6 (5 : Int32) x16 M7 hx17) (by decide) rfl hl.1 rfl (Nat.le_of_ble_eq_true rfl) dX7_wears_78) hW (fun H locs hW => ?_)
              refine lv_aload_n hx hb dX7_wears_81 rfl (lv_at hl 0 rfl) ?_
              refine lv_iload_n hx hb dX7_wears_82 rfl (lv_at hl 2 rfl) ?_
              refine lv_bipush (v := (6 : Int32)) hx hb dX7_wears_83 (by decide) ?_
              refine lv_iload_n hx hb dX7_wears_85 rfl (lv_at hl 3 rfl) ?_
              refine lv_bipush (v := (99 : Int32)) hx hb dX7_wears_86 (by decide) ?_
              replace hk := lq_s hk
              obtain ⟨x20, hr24, hk⟩ := hk
              have KJ23 : ∀ (H : Heap) (locs : List Loc) (ls : Array Slot), Ws G false M18 s H locs → lv_has ls 4 [(0, .ref (ad G 176)), (1, .int x5), (2, .int x6)] → Wx p l e 2 s m args below meth c Q H locs 96 ls [.int x20, .int (6 : Int32), .int x6, .ref (ad G 176)] := by
                intro H locs ls hW hl
                replace hk := ob_s hk
                obtain ⟨M22, hx21, hk⟩ := hk
                refine cl_v (rn_V g_947 g_949 gs_65 g_9 g_950 hd_X7_sets (Nat.le_of_ble_eq_true rfl) (ci := 7) rfl (inM kd_176 rfl) (shp7 kd_176) hx hb hml hown hg hK hW (As := [.int x6, .int (6 : Int32), .int x20]) (c_X7_sets l G x6 (6 : Int32) x20 M18 hx21) (by decide) rfl hl.1 rfl (Nat.le_of_ble_eq_true rfl) dX7_wears_96) hW (fun H locs hW => ?_)
                obtain rfl := Option.some.inj hk
                exact KJ30 _ _ _ hW (lv_sub hl [0, 1, 2] rfl)
              clear hk
              have hk := hr24.symm
              clear hr24
              refine lv_icmp_lt (tgt := 95) hx hb dX7_wears_88 (by decide) (fun c19 => ?_) (fun c19 => ?_)
              · replace hk := ite_t hk c19
                refine lv_iconst (v := (0 : Int32)) hx hb dX7_wears_95 (by decide) ?_
                subst hk
                exact KJ23 _ _ _ hW (lv_sub hl [0, 1, 2] rfl)
              · replace hk := ite_f hk c19
                refine lv_iconst (v := (1 : Int32)) hx hb dX7_wears_91 (by decide) ?_
                refine lv_goto (tgt := 96) hx hb dX7_wears_92 (by decide) ?_
                subst hk
                exact KJ23 _ _ _ hW (lv_sub hl [0, 1, 2] rfl)
            clear hk
            have hk := hr26.symm
            clear hr26
            refine lv_icmp_le (tgt := 77) hx hb dX7_wears_69 (by decide) (fun c15 => ?_) (fun c15 => ?_)
            · replace hk := ite_t hk c15
              refine lv_iload_n hx hb dX7_wears_77 rfl (lv_at hl 0 rfl) ?_
              subst hk
              exact KJ25 _ _ _ hW (lv_sub hl [1, 2, 3, 0] rfl)
            · replace hk := ite_f hk c15
              refine lv_bipush (v := (99 : Int32)) hx hb dX7_wears_72 (by decide) ?_
              refine lv_goto (tgt := 78) hx hb dX7_wears_74 (by decide) ?_
              subst hk
              exact KJ25 _ _ _ hW (lv_sub hl [1, 2, 3, 0] rfl)
    exact LH29 FU _ _ _ _ _ hz33 hW (lv_sub hl [2, 1, 0] rfl)
  clear hk
  have hk := hr36
  clear hr36
  refine lv_icmp_eq (tgt := 21) hx hb dX7_wears_7 (by decide) (fun c4 => ?_) (fun c4 => ?_)
  · replace hk := ite_t hk c4
    refine lv_iconst (v := (2 : Int32)) hx hb dX7_wears_21 (by decide) ?_
    refine lv_goto (tgt := 26) hx hb dX7_wears_22 (by decide) ?_
    obtain rfl := Option.some.inj hk
    exact KJ35 _ _ _ hW (lv_sub hl [0] rfl)
  · replace hk := ite_f hk c4
    refine lv_aload_n hx hb dX7_wears_10 rfl (lv_at hl 0 rfl) ?_
    refine gt_X7_7 hx hb hg hown hK hW kd_176 dX7_wears_11 ?_
    refine lv_iconst (v := (2 : Int32)) hx hb dX7_wears_14 (by decide) ?_
    replace hk := ob_s hk
    obtain ⟨x2, hx2, hk⟩ := hk
    obtain ⟨hx2, ex2⟩ := rd_s hx2
    refine w_ald hx hb hK hW (inM kd_177 rfl) (shp10 kd_177) hx2 ex2 dX7_wears_15 ?_
    refine lv_bipush (v := ((-4) : Int32)) hx hb dX7_wears_16 (by decide) ?_
    refine lv_icmp_ne (tgt := 25) hx hb dX7_wears_18 (by decide) (fun c3 => ?_) (fun c3 => ?_)
    · replace hk := ite_f hk c3
      refine lv_iconst (v := (1 : Int32)) hx hb dX7_wears_25 (by decide) ?_
      obtain rfl := Option.some.inj hk
      exact KJ35 _ _ _ hW (lv_sub hl [0] rfl)
    · replace hk := ite_t hk c3
      refine lv_iconst (v := (2 : Int32)) hx hb dX7_wears_21 (by decide) ?_
      refine lv_goto (tgt := 26) hx hb dX7_wears_22 (by decide) ?_
      obtain rfl := Option.some.inj hk
      exact KJ35 _ _ _ hW (lv_sub hl [0] rfl)
def f_X7_goes (a1 : Int32) (M : Mem) : Option (Mem) :=
  ob (rd M 177 (1 : Int32)) (fun x1 =>
  lq (
    if a1 = (0 : Int32) then (
      (3 : Int32))
    else (
      if a1 = (1 : Int32) then (
        ((-3) : Int32))
      else (
        (0 : Int32))))
   (fun x4 =>
  lq (x1 + x4) (fun x5 =>
  ob (rd M 177 (2 : Int32)) (fun x6 =>
  lq (
    if a1 = (2 : Int32) then (
      ((-1) : Int32))
    else (
      if a1 = (3 : Int32) then (
        (1 : Int32))
      else (
        (0 : Int32))))
   (fun x9 =>
  lq (x6 + x9) (fun x10 =>
  lq (
    if (0 : Int32) ≤ x5 then (
      if x5 ≤ (40 : Int32) then (
        x5)
      else (
        (40 : Int32)))
    else (
      (0 : Int32)))
   (fun x13 =>
  ob (wr M 177 (1 : Int32) x13) (fun M14 =>
  lq (
    if ((-4) : Int32) ≤ x10 then (
      if x10 ≤ (4 : Int32) then (
        x10)
      else (
        (4 : Int32)))
    else (
      ((-4) : Int32)))
   (fun x17 =>
  ob (wr M14 177 (2 : Int32) x17) (fun M18 =>
  ob (rd M18 177 (3 : Int32)) (fun x19 =>
  ob (wr M18 177 (3 : Int32) (x19 + (1 : Int32))) (fun M20 =>
  ob (f_X7_wears M20) (fun M22 =>
  some M22)))))))))))))
set_option maxHeartbeats 4000000 in
set_option maxRecDepth 100000 in
theorem c_X7_goes (l : Launch) (G : GT) (a1 : Int32) (M : Mem) {M' : Mem} (hk : f_X7_goes a1 M = some M') : CMv l G false yX7_goes cX7_goes 4 none 3 [.ref (ad G 176), .int a1] M M' := by
  unfold f_X7_goes at hk
  refine CMv.of (by decide) (Nat.le_of_ble_eq_true rfl) ?_
  intro p e s m args below meth c Q hx hb hml hown hg hK hW hret ls hl
  have hl : lv_has ls 4 [(0, .ref (ad G 176)), (1, .int a1)] := hl
  refine lv_aload_n hx hb dX7_goes_0 rfl (lv_at hl 0 rfl) ?_
  refine gt_X7_7 hx hb hg hown hK hW kd_176 dX7_goes_1 ?_
  refine lv_iconst (v := (1 : Int32)) hx hb dX7_goes_4 (by decide) ?_
  replace hk := ob_s hk
  obtain ⟨x1, hx1, hk⟩ := hk
  obtain ⟨hx1, ex1⟩ := rd_s hx1
  refine w_ald hx hb hK hW (inM kd_177 rfl) (shp10 kd_177) hx1 ex1 dX7_goes_5 ?_
  refine lv_iload_n hx hb dX7_goes_6 rfl (lv_at hl 1 rfl) ?_
  replace hk := lq_s hk
  obtain ⟨x4, hr30, hk⟩ := hk
  have KJ29 : ∀ (H : Heap) (locs : List Loc) (ls : Array Slot), Ws G false M s H locs → lv_has ls 4 [(0, .ref (ad G 176)), (1, .int a1)] → Wx p l e 3 s m args below meth c Q H locs 25 ls [.int x4, .int x1] := by
    intro H locs ls hW hl
    refine lv_iadd hx hb dX7_goes_25 ?_
    replace hk := lq_s hk
    obtain ⟨x5, ex5, hk⟩ := hk
    refine nm_i ex5 ?_
    refine lv_istore_n (lv' := [(2, .int x5), (0, .ref (ad G 176)), (1, .int a1)]) hx hb dX7_goes_26 rfl hl (by decide) rfl (fun ls hl => ?_)
    refine lv_aload_n hx hb dX7_goes_27 rfl (lv_at hl 1 rfl) ?_
    refine gt_X7_7 hx hb hg hown hK hW kd_176 dX7_goes_28 ?_
    refine lv_iconst (v := (2 : Int32)) hx hb dX7_goes_31 (by decide) ?_
    replace hk := ob_s hk
    obtain ⟨x6, hx6, hk⟩ := hk
    obtain ⟨hx6, ex6⟩ := rd_s hx6
    refine w_ald hx hb hK hW (inM kd_177 rfl) (shp10 kd_177) hx6 ex6 dX7_goes_32 ?_
    refine lv_iload_n hx hb dX7_goes_33 rfl (lv_at hl 2 rfl) ?_
    refine lv_iconst (v := (2 : Int32)) hx hb dX7_goes_34 (by decide) ?_
    replace hk := lq_s hk
    obtain ⟨x9, hr28, hk⟩ := hk
    have KJ27 : ∀ (H : Heap) (locs : List Loc) (ls : Array Slot), Ws G false M s H locs → lv_has ls 4 [(0, .ref (ad G 176)), (2, .int x5)] → Wx p l e 3 s m args below meth c Q H locs 52 ls [.int x9, .int x6] := by
      intro H locs ls hW hl
      refine lv_iadd hx hb dX7_goes_52 ?_
      replace hk := lq_s hk
      obtain ⟨x10, ex10, hk⟩ := hk
      refine nm_i ex10 ?_
      refine lv_istore_n (lv' := [(3, .int x10), (0, .ref (ad G 176)), (2, .int x5)]) hx hb dX7_goes_53 rfl hl (by decide) rfl (fun ls hl => ?_)
      refine lv_aload_n hx hb dX7_goes_54 rfl (lv_at hl 1 rfl) ?_
      refine gt_X7_7 hx hb hg hown hK hW kd_176 dX7_goes_55 ?_
      refine lv_iconst (v := (1 : Int32)) hx hb dX7_goes_58 (by decide) ?_
      refine lv_iload_n hx hb dX7_goes_59 rfl (lv_at hl 2 rfl) ?_
      replace hk := lq_s hk
      obtain ⟨x13, hr26, hk⟩ := hk
      have KJ25 : ∀ (H : Heap) (locs : List Loc) (ls : Array Slot), Ws G false M s H locs → lv_has ls 4 [(0, .ref (ad G 176)), (3, .int x10)] → Wx p l e 3 s m args below meth c Q H locs 79 ls [.int x13, .int (1 : Int32), .ref (ad G 177)] := by
        intro H locs ls hW hl
        replace hk := ob_s hk
        obtain ⟨M14, hM14, hk⟩ := hk
        obtain ⟨hM14, eM14⟩ := wr_s hM14
        refine w_ast hx hb hK hW (inM kd_177 rfl) (fun _ => (shp10 kd_177)) hM14 eM14 dX7_goes_79 (fun H locs hW => ?_)
        refine lv_aload_n hx hb dX7_goes_80 rfl (lv_at hl 0 rfl) ?_
        refine gt_X7_7 hx hb hg hown hK hW kd_176 dX7_goes_81 ?_
        refine lv_iconst (v := (2 : Int32)) hx hb dX7_goes_84 (by decide) ?_
        refine lv_iload_n hx hb dX7_goes_85 rfl (lv_at hl 1 rfl) ?_
        refine lv_bipush (v := ((-4) : Int32)) hx hb dX7_goes_86 (by decide) ?_
        replace hk := lq_s hk
        obtain ⟨x17, hr24, hk⟩ := hk
        have KJ23 : ∀ (H : Heap) (locs : List Loc) (ls : Array Slot), Ws G false M14 s H locs → lv_has ls 4 [(0, .ref (ad G 176))] → Wx p l e 3 s m args below meth c Q H locs 106 ls [.int x17, .int (2 : Int32), .ref (ad G 177)] := by
          intro H locs ls hW hl
          replace hk := ob_s hk
          obtain ⟨M18, hM18, hk⟩ := hk
          obtain ⟨hM18, eM18⟩ := wr_s hM18
          refine w_ast hx hb hK hW (inM kd_177 rfl) (fun _ => (shp10 kd_177)) hM18 eM18 dX7_goes_106 (fun H locs hW => ?_)
          refine lv_aload_n hx hb dX7_goes_107 rfl (lv_at hl 0 rfl) ?_
          refine gt_X7_7 hx hb hg hown hK hW kd_176 dX7_goes_108 ?_
          refine lv_iconst (v := (3 : Int32)) hx hb dX7_goes_111 (by decide) ?_
          refine lv_dup2_11 hx hb dX7_goes_112 rfl rfl ?_
          replace hk := ob_s hk
          obtain ⟨x19, hx19, hk⟩ := hk
          obtain ⟨hx19, ex19⟩ := rd_s hx19
          refine w_ald hx hb hK hW (inM kd_177 rfl) (shp10 kd_177) hx19 ex19 dX7_goes_113 ?_
          refine lv_iconst (v := (1 : Int32)) hx hb dX7_goes_114 (by decide) ?_
          refine lv_iadd hx hb dX7_goes_115 ?_
          replace hk := ob_s hk
          obtain ⟨M20, hM20, hk⟩ := hk
          obtain ⟨hM20, eM20⟩ := wr_s hM20
          refine w_ast hx hb hK hW (inM kd_177 rfl) (fun _ => (shp10 kd_177)) hM20 eM20 dX7_goes_116 (fun H locs hW => ?_)
          refine lv_aload_n hx hb dX7_goes_117 rfl (lv_at hl 0 rfl) ?_
          replace hk := ob_s hk
          obtain ⟨M22, hx21, hk⟩ := hk
          refine cl_v (rn_V g_1021 g_1023 gs_75 g_9 g_1024 hd_X7_wears (Nat.le_of_ble_eq_true rfl) (ci := 7) rfl (inM kd_176 rfl) (shp7 kd_176) hx hb hml hown hg hK hW (As := []) (c_X7_wears l G M20 hx21) (by decide) rfl hl.1 rfl (Nat.le_of_ble_eq_true rfl) dX7_goes_118) hW (fun H locs hW => ?_)
          obtain rfl := Option.some.inj hk
          exact hret _ _ _ _ hW dX7_goes_121
        clear hk
        have hk := hr24.symm
        clear hr24
        refine lv_icmp_ge (tgt := 96) hx hb dX7_goes_88 (by decide) (fun c16 => ?_) (fun c16 => ?_)
        · replace hk := ite_t hk c16
          refine lv_iload_n hx hb dX7_goes_96 rfl (lv_at hl 1 rfl) ?_
          refine lv_iconst (v := (4 : Int32)) hx hb dX7_goes_97 (by decide) ?_
          refine lv_icmp_le (tgt := 105) hx hb dX7_goes_98 (by decide) (fun c15 => ?_) (fun c15 => ?_)
          · replace hk := ite_t hk c15
            refine lv_iload_n hx hb dX7_goes_105 rfl (lv_at hl 1 rfl) ?_
            subst hk
            exact KJ23 _ _ _ hW (lv_sub hl [0] rfl)
          · replace hk := ite_f hk c15
            refine lv_iconst (v := (4 : Int32)) hx hb dX7_goes_101 (by decide) ?_
            refine lv_goto (tgt := 106) hx hb dX7_goes_102 (by decide) ?_
            subst hk
            exact KJ23 _ _ _ hW (lv_sub hl [0] rfl)
        · replace hk := ite_f hk c16
          refine lv_bipush (v := ((-4) : Int32)) hx hb dX7_goes_91 (by decide) ?_
          refine lv_goto (tgt := 106) hx hb dX7_goes_93 (by decide) ?_
          subst hk
          exact KJ23 _ _ _ hW (lv_sub hl [0] rfl)
      clear hk
      have hk := hr26.symm
      clear hr26
      refine lv_if_ge (tgt := 67) hx hb dX7_goes_60 (by decide) (fun c12 => ?_) (fun c12 => ?_)
      · replace hk := ite_t hk c12
        refine lv_iload_n hx hb dX7_goes_67 rfl (lv_at hl 2 rfl) ?_
        refine lv_bipush (v := (40 : Int32)) hx hb dX7_goes_68 (by decide) ?_
        refine lv_icmp_le (tgt := 78) hx hb dX7_goes_70 (by decide) (fun c11 => ?_) (fun c11 => ?_)
        · replace hk := ite_t hk c11
          refine lv_iload_n hx hb dX7_goes_78 rfl (lv_at hl 2 rfl) ?_
          subst hk
          exact KJ25 _ _ _ hW (lv_sub hl [1, 0] rfl)
        · replace hk := ite_f hk c11
          refine lv_bipush (v := (40 : Int32)) hx hb dX7_goes_73 (by decide) ?_
          refine lv_goto (tgt := 79) hx hb dX7_goes_75 (by decide) ?_
          subst hk
          exact KJ25 _ _ _ hW (lv_sub hl [1, 0] rfl)
      · replace hk := ite_f hk c12
        refine lv_iconst (v := (0 : Int32)) hx hb dX7_goes_63 (by decide) ?_
        refine lv_goto (tgt := 79) hx hb dX7_goes_64 (by decide) ?_
        subst hk
        exact KJ25 _ _ _ hW (lv_sub hl [1, 0] rfl)
    clear hk
    have hk := hr28.symm
    clear hr28
    refine lv_icmp_ne (tgt := 42) hx hb dX7_goes_35 (by decide) (fun c8 => ?_) (fun c8 => ?_)
    · replace hk := ite_f hk c8
      refine lv_iload_n hx hb dX7_goes_42 rfl (lv_at hl 2 rfl) ?_
      refine lv_iconst (v := (3 : Int32)) hx hb dX7_goes_43 (by decide) ?_
      refine lv_icmp_ne (tgt := 51) hx hb dX7_goes_44 (by decide) (fun c7 => ?_) (fun c7 => ?_)
      · replace hk := ite_f hk c7
        refine lv_iconst (v := (0 : Int32)) hx hb dX7_goes_51 (by decide) ?_
        subst hk
        exact KJ27 _ _ _ hW (lv_sub hl [1, 0] rfl)
      · replace hk := ite_t hk c7
        refine lv_iconst (v := (1 : Int32)) hx hb dX7_goes_47 (by decide) ?_
        refine lv_goto (tgt := 52) hx hb dX7_goes_48 (by decide) ?_
        subst hk
        exact KJ27 _ _ _ hW (lv_sub hl [1, 0] rfl)
    · replace hk := ite_t hk c8
      refine lv_iconst (v := ((-1) : Int32)) hx hb dX7_goes_38 (by decide) ?_
      refine lv_goto (tgt := 52) hx hb dX7_goes_39 (by decide) ?_
      subst hk
      exact KJ27 _ _ _ hW (lv_sub hl [1, 0] rfl)
  clear hk
  have hk := hr30.symm
  clear hr30
  refine lv_if_ne (tgt := 14) hx hb dX7_goes_7 (by decide) (fun c3 => ?_) (fun c3 => ?_)
  · replace hk := ite_f hk c3
    refine lv_iload_n hx hb dX7_goes_14 rfl (lv_at hl 1 rfl) ?_
    refine lv_iconst (v := (1 : Int32)) hx hb dX7_goes_15 (by decide) ?_
    refine lv_icmp_ne (tgt := 24) hx hb dX7_goes_16 (by decide) (fun c2 => ?_) (fun c2 => ?_)
    · replace hk := ite_f hk c2
      refine lv_iconst (v := (0 : Int32)) hx hb dX7_goes_24 (by decide) ?_
      subst hk
      exact KJ29 _ _ _ hW (lv_sub hl [0, 1] rfl)
    · replace hk := ite_t hk c2
      refine lv_bipush (v := ((-3) : Int32)) hx hb dX7_goes_19 (by decide) ?_
      refine lv_goto (tgt := 25) hx hb dX7_goes_21 (by decide) ?_
      subst hk
      exact KJ29 _ _ _ hW (lv_sub hl [0, 1] rfl)
  · replace hk := ite_t hk c3
    refine lv_iconst (v := (3 : Int32)) hx hb dX7_goes_10 (by decide) ?_
    refine lv_goto (tgt := 25) hx hb dX7_goes_11 (by decide) ?_
    subst hk
    exact KJ29 _ _ _ hW (lv_sub hl [0, 1] rfl)
def f_X7_snapped_L4 (M : Mem) : Nat → Int32 → Int32 → Option (Int32)
  | 0, _, _ => none
  | n + 1, x1, x2 =>
    ob (rd M 177 (0 : Int32)) (fun x4 =>
    if x4 ≤ x2 then (
      some x1)
    else (
      ob (f_X7_limbOf x2 (6 : Int32) M) (fun x5 =>
      lq (x1 + x5) (fun x6 =>
      lq (x2 + (1 : Int32)) (fun x7 =>
      f_X7_snapped_L4 M n x6 x7)))))
def f_X7_snapped (M : Mem) : Option (Int32) :=
  ob (f_X7_snapped_L4 M FU (0 : Int32) (0 : Int32)) (fun x3 =>
  some x3)
set_option maxHeartbeats 4000000 in
set_option maxRecDepth 100000 in
theorem c_X7_snapped (l : Launch) (G : GT)  (M : Mem) {r : Int32} (hk : f_X7_snapped  M = some r) : CMi l G false yX7_snapped cX7_snapped 3 (some .int) 1 [.ref (ad G 176)] M r M := by
  unfold f_X7_snapped at hk
  refine CMi.of (by decide) (Nat.le_of_ble_eq_true rfl) ?_
  intro p e s m args below meth c Q hx hb hml hown hg hK hW hret ls hl
  have hl : lv_has ls 3 [(0, .ref (ad G 176))] := hl
  refine lv_iconst (v := (0 : Int32)) hx hb dX7_snapped_0 (by decide) ?_
  refine lv_istore_n (lv' := [(1, .int (0 : Int32)), (0, .ref (ad G 176))]) hx hb dX7_snapped_1 rfl hl (by decide) rfl (fun ls hl => ?_)
  refine lv_iconst (v := (0 : Int32)) hx hb dX7_snapped_2 (by decide) ?_
  refine lv_istore_n (lv' := [(2, .int (0 : Int32)), (1, .int (0 : Int32)), (0, .ref (ad G 176))]) hx hb dX7_snapped_3 rfl hl (by decide) rfl (fun ls hl => ?_)
  replace hk := ob_s hk
  obtain ⟨x3, hz9, hk⟩ := hk
  have KX4 : ∀ (H : Heap) (locs : List Loc) (ls : Array Slot), Ws G false M s H locs → lv_has ls 3 [(1, .int x3)] → Wx p l e 1 s m args below meth c Q H locs 30 ls [] := by
    intro H locs ls hW hl
    refine lv_iload_n hx hb dX7_snapped_30 rfl (lv_at hl 0 rfl) ?_
    obtain rfl := Option.some.inj hk
    exact hret _ _ _ _ hW dX7_snapped_31
  clear hk
  have LH4 : ∀ (n : Nat) (x1 : Int32) (x2 : Int32) (H : Heap) (locs : List Loc) (ls : Array Slot), f_X7_snapped_L4 M n x1 x2 = some x3 → Ws G false M s H locs → lv_has ls 3 [(0, .ref (ad G 176)), (1, .int x1), (2, .int x2)] → Wx p l e 1 s m args below meth c Q H locs 4 ls [] := by
    clear hz9
    intro n
    induction n with
    | zero => intro _ _ _ _ _ hk; cases hk
    | succ n ih4 =>
      intro x1 x2 H locs ls hk hW hl
      rw [f_X7_snapped_L4.eq_2] at hk
      refine lv_iload_n hx hb dX7_snapped_4 rfl (lv_at hl 2 rfl) ?_
      refine lv_aload_n hx hb dX7_snapped_5 rfl (lv_at hl 0 rfl) ?_
      refine gt_X7_7 hx hb hg hown hK hW kd_176 dX7_snapped_6 ?_
      refine lv_iconst (v := (0 : Int32)) hx hb dX7_snapped_9 (by decide) ?_
      replace hk := ob_s hk
      obtain ⟨x4, hx4, hk⟩ := hk
      obtain ⟨hx4, ex4⟩ := rd_s hx4
      refine w_ald hx hb hK hW (inM kd_177 rfl) (shp10 kd_177) hx4 ex4 dX7_snapped_10 ?_
      refine lv_icmp_ge (tgt := 30) hx hb dX7_snapped_11 (by decide) (fun c8 => ?_) (fun c8 => ?_)
      · replace hk := ite_t hk c8
        obtain rfl := Option.some.inj hk
        exact KX4 _ _ _ hW (lv_sub hl [1] rfl)
      · replace hk := ite_f hk c8
        refine lv_iload_n hx hb dX7_snapped_14 rfl (lv_at hl 1 rfl) ?_
        refine lv_aload_n hx hb dX7_snapped_15 rfl (lv_at hl 0 rfl) ?_
        refine lv_iload_n hx hb dX7_snapped_16 rfl (lv_at hl 2 rfl) ?_
        refine lv_bipush (v := (6 : Int32)) hx hb dX7_snapped_17 (by decide) ?_
        replace hk := ob_s hk
        obtain ⟨x5, hx5, hk⟩ := hk
        refine cl_i (rn_V g_1029 g_1031 gs_77 g_9 g_1032 hd_X7_limbOf (Nat.le_of_ble_eq_true rfl) (ci := 7) rfl (inM kd_176 rfl) (shp7 kd_176) hx hb hml hown hg hK hW (As := [.int x2, .int (6 : Int32)]) (c_X7_limbOf l G x2 (6 : Int32) M hx5) (by decide) rfl hl.1 rfl (Nat.le_of_ble_eq_true rfl) dX7_snapped_19) hW (fun H locs hW => ?_)
        refine lv_iadd hx hb dX7_snapped_22 ?_
        replace hk := lq_s hk
        obtain ⟨x6, ex6, hk⟩ := hk
        refine nm_i ex6 ?_
        refine lv_istore_n (lv' := [(1, .int x6), (0, .ref (ad G 176)), (2, .int x2)]) hx hb dX7_snapped_23 rfl hl (by decide) rfl (fun ls hl => ?_)
        replace hk := lq_s hk
        obtain ⟨x7, ex7, hk⟩ := hk
        refine lv_iinc (v := x7) (lv' := [(2, .int x7), (1, .int x6), (0, .ref (ad G 176))]) hx hb dX7_snapped_24 hl (k := 2) rfl (by rw [ex7]; rfl) (by decide) rfl (fun ls hl => ?_)
        refine lv_goto (tgt := 4) hx hb dX7_snapped_27 (by decide) ?_
        exact ih4 _ _ _ _ _ hk hW (lv_sub hl [2, 1, 0] rfl)
  exact LH4 FU _ _ _ _ _ hz9 hW (lv_sub hl [2, 1, 0] rfl)
def f_X7_puppet (a1 : Int32) (M : Mem) : Option (Int32 × Mem) :=
  if (f_X7_in a1.toInt64 (0 : Int64) (40 : Int64)) = (0 : Int32) then (
    ob2 (f_X7_bad M) (fun x5 M6 =>
    some (x5, M6)))
  else (
    ob (rd M 177 (0 : Int32)) (fun x2 =>
    ob (f_X7_begins a1 M) (fun M4 =>
    some (x2, M4))))
set_option maxHeartbeats 4000000 in
set_option maxRecDepth 100000 in
theorem c_X7_puppet (l : Launch) (G : GT) (a1 : Int32) (M : Mem) {r : Int32} {M' : Mem} (hk : f_X7_puppet a1 M = some (r, M')) : CMi l G false yX7_puppet cX7_puppet 3 (some .int) 1 [.ref (ad G 176), .int a1] M r M' := by
  unfold f_X7_puppet at hk
  refine CMi.of (by decide) (Nat.le_of_ble_eq_true rfl) ?_
  intro p e s m args below meth c Q hx hb hml hown hg hK hW hret ls hl
  have hl : lv_has ls 3 [(0, .ref (ad G 176)), (1, .int a1)] := hl
  refine lv_iload_n hx hb dX7_puppet_0 rfl (lv_at hl 1 rfl) ?_
  refine lv_i2l hx hb dX7_puppet_1 rfl ?_
  refine lv_lconst (v := (0 : Int64)) hx hb dX7_puppet_2 (by decide) ?_
  refine lv_ldc2 hx hb hown (hg _ g_920) dX7_puppet_3 ?_
  refine cl_i (rn_S g_921 g_922 g_9 g_923 hd_X7_in (Nat.le_of_ble_eq_true rfl) hx hb hml hown hg hK hW (As := [.long a1.toInt64, .long (0 : Int64), .long (40 : Int64)]) (c_X7_in l G a1.toInt64 (0 : Int64) (40 : Int64) M) (by decide) rfl hl.1 rfl (Nat.le_of_ble_eq_true rfl) dX7_puppet_6) hW (fun H locs hW => ?_)
  refine lv_if_ne (tgt := 17) hx hb dX7_puppet_9 (by decide) (fun c7 => ?_) (fun c7 => ?_)
  · replace hk := ite_f hk c7
    refine lv_aload_n hx hb dX7_puppet_17 rfl (lv_at hl 0 rfl) ?_
    refine gt_X7_7 hx hb hg hown hK hW kd_176 dX7_puppet_18 ?_
    refine lv_iconst (v := (0 : Int32)) hx hb dX7_puppet_21 (by decide) ?_
    replace hk := ob_s hk
    obtain ⟨x2, hx2, hk⟩ := hk
    obtain ⟨hx2, ex2⟩ := rd_s hx2
    refine w_ald hx hb hK hW (inM kd_177 rfl) (shp10 kd_177) hx2 ex2 dX7_puppet_22 ?_
    refine lv_istore_n (lv' := [(2, .int x2), (0, .ref (ad G 176)), (1, .int a1)]) hx hb dX7_puppet_23 rfl hl (by decide) rfl (fun ls hl => ?_)
    refine lv_aload_n hx hb dX7_puppet_24 rfl (lv_at hl 1 rfl) ?_
    refine lv_iload_n hx hb dX7_puppet_25 rfl (lv_at hl 2 rfl) ?_
    replace hk := ob_s hk
    obtain ⟨M4, hx3, hk⟩ := hk
    refine cl_v (rn_V g_848 g_850 gs_61 g_9 g_851 hd_X7_begins (Nat.le_of_ble_eq_true rfl) (ci := 7) rfl (inM kd_176 rfl) (shp7 kd_176) hx hb hml hown hg hK hW (As := [.int a1]) (c_X7_begins l G a1 M hx3) (by decide) rfl hl.1 rfl (Nat.le_of_ble_eq_true rfl) dX7_puppet_26) hW (fun H locs hW => ?_)
    refine lv_iload_n hx hb dX7_puppet_29 rfl (lv_at hl 0 rfl) ?_
    obtain ⟨rfl, rfl⟩ := sp2 hk
    exact hret _ _ _ _ hW dX7_puppet_30
  · replace hk := ite_t hk c7
    refine lv_aload_n hx hb dX7_puppet_12 rfl (lv_at hl 0 rfl) ?_
    replace hk := ob2_s hk
    obtain ⟨x5, M6, hx5, hk⟩ := hk
    refine cl_i (rn_V g_924 g_926 gs_62 g_9 g_927 hd_X7_bad (Nat.le_of_ble_eq_true rfl) (ci := 7) rfl (inM kd_176 rfl) (shp7 kd_176) hx hb hml hown hg hK hW (As := []) (c_X7_bad l G M hx5) (by decide) rfl hl.1 rfl (Nat.le_of_ble_eq_true rfl) dX7_puppet_13) hW (fun H locs hW => ?_)
    obtain ⟨rfl, rfl⟩ := sp2 hk
    exact hret _ _ _ _ hW dX7_puppet_16
def f_X7_isLimbBy (a0 : Int32) (a1 : Int32) (a2 : Int32) (a3 : Int32) (a4 : Int32) : Int32 :=
  if (f_X7_in a0.toInt64 (0 : Int64) (5 : Int64)) = (0 : Int32) then (
    (0 : Int32))
  else (
    if (f_X7_in a1.toInt64 (0 : Int64) (5 : Int64)) = (0 : Int32) then (
      (0 : Int32))
    else (
      if (f_X7_in a2.toInt64 (1 : Int64) (9 : Int64)) = (0 : Int32) then (
        (0 : Int32))
      else (
        if (f_X7_in a3.toInt64 (1 : Int64) (20 : Int64)) = (0 : Int32) then (
          (0 : Int32))
        else (
          if (f_X7_in a4.toInt64 (0 : Int64) (8 : Int64)) = (0 : Int32) then (
            (0 : Int32))
          else (
            (1 : Int32))))))
theorem b_X7_isLimbBy (a0 : Int32) (a1 : Int32) (a2 : Int32) (a3 : Int32) (a4 : Int32) : f_X7_isLimbBy a0 a1 a2 a3 a4 = 0 ∨ f_X7_isLimbBy a0 a1 a2 a3 a4 = 1 := by
  obtain ⟨r, hk⟩ : ∃ r, f_X7_isLimbBy a0 a1 a2 a3 a4 = r := ⟨_, rfl⟩
  rw [hk]; unfold f_X7_isLimbBy at hk
  first | (repeat' (split at hk)) | skip
  all_goals (rw [← hk]; first | exact Or.inl rfl | exact Or.inr rfl)
set_option maxHeartbeats 4000000 in
set_option maxRecDepth 100000 in
theorem c_X7_isLimbBy (l : Launch) (G : GT) (a0 : Int32) (a1 : Int32) (a2 : Int32) (a3 : Int32) (a4 : Int32) (M : Mem) : CMi l G false yX7_isLimbBy cX7_isLimbBy 5 (some .boolean) 1 [.int a0, .int a1, .int a2, .int a3, .int a4] M (f_X7_isLimbBy a0 a1 a2 a3 a4) M := by
  obtain ⟨r, hk⟩ : ∃ r, f_X7_isLimbBy a0 a1 a2 a3 a4 = r := ⟨_, rfl⟩
  rw [hk]
  unfold f_X7_isLimbBy at hk
  refine CMi.ofZ (by decide) (Nat.le_of_ble_eq_true rfl) ?_
  intro p e s m args below meth c Q hx hb hml hown hg hK hW hret ls hl
  have hl : lv_has ls 5 [(0, .int a0), (1, .int a1), (2, .int a2), (3, .int a3), (4, .int a4)] := hl
  refine lv_iload_n hx hb dX7_isLimbBy_0 rfl (lv_at hl 0 rfl) ?_
  refine lv_i2l hx hb dX7_isLimbBy_1 rfl ?_
  refine lv_lconst (v := (0 : Int64)) hx hb dX7_isLimbBy_2 (by decide) ?_
  refine lv_ldc2 hx hb hown (hg _ g_935) dX7_isLimbBy_3 ?_
  refine cl_i (rn_S g_921 g_922 g_9 g_923 hd_X7_in (Nat.le_of_ble_eq_true rfl) hx hb hml hown hg hK hW (As := [.long a0.toInt64, .long (0 : Int64), .long (5 : Int64)]) (c_X7_in l G a0.toInt64 (0 : Int64) (5 : Int64) M) (by decide) rfl hl.1 rfl (Nat.le_of_ble_eq_true rfl) dX7_isLimbBy_6) hW (fun H locs hW => ?_)
  refine lv_if_eq (tgt := 65) hx hb dX7_isLimbBy_9 (by decide) (fun c10 => ?_) (fun c10 => ?_)
  · replace hk := ite_t hk c10
    refine lv_iconst (v := (0 : Int32)) hx hb dX7_isLimbBy_65 (by decide) ?_
    subst hk
    exact hret _ _ _ _ (Or.inl rfl) hW dX7_isLimbBy_66
  · replace hk := ite_f hk c10
    refine lv_iload_n hx hb dX7_isLimbBy_12 rfl (lv_at hl 1 rfl) ?_
    refine lv_i2l hx hb dX7_isLimbBy_13 rfl ?_
    refine lv_lconst (v := (0 : Int64)) hx hb dX7_isLimbBy_14 (by decide) ?_
    refine lv_ldc2 hx hb hown (hg _ g_935) dX7_isLimbBy_15 ?_
    refine cl_i (rn_S g_921 g_922 g_9 g_923 hd_X7_in (Nat.le_of_ble_eq_true rfl) hx hb hml hown hg hK hW (As := [.long a1.toInt64, .long (0 : Int64), .long (5 : Int64)]) (c_X7_in l G a1.toInt64 (0 : Int64) (5 : Int64) M) (by decide) rfl hl.1 rfl (Nat.le_of_ble_eq_true rfl) dX7_isLimbBy_18) hW (fun H locs hW => ?_)
    refine lv_if_eq (tgt := 65) hx hb dX7_isLimbBy_21 (by decide) (fun c9 => ?_) (fun c9 => ?_)
    · replace hk := ite_t hk c9
      refine lv_iconst (v := (0 : Int32)) hx hb dX7_isLimbBy_65 (by decide) ?_
      subst hk
      exact hret _ _ _ _ (Or.inl rfl) hW dX7_isLimbBy_66
    · replace hk := ite_f hk c9
      refine lv_iload_n hx hb dX7_isLimbBy_24 rfl (lv_at hl 2 rfl) ?_
      refine lv_i2l hx hb dX7_isLimbBy_25 rfl ?_
      refine lv_lconst (v := (1 : Int64)) hx hb dX7_isLimbBy_26 (by decide) ?_
      refine lv_ldc2 hx hb hown (hg _ g_936) dX7_isLimbBy_27 ?_
      refine cl_i (rn_S g_921 g_922 g_9 g_923 hd_X7_in (Nat.le_of_ble_eq_true rfl) hx hb hml hown hg hK hW (As := [.long a2.toInt64, .long (1 : Int64), .long (9 : Int64)]) (c_X7_in l G a2.toInt64 (1 : Int64) (9 : Int64) M) (by decide) rfl hl.1 rfl (Nat.le_of_ble_eq_true rfl) dX7_isLimbBy_30) hW (fun H locs hW => ?_)
      refine lv_if_eq (tgt := 65) hx hb dX7_isLimbBy_33 (by decide) (fun c8 => ?_) (fun c8 => ?_)
      · replace hk := ite_t hk c8
        refine lv_iconst (v := (0 : Int32)) hx hb dX7_isLimbBy_65 (by decide) ?_
        subst hk
        exact hret _ _ _ _ (Or.inl rfl) hW dX7_isLimbBy_66
      · replace hk := ite_f hk c8
        refine lv_iload_n hx hb dX7_isLimbBy_36 rfl (lv_at hl 3 rfl) ?_
        refine lv_i2l hx hb dX7_isLimbBy_37 rfl ?_
        refine lv_lconst (v := (1 : Int64)) hx hb dX7_isLimbBy_38 (by decide) ?_
        refine lv_ldc2 hx hb hown (hg _ g_937) dX7_isLimbBy_39 ?_
        refine cl_i (rn_S g_921 g_922 g_9 g_923 hd_X7_in (Nat.le_of_ble_eq_true rfl) hx hb hml hown hg hK hW (As := [.long a3.toInt64, .long (1 : Int64), .long (20 : Int64)]) (c_X7_in l G a3.toInt64 (1 : Int64) (20 : Int64) M) (by decide) rfl hl.1 rfl (Nat.le_of_ble_eq_true rfl) dX7_isLimbBy_42) hW (fun H locs hW => ?_)
        refine lv_if_eq (tgt := 65) hx hb dX7_isLimbBy_45 (by decide) (fun c7 => ?_) (fun c7 => ?_)
        · replace hk := ite_t hk c7
          refine lv_iconst (v := (0 : Int32)) hx hb dX7_isLimbBy_65 (by decide) ?_
          subst hk
          exact hret _ _ _ _ (Or.inl rfl) hW dX7_isLimbBy_66
        · replace hk := ite_f hk c7
          refine lv_iload hx hb dX7_isLimbBy_48 (lv_at hl 4 rfl) ?_
          refine lv_i2l hx hb dX7_isLimbBy_50 rfl ?_
          refine lv_lconst (v := (0 : Int64)) hx hb dX7_isLimbBy_51 (by decide) ?_
          refine lv_ldc2 hx hb hown (hg _ g_938) dX7_isLimbBy_52 ?_
          refine cl_i (rn_S g_921 g_922 g_9 g_923 hd_X7_in (Nat.le_of_ble_eq_true rfl) hx hb hml hown hg hK hW (As := [.long a4.toInt64, .long (0 : Int64), .long (8 : Int64)]) (c_X7_in l G a4.toInt64 (0 : Int64) (8 : Int64) M) (by decide) rfl hl.1 rfl (Nat.le_of_ble_eq_true rfl) dX7_isLimbBy_55) hW (fun H locs hW => ?_)
          refine lv_if_eq (tgt := 65) hx hb dX7_isLimbBy_58 (by decide) (fun c6 => ?_) (fun c6 => ?_)
          · replace hk := ite_t hk c6
            refine lv_iconst (v := (0 : Int32)) hx hb dX7_isLimbBy_65 (by decide) ?_
            subst hk
            exact hret _ _ _ _ (Or.inl rfl) hW dX7_isLimbBy_66
          · replace hk := ite_f hk c6
            refine lv_iconst (v := (1 : Int32)) hx hb dX7_isLimbBy_61 (by decide) ?_
            refine lv_goto (tgt := 66) hx hb dX7_isLimbBy_62 (by decide) ?_
            subst hk
            exact hret _ _ _ _ (Or.inr rfl) hW dX7_isLimbBy_66
def f_X7_limbComes (a1 : Int32) (a2 : Int32) (a3 : Int32) (a4 : Int32) (a5 : Int32) (M : Mem) : Option (Mem) :=
  ob (rd M 177 (0 : Int32)) (fun x1 =>
  ob (f_X7_sets x1 (0 : Int32) a1 M) (fun M3 =>
  ob (f_X7_sets x1 (1 : Int32) a2 M3) (fun M5 =>
  ob (f_X7_sets x1 (2 : Int32) a3 M5) (fun M7 =>
  ob (f_X7_sets x1 (3 : Int32) a4 M7) (fun M9 =>
  ob (f_X7_sets x1 (4 : Int32) a5 M9) (fun M11 =>
  ob (f_X7_sets x1 (5 : Int32) (0 : Int32) M11) (fun M13 =>
  ob (f_X7_sets x1 (6 : Int32) (0 : Int32) M13) (fun M15 =>
  ob (rd M15 177 (0 : Int32)) (fun x16 =>
  ob (wr M15 177 (0 : Int32) (x16 + (1 : Int32))) (fun M17 =>
  ob (wr M17 177 (147 : Int32) (0 : Int32)) (fun M18 =>
  some M18)))))))))))
set_option maxHeartbeats 4000000 in
set_option maxRecDepth 100000 in
theorem c_X7_limbComes (l : Launch) (G : GT) (a1 : Int32) (a2 : Int32) (a3 : Int32) (a4 : Int32) (a5 : Int32) (M : Mem) {M' : Mem} (hk : f_X7_limbComes a1 a2 a3 a4 a5 M = some M') : CMv l G false yX7_limbComes cX7_limbComes 7 none 1 [.ref (ad G 176), .int a1, .int a2, .int a3, .int a4, .int a5] M M' := by
  unfold f_X7_limbComes at hk
  refine CMv.of (by decide) (Nat.le_of_ble_eq_true rfl) ?_
  intro p e s m args below meth c Q hx hb hml hown hg hK hW hret ls hl
  have hl : lv_has ls 7 [(0, .ref (ad G 176)), (1, .int a1), (2, .int a2), (3, .int a3), (4, .int a4), (5, .int a5)] := hl
  refine lv_aload_n hx hb dX7_limbComes_0 rfl (lv_at hl 0 rfl) ?_
  refine gt_X7_7 hx hb hg hown hK hW kd_176 dX7_limbComes_1 ?_
  refine lv_iconst (v := (0 : Int32)) hx hb dX7_limbComes_4 (by decide) ?_
  replace hk := ob_s hk
  obtain ⟨x1, hx1, hk⟩ := hk
  obtain ⟨hx1, ex1⟩ := rd_s hx1
  refine w_ald hx hb hK hW (inM kd_177 rfl) (shp10 kd_177) hx1 ex1 dX7_limbComes_5 ?_
  refine lv_istore (lv' := [(6, .int x1), (0, .ref (ad G 176)), (1, .int a1), (2, .int a2), (3, .int a3), (4, .int a4), (5, .int a5)]) hx hb dX7_limbComes_6 hl (by decide) rfl (fun ls hl => ?_)
  refine lv_aload_n hx hb dX7_limbComes_8 rfl (lv_at hl 1 rfl) ?_
  refine lv_iload hx hb dX7_limbComes_9 (lv_at hl 0 rfl) ?_
  refine lv_iconst (v := (0 : Int32)) hx hb dX7_limbComes_11 (by decide) ?_
  refine lv_iload_n hx hb dX7_limbComes_12 rfl (lv_at hl 2 rfl) ?_
  replace hk := ob_s hk
  obtain ⟨M3, hx2, hk⟩ := hk
  refine cl_v (rn_V g_947 g_949 gs_65 g_9 g_950 hd_X7_sets (Nat.le_of_ble_eq_true rfl) (ci := 7) rfl (inM kd_176 rfl) (shp7 kd_176) hx hb hml hown hg hK hW (As := [.int x1, .int (0 : Int32), .int a1]) (c_X7_sets l G x1 (0 : Int32) a1 M hx2) (by decide) rfl hl.1 rfl (Nat.le_of_ble_eq_true rfl) dX7_limbComes_13) hW (fun H locs hW => ?_)
  refine lv_aload_n hx hb dX7_limbComes_16 rfl (lv_at hl 1 rfl) ?_
  refine lv_iload hx hb dX7_limbComes_17 (lv_at hl 0 rfl) ?_
  refine lv_iconst (v := (1 : Int32)) hx hb dX7_limbComes_19 (by decide) ?_
  refine lv_iload_n hx hb dX7_limbComes_20 rfl (lv_at hl 3 rfl) ?_
  replace hk := ob_s hk
  obtain ⟨M5, hx4, hk⟩ := hk
  refine cl_v (rn_V g_947 g_949 gs_65 g_9 g_950 hd_X7_sets (Nat.le_of_ble_eq_true rfl) (ci := 7) rfl (inM kd_176 rfl) (shp7 kd_176) hx hb hml hown hg hK hW (As := [.int x1, .int (1 : Int32), .int a2]) (c_X7_sets l G x1 (1 : Int32) a2 M3 hx4) (by decide) rfl hl.1 rfl (Nat.le_of_ble_eq_true rfl) dX7_limbComes_21) hW (fun H locs hW => ?_)
  refine lv_aload_n hx hb dX7_limbComes_24 rfl (lv_at hl 1 rfl) ?_
  refine lv_iload hx hb dX7_limbComes_25 (lv_at hl 0 rfl) ?_
  refine lv_iconst (v := (2 : Int32)) hx hb dX7_limbComes_27 (by decide) ?_
  refine lv_iload_n hx hb dX7_limbComes_28 rfl (lv_at hl 4 rfl) ?_
  replace hk := ob_s hk
  obtain ⟨M7, hx6, hk⟩ := hk
  refine cl_v (rn_V g_947 g_949 gs_65 g_9 g_950 hd_X7_sets (Nat.le_of_ble_eq_true rfl) (ci := 7) rfl (inM kd_176 rfl) (shp7 kd_176) hx hb hml hown hg hK hW (As := [.int x1, .int (2 : Int32), .int a3]) (c_X7_sets l G x1 (2 : Int32) a3 M5 hx6) (by decide) rfl hl.1 rfl (Nat.le_of_ble_eq_true rfl) dX7_limbComes_29) hW (fun H locs hW => ?_)
  refine lv_aload_n hx hb dX7_limbComes_32 rfl (lv_at hl 1 rfl) ?_
  refine lv_iload hx hb dX7_limbComes_33 (lv_at hl 0 rfl) ?_
  refine lv_iconst (v := (3 : Int32)) hx hb dX7_limbComes_35 (by decide) ?_
  refine lv_iload hx hb dX7_limbComes_36 (lv_at hl 5 rfl) ?_
  replace hk := ob_s hk
  obtain ⟨M9, hx8, hk⟩ := hk
  refine cl_v (rn_V g_947 g_949 gs_65 g_9 g_950 hd_X7_sets (Nat.le_of_ble_eq_true rfl) (ci := 7) rfl (inM kd_176 rfl) (shp7 kd_176) hx hb hml hown hg hK hW (As := [.int x1, .int (3 : Int32), .int a4]) (c_X7_sets l G x1 (3 : Int32) a4 M7 hx8) (by decide) rfl hl.1 rfl (Nat.le_of_ble_eq_true rfl) dX7_limbComes_38) hW (fun H locs hW => ?_)
  refine lv_aload_n hx hb dX7_limbComes_41 rfl (lv_at hl 1 rfl) ?_
  refine lv_iload hx hb dX7_limbComes_42 (lv_at hl 0 rfl) ?_
  refine lv_iconst (v := (4 : Int32)) hx hb dX7_limbComes_44 (by decide) ?_
  refine lv_iload hx hb dX7_limbComes_45 (lv_at hl 6 rfl) ?_
  replace hk := ob_s hk
  obtain ⟨M11, hx10, hk⟩ := hk
  refine cl_v (rn_V g_947 g_949 gs_65 g_9 g_950 hd_X7_sets (Nat.le_of_ble_eq_true rfl) (ci := 7) rfl (inM kd_176 rfl) (shp7 kd_176) hx hb hml hown hg hK hW (As := [.int x1, .int (4 : Int32), .int a5]) (c_X7_sets l G x1 (4 : Int32) a5 M9 hx10) (by decide) rfl hl.1 rfl (Nat.le_of_ble_eq_true rfl) dX7_limbComes_47) hW (fun H locs hW => ?_)
  refine lv_aload_n hx hb dX7_limbComes_50 rfl (lv_at hl 1 rfl) ?_
  refine lv_iload hx hb dX7_limbComes_51 (lv_at hl 0 rfl) ?_
  refine lv_iconst (v := (5 : Int32)) hx hb dX7_limbComes_53 (by decide) ?_
  refine lv_iconst (v := (0 : Int32)) hx hb dX7_limbComes_54 (by decide) ?_
  replace hk := ob_s hk
  obtain ⟨M13, hx12, hk⟩ := hk
  refine cl_v (rn_V g_947 g_949 gs_65 g_9 g_950 hd_X7_sets (Nat.le_of_ble_eq_true rfl) (ci := 7) rfl (inM kd_176 rfl) (shp7 kd_176) hx hb hml hown hg hK hW (As := [.int x1, .int (5 : Int32), .int (0 : Int32)]) (c_X7_sets l G x1 (5 : Int32) (0 : Int32) M11 hx12) (by decide) rfl hl.1 rfl (Nat.le_of_ble_eq_true rfl) dX7_limbComes_55) hW (fun H locs hW => ?_)
  refine lv_aload_n hx hb dX7_limbComes_58 rfl (lv_at hl 1 rfl) ?_
  refine lv_iload hx hb dX7_limbComes_59 (lv_at hl 0 rfl) ?_
  refine lv_bipush (v := (6 : Int32)) hx hb dX7_limbComes_61 (by decide) ?_
  refine lv_iconst (v := (0 : Int32)) hx hb dX7_limbComes_63 (by decide) ?_
  replace hk := ob_s hk
  obtain ⟨M15, hx14, hk⟩ := hk
  refine cl_v (rn_V g_947 g_949 gs_65 g_9 g_950 hd_X7_sets (Nat.le_of_ble_eq_true rfl) (ci := 7) rfl (inM kd_176 rfl) (shp7 kd_176) hx hb hml hown hg hK hW (As := [.int x1, .int (6 : Int32), .int (0 : Int32)]) (c_X7_sets l G x1 (6 : Int32) (0 : Int32) M13 hx14) (by decide) rfl hl.1 rfl (Nat.le_of_ble_eq_true rfl) dX7_limbComes_64) hW (fun H locs hW => ?_)
  refine lv_aload_n hx hb dX7_limbComes_67 rfl (lv_at hl 1 rfl) ?_
  refine gt_X7_7 hx hb hg hown hK hW kd_176 dX7_limbComes_68 ?_
  refine lv_iconst (v := (0 : Int32)) hx hb dX7_limbComes_71 (by decide) ?_
  refine lv_dup2_11 hx hb dX7_limbComes_72 rfl rfl ?_
  replace hk := ob_s hk
  obtain ⟨x16, hx16, hk⟩ := hk
  obtain ⟨hx16, ex16⟩ := rd_s hx16
  refine w_ald hx hb hK hW (inM kd_177 rfl) (shp10 kd_177) hx16 ex16 dX7_limbComes_73 ?_
  refine lv_iconst (v := (1 : Int32)) hx hb dX7_limbComes_74 (by decide) ?_
  refine lv_iadd hx hb dX7_limbComes_75 ?_
  replace hk := ob_s hk
  obtain ⟨M17, hM17, hk⟩ := hk
  obtain ⟨hM17, eM17⟩ := wr_s hM17
  refine w_ast hx hb hK hW (inM kd_177 rfl) (fun _ => (shp10 kd_177)) hM17 eM17 dX7_limbComes_76 (fun H locs hW => ?_)
  refine lv_aload_n hx hb dX7_limbComes_77 rfl (lv_at hl 1 rfl) ?_
  refine gt_X7_7 hx hb hg hown hK hW kd_176 dX7_limbComes_78 ?_
  refine lv_sipush (v := (147 : Int32)) hx hb dX7_limbComes_81 (by decide) ?_
  refine lv_iconst (v := (0 : Int32)) hx hb dX7_limbComes_84 (by decide) ?_
  replace hk := ob_s hk
  obtain ⟨M18, hM18, hk⟩ := hk
  obtain ⟨hM18, eM18⟩ := wr_s hM18
  refine w_ast hx hb hK hW (inM kd_177 rfl) (fun _ => (shp10 kd_177)) hM18 eM18 dX7_limbComes_85 (fun H locs hW => ?_)
  obtain rfl := Option.some.inj hk
  exact hret _ _ _ _ hW dX7_limbComes_86
def f_X7_limb (a1 : Int32) (a2 : Int32) (a3 : Int32) (a4 : Int32) (a5 : Int32) (M : Mem) : Option (Int32 × Mem) :=
  if (f_X7_isLimbBy a1 a2 a3 a4 a5) = (0 : Int32) then (
    ob2 (f_X7_bad M) (fun x9 M10 =>
    some (x9, M10)))
  else (
    ob (rd M 177 (0 : Int32)) (fun x2 =>
    if x2 = (7 : Int32) then (
      ob2 (f_X7_full M) (fun x6 M7 =>
      some (x6, M7)))
    else (
      ob (f_X7_limbComes a1 a2 a3 a4 a5 M) (fun M4 =>
      ob (rd M4 177 (0 : Int32)) (fun x5 =>
      some ((x5 - (1 : Int32)), M4))))))
set_option maxHeartbeats 4000000 in
set_option maxRecDepth 100000 in
theorem c_X7_limb (l : Launch) (G : GT) (a1 : Int32) (a2 : Int32) (a3 : Int32) (a4 : Int32) (a5 : Int32) (M : Mem) {r : Int32} {M' : Mem} (hk : f_X7_limb a1 a2 a3 a4 a5 M = some (r, M')) : CMi l G false yX7_limb cX7_limb 6 (some .int) 2 [.ref (ad G 176), .int a1, .int a2, .int a3, .int a4, .int a5] M r M' := by
  unfold f_X7_limb at hk
  refine CMi.of (by decide) (Nat.le_of_ble_eq_true rfl) ?_
  intro p e s m args below meth c Q hx hb hml hown hg hK hW hret ls hl
  have hl : lv_has ls 6 [(0, .ref (ad G 176)), (1, .int a1), (2, .int a2), (3, .int a3), (4, .int a4), (5, .int a5)] := hl
  refine lv_iload_n hx hb dX7_limb_0 rfl (lv_at hl 1 rfl) ?_
  refine lv_iload_n hx hb dX7_limb_1 rfl (lv_at hl 2 rfl) ?_
  refine lv_iload_n hx hb dX7_limb_2 rfl (lv_at hl 3 rfl) ?_
  refine lv_iload hx hb dX7_limb_3 (lv_at hl 4 rfl) ?_
  refine lv_iload hx hb dX7_limb_5 (lv_at hl 5 rfl) ?_
  refine cl_i (rn_S g_932 g_933 g_9 g_934 hd_X7_isLimbBy (Nat.le_of_ble_eq_true rfl) hx hb hml hown hg hK hW (As := [.int a1, .int a2, .int a3, .int a4, .int a5]) (c_X7_isLimbBy l G a1 a2 a3 a4 a5 M) (by decide) rfl hl.1 rfl (Nat.le_of_ble_eq_true rfl) dX7_limb_7) hW (fun H locs hW => ?_)
  refine lv_if_ne (tgt := 18) hx hb dX7_limb_10 (by decide) (fun c11 => ?_) (fun c11 => ?_)
  · replace hk := ite_f hk c11
    refine lv_aload_n hx hb dX7_limb_18 rfl (lv_at hl 0 rfl) ?_
    refine gt_X7_7 hx hb hg hown hK hW kd_176 dX7_limb_19 ?_
    refine lv_iconst (v := (0 : Int32)) hx hb dX7_limb_22 (by decide) ?_
    replace hk := ob_s hk
    obtain ⟨x2, hx2, hk⟩ := hk
    obtain ⟨hx2, ex2⟩ := rd_s hx2
    refine w_ald hx hb hK hW (inM kd_177 rfl) (shp10 kd_177) hx2 ex2 dX7_limb_23 ?_
    refine lv_bipush (v := (7 : Int32)) hx hb dX7_limb_24 (by decide) ?_
    refine lv_icmp_ne (tgt := 34) hx hb dX7_limb_26 (by decide) (fun c8 => ?_) (fun c8 => ?_)
    · replace hk := ite_f hk c8
      refine lv_aload_n hx hb dX7_limb_34 rfl (lv_at hl 0 rfl) ?_
      refine lv_iload_n hx hb dX7_limb_35 rfl (lv_at hl 1 rfl) ?_
      refine lv_iload_n hx hb dX7_limb_36 rfl (lv_at hl 2 rfl) ?_
      refine lv_iload_n hx hb dX7_limb_37 rfl (lv_at hl 3 rfl) ?_
      refine lv_iload hx hb dX7_limb_38 (lv_at hl 4 rfl) ?_
      refine lv_iload hx hb dX7_limb_40 (lv_at hl 5 rfl) ?_
      replace hk := ob_s hk
      obtain ⟨M4, hx3, hk⟩ := hk
      refine cl_v (rn_V g_943 g_945 gs_64 g_9 g_946 hd_X7_limbComes (Nat.le_of_ble_eq_true rfl) (ci := 7) rfl (inM kd_176 rfl) (shp7 kd_176) hx hb hml hown hg hK hW (As := [.int a1, .int a2, .int a3, .int a4, .int a5]) (c_X7_limbComes l G a1 a2 a3 a4 a5 M hx3) (by decide) rfl hl.1 rfl (Nat.le_of_ble_eq_true rfl) dX7_limb_42) hW (fun H locs hW => ?_)
      refine lv_aload_n hx hb dX7_limb_45 rfl (lv_at hl 0 rfl) ?_
      refine gt_X7_7 hx hb hg hown hK hW kd_176 dX7_limb_46 ?_
      refine lv_iconst (v := (0 : Int32)) hx hb dX7_limb_49 (by decide) ?_
      replace hk := ob_s hk
      obtain ⟨x5, hx5, hk⟩ := hk
      obtain ⟨hx5, ex5⟩ := rd_s hx5
      refine w_ald hx hb hK hW (inM kd_177 rfl) (shp10 kd_177) hx5 ex5 dX7_limb_50 ?_
      refine lv_iconst (v := (1 : Int32)) hx hb dX7_limb_51 (by decide) ?_
      refine lv_isub hx hb dX7_limb_52 ?_
      obtain ⟨rfl, rfl⟩ := sp2 hk
      exact hret _ _ _ _ hW dX7_limb_53
    · replace hk := ite_t hk c8
      refine lv_aload_n hx hb dX7_limb_29 rfl (lv_at hl 0 rfl) ?_
      replace hk := ob2_s hk
      obtain ⟨x6, M7, hx6, hk⟩ := hk
      refine cl_i (rn_V g_939 g_941 gs_63 g_9 g_942 hd_X7_full (Nat.le_of_ble_eq_true rfl) (ci := 7) rfl (inM kd_176 rfl) (shp7 kd_176) hx hb hml hown hg hK hW (As := []) (c_X7_full l G M hx6) (by decide) rfl hl.1 rfl (Nat.le_of_ble_eq_true rfl) dX7_limb_30) hW (fun H locs hW => ?_)
      obtain ⟨rfl, rfl⟩ := sp2 hk
      exact hret _ _ _ _ hW dX7_limb_33
  · replace hk := ite_t hk c11
    refine lv_aload_n hx hb dX7_limb_13 rfl (lv_at hl 0 rfl) ?_
    replace hk := ob2_s hk
    obtain ⟨x9, M10, hx9, hk⟩ := hk
    refine cl_i (rn_V g_924 g_926 gs_62 g_9 g_927 hd_X7_bad (Nat.le_of_ble_eq_true rfl) (ci := 7) rfl (inM kd_176 rfl) (shp7 kd_176) hx hb hml hown hg hK hW (As := []) (c_X7_bad l G M hx9) (by decide) rfl hl.1 rfl (Nat.le_of_ble_eq_true rfl) dX7_limb_14) hW (fun H locs hW => ?_)
    obtain ⟨rfl, rfl⟩ := sp2 hk
    exact hret _ _ _ _ hW dX7_limb_17
def f_X7_type (a1 : Int32) (M : Mem) : Option (Int32 × Mem) :=
  if (f_X7_in a1.toInt64 (0 : Int64) (127 : Int64)) = (0 : Int32) then (
    ob2 (f_X7_bad M) (fun x7 M8 =>
    some (x7, M8)))
  else (
    if (M.1 176 7) = (150 : Int32) then (
      ob2 (f_X7_full M) (fun x4 M5 =>
      some (x4, M5)))
    else (
      ob (wr M 178 (M.1 176 7) a1) (fun M2 =>
      lq (s1 M2 176 7 ((M2.1 176 7) + (1 : Int32))) (fun M3 =>
      some ((M3.1 176 7), M3)))))
set_option maxHeartbeats 4000000 in
set_option maxRecDepth 100000 in
theorem c_X7_type (l : Launch) (G : GT) (a1 : Int32) (M : Mem) {r : Int32} {M' : Mem} (hk : f_X7_type a1 M = some (r, M')) : CMi l G false yX7_type cX7_type 2 (some .int) 1 [.ref (ad G 176), .int a1] M r M' := by
  unfold f_X7_type at hk
  refine CMi.of (by decide) (Nat.le_of_ble_eq_true rfl) ?_
  intro p e s m args below meth c Q hx hb hml hown hg hK hW hret ls hl
  have hl : lv_has ls 2 [(0, .ref (ad G 176)), (1, .int a1)] := hl
  refine lv_iload_n hx hb dX7_type_0 rfl (lv_at hl 1 rfl) ?_
  refine lv_i2l hx hb dX7_type_1 rfl ?_
  refine lv_lconst (v := (0 : Int64)) hx hb dX7_type_2 (by decide) ?_
  refine lv_ldc2 hx hb hown (hg _ g_955) dX7_type_3 ?_
  refine cl_i (rn_S g_921 g_922 g_9 g_923 hd_X7_in (Nat.le_of_ble_eq_true rfl) hx hb hml hown hg hK hW (As := [.long a1.toInt64, .long (0 : Int64), .long (127 : Int64)]) (c_X7_in l G a1.toInt64 (0 : Int64) (127 : Int64) M) (by decide) rfl hl.1 rfl (Nat.le_of_ble_eq_true rfl) dX7_type_6) hW (fun H locs hW => ?_)
  refine lv_if_ne (tgt := 17) hx hb dX7_type_9 (by decide) (fun c9 => ?_) (fun c9 => ?_)
  · replace hk := ite_f hk c9
    refine lv_aload_n hx hb dX7_type_17 rfl (lv_at hl 0 rfl) ?_
    refine gt_X7_109 hx hb hg hown hK hW kd_176 dX7_type_18 ?_
    refine lv_sipush (v := (150 : Int32)) hx hb dX7_type_21 (by decide) ?_
    refine lv_icmp_ne (tgt := 32) hx hb dX7_type_24 (by decide) (fun c6 => ?_) (fun c6 => ?_)
    · replace hk := ite_f hk c6
      refine lv_aload_n hx hb dX7_type_32 rfl (lv_at hl 0 rfl) ?_
      refine gt_X7_17 hx hb hg hown hK hW kd_176 dX7_type_33 ?_
      refine lv_aload_n hx hb dX7_type_36 rfl (lv_at hl 0 rfl) ?_
      refine gt_X7_109 hx hb hg hown hK hW kd_176 dX7_type_37 ?_
      refine lv_iload_n hx hb dX7_type_40 rfl (lv_at hl 1 rfl) ?_
      replace hk := ob_s hk
      obtain ⟨M2, hM2, hk⟩ := hk
      obtain ⟨hM2, eM2⟩ := wr_s hM2
      refine w_ast hx hb hK hW (inM kd_178 rfl) (fun _ => (shp10 kd_178)) hM2 eM2 dX7_type_41 (fun H locs hW => ?_)
      refine lv_aload_n hx hb dX7_type_42 rfl (lv_at hl 0 rfl) ?_
      refine lv_dup hx hb dX7_type_43 rfl ?_
      refine gt_X7_109 hx hb hg hown hK hW kd_176 dX7_type_44 ?_
      refine lv_iconst (v := (1 : Int32)) hx hb dX7_type_47 (by decide) ?_
      refine lv_iadd hx hb dX7_type_48 ?_
      replace hk := lq_s hk
      obtain ⟨M3, eM3, hk⟩ := hk
      refine pt_X7_109 hx hb hg hown hK hW kd_176 eM3 dX7_type_49 (fun H locs hW => ?_)
      refine lv_aload_n hx hb dX7_type_52 rfl (lv_at hl 0 rfl) ?_
      refine gt_X7_109 hx hb hg hown hK hW kd_176 dX7_type_53 ?_
      obtain ⟨rfl, rfl⟩ := sp2 hk
      exact hret _ _ _ _ hW dX7_type_56
    · replace hk := ite_t hk c6
      refine lv_aload_n hx hb dX7_type_27 rfl (lv_at hl 0 rfl) ?_
      replace hk := ob2_s hk
      obtain ⟨x4, M5, hx4, hk⟩ := hk
      refine cl_i (rn_V g_939 g_941 gs_63 g_9 g_942 hd_X7_full (Nat.le_of_ble_eq_true rfl) (ci := 7) rfl (inM kd_176 rfl) (shp7 kd_176) hx hb hml hown hg hK hW (As := []) (c_X7_full l G M hx4) (by decide) rfl hl.1 rfl (Nat.le_of_ble_eq_true rfl) dX7_type_28) hW (fun H locs hW => ?_)
      obtain ⟨rfl, rfl⟩ := sp2 hk
      exact hret _ _ _ _ hW dX7_type_31
  · replace hk := ite_t hk c9
    refine lv_aload_n hx hb dX7_type_12 rfl (lv_at hl 0 rfl) ?_
    replace hk := ob2_s hk
    obtain ⟨x7, M8, hx7, hk⟩ := hk
    refine cl_i (rn_V g_924 g_926 gs_62 g_9 g_927 hd_X7_bad (Nat.le_of_ble_eq_true rfl) (ci := 7) rfl (inM kd_176 rfl) (shp7 kd_176) hx hb hml hown hg hK hW (As := []) (c_X7_bad l G M hx7) (by decide) rfl hl.1 rfl (Nat.le_of_ble_eq_true rfl) dX7_type_13) hW (fun H locs hW => ?_)
    obtain ⟨rfl, rfl⟩ := sp2 hk
    exact hret _ _ _ _ hW dX7_type_16
def f_X7_clear (M : Mem) : Option (Int32 × Mem) :=
  lq (M.1 176 7) (fun x1 =>
  lq (s1 M 176 7 (0 : Int32)) (fun M2 =>
  some (x1, M2)))
set_option maxHeartbeats 4000000 in
set_option maxRecDepth 100000 in
theorem c_X7_clear (l : Launch) (G : GT)  (M : Mem) {r : Int32} {M' : Mem} (hk : f_X7_clear  M = some (r, M')) : CMi l G false yX7_clear cX7_clear 2 (some .int) 0 [.ref (ad G 176)] M r M' := by
  unfold f_X7_clear at hk
  refine CMi.of (by decide) (Nat.le_of_ble_eq_true rfl) ?_
  intro p e s m args below meth c Q hx hb hml hown hg hK hW hret ls hl
  have hl : lv_has ls 2 [(0, .ref (ad G 176))] := hl
  refine lv_aload_n hx hb dX7_clear_0 rfl (lv_at hl 0 rfl) ?_
  refine gt_X7_109 hx hb hg hown hK hW kd_176 dX7_clear_1 ?_
  replace hk := lq_s hk
  obtain ⟨x1, ex1, hk⟩ := hk
  refine nm_i ex1 ?_
  refine lv_istore_n (lv' := [(1, .int x1), (0, .ref (ad G 176))]) hx hb dX7_clear_4 rfl hl (by decide) rfl (fun ls hl => ?_)
  refine lv_aload_n hx hb dX7_clear_5 rfl (lv_at hl 1 rfl) ?_
  refine lv_iconst (v := (0 : Int32)) hx hb dX7_clear_6 (by decide) ?_
  replace hk := lq_s hk
  obtain ⟨M2, eM2, hk⟩ := hk
  refine pt_X7_109 hx hb hg hown hK hW kd_176 eM2 dX7_clear_7 (fun H locs hW => ?_)
  refine lv_iload_n hx hb dX7_clear_10 rfl (lv_at hl 0 rfl) ?_
  obtain ⟨rfl, rfl⟩ := sp2 hk
  exact hret _ _ _ _ hW dX7_clear_11
def f_X7_byteAt (a1 : Int32) (M : Mem) : Option (Int32) :=
  if (M.1 176 7) ≤ a1 then (
    some ((-1) : Int32))
  else (
    ob (rd M 178 a1) (fun x1 =>
    some x1))
set_option maxHeartbeats 4000000 in
set_option maxRecDepth 100000 in
theorem c_X7_byteAt (l : Launch) (G : GT) (a1 : Int32) (M : Mem) {r : Int32} (hk : f_X7_byteAt a1 M = some r) : CMi l G false yX7_byteAt cX7_byteAt 2 (some .int) 0 [.ref (ad G 176), .int a1] M r M := by
  unfold f_X7_byteAt at hk
  refine CMi.of (by decide) (Nat.le_of_ble_eq_true rfl) ?_
  intro p e s m args below meth c Q hx hb hml hown hg hK hW hret ls hl
  have hl : lv_has ls 2 [(0, .ref (ad G 176)), (1, .int a1)] := hl
  refine lv_iload_n hx hb dX7_byteAt_0 rfl (lv_at hl 1 rfl) ?_
  refine lv_aload_n hx hb dX7_byteAt_1 rfl (lv_at hl 0 rfl) ?_
  refine gt_X7_109 hx hb hg hown hK hW kd_176 dX7_byteAt_2 ?_
  refine lv_icmp_ge (tgt := 17) hx hb dX7_byteAt_5 (by decide) (fun c2 => ?_) (fun c2 => ?_)
  · replace hk := ite_t hk c2
    refine lv_iconst (v := ((-1) : Int32)) hx hb dX7_byteAt_17 (by decide) ?_
    obtain rfl := Option.some.inj hk
    exact hret _ _ _ _ hW dX7_byteAt_18
  · replace hk := ite_f hk c2
    refine lv_aload_n hx hb dX7_byteAt_8 rfl (lv_at hl 0 rfl) ?_
    refine gt_X7_17 hx hb hg hown hK hW kd_176 dX7_byteAt_9 ?_
    refine lv_iload_n hx hb dX7_byteAt_12 rfl (lv_at hl 1 rfl) ?_
    replace hk := ob_s hk
    obtain ⟨x1, hx1, hk⟩ := hk
    obtain ⟨hx1, ex1⟩ := rd_s hx1
    refine w_ald hx hb hK hW (inM kd_178 rfl) (shp10 kd_178) hx1 ex1 dX7_byteAt_13 ?_
    refine lv_goto (tgt := 18) hx hb dX7_byteAt_14 (by decide) ?_
    obtain rfl := Option.some.inj hk
    exact hret _ _ _ _ hW dX7_byteAt_18
def f_X7_word (a0 : Int64) (a2 : Int64) (a4 : Int64) (a6 : Int64) (a8 : Int64) (a10 : Int64) : Int64 :=
  ((((((a0 <<< ((35 : Int32).toInt64 &&& 63)) ||| (a2 <<< ((28 : Int32).toInt64 &&& 63))) ||| (a4 <<< ((21 : Int32).toInt64 &&& 63))) ||| (a6 <<< ((14 : Int32).toInt64 &&& 63))) ||| (a8 <<< ((7 : Int32).toInt64 &&& 63))) ||| a10)
set_option maxHeartbeats 4000000 in
set_option maxRecDepth 100000 in
theorem c_X7_word (l : Launch) (G : GT) (a0 : Int64) (a2 : Int64) (a4 : Int64) (a6 : Int64) (a8 : Int64) (a10 : Int64) (M : Mem) : CMl l G false yX7_word cX7_word 12 (some .long) 0 [.long a0, .long a2, .long a4, .long a6, .long a8, .long a10] M (f_X7_word a0 a2 a4 a6 a8 a10) M := by
  obtain ⟨r, hk⟩ : ∃ r, f_X7_word a0 a2 a4 a6 a8 a10 = r := ⟨_, rfl⟩
  rw [hk]
  unfold f_X7_word at hk
  refine CMl.of (by decide) (Nat.le_of_ble_eq_true rfl) ?_
  intro p e s m args below meth c Q hx hb hml hown hg hK hW hret ls hl
  have hl : lv_has ls 12 [(0, .long a0), (2, .long a2), (4, .long a4), (6, .long a6), (8, .long a8), (10, .long a10)] := hl
  refine lv_lload_n hx hb dX7_word_0 rfl (lv_at hl 0 rfl) ?_
  refine lv_bipush (v := (35 : Int32)) hx hb dX7_word_1 (by decide) ?_
  refine lv_lshl hx hb dX7_word_3 rfl ?_
  refine lv_lload_n hx hb dX7_word_4 rfl (lv_at hl 1 rfl) ?_
  refine lv_bipush (v := (28 : Int32)) hx hb dX7_word_5 (by decide) ?_
  refine lv_lshl hx hb dX7_word_7 rfl ?_
  refine lv_lor hx hb dX7_word_8 ?_
  refine lv_lload hx hb dX7_word_9 (lv_at hl 2 rfl) ?_
  refine lv_bipush (v := (21 : Int32)) hx hb dX7_word_11 (by decide) ?_
  refine lv_lshl hx hb dX7_word_13 rfl ?_
  refine lv_lor hx hb dX7_word_14 ?_
  refine lv_lload hx hb dX7_word_15 (lv_at hl 3 rfl) ?_
  refine lv_bipush (v := (14 : Int32)) hx hb dX7_word_17 (by decide) ?_
  refine lv_lshl hx hb dX7_word_19 rfl ?_
  refine lv_lor hx hb dX7_word_20 ?_
  refine lv_lload hx hb dX7_word_21 (lv_at hl 4 rfl) ?_
  refine lv_bipush (v := (7 : Int32)) hx hb dX7_word_23 (by decide) ?_
  refine lv_lshl hx hb dX7_word_25 rfl ?_
  refine lv_lor hx hb dX7_word_26 ?_
  refine lv_lload hx hb dX7_word_27 (lv_at hl 5 rfl) ?_
  refine lv_lor hx hb dX7_word_29 ?_
  subst hk
  exact hret _ _ _ _ hW dX7_word_30
def f_X7_wordAt_L5 (a1 : Int32) (a2 : Int32) (M : Mem) : Nat → Int64 → Int32 → Option (Int64)
  | 0, _, _ => none
  | n + 1, x1, x2 =>
    if a2 ≤ x2 then (
      some x1)
    else (
      ob (
        if (a2 - a1) ≤ (6 : Int32) then (
          ob (rd M 178 x2) (fun x4 =>
          some ((x1 <<< ((7 : Int32).toInt64 &&& 63)) ||| x4.toInt64)))
        else (
          some (0 : Int64)))
       (fun x6 =>
      lq (x2 + (1 : Int32)) (fun x7 =>
      f_X7_wordAt_L5 a1 a2 M n x6 x7)))
def f_X7_wordAt (a1 : Int32) (a2 : Int32) (M : Mem) : Option (Int32) :=
  ob (f_X7_wordAt_L5 a1 a2 M FU (0 : Int64) a1) (fun x3 =>
  if (lg_cmp x3 (f_X7_word (112 : Int64) (117 : Int64) (112 : Int64) (112 : Int64) (101 : Int64) (116 : Int64))) = (0 : Int32) then (
    some (1 : Int32))
  else (
    if (lg_cmp x3 (f_X7_word (0 : Int64) (0 : Int64) (108 : Int64) (105 : Int64) (109 : Int64) (98 : Int64))) = (0 : Int32) then (
      some (2 : Int32))
    else (
      if (lg_cmp x3 (f_X7_word (0 : Int64) (0 : Int64) (109 : Int64) (111 : Int64) (118 : Int64) (101 : Int64))) = (0 : Int32) then (
        some (3 : Int32))
      else (
        if (lg_cmp x3 (f_X7_word (0 : Int64) (0 : Int64) (0 : Int64) (116 : Int64) (105 : Int64) (101 : Int64))) = (0 : Int32) then (
          some (4 : Int32))
        else (
          if (lg_cmp x3 (f_X7_word (0 : Int64) (0 : Int64) (104 : Int64) (97 : Int64) (110 : Int64) (103 : Int64))) = (0 : Int32) then (
            some (5 : Int32))
          else (
            some (0 : Int32)))))))
set_option maxHeartbeats 4000000 in
set_option maxRecDepth 100000 in
theorem c_X7_wordAt (l : Launch) (G : GT) (a1 : Int32) (a2 : Int32) (M : Mem) {r : Int32} (hk : f_X7_wordAt a1 a2 M = some r) : CMi l G false yX7_wordAt cX7_wordAt 6 (some .int) 1 [.ref (ad G 176), .int a1, .int a2] M r M := by
  unfold f_X7_wordAt at hk
  refine CMi.of (by decide) (Nat.le_of_ble_eq_true rfl) ?_
  intro p e s m args below meth c Q hx hb hml hown hg hK hW hret ls hl
  have hl : lv_has ls 6 [(0, .ref (ad G 176)), (1, .int a1), (2, .int a2)] := hl
  refine lv_lconst (v := (0 : Int64)) hx hb dX7_wordAt_0 (by decide) ?_
  refine lv_lstore_n (lv' := [(3, .long (0 : Int64)), (0, .ref (ad G 176)), (1, .int a1), (2, .int a2)]) hx hb dX7_wordAt_1 rfl hl (by decide) rfl (fun ls hl => ?_)
  refine lv_iload_n hx hb dX7_wordAt_2 rfl (lv_at hl 2 rfl) ?_
  refine lv_istore (lv' := [(5, .int a1), (3, .long (0 : Int64)), (0, .ref (ad G 176)), (1, .int a1), (2, .int a2)]) hx hb dX7_wordAt_3 hl (by decide) rfl (fun ls hl => ?_)
  replace hk := ob_s hk
  obtain ⟨x3, hz21, hk⟩ := hk
  have KX5 : ∀ (H : Heap) (locs : List Loc) (ls : Array Slot), Ws G false M s H locs → lv_has ls 6 [(3, .long x3)] → Wx p l e 1 s m args below meth c Q H locs 43 ls [] := by
    intro H locs ls hW hl
    refine lv_lload_n hx hb dX7_wordAt_43 rfl (lv_at hl 0 rfl) ?_
    refine lv_ldc2 hx hb hown (hg _ g_978) dX7_wordAt_44 ?_
    refine lv_ldc2 hx hb hown (hg _ g_979) dX7_wordAt_47 ?_
    refine lv_ldc2 hx hb hown (hg _ g_978) dX7_wordAt_50 ?_
    refine lv_ldc2 hx hb hown (hg _ g_978) dX7_wordAt_53 ?_
    refine lv_ldc2 hx hb hown (hg _ g_980) dX7_wordAt_56 ?_
    refine lv_ldc2 hx hb hown (hg _ g_981) dX7_wordAt_59 ?_
    refine cl_l (rn_S g_982 g_983 g_9 g_984 hd_X7_word (Nat.le_of_ble_eq_true rfl) hx hb hml hown hg hK hW (As := [.long (112 : Int64), .long (117 : Int64), .long (112 : Int64), .long (112 : Int64), .long (101 : Int64), .long (116 : Int64)]) (c_X7_word l G (112 : Int64) (117 : Int64) (112 : Int64) (112 : Int64) (101 : Int64) (116 : Int64) M) (by decide) rfl hl.1 rfl (Nat.le_of_ble_eq_true rfl) dX7_wordAt_62) hW (fun H locs hW => ?_)
    refine W.lcmp hx hb dX7_wordAt_65 ?_
    refine lv_if_ne (tgt := 73) hx hb dX7_wordAt_66 (by decide) (fun c20 => ?_) (fun c20 => ?_)
    · replace hk := ite_f hk c20
      refine lv_lload_n hx hb dX7_wordAt_73 rfl (lv_at hl 0 rfl) ?_
      refine lv_lconst (v := (0 : Int64)) hx hb dX7_wordAt_74 (by decide) ?_
      refine lv_lconst (v := (0 : Int64)) hx hb dX7_wordAt_75 (by decide) ?_
      refine lv_ldc2 hx hb hown (hg _ g_985) dX7_wordAt_76 ?_
      refine lv_ldc2 hx hb hown (hg _ g_986) dX7_wordAt_79 ?_
      refine lv_ldc2 hx hb hown (hg _ g_987) dX7_wordAt_82 ?_
      refine lv_ldc2 hx hb hown (hg _ g_988) dX7_wordAt_85 ?_
      refine cl_l (rn_S g_982 g_983 g_9 g_984 hd_X7_word (Nat.le_of_ble_eq_true rfl) hx hb hml hown hg hK hW (As := [.long (0 : Int64), .long (0 : Int64), .long (108 : Int64), .long (105 : Int64), .long (109 : Int64), .long (98 : Int64)]) (c_X7_word l G (0 : Int64) (0 : Int64) (108 : Int64) (105 : Int64) (109 : Int64) (98 : Int64) M) (by decide) rfl hl.1 rfl (Nat.le_of_ble_eq_true rfl) dX7_wordAt_88) hW (fun H locs hW => ?_)
      refine W.lcmp hx hb dX7_wordAt_91 ?_
      refine lv_if_ne (tgt := 99) hx hb dX7_wordAt_92 (by decide) (fun c19 => ?_) (fun c19 => ?_)
      · replace hk := ite_f hk c19
        refine lv_lload_n hx hb dX7_wordAt_99 rfl (lv_at hl 0 rfl) ?_
        refine lv_lconst (v := (0 : Int64)) hx hb dX7_wordAt_100 (by decide) ?_
        refine lv_lconst (v := (0 : Int64)) hx hb dX7_wordAt_101 (by decide) ?_
        refine lv_ldc2 hx hb hown (hg _ g_987) dX7_wordAt_102 ?_
        refine lv_ldc2 hx hb hown (hg _ g_989) dX7_wordAt_105 ?_
        refine lv_ldc2 hx hb hown (hg _ g_990) dX7_wordAt_108 ?_
        refine lv_ldc2 hx hb hown (hg _ g_980) dX7_wordAt_111 ?_
        refine cl_l (rn_S g_982 g_983 g_9 g_984 hd_X7_word (Nat.le_of_ble_eq_true rfl) hx hb hml hown hg hK hW (As := [.long (0 : Int64), .long (0 : Int64), .long (109 : Int64), .long (111 : Int64), .long (118 : Int64), .long (101 : Int64)]) (c_X7_word l G (0 : Int64) (0 : Int64) (109 : Int64) (111 : Int64) (118 : Int64) (101 : Int64) M) (by decide) rfl hl.1 rfl (Nat.le_of_ble_eq_true rfl) dX7_wordAt_114) hW (fun H locs hW => ?_)
        refine W.lcmp hx hb dX7_wordAt_117 ?_
        refine lv_if_ne (tgt := 125) hx hb dX7_wordAt_118 (by decide) (fun c18 => ?_) (fun c18 => ?_)
        · replace hk := ite_f hk c18
          refine lv_lload_n hx hb dX7_wordAt_125 rfl (lv_at hl 0 rfl) ?_
          refine lv_lconst (v := (0 : Int64)) hx hb dX7_wordAt_126 (by decide) ?_
          refine lv_lconst (v := (0 : Int64)) hx hb dX7_wordAt_127 (by decide) ?_
          refine lv_lconst (v := (0 : Int64)) hx hb dX7_wordAt_128 (by decide) ?_
          refine lv_ldc2 hx hb hown (hg _ g_981) dX7_wordAt_129 ?_
          refine lv_ldc2 hx hb hown (hg _ g_986) dX7_wordAt_132 ?_
          refine lv_ldc2 hx hb hown (hg _ g_980) dX7_wordAt_135 ?_
          refine cl_l (rn_S g_982 g_983 g_9 g_984 hd_X7_word (Nat.le_of_ble_eq_true rfl) hx hb hml hown hg hK hW (As := [.long (0 : Int64), .long (0 : Int64), .long (0 : Int64), .long (116 : Int64), .long (105 : Int64), .long (101 : Int64)]) (c_X7_word l G (0 : Int64) (0 : Int64) (0 : Int64) (116 : Int64) (105 : Int64) (101 : Int64) M) (by decide) rfl hl.1 rfl (Nat.le_of_ble_eq_true rfl) dX7_wordAt_138) hW (fun H locs hW => ?_)
          refine W.lcmp hx hb dX7_wordAt_141 ?_
          refine lv_if_ne (tgt := 149) hx hb dX7_wordAt_142 (by decide) (fun c17 => ?_) (fun c17 => ?_)
          · replace hk := ite_f hk c17
            refine lv_lload_n hx hb dX7_wordAt_149 rfl (lv_at hl 0 rfl) ?_
            refine lv_lconst (v := (0 : Int64)) hx hb dX7_wordAt_150 (by decide) ?_
            refine lv_lconst (v := (0 : Int64)) hx hb dX7_wordAt_151 (by decide) ?_
            refine lv_ldc2 hx hb hown (hg _ g_991) dX7_wordAt_152 ?_
            refine lv_ldc2 hx hb hown (hg _ g_972) dX7_wordAt_155 ?_
            refine lv_ldc2 hx hb hown (hg _ g_992) dX7_wordAt_158 ?_
            refine lv_ldc2 hx hb hown (hg _ g_993) dX7_wordAt_161 ?_
            refine cl_l (rn_S g_982 g_983 g_9 g_984 hd_X7_word (Nat.le_of_ble_eq_true rfl) hx hb hml hown hg hK hW (As := [.long (0 : Int64), .long (0 : Int64), .long (104 : Int64), .long (97 : Int64), .long (110 : Int64), .long (103 : Int64)]) (c_X7_word l G (0 : Int64) (0 : Int64) (104 : Int64) (97 : Int64) (110 : Int64) (103 : Int64) M) (by decide) rfl hl.1 rfl (Nat.le_of_ble_eq_true rfl) dX7_wordAt_164) hW (fun H locs hW => ?_)
            refine W.lcmp hx hb dX7_wordAt_167 ?_
            refine lv_if_ne (tgt := 175) hx hb dX7_wordAt_168 (by decide) (fun c16 => ?_) (fun c16 => ?_)
            · replace hk := ite_f hk c16
              refine lv_iconst (v := (0 : Int32)) hx hb dX7_wordAt_175 (by decide) ?_
              obtain rfl := Option.some.inj hk
              exact hret _ _ _ _ hW dX7_wordAt_176
            · replace hk := ite_t hk c16
              refine lv_iconst (v := (5 : Int32)) hx hb dX7_wordAt_171 (by decide) ?_
              refine lv_goto (tgt := 176) hx hb dX7_wordAt_172 (by decide) ?_
              obtain rfl := Option.some.inj hk
              exact hret _ _ _ _ hW dX7_wordAt_176
          · replace hk := ite_t hk c17
            refine lv_iconst (v := (4 : Int32)) hx hb dX7_wordAt_145 (by decide) ?_
            refine lv_goto (tgt := 176) hx hb dX7_wordAt_146 (by decide) ?_
            obtain rfl := Option.some.inj hk
            exact hret _ _ _ _ hW dX7_wordAt_176
        · replace hk := ite_t hk c18
          refine lv_iconst (v := (3 : Int32)) hx hb dX7_wordAt_121 (by decide) ?_
          refine lv_goto (tgt := 176) hx hb dX7_wordAt_122 (by decide) ?_
          obtain rfl := Option.some.inj hk
          exact hret _ _ _ _ hW dX7_wordAt_176
      · replace hk := ite_t hk c19
        refine lv_iconst (v := (2 : Int32)) hx hb dX7_wordAt_95 (by decide) ?_
        refine lv_goto (tgt := 176) hx hb dX7_wordAt_96 (by decide) ?_
        obtain rfl := Option.some.inj hk
        exact hret _ _ _ _ hW dX7_wordAt_176
    · replace hk := ite_t hk c20
      refine lv_iconst (v := (1 : Int32)) hx hb dX7_wordAt_69 (by decide) ?_
      refine lv_goto (tgt := 176) hx hb dX7_wordAt_70 (by decide) ?_
      obtain rfl := Option.some.inj hk
      exact hret _ _ _ _ hW dX7_wordAt_176
  clear hk
  have LH5 : ∀ (n : Nat) (x1 : Int64) (x2 : Int32) (H : Heap) (locs : List Loc) (ls : Array Slot), f_X7_wordAt_L5 a1 a2 M n x1 x2 = some x3 → Ws G false M s H locs → lv_has ls 6 [(0, .ref (ad G 176)), (1, .int a1), (2, .int a2), (3, .long x1), (5, .int x2)] → Wx p l e 1 s m args below meth c Q H locs 5 ls [] := by
    clear hz21
    intro n
    induction n with
    | zero => intro _ _ _ _ _ hk; cases hk
    | succ n ih5 =>
      intro x1 x2 H locs ls hk hW hl
      rw [f_X7_wordAt_L5.eq_2] at hk
      refine lv_iload hx hb dX7_wordAt_5 (lv_at hl 4 rfl) ?_
      refine lv_iload_n hx hb dX7_wordAt_7 rfl (lv_at hl 2 rfl) ?_
      refine lv_icmp_ge (tgt := 43) hx hb dX7_wordAt_8 (by decide) (fun c10 => ?_) (fun c10 => ?_)
      · replace hk := ite_t hk c10
        obtain rfl := Option.some.inj hk
        exact KX5 _ _ _ hW (lv_sub hl [3] rfl)
      · replace hk := ite_f hk c10
        refine lv_iload_n hx hb dX7_wordAt_11 rfl (lv_at hl 2 rfl) ?_
        refine lv_iload_n hx hb dX7_wordAt_12 rfl (lv_at hl 1 rfl) ?_
        refine lv_isub hx hb dX7_wordAt_13 ?_
        refine lv_bipush (v := (6 : Int32)) hx hb dX7_wordAt_14 (by decide) ?_
        replace hk := ob_s hk
        obtain ⟨x6, hr9, hk⟩ := hk
        have KJ8 : ∀ (H : Heap) (locs : List Loc) (ls : Array Slot), Ws G false M s H locs → lv_has ls 6 [(0, .ref (ad G 176)), (1, .int a1), (2, .int a2), (5, .int x2)] → Wx p l e 1 s m args below meth c Q H locs 36 ls [.long x6] := by
          intro H locs ls hW hl
          refine lv_lstore_n (lv' := [(3, .long x6), (0, .ref (ad G 176)), (1, .int a1), (2, .int a2), (5, .int x2)]) hx hb dX7_wordAt_36 rfl hl (by decide) rfl (fun ls hl => ?_)
          replace hk := lq_s hk
          obtain ⟨x7, ex7, hk⟩ := hk
          refine lv_iinc (v := x7) (lv' := [(5, .int x7), (3, .long x6), (0, .ref (ad G 176)), (1, .int a1), (2, .int a2)]) hx hb dX7_wordAt_37 hl (k := 4) rfl (by rw [ex7]; rfl) (by decide) rfl (fun ls hl => ?_)
          refine lv_goto (tgt := 5) hx hb dX7_wordAt_40 (by decide) ?_
          exact ih5 _ _ _ _ _ hk hW (lv_sub hl [2, 3, 4, 1, 0] rfl)
        clear hk
        have hk := hr9
        clear hr9
        refine lv_icmp_le (tgt := 23) hx hb dX7_wordAt_16 (by decide) (fun c5 => ?_) (fun c5 => ?_)
        · replace hk := ite_t hk c5
          refine lv_lload_n hx hb dX7_wordAt_23 rfl (lv_at hl 3 rfl) ?_
          refine lv_bipush (v := (7 : Int32)) hx hb dX7_wordAt_24 (by decide) ?_
          refine lv_lshl hx hb dX7_wordAt_26 rfl ?_
          refine lv_aload_n hx hb dX7_wordAt_27 rfl (lv_at hl 0 rfl) ?_
          refine gt_X7_17 hx hb hg hown hK hW kd_176 dX7_wordAt_28 ?_
          refine lv_iload hx hb dX7_wordAt_31 (lv_at hl 4 rfl) ?_
          replace hk := ob_s hk
          obtain ⟨x4, hx4, hk⟩ := hk
          obtain ⟨hx4, ex4⟩ := rd_s hx4
          refine w_ald hx hb hK hW (inM kd_178 rfl) (shp10 kd_178) hx4 ex4 dX7_wordAt_33 ?_
          refine lv_i2l hx hb dX7_wordAt_34 rfl ?_
          refine lv_lor hx hb dX7_wordAt_35 ?_
          obtain rfl := Option.some.inj hk
          exact KJ8 _ _ _ hW (lv_sub hl [0, 1, 2, 4] rfl)
        · replace hk := ite_f hk c5
          refine lv_lconst (v := (0 : Int64)) hx hb dX7_wordAt_19 (by decide) ?_
          refine lv_goto (tgt := 36) hx hb dX7_wordAt_20 (by decide) ?_
          obtain rfl := Option.some.inj hk
          exact KJ8 _ _ _ hW (lv_sub hl [0, 1, 2, 4] rfl)
  exact LH5 FU _ _ _ _ _ hz21 hW (lv_sub hl [2, 3, 4, 1, 0] rfl)
def f_X7_looksOn_L0 : Nat → Mem → Option (Mem)
  | 0, _ => none
  | n + 1, M1 =>
    ob (f_X7_byteAt (M1.1 176 8) M1) (fun x3 =>
    if x3 = (32 : Int32) then (
      lq (s1 M1 176 8 ((M1.1 176 8) + (1 : Int32))) (fun M4 =>
      f_X7_looksOn_L0 n M4))
    else (
      some M1))
def f_X7_looksOn_L134 : Nat → Mem → Option (Mem)
  | 0, _ => none
  | n + 1, M22 =>
    ob (f_X7_byteAt (M22.1 176 8) M22) (fun x24 =>
    if (f_X7_in x24.toInt64 (48 : Int64) (57 : Int64)) = (0 : Int32) then (
      some M22)
    else (
      ob (
        if (2 : Int32) ≤ ((M22.1 176 8) - (M22.1 176 9)) then (
          some (M22.1 176 11))
        else (
          ob (rd M22 178 (M22.1 176 8)) (fun x26 =>
          some ((((10 : Int32) * (M22.1 176 11)) + x26) - (48 : Int32)))))
       (fun x28 =>
      lq (s1 M22 176 11 x28) (fun M29 =>
      lq (s1 M29 176 8 ((M29.1 176 8) + (1 : Int32))) (fun M30 =>
      f_X7_looksOn_L134 n M30)))))
def f_X7_looksOn_L57 : Nat → Mem → Option (Mem)
  | 0, _ => none
  | n + 1, M42 =>
    ob (f_X7_byteAt (M42.1 176 8) M42) (fun x44 =>
    if (f_X7_in x44.toInt64 (97 : Int64) (122 : Int64)) = (0 : Int32) then (
      some M42)
    else (
      lq (s1 M42 176 8 ((M42.1 176 8) + (1 : Int32))) (fun M46 =>
      f_X7_looksOn_L57 n M46)))
def f_X7_looksOn (M : Mem) : Option (Mem) :=
  ob (f_X7_looksOn_L0 FU M) (fun M2 =>
  lq (s1 M2 176 9 (M2.1 176 8)) (fun M6 =>
  ob (f_X7_byteAt (M6.1 176 8) M6) (fun x7 =>
  if (f_X7_in x7.toInt64 (97 : Int64) (122 : Int64)) = (0 : Int32) then (
    if (f_X7_in x7.toInt64 (48 : Int64) (57 : Int64)) = (0 : Int32) then (
      lq (
        if x7 = (59 : Int32) then (
          (3 : Int32))
        else (
          if (0 : Int32) ≤ x7 then (
            (5 : Int32))
          else (
            (4 : Int32))))
       (fun x12 =>
      lq (s1 M6 176 10 x12) (fun M13 =>
      lq (
        if (0 : Int32) ≤ x7 then (
          (1 : Int32))
        else (
          (0 : Int32)))
       (fun x15 =>
      lq (s1 M13 176 8 ((M13.1 176 8) + x15)) (fun M16 =>
      some M16)))))
    else (
      lq (s1 M6 176 11 (0 : Int32)) (fun M21 =>
      ob (f_X7_looksOn_L134 FU M21) (fun M23 =>
      lq (
        if ((M23.1 176 8) - (M23.1 176 9)) ≤ (2 : Int32) then (
          (2 : Int32))
        else (
          (5 : Int32)))
       (fun x35 =>
      lq (s1 M23 176 10 x35) (fun M36 =>
      some M36))))))
  else (
    ob (f_X7_looksOn_L57 FU M6) (fun M43 =>
    lq (s1 M43 176 10 (1 : Int32)) (fun M48 =>
    ob (f_X7_wordAt (M48.1 176 9) (M48.1 176 8) M48) (fun x49 =>
    lq (s1 M48 176 11 x49) (fun M50 =>
    some M50))))))))
set_option maxHeartbeats 4000000 in
set_option maxRecDepth 100000 in
theorem c_X7_looksOn (l : Launch) (G : GT)  (M : Mem) {M' : Mem} (hk : f_X7_looksOn  M = some M') : CMv l G false yX7_looksOn cX7_looksOn 2 none 2 [.ref (ad G 176)] M M' := by
  unfold f_X7_looksOn at hk
  refine CMv.of (by decide) (Nat.le_of_ble_eq_true rfl) ?_
  intro p e s m args below meth c Q hx hb hml hown hg hK hW hret ls hl
  have hl : lv_has ls 2 [(0, .ref (ad G 176))] := hl
  replace hk := ob_s hk
  obtain ⟨M2, hz54, hk⟩ := hk
  have KX0 : ∀ (H : Heap) (locs : List Loc) (ls : Array Slot), Ws G false M2 s H locs → lv_has ls 2 [(0, .ref (ad G 176))] → Wx p l e 2 s m args below meth c Q H locs 26 ls [] := by
    intro H locs ls hW hl
    refine lv_aload_n hx hb dX7_looksOn_26 rfl (lv_at hl 0 rfl) ?_
    refine lv_aload_n hx hb dX7_looksOn_27 rfl (lv_at hl 0 rfl) ?_
    refine gt_X7_144 hx hb hg hown hK hW kd_176 dX7_looksOn_28 ?_
    replace hk := lq_s hk
    obtain ⟨M6, eM6, hk⟩ := hk
    refine pt_X7_151 hx hb hg hown hK hW kd_176 eM6 dX7_looksOn_31 (fun H locs hW => ?_)
    refine lv_aload_n hx hb dX7_looksOn_34 rfl (lv_at hl 0 rfl) ?_
    refine lv_aload_n hx hb dX7_looksOn_35 rfl (lv_at hl 0 rfl) ?_
    refine gt_X7_144 hx hb hg hown hK hW kd_176 dX7_looksOn_36 ?_
    replace hk := ob_s hk
    obtain ⟨x7, hx7, hk⟩ := hk
    refine cl_i (rn_V g_968 g_970 gs_67 g_9 g_971 hd_X7_byteAt (Nat.le_of_ble_eq_true rfl) (ci := 7) rfl (inM kd_176 rfl) (shp7 kd_176) hx hb hml hown hg hK hW (As := [.int (M6.1 176 8)]) (c_X7_byteAt l G (M6.1 176 8) M6 hx7) (by decide) rfl hl.1 rfl (Nat.le_of_ble_eq_true rfl) dX7_looksOn_39) hW (fun H locs hW => ?_)
    refine lv_istore_n (lv' := [(1, .int x7), (0, .ref (ad G 176))]) hx hb dX7_looksOn_42 rfl hl (by decide) rfl (fun ls hl => ?_)
    refine lv_iload_n hx hb dX7_looksOn_43 rfl (lv_at hl 0 rfl) ?_
    refine lv_i2l hx hb dX7_looksOn_44 rfl ?_
    refine lv_ldc2 hx hb hown (hg _ g_972) dX7_looksOn_45 ?_
    refine lv_ldc2 hx hb hown (hg _ g_973) dX7_looksOn_48 ?_
    refine cl_i (rn_S g_921 g_922 g_9 g_923 hd_X7_in (Nat.le_of_ble_eq_true rfl) hx hb hml hown hg hK hW (As := [.long x7.toInt64, .long (97 : Int64), .long (122 : Int64)]) (c_X7_in l G x7.toInt64 (97 : Int64) (122 : Int64) M6) (by decide) rfl hl.1 rfl (Nat.le_of_ble_eq_true rfl) dX7_looksOn_51) hW (fun H locs hW => ?_)
    refine lv_if_eq (tgt := 115) hx hb dX7_looksOn_54 (by decide) (fun c53 => ?_) (fun c53 => ?_)
    · replace hk := ite_t hk c53
      refine lv_iload_n hx hb dX7_looksOn_115 rfl (lv_at hl 0 rfl) ?_
      refine lv_i2l hx hb dX7_looksOn_116 rfl ?_
      refine lv_ldc2 hx hb hown (hg _ g_994) dX7_looksOn_117 ?_
      refine lv_ldc2 hx hb hown (hg _ g_995) dX7_looksOn_120 ?_
      refine cl_i (rn_S g_921 g_922 g_9 g_923 hd_X7_in (Nat.le_of_ble_eq_true rfl) hx hb hml hown hg hK hW (As := [.long x7.toInt64, .long (48 : Int64), .long (57 : Int64)]) (c_X7_in l G x7.toInt64 (48 : Int64) (57 : Int64) M6) (by decide) rfl hl.1 rfl (Nat.le_of_ble_eq_true rfl) dX7_looksOn_123) hW (fun H locs hW => ?_)
      refine lv_if_eq (tgt := 237) hx hb dX7_looksOn_126 (by decide) (fun c41 => ?_) (fun c41 => ?_)
      · replace hk := ite_t hk c41
        refine lv_aload_n hx hb dX7_looksOn_237 rfl (lv_at hl 1 rfl) ?_
        refine lv_iload_n hx hb dX7_looksOn_238 rfl (lv_at hl 0 rfl) ?_
        refine lv_bipush (v := (59 : Int32)) hx hb dX7_looksOn_239 (by decide) ?_
        replace hk := lq_s hk
        obtain ⟨x12, hr20, hk⟩ := hk
        have KJ19 : ∀ (H : Heap) (locs : List Loc) (ls : Array Slot), Ws G false M6 s H locs → lv_has ls 2 [(0, .ref (ad G 176)), (1, .int x7)] → Wx p l e 2 s m args below meth c Q H locs 257 ls [.int x12, .ref (ad G 176)] := by
          intro H locs ls hW hl
          replace hk := lq_s hk
          obtain ⟨M13, eM13, hk⟩ := hk
          refine pt_X7_156 hx hb hg hown hK hW kd_176 eM13 dX7_looksOn_257 (fun H locs hW => ?_)
          refine lv_aload_n hx hb dX7_looksOn_260 rfl (lv_at hl 0 rfl) ?_
          refine lv_dup hx hb dX7_looksOn_261 rfl ?_
          refine gt_X7_144 hx hb hg hown hK hW kd_176 dX7_looksOn_262 ?_
          refine lv_iload_n hx hb dX7_looksOn_265 rfl (lv_at hl 1 rfl) ?_
          replace hk := lq_s hk
          obtain ⟨x15, hr18, hk⟩ := hk
          have KJ17 : ∀ (H : Heap) (locs : List Loc) (ls : Array Slot), Ws G false M13 s H locs → lv_has ls 2 [] → Wx p l e 2 s m args below meth c Q H locs 274 ls [.int x15, .int (M13.1 176 8), .ref (ad G 176)] := by
            intro H locs ls hW hl
            refine lv_iadd hx hb dX7_looksOn_274 ?_
            replace hk := lq_s hk
            obtain ⟨M16, eM16, hk⟩ := hk
            refine pt_X7_144 hx hb hg hown hK hW kd_176 eM16 dX7_looksOn_275 (fun H locs hW => ?_)
            obtain rfl := Option.some.inj hk
            exact hret _ _ _ _ hW dX7_looksOn_278
          clear hk
          have hk := hr18.symm
          clear hr18
          refine lv_if_ge (tgt := 273) hx hb dX7_looksOn_266 (by decide) (fun c14 => ?_) (fun c14 => ?_)
          · replace hk := ite_t hk c14
            refine lv_iconst (v := (1 : Int32)) hx hb dX7_looksOn_273 (by decide) ?_
            subst hk
            exact KJ17 _ _ _ hW (lv_sub hl [] rfl)
          · replace hk := ite_f hk c14
            refine lv_iconst (v := (0 : Int32)) hx hb dX7_looksOn_269 (by decide) ?_
            refine lv_goto (tgt := 274) hx hb dX7_looksOn_270 (by decide) ?_
            subst hk
            exact KJ17 _ _ _ hW (lv_sub hl [] rfl)
        clear hk
        have hk := hr20.symm
        clear hr20
        refine lv_icmp_ne (tgt := 248) hx hb dX7_looksOn_241 (by decide) (fun c11 => ?_) (fun c11 => ?_)
        · replace hk := ite_f hk c11
          refine lv_iload_n hx hb dX7_looksOn_248 rfl (lv_at hl 0 rfl) ?_
          refine lv_if_ge (tgt := 256) hx hb dX7_looksOn_249 (by decide) (fun c10 => ?_) (fun c10 => ?_)
          · replace hk := ite_t hk c10
            refine lv_iconst (v := (5 : Int32)) hx hb dX7_looksOn_256 (by decide) ?_
            subst hk
            exact KJ19 _ _ _ hW (lv_sub hl [1, 0] rfl)
          · replace hk := ite_f hk c10
            refine lv_iconst (v := (4 : Int32)) hx hb dX7_looksOn_252 (by decide) ?_
            refine lv_goto (tgt := 257) hx hb dX7_looksOn_253 (by decide) ?_
            subst hk
            exact KJ19 _ _ _ hW (lv_sub hl [1, 0] rfl)
        · replace hk := ite_t hk c11
          refine lv_iconst (v := (3 : Int32)) hx hb dX7_looksOn_244 (by decide) ?_
          refine lv_goto (tgt := 257) hx hb dX7_looksOn_245 (by decide) ?_
          subst hk
          exact KJ19 _ _ _ hW (lv_sub hl [1, 0] rfl)
      · replace hk := ite_f hk c41
        refine lv_aload_n hx hb dX7_looksOn_129 rfl (lv_at hl 1 rfl) ?_
        refine lv_iconst (v := (0 : Int32)) hx hb dX7_looksOn_130 (by decide) ?_
        replace hk := lq_s hk
        obtain ⟨M21, eM21, hk⟩ := hk
        refine pt_X7_162 hx hb hg hown hK hW kd_176 eM21 dX7_looksOn_131 (fun H locs hW => ?_)
        replace hk := ob_s hk
        obtain ⟨M23, hz39, hk⟩ := hk
        have KX134 : ∀ (H : Heap) (locs : List Loc) (ls : Array Slot), Ws G false M23 s H locs → lv_has ls 2 [(0, .ref (ad G 176))] → Wx p l e 2 s m args below meth c Q H locs 212 ls [] := by
          intro H locs ls hW hl
          refine lv_aload_n hx hb dX7_looksOn_212 rfl (lv_at hl 0 rfl) ?_
          refine lv_aload_n hx hb dX7_looksOn_213 rfl (lv_at hl 0 rfl) ?_
          refine gt_X7_144 hx hb hg hown hK hW kd_176 dX7_looksOn_214 ?_
          refine lv_aload_n hx hb dX7_looksOn_217 rfl (lv_at hl 0 rfl) ?_
          refine gt_X7_151 hx hb hg hown hK hW kd_176 dX7_looksOn_218 ?_
          refine lv_isub hx hb dX7_looksOn_221 ?_
          refine lv_iconst (v := (2 : Int32)) hx hb dX7_looksOn_222 (by decide) ?_
          replace hk := lq_s hk
          obtain ⟨x35, hr38, hk⟩ := hk
          have KJ37 : ∀ (H : Heap) (locs : List Loc) (ls : Array Slot), Ws G false M23 s H locs → lv_has ls 2 [] → Wx p l e 2 s m args below meth c Q H locs 231 ls [.int x35, .ref (ad G 176)] := by
            intro H locs ls hW hl
            replace hk := lq_s hk
            obtain ⟨M36, eM36, hk⟩ := hk
            refine pt_X7_156 hx hb hg hown hK hW kd_176 eM36 dX7_looksOn_231 (fun H locs hW => ?_)
            refine lv_goto (tgt := 278) hx hb dX7_looksOn_234 (by decide) ?_
            obtain rfl := Option.some.inj hk
            exact hret _ _ _ _ hW dX7_looksOn_278
          clear hk
          have hk := hr38.symm
          clear hr38
          refine lv_icmp_le (tgt := 230) hx hb dX7_looksOn_223 (by decide) (fun c34 => ?_) (fun c34 => ?_)
          · replace hk := ite_t hk c34
            refine lv_iconst (v := (2 : Int32)) hx hb dX7_looksOn_230 (by decide) ?_
            subst hk
            exact KJ37 _ _ _ hW (lv_sub hl [] rfl)
          · replace hk := ite_f hk c34
            refine lv_iconst (v := (5 : Int32)) hx hb dX7_looksOn_226 (by decide) ?_
            refine lv_goto (tgt := 231) hx hb dX7_looksOn_227 (by decide) ?_
            subst hk
            exact KJ37 _ _ _ hW (lv_sub hl [] rfl)
        clear hk
        have LH134 : ∀ (n : Nat) (M22 : Mem) (H : Heap) (locs : List Loc) (ls : Array Slot), f_X7_looksOn_L134 n M22 = some M23 → Ws G false M22 s H locs → lv_has ls 2 [(0, .ref (ad G 176))] → Wx p l e 2 s m args below meth c Q H locs 134 ls [] := by
          clear hz39
          intro n
          induction n with
          | zero => intro _ _ _ _ hk; cases hk
          | succ n ih134 =>
            intro M22 H locs ls hk hW hl
            rw [f_X7_looksOn_L134.eq_2] at hk
            refine lv_aload_n hx hb dX7_looksOn_134 rfl (lv_at hl 0 rfl) ?_
            refine lv_aload_n hx hb dX7_looksOn_135 rfl (lv_at hl 0 rfl) ?_
            refine gt_X7_144 hx hb hg hown hK hW kd_176 dX7_looksOn_136 ?_
            replace hk := ob_s hk
            obtain ⟨x24, hx24, hk⟩ := hk
            refine cl_i (rn_V g_968 g_970 gs_67 g_9 g_971 hd_X7_byteAt (Nat.le_of_ble_eq_true rfl) (ci := 7) rfl (inM kd_176 rfl) (shp7 kd_176) hx hb hml hown hg hK hW (As := [.int (M22.1 176 8)]) (c_X7_byteAt l G (M22.1 176 8) M22 hx24) (by decide) rfl hl.1 rfl (Nat.le_of_ble_eq_true rfl) dX7_looksOn_139) hW (fun H locs hW => ?_)
            refine lv_i2l hx hb dX7_looksOn_142 rfl ?_
            refine lv_ldc2 hx hb hown (hg _ g_994) dX7_looksOn_143 ?_
            refine lv_ldc2 hx hb hown (hg _ g_995) dX7_looksOn_146 ?_
            refine cl_i (rn_S g_921 g_922 g_9 g_923 hd_X7_in (Nat.le_of_ble_eq_true rfl) hx hb hml hown hg hK hW (As := [.long x24.toInt64, .long (48 : Int64), .long (57 : Int64)]) (c_X7_in l G x24.toInt64 (48 : Int64) (57 : Int64) M22) (by decide) rfl hl.1 rfl (Nat.le_of_ble_eq_true rfl) dX7_looksOn_149) hW (fun H locs hW => ?_)
            refine lv_if_eq (tgt := 212) hx hb dX7_looksOn_152 (by decide) (fun c33 => ?_) (fun c33 => ?_)
            · replace hk := ite_t hk c33
              obtain rfl := Option.some.inj hk
              exact KX134 _ _ _ hW (lv_sub hl [0] rfl)
            · replace hk := ite_f hk c33
              refine lv_aload_n hx hb dX7_looksOn_155 rfl (lv_at hl 0 rfl) ?_
              refine lv_aload_n hx hb dX7_looksOn_156 rfl (lv_at hl 0 rfl) ?_
              refine gt_X7_144 hx hb hg hown hK hW kd_176 dX7_looksOn_157 ?_
              refine lv_aload_n hx hb dX7_looksOn_160 rfl (lv_at hl 0 rfl) ?_
              refine gt_X7_151 hx hb hg hown hK hW kd_176 dX7_looksOn_161 ?_
              refine lv_isub hx hb dX7_looksOn_164 ?_
              refine lv_iconst (v := (2 : Int32)) hx hb dX7_looksOn_165 (by decide) ?_
              replace hk := ob_s hk
              obtain ⟨x28, hr32, hk⟩ := hk
              have KJ31 : ∀ (H : Heap) (locs : List Loc) (ls : Array Slot), Ws G false M22 s H locs → lv_has ls 2 [(0, .ref (ad G 176))] → Wx p l e 2 s m args below meth c Q H locs 196 ls [.int x28, .ref (ad G 176)] := by
                intro H locs ls hW hl
                replace hk := lq_s hk
                obtain ⟨M29, eM29, hk⟩ := hk
                refine pt_X7_162 hx hb hg hown hK hW kd_176 eM29 dX7_looksOn_196 (fun H locs hW => ?_)
                refine lv_aload_n hx hb dX7_looksOn_199 rfl (lv_at hl 0 rfl) ?_
                refine lv_dup hx hb dX7_looksOn_200 rfl ?_
                refine gt_X7_144 hx hb hg hown hK hW kd_176 dX7_looksOn_201 ?_
                refine lv_iconst (v := (1 : Int32)) hx hb dX7_looksOn_204 (by decide) ?_
                refine lv_iadd hx hb dX7_looksOn_205 ?_
                replace hk := lq_s hk
                obtain ⟨M30, eM30, hk⟩ := hk
                refine pt_X7_144 hx hb hg hown hK hW kd_176 eM30 dX7_looksOn_206 (fun H locs hW => ?_)
                refine lv_goto (tgt := 134) hx hb dX7_looksOn_209 (by decide) ?_
                exact ih134 _ _ _ _ hk hW (lv_sub hl [0] rfl)
              clear hk
              have hk := hr32
              clear hr32
              refine lv_icmp_ge (tgt := 192) hx hb dX7_looksOn_166 (by decide) (fun c27 => ?_) (fun c27 => ?_)
              · replace hk := ite_t hk c27
                refine lv_aload_n hx hb dX7_looksOn_192 rfl (lv_at hl 0 rfl) ?_
                refine gt_X7_162 hx hb hg hown hK hW kd_176 dX7_looksOn_193 ?_
                obtain rfl := Option.some.inj hk
                exact KJ31 _ _ _ hW (lv_sub hl [0] rfl)
              · replace hk := ite_f hk c27
                refine lv_bipush (v := (10 : Int32)) hx hb dX7_looksOn_169 (by decide) ?_
                refine lv_aload_n hx hb dX7_looksOn_171 rfl (lv_at hl 0 rfl) ?_
                refine gt_X7_162 hx hb hg hown hK hW kd_176 dX7_looksOn_172 ?_
                refine lv_imul hx hb dX7_looksOn_175 ?_
                refine lv_aload_n hx hb dX7_looksOn_176 rfl (lv_at hl 0 rfl) ?_
                refine gt_X7_17 hx hb hg hown hK hW kd_176 dX7_looksOn_177 ?_
                refine lv_aload_n hx hb dX7_looksOn_180 rfl (lv_at hl 0 rfl) ?_
                refine gt_X7_144 hx hb hg hown hK hW kd_176 dX7_looksOn_181 ?_
                replace hk := ob_s hk
                obtain ⟨x26, hx26, hk⟩ := hk
                obtain ⟨hx26, ex26⟩ := rd_s hx26
                refine w_ald hx hb hK hW (inM kd_178 rfl) (shp10 kd_178) hx26 ex26 dX7_looksOn_184 ?_
                refine lv_iadd hx hb dX7_looksOn_185 ?_
                refine lv_bipush (v := (48 : Int32)) hx hb dX7_looksOn_186 (by decide) ?_
                refine lv_isub hx hb dX7_looksOn_188 ?_
                refine lv_goto (tgt := 196) hx hb dX7_looksOn_189 (by decide) ?_
                obtain rfl := Option.some.inj hk
                exact KJ31 _ _ _ hW (lv_sub hl [0] rfl)
        exact LH134 FU _ _ _ _ hz39 hW (lv_sub hl [1] rfl)
    · replace hk := ite_f hk c53
      replace hk := ob_s hk
      obtain ⟨M43, hz51, hk⟩ := hk
      have KX57 : ∀ (H : Heap) (locs : List Loc) (ls : Array Slot), Ws G false M43 s H locs → lv_has ls 2 [(0, .ref (ad G 176))] → Wx p l e 2 s m args below meth c Q H locs 91 ls [] := by
        intro H locs ls hW hl
        refine lv_aload_n hx hb dX7_looksOn_91 rfl (lv_at hl 0 rfl) ?_
        refine lv_iconst (v := (1 : Int32)) hx hb dX7_looksOn_92 (by decide) ?_
        replace hk := lq_s hk
        obtain ⟨M48, eM48, hk⟩ := hk
        refine pt_X7_156 hx hb hg hown hK hW kd_176 eM48 dX7_looksOn_93 (fun H locs hW => ?_)
        refine lv_aload_n hx hb dX7_looksOn_96 rfl (lv_at hl 0 rfl) ?_
        refine lv_aload_n hx hb dX7_looksOn_97 rfl (lv_at hl 0 rfl) ?_
        refine lv_aload_n hx hb dX7_looksOn_98 rfl (lv_at hl 0 rfl) ?_
        refine gt_X7_151 hx hb hg hown hK hW kd_176 dX7_looksOn_99 ?_
        refine lv_aload_n hx hb dX7_looksOn_102 rfl (lv_at hl 0 rfl) ?_
        refine gt_X7_144 hx hb hg hown hK hW kd_176 dX7_looksOn_103 ?_
        replace hk := ob_s hk
        obtain ⟨x49, hx49, hk⟩ := hk
        refine cl_i (rn_V g_974 g_976 gs_68 g_9 g_977 hd_X7_wordAt (Nat.le_of_ble_eq_true rfl) (ci := 7) rfl (inM kd_176 rfl) (shp7 kd_176) hx hb hml hown hg hK hW (As := [.int (M48.1 176 9), .int (M48.1 176 8)]) (c_X7_wordAt l G (M48.1 176 9) (M48.1 176 8) M48 hx49) (by decide) rfl hl.1 rfl (Nat.le_of_ble_eq_true rfl) dX7_looksOn_106) hW (fun H locs hW => ?_)
        replace hk := lq_s hk
        obtain ⟨M50, eM50, hk⟩ := hk
        refine pt_X7_162 hx hb hg hown hK hW kd_176 eM50 dX7_looksOn_109 (fun H locs hW => ?_)
        refine lv_goto (tgt := 278) hx hb dX7_looksOn_112 (by decide) ?_
        obtain rfl := Option.some.inj hk
        exact hret _ _ _ _ hW dX7_looksOn_278
      clear hk
      have LH57 : ∀ (n : Nat) (M42 : Mem) (H : Heap) (locs : List Loc) (ls : Array Slot), f_X7_looksOn_L57 n M42 = some M43 → Ws G false M42 s H locs → lv_has ls 2 [(0, .ref (ad G 176))] → Wx p l e 2 s m args below meth c Q H locs 57 ls [] := by
        clear hz51
        intro n
        induction n with
        | zero => intro _ _ _ _ hk; cases hk
        | succ n ih57 =>
          intro M42 H locs ls hk hW hl
          rw [f_X7_looksOn_L57.eq_2] at hk
          refine lv_aload_n hx hb dX7_looksOn_57 rfl (lv_at hl 0 rfl) ?_
          refine lv_aload_n hx hb dX7_looksOn_58 rfl (lv_at hl 0 rfl) ?_
          refine gt_X7_144 hx hb hg hown hK hW kd_176 dX7_looksOn_59 ?_
          replace hk := ob_s hk
          obtain ⟨x44, hx44, hk⟩ := hk
          refine cl_i (rn_V g_968 g_970 gs_67 g_9 g_971 hd_X7_byteAt (Nat.le_of_ble_eq_true rfl) (ci := 7) rfl (inM kd_176 rfl) (shp7 kd_176) hx hb hml hown hg hK hW (As := [.int (M42.1 176 8)]) (c_X7_byteAt l G (M42.1 176 8) M42 hx44) (by decide) rfl hl.1 rfl (Nat.le_of_ble_eq_true rfl) dX7_looksOn_62) hW (fun H locs hW => ?_)
          refine lv_i2l hx hb dX7_looksOn_65 rfl ?_
          refine lv_ldc2 hx hb hown (hg _ g_972) dX7_looksOn_66 ?_
          refine lv_ldc2 hx hb hown (hg _ g_973) dX7_looksOn_69 ?_
          refine cl_i (rn_S g_921 g_922 g_9 g_923 hd_X7_in (Nat.le_of_ble_eq_true rfl) hx hb hml hown hg hK hW (As := [.long x44.toInt64, .long (97 : Int64), .long (122 : Int64)]) (c_X7_in l G x44.toInt64 (97 : Int64) (122 : Int64) M42) (by decide) rfl hl.1 rfl (Nat.le_of_ble_eq_true rfl) dX7_looksOn_72) hW (fun H locs hW => ?_)
          refine lv_if_eq (tgt := 91) hx hb dX7_looksOn_75 (by decide) (fun c47 => ?_) (fun c47 => ?_)
          · replace hk := ite_t hk c47
            obtain rfl := Option.some.inj hk
            exact KX57 _ _ _ hW (lv_sub hl [0] rfl)
          · replace hk := ite_f hk c47
            refine lv_aload_n hx hb dX7_looksOn_78 rfl (lv_at hl 0 rfl) ?_
            refine lv_dup hx hb dX7_looksOn_79 rfl ?_
            refine gt_X7_144 hx hb hg hown hK hW kd_176 dX7_looksOn_80 ?_
            refine lv_iconst (v := (1 : Int32)) hx hb dX7_looksOn_83 (by decide) ?_
            refine lv_iadd hx hb dX7_looksOn_84 ?_
            replace hk := lq_s hk
            obtain ⟨M46, eM46, hk⟩ := hk
            refine pt_X7_144 hx hb hg hown hK hW kd_176 eM46 dX7_looksOn_85 (fun H locs hW => ?_)
            refine lv_goto (tgt := 57) hx hb dX7_looksOn_88 (by decide) ?_
            exact ih57 _ _ _ _ hk hW (lv_sub hl [0] rfl)
      exact LH57 FU _ _ _ _ hz51 hW (lv_sub hl [1] rfl)
  clear hk
  have LH0 : ∀ (n : Nat) (M1 : Mem) (H : Heap) (locs : List Loc) (ls : Array Slot), f_X7_looksOn_L0 n M1 = some M2 → Ws G false M1 s H locs → lv_has ls 2 [(0, .ref (ad G 176))] → Wx p l e 2 s m args below meth c Q H locs 0 ls [] := by
    clear hz54
    intro n
    induction n with
    | zero => intro _ _ _ _ hk; cases hk
    | succ n ih0 =>
      intro M1 H locs ls hk hW hl
      rw [f_X7_looksOn_L0.eq_2] at hk
      refine lv_aload_n hx hb dX7_looksOn_0 rfl (lv_at hl 0 rfl) ?_
      refine lv_aload_n hx hb dX7_looksOn_1 rfl (lv_at hl 0 rfl) ?_
      refine gt_X7_144 hx hb hg hown hK hW kd_176 dX7_looksOn_2 ?_
      replace hk := ob_s hk
      obtain ⟨x3, hx3, hk⟩ := hk
      refine cl_i (rn_V g_968 g_970 gs_67 g_9 g_971 hd_X7_byteAt (Nat.le_of_ble_eq_true rfl) (ci := 7) rfl (inM kd_176 rfl) (shp7 kd_176) hx hb hml hown hg hK hW (As := [.int (M1.1 176 8)]) (c_X7_byteAt l G (M1.1 176 8) M1 hx3) (by decide) rfl hl.1 rfl (Nat.le_of_ble_eq_true rfl) dX7_looksOn_5) hW (fun H locs hW => ?_)
      refine lv_bipush (v := (32 : Int32)) hx hb dX7_looksOn_8 (by decide) ?_
      refine lv_icmp_ne (tgt := 26) hx hb dX7_looksOn_10 (by decide) (fun c5 => ?_) (fun c5 => ?_)
      · replace hk := ite_f hk c5
        obtain rfl := Option.some.inj hk
        exact KX0 _ _ _ hW (lv_sub hl [0] rfl)
      · replace hk := ite_t hk c5
        refine lv_aload_n hx hb dX7_looksOn_13 rfl (lv_at hl 0 rfl) ?_
        refine lv_dup hx hb dX7_looksOn_14 rfl ?_
        refine gt_X7_144 hx hb hg hown hK hW kd_176 dX7_looksOn_15 ?_
        refine lv_iconst (v := (1 : Int32)) hx hb dX7_looksOn_18 (by decide) ?_
        refine lv_iadd hx hb dX7_looksOn_19 ?_
        replace hk := lq_s hk
        obtain ⟨M4, eM4, hk⟩ := hk
        refine pt_X7_144 hx hb hg hown hK hW kd_176 eM4 dX7_looksOn_20 (fun H locs hW => ?_)
        refine lv_goto (tgt := 0) hx hb dX7_looksOn_23 (by decide) ?_
        exact ih0 _ _ _ _ hk hW (lv_sub hl [0] rfl)
  exact LH0 FU _ _ _ _ hz54 hW (lv_sub hl [0] rfl)
def f_X7_must (a1 : Int32) (M : Mem) : Option (Mem) :=
  ob (
    if (0 : Int32) ≤ (M.1 176 12) then (
      some M)
    else (
      if a1 = (0 : Int32) then (
        lq (s1 M 176 12 (M.1 176 9)) (fun M1 =>
        some M1))
      else (
        some M)))
   (fun M4 =>
  if (0 : Int32) ≤ (M4.1 176 12) then (
    some M4)
  else (
    ob (f_X7_looksOn M4) (fun M6 =>
    some M6)))
set_option maxHeartbeats 4000000 in
set_option maxRecDepth 100000 in
theorem c_X7_must (l : Launch) (G : GT) (a1 : Int32) (M : Mem) {M' : Mem} (hk : f_X7_must a1 M = some M') : CMv l G false yX7_must cX7_must 2 none 3 [.ref (ad G 176), .int a1] M M' := by
  unfold f_X7_must at hk
  refine CMv.of (by decide) (Nat.le_of_ble_eq_true rfl) ?_
  intro p e s m args below meth c Q hx hb hml hown hg hK hW hret ls hl
  have hl : lv_has ls 2 [(0, .ref (ad G 176)), (1, .int a1)] := hl
  refine lv_aload_n hx hb dX7_must_0 rfl (lv_at hl 0 rfl) ?_
  refine gt_X7_169 hx hb hg hown hK hW kd_176 dX7_must_1 ?_
  replace hk := ob_s hk
  obtain ⟨M4, hr9, hk⟩ := hk
  have KJ8 : ∀ (H : Heap) (locs : List Loc) (ls : Array Slot), Ws G false M4 s H locs → lv_has ls 2 [(0, .ref (ad G 176))] → Wx p l e 3 s m args below meth c Q H locs 19 ls [] := by
    intro H locs ls hW hl
    refine lv_aload_n hx hb dX7_must_19 rfl (lv_at hl 0 rfl) ?_
    refine gt_X7_169 hx hb hg hown hK hW kd_176 dX7_must_20 ?_
    refine lv_if_ge (tgt := 30) hx hb dX7_must_23 (by decide) (fun c7 => ?_) (fun c7 => ?_)
    · replace hk := ite_t hk c7
      obtain rfl := Option.some.inj hk
      exact hret _ _ _ _ hW dX7_must_30
    · replace hk := ite_f hk c7
      refine lv_aload_n hx hb dX7_must_26 rfl (lv_at hl 0 rfl) ?_
      replace hk := ob_s hk
      obtain ⟨M6, hx5, hk⟩ := hk
      refine cl_v (rn_V g_964 g_966 gs_66 g_9 g_967 hd_X7_looksOn (Nat.le_of_ble_eq_true rfl) (ci := 7) rfl (inM kd_176 rfl) (shp7 kd_176) hx hb hml hown hg hK hW (As := []) (c_X7_looksOn l G M4 hx5) (by decide) rfl hl.1 rfl (Nat.le_of_ble_eq_true rfl) dX7_must_27) hW (fun H locs hW => ?_)
      obtain rfl := Option.some.inj hk
      exact hret _ _ _ _ hW dX7_must_30
  clear hk
  have hk := hr9
  clear hr9
  refine lv_if_ge (tgt := 19) hx hb dX7_must_4 (by decide) (fun c3 => ?_) (fun c3 => ?_)
  · replace hk := ite_t hk c3
    obtain rfl := Option.some.inj hk
    exact KJ8 _ _ _ hW (lv_sub hl [0] rfl)
  · replace hk := ite_f hk c3
    refine lv_iload_n hx hb dX7_must_7 rfl (lv_at hl 1 rfl) ?_
    refine lv_if_ne (tgt := 19) hx hb dX7_must_8 (by decide) (fun c2 => ?_) (fun c2 => ?_)
    · replace hk := ite_f hk c2
      obtain rfl := Option.some.inj hk
      exact KJ8 _ _ _ hW (lv_sub hl [0] rfl)
    · replace hk := ite_t hk c2
      refine lv_aload_n hx hb dX7_must_11 rfl (lv_at hl 0 rfl) ?_
      refine lv_aload_n hx hb dX7_must_12 rfl (lv_at hl 0 rfl) ?_
      refine gt_X7_151 hx hb hg hown hK hW kd_176 dX7_must_13 ?_
      replace hk := lq_s hk
      obtain ⟨M1, eM1, hk⟩ := hk
      refine pt_X7_169 hx hb hg hown hK hW kd_176 eM1 dX7_must_16 (fun H locs hW => ?_)
      obtain rfl := Option.some.inj hk
      exact KJ8 _ _ _ hW (lv_sub hl [0] rfl)
def f_X7_number (a1 : Int32) (a2 : Int32) (M : Mem) : Option (Int32 × Mem) :=
  lq (M.1 176 11) (fun x1 =>
  lq (
    if (M.1 176 10) = (2 : Int32) then (
      if (f_X7_in x1.toInt64 a1.toInt64 a2.toInt64) = (0 : Int32) then (
        (0 : Int32))
      else (
        (1 : Int32)))
    else (
      (0 : Int32)))
   (fun x5 =>
  ob (f_X7_must x5 M) (fun M7 =>
  some (x1, M7))))
set_option maxHeartbeats 4000000 in
set_option maxRecDepth 100000 in
theorem c_X7_number (l : Launch) (G : GT) (a1 : Int32) (a2 : Int32) (M : Mem) {r : Int32} {M' : Mem} (hk : f_X7_number a1 a2 M = some (r, M')) : CMi l G false yX7_number cX7_number 4 (some .int) 4 [.ref (ad G 176), .int a1, .int a2] M r M' := by
  unfold f_X7_number at hk
  refine CMi.of (by decide) (Nat.le_of_ble_eq_true rfl) ?_
  intro p e s m args below meth c Q hx hb hml hown hg hK hW hret ls hl
  have hl : lv_has ls 4 [(0, .ref (ad G 176)), (1, .int a1), (2, .int a2)] := hl
  refine lv_aload_n hx hb dX7_number_0 rfl (lv_at hl 0 rfl) ?_
  refine gt_X7_162 hx hb hg hown hK hW kd_176 dX7_number_1 ?_
  replace hk := lq_s hk
  obtain ⟨x1, ex1, hk⟩ := hk
  refine nm_i ex1 ?_
  refine lv_istore_n (lv' := [(3, .int x1), (0, .ref (ad G 176)), (1, .int a1), (2, .int a2)]) hx hb dX7_number_4 rfl hl (by decide) rfl (fun ls hl => ?_)
  refine lv_aload_n hx hb dX7_number_5 rfl (lv_at hl 1 rfl) ?_
  refine lv_aload_n hx hb dX7_number_6 rfl (lv_at hl 1 rfl) ?_
  refine gt_X7_156 hx hb hg hown hK hW kd_176 dX7_number_7 ?_
  refine lv_iconst (v := (2 : Int32)) hx hb dX7_number_10 (by decide) ?_
  replace hk := lq_s hk
  obtain ⟨x5, hr9, hk⟩ := hk
  have KJ8 : ∀ (H : Heap) (locs : List Loc) (ls : Array Slot), Ws G false M s H locs → lv_has ls 4 [(3, .int x1)] → Wx p l e 4 s m args below meth c Q H locs 31 ls [.int x5, .ref (ad G 176)] := by
    intro H locs ls hW hl
    replace hk := ob_s hk
    obtain ⟨M7, hx6, hk⟩ := hk
    refine cl_v (rn_V g_996 g_998 gs_69 g_9 g_999 hd_X7_must (Nat.le_of_ble_eq_true rfl) (ci := 7) rfl (inM kd_176 rfl) (shp7 kd_176) hx hb hml hown hg hK hW (As := [.int x5]) (c_X7_must l G x5 M hx6) (by decide) rfl hl.1 rfl (Nat.le_of_ble_eq_true rfl) dX7_number_31) hW (fun H locs hW => ?_)
    refine lv_iload_n hx hb dX7_number_34 rfl (lv_at hl 0 rfl) ?_
    obtain ⟨rfl, rfl⟩ := sp2 hk
    exact hret _ _ _ _ hW dX7_number_35
  clear hk
  have hk := hr9.symm
  clear hr9
  refine lv_icmp_ne (tgt := 30) hx hb dX7_number_11 (by decide) (fun c4 => ?_) (fun c4 => ?_)
  · replace hk := ite_f hk c4
    refine lv_iconst (v := (0 : Int32)) hx hb dX7_number_30 (by decide) ?_
    subst hk
    exact KJ8 _ _ _ hW (lv_sub hl [0] rfl)
  · replace hk := ite_t hk c4
    refine lv_iload_n hx hb dX7_number_14 rfl (lv_at hl 0 rfl) ?_
    refine lv_i2l hx hb dX7_number_15 rfl ?_
    refine lv_iload_n hx hb dX7_number_16 rfl (lv_at hl 2 rfl) ?_
    refine lv_i2l hx hb dX7_number_17 rfl ?_
    refine lv_iload_n hx hb dX7_number_18 rfl (lv_at hl 3 rfl) ?_
    refine lv_i2l hx hb dX7_number_19 rfl ?_
    refine cl_i (rn_S g_921 g_922 g_9 g_923 hd_X7_in (Nat.le_of_ble_eq_true rfl) hx hb hml hown hg hK hW (As := [.long x1.toInt64, .long a1.toInt64, .long a2.toInt64]) (c_X7_in l G x1.toInt64 a1.toInt64 a2.toInt64 M) (by decide) rfl hl.1 rfl (Nat.le_of_ble_eq_true rfl) dX7_number_20) hW (fun H locs hW => ?_)
    refine lv_if_eq (tgt := 30) hx hb dX7_number_23 (by decide) (fun c3 => ?_) (fun c3 => ?_)
    · replace hk := ite_t hk c3
      refine lv_iconst (v := (0 : Int32)) hx hb dX7_number_30 (by decide) ?_
      subst hk
      exact KJ8 _ _ _ hW (lv_sub hl [0] rfl)
    · replace hk := ite_f hk c3
      refine lv_iconst (v := (1 : Int32)) hx hb dX7_number_26 (by decide) ?_
      refine lv_goto (tgt := 31) hx hb dX7_number_27 (by decide) ?_
      subst hk
      exact KJ8 _ _ _ hW (lv_sub hl [0] rfl)
def f_X7_readsLimb (M : Mem) : Option (Mem) :=
  ob (rd M 177 (0 : Int32)) (fun x1 =>
  lq (
    if (7 : Int32) ≤ x1 then (
      (0 : Int32))
    else (
      (1 : Int32)))
   (fun x3 =>
  ob (f_X7_must x3 M) (fun M5 =>
  ob2 (f_X7_number (0 : Int32) (5 : Int32) M5) (fun x6 M7 =>
  ob2 (f_X7_number (0 : Int32) (5 : Int32) M7) (fun x8 M9 =>
  ob2 (f_X7_number (1 : Int32) (9 : Int32) M9) (fun x10 M11 =>
  ob2 (f_X7_number (1 : Int32) (20 : Int32) M11) (fun x12 M13 =>
  ob2 (f_X7_number (0 : Int32) (8 : Int32) M13) (fun x14 M15 =>
  if (0 : Int32) ≤ (M15.1 176 12) then (
    some M15)
  else (
    ob (f_X7_limbComes x6 x8 x10 x12 x14 M15) (fun M17 =>
    some M17))))))))))
set_option maxHeartbeats 4000000 in
set_option maxRecDepth 100000 in
theorem c_X7_readsLimb (l : Launch) (G : GT)  (M : Mem) {M' : Mem} (hk : f_X7_readsLimb  M = some M') : CMv l G false yX7_readsLimb cX7_readsLimb 6 none 5 [.ref (ad G 176)] M M' := by
  unfold f_X7_readsLimb at hk
  refine CMv.of (by decide) (Nat.le_of_ble_eq_true rfl) ?_
  intro p e s m args below meth c Q hx hb hml hown hg hK hW hret ls hl
  have hl : lv_has ls 6 [(0, .ref (ad G 176))] := hl
  refine lv_aload_n hx hb dX7_readsLimb_0 rfl (lv_at hl 0 rfl) ?_
  refine lv_aload_n hx hb dX7_readsLimb_1 rfl (lv_at hl 0 rfl) ?_
  refine gt_X7_7 hx hb hg hown hK hW kd_176 dX7_readsLimb_2 ?_
  refine lv_iconst (v := (0 : Int32)) hx hb dX7_readsLimb_5 (by decide) ?_
  replace hk := ob_s hk
  obtain ⟨x1, hx1, hk⟩ := hk
  obtain ⟨hx1, ex1⟩ := rd_s hx1
  refine w_ald hx hb hK hW (inM kd_177 rfl) (shp10 kd_177) hx1 ex1 dX7_readsLimb_6 ?_
  refine lv_bipush (v := (7 : Int32)) hx hb dX7_readsLimb_7 (by decide) ?_
  replace hk := lq_s hk
  obtain ⟨x3, hr20, hk⟩ := hk
  have KJ19 : ∀ (H : Heap) (locs : List Loc) (ls : Array Slot), Ws G false M s H locs → lv_has ls 6 [(0, .ref (ad G 176))] → Wx p l e 5 s m args below meth c Q H locs 17 ls [.int x3, .ref (ad G 176)] := by
    intro H locs ls hW hl
    replace hk := ob_s hk
    obtain ⟨M5, hx4, hk⟩ := hk
    refine cl_v (rn_V g_996 g_998 gs_69 g_9 g_999 hd_X7_must (Nat.le_of_ble_eq_true rfl) (ci := 7) rfl (inM kd_176 rfl) (shp7 kd_176) hx hb hml hown hg hK hW (As := [.int x3]) (c_X7_must l G x3 M hx4) (by decide) rfl hl.1 rfl (Nat.le_of_ble_eq_true rfl) dX7_readsLimb_17) hW (fun H locs hW => ?_)
    refine lv_aload_n hx hb dX7_readsLimb_20 rfl (lv_at hl 0 rfl) ?_
    refine lv_iconst (v := (0 : Int32)) hx hb dX7_readsLimb_21 (by decide) ?_
    refine lv_iconst (v := (5 : Int32)) hx hb dX7_readsLimb_22 (by decide) ?_
    replace hk := ob2_s hk
    obtain ⟨x6, M7, hx6, hk⟩ := hk
    refine cl_i (rn_V g_1000 g_1002 gs_70 g_9 g_1003 hd_X7_number (Nat.le_of_ble_eq_true rfl) (ci := 7) rfl (inM kd_176 rfl) (shp7 kd_176) hx hb hml hown hg hK hW (As := [.int (0 : Int32), .int (5 : Int32)]) (c_X7_number l G (0 : Int32) (5 : Int32) M5 hx6) (by decide) rfl hl.1 rfl (Nat.le_of_ble_eq_true rfl) dX7_readsLimb_23) hW (fun H locs hW => ?_)
    refine lv_istore_n (lv' := [(1, .int x6), (0, .ref (ad G 176))]) hx hb dX7_readsLimb_26 rfl hl (by decide) rfl (fun ls hl => ?_)
    refine lv_aload_n hx hb dX7_readsLimb_27 rfl (lv_at hl 1 rfl) ?_
    refine lv_iconst (v := (0 : Int32)) hx hb dX7_readsLimb_28 (by decide) ?_
    refine lv_iconst (v := (5 : Int32)) hx hb dX7_readsLimb_29 (by decide) ?_
    replace hk := ob2_s hk
    obtain ⟨x8, M9, hx8, hk⟩ := hk
    refine cl_i (rn_V g_1000 g_1002 gs_70 g_9 g_1003 hd_X7_number (Nat.le_of_ble_eq_true rfl) (ci := 7) rfl (inM kd_176 rfl) (shp7 kd_176) hx hb hml hown hg hK hW (As := [.int (0 : Int32), .int (5 : Int32)]) (c_X7_number l G (0 : Int32) (5 : Int32) M7 hx8) (by decide) rfl hl.1 rfl (Nat.le_of_ble_eq_true rfl) dX7_readsLimb_30) hW (fun H locs hW => ?_)
    refine lv_istore_n (lv' := [(2, .int x8), (1, .int x6), (0, .ref (ad G 176))]) hx hb dX7_readsLimb_33 rfl hl (by decide) rfl (fun ls hl => ?_)
    refine lv_aload_n hx hb dX7_readsLimb_34 rfl (lv_at hl 2 rfl) ?_
    refine lv_iconst (v := (1 : Int32)) hx hb dX7_readsLimb_35 (by decide) ?_
    refine lv_bipush (v := (9 : Int32)) hx hb dX7_readsLimb_36 (by decide) ?_
    replace hk := ob2_s hk
    obtain ⟨x10, M11, hx10, hk⟩ := hk
    refine cl_i (rn_V g_1000 g_1002 gs_70 g_9 g_1003 hd_X7_number (Nat.le_of_ble_eq_true rfl) (ci := 7) rfl (inM kd_176 rfl) (shp7 kd_176) hx hb hml hown hg hK hW (As := [.int (1 : Int32), .int (9 : Int32)]) (c_X7_number l G (1 : Int32) (9 : Int32) M9 hx10) (by decide) rfl hl.1 rfl (Nat.le_of_ble_eq_true rfl) dX7_readsLimb_38) hW (fun H locs hW => ?_)
    refine lv_istore_n (lv' := [(3, .int x10), (2, .int x8), (1, .int x6), (0, .ref (ad G 176))]) hx hb dX7_readsLimb_41 rfl hl (by decide) rfl (fun ls hl => ?_)
    refine lv_aload_n hx hb dX7_readsLimb_42 rfl (lv_at hl 3 rfl) ?_
    refine lv_iconst (v := (1 : Int32)) hx hb dX7_readsLimb_43 (by decide) ?_
    refine lv_bipush (v := (20 : Int32)) hx hb dX7_readsLimb_44 (by decide) ?_
    replace hk := ob2_s hk
    obtain ⟨x12, M13, hx12, hk⟩ := hk
    refine cl_i (rn_V g_1000 g_1002 gs_70 g_9 g_1003 hd_X7_number (Nat.le_of_ble_eq_true rfl) (ci := 7) rfl (inM kd_176 rfl) (shp7 kd_176) hx hb hml hown hg hK hW (As := [.int (1 : Int32), .int (20 : Int32)]) (c_X7_number l G (1 : Int32) (20 : Int32) M11 hx12) (by decide) rfl hl.1 rfl (Nat.le_of_ble_eq_true rfl) dX7_readsLimb_46) hW (fun H locs hW => ?_)
    refine lv_istore (lv' := [(4, .int x12), (3, .int x10), (2, .int x8), (1, .int x6), (0, .ref (ad G 176))]) hx hb dX7_readsLimb_49 hl (by decide) rfl (fun ls hl => ?_)
    refine lv_aload_n hx hb dX7_readsLimb_51 rfl (lv_at hl 4 rfl) ?_
    refine lv_iconst (v := (0 : Int32)) hx hb dX7_readsLimb_52 (by decide) ?_
    refine lv_bipush (v := (8 : Int32)) hx hb dX7_readsLimb_53 (by decide) ?_
    replace hk := ob2_s hk
    obtain ⟨x14, M15, hx14, hk⟩ := hk
    refine cl_i (rn_V g_1000 g_1002 gs_70 g_9 g_1003 hd_X7_number (Nat.le_of_ble_eq_true rfl) (ci := 7) rfl (inM kd_176 rfl) (shp7 kd_176) hx hb hml hown hg hK hW (As := [.int (0 : Int32), .int (8 : Int32)]) (c_X7_number l G (0 : Int32) (8 : Int32) M13 hx14) (by decide) rfl hl.1 rfl (Nat.le_of_ble_eq_true rfl) dX7_readsLimb_55) hW (fun H locs hW => ?_)
    refine lv_istore (lv' := [(5, .int x14), (4, .int x12), (3, .int x10), (2, .int x8), (1, .int x6), (0, .ref (ad G 176))]) hx hb dX7_readsLimb_58 hl (by decide) rfl (fun ls hl => ?_)
    refine lv_aload_n hx hb dX7_readsLimb_60 rfl (lv_at hl 5 rfl) ?_
    refine gt_X7_169 hx hb hg hown hK hW kd_176 dX7_readsLimb_61 ?_
    refine lv_if_ge (tgt := 78) hx hb dX7_readsLimb_64 (by decide) (fun c18 => ?_) (fun c18 => ?_)
    · replace hk := ite_t hk c18
      obtain rfl := Option.some.inj hk
      exact hret _ _ _ _ hW dX7_readsLimb_78
    · replace hk := ite_f hk c18
      refine lv_aload_n hx hb dX7_readsLimb_67 rfl (lv_at hl 5 rfl) ?_
      refine lv_iload_n hx hb dX7_readsLimb_68 rfl (lv_at hl 4 rfl) ?_
      refine lv_iload_n hx hb dX7_readsLimb_69 rfl (lv_at hl 3 rfl) ?_
      refine lv_iload_n hx hb dX7_readsLimb_70 rfl (lv_at hl 2 rfl) ?_
      refine lv_iload hx hb dX7_readsLimb_71 (lv_at hl 1 rfl) ?_
      refine lv_iload hx hb dX7_readsLimb_73 (lv_at hl 0 rfl) ?_
      replace hk := ob_s hk
      obtain ⟨M17, hx16, hk⟩ := hk
      refine cl_v (rn_V g_943 g_945 gs_64 g_9 g_946 hd_X7_limbComes (Nat.le_of_ble_eq_true rfl) (ci := 7) rfl (inM kd_176 rfl) (shp7 kd_176) hx hb hml hown hg hK hW (As := [.int x6, .int x8, .int x10, .int x12, .int x14]) (c_X7_limbComes l G x6 x8 x10 x12 x14 M15 hx16) (by decide) rfl hl.1 rfl (Nat.le_of_ble_eq_true rfl) dX7_readsLimb_75) hW (fun H locs hW => ?_)
      obtain rfl := Option.some.inj hk
      exact hret _ _ _ _ hW dX7_readsLimb_78
  clear hk
  have hk := hr20.symm
  clear hr20
  refine lv_icmp_ge (tgt := 16) hx hb dX7_readsLimb_9 (by decide) (fun c2 => ?_) (fun c2 => ?_)
  · replace hk := ite_t hk c2
    refine lv_iconst (v := (0 : Int32)) hx hb dX7_readsLimb_16 (by decide) ?_
    subst hk
    exact KJ19 _ _ _ hW (lv_sub hl [0] rfl)
  · replace hk := ite_f hk c2
    refine lv_iconst (v := (1 : Int32)) hx hb dX7_readsLimb_12 (by decide) ?_
    refine lv_goto (tgt := 17) hx hb dX7_readsLimb_13 (by decide) ?_
    subst hk
    exact KJ19 _ _ _ hW (lv_sub hl [0] rfl)
