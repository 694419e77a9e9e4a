/-! the JDK's own text methods over the class's constants (a constant by its place o < 5) -/
theorem CMi.ofT {l : Launch} {G : GT} {t : Bool} {y : MethodName} {cc : ByteArray} {mx : Nat} {d : Nat} {av : List Value} {M : Mem} {r : Int32} {M' : Mem} {ty : FieldType} (hy : plainName y.cls = true) (hn : (lg_sl av).length ≤ mx) (hnar : narrow ty (.int r) = .int r)
    (body : ∀ (p : Program) (e : Env) (s : State) (m : MethodId) (args : Array Value) (below : List Frame) (meth : Method) (c : Code) (Q : State → Prop), p.tables.exec = Jvm.exec → c.code = cc → c.maxLocals = mx → s.vm.findClass y.cls = some m.cls → (∀ w ∈ gw, w.before args s = true) → Kn G t s → Ws G t M s s.heap [] → (∀ (H : Heap) (locs : List Loc) (pc : Nat) (ls : Array Slot), Ws G t M' s H locs → decode cc pc = .ok (.ireturn, 1) → Wx p l e d s m args below meth c Q H locs pc ls [.int r]) → ∀ ls : Array Slot, lv_has ls mx (lv_args 0 av) → Wx p l e d s m args below meth c Q s.heap [] 0 ls []) :
    CMi l G t y cc mx (some ty) d av M r M' := by
  refine Met.ofW (cc := cc) (maxL := mx) (ret := some ty) hy rfl ?_
  intro p e s m args below meth c s₁ B hml hv
  obtain ⟨rfl, hP, hK⟩ := hv
  have hts := atoms_spec (ws := wsM y cc mx (some ty)) B.pre
  have hr := B.returns
  have hlocks := B.notSynchronized
  have hl := lv_entry av (n := mx) hn
  rw [lg_entry_eq]
  exact body p e s m _ below meth c _ B.exec B.bytes hml (findClass_of_methodNamed B.named) (fun w hw => hts w (List.mem_cons_of_mem _ hw)) hK ⟨hP, va_S.rf⟩ (fun H locs pc ls hW hdg => W.zret (v := r) B.exec B.bytes hr hnar (fun u hu _ => ⟨⟨r, (), rfl, rfl, by show va_P _ _ _ u.heap; rw [hu]; exact hW.1⟩, hW.2.F hu⟩) hW.2.2.2 hdg hlocks) _ hl
section TEXTS
variable {p : Program} {l : Launch} {e : Env} {s : State} {m : MethodId} {args : Array Value} {below : List Frame} {meth : Method} {c : Code} {H : Heap} {locs : List Loc} {Q : State → Prop}
variable {cc : ByteArray} {pc nL : Nat} {ls : Array Slot} {rest st As : List Value} {G : GT} {M M' : Mem} {d d' : Nat} {own : String} {y : MethodName} {bytes : ByteArray} {mx n idx o : Nat} {ret : Option FieldType} {Qc : Array Value → State → Outcome → State → Prop}
theorem rn_VT (w1 : Cond.methodLink own idx y ∈ gw) (w2 : Cond.instanceMethod y ∈ gw) (w5 : Cond.selects "java/lang/String" y y ∈ gw) (w3 : Cond.initialized y.cls ∈ gw) (w4 : Cond.code y bytes mx ret ∈ gw) (hd : y.cls ≠ "java/lang/invoke/MethodHandle" ∧ y.cls ≠ "java/lang/invoke/VarHandle" ∧ (parseMethodDescriptor y.desc).map (fun d => d.parameters.length) = some n) (hmx : mx ≤ 21) (ho : o < 5)
    (hx : p.tables.exec = Jvm.exec) (hb : c.code = cc) (hml : c.maxLocals = nL) (hown : s.vm.findClass own = some m.cls) (hg : ∀ w ∈ gw, w.before args s = true) (hK : Kn G true s) (hW : Ws G true M s H locs)
    (hM : Met l y (wsM y bytes mx ret) (rmD d') (PreM G true (.ref (G.2.2.2.2.1 o) :: As) M) Qc 0 0 (Aw G true)) (hdd : d' < d) (hn : As.length = n) (hsz : ls.size = nL) (hst : st = As.reverse ++ .ref (G.2.2.2.2.1 o) :: rest) (hrm : (rest.map fun v => v.category).sum ≤ 8) (hdg : decode cc pc = .ok (.invokevirtual idx, 3)) :
    va_Run p l e (rmD d) s m args below meth c H locs 0 0 0 0 (F0 m pc ls st) rest (Qc (Value.ref (G.2.2.2.2.1 o) :: As).toArray) (Aw G true) :=
  va_runV (Ts := gw) (own := own) (C := "java/lang/String") ⟨hx, hb, hml, hown, hg⟩ hM ⟨callB_of n hg (goodIn_wsM w4) rfl rfl rfl (hg _ w3) (hg _ w1) hd ⟨hdd, by show 8 + (mx + 11) + 40 * d' ≤ 40 * d; omega⟩, hg _ w2, hg _ w5⟩ ⟨PreM.blind, vk_recv (hK.2.2.2 rfl).1 ho hW.2, fun U hU hWm => ⟨rfl, by rw [hU]; exact hW.1, hK.move hW.2 hU hWm⟩⟩ rfl hn hsz hst (lv_room hrm) hdg ⟨Nat.le_refl 0, Nat.le_refl 0⟩
end TEXTS
theorem c_J0_coder_7d493 (l : Launch) (G : GT) {o : Nat} (ho : o < 5) (M : Mem) : CMi l G true yJ0_coder_7d493 cJ0_coder_7d493 1 (some .byte) 0 [.ref (G.2.2.2.2.1 o)] M 0 M := by
  refine CMi.ofT (by decide) (Nat.le_of_ble_eq_true rfl) rfl ?_
  intro p e s m args below meth c Q hx hb hml hown hg hK hW hret ls hl
  have hl : lv_has ls 1 [(0, .ref (G.2.2.2.2.1 o))] := hl
  refine va_gets hx hb (hK.2.2.2 rfl).2.2.1 hW.2 hown (hg _ g_362) (fun _ h => h) dJ0_coder_7d493_0 ?_
  refine lv_if_eq (tgt := 13) hx hb dJ0_coder_7d493_3 (by decide) (fun q => absurd q (by decide)) (fun _ => ?_)
  refine lv_aload_n hx hb dJ0_coder_7d493_6 rfl (lv_at hl 0 rfl) ?_
  refine vk_getf hx hb ((hK.2.2.2 rfl).1.1 o ho).2.1 hW.2 hown (hg _ g_1281) (fun _ h => h) dJ0_coder_7d493_7 ?_
  refine lv_goto (tgt := 14) hx hb dJ0_coder_7d493_10 (by decide) ?_
  exact hret _ _ _ _ hW dJ0_coder_7d493_14
theorem c_J0_isLatin1_aae02 (l : Launch) (G : GT) {o : Nat} (ho : o < 5) (M : Mem) : CMi l G true yJ0_isLatin1_aae02 cJ0_isLatin1_aae02 1 (some .boolean) 0 [.ref (G.2.2.2.2.1 o)] M 1 M := by
  refine CMi.ofT (by decide) (Nat.le_of_ble_eq_true rfl) rfl ?_
  intro p e s m args below meth c Q hx hb hml hown hg hK hW hret ls hl
  have hl : lv_has ls 1 [(0, .ref (G.2.2.2.2.1 o))] := hl
  refine va_gets hx hb (hK.2.2.2 rfl).2.2.1 hW.2 hown (hg _ g_362) (fun _ h => h) dJ0_isLatin1_aae02_0 ?_
  refine lv_if_eq (tgt := 17) hx hb dJ0_isLatin1_aae02_3 (by decide) (fun q => absurd q (by decide)) (fun _ => ?_)
  refine lv_aload_n hx hb dJ0_isLatin1_aae02_6 rfl (lv_at hl 0 rfl) ?_
  refine vk_getf hx hb ((hK.2.2.2 rfl).1.1 o ho).2.1 hW.2 hown (hg _ g_1281) (fun _ h => h) dJ0_isLatin1_aae02_7 ?_
  refine lv_if_ne (tgt := 17) hx hb dJ0_isLatin1_aae02_10 (by decide) (fun q => absurd rfl q) (fun _ => ?_)
  refine lv_iconst (v := (1 : Int32)) hx hb dJ0_isLatin1_aae02_13 (by decide) ?_
  refine lv_goto (tgt := 18) hx hb dJ0_isLatin1_aae02_14 (by decide) ?_
  exact hret _ _ _ _ hW dJ0_isLatin1_aae02_18
theorem sh0_ok : ∀ o : Nat, o < 5 → nI (sLen.getD o 0) >>> ((0 : Int32) &&& 31) = nI (sLen.getD o 0) := by decide +kernel
theorem c_J0_length_8abf5 (l : Launch) (G : GT) {o : Nat} (ho : o < 5) (M : Mem) : CMi l G true yJ0_length_8abf5 cJ0_length_8abf5 1 (some .int) 1 [.ref (G.2.2.2.2.1 o)] M (nI (sLen.getD o 0)) M := by
  refine CMi.of (by decide) (Nat.le_of_ble_eq_true rfl) ?_
  intro p e s m args below meth c Q hx hb hml hown hg hK hW hret ls hl
  have hl : lv_has ls 1 [(0, .ref (G.2.2.2.2.1 o))] := hl
  refine lv_aload_n hx hb dJ0_length_8abf5_0 rfl (lv_at hl 0 rfl) ?_
  refine vk_getf hx hb ((hK.2.2.2 rfl).1.1 o ho).2.2.1 hW.2 hown (hg _ g_1280) (fun _ h => h) dJ0_length_8abf5_1 ?_
  refine va_tlen hx hb ((hK.2.2.2 rfl).1.1 o ho).2.2.2 hW.2 (v := nI (sLen.getD o 0)) rfl dJ0_length_8abf5_4 ?_
  refine lv_aload_n hx hb dJ0_length_8abf5_5 rfl (lv_at hl 0 rfl) ?_
  refine cl_i (rn_VT g_358 g_359 g_360 g_10 g_361 hd_J0_coder_7d493 (Nat.le_of_ble_eq_true rfl) ho hx hb hml hown hg hK hW (As := []) (c_J0_coder_7d493 l G ho M) (by decide) rfl hl.1 rfl (Nat.le_of_ble_eq_true rfl) dJ0_length_8abf5_6) hW (fun H locs hW => ?_)
  refine lv_ishr hx hb dJ0_length_8abf5_9 ?_
  rw [sh0_ok o ho]
  exact hret _ _ _ _ hW dJ0_length_8abf5_10
theorem c_J3_checkIndex_N (l : Launch) (G : GT) {i n : Int32} (h0 : ¬ i < 0) (h1 : i < n) (M : Mem) : CMi l G true yJ3_checkIndex_8e157 cJ3_checkIndex_8e157 3 (some .int) 0 [.int i, .int n, .null] M i M := by
  refine CMi.of (by decide) (Nat.le_of_ble_eq_true rfl) ?_
  intro p e s m args below meth c Q hx hb hml hown hg hK hW hret ls hl
  have hl : lv_has ls 3 [(0, .int i), (1, .int n), (2, .null)] := hl
  refine lv_iload_n hx hb dJ3_checkIndex_8e157_0 rfl (lv_at hl 0 rfl) ?_
  refine lv_if_lt (tgt := 9) hx hb dJ3_checkIndex_8e157_1 (by decide) (fun q => absurd q h0) (fun _ => ?_)
  refine lv_iload_n hx hb dJ3_checkIndex_8e157_4 rfl (lv_at hl 0 rfl) ?_
  refine lv_iload_n hx hb dJ3_checkIndex_8e157_5 rfl (lv_at hl 1 rfl) ?_
  refine lv_icmp_lt (tgt := 16) hx hb dJ3_checkIndex_8e157_6 (by decide) (fun _ => ?_) (fun q => absurd h1 q)
  refine lv_iload_n hx hb dJ3_checkIndex_8e157_16 rfl (lv_at hl 0 rfl) ?_
  exact hret _ _ _ _ hW dJ3_checkIndex_8e157_17
theorem c_J3_checkIndex_R (l : Launch) (G : GT) {i n : Int32} (h0 : ¬ i < 0) (h1 : i < n) (q : Nat) (M : Mem) : CMi l G true yJ3_checkIndex_8e157 cJ3_checkIndex_8e157 3 (some .int) 0 [.int i, .int n, .ref q] M i M := by
  refine CMi.of (by decide) (Nat.le_of_ble_eq_true rfl) ?_
  intro p e s m args below meth c Q hx hb hml hown hg hK hW hret ls hl
  have hl : lv_has ls 3 [(0, .int i), (1, .int n), (2, .ref q)] := hl
  refine lv_iload_n hx hb dJ3_checkIndex_8e157_0 rfl (lv_at hl 0 rfl) ?_
  refine lv_if_lt (tgt := 9) hx hb dJ3_checkIndex_8e157_1 (by decide) (fun q => absurd q h0) (fun _ => ?_)
  refine lv_iload_n hx hb dJ3_checkIndex_8e157_4 rfl (lv_at hl 0 rfl) ?_
  refine lv_iload_n hx hb dJ3_checkIndex_8e157_5 rfl (lv_at hl 1 rfl) ?_
  refine lv_icmp_lt (tgt := 16) hx hb dJ3_checkIndex_8e157_6 (by decide) (fun _ => ?_) (fun q => absurd h1 q)
  refine lv_iload_n hx hb dJ3_checkIndex_8e157_16 rfl (lv_at hl 0 rfl) ?_
  exact hret _ _ _ _ hW dJ3_checkIndex_8e157_17
theorem c_J0_checkIndex_df160 (l : Launch) (G : GT) {i n : Int32} (h0 : ¬ i < 0) (h1 : i < n) (M : Mem) : CMv l G true yJ0_checkIndex_df160 cJ0_checkIndex_df160 2 none 1 [.int i, .int n] M M := by
  refine CMv.of (by decide) (Nat.le_of_ble_eq_true rfl) ?_
  intro p e s m args below meth c Q hx hb hml hown hg hK hW hret ls hl
  have hl : lv_has ls 2 [(0, .int i), (1, .int n)] := hl
  refine lv_iload_n hx hb dJ0_checkIndex_df160_0 rfl (lv_at hl 0 rfl) ?_
  refine lv_iload_n hx hb dJ0_checkIndex_df160_1 rfl (lv_at hl 1 rfl) ?_
  rcases (hK.2.2.2 rfl).2.2.2 with hZ | ⟨q, hZ⟩
  · refine va_gets hx hb hZ hW.2 hown (hg _ g_378) (fun _ h => h) dJ0_checkIndex_df160_2 ?_
    refine cl_i (rn_S g_380 g_381 g_12 g_382 hd_J3_checkIndex_8e157 (Nat.le_of_ble_eq_true rfl) hx hb hml hown hg hK hW (As := [.int i, .int n, .null]) (c_J3_checkIndex_N l G h0 h1 M) (by decide) rfl hl.1 rfl (Nat.le_of_ble_eq_true rfl) dJ0_checkIndex_df160_5) hW (fun H locs hW => ?_)
    refine lv_pop hx hb dJ0_checkIndex_df160_8 rfl ?_
    exact hret _ _ _ _ hW dJ0_checkIndex_df160_9
  · refine va_gets hx hb hZ hW.2 hown (hg _ g_378) (fun _ h => h) dJ0_checkIndex_df160_2 ?_
    refine cl_i (rn_S g_380 g_381 g_12 g_382 hd_J3_checkIndex_8e157 (Nat.le_of_ble_eq_true rfl) hx hb hml hown hg hK hW (As := [.int i, .int n, .ref q]) (c_J3_checkIndex_R l G h0 h1 q M) (by decide) rfl hl.1 rfl (Nat.le_of_ble_eq_true rfl) dJ0_checkIndex_df160_5) hW (fun H locs hW => ?_)
    refine lv_pop hx hb dJ0_checkIndex_df160_8 rfl ?_
    exact hret _ _ _ _ hW dJ0_checkIndex_df160_9
def chS (o : Nat) (i : Int32) : Option Int32 := if i < 0 ∨ sLen.getD o 0 ≤ i.toNatClampNeg then none else some ((sByt.getD o []).getD i.toNatClampNeg 0)
theorem chS_s {o : Nat} {i v : Int32} (h : chS o i = some v) : vp_in i (sLen.getD o 0) ∧ v = (sByt.getD o []).getD i.toNatClampNeg 0 := by
  unfold chS at h
  by_cases hc : i < 0 ∨ sLen.getD o 0 ≤ i.toNatClampNeg
  · rw [if_pos hc] at h; cases h
  · rw [if_neg hc] at h; cases h; exact ⟨hc, rfl⟩
theorem sByt_ok : ∀ o : Nat, o < 5 → ∀ j : Nat, j < 6 → ((((sByt.getD o []).getD j 0) &&& 255).toUInt32 % 65536).toInt32 = (sByt.getD o []).getD j 0 ∧ narrow .char (.int ((sByt.getD o []).getD j 0)) = .int ((sByt.getD o []).getD j 0) := by decide +kernel
theorem sLen_ok : ∀ o : Nat, o < 5 → sLen.getD o 0 ≤ 6 := by decide +kernel
theorem c_J1_charAt_3b067 (l : Launch) (G : GT) {o : Nat} (ho : o < 5) (i : Int32) (M : Mem) {r : Int32} (hk : chS o i = some r) : CMi l G true yJ1_charAt_3b067 cJ1_charAt_3b067 2 (some .char) 2 [.ref (G.2.2.2.2.2 o), .int i] M r M := by
  obtain ⟨hi, hr⟩ := chS_s hk
  have hlt : i.toNatClampNeg < sLen.getD o 0 := Nat.not_le.mp fun q => hi (Or.inr q)
  have h6 := sLen_ok o ho
  obtain ⟨e1, e2⟩ := sByt_ok o ho _ (Nat.lt_of_lt_of_le hlt h6)
  rw [← hr] at e1 e2
  obtain ⟨j, hj, ej⟩ := vp_in_of hi (by omega)
  refine CMi.ofT (by decide) (Nat.le_of_ble_eq_true rfl) e2 ?_
  intro p e s m args below meth c Q hx hb hml hown hg hK hW hret ls hl
  have hl : lv_has ls 2 [(0, .ref (G.2.2.2.2.2 o)), (1, .int i)] := hl
  refine lv_iload_n hx hb dJ1_charAt_3b067_0 rfl (lv_at hl 1 rfl) ?_
  refine lv_aload_n hx hb dJ1_charAt_3b067_1 rfl (lv_at hl 0 rfl) ?_
  refine va_tlen hx hb ((hK.2.2.2 rfl).1.1 o ho).2.2.2 hW.2 (v := nI (sLen.getD o 0)) rfl dJ1_charAt_3b067_2 ?_
  refine cl_v (rn_S g_375 g_376 g_10 g_377 hd_J0_checkIndex_df160 (Nat.le_of_ble_eq_true rfl) hx hb hml hown hg hK hW (As := [.int i, .int (nI (sLen.getD o 0))]) (c_J0_checkIndex_df160 l G (fun q => hi (Or.inl q)) (by rw [ej]; exact nI_lt hj (by omega)) M) (by decide) rfl hl.1 rfl (Nat.le_of_ble_eq_true rfl) dJ1_charAt_3b067_3) hW (fun H locs hW => ?_)
  refine lv_aload_n hx hb dJ1_charAt_3b067_6 rfl (lv_at hl 0 rfl) ?_
  refine lv_iload_n hx hb dJ1_charAt_3b067_7 rfl (lv_at hl 1 rfl) ?_
  refine va_tb hx hb ((hK.2.2.2 rfl).1.1 o ho).2.2.2 hW.2 hi (v := .int r) (by rw [hr]) dJ1_charAt_3b067_8 ?_
  refine lv_sipush (v := (255 : Int32)) hx hb dJ1_charAt_3b067_9 (by decide) ?_
  refine lv_iand hx hb dJ1_charAt_3b067_12 ?_
  refine lv_i2c hx hb dJ1_charAt_3b067_13 e1 ?_
  exact hret _ _ _ _ hW dJ1_charAt_3b067_14
theorem c_J0_charAt_5068e (l : Launch) (G : GT) {o : Nat} (ho : o < 5) (i : Int32) (M : Mem) {r : Int32} (hk : chS o i = some r) : CMi l G true yJ0_charAt_5068e cJ0_charAt_5068e 2 (some .char) 3 [.ref (G.2.2.2.2.1 o), .int i] M r M := by
  obtain ⟨hi, hr⟩ := chS_s hk
  have hlt : i.toNatClampNeg < sLen.getD o 0 := Nat.not_le.mp fun q => hi (Or.inr q)
  have h6 := sLen_ok o ho
  obtain ⟨e1, e2⟩ := sByt_ok o ho _ (Nat.lt_of_lt_of_le hlt h6)
  rw [← hr] at e2
  refine CMi.ofT (by decide) (Nat.le_of_ble_eq_true rfl) e2 ?_
  intro p e s m args below meth c Q hx hb hml hown hg hK hW hret ls hl
  have hl : lv_has ls 2 [(0, .ref (G.2.2.2.2.1 o)), (1, .int i)] := hl
  refine lv_aload_n hx hb dJ0_charAt_5068e_0 rfl (lv_at hl 0 rfl) ?_
  refine cl_i (rn_VT g_368 g_369 g_370 g_10 g_371 hd_J0_isLatin1_aae02 (Nat.le_of_ble_eq_true rfl) ho hx hb hml hown hg hK hW (As := []) (c_J0_isLatin1_aae02 l G ho M) (by decide) rfl hl.1 rfl (Nat.le_of_ble_eq_true rfl) dJ0_charAt_5068e_1) hW (fun H locs hW => ?_)
  refine lv_if_eq (tgt := 16) hx hb dJ0_charAt_5068e_4 (by decide) (fun q => absurd q (by decide)) (fun _ => ?_)
  refine lv_aload_n hx hb dJ0_charAt_5068e_7 rfl (lv_at hl 0 rfl) ?_
  refine vk_getf hx hb ((hK.2.2.2 rfl).1.1 o ho).2.2.1 hW.2 hown (hg _ g_1280) (fun _ h => h) dJ0_charAt_5068e_8 ?_
  refine lv_iload_n hx hb dJ0_charAt_5068e_11 rfl (lv_at hl 1 rfl) ?_
  refine cl_i (rn_S g_372 g_373 g_11 g_374 hd_J1_charAt_3b067 (Nat.le_of_ble_eq_true rfl) hx hb hml hown hg hK hW (As := [.ref (G.2.2.2.2.2 o), .int i]) (c_J1_charAt_3b067 l G ho i M hk) (by decide) rfl hl.1 rfl (Nat.le_of_ble_eq_true rfl) dJ0_charAt_5068e_12) hW (fun H locs hW => ?_)
  exact hret _ _ _ _ hW dJ0_charAt_5068e_15
