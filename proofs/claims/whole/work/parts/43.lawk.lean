/-! the law's own rows: both worlds side by side -/
def m0 : Mem := (fun k => if k = 0 then (fun _ => 0) else if k < 165 then ipR ((k - 1) % 41) else if k = 172 then (fun j => if j = 0 then 20 else 0) else (fun _ => 0), fun k j => if k = 0 then (if j = 12 then 1 else 0) else 0)
def Ij (G : GT) : Prop := ∀ i j : Nat, i < 185 → j < 185 → ad G i = ad G j → i = j
def LKw (G : GT) (s : State) : Prop := Kn G true s ∧ Kn G false s ∧ Ij G ∧ ∀ k : Nat, k < 185 → s.heap.size ≤ ad G k
def LSw (G : GT) (M N : Mem) (s : State) (H : Heap) (locs : List Loc) : Prop := va_P G.1 cl8 (wl G true M) H ∧ va_P G.1 cl8 (wl G false N) H ∧ va_S (fun q : Nat => s.heap.size ≤ q) s.heap H locs
theorem inW_lt {t : Bool} {k : Nat} (h : inW t k) : k < 185 := by
  cases t with
  | true => have h2 := h.2; have e1 : lo true = 0 := rfl; have e2 : ct true = 176 := rfl; omega
  | false => have h2 := h.2; have e1 : lo false = 176 := rfl; have e2 : ct false = 9 := rfl; omega
theorem inW_ne {t : Bool} {i j : Nat} (hi : inW t i) (hj : inW (!t) j) : i ≠ j := by
  have e1 : lo true = 0 := rfl
  have e2 : ct true = 176 := rfl
  have e3 : lo false = 176 := rfl
  have e4 : ct false = 9 := rfl
  cases t with
  | true => have h1 := hi.1; have h2 := hi.2; have h3 := hj.1; have h4 := hj.2; simp only [Bool.not_true] at h3 h4; omega
  | false => have h1 := hi.1; have h2 := hi.2; have h3 := hj.1; have h4 := hj.2; simp only [Bool.not_false] at h3 h4; omega
theorem keepO {G : GT} {t : Bool} {N : Mem} {H H1 : Heap} (hI : Ij G) (hP : va_P G.1 cl8 (wl G (!t) N) H) (hk : ∀ q : Nat, q < H.size → ¬ Aw G t q → H1[q]? = H[q]?) : va_P G.1 cl8 (wl G (!t) N) H1 := by
  refine hP.kept (fun k q hq => ?_)
  obtain ⟨h1, h2⟩ := wl_get hq
  have hlt := (hP k q hq).lt
  subst h2
  refine hk _ hlt (fun h => ?_)
  obtain ⟨j, hj, e⟩ := h
  have hw : inW (!t) (lo (!t) + k) := ⟨Nat.le_add_right _ _, Nat.add_lt_add_left h1 _⟩
  exact inW_ne hj hw (hI _ _ (inW_lt hj) (inW_lt hw) e.symm)
theorem Aw_new {G : GT} {s : State} (h : LKw G s) {t : Bool} : ∀ q, Aw G t q → s.heap.size ≤ q := by
  intro q hq
  obtain ⟨k, hk, e⟩ := hq
  rw [e]
  exact h.2.2.2 k (inW_lt hk)
section LAWCALL
variable {p : Program} {l : Launch} {e : Env} {s : State} {m : MethodId} {args : Array Value} {below : List Frame} {meth : Method} {c : Code} {H : Heap} {locs : List Loc} {Q : State → Prop}
variable {cc : ByteArray} {pc nL cells slots : Nat} {ls : Array Slot} {rest st As : List Value} {G : GT} {M N M' : Mem} {d' : Nat} {own : String} {y : MethodName} {bytes : ByteArray} {mx n idx : Nat} {ret : Option FieldType} {Qc : Array Value → State → Outcome → State → Prop}
theorem lr_x (w1 : Cond.methodLink own idx y ∈ gw) (w2 : Cond.instanceMethod y ∈ gw) (w5 : Cond.selects RX6 y y ∈ gw) (w3 : Cond.initialized y.cls ∈ gw) (w4 : Cond.code y bytes mx ret ∈ gw) (hd : y.cls ≠ "java/lang/invoke/MethodHandle" ∧ y.cls ≠ "java/lang/invoke/VarHandle" ∧ (parseMethodDescriptor y.desc).map (fun d => d.parameters.length) = some n) (hmx : mx ≤ 21)
    (hx : p.tables.exec = Jvm.exec) (hb : c.code = cc) (hml : c.maxLocals = nL) (hown : s.vm.findClass own = some m.cls) (hg : ∀ w ∈ gw, w.before args s = true) (hK : LKw G s) (hW : LSw G M N s H locs)
    (hM : Met l y (wsM y bytes mx ret) (rmD d') (PreM G true (.ref (ad G 0) :: As) M) Qc 0 0 (Aw G true)) (hdd : d' ≤ 100) (hn : As.length = n) (hsz : ls.size = nL) (hst : st = As.reverse ++ .ref (ad G 0) :: rest) (hrm : (rest.map fun v => v.category).sum ≤ 8) (hdg : decode cc pc = .ok (.invokevirtual idx, 3)) (hc : cells ≤ 600000) (hs : slots ≤ 7302250) :
    va_Run p l e room_1 s m args below meth c H locs cells slots 0 0 (F0 m pc ls st) rest (Qc (Value.ref (ad G 0) :: As).toArray) (Aw G true) :=
  va_runV (Ts := gw) (own := own) (C := RX6) ⟨hx, hb, hml, hown, hg⟩ hM ⟨callB_of n hg (goodIn_wsM w4) rfl rfl rfl (hg _ w3) (hg _ w1) hd ⟨by show d' + 1 ≤ 2048; omega, by show 8 + (mx + 11) + 40 * d' ≤ 84000; omega⟩, hg _ w2, hg _ w5⟩ ⟨PreM.blind, va_recv hK.1.1 hW.1 (ci := 6) rfl (q0 := 0 - lo true) (fs := fs6 G (M.1 0) (M.2 0)) (by rw [wl_at (inC kd_0 rfl), shp6 kd_0]), fun U hU hWm => ⟨rfl, by rw [hU]; exact hW.1, va_K.moved hWm.alike hK.1.1, NW.warm hWm hK.1.2.1, hK.1.2.2.1, by rw [hU]; exact hK.1.2.2.2.move hWm (fun q h1 _ => hW.2.2.2.1 q h1 (fun z => absurd h1 (by omega)))⟩⟩ rfl hn hsz hst (lv_room hrm) hdg ⟨hc, hs⟩
theorem lr_y (w1 : Cond.methodLink own idx y ∈ gw) (w2 : Cond.instanceMethod y ∈ gw) (w5 : Cond.selects RX7 y y ∈ gw) (w3 : Cond.initialized y.cls ∈ gw) (w4 : Cond.code y bytes mx ret ∈ gw) (hd : y.cls ≠ "java/lang/invoke/MethodHandle" ∧ y.cls ≠ "java/lang/invoke/VarHandle" ∧ (parseMethodDescriptor y.desc).map (fun d => d.parameters.length) = some n) (hmx : mx ≤ 21)
    (hx : p.tables.exec = Jvm.exec) (hb : c.code = cc) (hml : c.maxLocals = nL) (hown : s.vm.findClass own = some m.cls) (hg : ∀ w ∈ gw, w.before args s = true) (hK : LKw G s) (hW : LSw G M N s H locs)
    (hM : Met l y (wsM y bytes mx ret) (rmD d') (PreM G false (.ref (ad G 176) :: As) N) Qc 0 0 (Aw G false)) (hdd : d' ≤ 100) (hn : As.length = n) (hsz : ls.size = nL) (hst : st = As.reverse ++ .ref (ad G 176) :: rest) (hrm : (rest.map fun v => v.category).sum ≤ 8) (hdg : decode cc pc = .ok (.invokevirtual idx, 3)) (hc : cells ≤ 600000) (hs : slots ≤ 7302250) :
    va_Run p l e room_1 s m args below meth c H locs cells slots 0 0 (F0 m pc ls st) rest (Qc (Value.ref (ad G 176) :: As).toArray) (Aw G false) :=
  va_runV (Ts := gw) (own := own) (C := RX7) ⟨hx, hb, hml, hown, hg⟩ hM ⟨callB_of n hg (goodIn_wsM w4) rfl rfl rfl (hg _ w3) (hg _ w1) hd ⟨by show d' + 1 ≤ 2048; omega, by show 8 + (mx + 11) + 40 * d' ≤ 84000; omega⟩, hg _ w2, hg _ w5⟩ ⟨PreM.blind, va_recv hK.1.1 hW.2.1 (ci := 7) rfl (q0 := 176 - lo false) (fs := fs7 G (N.1 176) (N.2 176)) (by rw [wl_at (inM kd_176 rfl), shp7 kd_176]), fun U hU hWm => ⟨rfl, by rw [hU]; exact hW.2.1, va_K.moved hWm.alike hK.2.1.1, NW.warm hWm hK.2.1.2.1, hK.2.1.2.2.1, fun z => absurd z (by decide)⟩⟩ rfl hn hsz hst (lv_room hrm) hdg ⟨hc, hs⟩
variable {a : Array Value}
theorem lx_i {r : Int32} (hr : va_Run p l e room_1 s m args below meth c H locs cells slots 0 0 (F0 m pc ls st) rest (PstI G true r M' a) (Aw G true)) (hK : LKw G s) (hW : LSw G M N s H locs) (kk : ∀ (H1 : Heap) (locs1 : List Loc), LSw G M' N s H1 locs1 → W p l e room_1 s m args below meth c H1 locs1 cells slots Q (F0 m (pc + 3) ls (.int r :: rest))) : W p l e room_1 s m args below meth c H locs cells slots Q (F0 m pc ls st) :=
  va_calli hr hW.2.2 (fun q _ h => Aw_new hK q h) (fun q h => Aw_new hK q h) (fun r1 u t1 H1 locs1 ht _ hp hB _ hk hS => by
    subst hp
    exact kk H1 locs1 ⟨by rw [← ht]; exact hB, keepO (t := true) hK.2.2.1 hW.2.1 hk, hS⟩)
theorem lx_l {r : Int64} (hr : va_Run p l e room_1 s m args below meth c H locs cells slots 0 0 (F0 m pc ls st) rest (PstL G true r M' a) (Aw G true)) (hK : LKw G s) (hW : LSw G M N s H locs) (kk : ∀ (H1 : Heap) (locs1 : List Loc), LSw G M' N s H1 locs1 → W p l e room_1 s m args below meth c H1 locs1 cells slots Q (F0 m (pc + 3) ls (.long r :: rest))) : W p l e room_1 s m args below meth c H locs cells slots Q (F0 m pc ls st) :=
  va_calll hr hW.2.2 (fun q _ h => Aw_new hK q h) (fun q h => Aw_new hK q h) (fun r1 u t1 H1 locs1 ht _ hp hB _ hk hS => by
    subst hp
    exact kk H1 locs1 ⟨by rw [← ht]; exact hB, keepO (t := true) hK.2.2.1 hW.2.1 hk, hS⟩)
theorem ly_i {r : Int32} (hr : va_Run p l e room_1 s m args below meth c H locs cells slots 0 0 (F0 m pc ls st) rest (PstI G false r M' a) (Aw G false)) (hK : LKw G s) (hW : LSw G M N s H locs) (kk : ∀ (H1 : Heap) (locs1 : List Loc), LSw G M M' s H1 locs1 → W p l e room_1 s m args below meth c H1 locs1 cells slots Q (F0 m (pc + 3) ls (.int r :: rest))) : W p l e room_1 s m args below meth c H locs cells slots Q (F0 m pc ls st) :=
  va_calli hr hW.2.2 (fun q _ h => Aw_new hK q h) (fun q h => Aw_new hK q h) (fun r1 u t1 H1 locs1 ht _ hp hB _ hk hS => by
    subst hp
    exact kk H1 locs1 ⟨keepO (t := false) hK.2.2.1 hW.1 hk, by rw [← ht]; exact hB, hS⟩)
theorem ly_l {r : Int64} (hr : va_Run p l e room_1 s m args below meth c H locs cells slots 0 0 (F0 m pc ls st) rest (PstL G false r M' a) (Aw G false)) (hK : LKw G s) (hW : LSw G M N s H locs) (kk : ∀ (H1 : Heap) (locs1 : List Loc), LSw G M M' s H1 locs1 → W p l e room_1 s m args below meth c H1 locs1 cells slots Q (F0 m (pc + 3) ls (.long r :: rest))) : W p l e room_1 s m args below meth c H locs cells slots Q (F0 m pc ls st) :=
  va_calll hr hW.2.2 (fun q _ h => Aw_new hK q h) (fun q h => Aw_new hK q h) (fun r1 u t1 H1 locs1 ht _ hp hB _ hk hS => by
    subst hp
    exact kk H1 locs1 ⟨keepO (t := false) hK.2.2.1 hW.1 hk, by rw [← ht]; exact hB, hS⟩)
end LAWCALL
