/-! rows over the world -/
section WROWS
variable {p : Program} {l : Launch} {e : Env} {R : Room} {s : State} {m : MethodId} {args : Array Value} {below : List Frame} {meth : Method} {c : Code} {H : Heap} {locs : List Loc} {cells slots : Nat} {Q : State → Prop}
variable {cc : ByteArray} {pc : Nat} {ls : Array Slot} {rest : List Value} {G : GT} {t : Bool} {M : Mem}
theorem w_get (hx : p.tables.exec = Jvm.exec) (hb : c.code = cc) {own C : String} {T : u_T} {N ci index : Nat} (hg : ∀ w ∈ gw, w.before args s = true) (hin : ∀ w ∈ u_ws C T N, w ∈ gw) (hown : s.vm.findClass own = some m.cls) (hK : Kn G t s) (hW : Ws G t M s H locs) {k : Nat} (hk : inW t k) {fs : List Value} (hsh : shp G k (M.1 k) (M.2 k) = .inr (ci, fs)) (hc : cl8[ci]? = some (C, T, N)) (j : Nat) (hj : j < N) (hlink : Cond.fieldLink own index (T j).1 (T j).2.1 (T j).2.2.1 ∈ gw) {v : Value} (hv : fs[j]? = some v) (hdg : decode cc pc = .ok (.getfield index, 3))
    (kk : W p l e R s m args below meth c H locs cells slots Q (F0 m (pc + 3) ls (v :: rest))) : W p l e R s m args below meth c H locs cells slots Q (F0 m pc ls (.ref (ad G k) :: rest)) :=
  va_get hx hb hg hin hown hK.1 hW.1 (k - lo t) (by rw [wl_at hk, hsh]) hc j hj (hg _ hlink) (fun _ h => h) hv hdg kk
theorem w_getN (hx : p.tables.exec = Jvm.exec) (hb : c.code = cc) {own C host : String} {T : u_T} {N ci index : Nat} (hg : ∀ w ∈ gw, w.before args s = true) (hin : ∀ w ∈ u_ws C T N, w ∈ gw) (hown : s.vm.findClass own = some m.cls) (hK : Kn G t s) (hW : Ws G t M s H locs) {k : Nat} (hk : inW t k) {fs : List Value} (hsh : shp G k (M.1 k) (M.2 k) = .inr (ci, fs)) (hc : cl8[ci]? = some (C, T, N)) (j : Nat) (hj : j < N) (hlink : Cond.fieldLinkNest own index (T j).1 (T j).2.1 (T j).2.2.1 host ∈ nstW) {v : Value} (hv : fs[j]? = some v) (hdg : decode cc pc = .ok (.getfield index, 3))
    (kk : W p l e R s m args below meth c H locs cells slots Q (F0 m (pc + 3) ls (v :: rest))) : W p l e R s m args below meth c H locs cells slots Q (F0 m pc ls (.ref (ad G k) :: rest)) :=
  va_getN hx hb hg hin hown hK.1 hW.1 (k - lo t) (by rw [wl_at hk, hsh]) hc j hj (va_Nw.use rfl (hK.2.1 _ hlink)) (fun _ h => h) hv hdg kk
theorem w_put (hx : p.tables.exec = Jvm.exec) (hb : c.code = cc) {own C : String} {T : u_T} {N ci index : Nat} (hg : ∀ w ∈ gw, w.before args s = true) (hin : ∀ w ∈ u_ws C T N, w ∈ gw) (ty0 : Nat → FieldType) (hty : ∀ k, k < N → parseFieldDescriptor (T k).2.2.1 = some (ty0 k)) (hnm : ∀ a, a < N → ∀ b, b < N → a ≠ b → (T a).2.1 ≠ (T b).2.1) (hown : s.vm.findClass own = some m.cls) (hK : Kn G t s) (hW : Ws G t M s H locs) {k : Nat} (hk : inW t k) {fs : List Value} (hsh : shp G k (M.1 k) (M.2 k) = .inr (ci, fs)) (hc : cl8[ci]? = some (C, T, N)) (j : Nat) (hj : j < N) (hlink : Cond.fieldLink own index (T j).1 (T j).2.1 (T j).2.2.1 ∈ gw) (hfin : (T j).2.2.2 = false) {ty : FieldType} {v : Value} (hd : parseFieldDescriptor (T j).2.2.1 = some ty) (hn : narrow ty v = v) (hfit : fits ty v = true) (hl : j < fs.length) {M' : Mem} (hM : shp G k (M'.1 k) (M'.2 k) = .inr (ci, fs.set j v)) (h1 : ∀ i, i ≠ k → M'.1 i = M.1 i) (h2 : ∀ i, i ≠ k → M'.2 i = M.2 i)
    (hdg : decode cc pc = .ok (.putfield index, 3)) (kk : ∀ (H1 : Heap) (locs1 : List Loc), Ws G t M' s H1 locs1 → W p l e R s m args below meth c H1 locs1 cells slots Q (F0 m (pc + 3) ls rest)) : W p l e R s m args below meth c H locs cells slots Q (F0 m pc ls (v :: .ref (ad G k) :: rest)) :=
  va_put hx hb hg hin ty0 hty hnm hown hK.1 hW.1 (wl_D hK.2.2.1) hW.2 (k - lo t) (by rw [wl_at hk, hsh]) hc j hj (hg _ hlink) (fun _ h => h) hfin hd hn hfit hl hdg (fun H1 locs1 hP _ hS => kk H1 locs1 ⟨by rw [wl_set hk hM h1 h2] at hP; exact hP, hS⟩)
theorem w_putN (hx : p.tables.exec = Jvm.exec) (hb : c.code = cc) {own C host : String} {T : u_T} {N ci index : Nat} (hg : ∀ w ∈ gw, w.before args s = true) (hin : ∀ w ∈ u_ws C T N, w ∈ gw) (ty0 : Nat → FieldType) (hty : ∀ k, k < N → parseFieldDescriptor (T k).2.2.1 = some (ty0 k)) (hnm : ∀ a, a < N → ∀ b, b < N → a ≠ b → (T a).2.1 ≠ (T b).2.1) (hown : s.vm.findClass own = some m.cls) (hK : Kn G t s) (hW : Ws G t M s H locs) {k : Nat} (hk : inW t k) {fs : List Value} (hsh : shp G k (M.1 k) (M.2 k) = .inr (ci, fs)) (hc : cl8[ci]? = some (C, T, N)) (j : Nat) (hj : j < N) (hlink : Cond.fieldLinkNest own index (T j).1 (T j).2.1 (T j).2.2.1 host ∈ nstW) (hfin : (T j).2.2.2 = false) {ty : FieldType} {v : Value} (hd : parseFieldDescriptor (T j).2.2.1 = some ty) (hn : narrow ty v = v) (hfit : fits ty v = true) (hl : j < fs.length) {M' : Mem} (hM : shp G k (M'.1 k) (M'.2 k) = .inr (ci, fs.set j v)) (h1 : ∀ i, i ≠ k → M'.1 i = M.1 i) (h2 : ∀ i, i ≠ k → M'.2 i = M.2 i)
    (hdg : decode cc pc = .ok (.putfield index, 3)) (kk : ∀ (H1 : Heap) (locs1 : List Loc), Ws G t M' s H1 locs1 → W p l e R s m args below meth c H1 locs1 cells slots Q (F0 m (pc + 3) ls rest)) : W p l e R s m args below meth c H locs cells slots Q (F0 m pc ls (v :: .ref (ad G k) :: rest)) :=
  va_putN hx hb hg hin ty0 hty hnm hown hK.1 hW.1 (wl_D hK.2.2.1) hW.2 (k - lo t) (by rw [wl_at hk, hsh]) hc j hj (va_Nw.use rfl (hK.2.1 _ hlink)) (fun _ h => h) hfin hd hn hfit hl hdg (fun H1 locs1 hP _ hS => kk H1 locs1 ⟨by rw [wl_set hk hM h1 h2] at hP; exact hP, hS⟩)
theorem w_ald (hx : p.tables.exec = Jvm.exec) (hb : c.code = cc) (hK : Kn G t s) (hW : Ws G t M s H locs) {k : Nat} (hk : inW t k) (hsh : shp G k (M.1 k) (M.2 k) = .inl (G.2.2.1, ln k, .inl (M.1 k))) {i v : Int32} (hi : vp_in i (ln k)) (hv : v = M.1 k i.toNatClampNeg) (hdg : decode cc pc = .ok (.iaload, 1))
    (kk : W p l e R s m args below meth c H locs cells slots Q (F0 m (pc + 1) ls (.int v :: rest))) : W p l e R s m args below meth c H locs cells slots Q (F0 m pc ls (.int i :: .ref (ad G k) :: rest)) :=
  va_iald hx hb hK.1 hW.1 (k - lo t) 0 (by rw [wl_at hk, hsh]) rfl hi hdg (hv ▸ kk)
theorem w_ast (hx : p.tables.exec = Jvm.exec) (hb : c.code = cc) (hK : Kn G t s) (hW : Ws G t M s H locs) {k : Nat} (hk : inW t k) (hsh : ∀ r : Nat → Int32, shp G k r (M.2 k) = .inl (G.2.2.1, ln k, .inl r)) {i v : Int32} (hi : vp_in i (ln k)) {M' : Mem} (hM : M' = s1 M k i.toNatClampNeg v) (hdg : decode cc pc = .ok (.iastore, 1))
    (kk : ∀ (H1 : Heap) (locs1 : List Loc), Ws G t M' s H1 locs1 → W p l e R s m args below meth c H1 locs1 cells slots Q (F0 m (pc + 1) ls rest)) : W p l e R s m args below meth c H locs cells slots Q (F0 m pc ls (.int v :: .int i :: .ref (ad G k) :: rest)) :=
  va_iast hx hb hK.1 hW.1 (wl_D hK.2.2.1) hW.2 (k - lo t) 0 (by rw [wl_at hk, hsh]) rfl hi hdg (fun H1 locs1 hP _ hS => kk H1 locs1 ⟨by rw [wl_set (M' := M') hk (by rw [hM, s1_k]; exact hsh _) (by rw [hM]; exact s1_o) (by rw [hM]; exact fun _ _ => rfl)] at hP; exact hP, hS⟩)
theorem w_len (hx : p.tables.exec = Jvm.exec) (hb : c.code = cc) (hK : Kn G t s) (hW : Ws G t M s H locs) {k : Nat} (hk : inW t k) (hsh : shp G k (M.1 k) (M.2 k) = .inl (G.2.2.1, ln k, .inl (M.1 k))) (hdg : decode cc pc = .ok (.arraylength, 1))
    (kk : W p l e R s m args below meth c H locs cells slots Q (F0 m (pc + 1) ls (.int (nI (ln k)) :: rest))) : W p l e R s m args below meth c H locs cells slots Q (F0 m pc ls (.ref (ad G k) :: rest)) :=
  va_alen (x := (ln k, .inl (M.1 k))) hx hb hK.1 hW.1 (k - lo t) 0 (by rw [wl_at hk, hsh]) rfl rfl hdg kk
theorem w_lenP (hx : p.tables.exec = Jvm.exec) (hb : c.code = cc) (hK : Kn G t s) (hW : Ws G t M s H locs) {k : Nat} (hk : inW t k) (h9 : kd k = 9) (hdg : decode cc pc = .ok (.arraylength, 1))
    (kk : W p l e R s m args below meth c H locs cells slots Q (F0 m (pc + 1) ls (.int (nI 8) :: rest))) : W p l e R s m args below meth c H locs cells slots Q (F0 m pc ls (.ref (ad G k) :: rest)) :=
  va_alen (x := (8, .inr (.inr (.inr (.inr (fun n => if n < 8 then some (ad G (k + 1 + 3 * n)) else none)))))) hx hb hK.1 hW.1 (k - lo t) 1 (by rw [wl_at hk, shp9 h9]) rfl rfl hdg kk
theorem w_aldP (hx : p.tables.exec = Jvm.exec) (hb : c.code = cc) (hK : Kn G t s) (hW : Ws G t M s H locs) {k : Nat} (hk : inW t k) (h9 : kd k = 9) {i : Int32} {q : Nat} (hi : vp_in i 8) (hq : q = k + 1 + 3 * i.toNatClampNeg) (hdg : decode cc pc = .ok (.aaload, 1))
    (kk : W p l e R s m args below meth c H locs cells slots Q (F0 m (pc + 1) ls (.ref (ad G q) :: rest))) : W p l e R s m args below meth c H locs cells slots Q (F0 m pc ls (.int i :: .ref (ad G k) :: rest)) :=
  va_aldq (f := fun n => if n < 8 then some (ad G (k + 1 + 3 * n)) else none) hx hb hK.1 hW.1 (k - lo t) 1 (by rw [wl_at hk, shp9 h9]) rfl hi hdg (by
    have hlt : i.toNatClampNeg < 8 := Nat.not_le.mp fun z => hi (Or.inr z)
    rw [if_pos hlt, ← hq]
    exact kk)
end WROWS
/-! contracts: from the memory M the method answers r and leaves the memory M' -/
def PreM (G : GT) (t : Bool) (av : List Value) (M : Mem) : Array Value → State → Prop := va_Pc av (fun U => va_P G.1 cl8 (wl G t M) U.heap ∧ Kn G t U)
def PstI (G : GT) (t : Bool) (r : Int32) (M : Mem) : Array Value → State → Outcome → State → Prop := va_Qi (fun v (_ : Unit) => v = r) (fun _ u => va_P G.1 cl8 (wl G t M) u.heap) (Aw G t)
def PstL (G : GT) (t : Bool) (r : Int64) (M : Mem) : Array Value → State → Outcome → State → Prop := va_Ql (fun v (_ : Unit) => v = r) (fun _ u => va_P G.1 cl8 (wl G t M) u.heap) (Aw G t)
def PstV (G : GT) (t : Bool) (M : Mem) : Array Value → State → Outcome → State → Prop := va_Qv (fun (_ : Unit) => True) (fun _ u => va_P G.1 cl8 (wl G t M) u.heap) (Aw G t)
def PstR (G : GT) (t : Bool) (r : Nat) (M : Mem) : Array Value → State → Outcome → State → Prop := va_Qr (fun (_ : Unit) => True) (fun _ a u => a = ad G r ∧ va_P G.1 cl8 (wl G t M) u.heap) (Aw G t)
def CMi (l : Launch) (G : GT) (t : Bool) (y : MethodName) (cc : ByteArray) (mx : Nat) (ret : Option FieldType) (d : Nat) (av : List Value) (M : Mem) (r : Int32) (M' : Mem) : Prop := Met l y (wsM y cc mx ret) (rmD d) (PreM G t av M) (PstI G t r M') 0 0 (Aw G t)
def CMl (l : Launch) (G : GT) (t : Bool) (y : MethodName) (cc : ByteArray) (mx : Nat) (ret : Option FieldType) (d : Nat) (av : List Value) (M : Mem) (r : Int64) (M' : Mem) : Prop := Met l y (wsM y cc mx ret) (rmD d) (PreM G t av M) (PstL G t r M') 0 0 (Aw G t)
def CMv (l : Launch) (G : GT) (t : Bool) (y : MethodName) (cc : ByteArray) (mx : Nat) (ret : Option FieldType) (d : Nat) (av : List Value) (M : Mem) (M' : Mem) : Prop := Met l y (wsM y cc mx ret) (rmD d) (PreM G t av M) (PstV G t M') 0 0 (Aw G t)
def CMr (l : Launch) (G : GT) (t : Bool) (y : MethodName) (cc : ByteArray) (mx : Nat) (ret : Option FieldType) (d : Nat) (av : List Value) (M : Mem) (r : Nat) (M' : Mem) : Prop := Met l y (wsM y cc mx ret) (rmD d) (PreM G t av M) (PstR G t r M') 0 0 (Aw G t)
theorem PreM.blind {G : GT} {t : Bool} {av : List Value} {M : Mem} : FrameBlind (PreM G t av M) := fun a U g mk q => ⟨q.1, q.2.1, q.2.2.calling g mk a⟩
/-- a walk's place: room, code, memory, and where it stands -/
abbrev Wx (p : Program) (l : Launch) (e : Env) (d : Nat) (s : State) (m : MethodId) (args : Array Value) (below : List Frame) (meth : Method) (c : Code) (Q : State → Prop) (H : Heap) (locs : List Loc) (pc : Nat) (ls : Array Slot) (st : List Value) : Prop := W p l e (rmD d) s m args below meth c H locs 0 0 Q (F0 m pc ls st)
theorem CMi.of {l : Launch} {G : GT} {t : Bool} {y : MethodName} {cc : ByteArray} {mx : Nat} {d : Nat} {av : List Value} {M : Mem} {r : Int32} {M' : Mem} (hy : plainName y.cls = true) (hn : (lg_sl av).length ≤ mx)
    (body : ∀ (p : Program) (e : Env) (s : State) (m : MethodId) (args : Array Value) (below : List Frame) (meth : Method) (c : Code) (Q : State → Prop), p.tables.exec = Jvm.exec → c.code = cc → c.maxLocals = mx → s.vm.findClass y.cls = some m.cls → (∀ w ∈ gw, w.before args s = true) → Kn G t s → Ws G t M s s.heap [] → (∀ (H : Heap) (locs : List Loc) (pc : Nat) (ls : Array Slot), Ws G t M' s H locs → decode cc pc = .ok (.ireturn, 1) → Wx p l e d s m args below meth c Q H locs pc ls [.int r]) → ∀ ls : Array Slot, lv_has ls mx (lv_args 0 av) → Wx p l e d s m args below meth c Q s.heap [] 0 ls []) :
    CMi l G t y cc mx (some .int) d av M r M' := by
  refine Met.ofW (cc := cc) (maxL := mx) (ret := some .int) hy rfl ?_
  intro p e s m args below meth c s₁ B hml hv
  obtain ⟨rfl, hP, hK⟩ := hv
  have hts := atoms_spec (ws := wsM y cc mx (some .int)) B.pre
  have hr := B.returns
  have hlocks := B.notSynchronized
  have hl := lv_entry av (n := mx) hn
  rw [lg_entry_eq]
  exact body p e s m _ below meth c _ B.exec B.bytes hml (findClass_of_methodNamed B.named) (fun w hw => hts w (List.mem_cons_of_mem _ hw)) hK ⟨hP, va_S.rf⟩ (fun H locs pc ls hW hdg => W.iret (v := r) B.exec B.bytes hr (fun u hu _ => ⟨⟨r, (), rfl, rfl, by show va_P _ _ _ u.heap; rw [hu]; exact hW.1⟩, hW.2.F hu⟩) hW.2.2.2 hdg hlocks) _ hl
theorem CMi.ofZ {l : Launch} {G : GT} {t : Bool} {y : MethodName} {cc : ByteArray} {mx : Nat} {d : Nat} {av : List Value} {M : Mem} {r : Int32} {M' : Mem} (hy : plainName y.cls = true) (hn : (lg_sl av).length ≤ mx)
    (body : ∀ (p : Program) (e : Env) (s : State) (m : MethodId) (args : Array Value) (below : List Frame) (meth : Method) (c : Code) (Q : State → Prop), p.tables.exec = Jvm.exec → c.code = cc → c.maxLocals = mx → s.vm.findClass y.cls = some m.cls → (∀ w ∈ gw, w.before args s = true) → Kn G t s → Ws G t M s s.heap [] → (∀ (H : Heap) (locs : List Loc) (pc : Nat) (ls : Array Slot), (r = 0 ∨ r = 1) → Ws G t M' s H locs → decode cc pc = .ok (.ireturn, 1) → Wx p l e d s m args below meth c Q H locs pc ls [.int r]) → ∀ ls : Array Slot, lv_has ls mx (lv_args 0 av) → Wx p l e d s m args below meth c Q s.heap [] 0 ls []) :
    CMi l G t y cc mx (some .boolean) d av M r M' := by
  refine Met.ofW (cc := cc) (maxL := mx) (ret := some .boolean) hy rfl ?_
  intro p e s m args below meth c s₁ B hml hv
  obtain ⟨rfl, hP, hK⟩ := hv
  have hts := atoms_spec (ws := wsM y cc mx (some .boolean)) B.pre
  have hr := B.returns
  have hlocks := B.notSynchronized
  have hl := lv_entry av (n := mx) hn
  rw [lg_entry_eq]
  exact body p e s m _ below meth c _ B.exec B.bytes hml (findClass_of_methodNamed B.named) (fun w hw => hts w (List.mem_cons_of_mem _ hw)) hK ⟨hP, va_S.rf⟩ (fun H locs pc ls h01 hW hdg => W.zret (v := r) B.exec B.bytes hr (by rcases h01 with h | h <;> rw [h] <;> rfl) (fun u hu _ => ⟨⟨r, (), rfl, rfl, by show va_P _ _ _ u.heap; rw [hu]; exact hW.1⟩, hW.2.F hu⟩) hW.2.2.2 hdg hlocks) _ hl
theorem CMl.of {l : Launch} {G : GT} {t : Bool} {y : MethodName} {cc : ByteArray} {mx : Nat} {d : Nat} {av : List Value} {M : Mem} {r : Int64} {M' : Mem} (hy : plainName y.cls = true) (hn : (lg_sl av).length ≤ mx)
    (body : ∀ (p : Program) (e : Env) (s : State) (m : MethodId) (args : Array Value) (below : List Frame) (meth : Method) (c : Code) (Q : State → Prop), p.tables.exec = Jvm.exec → c.code = cc → c.maxLocals = mx → s.vm.findClass y.cls = some m.cls → (∀ w ∈ gw, w.before args s = true) → Kn G t s → Ws G t M s s.heap [] → (∀ (H : Heap) (locs : List Loc) (pc : Nat) (ls : Array Slot), Ws G t M' s H locs → decode cc pc = .ok (.lreturn, 1) → Wx p l e d s m args below meth c Q H locs pc ls [.long r]) → ∀ ls : Array Slot, lv_has ls mx (lv_args 0 av) → Wx p l e d s m args below meth c Q s.heap [] 0 ls []) :
    CMl l G t y cc mx (some .long) d av M r M' := by
  refine Met.ofW (cc := cc) (maxL := mx) (ret := some .long) hy rfl ?_
  intro p e s m args below meth c s₁ B hml hv
  obtain ⟨rfl, hP, hK⟩ := hv
  have hts := atoms_spec (ws := wsM y cc mx (some .long)) B.pre
  have hr := B.returns
  have hlocks := B.notSynchronized
  have hl := lv_entry av (n := mx) hn
  rw [lg_entry_eq]
  exact body p e s m _ below meth c _ B.exec B.bytes hml (findClass_of_methodNamed B.named) (fun w hw => hts w (List.mem_cons_of_mem _ hw)) hK ⟨hP, va_S.rf⟩ (fun H locs pc ls hW hdg => W.lret (v := r) B.exec B.bytes hr (fun u hu _ => ⟨⟨r, (), rfl, rfl, by show va_P _ _ _ u.heap; rw [hu]; exact hW.1⟩, hW.2.F hu⟩) hW.2.2.2 hdg hlocks) _ hl
theorem CMv.of {l : Launch} {G : GT} {t : Bool} {y : MethodName} {cc : ByteArray} {mx : Nat} {d : Nat} {av : List Value} {M M' : Mem} (hy : plainName y.cls = true) (hn : (lg_sl av).length ≤ mx)
    (body : ∀ (p : Program) (e : Env) (s : State) (m : MethodId) (args : Array Value) (below : List Frame) (meth : Method) (c : Code) (Q : State → Prop), p.tables.exec = Jvm.exec → c.code = cc → c.maxLocals = mx → s.vm.findClass y.cls = some m.cls → (∀ w ∈ gw, w.before args s = true) → Kn G t s → Ws G t M s s.heap [] → (∀ (H : Heap) (locs : List Loc) (pc : Nat) (ls : Array Slot), Ws G t M' s H locs → decode cc pc = .ok (.return_, 1) → Wx p l e d s m args below meth c Q H locs pc ls []) → ∀ ls : Array Slot, lv_has ls mx (lv_args 0 av) → Wx p l e d s m args below meth c Q s.heap [] 0 ls []) :
    CMv l G t y cc mx none d av M M' := by
  refine Met.ofW (cc := cc) (maxL := mx) (ret := none) hy rfl ?_
  intro p e s m args below meth c s₁ B hml hv
  obtain ⟨rfl, hP, hK⟩ := hv
  have hts := atoms_spec (ws := wsM y cc mx none) B.pre
  have hr := B.returns
  have hlocks := B.notSynchronized
  have hl := lv_entry av (n := mx) hn
  rw [lg_entry_eq]
  exact body p e s m _ below meth c _ B.exec B.bytes hml (findClass_of_methodNamed B.named) (fun w hw => hts w (List.mem_cons_of_mem _ hw)) hK ⟨hP, va_S.rf⟩ (fun H locs pc ls hW hdg => W.vret B.exec B.bytes hr (fun u hu _ => ⟨⟨(), rfl, trivial, by show va_P _ _ _ u.heap; rw [hu]; exact hW.1⟩, hW.2.F hu⟩) hW.2.2.2 hdg hlocks) _ hl
theorem CMr.of {l : Launch} {G : GT} {t : Bool} {y : MethodName} {cc : ByteArray} {mx : Nat} {d : Nat} {av : List Value} {M : Mem} {r : Nat} {M' : Mem} {C : String} (hy : plainName y.cls = true) (hn : (lg_sl av).length ≤ mx)
    (body : ∀ (p : Program) (e : Env) (s : State) (m : MethodId) (args : Array Value) (below : List Frame) (meth : Method) (c : Code) (Q : State → Prop), p.tables.exec = Jvm.exec → c.code = cc → c.maxLocals = mx → s.vm.findClass y.cls = some m.cls → (∀ w ∈ gw, w.before args s = true) → Kn G t s → Ws G t M s s.heap [] → (∀ (H : Heap) (locs : List Loc) (pc : Nat) (ls : Array Slot), Ws G t M' s H locs → decode cc pc = .ok (.areturn, 1) → Wx p l e d s m args below meth c Q H locs pc ls [.ref (ad G r)]) → ∀ ls : Array Slot, lv_has ls mx (lv_args 0 av) → Wx p l e d s m args below meth c Q s.heap [] 0 ls []) :
    CMr l G t y cc mx (some (.object C)) d av M r M' := by
  refine Met.ofW (cc := cc) (maxL := mx) (ret := some (.object C)) hy rfl ?_
  intro p e s m args below meth c s₁ B hml hv
  obtain ⟨rfl, hP, hK⟩ := hv
  have hts := atoms_spec (ws := wsM y cc mx (some (.object C))) B.pre
  have hr := B.returns
  have hlocks := B.notSynchronized
  have hl := lv_entry av (n := mx) hn
  rw [lg_entry_eq]
  exact body p e s m _ below meth c _ B.exec B.bytes hml (findClass_of_methodNamed B.named) (fun w hw => hts w (List.mem_cons_of_mem _ hw)) hK ⟨hP, va_S.rf⟩ (fun H locs pc ls hW hdg => W.aret (v := .ref (ad G r)) B.exec B.bytes hr (Or.inl ⟨_, rfl⟩) (Or.inr ⟨_, rfl⟩) (fun u hu _ => ⟨⟨(), ad G r, rfl, trivial, rfl, by show va_P _ _ _ u.heap; rw [hu]; exact hW.1⟩, hW.2.F hu⟩) hW.2.2.2 hdg hlocks) _ hl
