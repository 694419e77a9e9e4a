section CALLS
variable {p : Program} {l : Launch} {e : Env} {s : State} {m : MethodId} {args : Array Value} {below : List Frame} {meth : Method} {c : Code} {H : Heap} {locs : List Loc} {Q : State → Prop}
variable {cc : ByteArray} {pc nL : Nat} {ls : Array Slot} {rest st As : List Value} {G : GT} {t : Bool} {M M' : Mem} {d d' : Nat} {own host C : String} {y : MethodName} {bytes : ByteArray} {mx n idx : Nat} {ret : Option FieldType} {Qc : Array Value → State → Outcome → State → Prop}
theorem rn_S (w1 : Cond.methodLink own idx y ∈ gw) (w2 : Cond.static y ∈ gw) (w3 : Cond.initialized y.cls ∈ gw) (w4 : Cond.code y bytes mx ret ∈ gw) (hd : y.cls ≠ "java/lang/invoke/MethodHandle" ∧ y.cls ≠ "java/lang/invoke/VarHandle" ∧ (parseMethodDescriptor y.desc).map (fun d => d.parameters.length) = some n) (hmx : mx ≤ 21)
    (hx : p.tables.exec = Jvm.exec) (hb : c.code = cc) (hml : c.maxLocals = nL) (hown : s.vm.findClass own = some m.cls) (hg : ∀ w ∈ gw, w.before args s = true) (hK : Kn G t s) (hW : Ws G t M s H locs)
    (hM : Met l y (wsM y bytes mx ret) (rmD d') (PreM G t As M) Qc 0 0 (Aw G t)) (hdd : d' < d) (hn : As.length = n) (hsz : ls.size = nL) (hst : st = As.reverse ++ rest) (hrm : (rest.map fun v => v.category).sum ≤ 8) (hdg : decode cc pc = .ok (.invokestatic idx, 3)) :
    va_Run p l e (rmD d) s m args below meth c H locs 0 0 0 0 (F0 m pc ls st) rest (Qc As.toArray) (Aw G t) :=
  va_runS (Ts := gw) (own := own) ⟨hx, hb, hml, hown, hg⟩ hM ⟨callB_of n hg (goodIn_wsM w4) rfl rfl rfl (hg _ w3) (hg _ w1) hd ⟨hdd, by show 8 + (mx + 11) + 40 * d' ≤ 40 * d; omega⟩, hg _ w2⟩ ⟨PreM.blind, fun U hU hWm => ⟨rfl, by rw [hU]; exact hW.1, hK.move hW.2 hU hWm⟩⟩ rfl hn hsz hst (lv_room hrm) hdg ⟨Nat.le_refl 0, Nat.le_refl 0⟩
theorem rn_SN (w1 : Cond.methodLinkNest own idx y host ∈ nstW) (w2 : Cond.static y ∈ gw) (w3 : Cond.initialized y.cls ∈ gw) (w4 : Cond.code y bytes mx ret ∈ gw) (hd : y.cls ≠ "java/lang/invoke/MethodHandle" ∧ y.cls ≠ "java/lang/invoke/VarHandle" ∧ (parseMethodDescriptor y.desc).map (fun d => d.parameters.length) = some n) (hmx : mx ≤ 21)
    (hx : p.tables.exec = Jvm.exec) (hb : c.code = cc) (hml : c.maxLocals = nL) (hown : s.vm.findClass own = some m.cls) (hg : ∀ w ∈ gw, w.before args s = true) (hK : Kn G t s) (hW : Ws G t M s H locs)
    (hM : Met l y (wsM y bytes mx ret) (rmD d') (PreM G t As M) Qc 0 0 (Aw G t)) (hdd : d' < d) (hn : As.length = n) (hsz : ls.size = nL) (hst : st = As.reverse ++ rest) (hrm : (rest.map fun v => v.category).sum ≤ 8) (hdg : decode cc pc = .ok (.invokestatic idx, 3)) :
    va_Run p l e (rmD d) s m args below meth c H locs 0 0 0 0 (F0 m pc ls st) rest (Qc As.toArray) (Aw G t) :=
  va_runSN (Ts := gw) (own := own) (host := host) ⟨hx, hb, hml, hown, hg⟩ hM ⟨va_cnB n hg (goodIn_wsM w4) rfl rfl rfl (hK.2.1 _ w1) (hg _ w3) hd ⟨hdd, by show 8 + (mx + 11) + 40 * d' ≤ 40 * d; omega⟩, hg _ w2, trivial⟩ ⟨PreM.blind, fun U hU hWm => ⟨rfl, by rw [hU]; exact hW.1, hK.move hW.2 hU hWm⟩⟩ rfl hn hsz hst (lv_room hrm) hdg ⟨Nat.le_refl 0, Nat.le_refl 0⟩
theorem rn_V {k ci N : Nat} {T : u_T} {fs : List Value} (w1 : Cond.methodLink own idx y ∈ gw) (w2 : Cond.instanceMethod y ∈ gw) (w5 : Cond.selects C y y ∈ gw) (w3 : Cond.initialized y.cls ∈ gw) (w4 : Cond.code y bytes mx ret ∈ gw) (hd : y.cls ≠ "java/lang/invoke/MethodHandle" ∧ y.cls ≠ "java/lang/invoke/VarHandle" ∧ (parseMethodDescriptor y.desc).map (fun d => d.parameters.length) = some n) (hmx : mx ≤ 21) (hc : cl8[ci]? = some (C, T, N)) (hk : inW t k) (hsh : shp G k (M.1 k) (M.2 k) = .inr (ci, fs))
    (hx : p.tables.exec = Jvm.exec) (hb : c.code = cc) (hml : c.maxLocals = nL) (hown : s.vm.findClass own = some m.cls) (hg : ∀ w ∈ gw, w.before args s = true) (hK : Kn G t s) (hW : Ws G t M s H locs)
    (hM : Met l y (wsM y bytes mx ret) (rmD d') (PreM G t (.ref (ad G k) :: As) M) Qc 0 0 (Aw G t)) (hdd : d' < d) (hn : As.length = n) (hsz : ls.size = nL) (hst : st = As.reverse ++ .ref (ad G k) :: rest) (hrm : (rest.map fun v => v.category).sum ≤ 8) (hdg : decode cc pc = .ok (.invokevirtual idx, 3)) :
    va_Run p l e (rmD d) s m args below meth c H locs 0 0 0 0 (F0 m pc ls st) rest (Qc (Value.ref (ad G k) :: As).toArray) (Aw G t) :=
  va_runV (Ts := gw) (own := own) (C := C) ⟨hx, hb, hml, hown, hg⟩ hM ⟨callB_of n hg (goodIn_wsM w4) rfl rfl rfl (hg _ w3) (hg _ w1) hd ⟨hdd, by show 8 + (mx + 11) + 40 * d' ≤ 40 * d; omega⟩, hg _ w2, hg _ w5⟩ ⟨PreM.blind, va_recv hK.1 hW.1 hc (q0 := k - lo t) (fs := fs) (by rw [wl_at hk, hsh]), fun U hU hWm => ⟨rfl, by rw [hU]; exact hW.1, hK.move hW.2 hU hWm⟩⟩ rfl hn hsz hst (lv_room hrm) hdg ⟨Nat.le_refl 0, Nat.le_refl 0⟩
theorem rn_VN {k ci N : Nat} {T : u_T} {fs : List Value} (w1 : Cond.methodLinkNest own idx y host ∈ nstW) (w2 : Cond.instanceMethod y ∈ gw) (w5 : Cond.selects C y y ∈ gw) (w3 : Cond.initialized y.cls ∈ gw) (w4 : Cond.code y bytes mx ret ∈ gw) (hd : y.cls ≠ "java/lang/invoke/MethodHandle" ∧ y.cls ≠ "java/lang/invoke/VarHandle" ∧ (parseMethodDescriptor y.desc).map (fun d => d.parameters.length) = some n) (hmx : mx ≤ 21) (hc : cl8[ci]? = some (C, T, N)) (hk : inW t k) (hsh : shp G k (M.1 k) (M.2 k) = .inr (ci, fs))
    (hx : p.tables.exec = Jvm.exec) (hb : c.code = cc) (hml : c.maxLocals = nL) (hown : s.vm.findClass own = some m.cls) (hg : ∀ w ∈ gw, w.before args s = true) (hK : Kn G t s) (hW : Ws G t M s H locs)
    (hM : Met l y (wsM y bytes mx ret) (rmD d') (PreM G t (.ref (ad G k) :: As) M) Qc 0 0 (Aw G t)) (hdd : d' < d) (hn : As.length = n) (hsz : ls.size = nL) (hst : st = As.reverse ++ .ref (ad G k) :: rest) (hrm : (rest.map fun v => v.category).sum ≤ 8) (hdg : decode cc pc = .ok (.invokevirtual idx, 3)) :
    va_Run p l e (rmD d) s m args below meth c H locs 0 0 0 0 (F0 m pc ls st) rest (Qc (Value.ref (ad G k) :: As).toArray) (Aw G t) :=
  va_runVN (Ts := gw) (own := own) (C := C) (host := host) ⟨hx, hb, hml, hown, hg⟩ hM ⟨va_cnB n hg (goodIn_wsM w4) rfl rfl rfl (hK.2.1 _ w1) (hg _ w3) hd ⟨hdd, by show 8 + (mx + 11) + 40 * d' ≤ 40 * d; omega⟩, hg _ w2, hg _ w5⟩ ⟨PreM.blind, va_recv hK.1 hW.1 hc (q0 := k - lo t) (fs := fs) (by rw [wl_at hk, hsh]), fun U hU hWm => ⟨rfl, by rw [hU]; exact hW.1, hK.move hW.2 hU hWm⟩⟩ rfl hn hsz hst (lv_room hrm) hdg ⟨Nat.le_refl 0, Nat.le_refl 0⟩
variable {a : Array Value}
theorem cl_i {r : Int32} (hr : va_Run p l e (rmD d) s m args below meth c H locs 0 0 0 0 (F0 m pc ls st) rest (PstI G t r M' a) (Aw G t)) (hW : Ws G t M s H locs) (kk : ∀ (H1 : Heap) (locs1 : List Loc), Ws G t M' s H1 locs1 → Wx p l e d s m args below meth c Q H1 locs1 (pc + 3) ls (.int r :: rest)) : Wx p l e d s m args below meth c Q H locs pc ls st :=
  va_calli hr hW.2 (fun _ _ h => h) (fun _ h => h) (fun r1 u t1 H1 locs1 ht _ hp hB _ _ hS => by
    subst hp
    exact kk H1 locs1 ⟨by rw [← ht]; exact hB, hS⟩)
theorem cl_l {r : Int64} (hr : va_Run p l e (rmD d) s m args below meth c H locs 0 0 0 0 (F0 m pc ls st) rest (PstL G t r M' a) (Aw G t)) (hW : Ws G t M s H locs) (kk : ∀ (H1 : Heap) (locs1 : List Loc), Ws G t M' s H1 locs1 → Wx p l e d s m args below meth c Q H1 locs1 (pc + 3) ls (.long r :: rest)) : Wx p l e d s m args below meth c Q H locs pc ls st :=
  va_calll hr hW.2 (fun _ _ h => h) (fun _ h => h) (fun r1 u t1 H1 locs1 ht _ hp hB _ _ hS => by
    subst hp
    exact kk H1 locs1 ⟨by rw [← ht]; exact hB, hS⟩)
theorem cl_v (hr : va_Run p l e (rmD d) s m args below meth c H locs 0 0 0 0 (F0 m pc ls st) rest (PstV G t M' a) (Aw G t)) (hW : Ws G t M s H locs) (kk : ∀ (H1 : Heap) (locs1 : List Loc), Ws G t M' s H1 locs1 → Wx p l e d s m args below meth c Q H1 locs1 (pc + 3) ls rest) : Wx p l e d s m args below meth c Q H locs pc ls st :=
  va_callv hr hW.2 (fun _ _ h => h) (fun _ h => h) (fun u t1 H1 locs1 ht _ _ hB _ _ hS => kk H1 locs1 ⟨by rw [← ht]; exact hB, hS⟩)
theorem cl_r {r : Nat} (hr : va_Run p l e (rmD d) s m args below meth c H locs 0 0 0 0 (F0 m pc ls st) rest (PstR G t r M' a) (Aw G t)) (hW : Ws G t M s H locs) (kk : ∀ (H1 : Heap) (locs1 : List Loc), Ws G t M' s H1 locs1 → Wx p l e d s m args below meth c Q H1 locs1 (pc + 3) ls (.ref (ad G r) :: rest)) : Wx p l e d s m args below meth c Q H locs pc ls st :=
  va_callr hr hW.2 (fun _ _ h => h) (fun _ h => h) (fun u ra t1 H1 locs1 ht _ _ hB _ _ hS => by
    obtain ⟨e1, hB⟩ := hB
    subst e1
    exact kk H1 locs1 ⟨by rw [← ht]; exact hB, hS⟩)
theorem nm_i {x x0 : Int32} {pc : Nat} (h : x = x0) (k : Wx p l e d s m args below meth c Q H locs pc ls (.int x :: rest)) : Wx p l e d s m args below meth c Q H locs pc ls (.int x0 :: rest) := h ▸ k
theorem nm_l {x x0 : Int64} {pc : Nat} (h : x = x0) (k : Wx p l e d s m args below meth c Q H locs pc ls (.long x :: rest)) : Wx p l e d s m args below meth c Q H locs pc ls (.long x0 :: rest) := h ▸ k
theorem mx_i {x y0 : Int32} (w1 : Cond.methodLink own idx Lib.Math.max.name ∈ gw) (w2 : Cond.static Lib.Math.max.name ∈ gw) (w3 : Cond.initialized "java/lang/Math" ∈ gw) (w4 : Cond.code Lib.Math.max.name Lib.Math.max.code 2 (some .int) ∈ gw) (hx : p.tables.exec = Jvm.exec) (hb : c.code = cc) (hml : c.maxLocals = nL) (hown : s.vm.findClass own = some m.cls) (hg : ∀ w ∈ gw, w.before args s = true) (hsz : ls.size = nL) (hd : 0 < d) (hrm : (rest.map fun v => v.category).sum ≤ 8) (hdg : decode cc pc = .ok (.invokestatic idx, 3)) (kk : Wx p l e d s m args below meth c Q H locs (pc + 3) ls (.int (if x < y0 then y0 else x) :: rest)) : Wx p l e d s m args below meth c Q H locs pc ls (.int y0 :: .int x :: rest) :=
  va_mmax (R := rmD d) hx hb (hml.trans hsz.symm) hown (hg _ w1) (hg _ w2) (hg _ w3) (hg _ w4) hd (by show _ + 13 ≤ 40 * d; omega) (Nat.le_refl 0) (Nat.le_refl 0) hdg kk
theorem mn_i {x y0 : Int32} (w1 : Cond.methodLink own idx Lib.Math.min.name ∈ gw) (w2 : Cond.static Lib.Math.min.name ∈ gw) (w3 : Cond.initialized "java/lang/Math" ∈ gw) (w4 : Cond.code Lib.Math.min.name Lib.Math.min.code 2 (some .int) ∈ gw) (hx : p.tables.exec = Jvm.exec) (hb : c.code = cc) (hml : c.maxLocals = nL) (hown : s.vm.findClass own = some m.cls) (hg : ∀ w ∈ gw, w.before args s = true) (hsz : ls.size = nL) (hd : 0 < d) (hrm : (rest.map fun v => v.category).sum ≤ 8) (hdg : decode cc pc = .ok (.invokestatic idx, 3)) (kk : Wx p l e d s m args below meth c Q H locs (pc + 3) ls (.int (if y0 < x then y0 else x) :: rest)) : Wx p l e d s m args below meth c Q H locs pc ls (.int y0 :: .int x :: rest) :=
  va_mmin (R := rmD d) hx hb (hml.trans hsz.symm) hown (hg _ w1) (hg _ w2) (hg _ w3) (hg _ w4) hd (by show _ + 13 ≤ 40 * d; omega) (Nat.le_refl 0) (Nat.le_refl 0) hdg kk
theorem ab_i {x : Int32} (w1 : Cond.methodLink own idx Lib.Math.abs.name ∈ gw) (w2 : Cond.static Lib.Math.abs.name ∈ gw) (w3 : Cond.initialized "java/lang/Math" ∈ gw) (w4 : Cond.code Lib.Math.abs.name Lib.Math.abs.code 1 (some .int) ∈ gw) (hx : p.tables.exec = Jvm.exec) (hb : c.code = cc) (hml : c.maxLocals = nL) (hown : s.vm.findClass own = some m.cls) (hg : ∀ w ∈ gw, w.before args s = true) (hsz : ls.size = nL) (hd : 0 < d) (hrm : (rest.map fun v => v.category).sum ≤ 8) (hdg : decode cc pc = .ok (.invokestatic idx, 3)) (kk : Wx p l e d s m args below meth c Q H locs (pc + 3) ls (.int (if 0 ≤ x then x else 0 - x) :: rest)) : Wx p l e d s m args below meth c Q H locs pc ls (.int x :: rest) :=
  va_mabs (R := rmD d) hx hb (hml.trans hsz.symm) hown (hg _ w1) (hg _ w2) (hg _ w3) (hg _ w4) hd (by show _ + 13 ≤ 40 * d; omega) (Nat.le_refl 0) (Nat.le_refl 0) hdg kk
end CALLS
/-! the words in which the methods are told again -/
def lq {α β : Type} (e : α) (f : α → β) : β := f e
theorem lq_s {α β : Type} {e : α} {f : α → β} {r : β} (h : lq e f = r) : ∃ x, x = e ∧ f x = r := ⟨e, rfl, h⟩
theorem ite_t {c : Prop} [Decidable c] {α : Type} {a b r : α} (h : (if c then a else b) = r) (hc : c) : a = r := by rw [if_pos hc] at h; exact h
theorem ite_f {c : Prop} [Decidable c] {α : Type} {a b r : α} (h : (if c then a else b) = r) (hc : ¬ c) : b = r := by rw [if_neg hc] at h; exact h
def ob {α β : Type} (x : Option α) (f : α → Option β) : Option β := x.bind f
theorem ob_s {α β : Type} {x : Option α} {f : α → Option β} {r : β} (h : ob x f = some r) : ∃ a, x = some a ∧ f a = some r := by
  cases x with
  | none => cases h
  | some a => exact ⟨a, rfl, h⟩
def ob2 {α β γ : Type} (x : Option (α × β)) (f : α → β → Option γ) : Option γ := x.bind (fun y => f y.1 y.2)
theorem ob2_s {α β γ : Type} {x : Option (α × β)} {f : α → β → Option γ} {r : γ} (h : ob2 x f = some r) : ∃ a b, x = some (a, b) ∧ f a b = some r := by
  cases x with
  | none => cases h
  | some y => exact ⟨y.1, y.2, rfl, h⟩
def ob3 {α β γ δ : Type} (x : Option (α × β × γ)) (f : α → β → γ → Option δ) : Option δ := x.bind (fun y => f y.1 y.2.1 y.2.2)
theorem ob3_s {α β γ δ : Type} {x : Option (α × β × γ)} {f : α → β → γ → Option δ} {r : δ} (h : ob3 x f = some r) : ∃ a b c, x = some (a, b, c) ∧ f a b c = some r := by
  cases x with
  | none => cases h
  | some y => exact ⟨y.1, y.2.1, y.2.2, rfl, h⟩
def ob4 {α β γ δ ε : Type} (x : Option (α × β × γ × δ)) (f : α → β → γ → δ → Option ε) : Option ε := x.bind (fun y => f y.1 y.2.1 y.2.2.1 y.2.2.2)
theorem ob4_s {α β γ δ ε : Type} {x : Option (α × β × γ × δ)} {f : α → β → γ → δ → Option ε} {r : ε} (h : ob4 x f = some r) : ∃ a b c d, x = some (a, b, c, d) ∧ f a b c d = some r := by
  cases x with
  | none => cases h
  | some y => exact ⟨y.1, y.2.1, y.2.2.1, y.2.2.2, rfl, h⟩
def ob5 {α β γ δ ε ζ : Type} (x : Option (α × β × γ × δ × ε)) (f : α → β → γ → δ → ε → Option ζ) : Option ζ := x.bind (fun y => f y.1 y.2.1 y.2.2.1 y.2.2.2.1 y.2.2.2.2)
theorem ob5_s {α β γ δ ε ζ : Type} {x : Option (α × β × γ × δ × ε)} {f : α → β → γ → δ → ε → Option ζ} {r : ζ} (h : ob5 x f = some r) : ∃ a b c d e, x = some (a, b, c, d, e) ∧ f a b c d e = some r := by
  cases x with
  | none => cases h
  | some y => exact ⟨y.1, y.2.1, y.2.2.1, y.2.2.2.1, y.2.2.2.2, rfl, h⟩
def oeT {σ ρ : Type} (x : Option (σ ⊕ ρ)) (f : σ → Option ρ) : Option ρ := match x with
  | none => none
  | some (.inl y) => f y
  | some (.inr r) => some r
theorem oeT_s {σ ρ : Type} {x : Option (σ ⊕ ρ)} {f : σ → Option ρ} {res : ρ} (h : oeT x f = some res) : ∃ z, x = some z ∧ (∀ y, z = .inl y → f y = some res) ∧ (∀ r, z = .inr r → some r = some res) := by
  cases x with
  | none => cases h
  | some z =>
    refine ⟨z, rfl, fun y e => ?_, fun r e => ?_⟩
    · subst e; exact h
    · subst e; exact h
def oeI {σ τ ρ : Type} (x : Option (σ ⊕ ρ)) (f : σ → Option (τ ⊕ ρ)) : Option (τ ⊕ ρ) := match x with
  | none => none
  | some (.inl y) => f y
  | some (.inr r) => some (.inr r)
theorem oeI_s {σ τ ρ : Type} {x : Option (σ ⊕ ρ)} {f : σ → Option (τ ⊕ ρ)} {res : τ ⊕ ρ} (h : oeI x f = some res) : ∃ z, x = some z ∧ (∀ y, z = .inl y → f y = some res) ∧ (∀ r, z = .inr r → some (.inr r) = some res) := by
  cases x with
  | none => cases h
  | some z =>
    refine ⟨z, rfl, fun y e => ?_, fun r e => ?_⟩
    · subst e; exact h
    · subst e; exact h
def rd (M : Mem) (a : Nat) (i : Int32) : Option Int32 := if i < 0 ∨ ln a ≤ i.toNatClampNeg then none else some (M.1 a i.toNatClampNeg)
theorem rd_s {M : Mem} {a : Nat} {i v : Int32} (h : rd M a i = some v) : vp_in i (ln a) ∧ v = M.1 a i.toNatClampNeg := by
  unfold rd at h
  by_cases hc : i < 0 ∨ ln a ≤ i.toNatClampNeg
  · rw [if_pos hc] at h; cases h
  · rw [if_neg hc] at h; cases h; exact ⟨hc, rfl⟩
def wr (M : Mem) (a : Nat) (i v : Int32) : Option Mem := if i < 0 ∨ ln a ≤ i.toNatClampNeg then none else some (s1 M a i.toNatClampNeg v)
theorem wr_s {M M' : Mem} {a : Nat} {i v : Int32} (h : wr M a i v = some M') : vp_in i (ln a) ∧ M' = s1 M a i.toNatClampNeg v := by
  unfold wr at h
  by_cases hc : i < 0 ∨ ln a ≤ i.toNatClampNeg
  · rw [if_pos hc] at h; cases h
  · rw [if_neg hc] at h; cases h; exact ⟨hc, rfl⟩
def rdP (k : Nat) (i : Int32) : Option Nat := if i < 0 ∨ 8 ≤ i.toNatClampNeg then none else some (k + 1 + 3 * i.toNatClampNeg)
theorem rdP_s {k q : Nat} {i : Int32} (h : rdP k i = some q) : vp_in i 8 ∧ q = k + 1 + 3 * i.toNatClampNeg := by
  unfold rdP at h
  by_cases hc : i < 0 ∨ 8 ≤ i.toNatClampNeg
  · rw [if_pos hc] at h; cases h
  · rw [if_neg hc] at h; cases h; exact ⟨hc, rfl⟩
def dvI (x y : Int32) : Option Int32 := if y = 0 then none else some (x / y)
theorem dvI_s {x y v : Int32} (h : dvI x y = some v) : ¬ y = 0 ∧ v = x / y := by
  unfold dvI at h
  by_cases hc : y = 0
  · rw [if_pos hc] at h; cases h
  · rw [if_neg hc] at h; cases h; exact ⟨hc, rfl⟩
def rmI (x y : Int32) : Option Int32 := if y = 0 then none else some (x - x / y * y)
theorem rmI_s {x y v : Int32} (h : rmI x y = some v) : ¬ y = 0 ∧ v = x - x / y * y := by
  unfold rmI at h
  by_cases hc : y = 0
  · rw [if_pos hc] at h; cases h
  · rw [if_neg hc] at h; cases h; exact ⟨hc, rfl⟩
def dvL (x y : Int64) : Option Int64 := if y = 0 then none else some (x / y)
theorem dvL_s {x y v : Int64} (h : dvL x y = some v) : ¬ y = 0 ∧ v = x / y := by
  unfold dvL at h
  by_cases hc : y = 0
  · rw [if_pos hc] at h; cases h
  · rw [if_neg hc] at h; cases h; exact ⟨hc, rfl⟩
def rmL (x y : Int64) : Option Int64 := if y = 0 then none else some (x - x / y * y)
theorem rmL_s {x y v : Int64} (h : rmL x y = some v) : ¬ y = 0 ∧ v = x - x / y * y := by
  unfold rmL at h
  by_cases hc : y = 0
  · rw [if_pos hc] at h; cases h
  · rw [if_neg hc] at h; cases h; exact ⟨hc, rfl⟩
def FU : Nat := 4000
/-! kinds that follow from kinds -/
theorem f0_1 : ∀ k : Nat, k < 185 → kd k = 0 → kd (k + 1) = 8 := by decide +kernel
theorem k0_1 {k : Nat} (h : kd k = 0) : kd (k + 1) = 8 := f0_1 k (kd_lt h (by decide)) h
theorem f0_2 : ∀ k : Nat, k < 185 → kd k = 0 → kd (k + 2) = 8 := by decide +kernel
theorem k0_2 {k : Nat} (h : kd k = 0) : kd (k + 2) = 8 := f0_2 k (kd_lt h (by decide)) h
theorem f1_1 : ∀ k : Nat, k < 185 → kd k = 1 → kd (k + 1) = 8 := by decide +kernel
theorem k1_1 {k : Nat} (h : kd k = 1) : kd (k + 1) = 8 := f1_1 k (kd_lt h (by decide)) h
theorem f1_2 : ∀ k : Nat, k < 185 → kd k = 1 → kd (k + 2) = 8 := by decide +kernel
theorem k1_2 {k : Nat} (h : kd k = 1) : kd (k + 2) = 8 := f1_2 k (kd_lt h (by decide)) h
theorem f3_1 : ∀ k : Nat, k < 185 → kd k = 3 → kd (k + 1) = 8 := by decide +kernel
theorem k3_1 {k : Nat} (h : kd k = 3) : kd (k + 1) = 8 := f3_1 k (kd_lt h (by decide)) h
theorem f4_1 : ∀ k : Nat, k < 185 → kd k = 4 → kd (k + 1) = 8 := by decide +kernel
theorem k4_1 {k : Nat} (h : kd k = 4) : kd (k + 1) = 8 := f4_1 k (kd_lt h (by decide)) h
theorem f5_1 : ∀ k : Nat, k < 185 → kd k = 5 → kd (k + 1) = 8 := by decide +kernel
theorem k5_1 {k : Nat} (h : kd k = 5) : kd (k + 1) = 8 := f5_1 k (kd_lt h (by decide)) h
theorem f2_1 : ∀ k : Nat, k < 185 → kd k = 2 → kd (k + 1) = 8 := by decide +kernel
theorem k2_1 {k : Nat} (h : kd k = 2) : kd (k + 1) = 8 := f2_1 k (kd_lt h (by decide)) h
theorem f2_2 : ∀ k : Nat, k < 185 → kd k = 2 → kd (k + 2) = 8 := by decide +kernel
theorem k2_2 {k : Nat} (h : kd k = 2) : kd (k + 2) = 8 := f2_2 k (kd_lt h (by decide)) h
theorem f2_3 : ∀ k : Nat, k < 185 → kd k = 2 → kd (k + 3) = 8 := by decide +kernel
theorem k2_3 {k : Nat} (h : kd k = 2) : kd (k + 3) = 8 := f2_3 k (kd_lt h (by decide)) h
theorem f2_4 : ∀ k : Nat, k < 185 → kd k = 2 → kd (k + 4) = 8 := by decide +kernel
theorem k2_4 {k : Nat} (h : kd k = 2) : kd (k + 4) = 8 := f2_4 k (kd_lt h (by decide)) h
theorem f2_5 : ∀ k : Nat, k < 185 → kd k = 2 → kd (k + 5) = 1 := by decide +kernel
theorem k2_5 {k : Nat} (h : kd k = 2) : kd (k + 5) = 1 := f2_5 k (kd_lt h (by decide)) h
theorem f2_8 : ∀ k : Nat, k < 185 → kd k = 2 → kd (k + 8) = 9 := by decide +kernel
theorem k2_8 {k : Nat} (h : kd k = 2) : kd (k + 8) = 9 := f2_8 k (kd_lt h (by decide)) h
theorem f2_33 : ∀ k : Nat, k < 185 → kd k = 2 → kd (k + 33) = 8 := by decide +kernel
theorem k2_33 {k : Nat} (h : kd k = 2) : kd (k + 33) = 8 := f2_33 k (kd_lt h (by decide)) h
theorem f2_34 : ∀ k : Nat, k < 185 → kd k = 2 → kd (k + 34) = 8 := by decide +kernel
theorem k2_34 {k : Nat} (h : kd k = 2) : kd (k + 34) = 8 := f2_34 k (kd_lt h (by decide)) h
theorem f2_35 : ∀ k : Nat, k < 185 → kd k = 2 → kd (k + 35) = 5 := by decide +kernel
theorem k2_35 {k : Nat} (h : kd k = 2) : kd (k + 35) = 5 := f2_35 k (kd_lt h (by decide)) h
theorem f2_37 : ∀ k : Nat, k < 185 → kd k = 2 → kd (k + 37) = 5 := by decide +kernel
theorem k2_37 {k : Nat} (h : kd k = 2) : kd (k + 37) = 5 := f2_37 k (kd_lt h (by decide)) h
theorem f2_39 : ∀ k : Nat, k < 185 → kd k = 2 → kd (k + 39) = 5 := by decide +kernel
theorem k2_39 {k : Nat} (h : kd k = 2) : kd (k + 39) = 5 := f2_39 k (kd_lt h (by decide)) h
theorem f9_p : ∀ k : Nat, k < 185 → kd k = 9 → ∀ n : Nat, n < 8 → kd (k + 1 + 3 * n) = 1 := by decide +kernel
theorem k9_p {k q : Nat} {i : Int32} (h : kd k = 9) (hi : vp_in i 8) (hq : q = k + 1 + 3 * i.toNatClampNeg) : kd q = 1 := by
  rw [hq]
  exact f9_p k (kd_lt h (by decide)) h _ (Nat.not_le.mp fun z => hi (Or.inr z))
theorem kd_0 : kd 0 = 6 := by decide +kernel
theorem kd_1 : kd 1 = 2 := by decide +kernel
theorem kd_42 : kd 42 = 2 := by decide +kernel
theorem kd_83 : kd 83 = 2 := by decide +kernel
theorem kd_124 : kd 124 = 2 := by decide +kernel
theorem kd_165 : kd 165 = 3 := by decide +kernel
theorem kd_167 : kd 167 = 4 := by decide +kernel
theorem kd_169 : kd 169 = 0 := by decide +kernel
theorem kd_172 : kd 172 = 1 := by decide +kernel
theorem kd_175 : kd 175 = 8 := by decide +kernel
theorem kd_176 : kd 176 = 7 := by decide +kernel
theorem kd_177 : kd 177 = 10 := by decide +kernel
theorem kd_178 : kd 178 = 10 := by decide +kernel
theorem kd_179 : kd 179 = 10 := by decide +kernel
theorem kd_180 : kd 180 = 10 := by decide +kernel
theorem kd_181 : kd 181 = 10 := by decide +kernel
theorem kd_182 : kd 182 = 10 := by decide +kernel
theorem kd_183 : kd 183 = 10 := by decide +kernel
theorem kd_184 : kd 184 = 10 := by decide +kernel
