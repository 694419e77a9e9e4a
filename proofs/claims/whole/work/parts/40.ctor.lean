/-! constructors: what they make -/
def KI (G : GT) (U : State) : Prop := va_K G.1 cl8 (tysG G) U ∧ NW U ∧ va_AO RX1 U
theorem KI.warm {G : GT} {s U : State} (h : KI G s) (hW : s.WarmedH U.vm) : KI G U := ⟨va_K.moved hW.alike h.1, NW.warm hW h.2.1, va_AO.moved hW.alike h.2.2⟩
theorem KI.calling {G : GT} {U : State} (g : JFrame) (mk : MethodId) (a : Array Value) (h : KI G U) : KI G (U.calling g mk a) :=
  ⟨va_K.moved (u := U) (U := U.calling g mk a) (Vm.Alike.refl U.vm) h.1, NW.same (u := U) (U := U.calling g mk a) rfl h.2.1, va_AO.moved (u := U) (U := U.calling g mk a) (Vm.Alike.refl U.vm) h.2.2⟩
abbrev rmI_ (d mc ms : Nat) : Room := { frames := d, cells := mc, slots := ms, locals := 40 * d }
def PreI (G : GT) (av : List Value) (ws : va_W) (sz : Nat) : Array Value → State → Prop := va_Pc av (fun U => U.heap.size = sz ∧ va_P G.1 cl8 ws U.heap ∧ KI G U ∧ va_D (fun _ => True) ws)
def PstW (G : GT) (ws : va_W) (sz : Nat) (P : va_W → Prop) : Array Value → State → Outcome → State → Prop := va_Qv P (fun w t => va_P G.1 cl8 w t.heap ∧ va_D (va_A ws sz) w) (va_A ws sz)
def CI (l : Launch) (G : GT) (y : MethodName) (cc : ByteArray) (mx d mc ms : Nat) (av : List Value) (ws : va_W) (sz : Nat) (P : va_W → Prop) : Prop := Met l y (wsM y cc mx none) (rmI_ d mc ms) (PreI G av ws sz) (PstW G ws sz P) mc ms (va_A ws sz)
theorem PreI.blind {G : GT} {av : List Value} {ws : va_W} {sz : Nat} : FrameBlind (PreI G av ws sz) := fun a U g mk q => ⟨q.1, q.2.1, q.2.2.1, q.2.2.2.1.calling g mk a, q.2.2.2.2⟩
theorem CI.of {l : Launch} {G : GT} {y : MethodName} {cc : ByteArray} {mx d mc ms : Nat} {av : List Value} {ws : va_W} {sz : Nat} {P : va_W → Prop} (hy : plainName y.cls = true) (hn : (lg_sl av).length ≤ mx) (hnm : y.name = "<init>")
    (body : ∀ (p : Program) (e : Env) (s : State) (m : MethodId) (args : Array Value) (below : List Frame) (meth : Method) (c : Code) (Q : State → Prop) (A : Nat → Prop), p.tables.exec = Jvm.exec → c.code = cc → c.maxLocals = mx → s.vm.findClass y.cls = some m.cls → (∀ w ∈ gw, w.before args s = true) → KI G s → meth.name = "<init>" → (∀ q : Nat, s.heap.size ≤ q → A q) → va_P G.1 cl8 ws s.heap → va_D A ws → va_S A s.heap s.heap [] → (∀ (w : va_W) (H : Heap) (locs : List Loc) (pc : Nat) (ls : Array Slot), P w → va_P G.1 cl8 w H → va_D A w → va_S A s.heap H locs → decode cc pc = .ok (.return_, 1) → W p l e (rmI_ d mc ms) s m args below meth c H locs mc ms Q (F0 m pc ls [])) → ∀ ls : Array Slot, lv_has ls mx (lv_args 0 av) → W p l e (rmI_ d mc ms) s m args below meth c s.heap [] 0 0 Q (F0 m 0 ls [])) :
    CI l G y cc mx d mc ms av ws sz P := by
  refine Met.ofW (cc := cc) (maxL := mx) (ret := none) hy rfl ?_
  intro p e s m args below meth c s₁ B hml hv
  obtain ⟨rfl, hsz, hP, hK, hD0⟩ := hv
  have hts := atoms_spec (ws := wsM y cc mx none) B.pre
  have hr := B.returns
  have hlocks := B.notSynchronized
  have hin : meth.name = "<init>" := by rw [← hnm]; exact (name_of_methodNamed B.named B.method).1
  subst hsz
  have hD := hD0.self (sz := s.heap.size)
  have hl := lv_entry av (n := mx) hn
  rw [lg_entry_eq]
  exact body p e s m _ below meth c _ (va_A ws s.heap.size) B.exec B.bytes hml (findClass_of_methodNamed B.named) (fun w hw => hts w (List.mem_cons_of_mem _ hw)) hK hin (fun q h => Or.inr h) hP hD va_S.rf (fun w H locs pc ls hp hP hD hS hdg => W.vret B.exec B.bytes hr (fun u hu _ => ⟨⟨w, rfl, hp, by rw [hu]; exact hP, hD⟩, hS.F hu⟩) hS.2.2 hdg hlocks) _ hl
theorem join_new {A0 : Nat → Prop} {D : va_G} {cl : List vw_C} {ws w1 : va_W} {q : Nat} {e : va_E} {H H1 : Heap} (hP : va_P D cl (ws ++ [(q, e)]) H) (hD : va_D A0 (ws ++ [(q, e)])) (hk : ∀ x : Nat, x < H.size → ¬ va_A [(q, e)] H.size x → H1[x]? = H[x]?) (hF : ∀ x, va_A [(q, e)] H.size x → A0 x) (hP1 : va_P D cl w1 H1) (hD1 : va_D (va_A [(q, e)] H.size) w1) : va_P D cl (ws ++ w1) H1 ∧ va_D A0 (ws ++ w1) := by
  have hl : ∀ (k : Nat) (x : Nat × va_E), ws[k]? = some x → (ws ++ [(q, e)])[k]? = some x := fun k x hx => by rw [List.getElem?_append_left (List.getElem?_eq_some_iff.mp hx).1]; exact hx
  have hq : (ws ++ [(q, e)])[ws.length]? = some (q, e) := by simp
  have apart : ∀ (k : Nat) (x : Nat × va_E), ws[k]? = some x → x.1 < H.size ∧ ¬ va_A [(q, e)] H.size x.1 := by
    intro k x hx
    have h1 := (hP k x (hl k x hx)).lt
    refine ⟨h1, fun h => ?_⟩
    rcases h with ⟨i, e2, h⟩ | h
    · have hi : i = 0 := by
        rcases Nat.eq_zero_or_pos i with h0 | h0
        · exact h0
        · rw [List.getElem?_eq_none (show 1 ≤ _ from h0)] at h; cases h
      subst hi
      have e3 : q = x.1 := by cases h; rfl
      have := hD.1 k ws.length x (q, e) (hl k x hx) hq e3.symm
      have h2 := (List.getElem?_eq_some_iff.mp hx).1
      omega
    · omega
  refine ⟨va_P.app (fun k x hx => (hP k x (hl k x hx)).kept (hk x.1 (apart k x hx).1 (apart k x hx).2)) hP1, va_D.app ⟨fun i j x y hx hy hxy => hD.1 i j x y (hl i x hx) (hl j y hy) hxy, fun k x hx => hD.2 k x (hl k x hx)⟩ (hD1.weaken (fun k x _ h => hF x.1 h)) (fun i j x y hx hy hxy => ?_)⟩
  exact (apart i x hx).2 (by rw [hxy]; exact hD1.2 j y hy)
section CTOR
variable {p : Program} {l : Launch} {e : Env} {R : Room} {s : State} {m : MethodId} {args : Array Value} {below : List Frame} {meth : Method} {c : Code} {H : Heap} {locs : List Loc} {Q : State → Prop} {A : Nat → Prop}
variable {cc : ByteArray} {pc nL cells slots : Nat} {ls : Array Slot} {rest st As : List Value} {G : GT} {ws : va_W} {d d' mc ms mc' ms' : Nat} {own host : String} {y : MethodName} {bytes : ByteArray} {mx n idx : Nat} {P : va_W → Prop} {q : Nat} {e0 : va_E}
theorem ic_N (w1 : Cond.methodLinkNest own idx y host ∈ nstW) (w2 : Cond.instanceMethod y ∈ gw) (w3 : Cond.initialized y.cls ∈ gw) (w4 : Cond.code y bytes mx none ∈ gw) (hd : y.cls ≠ "java/lang/invoke/MethodHandle" ∧ y.cls ≠ "java/lang/invoke/VarHandle" ∧ (parseMethodDescriptor y.desc).map (fun d => d.parameters.length) = some n) (hnm : y.name = "<init>") (hmx : mx ≤ 21)
    (hx : p.tables.exec = Jvm.exec) (hb : c.code = cc) (hml : c.maxLocals = nL) (hown : s.vm.findClass own = some m.cls) (hg : ∀ w ∈ gw, w.before args s = true) (hK : KI G s) (hA : ∀ q : Nat, s.heap.size ≤ q → A q) (hP : va_P G.1 cl8 (ws ++ [(q, e0)]) H) (hD : va_D A (ws ++ [(q, e0)])) (hS : va_S A s.heap H locs)
    (hM : ∀ sz, CI l G y bytes mx d' mc' ms' (.ref q :: As) [(q, e0)] sz P) (hdd : d' < d) (hn : As.length = n) (hsz : ls.size = nL) (hst : st = As.reverse ++ .ref q :: rest) (hrm : (rest.map fun v => v.category).sum ≤ 8) (hdg : decode cc pc = .ok (.invokespecial idx, 3)) (hc : cells + mc' ≤ mc) (hs : slots + ms' ≤ ms)
    (kk : ∀ (w : va_W) (H1 : Heap) (locs1 : List Loc), P w → va_P G.1 cl8 (ws ++ w) H1 → va_D A (ws ++ w) → va_S A s.heap H1 locs1 → W p l e (rmI_ d mc ms) s m args below meth c H1 locs1 (cells + mc') (slots + ms') Q (F0 m (pc + 3) ls rest)) : W p l e (rmI_ d mc ms) s m args below meth c H locs cells slots Q (F0 m pc ls st) := by
  have hq : (ws ++ [(q, e0)])[ws.length]? = some (q, e0) := by simp
  have hsub : ∀ (k : Nat) (x : Nat × va_E), ([(q, e0)] : va_W)[k]? = some x → x = (q, e0) ∧ k = 0 := by
    intro k x h
    rcases Nat.eq_zero_or_pos k with h0 | h0
    · subst h0; cases h; exact ⟨rfl, rfl⟩
    · rw [List.getElem?_eq_none (show 1 ≤ _ from h0)] at h; cases h
  have hPc : va_P G.1 cl8 [(q, e0)] H := fun k x h => by obtain ⟨h1, -⟩ := hsub k x h; subst h1; exact hP _ _ hq
  have hDc : va_D A [(q, e0)] := ⟨fun i j x y h1 h2 _ => by rw [(hsub i x h1).2, (hsub j y h2).2], fun k x h => by obtain ⟨h1, -⟩ := hsub k x h; subst h1; exact hD.2 _ _ hq⟩
  have hF : ∀ x, va_A [(q, e0)] H.size x → A x := by
    intro x h
    rcases h with ⟨k, e1, h⟩ | h
    · obtain ⟨h1, -⟩ := hsub k _ h; cases h1; exact hD.2 _ _ hq
    · exact hA x (Nat.le_trans hS.1 h)
  refine va_callv (va_runIN (Ts := gw) (own := own) (host := host) ⟨hx, hb, hml, hown, hg⟩ (hM H.size) ⟨va_cnB n hg (goodIn_wsM w4) rfl rfl rfl (hK.2.1 _ w1) (hg _ w3) hd ⟨hdd, by show 8 + (mx + 11) + 40 * d' ≤ 40 * d; omega⟩, hnm, hg _ w2⟩ ⟨PreI.blind, fun U hU hWm => ⟨rfl, by rw [hU], by rw [hU]; exact hPc, hK.warm hWm, hDc.weaken (fun _ _ _ _ => trivial)⟩⟩ rfl hn hsz hst (lv_room hrm) hdg ⟨hc, hs⟩) hS (fun x _ h => hF x h) hF (fun w t1 H1 locs1 ht _ hp hB _ hk hS => ?_)
  obtain ⟨hB1, hB2⟩ := hB
  rw [ht] at hB1
  obtain ⟨j1, j2⟩ := join_new hP hD hk hF hB1 hB2
  exact kk w H1 locs1 hp j1 j2 hS
theorem w_newI (w : Cond.arrayClass .int ∈ gw) (hx : p.tables.exec = Jvm.exec) (hb : c.code = cc) (hg : ∀ w ∈ gw, w.before args s = true) (hK : KI G s) (hP : va_P G.1 cl8 ws H) (hD : va_D A ws) (hS : va_S A s.heap H locs) (hA : ∀ q : Nat, s.heap.size ≤ q → A q) {n : Int32} {N : Nat} (hn : ¬ n < 0) (hN : n.toNatClampNeg = N) (hbytes : N * componentBytes .int ≤ 536870912) (hcells : cells + 1 ≤ R.cells) (hslots : slots + N ≤ R.slots) (hdg : decode cc pc = .ok (.newarray .int, 2))
    (kk : ∀ (q : Nat) (H1 : Heap), va_P G.1 cl8 (ws ++ [(q, .inl (G.2.2.1, N, .inl (fun _ => 0)))]) H1 → va_D A (ws ++ [(q, .inl (G.2.2.1, N, .inl (fun _ => 0)))]) → va_S A s.heap H1 locs → W p l e R s m args below meth c H1 locs (cells + 1) (slots + N) Q (F0 m (pc + 2) ls (.ref q :: rest))) : W p l e R s m args below meth c H locs cells slots Q (F0 m pc ls (.int n :: rest)) := by
  refine va_newa (atype := .int) (a0 := (N, .inl (fun _ => 0))) hx hb (hg _ w) rfl hK.1 hP hD hS hA (fun _ => rfl) hn hN hbytes hcells hslots hdg (fun q cA H1 hK1 hP1 hD1 hS1 => ?_)
  have e1 := (hK1.2 2 (cA, .int) rfl).2
  have e2 := (hK.1.2 0 (G.2.2.1, .int) rfl).2
  have e3 : cA = G.2.2.1 := Option.some.inj ((show s.vm.findClass _ = some cA from e1).symm.trans (show s.vm.findClass _ = some G.2.2.1 from e2))
  subst e3
  exact kk q H1 hP1 hD1 hS1
theorem w_newP (hlk : Cond.classLink own idx RX1 ∈ gw) (hx : p.tables.exec = Jvm.exec) (hb : c.code = cc) (hg : ∀ w ∈ gw, w.before args s = true) (hown : s.vm.findClass own = some m.cls) (hK : KI G s) (hP : va_P G.1 cl8 ws H) (hD : va_D A ws) (hS : va_S A s.heap H locs) (hA : ∀ q : Nat, s.heap.size ≤ q → A q) {n : Int32} {N : Nat} (hn : ¬ n < 0) (hN : n.toNatClampNeg = N) (hbytes : N * 4 ≤ 536870912) (hcells : cells + 1 ≤ R.cells) (hslots : slots + N ≤ R.slots) (hdg : decode cc pc = .ok (.anewarray idx, 3))
    (kk : ∀ (q : Nat) (H1 : Heap), va_P G.1 cl8 (ws ++ [(q, .inl (G.2.2.2.1, N, .inr (.inr (.inr (.inr (fun _ => none))))))]) H1 → va_D A (ws ++ [(q, .inl (G.2.2.2.1, N, .inr (.inr (.inr (.inr (fun _ => none))))))]) → va_S A s.heap H1 locs → W p l e R s m args below meth c H1 locs (cells + 1) (slots + N) Q (F0 m (pc + 3) ls (.ref q :: rest))) : W p l e R s m args below meth c H locs cells slots Q (F0 m pc ls (.int n :: rest)) := by
  refine va_newq hx hb hown (hg _ hlk) hK.2.2 hK.1 hP hD hS hA hn hN hbytes hcells hslots hdg (fun q cA H1 hK1 hP1 hD1 hS1 => ?_)
  obtain ⟨_, _, _, _, _, e1⟩ := (hK1.2 2 (cA, .object RX1) rfl).2
  obtain ⟨_, _, _, _, _, e2⟩ := (hK.1.2 1 (G.2.2.2.1, .object RX1) rfl).2
  have e3 : cA = G.2.2.2.1 := Option.some.inj (e1.symm.trans e2)
  subst e3
  exact kk q H1 hP1 hD1 hS1
theorem w_oin (w1 : Cond.methodLink own idx objectInit ∈ gw) (w2 : Cond.instanceMethod objectInit ∈ gw) (w3 : Cond.code objectInit ⟨#[0xb1]⟩ 1 none ∈ gw) (hx : p.tables.exec = Jvm.exec) (hb : c.code = cc) (hml : c.maxLocals = nL) (hown : s.vm.findClass own = some m.cls) (hg : ∀ w ∈ gw, w.before args s = true) (hsz : ls.size = nL) {a : Nat} (hd : 0 < d) (hdg : decode cc pc = .ok (.invokespecial idx, 3))
    (kk : W p l e (rmI_ d mc ms) s m args below meth c H locs cells slots Q (F0 m (pc + 3) ls [])) : W p l e (rmI_ d mc ms) s m args below meth c H locs cells slots Q (F0 m pc ls [.ref a]) :=
  W.objInit hx hb hown (hg _ w1) (hg _ w2) (hg _ w3) rfl (by rw [hml]; exact hsz) rfl hdg hd (by show 2 * 0 + 0 + 12 ≤ 40 * d; omega) kk
end CTOR
theorem va_at.arrI {D : va_G} {cl : List vw_C} {a : Nat} {cA : ClassId} {N : Nat} {f g : Nat → Int32} {H : Heap} (h : va_at D cl (a, .inl (cA, N, .inl f)) H) (e : ∀ j, j < N → f j = g j) : va_at D cl (a, .inl (cA, N, .inl g)) H := by
  have e1 : vp_cell cA (N, .inl f) = vp_cell cA (N, .inl g) := by
    rw [vp_cell_i, vp_cell_i]
    unfold arrV
    congr 2
    funext j
    dsimp only
    rw [e j.val j.isLt]
  show H[a]? = some (vp_cell cA (N, .inl g))
  rw [← e1]
  exact h
theorem va_at.arrQ {D : va_G} {cl : List vw_C} {a : Nat} {cA : ClassId} {N : Nat} {f g : Nat → Option Nat} {H : Heap} (h : va_at D cl (a, .inl (cA, N, .inr (.inr (.inr (.inr f))))) H) (e : ∀ j, j < N → f j = g j) : va_at D cl (a, .inl (cA, N, .inr (.inr (.inr (.inr g))))) H := by
  have e1 : vp_cell cA (N, .inr (.inr (.inr (.inr f)))) = vp_cell cA (N, .inr (.inr (.inr (.inr g)))) := by
    rw [vp_cell_q, vp_cell_q]
    unfold arrV
    congr 2
    funext j
    dsimp only
    rw [e j.val j.isLt]
  show H[a]? = some (vp_cell cA (N, .inr (.inr (.inr (.inr g)))))
  rw [← e1]
  exact h
