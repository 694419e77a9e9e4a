/-! the words that calls may carry on -/
def gw : List Cond := lw_tbl.filter goodWord
theorem gw_good {w : Cond} (h : w ∈ gw) : (w.onTables && w.keeps) = true ∨ ∃ ty, w = .arrayClass ty := good_of_word (List.mem_filter.mp h).2
theorem gw_tbl {w : Cond} (h : w ∈ gw) : w ∈ lw_tbl := (List.mem_filter.mp h).1
theorem gw_t {w : Cond} (i : Nat) (h : tables_1[i]? = some w) (g : goodWord w = true) : w ∈ gw := List.mem_filter.mpr ⟨List.mem_append_right _ (List.mem_of_getElem? h), g⟩
theorem gw_s {q : MethodName × Nat} (i : Nat) (h : lw_privs[i]? = some q) : Cond.selects q.1.cls q.1 q.1 ∈ gw := List.mem_filter.mpr ⟨List.mem_append_left _ (List.mem_map.mpr ⟨q, List.mem_of_getElem? h, rfl⟩), rfl⟩
def wsM (y : MethodName) (cc : ByteArray) (n : Nat) (r : Option FieldType) : List Cond := .code y cc n r :: gw
theorem goodIn_wsM {y : MethodName} {cc : ByteArray} {n : Nat} {r : Option FieldType} (h : Cond.code y cc n r ∈ gw) : GoodIn gw (wsM y cc n r) := by
  intro w hw
  rcases List.mem_cons.mp hw with e | h1
  · rw [e]; exact ⟨h, gw_good h⟩
  · exact ⟨h1, gw_good h1⟩
theorem nst_t {w : Cond} (i : Nat) (h : tables_1[i]? = some w) : w ∈ lw_tbl := List.mem_append_right _ (List.mem_of_getElem? h)
/-! links to a nest mate's members: they go along with the world -/
def isNest : Cond → Bool
  | .fieldLinkNest _ _ _ _ _ _ => true
  | .methodLinkNest _ _ _ _ => true
  | _ => false
def nstW : List Cond := lw_tbl.filter isNest
theorem nst_in {w : Cond} (i : Nat) (h : tables_1[i]? = some w) (g : isNest w = true) : w ∈ nstW := List.mem_filter.mpr ⟨nst_t i h, g⟩
def NW (U : State) : Prop := ∀ w ∈ nstW, va_Nw w U
theorem NW.warm {s U : State} (hW : s.WarmedH U.vm) (h : NW s) : NW U := by
  intro w hw
  have h1 := h w hw
  have h2 := (List.mem_filter.mp hw).2
  cases w with
  | fieldLinkNest a i b n d g => exact va_Nw.warmF hW h1
  | methodLinkNest a i x g => exact va_Nw.warmM hW h1
  | _ => cases h2
theorem NW.same {u U : State} (hv : u.vm = U.vm) (h : NW u) : NW U := by
  intro w hw
  have h1 := h w hw
  have h2 := (List.mem_filter.mp hw).2
  cases w with
  | fieldLinkNest a i b n d g => exact va_Nw.same rfl hv h1
  | methodLinkNest a i x g => exact va_Nw.same rfl hv h1
  | _ => cases h2
theorem NW.of {A : Array Value} {s : State} (h : ∀ w ∈ lw_tbl, w.before A s = true) : NW s := by
  intro w hw
  have h0 := List.mem_filter.mp hw
  have h1 := h w h0.1
  have h2 := h0.2
  cases w with
  | fieldLinkNest a i b n d g => exact va_Nw.of rfl h1
  | methodLinkNest a i x g => exact va_Nw.of rfl h1
  | _ => cases h2
/-! the layout: which cell is of which kind (a class's number; 8 a row of the class, 9 the row of poses, 10 a row of the reference) -/
def kdP : List Nat := [2, 8, 8, 8, 8, 1, 8, 8, 9, 1, 8, 8, 1, 8, 8, 1, 8, 8, 1, 8, 8, 1, 8, 8, 1, 8, 8, 1, 8, 8, 1, 8, 8, 8, 8, 5, 8, 5, 8, 5, 8]
def kdL : List Nat := 6 :: (kdP ++ (kdP ++ (kdP ++ (kdP ++ [3, 8, 4, 8, 0, 8, 8, 1, 8, 8, 8, 7, 10, 10, 10, 10, 10, 10, 10, 10]))))
def kd (k : Nat) : Nat := kdL.getD k 99
def lnP : List Nat := [0, 7, 7, 7, 7, 0, 7, 7, 8, 0, 7, 7, 0, 7, 7, 0, 7, 7, 0, 7, 7, 0, 7, 7, 0, 7, 7, 0, 7, 7, 0, 7, 7, 8, 8, 0, 20, 0, 30, 0, 24]
def lnL : List Nat := 0 :: (lnP ++ (lnP ++ (lnP ++ (lnP ++ [0, 150, 0, 5, 0, 25, 25, 0, 7, 7, 9, 0, 340, 150, 340, 53, 10, 25, 25, 680]))))
def ln (k : Nat) : Nat := lnL.getD k 0
theorem kd_big {k : Nat} (h : 185 ≤ k) : kd k = 99 := by
  unfold kd
  rw [List.getD_eq_getElem?_getD, List.getElem?_eq_none (by exact h)]
  rfl
theorem kd_lt {k c : Nat} (h : kd k = c) (hc : c < 99) : k < 185 := by
  rcases Nat.lt_or_ge k 185 with q | q
  · exact q
  · rw [kd_big q] at h; omega
def lo (t : Bool) : Nat := if t = true then 0 else 176
def ct (t : Bool) : Nat := if t = true then 176 else 9
def inW (t : Bool) (k : Nat) : Prop := lo t ≤ k ∧ k < lo t + ct t
theorem kd_all : ∀ k : Nat, k < 185 → ((kd k = 7 ∨ kd k = 10) → (176 ≤ k)) ∧ ((kd k ≠ 7 ∧ kd k ≠ 10) → k < 176) := by decide +kernel
theorem inC {k c : Nat} (h : kd k = c) (hc : (decide (c < 99) && decide (c ≠ 7) && decide (c ≠ 10)) = true) : inW true k := by
  simp only [Bool.and_eq_true, decide_eq_true_eq] at hc
  have h1 := kd_lt h hc.1.1
  have h2 := (kd_all k h1).2 ⟨by rw [h]; exact hc.1.2, by rw [h]; exact hc.2⟩
  exact ⟨Nat.zero_le _, by show k < 0 + 176; omega⟩
theorem inM {k c : Nat} (h : kd k = c) (hc : (decide (c = 7) || decide (c = 10)) = true) : inW false k := by
  simp only [Bool.or_eq_true, decide_eq_true_eq] at hc
  have h1 := kd_lt h (by omega)
  have h2 := (kd_all k h1).1 (by rw [h]; exact hc)
  exact ⟨h2, by show k < 176 + 9; omega⟩
/-! memory -/
abbrev Mem : Type := (Nat → Nat → Int32) × (Nat → Nat → Int64)
def s1 (M : Mem) (k j : Nat) (v : Int32) : Mem := (fun a b => if a = k then (if b = j then v else M.1 a b) else M.1 a b, M.2)
def s2 (M : Mem) (k j : Nat) (v : Int64) : Mem := (M.1, fun a b => if a = k then (if b = j then v else M.2 a b) else M.2 a b)
/-! the classes; what all rests on: the classes' numbers and slots, the addresses, the classes of rows, the texts -/
abbrev cl8 : List vw_C := [(RX0, TX0, 2), (RX1, TX1, 5), (RX2, TX2, 15), (RX3, TX3, 6), (RX4, TX4, 8), (RX5, TX5, 4), (RX6, TX6, 16), (RX7, TX7, 21)]
abbrev GT : Type := va_G × (Nat → Nat) × ClassId × ClassId × (Nat → Nat) × (Nat → Nat)
def ad (G : GT) (k : Nat) : Nat := G.2.1 k
def fs0 (G : GT) (k : Nat) : List Value := [.ref (ad G (k + 1)), .ref (ad G (k + 2))]
def fs1 (G : GT) (k : Nat) (r : Nat → Int32) : List Value := [.int (r 0), .int (r 1), .int (r 2), .ref (ad G (k + 1)), .ref (ad G (k + 2))]
def fs2 (G : GT) (k : Nat) (r : Nat → Int32) : List Value := [.ref (ad G (k + 1)), .ref (ad G (k + 2)), .ref (ad G (k + 3)), .ref (ad G (k + 4)), .int (r 4), .ref (ad G (k + 5)), .ref (ad G (k + 8)), .int (r 7), .int (r 8), .ref (ad G (k + 33)), .ref (ad G (k + 34)), .int (r 11), .ref (ad G (k + 35)), .ref (ad G (k + 37)), .ref (ad G (k + 39))]
def fs3 (G : GT) (k : Nat) (r : Nat → Int32) : List Value := [.ref (ad G (k + 1)), .int (r 1), .int (r 2), .int (r 3), .int (r 4), .int (r 5)]
def fs4 (G : GT) (k : Nat) (r : Nat → Int32) : List Value := [.ref (ad G (k + 1)), .int (r 1), .int (r 2), .int (r 3), .int (r 4), .int (r 5), .int (r 6), .int (r 7)]
def fs5 (G : GT) (k : Nat) (r : Nat → Int32) : List Value := [.int (r 0), .ref (ad G (k + 1)), .int (r 2), .int (r 3)]
def fs6 (G : GT) (r : Nat → Int32) (q : Nat → Int64) : List Value := [.ref (ad G 1), .ref (ad G 42), .ref (ad G 83), .ref (ad G 124), .int (r 4), .int (r 5), .ref (ad G 165), .ref (ad G 167), .ref (ad G 169), .ref (ad G 172), .ref (ad G 175), .long (q 11), .long (q 12), .int (r 13), .int (r 14), .int (r 15)]
def fs7 (G : GT) (r : Nat → Int32) (q : Nat → Int64) : List Value := [.ref (ad G 177), .int (r 1), .int (r 2), .int (r 3), .long (q 4), .long (q 5), .ref (ad G 178), .int (r 7), .int (r 8), .int (r 9), .int (r 10), .int (r 11), .int (r 12), .ref (ad G 179), .ref (ad G 180), .int (r 15), .ref (ad G 181), .ref (ad G 182), .ref (ad G 183), .ref (ad G 184), .int (r 20)]
def shp (G : GT) (k : Nat) (r : Nat → Int32) (q : Nat → Int64) : va_E := match kd k with
  | 0 => .inr (0, fs0 G k)
  | 1 => .inr (1, fs1 G k r)
  | 2 => .inr (2, fs2 G k r)
  | 3 => .inr (3, fs3 G k r)
  | 4 => .inr (4, fs4 G k r)
  | 5 => .inr (5, fs5 G k r)
  | 6 => .inr (6, fs6 G r q)
  | 7 => .inr (7, fs7 G r q)
  | 9 => .inl (G.2.2.2.1, 8, .inr (.inr (.inr (.inr (fun n => if n < 8 then some (ad G (k + 1 + 3 * n)) else none)))))
  | _ => .inl (G.2.2.1, ln k, .inl r)
theorem shp0 {G : GT} {k : Nat} {r : Nat → Int32} {q : Nat → Int64} (h : kd k = 0) : shp G k r q = .inr (0, fs0 G k) := by unfold shp; rw [h]; rfl
theorem shp1 {G : GT} {k : Nat} {r : Nat → Int32} {q : Nat → Int64} (h : kd k = 1) : shp G k r q = .inr (1, fs1 G k r) := by unfold shp; rw [h]; rfl
theorem shp2 {G : GT} {k : Nat} {r : Nat → Int32} {q : Nat → Int64} (h : kd k = 2) : shp G k r q = .inr (2, fs2 G k r) := by unfold shp; rw [h]; rfl
theorem shp3 {G : GT} {k : Nat} {r : Nat → Int32} {q : Nat → Int64} (h : kd k = 3) : shp G k r q = .inr (3, fs3 G k r) := by unfold shp; rw [h]; rfl
theorem shp4 {G : GT} {k : Nat} {r : Nat → Int32} {q : Nat → Int64} (h : kd k = 4) : shp G k r q = .inr (4, fs4 G k r) := by unfold shp; rw [h]; rfl
theorem shp5 {G : GT} {k : Nat} {r : Nat → Int32} {q : Nat → Int64} (h : kd k = 5) : shp G k r q = .inr (5, fs5 G k r) := by unfold shp; rw [h]; rfl
theorem shp6 {G : GT} {k : Nat} {r : Nat → Int32} {q : Nat → Int64} (h : kd k = 6) : shp G k r q = .inr (6, fs6 G r q) := by unfold shp; rw [h]; rfl
theorem shp7 {G : GT} {k : Nat} {r : Nat → Int32} {q : Nat → Int64} (h : kd k = 7) : shp G k r q = .inr (7, fs7 G r q) := by unfold shp; rw [h]; rfl
theorem shp8 {G : GT} {k : Nat} {r : Nat → Int32} {q : Nat → Int64} (h : kd k = 8) : shp G k r q = .inl (G.2.2.1, ln k, .inl r) := by unfold shp; rw [h]; rfl
theorem shp9 {G : GT} {k : Nat} {r : Nat → Int32} {q : Nat → Int64} (h : kd k = 9) : shp G k r q = .inl (G.2.2.2.1, 8, .inr (.inr (.inr (.inr (fun n => if n < 8 then some (ad G (k + 1 + 3 * n)) else none))))) := by unfold shp; rw [h]; rfl
theorem shp10 {G : GT} {k : Nat} {r : Nat → Int32} {q : Nat → Int64} (h : kd k = 10) : shp G k r q = .inl (G.2.2.1, ln k, .inl r) := by unfold shp; rw [h]; rfl
/-! the world -/
def wl (G : GT) (t : Bool) (M : Mem) : va_W := (List.range (ct t)).map (fun i => (ad G (lo t + i), shp G (lo t + i) (M.1 (lo t + i)) (M.2 (lo t + i))))
theorem wl_at {G : GT} {t : Bool} {M : Mem} {k : Nat} (h : inW t k) : (wl G t M)[k - lo t]? = some (ad G k, shp G k (M.1 k) (M.2 k)) := by
  have h1 : k - lo t < ct t := by have := h.1; have := h.2; omega
  have h2 : lo t + (k - lo t) = k := by have := h.1; omega
  unfold wl
  rw [List.getElem?_map, List.getElem?_range h1]
  simp only [Option.map_some]
  rw [h2]
theorem wl_get {G : GT} {t : Bool} {M : Mem} {i : Nat} {q : Nat × va_E} (h : (wl G t M)[i]? = some q) : i < ct t ∧ q = (ad G (lo t + i), shp G (lo t + i) (M.1 (lo t + i)) (M.2 (lo t + i))) := by
  unfold wl at h
  rw [List.getElem?_map] at h
  rcases Nat.lt_or_ge i (ct t) with c | c
  · rw [List.getElem?_range c] at h
    exact ⟨c, (Option.some.inj h).symm⟩
  · rw [List.getElem?_eq_none (by rw [List.length_range]; exact c)] at h
    cases h
def Aw (G : GT) (t : Bool) : Nat → Prop := fun q => ∃ k, inW t k ∧ q = ad G k
def Inj (G : GT) (t : Bool) : Prop := ∀ i j : Nat, inW t i → inW t j → ad G i = ad G j → i = j
theorem wl_D {G : GT} {t : Bool} {M : Mem} (h : Inj G t) : va_D (Aw G t) (wl G t M) := by
  refine ⟨fun i j p q hp hq e => ?_, fun k q hq => ?_⟩
  · obtain ⟨a1, a2⟩ := wl_get hp
    obtain ⟨b1, b2⟩ := wl_get hq
    subst a2; subst b2
    have := h _ _ ⟨Nat.le_add_right _ _, Nat.add_lt_add_left a1 _⟩ ⟨Nat.le_add_right _ _, Nat.add_lt_add_left b1 _⟩ e
    omega
  · obtain ⟨a1, a2⟩ := wl_get hq
    subst a2
    exact ⟨_, ⟨Nat.le_add_right _ _, Nat.add_lt_add_left a1 _⟩, rfl⟩
theorem wl_set {G : GT} {t : Bool} {M M' : Mem} {k : Nat} {e : va_E} (h : inW t k) (he : shp G k (M'.1 k) (M'.2 k) = e) (h1 : ∀ j, j ≠ k → M'.1 j = M.1 j) (h2 : ∀ j, j ≠ k → M'.2 j = M.2 j) : (wl G t M).set (k - lo t) (ad G k, e) = wl G t M' := by
  have hk : lo t + (k - lo t) = k := by have := h.1; omega
  have hkc : k - lo t < ct t := by have := h.1; have := h.2; omega
  apply List.ext_getElem?
  intro i
  by_cases hi : i = k - lo t
  · subst hi
    rw [List.getElem?_set_self (by unfold wl; rw [List.length_map, List.length_range]; exact hkc), wl_at h, he]
  · rw [List.getElem?_set_ne (Ne.symm hi)]
    unfold wl
    rw [List.getElem?_map, List.getElem?_map]
    rcases Nat.lt_or_ge i (ct t) with c | c
    · rw [List.getElem?_range c]
      simp only [Option.map_some]
      rw [h1 _ (by omega), h2 _ (by omega)]
    · rw [List.getElem?_eq_none (by rw [List.length_range]; exact c)]
      rfl
theorem s1_o {M : Mem} {k j : Nat} {v : Int32} : ∀ i, i ≠ k → (s1 M k j v).1 i = M.1 i := by
  intro i hi
  funext b
  show (if i = k then _ else _) = _
  rw [if_neg hi]
theorem s1_k {M : Mem} {k j : Nat} {v : Int32} : (s1 M k j v).1 k = upd (M.1 k) j v := by
  funext b
  show (if k = k then _ else _) = _
  rw [if_pos rfl]
  rfl
theorem s2_o {M : Mem} {k j : Nat} {v : Int64} : ∀ i, i ≠ k → (s2 M k j v).2 i = M.2 i := by
  intro i hi
  funext b
  show (if i = k then _ else _) = _
  rw [if_neg hi]
theorem s2_k {M : Mem} {k j : Nat} {v : Int64} : (s2 M k j v).2 k = vp_updL (M.2 k) j v := by
  funext b
  show (if k = k then _ else _) = _
  rw [if_pos rfl]
  rfl
/-! what stays known of the state: classes, nest mates, addresses apart, and (the class's own world) the texts -/
def sLen : List Nat := [6, 4, 4, 3, 4]
def sByt : List (List Int32) := [[112, 117, 112, 112, 101, 116], [108, 105, 109, 98], [109, 111, 118, 101], [116, 105, 101], [104, 97, 110, 103]]
def sIdx : List (Nat × String) := [(45, "puppet"), (65, "limb"), (73, "move"), (78, "tie"), (83, "hang")]
def strF (G : GT) (t : Bool) (U : State) (H : Heap) : Prop := t = true → vk_S 5 sLen sByt G.2.2.2.2.1 G.2.2.2.2.2 (Aw G t) U H ∧ (∀ i : Nat, ∀ q : Nat × String, sIdx[i]? = some q → vk_R RX3 q.1 q.2 (G.2.2.2.2.1 i) U) ∧ va_Z "java/lang/String" "COMPACT_STRINGS" "Z" (.int 1) (Aw G t) U H ∧ va_Zq "jdk/internal/util/Preconditions" "SIOOBE_FORMATTER" "Ljava/util/function/BiFunction;" (Aw G t) U H
abbrev tysG (G : GT) : List (ClassId × FieldType) := [(G.2.2.1, .int), (G.2.2.2.1, .object RX1)]
def Kn (G : GT) (t : Bool) (U : State) : Prop := va_K G.1 cl8 (tysG G) U ∧ NW U ∧ Inj G t ∧ strF G t U U.heap
theorem strF.move {G : GT} {t : Bool} {s U : State} {H : Heap} (h : strF G t s s.heap) (hW : s.WarmedH U.vm) (hS : ∀ q : Nat, q < s.heap.size → ¬ Aw G t q → H[q]? = s.heap[q]?) : strF G t U H := by
  intro e
  obtain ⟨a, b, c, d⟩ := h e
  exact ⟨(a.kept hS).moved hW.alike, fun i q hq => (b i q hq).warm hW, (c.kept hS).moved hW.alike, (d.kept hS).moved hW.alike⟩
theorem strF.same {G : GT} {t : Bool} {s U : State} {H : Heap} (h : strF G t s H) (hv : s.vm = U.vm) : strF G t U H := by
  intro e
  obtain ⟨a, b, c, d⟩ := h e
  have hal : s.vm.Alike U.vm := by rw [hv]; exact Vm.Alike.refl _
  exact ⟨a.moved hal, fun i q hq => (b i q hq).same hv.symm, c.moved hal, d.moved hal⟩
theorem Kn.move {G : GT} {t : Bool} {s U : State} {H : Heap} {locs : List Loc} (h : Kn G t s) (hS : va_S (Aw G t) s.heap H locs) (hH : U.heap = H) (hW : s.WarmedH U.vm) : Kn G t U :=
  ⟨va_K.moved hW.alike h.1, NW.warm hW h.2.1, h.2.2.1, by rw [hH]; exact h.2.2.2.move hW hS.2.1⟩
theorem Kn.calling {G : GT} {t : Bool} {U : State} (g : JFrame) (mk : MethodId) (a : Array Value) (h : Kn G t U) : Kn G t (U.calling g mk a) :=
  ⟨va_K.moved (u := U) (U := U.calling g mk a) (Vm.Alike.refl U.vm) h.1, NW.same (u := U) (U := U.calling g mk a) rfl h.2.1, h.2.2.1, strF.same (s := U) (U := U.calling g mk a) h.2.2.2 rfl⟩
/-- the memory M lies in the heap H; outside of the world nothing has changed -/
def Ws (G : GT) (t : Bool) (M : Mem) (s : State) (H : Heap) (locs : List Loc) : Prop := va_P G.1 cl8 (wl G t M) H ∧ va_S (Aw G t) s.heap H locs
abbrev rmD (d : Nat) : Room := { frames := d, cells := 0, slots := 0, locals := 40 * d }
