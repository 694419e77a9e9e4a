/-! THE CLAIM OUT OF ONE WALK OF THE LAW'S BODY. Your part is whole_start (and what it stands on); all else here is the same for every law, but numbers. -/
def R_law : String := "StringPuppetsLaw"
def lw_P (b : Addr) (xs : List Int32) (args : Array Value) (s : State) : Prop := args = #[.ref b] ∧ s.IntsAt b xs ∧ xs.length ≤ 3072 ∧ (Jvm.Cond.and given_1 narrow_1).before args s = true
def lw_Q (_ : Array Value) (s : State) (o : Outcome) (t : State) : Prop := o = .returned (some (.int 1)) ∧ Framed s o t [] 600000 7302250
def lw_Z (below : List Frame) (a : Array Value) (s : State) : State → Prop := fun t => ∃ o, t.status = .running ∧ Ended t below o ∧ lw_Q a s o t
/-- the law's own end, with 1 on the stack, nothing written that was there before, its room as the claim has it -/
theorem lw_ret {p : Program} {l : Launch} {e : Env} {s : State} {m : MethodId} {below : List Frame} {meth : Method} {c : Code} {b : Nat} (hx : p.tables.exec = Jvm.exec) (hb : c.code = code) (hr : meth.sig.returnType = ret) (hlocks : meth.locks = false) {pc : Nat} {H : Heap} {ls : Array Slot} (hdg : decode code pc = .ok (.ireturn, 1)) : W p l e room_1 s m #[Value.ref b] below meth c H [] 600000 7302250 (lw_Z below #[Value.ref b] s) (F0 m pc ls [.int 1]) := by
  intro T hT X
  obtain ⟨fs, hret, hrun, hended, hW, hframe⟩ := X.leave (v := some (.int 1)) (hlocks := hlocks) (fun h => by rw [hr] at h; cases h)
  have hmeth' : T.vm.method? m = some meth := X.method'
  refine ⟨T.setFrames fs, ?_, .returned (some (.int 1)), hrun, hended, rfl, ⟨_, rfl⟩, hW, hframe⟩
  jvm_step X.here [X.here.top, hx, hb, hdg, hmeth', hr, ret, narrow_b1]
  (try refine ⟨rfl, ?_⟩); (try refine ⟨rfl, ?_⟩)
  first | (intro acts; rw [hret _ acts rfl rfl rfl]) | rw [hret _ _ rfl rfl rfl]
  exact Steps.refl _
/-- what holds at the law's entry: the machine, the code, the tables' words (any of lw_tbl by 'hts w (by decide +kernel)'), the script of L ints xs at the cell b, what the Statement gives of the start (any of its parts by flat_of_before) -/
def lw_At (p : Program) (s : State) (m : MethodId) (meth : Method) (c : Code) (b L : Nat) (xs : Nat → Int32) : Prop :=
  p.tables.exec = Jvm.exec ∧ c.code = code ∧ meth.sig.returnType = ret ∧ c.maxLocals = 4 ∧ s.vm.findClass R_law = some m.cls ∧ (∀ w ∈ lw_tbl, w.before #[Value.ref b] s = true) ∧ va_X b L xs s s.heap ∧ b < s.heap.size ∧ meth.locks = false ∧ (Jvm.Cond.and given_1 narrow_1).before #[Value.ref b] s = true
def opP0 (R : Mem → Mem → Prop) : Prop := ∀ (a1 : Int32) (M N : Mem), R M N → ∃ (r : Int32) (M' N' : Mem), f_X6_puppet a1 M = some (r, M') ∧ f_X7_puppet a1 N = some (r, N') ∧ R M' N'
def opP1 (R : Mem → Mem → Prop) : Prop := ∀ (a1 a2 a3 a4 a5 : Int32) (M N : Mem), R M N → ∃ (r : Int32) (M' N' : Mem), f_X6_limb a1 a2 a3 a4 a5 M = some (r, M') ∧ f_X7_limb a1 a2 a3 a4 a5 N = some (r, N') ∧ R M' N'
def opP2 (R : Mem → Mem → Prop) : Prop := ∀ (a1 : Int32) (M N : Mem), R M N → ∃ (r : Int32) (M' N' : Mem), f_X6_type a1 M = some (r, M') ∧ f_X7_type a1 N = some (r, N') ∧ R M' N'
def opP3 (R : Mem → Mem → Prop) : Prop := ∀ (M N : Mem), R M N → ∃ (r : Int32) (M' N' : Mem), f_X6_clear M = some (r, M') ∧ f_X7_clear N = some (r, N') ∧ R M' N'
def opP4 (R : Mem → Mem → Prop) : Prop := ∀ (M N : Mem), R M N → ∃ (r : Int32) (M' N' : Mem), f_X6_read M = some (r, M') ∧ f_X7_read N = some (r, N') ∧ R M' N'
def opP5 (R : Mem → Mem → Prop) : Prop := ∀ (a1 : Int32) (M N : Mem), R M N → ∃ (r : Int32) (M' N' : Mem), f_X6_moves a1 M = some (r, M') ∧ f_X7_moves a1 N = some (r, N') ∧ R M' N'
def opP6 (R : Mem → Mem → Prop) : Prop := ∀ (a1 : Int32) (M N : Mem), R M N → ∃ (r : Int32) (M' N' : Mem), f_X6_ties a1 M = some (r, M') ∧ f_X7_ties a1 N = some (r, N') ∧ R M' N'
def opP7 (R : Mem → Mem → Prop) : Prop := ∀ (a1 a2 : Int32) (M N : Mem), R M N → ∃ (r : Int32) (M' N' : Mem), f_X6_hangs a1 a2 M = some (r, M') ∧ f_X7_hangs a1 a2 N = some (r, N') ∧ R M' N'
def opP8 (R : Mem → Mem → Prop) : Prop := ∀ (M N : Mem), R M N → ∃ (r : Int32) (M' N' : Mem), f_X6_undo M = some (r, M') ∧ f_X7_undo N = some (r, N') ∧ R M' N'
def opP9 (R : Mem → Mem → Prop) : Prop := ∀ (a1 a2 : Int32) (M N : Mem), R M N → ∃ (r : Int32) (M' N' : Mem), f_X6_of a1 a2 M = some (r, M') ∧ f_X7_of a1 a2 N = some (r, N') ∧ R M' N'
def opP10 (R : Mem → Mem → Prop) : Prop := ∀ (a1 : Int32) (M N : Mem), R M N → ∃ (r : Int32) (M' N' : Mem), f_X6_touch a1 M = some (r, M') ∧ f_X7_touch a1 N = some (r, N') ∧ R M' N'
def opP11 (R : Mem → Mem → Prop) : Prop := ∀ (a1 : Int32) (M N : Mem), R M N → ∃ (r : Int32) (M' N' : Mem), f_X6_safe a1 M = some (r, M') ∧ f_X7_safe a1 N = some (r, N') ∧ R M' N'
def opP12 (R : Mem → Mem → Prop) : Prop := ∀ (a1 a2 a3 : Int32) (M N : Mem), R M N → ∃ (r : Int32) (M' N' : Mem), f_X6_few a1 a2 a3 M = some (r, M') ∧ f_X7_few a1 a2 a3 N = some (r, N') ∧ R M' N'
def opP13 (R : Mem → Mem → Prop) : Prop := ∀ (a1 a2 a3 a4 : Int32) (M N : Mem), R M N → ∃ (r : Int32) (M' N' : Mem), f_X6_both a1 a2 a3 a4 M = some (r, M') ∧ f_X7_both a1 a2 a3 a4 N = some (r, N') ∧ R M' N'
def opP14 (R : Mem → Mem → Prop) : Prop := ∀ (a1 a2 a3 : Int32) (M N : Mem), R M N → ∃ (r : Int32) (M' N' : Mem), f_X6_hole a1 a2 a3 M = some (r, M') ∧ f_X7_hole a1 a2 a3 N = some (r, N') ∧ R M' N'
def opP15 (R : Mem → Mem → Prop) : Prop := ∀ (a1 a2 a3 : Int32) (M N : Mem), R M N → ∃ (r : Int32) (M' N' : Mem), f_X6_beat a1 a2 a3 M = some (r, M') ∧ f_X7_beat a1 a2 a3 N = some (r, N') ∧ R M' N'
def opP16 (R : Mem → Mem → Prop) : Prop := ∀ (a1 : Int32) (M N : Mem), R M N → ∃ (r : Int32) (M' N' : Mem), f_X6_dance a1 M = some (r, M') ∧ f_X7_dance a1 N = some (r, N') ∧ R M' N'
def opP17 (R : Mem → Mem → Prop) : Prop := ∀ (M N : Mem), R M N → ∃ (r : Int32) (M' N' : Mem), f_X6_comesOut M = some (r, M') ∧ f_X7_comesOut N = some (r, N') ∧ R M' N'
def opP18 (R : Mem → Mem → Prop) : Prop := ∀ (M N : Mem), R M N → ∃ (r : Int32) (M' N' : Mem), f_X6_snaps M = some (r, M') ∧ f_X7_snaps N = some (r, N') ∧ R M' N'
def opP19 (R : Mem → Mem → Prop) : Prop := ∀ (a1 a2 a3 a4 : Int32) (M N : Mem), R M N → ∃ (r : Int32) (M' N' : Mem), f_X6_seen a1 a2 a3 a4 M = some (r, M') ∧ f_X7_seen a1 a2 a3 a4 N = some (r, N') ∧ R M' N'
def opP20 (R : Mem → Mem → Prop) : Prop := ∀ (a1 a2 : Int32) (M N : Mem), R M N → ∃ (r : Int32) (M' N' : Mem), f_X6_heavy a1 a2 M = some (r, M') ∧ f_X7_heavy a1 a2 N = some (r, N') ∧ R M' N'
def opP21 (R : Mem → Mem → Prop) : Prop := ∀ (a1 : Int32) (M N : Mem), R M N → ∃ (r : Int32) (M' N' : Mem), f_X6_tell a1 M = some (r, M') ∧ f_X7_tell a1 N = some (r, N') ∧ R M' N'
def opP22 (R : Mem → Mem → Prop) : Prop := ∀ (a1 a2 a3 a4 a5 : Int32) (M N : Mem), R M N → ∃ (r : Int32) (M' N' : Mem), f_X6_note a1 a2 a3 a4 a5 M = some (r, M') ∧ f_X7_note a1 a2 a3 a4 a5 N = some (r, N') ∧ R M' N'
def opP23 (R : Mem → Mem → Prop) : Prop := ∀ (a1 a2 a3 a4 : Int32) (M N : Mem), R M N → ∃ (r : Int32) (M' N' : Mem), f_X6_mark a1 a2 a3 a4 M = some (r, M') ∧ f_X7_mark a1 a2 a3 a4 N = some (r, N') ∧ R M' N'
def opP24 (R : Mem → Mem → Prop) : Prop := ∀ (a1 : Int32) (M N : Mem), R M N → ∃ (r : Int32) (M' N' : Mem), f_X6_forget a1 M = some (r, M') ∧ f_X7_forget a1 N = some (r, N') ∧ R M' N'
def opP25 (R : Mem → Mem → Prop) : Prop := ∀ (a1 : Int32) (M N : Mem), R M N → ∃ (r : Int32) (M' N' : Mem), f_X6_is a1 M = some (r, M') ∧ f_X7_is a1 N = some (r, N') ∧ R M' N'
def opP26 (R : Mem → Mem → Prop) : Prop := ∀ (a1 : Int32) (M N : Mem), R M N → ∃ (r : Int32) (M' N' : Mem), f_X6_look a1 M = some (r, M') ∧ f_X7_look a1 N = some (r, N') ∧ R M' N'
def opP27 (R : Mem → Mem → Prop) : Prop := ∀ (a1 : Int32) (M N : Mem), R M N → ∃ (r : Int32) (M' N' : Mem), f_X6_kinds a1 M = some (r, M') ∧ f_X7_kinds a1 N = some (r, N') ∧ R M' N'
def opP28 (R : Mem → Mem → Prop) : Prop := ∀ (a1 : Int32) (M N : Mem), R M N → ∃ (r : Int32) (M' N' : Mem), f_X6_ask a1 M = some (r, M') ∧ f_X7_ask a1 N = some (r, N') ∧ R M' N'
def opP29 (R : Mem → Mem → Prop) : Prop := ∀ (a1 a2 a3 : Int32) (M N : Mem), R M N → ∃ (r : Int32) (M' N' : Mem), f_X6_hands a1 a2 a3 M = some (r, M') ∧ f_X7_hands a1 a2 a3 N = some (r, N') ∧ R M' N'
def opP30 (R : Mem → Mem → Prop) : Prop := ∀ (a1 a2 : Int32) (M N : Mem), R M N → ∃ (r : Int32) (M' N' : Mem), f_X6_slack a1 a2 M = some (r, M') ∧ f_X7_slack a1 a2 N = some (r, N') ∧ R M' N'
def opP31 (R : Mem → Mem → Prop) : Prop := ∀ (a1 a2 : Int32) (M N : Mem), R M N → ∃ (r : Int32) (M' N' : Mem), f_X6_nights a1 a2 M = some (r, M') ∧ f_X7_nights a1 a2 N = some (r, N') ∧ R M' N'
def opP32 (R : Mem → Mem → Prop) : Prop := ∀ (a1 : Int32) (M N : Mem), R M N → ∃ (r : Int64) (M' N' : Mem), f_X6_part a1 M = some (r, M') ∧ f_X7_part a1 N = some (r, N') ∧ R M' N'
def opP33 (R : Mem → Mem → Prop) : Prop := ∀ (a1 : Int32) (M N : Mem), R M N → ∃ (r : Int32) (M' N' : Mem), f_X6_image a1 M = some (r, M') ∧ f_X7_image a1 N = some (r, N') ∧ R M' N'
def opP34 (R : Mem → Mem → Prop) : Prop := ∀ (a1 : Int32) (M N : Mem), R M N → ∃ (r : Int32) (M' N' : Mem), f_X6_from a1 M = some (r, M') ∧ f_X7_from a1 N = some (r, N') ∧ R M' N'
def opP35 (R : Mem → Mem → Prop) : Prop := ∀ (a1 : Int32) (M N : Mem), R M N → ∃ (r : Int32) (M' N' : Mem), f_X6_status a1 M = some (r, M') ∧ f_X7_status a1 N = some (r, N') ∧ R M' N'
def opP36 (R : Mem → Mem → Prop) : Prop := ∀ (a1 : Int32) (M N : Mem), R M N → ∃ (r : Int32) (M' N' : Mem), f_X6_count a1 M = some (r, M') ∧ f_X7_count a1 N = some (r, N') ∧ R M' N'
def opP37 (R : Mem → Mem → Prop) : Prop := ∀ (M N : Mem), R M N → ∃ (r : Int64), f_X6_digest M = some r ∧ f_X7_digest N = some r
def Ops (R : Mem → Mem → Prop) : Prop := opP0 R ∧ opP1 R ∧ opP2 R ∧ opP3 R ∧ opP4 R ∧ opP5 R ∧ opP6 R ∧ opP7 R ∧ opP8 R ∧ opP9 R ∧ opP10 R ∧ opP11 R ∧ opP12 R ∧ opP13 R ∧ opP14 R ∧ opP15 R ∧ opP16 R ∧ opP17 R ∧ opP18 R ∧ opP19 R ∧ opP20 R ∧ opP21 R ∧ opP22 R ∧ opP23 R ∧ opP24 R ∧ opP25 R ∧ opP26 R ∧ opP27 R ∧ opP28 R ∧ opP29 R ∧ opP30 R ∧ opP31 R ∧ opP32 R ∧ opP33 R ∧ opP34 R ∧ opP35 R ∧ opP36 R ∧ opP37 R
theorem lg_same {x : Int64} : lg_cmp x x = 0 := by
  unfold lg_cmp
  rw [if_neg (by simp), if_pos rfl]
set_option maxHeartbeats 8000000 in
set_option maxRecDepth 100000 in
theorem law_loop {p : Program} {l : Launch} {e : Env} {s : State} {m : MethodId} {below : List Frame} {meth : Method} {c : Code} {G : GT} {b L : Nat} {xs : Nat → Int32} {R : Mem → Mem → Prop} (hO : Ops R) (hL : L ≤ 3072) (C0 : lw_At p s m meth c b L xs) (hK : LKw G s) :
    ∀ (n i : Nat) (x3 : Int32) (M N : Mem) (H : Heap) (locs : List Loc) (ls : Array Slot), L < i + n → i ≤ 3100 → x3 = nI i → R M N → LSw G M N s H locs → lv_has ls 4 [(0, .ref b), (1, .ref (ad G 0)), (2, .ref (ad G 176)), (3, .int x3)] → W p l e room_1 s m #[Value.ref b] below meth c H locs 600000 7302250 (lw_Z below #[Value.ref b] s) (F0 m 18 ls []) := by
  obtain ⟨hx, hb, hr, hml, hown, hts, hX, hbl, hlocks, hgv⟩ := C0
  have hg : ∀ w ∈ gw, w.before #[Value.ref b] s = true := fun w h => hts w (gw_tbl h)
  have hbA : ¬ (fun q : Nat => s.heap.size ≤ q) b := Nat.not_le.mpr hbl
  obtain ⟨hO0, hO1, hO2, hO3, hO4, hO5, hO6, hO7, hO8, hO9, hO10, hO11, hO12, hO13, hO14, hO15, hO16, hO17, hO18, hO19, hO20, hO21, hO22, hO23, hO24, hO25, hO26, hO27, hO28, hO29, hO30, hO31, hO32, hO33, hO34, hO35, hO36, hO37⟩ := hO
  intro n
  induction n with
  | zero =>
    intro i x3 M N H locs ls h1 h2 ex3 hR hW hl
    refine lv_iload_n hx hb dL_law_18 rfl (lv_at hl 3 rfl) ?_
    refine lv_aload_n hx hb dL_law_19 rfl (lv_at hl 0 rfl) ?_
    refine va_slen hx hb hX hbl hbA hW.2.2 dL_law_20 ?_
    refine lv_bipush (v := (6 : Int32)) hx hb dL_law_21 (by decide) ?_
    refine lv_isub hx hb dL_law_23 ?_
    refine lv_icmp_gt (tgt := 1322) hx hb dL_law_24 (by decide) (fun cg => ?_) (fun cg => ?_)
    · refine lv_iconst (v := (1 : Int32)) hx hb dL_law_1322 (by decide) ?_
      refine va_forget (fun q hq => hW.2.2.2.2 q hq) ?_
      exact lw_ret hx hb hr hlocks dL_law_1323
    · exfalso
      have h3 : ¬ (nI L - nI 6 < nI i) := by rw [← ex3]; exact cg
      rw [Int32.lt_iff_toInt_lt, pk_sub_toInt (by omega) (by decide), nI_toInt (by omega)] at h3
      omega
  | succ n ih =>
    intro i x3 M N H locs ls h1 h2 ex3 hR hW hl
    refine lv_iload_n hx hb dL_law_18 rfl (lv_at hl 3 rfl) ?_
    refine lv_aload_n hx hb dL_law_19 rfl (lv_at hl 0 rfl) ?_
    refine va_slen hx hb hX hbl hbA hW.2.2 dL_law_20 ?_
    refine lv_bipush (v := (6 : Int32)) hx hb dL_law_21 (by decide) ?_
    refine lv_isub hx hb dL_law_23 ?_
    refine lv_icmp_gt (tgt := 1322) hx hb dL_law_24 (by decide) (fun cg => ?_) (fun cg => ?_)
    · refine lv_iconst (v := (1 : Int32)) hx hb dL_law_1322 (by decide) ?_
      refine va_forget (fun q hq => hW.2.2.2.2 q hq) ?_
      exact lw_ret hx hb hr hlocks dL_law_1323
    · have hlt : i + 6 ≤ L := by
        have h3 : ¬ (nI L - nI 6 < nI i) := by rw [← ex3]; exact cg
        rw [Int32.lt_iff_toInt_lt, pk_sub_toInt (by omega) (by decide), nI_toInt (by omega)] at h3
        omega
      have hv0 : vp_in x3 L := by rw [ex3]; exact vp_in_nI (by omega) (by omega)
      have hv1 : vp_in (x3 + (1 : Int32)) L := by rw [ex3]; exact (nI_add i 1 ▸ vp_in_nI (by omega) (by omega) : vp_in (nI i + nI 1) L)
      have hv2 : vp_in (x3 + (2 : Int32)) L := by rw [ex3]; exact (nI_add i 2 ▸ vp_in_nI (by omega) (by omega) : vp_in (nI i + nI 2) L)
      have hv3 : vp_in (x3 + (3 : Int32)) L := by rw [ex3]; exact (nI_add i 3 ▸ vp_in_nI (by omega) (by omega) : vp_in (nI i + nI 3) L)
      have hv4 : vp_in (x3 + (4 : Int32)) L := by rw [ex3]; exact (nI_add i 4 ▸ vp_in_nI (by omega) (by omega) : vp_in (nI i + nI 4) L)
      have hv5 : vp_in (x3 + (5 : Int32)) L := by rw [ex3]; exact (nI_add i 5 ▸ vp_in_nI (by omega) (by omega) : vp_in (nI i + nI 5) L)
      have go : ∀ (M' N' : Mem) (H : Heap) (locs : List Loc), R M' N' → LSw G M' N' s H locs → ∀ ls : Array Slot, lv_has ls 4 [(0, .ref b), (1, .ref (ad G 0)), (2, .ref (ad G 176)), (3, .int x3)] → W p l e room_1 s m #[Value.ref b] below meth c H locs 600000 7302250 (lw_Z below #[Value.ref b] s) (F0 m 1316 ls []) := by
        intro M' N' H locs hR hW ls hl
        obtain ⟨x4, ex4⟩ : ∃ y : Int32, y = x3 + 6 := ⟨_, rfl⟩
        refine lv_iinc (v := x4) (lv' := [(3, .int x4), (0, .ref b), (1, .ref (ad G 0)), (2, .ref (ad G 176))]) hx hb dL_law_1316 hl (k := 3) rfl (by rw [ex4]; rfl) (by decide) rfl (fun ls hl => ?_)
        refine lv_goto (tgt := 18) hx hb dL_law_1319 (by decide) ?_
        exact ih (i + 6) x4 M' N' H locs ls (by omega) (by omega) (by rw [ex4, ex3]; exact nI_add i 6) hR hW (lv_sub hl [1, 2, 3, 0] rfl)
      refine lv_aload_n hx hb dL_law_27 rfl (lv_at hl 0 rfl) ?_
      refine lv_iload_n hx hb dL_law_28 rfl (lv_at hl 3 rfl) ?_
      refine va_sld hx hb hX hbl hbA hW.2.2 hv0 dL_law_29 ?_
      refine lv_bipush (v := (63 : Int32)) hx hb dL_law_30 (by decide) ?_
      refine lv_iand hx hb dL_law_32 ?_
      refine lv_topi (fun v ev => ?_)
      clear ev
      by_cases c0 : v = (0 : Int32)
      · refine lv_tableIn (tgt := 200) hx hb dL_law_33 (by rw [c0]; decide) (by rw [c0]; decide) (by rw [c0]; rfl) (by decide) ?_
        obtain ⟨r, M1, N1, h1, h2, hR1⟩ := hO0 (xs (x3 + (1 : Int32)).toNatClampNeg) M N hR
        refine lv_aload_n hx hb dL_law_200 rfl (lv_at hl 1 rfl) ?_
        refine lv_aload_n hx hb dL_law_201 rfl (lv_at hl 0 rfl) ?_
        refine lv_iload_n hx hb dL_law_202 rfl (lv_at hl 3 rfl) ?_
        refine lv_iconst (v := (1 : Int32)) hx hb dL_law_203 (by decide) ?_
        refine lv_iadd hx hb dL_law_204 ?_
        refine va_sld hx hb hX hbl hbA hW.2.2 hv1 dL_law_205 ?_
        refine lx_i (lr_x g_274 g_275 g_276 g_1 g_277 hd_X6_puppet (Nat.le_of_ble_eq_true rfl) hx hb hml hown hg hK hW (As := [.int (xs (x3 + (1 : Int32)).toNatClampNeg)]) (c_X6_puppet l G (xs (x3 + (1 : Int32)).toNatClampNeg) M h1) (Nat.le_of_ble_eq_true rfl) rfl hl.1 rfl (Nat.le_of_ble_eq_true rfl) dL_law_206 (Nat.le_refl _) (Nat.le_refl _)) hK hW (fun H locs hW => ?_)
        refine lv_aload_n hx hb dL_law_209 rfl (lv_at hl 2 rfl) ?_
        refine lv_aload_n hx hb dL_law_210 rfl (lv_at hl 0 rfl) ?_
        refine lv_iload_n hx hb dL_law_211 rfl (lv_at hl 3 rfl) ?_
        refine lv_iconst (v := (1 : Int32)) hx hb dL_law_212 (by decide) ?_
        refine lv_iadd hx hb dL_law_213 ?_
        refine va_sld hx hb hX hbl hbA hW.2.2 hv1 dL_law_214 ?_
        refine ly_i (lr_y g_916 g_917 g_918 g_9 g_919 hd_X7_puppet (Nat.le_of_ble_eq_true rfl) hx hb hml hown hg hK hW (As := [.int (xs (x3 + (1 : Int32)).toNatClampNeg)]) (c_X7_puppet l G (xs (x3 + (1 : Int32)).toNatClampNeg) N h2) (Nat.le_of_ble_eq_true rfl) rfl hl.1 rfl (Nat.le_of_ble_eq_true rfl) dL_law_215 (Nat.le_refl _) (Nat.le_refl _)) hK hW (fun H locs hW => ?_)
        refine lv_icmp_eq (tgt := 1316) hx hb dL_law_218 (by decide) (fun _ => ?_) (fun q => absurd rfl q)
        exact go _ _ H locs hR1 hW ls hl
      by_cases c1 : v = (1 : Int32)
      · refine lv_tableIn (tgt := 223) hx hb dL_law_33 (by rw [c1]; decide) (by rw [c1]; decide) (by rw [c1]; rfl) (by decide) ?_
        obtain ⟨r, M1, N1, h1, h2, hR1⟩ := hO1 (xs (x3 + (1 : Int32)).toNatClampNeg) (xs (x3 + (2 : Int32)).toNatClampNeg) (xs (x3 + (3 : Int32)).toNatClampNeg) (xs (x3 + (4 : Int32)).toNatClampNeg) (xs (x3 + (5 : Int32)).toNatClampNeg) M N hR
        refine lv_aload_n hx hb dL_law_223 rfl (lv_at hl 1 rfl) ?_
        refine lv_aload_n hx hb dL_law_224 rfl (lv_at hl 0 rfl) ?_
        refine lv_iload_n hx hb dL_law_225 rfl (lv_at hl 3 rfl) ?_
        refine lv_iconst (v := (1 : Int32)) hx hb dL_law_226 (by decide) ?_
        refine lv_iadd hx hb dL_law_227 ?_
        refine va_sld hx hb hX hbl hbA hW.2.2 hv1 dL_law_228 ?_
        refine lv_aload_n hx hb dL_law_229 rfl (lv_at hl 0 rfl) ?_
        refine lv_iload_n hx hb dL_law_230 rfl (lv_at hl 3 rfl) ?_
        refine lv_iconst (v := (2 : Int32)) hx hb dL_law_231 (by decide) ?_
        refine lv_iadd hx hb dL_law_232 ?_
        refine va_sld hx hb hX hbl hbA hW.2.2 hv2 dL_law_233 ?_
        refine lv_aload_n hx hb dL_law_234 rfl (lv_at hl 0 rfl) ?_
        refine lv_iload_n hx hb dL_law_235 rfl (lv_at hl 3 rfl) ?_
        refine lv_iconst (v := (3 : Int32)) hx hb dL_law_236 (by decide) ?_
        refine lv_iadd hx hb dL_law_237 ?_
        refine va_sld hx hb hX hbl hbA hW.2.2 hv3 dL_law_238 ?_
        refine lv_aload_n hx hb dL_law_239 rfl (lv_at hl 0 rfl) ?_
        refine lv_iload_n hx hb dL_law_240 rfl (lv_at hl 3 rfl) ?_
        refine lv_iconst (v := (4 : Int32)) hx hb dL_law_241 (by decide) ?_
        refine lv_iadd hx hb dL_law_242 ?_
        refine va_sld hx hb hX hbl hbA hW.2.2 hv4 dL_law_243 ?_
        refine lv_aload_n hx hb dL_law_244 rfl (lv_at hl 0 rfl) ?_
        refine lv_iload_n hx hb dL_law_245 rfl (lv_at hl 3 rfl) ?_
        refine lv_iconst (v := (5 : Int32)) hx hb dL_law_246 (by decide) ?_
        refine lv_iadd hx hb dL_law_247 ?_
        refine va_sld hx hb hX hbl hbA hW.2.2 hv5 dL_law_248 ?_
        refine lx_i (lr_x g_300 g_301 g_302 g_1 g_303 hd_X6_limb (Nat.le_of_ble_eq_true rfl) hx hb hml hown hg hK hW (As := [.int (xs (x3 + (1 : Int32)).toNatClampNeg), .int (xs (x3 + (2 : Int32)).toNatClampNeg), .int (xs (x3 + (3 : Int32)).toNatClampNeg), .int (xs (x3 + (4 : Int32)).toNatClampNeg), .int (xs (x3 + (5 : Int32)).toNatClampNeg)]) (c_X6_limb l G (xs (x3 + (1 : Int32)).toNatClampNeg) (xs (x3 + (2 : Int32)).toNatClampNeg) (xs (x3 + (3 : Int32)).toNatClampNeg) (xs (x3 + (4 : Int32)).toNatClampNeg) (xs (x3 + (5 : Int32)).toNatClampNeg) M h1) (Nat.le_of_ble_eq_true rfl) rfl hl.1 rfl (Nat.le_of_ble_eq_true rfl) dL_law_249 (Nat.le_refl _) (Nat.le_refl _)) hK hW (fun H locs hW => ?_)
        refine lv_aload_n hx hb dL_law_252 rfl (lv_at hl 2 rfl) ?_
        refine lv_aload_n hx hb dL_law_253 rfl (lv_at hl 0 rfl) ?_
        refine lv_iload_n hx hb dL_law_254 rfl (lv_at hl 3 rfl) ?_
        refine lv_iconst (v := (1 : Int32)) hx hb dL_law_255 (by decide) ?_
        refine lv_iadd hx hb dL_law_256 ?_
        refine va_sld hx hb hX hbl hbA hW.2.2 hv1 dL_law_257 ?_
        refine lv_aload_n hx hb dL_law_258 rfl (lv_at hl 0 rfl) ?_
        refine lv_iload_n hx hb dL_law_259 rfl (lv_at hl 3 rfl) ?_
        refine lv_iconst (v := (2 : Int32)) hx hb dL_law_260 (by decide) ?_
        refine lv_iadd hx hb dL_law_261 ?_
        refine va_sld hx hb hX hbl hbA hW.2.2 hv2 dL_law_262 ?_
        refine lv_aload_n hx hb dL_law_263 rfl (lv_at hl 0 rfl) ?_
        refine lv_iload_n hx hb dL_law_264 rfl (lv_at hl 3 rfl) ?_
        refine lv_iconst (v := (3 : Int32)) hx hb dL_law_265 (by decide) ?_
        refine lv_iadd hx hb dL_law_266 ?_
        refine va_sld hx hb hX hbl hbA hW.2.2 hv3 dL_law_267 ?_
        refine lv_aload_n hx hb dL_law_268 rfl (lv_at hl 0 rfl) ?_
        refine lv_iload_n hx hb dL_law_269 rfl (lv_at hl 3 rfl) ?_
        refine lv_iconst (v := (4 : Int32)) hx hb dL_law_270 (by decide) ?_
        refine lv_iadd hx hb dL_law_271 ?_
        refine va_sld hx hb hX hbl hbA hW.2.2 hv4 dL_law_272 ?_
        refine lv_aload_n hx hb dL_law_273 rfl (lv_at hl 0 rfl) ?_
        refine lv_iload_n hx hb dL_law_274 rfl (lv_at hl 3 rfl) ?_
        refine lv_iconst (v := (5 : Int32)) hx hb dL_law_275 (by decide) ?_
        refine lv_iadd hx hb dL_law_276 ?_
        refine va_sld hx hb hX hbl hbA hW.2.2 hv5 dL_law_277 ?_
        refine ly_i (lr_y g_928 g_929 g_930 g_9 g_931 hd_X7_limb (Nat.le_of_ble_eq_true rfl) hx hb hml hown hg hK hW (As := [.int (xs (x3 + (1 : Int32)).toNatClampNeg), .int (xs (x3 + (2 : Int32)).toNatClampNeg), .int (xs (x3 + (3 : Int32)).toNatClampNeg), .int (xs (x3 + (4 : Int32)).toNatClampNeg), .int (xs (x3 + (5 : Int32)).toNatClampNeg)]) (c_X7_limb l G (xs (x3 + (1 : Int32)).toNatClampNeg) (xs (x3 + (2 : Int32)).toNatClampNeg) (xs (x3 + (3 : Int32)).toNatClampNeg) (xs (x3 + (4 : Int32)).toNatClampNeg) (xs (x3 + (5 : Int32)).toNatClampNeg) N h2) (Nat.le_of_ble_eq_true rfl) rfl hl.1 rfl (Nat.le_of_ble_eq_true rfl) dL_law_278 (Nat.le_refl _) (Nat.le_refl _)) hK hW (fun H locs hW => ?_)
        refine lv_icmp_eq (tgt := 1316) hx hb dL_law_281 (by decide) (fun _ => ?_) (fun q => absurd rfl q)
        exact go _ _ H locs hR1 hW ls hl
      by_cases c2 : v = (2 : Int32)
      · refine lv_tableIn (tgt := 286) hx hb dL_law_33 (by rw [c2]; decide) (by rw [c2]; decide) (by rw [c2]; rfl) (by decide) ?_
        obtain ⟨r, M1, N1, h1, h2, hR1⟩ := hO2 (xs (x3 + (1 : Int32)).toNatClampNeg) M N hR
        refine lv_aload_n hx hb dL_law_286 rfl (lv_at hl 1 rfl) ?_
        refine lv_aload_n hx hb dL_law_287 rfl (lv_at hl 0 rfl) ?_
        refine lv_iload_n hx hb dL_law_288 rfl (lv_at hl 3 rfl) ?_
        refine lv_iconst (v := (1 : Int32)) hx hb dL_law_289 (by decide) ?_
        refine lv_iadd hx hb dL_law_290 ?_
        refine va_sld hx hb hX hbl hbA hW.2.2 hv1 dL_law_291 ?_
        refine lx_i (lr_x g_312 g_313 g_314 g_1 g_315 hd_X6_type (Nat.le_of_ble_eq_true rfl) hx hb hml hown hg hK hW (As := [.int (xs (x3 + (1 : Int32)).toNatClampNeg)]) (c_X6_type l G (xs (x3 + (1 : Int32)).toNatClampNeg) M h1) (Nat.le_of_ble_eq_true rfl) rfl hl.1 rfl (Nat.le_of_ble_eq_true rfl) dL_law_292 (Nat.le_refl _) (Nat.le_refl _)) hK hW (fun H locs hW => ?_)
        refine lv_aload_n hx hb dL_law_295 rfl (lv_at hl 2 rfl) ?_
        refine lv_aload_n hx hb dL_law_296 rfl (lv_at hl 0 rfl) ?_
        refine lv_iload_n hx hb dL_law_297 rfl (lv_at hl 3 rfl) ?_
        refine lv_iconst (v := (1 : Int32)) hx hb dL_law_298 (by decide) ?_
        refine lv_iadd hx hb dL_law_299 ?_
        refine va_sld hx hb hX hbl hbA hW.2.2 hv1 dL_law_300 ?_
        refine ly_i (lr_y g_951 g_952 g_953 g_9 g_954 hd_X7_type (Nat.le_of_ble_eq_true rfl) hx hb hml hown hg hK hW (As := [.int (xs (x3 + (1 : Int32)).toNatClampNeg)]) (c_X7_type l G (xs (x3 + (1 : Int32)).toNatClampNeg) N h2) (Nat.le_of_ble_eq_true rfl) rfl hl.1 rfl (Nat.le_of_ble_eq_true rfl) dL_law_301 (Nat.le_refl _) (Nat.le_refl _)) hK hW (fun H locs hW => ?_)
        refine lv_icmp_eq (tgt := 1316) hx hb dL_law_304 (by decide) (fun _ => ?_) (fun q => absurd rfl q)
        exact go _ _ H locs hR1 hW ls hl
      by_cases c3 : v = (3 : Int32)
      · refine lv_tableIn (tgt := 309) hx hb dL_law_33 (by rw [c3]; decide) (by rw [c3]; decide) (by rw [c3]; rfl) (by decide) ?_
        obtain ⟨r, M1, N1, h1, h2, hR1⟩ := hO3 M N hR
        refine lv_aload_n hx hb dL_law_309 rfl (lv_at hl 1 rfl) ?_
        refine lx_i (lr_x g_321 g_322 g_323 g_1 g_324 hd_X6_clear (Nat.le_of_ble_eq_true rfl) hx hb hml hown hg hK hW (As := []) (c_X6_clear l G M h1) (Nat.le_of_ble_eq_true rfl) rfl hl.1 rfl (Nat.le_of_ble_eq_true rfl) dL_law_310 (Nat.le_refl _) (Nat.le_refl _)) hK hW (fun H locs hW => ?_)
        refine lv_aload_n hx hb dL_law_313 rfl (lv_at hl 2 rfl) ?_
        refine ly_i (lr_y g_956 g_957 g_958 g_9 g_959 hd_X7_clear (Nat.le_of_ble_eq_true rfl) hx hb hml hown hg hK hW (As := []) (c_X7_clear l G N h2) (Nat.le_of_ble_eq_true rfl) rfl hl.1 rfl (Nat.le_of_ble_eq_true rfl) dL_law_314 (Nat.le_refl _) (Nat.le_refl _)) hK hW (fun H locs hW => ?_)
        refine lv_icmp_eq (tgt := 1316) hx hb dL_law_317 (by decide) (fun _ => ?_) (fun q => absurd rfl q)
        exact go _ _ H locs hR1 hW ls hl
      by_cases c4 : v = (4 : Int32)
      · refine lv_tableIn (tgt := 322) hx hb dL_law_33 (by rw [c4]; decide) (by rw [c4]; decide) (by rw [c4]; rfl) (by decide) ?_
        obtain ⟨r, M1, N1, h1, h2, hR1⟩ := hO4 M N hR
        refine lv_aload_n hx hb dL_law_322 rfl (lv_at hl 1 rfl) ?_
        refine lx_i (lr_x g_325 g_326 g_327 g_1 g_328 hd_X6_read (Nat.le_of_ble_eq_true rfl) hx hb hml hown hg hK hW (As := []) (c_X6_read l G M h1) (Nat.le_of_ble_eq_true rfl) rfl hl.1 rfl (Nat.le_of_ble_eq_true rfl) dL_law_323 (Nat.le_refl _) (Nat.le_refl _)) hK hW (fun H locs hW => ?_)
        refine lv_aload_n hx hb dL_law_326 rfl (lv_at hl 2 rfl) ?_
        refine ly_i (lr_y g_960 g_961 g_962 g_9 g_963 hd_X7_read (Nat.le_of_ble_eq_true rfl) hx hb hml hown hg hK hW (As := []) (c_X7_read l G N h2) (Nat.le_of_ble_eq_true rfl) rfl hl.1 rfl (Nat.le_of_ble_eq_true rfl) dL_law_327 (Nat.le_refl _) (Nat.le_refl _)) hK hW (fun H locs hW => ?_)
        refine lv_icmp_eq (tgt := 1316) hx hb dL_law_330 (by decide) (fun _ => ?_) (fun q => absurd rfl q)
        exact go _ _ H locs hR1 hW ls hl
      by_cases c5 : v = (5 : Int32)
      · refine lv_tableIn (tgt := 335) hx hb dL_law_33 (by rw [c5]; decide) (by rw [c5]; decide) (by rw [c5]; rfl) (by decide) ?_
        obtain ⟨r, M1, N1, h1, h2, hR1⟩ := hO5 (xs (x3 + (1 : Int32)).toNatClampNeg) M N hR
        refine lv_aload_n hx hb dL_law_335 rfl (lv_at hl 1 rfl) ?_
        refine lv_aload_n hx hb dL_law_336 rfl (lv_at hl 0 rfl) ?_
        refine lv_iload_n hx hb dL_law_337 rfl (lv_at hl 3 rfl) ?_
        refine lv_iconst (v := (1 : Int32)) hx hb dL_law_338 (by decide) ?_
        refine lv_iadd hx hb dL_law_339 ?_
        refine va_sld hx hb hX hbl hbA hW.2.2 hv1 dL_law_340 ?_
        refine lx_i (lr_x g_491 g_492 g_493 g_1 g_494 hd_X6_moves (Nat.le_of_ble_eq_true rfl) hx hb hml hown hg hK hW (As := [.int (xs (x3 + (1 : Int32)).toNatClampNeg)]) (c_X6_moves l G (xs (x3 + (1 : Int32)).toNatClampNeg) M h1) (Nat.le_of_ble_eq_true rfl) rfl hl.1 rfl (Nat.le_of_ble_eq_true rfl) dL_law_341 (Nat.le_refl _) (Nat.le_refl _)) hK hW (fun H locs hW => ?_)
        refine lv_aload_n hx hb dL_law_344 rfl (lv_at hl 2 rfl) ?_
        refine lv_aload_n hx hb dL_law_345 rfl (lv_at hl 0 rfl) ?_
        refine lv_iload_n hx hb dL_law_346 rfl (lv_at hl 3 rfl) ?_
        refine lv_iconst (v := (1 : Int32)) hx hb dL_law_347 (by decide) ?_
        refine lv_iadd hx hb dL_law_348 ?_
        refine va_sld hx hb hX hbl hbA hW.2.2 hv1 dL_law_349 ?_
        refine ly_i (lr_y g_1041 g_1042 g_1043 g_9 g_1044 hd_X7_moves (Nat.le_of_ble_eq_true rfl) hx hb hml hown hg hK hW (As := [.int (xs (x3 + (1 : Int32)).toNatClampNeg)]) (c_X7_moves l G (xs (x3 + (1 : Int32)).toNatClampNeg) N h2) (Nat.le_of_ble_eq_true rfl) rfl hl.1 rfl (Nat.le_of_ble_eq_true rfl) dL_law_350 (Nat.le_refl _) (Nat.le_refl _)) hK hW (fun H locs hW => ?_)
        refine lv_icmp_eq (tgt := 1316) hx hb dL_law_353 (by decide) (fun _ => ?_) (fun q => absurd rfl q)
        exact go _ _ H locs hR1 hW ls hl
      by_cases c6 : v = (6 : Int32)
      · refine lv_tableIn (tgt := 358) hx hb dL_law_33 (by rw [c6]; decide) (by rw [c6]; decide) (by rw [c6]; rfl) (by decide) ?_
        obtain ⟨r, M1, N1, h1, h2, hR1⟩ := hO6 (xs (x3 + (1 : Int32)).toNatClampNeg) M N hR
        refine lv_aload_n hx hb dL_law_358 rfl (lv_at hl 1 rfl) ?_
        refine lv_aload_n hx hb dL_law_359 rfl (lv_at hl 0 rfl) ?_
        refine lv_iload_n hx hb dL_law_360 rfl (lv_at hl 3 rfl) ?_
        refine lv_iconst (v := (1 : Int32)) hx hb dL_law_361 (by decide) ?_
        refine lv_iadd hx hb dL_law_362 ?_
        refine va_sld hx hb hX hbl hbA hW.2.2 hv1 dL_law_363 ?_
        refine lx_i (lr_x g_510 g_511 g_512 g_1 g_513 hd_X6_ties (Nat.le_of_ble_eq_true rfl) hx hb hml hown hg hK hW (As := [.int (xs (x3 + (1 : Int32)).toNatClampNeg)]) (c_X6_ties l G (xs (x3 + (1 : Int32)).toNatClampNeg) M h1) (Nat.le_of_ble_eq_true rfl) rfl hl.1 rfl (Nat.le_of_ble_eq_true rfl) dL_law_364 (Nat.le_refl _) (Nat.le_refl _)) hK hW (fun H locs hW => ?_)
        refine lv_aload_n hx hb dL_law_367 rfl (lv_at hl 2 rfl) ?_
        refine lv_aload_n hx hb dL_law_368 rfl (lv_at hl 0 rfl) ?_
        refine lv_iload_n hx hb dL_law_369 rfl (lv_at hl 3 rfl) ?_
        refine lv_iconst (v := (1 : Int32)) hx hb dL_law_370 (by decide) ?_
        refine lv_iadd hx hb dL_law_371 ?_
        refine va_sld hx hb hX hbl hbA hW.2.2 hv1 dL_law_372 ?_
        refine ly_i (lr_y g_1057 g_1058 g_1059 g_9 g_1060 hd_X7_ties (Nat.le_of_ble_eq_true rfl) hx hb hml hown hg hK hW (As := [.int (xs (x3 + (1 : Int32)).toNatClampNeg)]) (c_X7_ties l G (xs (x3 + (1 : Int32)).toNatClampNeg) N h2) (Nat.le_of_ble_eq_true rfl) rfl hl.1 rfl (Nat.le_of_ble_eq_true rfl) dL_law_373 (Nat.le_refl _) (Nat.le_refl _)) hK hW (fun H locs hW => ?_)
        refine lv_icmp_eq (tgt := 1316) hx hb dL_law_376 (by decide) (fun _ => ?_) (fun q => absurd rfl q)
        exact go _ _ H locs hR1 hW ls hl
      by_cases c7 : v = (7 : Int32)
      · refine lv_tableIn (tgt := 381) hx hb dL_law_33 (by rw [c7]; decide) (by rw [c7]; decide) (by rw [c7]; rfl) (by decide) ?_
        obtain ⟨r, M1, N1, h1, h2, hR1⟩ := hO7 (xs (x3 + (1 : Int32)).toNatClampNeg) (xs (x3 + (2 : Int32)).toNatClampNeg) M N hR
        refine lv_aload_n hx hb dL_law_381 rfl (lv_at hl 1 rfl) ?_
        refine lv_aload_n hx hb dL_law_382 rfl (lv_at hl 0 rfl) ?_
        refine lv_iload_n hx hb dL_law_383 rfl (lv_at hl 3 rfl) ?_
        refine lv_iconst (v := (1 : Int32)) hx hb dL_law_384 (by decide) ?_
        refine lv_iadd hx hb dL_law_385 ?_
        refine va_sld hx hb hX hbl hbA hW.2.2 hv1 dL_law_386 ?_
        refine lv_aload_n hx hb dL_law_387 rfl (lv_at hl 0 rfl) ?_
        refine lv_iload_n hx hb dL_law_388 rfl (lv_at hl 3 rfl) ?_
        refine lv_iconst (v := (2 : Int32)) hx hb dL_law_389 (by decide) ?_
        refine lv_iadd hx hb dL_law_390 ?_
        refine va_sld hx hb hX hbl hbA hW.2.2 hv2 dL_law_391 ?_
        refine lx_i (lr_x g_521 g_522 g_523 g_1 g_524 hd_X6_hangs (Nat.le_of_ble_eq_true rfl) hx hb hml hown hg hK hW (As := [.int (xs (x3 + (1 : Int32)).toNatClampNeg), .int (xs (x3 + (2 : Int32)).toNatClampNeg)]) (c_X6_hangs l G (xs (x3 + (1 : Int32)).toNatClampNeg) (xs (x3 + (2 : Int32)).toNatClampNeg) M h1) (Nat.le_of_ble_eq_true rfl) rfl hl.1 rfl (Nat.le_of_ble_eq_true rfl) dL_law_392 (Nat.le_refl _) (Nat.le_refl _)) hK hW (fun H locs hW => ?_)
        refine lv_aload_n hx hb dL_law_395 rfl (lv_at hl 2 rfl) ?_
        refine lv_aload_n hx hb dL_law_396 rfl (lv_at hl 0 rfl) ?_
        refine lv_iload_n hx hb dL_law_397 rfl (lv_at hl 3 rfl) ?_
        refine lv_iconst (v := (1 : Int32)) hx hb dL_law_398 (by decide) ?_
        refine lv_iadd hx hb dL_law_399 ?_
        refine va_sld hx hb hX hbl hbA hW.2.2 hv1 dL_law_400 ?_
        refine lv_aload_n hx hb dL_law_401 rfl (lv_at hl 0 rfl) ?_
        refine lv_iload_n hx hb dL_law_402 rfl (lv_at hl 3 rfl) ?_
        refine lv_iconst (v := (2 : Int32)) hx hb dL_law_403 (by decide) ?_
        refine lv_iadd hx hb dL_law_404 ?_
        refine va_sld hx hb hX hbl hbA hW.2.2 hv2 dL_law_405 ?_
        refine ly_i (lr_y g_1061 g_1062 g_1063 g_9 g_1064 hd_X7_hangs (Nat.le_of_ble_eq_true rfl) hx hb hml hown hg hK hW (As := [.int (xs (x3 + (1 : Int32)).toNatClampNeg), .int (xs (x3 + (2 : Int32)).toNatClampNeg)]) (c_X7_hangs l G (xs (x3 + (1 : Int32)).toNatClampNeg) (xs (x3 + (2 : Int32)).toNatClampNeg) N h2) (Nat.le_of_ble_eq_true rfl) rfl hl.1 rfl (Nat.le_of_ble_eq_true rfl) dL_law_406 (Nat.le_refl _) (Nat.le_refl _)) hK hW (fun H locs hW => ?_)
        refine lv_icmp_eq (tgt := 1316) hx hb dL_law_409 (by decide) (fun _ => ?_) (fun q => absurd rfl q)
        exact go _ _ H locs hR1 hW ls hl
      by_cases c8 : v = (8 : Int32)
      · refine lv_tableIn (tgt := 414) hx hb dL_law_33 (by rw [c8]; decide) (by rw [c8]; decide) (by rw [c8]; rfl) (by decide) ?_
        obtain ⟨r, M1, N1, h1, h2, hR1⟩ := hO8 M N hR
        refine lv_aload_n hx hb dL_law_414 rfl (lv_at hl 1 rfl) ?_
        refine lx_i (lr_x g_529 g_530 g_531 g_1 g_532 hd_X6_undo (Nat.le_of_ble_eq_true rfl) hx hb hml hown hg hK hW (As := []) (c_X6_undo l G M h1) (Nat.le_of_ble_eq_true rfl) rfl hl.1 rfl (Nat.le_of_ble_eq_true rfl) dL_law_415 (Nat.le_refl _) (Nat.le_refl _)) hK hW (fun H locs hW => ?_)
        refine lv_aload_n hx hb dL_law_418 rfl (lv_at hl 2 rfl) ?_
        refine ly_i (lr_y g_1065 g_1066 g_1067 g_9 g_1068 hd_X7_undo (Nat.le_of_ble_eq_true rfl) hx hb hml hown hg hK hW (As := []) (c_X7_undo l G N h2) (Nat.le_of_ble_eq_true rfl) rfl hl.1 rfl (Nat.le_of_ble_eq_true rfl) dL_law_419 (Nat.le_refl _) (Nat.le_refl _)) hK hW (fun H locs hW => ?_)
        refine lv_icmp_eq (tgt := 1316) hx hb dL_law_422 (by decide) (fun _ => ?_) (fun q => absurd rfl q)
        exact go _ _ H locs hR1 hW ls hl
      by_cases c9 : v = (9 : Int32)
      · refine lv_tableIn (tgt := 427) hx hb dL_law_33 (by rw [c9]; decide) (by rw [c9]; decide) (by rw [c9]; rfl) (by decide) ?_
        obtain ⟨r, M1, N1, h1, h2, hR1⟩ := hO9 (xs (x3 + (1 : Int32)).toNatClampNeg) (xs (x3 + (2 : Int32)).toNatClampNeg) M N hR
        refine lv_aload_n hx hb dL_law_427 rfl (lv_at hl 1 rfl) ?_
        refine lv_aload_n hx hb dL_law_428 rfl (lv_at hl 0 rfl) ?_
        refine lv_iload_n hx hb dL_law_429 rfl (lv_at hl 3 rfl) ?_
        refine lv_iconst (v := (1 : Int32)) hx hb dL_law_430 (by decide) ?_
        refine lv_iadd hx hb dL_law_431 ?_
        refine va_sld hx hb hX hbl hbA hW.2.2 hv1 dL_law_432 ?_
        refine lv_aload_n hx hb dL_law_433 rfl (lv_at hl 0 rfl) ?_
        refine lv_iload_n hx hb dL_law_434 rfl (lv_at hl 3 rfl) ?_
        refine lv_iconst (v := (2 : Int32)) hx hb dL_law_435 (by decide) ?_
        refine lv_iadd hx hb dL_law_436 ?_
        refine va_sld hx hb hX hbl hbA hW.2.2 hv2 dL_law_437 ?_
        refine lx_i (lr_x g_537 g_538 g_539 g_1 g_540 hd_X6_of (Nat.le_of_ble_eq_true rfl) hx hb hml hown hg hK hW (As := [.int (xs (x3 + (1 : Int32)).toNatClampNeg), .int (xs (x3 + (2 : Int32)).toNatClampNeg)]) (c_X6_of l G (xs (x3 + (1 : Int32)).toNatClampNeg) (xs (x3 + (2 : Int32)).toNatClampNeg) M h1) (Nat.le_of_ble_eq_true rfl) rfl hl.1 rfl (Nat.le_of_ble_eq_true rfl) dL_law_438 (Nat.le_refl _) (Nat.le_refl _)) hK hW (fun H locs hW => ?_)
        refine lv_aload_n hx hb dL_law_441 rfl (lv_at hl 2 rfl) ?_
        refine lv_aload_n hx hb dL_law_442 rfl (lv_at hl 0 rfl) ?_
        refine lv_iload_n hx hb dL_law_443 rfl (lv_at hl 3 rfl) ?_
        refine lv_iconst (v := (1 : Int32)) hx hb dL_law_444 (by decide) ?_
        refine lv_iadd hx hb dL_law_445 ?_
        refine va_sld hx hb hX hbl hbA hW.2.2 hv1 dL_law_446 ?_
        refine lv_aload_n hx hb dL_law_447 rfl (lv_at hl 0 rfl) ?_
        refine lv_iload_n hx hb dL_law_448 rfl (lv_at hl 3 rfl) ?_
        refine lv_iconst (v := (2 : Int32)) hx hb dL_law_449 (by decide) ?_
        refine lv_iadd hx hb dL_law_450 ?_
        refine va_sld hx hb hX hbl hbA hW.2.2 hv2 dL_law_451 ?_
        refine ly_i (lr_y g_1069 g_1070 g_1071 g_9 g_1072 hd_X7_of (Nat.le_of_ble_eq_true rfl) hx hb hml hown hg hK hW (As := [.int (xs (x3 + (1 : Int32)).toNatClampNeg), .int (xs (x3 + (2 : Int32)).toNatClampNeg)]) (c_X7_of l G (xs (x3 + (1 : Int32)).toNatClampNeg) (xs (x3 + (2 : Int32)).toNatClampNeg) N h2) (Nat.le_of_ble_eq_true rfl) rfl hl.1 rfl (Nat.le_of_ble_eq_true rfl) dL_law_452 (Nat.le_refl _) (Nat.le_refl _)) hK hW (fun H locs hW => ?_)
        refine lv_icmp_eq (tgt := 1316) hx hb dL_law_455 (by decide) (fun _ => ?_) (fun q => absurd rfl q)
        exact go _ _ H locs hR1 hW ls hl
      by_cases c10 : v = (10 : Int32)
      · refine lv_tableIn (tgt := 460) hx hb dL_law_33 (by rw [c10]; decide) (by rw [c10]; decide) (by rw [c10]; rfl) (by decide) ?_
        obtain ⟨r, M1, N1, h1, h2, hR1⟩ := hO10 (xs (x3 + (1 : Int32)).toNatClampNeg) M N hR
        refine lv_aload_n hx hb dL_law_460 rfl (lv_at hl 1 rfl) ?_
        refine lv_aload_n hx hb dL_law_461 rfl (lv_at hl 0 rfl) ?_
        refine lv_iload_n hx hb dL_law_462 rfl (lv_at hl 3 rfl) ?_
        refine lv_iconst (v := (1 : Int32)) hx hb dL_law_463 (by decide) ?_
        refine lv_iadd hx hb dL_law_464 ?_
        refine va_sld hx hb hX hbl hbA hW.2.2 hv1 dL_law_465 ?_
        refine lx_i (lr_x g_564 g_565 g_566 g_1 g_567 hd_X6_touch (Nat.le_of_ble_eq_true rfl) hx hb hml hown hg hK hW (As := [.int (xs (x3 + (1 : Int32)).toNatClampNeg)]) (c_X6_touch l G (xs (x3 + (1 : Int32)).toNatClampNeg) M h1) (Nat.le_of_ble_eq_true rfl) rfl hl.1 rfl (Nat.le_of_ble_eq_true rfl) dL_law_466 (Nat.le_refl _) (Nat.le_refl _)) hK hW (fun H locs hW => ?_)
        refine lv_aload_n hx hb dL_law_469 rfl (lv_at hl 2 rfl) ?_
        refine lv_aload_n hx hb dL_law_470 rfl (lv_at hl 0 rfl) ?_
        refine lv_iload_n hx hb dL_law_471 rfl (lv_at hl 3 rfl) ?_
        refine lv_iconst (v := (1 : Int32)) hx hb dL_law_472 (by decide) ?_
        refine lv_iadd hx hb dL_law_473 ?_
        refine va_sld hx hb hX hbl hbA hW.2.2 hv1 dL_law_474 ?_
        refine ly_i (lr_y g_1088 g_1089 g_1090 g_9 g_1091 hd_X7_touch (Nat.le_of_ble_eq_true rfl) hx hb hml hown hg hK hW (As := [.int (xs (x3 + (1 : Int32)).toNatClampNeg)]) (c_X7_touch l G (xs (x3 + (1 : Int32)).toNatClampNeg) N h2) (Nat.le_of_ble_eq_true rfl) rfl hl.1 rfl (Nat.le_of_ble_eq_true rfl) dL_law_475 (Nat.le_refl _) (Nat.le_refl _)) hK hW (fun H locs hW => ?_)
        refine lv_icmp_eq (tgt := 1316) hx hb dL_law_478 (by decide) (fun _ => ?_) (fun q => absurd rfl q)
        exact go _ _ H locs hR1 hW ls hl
      by_cases c11 : v = (11 : Int32)
      · refine lv_tableIn (tgt := 483) hx hb dL_law_33 (by rw [c11]; decide) (by rw [c11]; decide) (by rw [c11]; rfl) (by decide) ?_
        obtain ⟨r, M1, N1, h1, h2, hR1⟩ := hO11 (xs (x3 + (1 : Int32)).toNatClampNeg) M N hR
        refine lv_aload_n hx hb dL_law_483 rfl (lv_at hl 1 rfl) ?_
        refine lv_aload_n hx hb dL_law_484 rfl (lv_at hl 0 rfl) ?_
        refine lv_iload_n hx hb dL_law_485 rfl (lv_at hl 3 rfl) ?_
        refine lv_iconst (v := (1 : Int32)) hx hb dL_law_486 (by decide) ?_
        refine lv_iadd hx hb dL_law_487 ?_
        refine va_sld hx hb hX hbl hbA hW.2.2 hv1 dL_law_488 ?_
        refine lx_i (lr_x g_573 g_574 g_575 g_1 g_576 hd_X6_safe (Nat.le_of_ble_eq_true rfl) hx hb hml hown hg hK hW (As := [.int (xs (x3 + (1 : Int32)).toNatClampNeg)]) (c_X6_safe l G (xs (x3 + (1 : Int32)).toNatClampNeg) M h1) (Nat.le_of_ble_eq_true rfl) rfl hl.1 rfl (Nat.le_of_ble_eq_true rfl) dL_law_489 (Nat.le_refl _) (Nat.le_refl _)) hK hW (fun H locs hW => ?_)
        refine lv_aload_n hx hb dL_law_492 rfl (lv_at hl 2 rfl) ?_
        refine lv_aload_n hx hb dL_law_493 rfl (lv_at hl 0 rfl) ?_
        refine lv_iload_n hx hb dL_law_494 rfl (lv_at hl 3 rfl) ?_
        refine lv_iconst (v := (1 : Int32)) hx hb dL_law_495 (by decide) ?_
        refine lv_iadd hx hb dL_law_496 ?_
        refine va_sld hx hb hX hbl hbA hW.2.2 hv1 dL_law_497 ?_
        refine ly_i (lr_y g_1100 g_1101 g_1102 g_9 g_1103 hd_X7_safe (Nat.le_of_ble_eq_true rfl) hx hb hml hown hg hK hW (As := [.int (xs (x3 + (1 : Int32)).toNatClampNeg)]) (c_X7_safe l G (xs (x3 + (1 : Int32)).toNatClampNeg) N h2) (Nat.le_of_ble_eq_true rfl) rfl hl.1 rfl (Nat.le_of_ble_eq_true rfl) dL_law_498 (Nat.le_refl _) (Nat.le_refl _)) hK hW (fun H locs hW => ?_)
        refine lv_icmp_eq (tgt := 1316) hx hb dL_law_501 (by decide) (fun _ => ?_) (fun q => absurd rfl q)
        exact go _ _ H locs hR1 hW ls hl
      by_cases c12 : v = (12 : Int32)
      · refine lv_tableIn (tgt := 506) hx hb dL_law_33 (by rw [c12]; decide) (by rw [c12]; decide) (by rw [c12]; rfl) (by decide) ?_
        obtain ⟨r, M1, N1, h1, h2, hR1⟩ := hO12 (xs (x3 + (1 : Int32)).toNatClampNeg) (xs (x3 + (2 : Int32)).toNatClampNeg) (xs (x3 + (3 : Int32)).toNatClampNeg) M N hR
        refine lv_aload_n hx hb dL_law_506 rfl (lv_at hl 1 rfl) ?_
        refine lv_aload_n hx hb dL_law_507 rfl (lv_at hl 0 rfl) ?_
        refine lv_iload_n hx hb dL_law_508 rfl (lv_at hl 3 rfl) ?_
        refine lv_iconst (v := (1 : Int32)) hx hb dL_law_509 (by decide) ?_
        refine lv_iadd hx hb dL_law_510 ?_
        refine va_sld hx hb hX hbl hbA hW.2.2 hv1 dL_law_511 ?_
        refine lv_aload_n hx hb dL_law_512 rfl (lv_at hl 0 rfl) ?_
        refine lv_iload_n hx hb dL_law_513 rfl (lv_at hl 3 rfl) ?_
        refine lv_iconst (v := (2 : Int32)) hx hb dL_law_514 (by decide) ?_
        refine lv_iadd hx hb dL_law_515 ?_
        refine va_sld hx hb hX hbl hbA hW.2.2 hv2 dL_law_516 ?_
        refine lv_aload_n hx hb dL_law_517 rfl (lv_at hl 0 rfl) ?_
        refine lv_iload_n hx hb dL_law_518 rfl (lv_at hl 3 rfl) ?_
        refine lv_iconst (v := (3 : Int32)) hx hb dL_law_519 (by decide) ?_
        refine lv_iadd hx hb dL_law_520 ?_
        refine va_sld hx hb hX hbl hbA hW.2.2 hv3 dL_law_521 ?_
        refine lx_i (lr_x g_579 g_580 g_581 g_1 g_582 hd_X6_few (Nat.le_of_ble_eq_true rfl) hx hb hml hown hg hK hW (As := [.int (xs (x3 + (1 : Int32)).toNatClampNeg), .int (xs (x3 + (2 : Int32)).toNatClampNeg), .int (xs (x3 + (3 : Int32)).toNatClampNeg)]) (c_X6_few l G (xs (x3 + (1 : Int32)).toNatClampNeg) (xs (x3 + (2 : Int32)).toNatClampNeg) (xs (x3 + (3 : Int32)).toNatClampNeg) M h1) (Nat.le_of_ble_eq_true rfl) rfl hl.1 rfl (Nat.le_of_ble_eq_true rfl) dL_law_522 (Nat.le_refl _) (Nat.le_refl _)) hK hW (fun H locs hW => ?_)
        refine lv_aload_n hx hb dL_law_525 rfl (lv_at hl 2 rfl) ?_
        refine lv_aload_n hx hb dL_law_526 rfl (lv_at hl 0 rfl) ?_
        refine lv_iload_n hx hb dL_law_527 rfl (lv_at hl 3 rfl) ?_
        refine lv_iconst (v := (1 : Int32)) hx hb dL_law_528 (by decide) ?_
        refine lv_iadd hx hb dL_law_529 ?_
        refine va_sld hx hb hX hbl hbA hW.2.2 hv1 dL_law_530 ?_
        refine lv_aload_n hx hb dL_law_531 rfl (lv_at hl 0 rfl) ?_
        refine lv_iload_n hx hb dL_law_532 rfl (lv_at hl 3 rfl) ?_
        refine lv_iconst (v := (2 : Int32)) hx hb dL_law_533 (by decide) ?_
        refine lv_iadd hx hb dL_law_534 ?_
        refine va_sld hx hb hX hbl hbA hW.2.2 hv2 dL_law_535 ?_
        refine lv_aload_n hx hb dL_law_536 rfl (lv_at hl 0 rfl) ?_
        refine lv_iload_n hx hb dL_law_537 rfl (lv_at hl 3 rfl) ?_
        refine lv_iconst (v := (3 : Int32)) hx hb dL_law_538 (by decide) ?_
        refine lv_iadd hx hb dL_law_539 ?_
        refine va_sld hx hb hX hbl hbA hW.2.2 hv3 dL_law_540 ?_
        refine ly_i (lr_y g_1112 g_1113 g_1114 g_9 g_1115 hd_X7_few (Nat.le_of_ble_eq_true rfl) hx hb hml hown hg hK hW (As := [.int (xs (x3 + (1 : Int32)).toNatClampNeg), .int (xs (x3 + (2 : Int32)).toNatClampNeg), .int (xs (x3 + (3 : Int32)).toNatClampNeg)]) (c_X7_few l G (xs (x3 + (1 : Int32)).toNatClampNeg) (xs (x3 + (2 : Int32)).toNatClampNeg) (xs (x3 + (3 : Int32)).toNatClampNeg) N h2) (Nat.le_of_ble_eq_true rfl) rfl hl.1 rfl (Nat.le_of_ble_eq_true rfl) dL_law_541 (Nat.le_refl _) (Nat.le_refl _)) hK hW (fun H locs hW => ?_)
        refine lv_icmp_eq (tgt := 1316) hx hb dL_law_544 (by decide) (fun _ => ?_) (fun q => absurd rfl q)
        exact go _ _ H locs hR1 hW ls hl
      by_cases c13 : v = (13 : Int32)
      · refine lv_tableIn (tgt := 549) hx hb dL_law_33 (by rw [c13]; decide) (by rw [c13]; decide) (by rw [c13]; rfl) (by decide) ?_
        obtain ⟨r, M1, N1, h1, h2, hR1⟩ := hO13 (xs (x3 + (1 : Int32)).toNatClampNeg) (xs (x3 + (2 : Int32)).toNatClampNeg) (xs (x3 + (3 : Int32)).toNatClampNeg) (xs (x3 + (4 : Int32)).toNatClampNeg) M N hR
        refine lv_aload_n hx hb dL_law_549 rfl (lv_at hl 1 rfl) ?_
        refine lv_aload_n hx hb dL_law_550 rfl (lv_at hl 0 rfl) ?_
        refine lv_iload_n hx hb dL_law_551 rfl (lv_at hl 3 rfl) ?_
        refine lv_iconst (v := (1 : Int32)) hx hb dL_law_552 (by decide) ?_
        refine lv_iadd hx hb dL_law_553 ?_
        refine va_sld hx hb hX hbl hbA hW.2.2 hv1 dL_law_554 ?_
        refine lv_aload_n hx hb dL_law_555 rfl (lv_at hl 0 rfl) ?_
        refine lv_iload_n hx hb dL_law_556 rfl (lv_at hl 3 rfl) ?_
        refine lv_iconst (v := (2 : Int32)) hx hb dL_law_557 (by decide) ?_
        refine lv_iadd hx hb dL_law_558 ?_
        refine va_sld hx hb hX hbl hbA hW.2.2 hv2 dL_law_559 ?_
        refine lv_aload_n hx hb dL_law_560 rfl (lv_at hl 0 rfl) ?_
        refine lv_iload_n hx hb dL_law_561 rfl (lv_at hl 3 rfl) ?_
        refine lv_iconst (v := (3 : Int32)) hx hb dL_law_562 (by decide) ?_
        refine lv_iadd hx hb dL_law_563 ?_
        refine va_sld hx hb hX hbl hbA hW.2.2 hv3 dL_law_564 ?_
        refine lv_aload_n hx hb dL_law_565 rfl (lv_at hl 0 rfl) ?_
        refine lv_iload_n hx hb dL_law_566 rfl (lv_at hl 3 rfl) ?_
        refine lv_iconst (v := (4 : Int32)) hx hb dL_law_567 (by decide) ?_
        refine lv_iadd hx hb dL_law_568 ?_
        refine va_sld hx hb hX hbl hbA hW.2.2 hv4 dL_law_569 ?_
        refine lx_i (lr_x g_608 g_609 g_610 g_1 g_611 hd_X6_both (Nat.le_of_ble_eq_true rfl) hx hb hml hown hg hK hW (As := [.int (xs (x3 + (1 : Int32)).toNatClampNeg), .int (xs (x3 + (2 : Int32)).toNatClampNeg), .int (xs (x3 + (3 : Int32)).toNatClampNeg), .int (xs (x3 + (4 : Int32)).toNatClampNeg)]) (c_X6_both l G (xs (x3 + (1 : Int32)).toNatClampNeg) (xs (x3 + (2 : Int32)).toNatClampNeg) (xs (x3 + (3 : Int32)).toNatClampNeg) (xs (x3 + (4 : Int32)).toNatClampNeg) M h1) (Nat.le_of_ble_eq_true rfl) rfl hl.1 rfl (Nat.le_of_ble_eq_true rfl) dL_law_570 (Nat.le_refl _) (Nat.le_refl _)) hK hW (fun H locs hW => ?_)
        refine lv_aload_n hx hb dL_law_573 rfl (lv_at hl 2 rfl) ?_
        refine lv_aload_n hx hb dL_law_574 rfl (lv_at hl 0 rfl) ?_
        refine lv_iload_n hx hb dL_law_575 rfl (lv_at hl 3 rfl) ?_
        refine lv_iconst (v := (1 : Int32)) hx hb dL_law_576 (by decide) ?_
        refine lv_iadd hx hb dL_law_577 ?_
        refine va_sld hx hb hX hbl hbA hW.2.2 hv1 dL_law_578 ?_
        refine lv_aload_n hx hb dL_law_579 rfl (lv_at hl 0 rfl) ?_
        refine lv_iload_n hx hb dL_law_580 rfl (lv_at hl 3 rfl) ?_
        refine lv_iconst (v := (2 : Int32)) hx hb dL_law_581 (by decide) ?_
        refine lv_iadd hx hb dL_law_582 ?_
        refine va_sld hx hb hX hbl hbA hW.2.2 hv2 dL_law_583 ?_
        refine lv_aload_n hx hb dL_law_584 rfl (lv_at hl 0 rfl) ?_
        refine lv_iload_n hx hb dL_law_585 rfl (lv_at hl 3 rfl) ?_
        refine lv_iconst (v := (3 : Int32)) hx hb dL_law_586 (by decide) ?_
        refine lv_iadd hx hb dL_law_587 ?_
        refine va_sld hx hb hX hbl hbA hW.2.2 hv3 dL_law_588 ?_
        refine lv_aload_n hx hb dL_law_589 rfl (lv_at hl 0 rfl) ?_
        refine lv_iload_n hx hb dL_law_590 rfl (lv_at hl 3 rfl) ?_
        refine lv_iconst (v := (4 : Int32)) hx hb dL_law_591 (by decide) ?_
        refine lv_iadd hx hb dL_law_592 ?_
        refine va_sld hx hb hX hbl hbA hW.2.2 hv4 dL_law_593 ?_
        refine ly_i (lr_y g_1126 g_1127 g_1128 g_9 g_1129 hd_X7_both (Nat.le_of_ble_eq_true rfl) hx hb hml hown hg hK hW (As := [.int (xs (x3 + (1 : Int32)).toNatClampNeg), .int (xs (x3 + (2 : Int32)).toNatClampNeg), .int (xs (x3 + (3 : Int32)).toNatClampNeg), .int (xs (x3 + (4 : Int32)).toNatClampNeg)]) (c_X7_both l G (xs (x3 + (1 : Int32)).toNatClampNeg) (xs (x3 + (2 : Int32)).toNatClampNeg) (xs (x3 + (3 : Int32)).toNatClampNeg) (xs (x3 + (4 : Int32)).toNatClampNeg) N h2) (Nat.le_of_ble_eq_true rfl) rfl hl.1 rfl (Nat.le_of_ble_eq_true rfl) dL_law_594 (Nat.le_refl _) (Nat.le_refl _)) hK hW (fun H locs hW => ?_)
        refine lv_icmp_eq (tgt := 1316) hx hb dL_law_597 (by decide) (fun _ => ?_) (fun q => absurd rfl q)
        exact go _ _ H locs hR1 hW ls hl
      by_cases c14 : v = (14 : Int32)
      · refine lv_tableIn (tgt := 602) hx hb dL_law_33 (by rw [c14]; decide) (by rw [c14]; decide) (by rw [c14]; rfl) (by decide) ?_
        obtain ⟨r, M1, N1, h1, h2, hR1⟩ := hO14 (xs (x3 + (1 : Int32)).toNatClampNeg) (xs (x3 + (2 : Int32)).toNatClampNeg) (xs (x3 + (3 : Int32)).toNatClampNeg) M N hR
        refine lv_aload_n hx hb dL_law_602 rfl (lv_at hl 1 rfl) ?_
        refine lv_aload_n hx hb dL_law_603 rfl (lv_at hl 0 rfl) ?_
        refine lv_iload_n hx hb dL_law_604 rfl (lv_at hl 3 rfl) ?_
        refine lv_iconst (v := (1 : Int32)) hx hb dL_law_605 (by decide) ?_
        refine lv_iadd hx hb dL_law_606 ?_
        refine va_sld hx hb hX hbl hbA hW.2.2 hv1 dL_law_607 ?_
        refine lv_aload_n hx hb dL_law_608 rfl (lv_at hl 0 rfl) ?_
        refine lv_iload_n hx hb dL_law_609 rfl (lv_at hl 3 rfl) ?_
        refine lv_iconst (v := (2 : Int32)) hx hb dL_law_610 (by decide) ?_
        refine lv_iadd hx hb dL_law_611 ?_
        refine va_sld hx hb hX hbl hbA hW.2.2 hv2 dL_law_612 ?_
        refine lv_aload_n hx hb dL_law_613 rfl (lv_at hl 0 rfl) ?_
        refine lv_iload_n hx hb dL_law_614 rfl (lv_at hl 3 rfl) ?_
        refine lv_iconst (v := (3 : Int32)) hx hb dL_law_615 (by decide) ?_
        refine lv_iadd hx hb dL_law_616 ?_
        refine va_sld hx hb hX hbl hbA hW.2.2 hv3 dL_law_617 ?_
        refine lx_i (lr_x g_612 g_613 g_614 g_1 g_615 hd_X6_hole (Nat.le_of_ble_eq_true rfl) hx hb hml hown hg hK hW (As := [.int (xs (x3 + (1 : Int32)).toNatClampNeg), .int (xs (x3 + (2 : Int32)).toNatClampNeg), .int (xs (x3 + (3 : Int32)).toNatClampNeg)]) (c_X6_hole l G (xs (x3 + (1 : Int32)).toNatClampNeg) (xs (x3 + (2 : Int32)).toNatClampNeg) (xs (x3 + (3 : Int32)).toNatClampNeg) M h1) (Nat.le_of_ble_eq_true rfl) rfl hl.1 rfl (Nat.le_of_ble_eq_true rfl) dL_law_618 (Nat.le_refl _) (Nat.le_refl _)) hK hW (fun H locs hW => ?_)
        refine lv_aload_n hx hb dL_law_621 rfl (lv_at hl 2 rfl) ?_
        refine lv_aload_n hx hb dL_law_622 rfl (lv_at hl 0 rfl) ?_
        refine lv_iload_n hx hb dL_law_623 rfl (lv_at hl 3 rfl) ?_
        refine lv_iconst (v := (1 : Int32)) hx hb dL_law_624 (by decide) ?_
        refine lv_iadd hx hb dL_law_625 ?_
        refine va_sld hx hb hX hbl hbA hW.2.2 hv1 dL_law_626 ?_
        refine lv_aload_n hx hb dL_law_627 rfl (lv_at hl 0 rfl) ?_
        refine lv_iload_n hx hb dL_law_628 rfl (lv_at hl 3 rfl) ?_
        refine lv_iconst (v := (2 : Int32)) hx hb dL_law_629 (by decide) ?_
        refine lv_iadd hx hb dL_law_630 ?_
        refine va_sld hx hb hX hbl hbA hW.2.2 hv2 dL_law_631 ?_
        refine lv_aload_n hx hb dL_law_632 rfl (lv_at hl 0 rfl) ?_
        refine lv_iload_n hx hb dL_law_633 rfl (lv_at hl 3 rfl) ?_
        refine lv_iconst (v := (3 : Int32)) hx hb dL_law_634 (by decide) ?_
        refine lv_iadd hx hb dL_law_635 ?_
        refine va_sld hx hb hX hbl hbA hW.2.2 hv3 dL_law_636 ?_
        refine ly_i (lr_y g_1130 g_1131 g_1132 g_9 g_1133 hd_X7_hole (Nat.le_of_ble_eq_true rfl) hx hb hml hown hg hK hW (As := [.int (xs (x3 + (1 : Int32)).toNatClampNeg), .int (xs (x3 + (2 : Int32)).toNatClampNeg), .int (xs (x3 + (3 : Int32)).toNatClampNeg)]) (c_X7_hole l G (xs (x3 + (1 : Int32)).toNatClampNeg) (xs (x3 + (2 : Int32)).toNatClampNeg) (xs (x3 + (3 : Int32)).toNatClampNeg) N h2) (Nat.le_of_ble_eq_true rfl) rfl hl.1 rfl (Nat.le_of_ble_eq_true rfl) dL_law_637 (Nat.le_refl _) (Nat.le_refl _)) hK hW (fun H locs hW => ?_)
        refine lv_icmp_eq (tgt := 1316) hx hb dL_law_640 (by decide) (fun _ => ?_) (fun q => absurd rfl q)
        exact go _ _ H locs hR1 hW ls hl
      by_cases c15 : v = (15 : Int32)
      · refine lv_tableIn (tgt := 645) hx hb dL_law_33 (by rw [c15]; decide) (by rw [c15]; decide) (by rw [c15]; rfl) (by decide) ?_
        obtain ⟨r, M1, N1, h1, h2, hR1⟩ := hO15 (xs (x3 + (1 : Int32)).toNatClampNeg) (xs (x3 + (2 : Int32)).toNatClampNeg) (xs (x3 + (3 : Int32)).toNatClampNeg) M N hR
        refine lv_aload_n hx hb dL_law_645 rfl (lv_at hl 1 rfl) ?_
        refine lv_aload_n hx hb dL_law_646 rfl (lv_at hl 0 rfl) ?_
        refine lv_iload_n hx hb dL_law_647 rfl (lv_at hl 3 rfl) ?_
        refine lv_iconst (v := (1 : Int32)) hx hb dL_law_648 (by decide) ?_
        refine lv_iadd hx hb dL_law_649 ?_
        refine va_sld hx hb hX hbl hbA hW.2.2 hv1 dL_law_650 ?_
        refine lv_aload_n hx hb dL_law_651 rfl (lv_at hl 0 rfl) ?_
        refine lv_iload_n hx hb dL_law_652 rfl (lv_at hl 3 rfl) ?_
        refine lv_iconst (v := (2 : Int32)) hx hb dL_law_653 (by decide) ?_
        refine lv_iadd hx hb dL_law_654 ?_
        refine va_sld hx hb hX hbl hbA hW.2.2 hv2 dL_law_655 ?_
        refine lv_aload_n hx hb dL_law_656 rfl (lv_at hl 0 rfl) ?_
        refine lv_iload_n hx hb dL_law_657 rfl (lv_at hl 3 rfl) ?_
        refine lv_iconst (v := (3 : Int32)) hx hb dL_law_658 (by decide) ?_
        refine lv_iadd hx hb dL_law_659 ?_
        refine va_sld hx hb hX hbl hbA hW.2.2 hv3 dL_law_660 ?_
        refine lx_i (lr_x g_625 g_626 g_627 g_1 g_628 hd_X6_beat (Nat.le_of_ble_eq_true rfl) hx hb hml hown hg hK hW (As := [.int (xs (x3 + (1 : Int32)).toNatClampNeg), .int (xs (x3 + (2 : Int32)).toNatClampNeg), .int (xs (x3 + (3 : Int32)).toNatClampNeg)]) (c_X6_beat l G (xs (x3 + (1 : Int32)).toNatClampNeg) (xs (x3 + (2 : Int32)).toNatClampNeg) (xs (x3 + (3 : Int32)).toNatClampNeg) M h1) (Nat.le_of_ble_eq_true rfl) rfl hl.1 rfl (Nat.le_of_ble_eq_true rfl) dL_law_661 (Nat.le_refl _) (Nat.le_refl _)) hK hW (fun H locs hW => ?_)
        refine lv_aload_n hx hb dL_law_664 rfl (lv_at hl 2 rfl) ?_
        refine lv_aload_n hx hb dL_law_665 rfl (lv_at hl 0 rfl) ?_
        refine lv_iload_n hx hb dL_law_666 rfl (lv_at hl 3 rfl) ?_
        refine lv_iconst (v := (1 : Int32)) hx hb dL_law_667 (by decide) ?_
        refine lv_iadd hx hb dL_law_668 ?_
        refine va_sld hx hb hX hbl hbA hW.2.2 hv1 dL_law_669 ?_
        refine lv_aload_n hx hb dL_law_670 rfl (lv_at hl 0 rfl) ?_
        refine lv_iload_n hx hb dL_law_671 rfl (lv_at hl 3 rfl) ?_
        refine lv_iconst (v := (2 : Int32)) hx hb dL_law_672 (by decide) ?_
        refine lv_iadd hx hb dL_law_673 ?_
        refine va_sld hx hb hX hbl hbA hW.2.2 hv2 dL_law_674 ?_
        refine lv_aload_n hx hb dL_law_675 rfl (lv_at hl 0 rfl) ?_
        refine lv_iload_n hx hb dL_law_676 rfl (lv_at hl 3 rfl) ?_
        refine lv_iconst (v := (3 : Int32)) hx hb dL_law_677 (by decide) ?_
        refine lv_iadd hx hb dL_law_678 ?_
        refine va_sld hx hb hX hbl hbA hW.2.2 hv3 dL_law_679 ?_
        refine ly_i (lr_y g_1137 g_1138 g_1139 g_9 g_1140 hd_X7_beat (Nat.le_of_ble_eq_true rfl) hx hb hml hown hg hK hW (As := [.int (xs (x3 + (1 : Int32)).toNatClampNeg), .int (xs (x3 + (2 : Int32)).toNatClampNeg), .int (xs (x3 + (3 : Int32)).toNatClampNeg)]) (c_X7_beat l G (xs (x3 + (1 : Int32)).toNatClampNeg) (xs (x3 + (2 : Int32)).toNatClampNeg) (xs (x3 + (3 : Int32)).toNatClampNeg) N h2) (Nat.le_of_ble_eq_true rfl) rfl hl.1 rfl (Nat.le_of_ble_eq_true rfl) dL_law_680 (Nat.le_refl _) (Nat.le_refl _)) hK hW (fun H locs hW => ?_)
        refine lv_icmp_eq (tgt := 1316) hx hb dL_law_683 (by decide) (fun _ => ?_) (fun q => absurd rfl q)
        exact go _ _ H locs hR1 hW ls hl
      by_cases c16 : v = (16 : Int32)
      · refine lv_tableIn (tgt := 688) hx hb dL_law_33 (by rw [c16]; decide) (by rw [c16]; decide) (by rw [c16]; rfl) (by decide) ?_
        obtain ⟨r, M1, N1, h1, h2, hR1⟩ := hO16 (xs (x3 + (1 : Int32)).toNatClampNeg) M N hR
        refine lv_aload_n hx hb dL_law_688 rfl (lv_at hl 1 rfl) ?_
        refine lv_aload_n hx hb dL_law_689 rfl (lv_at hl 0 rfl) ?_
        refine lv_iload_n hx hb dL_law_690 rfl (lv_at hl 3 rfl) ?_
        refine lv_iconst (v := (1 : Int32)) hx hb dL_law_691 (by decide) ?_
        refine lv_iadd hx hb dL_law_692 ?_
        refine va_sld hx hb hX hbl hbA hW.2.2 hv1 dL_law_693 ?_
        refine lx_i (lr_x g_629 g_630 g_631 g_1 g_632 hd_X6_dance (Nat.le_of_ble_eq_true rfl) hx hb hml hown hg hK hW (As := [.int (xs (x3 + (1 : Int32)).toNatClampNeg)]) (c_X6_dance l G (xs (x3 + (1 : Int32)).toNatClampNeg) M h1) (Nat.le_of_ble_eq_true rfl) rfl hl.1 rfl (Nat.le_of_ble_eq_true rfl) dL_law_694 (Nat.le_refl _) (Nat.le_refl _)) hK hW (fun H locs hW => ?_)
        refine lv_aload_n hx hb dL_law_697 rfl (lv_at hl 2 rfl) ?_
        refine lv_aload_n hx hb dL_law_698 rfl (lv_at hl 0 rfl) ?_
        refine lv_iload_n hx hb dL_law_699 rfl (lv_at hl 3 rfl) ?_
        refine lv_iconst (v := (1 : Int32)) hx hb dL_law_700 (by decide) ?_
        refine lv_iadd hx hb dL_law_701 ?_
        refine va_sld hx hb hX hbl hbA hW.2.2 hv1 dL_law_702 ?_
        refine ly_i (lr_y g_1141 g_1142 g_1143 g_9 g_1144 hd_X7_dance (Nat.le_of_ble_eq_true rfl) hx hb hml hown hg hK hW (As := [.int (xs (x3 + (1 : Int32)).toNatClampNeg)]) (c_X7_dance l G (xs (x3 + (1 : Int32)).toNatClampNeg) N h2) (Nat.le_of_ble_eq_true rfl) rfl hl.1 rfl (Nat.le_of_ble_eq_true rfl) dL_law_703 (Nat.le_refl _) (Nat.le_refl _)) hK hW (fun H locs hW => ?_)
        refine lv_icmp_eq (tgt := 1316) hx hb dL_law_706 (by decide) (fun _ => ?_) (fun q => absurd rfl q)
        exact go _ _ H locs hR1 hW ls hl
      by_cases c17 : v = (17 : Int32)
      · refine lv_tableIn (tgt := 711) hx hb dL_law_33 (by rw [c17]; decide) (by rw [c17]; decide) (by rw [c17]; rfl) (by decide) ?_
        obtain ⟨r, M1, N1, h1, h2, hR1⟩ := hO17 M N hR
        refine lv_aload_n hx hb dL_law_711 rfl (lv_at hl 1 rfl) ?_
        refine lx_i (lr_x g_633 g_634 g_635 g_1 g_636 hd_X6_comesOut (Nat.le_of_ble_eq_true rfl) hx hb hml hown hg hK hW (As := []) (c_X6_comesOut l G M h1) (Nat.le_of_ble_eq_true rfl) rfl hl.1 rfl (Nat.le_of_ble_eq_true rfl) dL_law_712 (Nat.le_refl _) (Nat.le_refl _)) hK hW (fun H locs hW => ?_)
        refine lv_aload_n hx hb dL_law_715 rfl (lv_at hl 2 rfl) ?_
        refine ly_i (lr_y g_1146 g_1147 g_1148 g_9 g_1149 hd_X7_comesOut (Nat.le_of_ble_eq_true rfl) hx hb hml hown hg hK hW (As := []) (c_X7_comesOut l G N h2) (Nat.le_of_ble_eq_true rfl) rfl hl.1 rfl (Nat.le_of_ble_eq_true rfl) dL_law_716 (Nat.le_refl _) (Nat.le_refl _)) hK hW (fun H locs hW => ?_)
        refine lv_icmp_eq (tgt := 1316) hx hb dL_law_719 (by decide) (fun _ => ?_) (fun q => absurd rfl q)
        exact go _ _ H locs hR1 hW ls hl
      by_cases c18 : v = (18 : Int32)
      · refine lv_tableIn (tgt := 724) hx hb dL_law_33 (by rw [c18]; decide) (by rw [c18]; decide) (by rw [c18]; rfl) (by decide) ?_
        obtain ⟨r, M1, N1, h1, h2, hR1⟩ := hO18 M N hR
        refine lv_aload_n hx hb dL_law_724 rfl (lv_at hl 1 rfl) ?_
        refine lx_i (lr_x g_638 g_639 g_640 g_1 g_641 hd_X6_snaps (Nat.le_of_ble_eq_true rfl) hx hb hml hown hg hK hW (As := []) (c_X6_snaps l G M h1) (Nat.le_of_ble_eq_true rfl) rfl hl.1 rfl (Nat.le_of_ble_eq_true rfl) dL_law_725 (Nat.le_refl _) (Nat.le_refl _)) hK hW (fun H locs hW => ?_)
        refine lv_aload_n hx hb dL_law_728 rfl (lv_at hl 2 rfl) ?_
        refine ly_i (lr_y g_1150 g_1151 g_1152 g_9 g_1153 hd_X7_snaps (Nat.le_of_ble_eq_true rfl) hx hb hml hown hg hK hW (As := []) (c_X7_snaps l G N h2) (Nat.le_of_ble_eq_true rfl) rfl hl.1 rfl (Nat.le_of_ble_eq_true rfl) dL_law_729 (Nat.le_refl _) (Nat.le_refl _)) hK hW (fun H locs hW => ?_)
        refine lv_icmp_eq (tgt := 1316) hx hb dL_law_732 (by decide) (fun _ => ?_) (fun q => absurd rfl q)
        exact go _ _ H locs hR1 hW ls hl
      by_cases c19 : v = (19 : Int32)
      · refine lv_tableIn (tgt := 737) hx hb dL_law_33 (by rw [c19]; decide) (by rw [c19]; decide) (by rw [c19]; rfl) (by decide) ?_
        obtain ⟨r, M1, N1, h1, h2, hR1⟩ := hO19 (xs (x3 + (1 : Int32)).toNatClampNeg) (xs (x3 + (2 : Int32)).toNatClampNeg) (xs (x3 + (3 : Int32)).toNatClampNeg) (xs (x3 + (4 : Int32)).toNatClampNeg) M N hR
        refine lv_aload_n hx hb dL_law_737 rfl (lv_at hl 1 rfl) ?_
        refine lv_aload_n hx hb dL_law_738 rfl (lv_at hl 0 rfl) ?_
        refine lv_iload_n hx hb dL_law_739 rfl (lv_at hl 3 rfl) ?_
        refine lv_iconst (v := (1 : Int32)) hx hb dL_law_740 (by decide) ?_
        refine lv_iadd hx hb dL_law_741 ?_
        refine va_sld hx hb hX hbl hbA hW.2.2 hv1 dL_law_742 ?_
        refine lv_aload_n hx hb dL_law_743 rfl (lv_at hl 0 rfl) ?_
        refine lv_iload_n hx hb dL_law_744 rfl (lv_at hl 3 rfl) ?_
        refine lv_iconst (v := (2 : Int32)) hx hb dL_law_745 (by decide) ?_
        refine lv_iadd hx hb dL_law_746 ?_
        refine va_sld hx hb hX hbl hbA hW.2.2 hv2 dL_law_747 ?_
        refine lv_aload_n hx hb dL_law_748 rfl (lv_at hl 0 rfl) ?_
        refine lv_iload_n hx hb dL_law_749 rfl (lv_at hl 3 rfl) ?_
        refine lv_iconst (v := (3 : Int32)) hx hb dL_law_750 (by decide) ?_
        refine lv_iadd hx hb dL_law_751 ?_
        refine va_sld hx hb hX hbl hbA hW.2.2 hv3 dL_law_752 ?_
        refine lv_aload_n hx hb dL_law_753 rfl (lv_at hl 0 rfl) ?_
        refine lv_iload_n hx hb dL_law_754 rfl (lv_at hl 3 rfl) ?_
        refine lv_iconst (v := (4 : Int32)) hx hb dL_law_755 (by decide) ?_
        refine lv_iadd hx hb dL_law_756 ?_
        refine va_sld hx hb hX hbl hbA hW.2.2 hv4 dL_law_757 ?_
        refine lx_i (lr_x g_642 g_643 g_644 g_1 g_645 hd_X6_seen (Nat.le_of_ble_eq_true rfl) hx hb hml hown hg hK hW (As := [.int (xs (x3 + (1 : Int32)).toNatClampNeg), .int (xs (x3 + (2 : Int32)).toNatClampNeg), .int (xs (x3 + (3 : Int32)).toNatClampNeg), .int (xs (x3 + (4 : Int32)).toNatClampNeg)]) (c_X6_seen l G (xs (x3 + (1 : Int32)).toNatClampNeg) (xs (x3 + (2 : Int32)).toNatClampNeg) (xs (x3 + (3 : Int32)).toNatClampNeg) (xs (x3 + (4 : Int32)).toNatClampNeg) M h1) (Nat.le_of_ble_eq_true rfl) rfl hl.1 rfl (Nat.le_of_ble_eq_true rfl) dL_law_758 (Nat.le_refl _) (Nat.le_refl _)) hK hW (fun H locs hW => ?_)
        refine lv_aload_n hx hb dL_law_761 rfl (lv_at hl 2 rfl) ?_
        refine lv_aload_n hx hb dL_law_762 rfl (lv_at hl 0 rfl) ?_
        refine lv_iload_n hx hb dL_law_763 rfl (lv_at hl 3 rfl) ?_
        refine lv_iconst (v := (1 : Int32)) hx hb dL_law_764 (by decide) ?_
        refine lv_iadd hx hb dL_law_765 ?_
        refine va_sld hx hb hX hbl hbA hW.2.2 hv1 dL_law_766 ?_
        refine lv_aload_n hx hb dL_law_767 rfl (lv_at hl 0 rfl) ?_
        refine lv_iload_n hx hb dL_law_768 rfl (lv_at hl 3 rfl) ?_
        refine lv_iconst (v := (2 : Int32)) hx hb dL_law_769 (by decide) ?_
        refine lv_iadd hx hb dL_law_770 ?_
        refine va_sld hx hb hX hbl hbA hW.2.2 hv2 dL_law_771 ?_
        refine lv_aload_n hx hb dL_law_772 rfl (lv_at hl 0 rfl) ?_
        refine lv_iload_n hx hb dL_law_773 rfl (lv_at hl 3 rfl) ?_
        refine lv_iconst (v := (3 : Int32)) hx hb dL_law_774 (by decide) ?_
        refine lv_iadd hx hb dL_law_775 ?_
        refine va_sld hx hb hX hbl hbA hW.2.2 hv3 dL_law_776 ?_
        refine lv_aload_n hx hb dL_law_777 rfl (lv_at hl 0 rfl) ?_
        refine lv_iload_n hx hb dL_law_778 rfl (lv_at hl 3 rfl) ?_
        refine lv_iconst (v := (4 : Int32)) hx hb dL_law_779 (by decide) ?_
        refine lv_iadd hx hb dL_law_780 ?_
        refine va_sld hx hb hX hbl hbA hW.2.2 hv4 dL_law_781 ?_
        refine ly_i (lr_y g_1154 g_1155 g_1156 g_9 g_1157 hd_X7_seen (Nat.le_of_ble_eq_true rfl) hx hb hml hown hg hK hW (As := [.int (xs (x3 + (1 : Int32)).toNatClampNeg), .int (xs (x3 + (2 : Int32)).toNatClampNeg), .int (xs (x3 + (3 : Int32)).toNatClampNeg), .int (xs (x3 + (4 : Int32)).toNatClampNeg)]) (c_X7_seen l G (xs (x3 + (1 : Int32)).toNatClampNeg) (xs (x3 + (2 : Int32)).toNatClampNeg) (xs (x3 + (3 : Int32)).toNatClampNeg) (xs (x3 + (4 : Int32)).toNatClampNeg) N h2) (Nat.le_of_ble_eq_true rfl) rfl hl.1 rfl (Nat.le_of_ble_eq_true rfl) dL_law_782 (Nat.le_refl _) (Nat.le_refl _)) hK hW (fun H locs hW => ?_)
        refine lv_icmp_eq (tgt := 1316) hx hb dL_law_785 (by decide) (fun _ => ?_) (fun q => absurd rfl q)
        exact go _ _ H locs hR1 hW ls hl
      by_cases c20 : v = (20 : Int32)
      · refine lv_tableIn (tgt := 790) hx hb dL_law_33 (by rw [c20]; decide) (by rw [c20]; decide) (by rw [c20]; rfl) (by decide) ?_
        obtain ⟨r, M1, N1, h1, h2, hR1⟩ := hO20 (xs (x3 + (1 : Int32)).toNatClampNeg) (xs (x3 + (2 : Int32)).toNatClampNeg) M N hR
        refine lv_aload_n hx hb dL_law_790 rfl (lv_at hl 1 rfl) ?_
        refine lv_aload_n hx hb dL_law_791 rfl (lv_at hl 0 rfl) ?_
        refine lv_iload_n hx hb dL_law_792 rfl (lv_at hl 3 rfl) ?_
        refine lv_iconst (v := (1 : Int32)) hx hb dL_law_793 (by decide) ?_
        refine lv_iadd hx hb dL_law_794 ?_
        refine va_sld hx hb hX hbl hbA hW.2.2 hv1 dL_law_795 ?_
        refine lv_aload_n hx hb dL_law_796 rfl (lv_at hl 0 rfl) ?_
        refine lv_iload_n hx hb dL_law_797 rfl (lv_at hl 3 rfl) ?_
        refine lv_iconst (v := (2 : Int32)) hx hb dL_law_798 (by decide) ?_
        refine lv_iadd hx hb dL_law_799 ?_
        refine va_sld hx hb hX hbl hbA hW.2.2 hv2 dL_law_800 ?_
        refine lx_i (lr_x g_655 g_656 g_657 g_1 g_658 hd_X6_heavy (Nat.le_of_ble_eq_true rfl) hx hb hml hown hg hK hW (As := [.int (xs (x3 + (1 : Int32)).toNatClampNeg), .int (xs (x3 + (2 : Int32)).toNatClampNeg)]) (c_X6_heavy l G (xs (x3 + (1 : Int32)).toNatClampNeg) (xs (x3 + (2 : Int32)).toNatClampNeg) M h1) (Nat.le_of_ble_eq_true rfl) rfl hl.1 rfl (Nat.le_of_ble_eq_true rfl) dL_law_801 (Nat.le_refl _) (Nat.le_refl _)) hK hW (fun H locs hW => ?_)
        refine lv_aload_n hx hb dL_law_804 rfl (lv_at hl 2 rfl) ?_
        refine lv_aload_n hx hb dL_law_805 rfl (lv_at hl 0 rfl) ?_
        refine lv_iload_n hx hb dL_law_806 rfl (lv_at hl 3 rfl) ?_
        refine lv_iconst (v := (1 : Int32)) hx hb dL_law_807 (by decide) ?_
        refine lv_iadd hx hb dL_law_808 ?_
        refine va_sld hx hb hX hbl hbA hW.2.2 hv1 dL_law_809 ?_
        refine lv_aload_n hx hb dL_law_810 rfl (lv_at hl 0 rfl) ?_
        refine lv_iload_n hx hb dL_law_811 rfl (lv_at hl 3 rfl) ?_
        refine lv_iconst (v := (2 : Int32)) hx hb dL_law_812 (by decide) ?_
        refine lv_iadd hx hb dL_law_813 ?_
        refine va_sld hx hb hX hbl hbA hW.2.2 hv2 dL_law_814 ?_
        refine ly_i (lr_y g_1176 g_1177 g_1178 g_9 g_1179 hd_X7_heavy (Nat.le_of_ble_eq_true rfl) hx hb hml hown hg hK hW (As := [.int (xs (x3 + (1 : Int32)).toNatClampNeg), .int (xs (x3 + (2 : Int32)).toNatClampNeg)]) (c_X7_heavy l G (xs (x3 + (1 : Int32)).toNatClampNeg) (xs (x3 + (2 : Int32)).toNatClampNeg) N h2) (Nat.le_of_ble_eq_true rfl) rfl hl.1 rfl (Nat.le_of_ble_eq_true rfl) dL_law_815 (Nat.le_refl _) (Nat.le_refl _)) hK hW (fun H locs hW => ?_)
        refine lv_icmp_eq (tgt := 1316) hx hb dL_law_818 (by decide) (fun _ => ?_) (fun q => absurd rfl q)
        exact go _ _ H locs hR1 hW ls hl
      by_cases c21 : v = (21 : Int32)
      · refine lv_tableIn (tgt := 823) hx hb dL_law_33 (by rw [c21]; decide) (by rw [c21]; decide) (by rw [c21]; rfl) (by decide) ?_
        obtain ⟨r, M1, N1, h1, h2, hR1⟩ := hO21 (xs (x3 + (1 : Int32)).toNatClampNeg) M N hR
        refine lv_aload_n hx hb dL_law_823 rfl (lv_at hl 1 rfl) ?_
        refine lv_aload_n hx hb dL_law_824 rfl (lv_at hl 0 rfl) ?_
        refine lv_iload_n hx hb dL_law_825 rfl (lv_at hl 3 rfl) ?_
        refine lv_iconst (v := (1 : Int32)) hx hb dL_law_826 (by decide) ?_
        refine lv_iadd hx hb dL_law_827 ?_
        refine va_sld hx hb hX hbl hbA hW.2.2 hv1 dL_law_828 ?_
        refine lx_i (lr_x g_693 g_694 g_695 g_1 g_696 hd_X6_tell (Nat.le_of_ble_eq_true rfl) hx hb hml hown hg hK hW (As := [.int (xs (x3 + (1 : Int32)).toNatClampNeg)]) (c_X6_tell l G (xs (x3 + (1 : Int32)).toNatClampNeg) M h1) (Nat.le_of_ble_eq_true rfl) rfl hl.1 rfl (Nat.le_of_ble_eq_true rfl) dL_law_829 (Nat.le_refl _) (Nat.le_refl _)) hK hW (fun H locs hW => ?_)
        refine lv_aload_n hx hb dL_law_832 rfl (lv_at hl 2 rfl) ?_
        refine lv_aload_n hx hb dL_law_833 rfl (lv_at hl 0 rfl) ?_
        refine lv_iload_n hx hb dL_law_834 rfl (lv_at hl 3 rfl) ?_
        refine lv_iconst (v := (1 : Int32)) hx hb dL_law_835 (by decide) ?_
        refine lv_iadd hx hb dL_law_836 ?_
        refine va_sld hx hb hX hbl hbA hW.2.2 hv1 dL_law_837 ?_
        refine ly_i (lr_y g_1188 g_1189 g_1190 g_9 g_1191 hd_X7_tell (Nat.le_of_ble_eq_true rfl) hx hb hml hown hg hK hW (As := [.int (xs (x3 + (1 : Int32)).toNatClampNeg)]) (c_X7_tell l G (xs (x3 + (1 : Int32)).toNatClampNeg) N h2) (Nat.le_of_ble_eq_true rfl) rfl hl.1 rfl (Nat.le_of_ble_eq_true rfl) dL_law_838 (Nat.le_refl _) (Nat.le_refl _)) hK hW (fun H locs hW => ?_)
        refine lv_icmp_eq (tgt := 1316) hx hb dL_law_841 (by decide) (fun _ => ?_) (fun q => absurd rfl q)
        exact go _ _ H locs hR1 hW ls hl
      by_cases c22 : v = (22 : Int32)
      · refine lv_tableIn (tgt := 846) hx hb dL_law_33 (by rw [c22]; decide) (by rw [c22]; decide) (by rw [c22]; rfl) (by decide) ?_
        obtain ⟨r, M1, N1, h1, h2, hR1⟩ := hO22 (xs (x3 + (1 : Int32)).toNatClampNeg) (xs (x3 + (2 : Int32)).toNatClampNeg) (xs (x3 + (3 : Int32)).toNatClampNeg) (xs (x3 + (4 : Int32)).toNatClampNeg) (xs (x3 + (5 : Int32)).toNatClampNeg) M N hR
        refine lv_aload_n hx hb dL_law_846 rfl (lv_at hl 1 rfl) ?_
        refine lv_aload_n hx hb dL_law_847 rfl (lv_at hl 0 rfl) ?_
        refine lv_iload_n hx hb dL_law_848 rfl (lv_at hl 3 rfl) ?_
        refine lv_iconst (v := (1 : Int32)) hx hb dL_law_849 (by decide) ?_
        refine lv_iadd hx hb dL_law_850 ?_
        refine va_sld hx hb hX hbl hbA hW.2.2 hv1 dL_law_851 ?_
        refine lv_aload_n hx hb dL_law_852 rfl (lv_at hl 0 rfl) ?_
        refine lv_iload_n hx hb dL_law_853 rfl (lv_at hl 3 rfl) ?_
        refine lv_iconst (v := (2 : Int32)) hx hb dL_law_854 (by decide) ?_
        refine lv_iadd hx hb dL_law_855 ?_
        refine va_sld hx hb hX hbl hbA hW.2.2 hv2 dL_law_856 ?_
        refine lv_aload_n hx hb dL_law_857 rfl (lv_at hl 0 rfl) ?_
        refine lv_iload_n hx hb dL_law_858 rfl (lv_at hl 3 rfl) ?_
        refine lv_iconst (v := (3 : Int32)) hx hb dL_law_859 (by decide) ?_
        refine lv_iadd hx hb dL_law_860 ?_
        refine va_sld hx hb hX hbl hbA hW.2.2 hv3 dL_law_861 ?_
        refine lv_aload_n hx hb dL_law_862 rfl (lv_at hl 0 rfl) ?_
        refine lv_iload_n hx hb dL_law_863 rfl (lv_at hl 3 rfl) ?_
        refine lv_iconst (v := (4 : Int32)) hx hb dL_law_864 (by decide) ?_
        refine lv_iadd hx hb dL_law_865 ?_
        refine va_sld hx hb hX hbl hbA hW.2.2 hv4 dL_law_866 ?_
        refine lv_aload_n hx hb dL_law_867 rfl (lv_at hl 0 rfl) ?_
        refine lv_iload_n hx hb dL_law_868 rfl (lv_at hl 3 rfl) ?_
        refine lv_iconst (v := (5 : Int32)) hx hb dL_law_869 (by decide) ?_
        refine lv_iadd hx hb dL_law_870 ?_
        refine va_sld hx hb hX hbl hbA hW.2.2 hv5 dL_law_871 ?_
        refine lx_i (lr_x g_704 g_705 g_706 g_1 g_707 hd_X6_note (Nat.le_of_ble_eq_true rfl) hx hb hml hown hg hK hW (As := [.int (xs (x3 + (1 : Int32)).toNatClampNeg), .int (xs (x3 + (2 : Int32)).toNatClampNeg), .int (xs (x3 + (3 : Int32)).toNatClampNeg), .int (xs (x3 + (4 : Int32)).toNatClampNeg), .int (xs (x3 + (5 : Int32)).toNatClampNeg)]) (c_X6_note l G (xs (x3 + (1 : Int32)).toNatClampNeg) (xs (x3 + (2 : Int32)).toNatClampNeg) (xs (x3 + (3 : Int32)).toNatClampNeg) (xs (x3 + (4 : Int32)).toNatClampNeg) (xs (x3 + (5 : Int32)).toNatClampNeg) M h1) (Nat.le_of_ble_eq_true rfl) rfl hl.1 rfl (Nat.le_of_ble_eq_true rfl) dL_law_872 (Nat.le_refl _) (Nat.le_refl _)) hK hW (fun H locs hW => ?_)
        refine lv_aload_n hx hb dL_law_875 rfl (lv_at hl 2 rfl) ?_
        refine lv_aload_n hx hb dL_law_876 rfl (lv_at hl 0 rfl) ?_
        refine lv_iload_n hx hb dL_law_877 rfl (lv_at hl 3 rfl) ?_
        refine lv_iconst (v := (1 : Int32)) hx hb dL_law_878 (by decide) ?_
        refine lv_iadd hx hb dL_law_879 ?_
        refine va_sld hx hb hX hbl hbA hW.2.2 hv1 dL_law_880 ?_
        refine lv_aload_n hx hb dL_law_881 rfl (lv_at hl 0 rfl) ?_
        refine lv_iload_n hx hb dL_law_882 rfl (lv_at hl 3 rfl) ?_
        refine lv_iconst (v := (2 : Int32)) hx hb dL_law_883 (by decide) ?_
        refine lv_iadd hx hb dL_law_884 ?_
        refine va_sld hx hb hX hbl hbA hW.2.2 hv2 dL_law_885 ?_
        refine lv_aload_n hx hb dL_law_886 rfl (lv_at hl 0 rfl) ?_
        refine lv_iload_n hx hb dL_law_887 rfl (lv_at hl 3 rfl) ?_
        refine lv_iconst (v := (3 : Int32)) hx hb dL_law_888 (by decide) ?_
        refine lv_iadd hx hb dL_law_889 ?_
        refine va_sld hx hb hX hbl hbA hW.2.2 hv3 dL_law_890 ?_
        refine lv_aload_n hx hb dL_law_891 rfl (lv_at hl 0 rfl) ?_
        refine lv_iload_n hx hb dL_law_892 rfl (lv_at hl 3 rfl) ?_
        refine lv_iconst (v := (4 : Int32)) hx hb dL_law_893 (by decide) ?_
        refine lv_iadd hx hb dL_law_894 ?_
        refine va_sld hx hb hX hbl hbA hW.2.2 hv4 dL_law_895 ?_
        refine lv_aload_n hx hb dL_law_896 rfl (lv_at hl 0 rfl) ?_
        refine lv_iload_n hx hb dL_law_897 rfl (lv_at hl 3 rfl) ?_
        refine lv_iconst (v := (5 : Int32)) hx hb dL_law_898 (by decide) ?_
        refine lv_iadd hx hb dL_law_899 ?_
        refine va_sld hx hb hX hbl hbA hW.2.2 hv5 dL_law_900 ?_
        refine ly_i (lr_y g_1162 g_1163 g_1164 g_9 g_1165 hd_X7_note (Nat.le_of_ble_eq_true rfl) hx hb hml hown hg hK hW (As := [.int (xs (x3 + (1 : Int32)).toNatClampNeg), .int (xs (x3 + (2 : Int32)).toNatClampNeg), .int (xs (x3 + (3 : Int32)).toNatClampNeg), .int (xs (x3 + (4 : Int32)).toNatClampNeg), .int (xs (x3 + (5 : Int32)).toNatClampNeg)]) (c_X7_note l G (xs (x3 + (1 : Int32)).toNatClampNeg) (xs (x3 + (2 : Int32)).toNatClampNeg) (xs (x3 + (3 : Int32)).toNatClampNeg) (xs (x3 + (4 : Int32)).toNatClampNeg) (xs (x3 + (5 : Int32)).toNatClampNeg) N h2) (Nat.le_of_ble_eq_true rfl) rfl hl.1 rfl (Nat.le_of_ble_eq_true rfl) dL_law_901 (Nat.le_refl _) (Nat.le_refl _)) hK hW (fun H locs hW => ?_)
        refine lv_icmp_eq (tgt := 1316) hx hb dL_law_904 (by decide) (fun _ => ?_) (fun q => absurd rfl q)
        exact go _ _ H locs hR1 hW ls hl
      by_cases c23 : v = (23 : Int32)
      · refine lv_tableIn (tgt := 909) hx hb dL_law_33 (by rw [c23]; decide) (by rw [c23]; decide) (by rw [c23]; rfl) (by decide) ?_
        obtain ⟨r, M1, N1, h1, h2, hR1⟩ := hO23 (xs (x3 + (1 : Int32)).toNatClampNeg) (xs (x3 + (2 : Int32)).toNatClampNeg) (xs (x3 + (3 : Int32)).toNatClampNeg) (xs (x3 + (4 : Int32)).toNatClampNeg) M N hR
        refine lv_aload_n hx hb dL_law_909 rfl (lv_at hl 1 rfl) ?_
        refine lv_aload_n hx hb dL_law_910 rfl (lv_at hl 0 rfl) ?_
        refine lv_iload_n hx hb dL_law_911 rfl (lv_at hl 3 rfl) ?_
        refine lv_iconst (v := (1 : Int32)) hx hb dL_law_912 (by decide) ?_
        refine lv_iadd hx hb dL_law_913 ?_
        refine va_sld hx hb hX hbl hbA hW.2.2 hv1 dL_law_914 ?_
        refine lv_aload_n hx hb dL_law_915 rfl (lv_at hl 0 rfl) ?_
        refine lv_iload_n hx hb dL_law_916 rfl (lv_at hl 3 rfl) ?_
        refine lv_iconst (v := (2 : Int32)) hx hb dL_law_917 (by decide) ?_
        refine lv_iadd hx hb dL_law_918 ?_
        refine va_sld hx hb hX hbl hbA hW.2.2 hv2 dL_law_919 ?_
        refine lv_aload_n hx hb dL_law_920 rfl (lv_at hl 0 rfl) ?_
        refine lv_iload_n hx hb dL_law_921 rfl (lv_at hl 3 rfl) ?_
        refine lv_iconst (v := (3 : Int32)) hx hb dL_law_922 (by decide) ?_
        refine lv_iadd hx hb dL_law_923 ?_
        refine va_sld hx hb hX hbl hbA hW.2.2 hv3 dL_law_924 ?_
        refine lv_aload_n hx hb dL_law_925 rfl (lv_at hl 0 rfl) ?_
        refine lv_iload_n hx hb dL_law_926 rfl (lv_at hl 3 rfl) ?_
        refine lv_iconst (v := (4 : Int32)) hx hb dL_law_927 (by decide) ?_
        refine lv_iadd hx hb dL_law_928 ?_
        refine va_sld hx hb hX hbl hbA hW.2.2 hv4 dL_law_929 ?_
        refine lx_i (lr_x g_708 g_709 g_710 g_1 g_711 hd_X6_mark (Nat.le_of_ble_eq_true rfl) hx hb hml hown hg hK hW (As := [.int (xs (x3 + (1 : Int32)).toNatClampNeg), .int (xs (x3 + (2 : Int32)).toNatClampNeg), .int (xs (x3 + (3 : Int32)).toNatClampNeg), .int (xs (x3 + (4 : Int32)).toNatClampNeg)]) (c_X6_mark l G (xs (x3 + (1 : Int32)).toNatClampNeg) (xs (x3 + (2 : Int32)).toNatClampNeg) (xs (x3 + (3 : Int32)).toNatClampNeg) (xs (x3 + (4 : Int32)).toNatClampNeg) M h1) (Nat.le_of_ble_eq_true rfl) rfl hl.1 rfl (Nat.le_of_ble_eq_true rfl) dL_law_930 (Nat.le_refl _) (Nat.le_refl _)) hK hW (fun H locs hW => ?_)
        refine lv_aload_n hx hb dL_law_933 rfl (lv_at hl 2 rfl) ?_
        refine lv_aload_n hx hb dL_law_934 rfl (lv_at hl 0 rfl) ?_
        refine lv_iload_n hx hb dL_law_935 rfl (lv_at hl 3 rfl) ?_
        refine lv_iconst (v := (1 : Int32)) hx hb dL_law_936 (by decide) ?_
        refine lv_iadd hx hb dL_law_937 ?_
        refine va_sld hx hb hX hbl hbA hW.2.2 hv1 dL_law_938 ?_
        refine lv_aload_n hx hb dL_law_939 rfl (lv_at hl 0 rfl) ?_
        refine lv_iload_n hx hb dL_law_940 rfl (lv_at hl 3 rfl) ?_
        refine lv_iconst (v := (2 : Int32)) hx hb dL_law_941 (by decide) ?_
        refine lv_iadd hx hb dL_law_942 ?_
        refine va_sld hx hb hX hbl hbA hW.2.2 hv2 dL_law_943 ?_
        refine lv_aload_n hx hb dL_law_944 rfl (lv_at hl 0 rfl) ?_
        refine lv_iload_n hx hb dL_law_945 rfl (lv_at hl 3 rfl) ?_
        refine lv_iconst (v := (3 : Int32)) hx hb dL_law_946 (by decide) ?_
        refine lv_iadd hx hb dL_law_947 ?_
        refine va_sld hx hb hX hbl hbA hW.2.2 hv3 dL_law_948 ?_
        refine lv_aload_n hx hb dL_law_949 rfl (lv_at hl 0 rfl) ?_
        refine lv_iload_n hx hb dL_law_950 rfl (lv_at hl 3 rfl) ?_
        refine lv_iconst (v := (4 : Int32)) hx hb dL_law_951 (by decide) ?_
        refine lv_iadd hx hb dL_law_952 ?_
        refine va_sld hx hb hX hbl hbA hW.2.2 hv4 dL_law_953 ?_
        refine ly_i (lr_y g_1167 g_1168 g_1169 g_9 g_1170 hd_X7_mark (Nat.le_of_ble_eq_true rfl) hx hb hml hown hg hK hW (As := [.int (xs (x3 + (1 : Int32)).toNatClampNeg), .int (xs (x3 + (2 : Int32)).toNatClampNeg), .int (xs (x3 + (3 : Int32)).toNatClampNeg), .int (xs (x3 + (4 : Int32)).toNatClampNeg)]) (c_X7_mark l G (xs (x3 + (1 : Int32)).toNatClampNeg) (xs (x3 + (2 : Int32)).toNatClampNeg) (xs (x3 + (3 : Int32)).toNatClampNeg) (xs (x3 + (4 : Int32)).toNatClampNeg) N h2) (Nat.le_of_ble_eq_true rfl) rfl hl.1 rfl (Nat.le_of_ble_eq_true rfl) dL_law_954 (Nat.le_refl _) (Nat.le_refl _)) hK hW (fun H locs hW => ?_)
        refine lv_icmp_eq (tgt := 1316) hx hb dL_law_957 (by decide) (fun _ => ?_) (fun q => absurd rfl q)
        exact go _ _ H locs hR1 hW ls hl
      by_cases c24 : v = (24 : Int32)
      · refine lv_tableIn (tgt := 962) hx hb dL_law_33 (by rw [c24]; decide) (by rw [c24]; decide) (by rw [c24]; rfl) (by decide) ?_
        obtain ⟨r, M1, N1, h1, h2, hR1⟩ := hO24 (xs (x3 + (1 : Int32)).toNatClampNeg) M N hR
        refine lv_aload_n hx hb dL_law_962 rfl (lv_at hl 1 rfl) ?_
        refine lv_aload_n hx hb dL_law_963 rfl (lv_at hl 0 rfl) ?_
        refine lv_iload_n hx hb dL_law_964 rfl (lv_at hl 3 rfl) ?_
        refine lv_iconst (v := (1 : Int32)) hx hb dL_law_965 (by decide) ?_
        refine lv_iadd hx hb dL_law_966 ?_
        refine va_sld hx hb hX hbl hbA hW.2.2 hv1 dL_law_967 ?_
        refine lx_i (lr_x g_712 g_713 g_714 g_1 g_715 hd_X6_forget (Nat.le_of_ble_eq_true rfl) hx hb hml hown hg hK hW (As := [.int (xs (x3 + (1 : Int32)).toNatClampNeg)]) (c_X6_forget l G (xs (x3 + (1 : Int32)).toNatClampNeg) M h1) (Nat.le_of_ble_eq_true rfl) rfl hl.1 rfl (Nat.le_of_ble_eq_true rfl) dL_law_968 (Nat.le_refl _) (Nat.le_refl _)) hK hW (fun H locs hW => ?_)
        refine lv_aload_n hx hb dL_law_971 rfl (lv_at hl 2 rfl) ?_
        refine lv_aload_n hx hb dL_law_972 rfl (lv_at hl 0 rfl) ?_
        refine lv_iload_n hx hb dL_law_973 rfl (lv_at hl 3 rfl) ?_
        refine lv_iconst (v := (1 : Int32)) hx hb dL_law_974 (by decide) ?_
        refine lv_iadd hx hb dL_law_975 ?_
        refine va_sld hx hb hX hbl hbA hW.2.2 hv1 dL_law_976 ?_
        refine ly_i (lr_y g_1171 g_1172 g_1173 g_9 g_1174 hd_X7_forget (Nat.le_of_ble_eq_true rfl) hx hb hml hown hg hK hW (As := [.int (xs (x3 + (1 : Int32)).toNatClampNeg)]) (c_X7_forget l G (xs (x3 + (1 : Int32)).toNatClampNeg) N h2) (Nat.le_of_ble_eq_true rfl) rfl hl.1 rfl (Nat.le_of_ble_eq_true rfl) dL_law_977 (Nat.le_refl _) (Nat.le_refl _)) hK hW (fun H locs hW => ?_)
        refine lv_icmp_eq (tgt := 1316) hx hb dL_law_980 (by decide) (fun _ => ?_) (fun q => absurd rfl q)
        exact go _ _ H locs hR1 hW ls hl
      by_cases c25 : v = (25 : Int32)
      · refine lv_tableIn (tgt := 985) hx hb dL_law_33 (by rw [c25]; decide) (by rw [c25]; decide) (by rw [c25]; rfl) (by decide) ?_
        obtain ⟨r, M1, N1, h1, h2, hR1⟩ := hO25 (xs (x3 + (1 : Int32)).toNatClampNeg) M N hR
        refine lv_aload_n hx hb dL_law_985 rfl (lv_at hl 1 rfl) ?_
        refine lv_aload_n hx hb dL_law_986 rfl (lv_at hl 0 rfl) ?_
        refine lv_iload_n hx hb dL_law_987 rfl (lv_at hl 3 rfl) ?_
        refine lv_iconst (v := (1 : Int32)) hx hb dL_law_988 (by decide) ?_
        refine lv_iadd hx hb dL_law_989 ?_
        refine va_sld hx hb hX hbl hbA hW.2.2 hv1 dL_law_990 ?_
        refine lx_i (lr_x g_717 g_718 g_719 g_1 g_720 hd_X6_is (Nat.le_of_ble_eq_true rfl) hx hb hml hown hg hK hW (As := [.int (xs (x3 + (1 : Int32)).toNatClampNeg)]) (c_X6_is l G (xs (x3 + (1 : Int32)).toNatClampNeg) M h1) (Nat.le_of_ble_eq_true rfl) rfl hl.1 rfl (Nat.le_of_ble_eq_true rfl) dL_law_991 (Nat.le_refl _) (Nat.le_refl _)) hK hW (fun H locs hW => ?_)
        refine lv_aload_n hx hb dL_law_994 rfl (lv_at hl 2 rfl) ?_
        refine lv_aload_n hx hb dL_law_995 rfl (lv_at hl 0 rfl) ?_
        refine lv_iload_n hx hb dL_law_996 rfl (lv_at hl 3 rfl) ?_
        refine lv_iconst (v := (1 : Int32)) hx hb dL_law_997 (by decide) ?_
        refine lv_iadd hx hb dL_law_998 ?_
        refine va_sld hx hb hX hbl hbA hW.2.2 hv1 dL_law_999 ?_
        refine ly_i (lr_y g_1196 g_1197 g_1198 g_9 g_1199 hd_X7_is (Nat.le_of_ble_eq_true rfl) hx hb hml hown hg hK hW (As := [.int (xs (x3 + (1 : Int32)).toNatClampNeg)]) (c_X7_is l G (xs (x3 + (1 : Int32)).toNatClampNeg) N h2) (Nat.le_of_ble_eq_true rfl) rfl hl.1 rfl (Nat.le_of_ble_eq_true rfl) dL_law_1000 (Nat.le_refl _) (Nat.le_refl _)) hK hW (fun H locs hW => ?_)
        refine lv_icmp_eq (tgt := 1316) hx hb dL_law_1003 (by decide) (fun _ => ?_) (fun q => absurd rfl q)
        exact go _ _ H locs hR1 hW ls hl
      by_cases c26 : v = (26 : Int32)
      · refine lv_tableIn (tgt := 1008) hx hb dL_law_33 (by rw [c26]; decide) (by rw [c26]; decide) (by rw [c26]; rfl) (by decide) ?_
        obtain ⟨r, M1, N1, h1, h2, hR1⟩ := hO26 (xs (x3 + (1 : Int32)).toNatClampNeg) M N hR
        refine lv_aload_n hx hb dL_law_1008 rfl (lv_at hl 1 rfl) ?_
        refine lv_aload_n hx hb dL_law_1009 rfl (lv_at hl 0 rfl) ?_
        refine lv_iload_n hx hb dL_law_1010 rfl (lv_at hl 3 rfl) ?_
        refine lv_iconst (v := (1 : Int32)) hx hb dL_law_1011 (by decide) ?_
        refine lv_iadd hx hb dL_law_1012 ?_
        refine va_sld hx hb hX hbl hbA hW.2.2 hv1 dL_law_1013 ?_
        refine lx_i (lr_x g_729 g_730 g_731 g_1 g_732 hd_X6_look (Nat.le_of_ble_eq_true rfl) hx hb hml hown hg hK hW (As := [.int (xs (x3 + (1 : Int32)).toNatClampNeg)]) (c_X6_look l G (xs (x3 + (1 : Int32)).toNatClampNeg) M h1) (Nat.le_of_ble_eq_true rfl) rfl hl.1 rfl (Nat.le_of_ble_eq_true rfl) dL_law_1014 (Nat.le_refl _) (Nat.le_refl _)) hK hW (fun H locs hW => ?_)
        refine lv_aload_n hx hb dL_law_1017 rfl (lv_at hl 2 rfl) ?_
        refine lv_aload_n hx hb dL_law_1018 rfl (lv_at hl 0 rfl) ?_
        refine lv_iload_n hx hb dL_law_1019 rfl (lv_at hl 3 rfl) ?_
        refine lv_iconst (v := (1 : Int32)) hx hb dL_law_1020 (by decide) ?_
        refine lv_iadd hx hb dL_law_1021 ?_
        refine va_sld hx hb hX hbl hbA hW.2.2 hv1 dL_law_1022 ?_
        refine ly_i (lr_y g_1204 g_1205 g_1206 g_9 g_1207 hd_X7_look (Nat.le_of_ble_eq_true rfl) hx hb hml hown hg hK hW (As := [.int (xs (x3 + (1 : Int32)).toNatClampNeg)]) (c_X7_look l G (xs (x3 + (1 : Int32)).toNatClampNeg) N h2) (Nat.le_of_ble_eq_true rfl) rfl hl.1 rfl (Nat.le_of_ble_eq_true rfl) dL_law_1023 (Nat.le_refl _) (Nat.le_refl _)) hK hW (fun H locs hW => ?_)
        refine lv_icmp_eq (tgt := 1316) hx hb dL_law_1026 (by decide) (fun _ => ?_) (fun q => absurd rfl q)
        exact go _ _ H locs hR1 hW ls hl
      by_cases c27 : v = (27 : Int32)
      · refine lv_tableIn (tgt := 1031) hx hb dL_law_33 (by rw [c27]; decide) (by rw [c27]; decide) (by rw [c27]; rfl) (by decide) ?_
        obtain ⟨r, M1, N1, h1, h2, hR1⟩ := hO27 (xs (x3 + (1 : Int32)).toNatClampNeg) M N hR
        refine lv_aload_n hx hb dL_law_1031 rfl (lv_at hl 1 rfl) ?_
        refine lv_aload_n hx hb dL_law_1032 rfl (lv_at hl 0 rfl) ?_
        refine lv_iload_n hx hb dL_law_1033 rfl (lv_at hl 3 rfl) ?_
        refine lv_iconst (v := (1 : Int32)) hx hb dL_law_1034 (by decide) ?_
        refine lv_iadd hx hb dL_law_1035 ?_
        refine va_sld hx hb hX hbl hbA hW.2.2 hv1 dL_law_1036 ?_
        refine lx_i (lr_x g_737 g_738 g_739 g_1 g_740 hd_X6_kinds (Nat.le_of_ble_eq_true rfl) hx hb hml hown hg hK hW (As := [.int (xs (x3 + (1 : Int32)).toNatClampNeg)]) (c_X6_kinds l G (xs (x3 + (1 : Int32)).toNatClampNeg) M h1) (Nat.le_of_ble_eq_true rfl) rfl hl.1 rfl (Nat.le_of_ble_eq_true rfl) dL_law_1037 (Nat.le_refl _) (Nat.le_refl _)) hK hW (fun H locs hW => ?_)
        refine lv_aload_n hx hb dL_law_1040 rfl (lv_at hl 2 rfl) ?_
        refine lv_aload_n hx hb dL_law_1041 rfl (lv_at hl 0 rfl) ?_
        refine lv_iload_n hx hb dL_law_1042 rfl (lv_at hl 3 rfl) ?_
        refine lv_iconst (v := (1 : Int32)) hx hb dL_law_1043 (by decide) ?_
        refine lv_iadd hx hb dL_law_1044 ?_
        refine va_sld hx hb hX hbl hbA hW.2.2 hv1 dL_law_1045 ?_
        refine ly_i (lr_y g_1208 g_1209 g_1210 g_9 g_1211 hd_X7_kinds (Nat.le_of_ble_eq_true rfl) hx hb hml hown hg hK hW (As := [.int (xs (x3 + (1 : Int32)).toNatClampNeg)]) (c_X7_kinds l G (xs (x3 + (1 : Int32)).toNatClampNeg) N h2) (Nat.le_of_ble_eq_true rfl) rfl hl.1 rfl (Nat.le_of_ble_eq_true rfl) dL_law_1046 (Nat.le_refl _) (Nat.le_refl _)) hK hW (fun H locs hW => ?_)
        refine lv_icmp_eq (tgt := 1316) hx hb dL_law_1049 (by decide) (fun _ => ?_) (fun q => absurd rfl q)
        exact go _ _ H locs hR1 hW ls hl
      by_cases c28 : v = (28 : Int32)
      · refine lv_tableIn (tgt := 1054) hx hb dL_law_33 (by rw [c28]; decide) (by rw [c28]; decide) (by rw [c28]; rfl) (by decide) ?_
        obtain ⟨r, M1, N1, h1, h2, hR1⟩ := hO28 (xs (x3 + (1 : Int32)).toNatClampNeg) M N hR
        refine lv_aload_n hx hb dL_law_1054 rfl (lv_at hl 1 rfl) ?_
        refine lv_aload_n hx hb dL_law_1055 rfl (lv_at hl 0 rfl) ?_
        refine lv_iload_n hx hb dL_law_1056 rfl (lv_at hl 3 rfl) ?_
        refine lv_iconst (v := (1 : Int32)) hx hb dL_law_1057 (by decide) ?_
        refine lv_iadd hx hb dL_law_1058 ?_
        refine va_sld hx hb hX hbl hbA hW.2.2 hv1 dL_law_1059 ?_
        refine lx_i (lr_x g_749 g_750 g_751 g_1 g_752 hd_X6_ask (Nat.le_of_ble_eq_true rfl) hx hb hml hown hg hK hW (As := [.int (xs (x3 + (1 : Int32)).toNatClampNeg)]) (c_X6_ask l G (xs (x3 + (1 : Int32)).toNatClampNeg) M h1) (Nat.le_of_ble_eq_true rfl) rfl hl.1 rfl (Nat.le_of_ble_eq_true rfl) dL_law_1060 (Nat.le_refl _) (Nat.le_refl _)) hK hW (fun H locs hW => ?_)
        refine lv_aload_n hx hb dL_law_1063 rfl (lv_at hl 2 rfl) ?_
        refine lv_aload_n hx hb dL_law_1064 rfl (lv_at hl 0 rfl) ?_
        refine lv_iload_n hx hb dL_law_1065 rfl (lv_at hl 3 rfl) ?_
        refine lv_iconst (v := (1 : Int32)) hx hb dL_law_1066 (by decide) ?_
        refine lv_iadd hx hb dL_law_1067 ?_
        refine va_sld hx hb hX hbl hbA hW.2.2 hv1 dL_law_1068 ?_
        refine ly_i (lr_y g_1216 g_1217 g_1218 g_9 g_1219 hd_X7_ask (Nat.le_of_ble_eq_true rfl) hx hb hml hown hg hK hW (As := [.int (xs (x3 + (1 : Int32)).toNatClampNeg)]) (c_X7_ask l G (xs (x3 + (1 : Int32)).toNatClampNeg) N h2) (Nat.le_of_ble_eq_true rfl) rfl hl.1 rfl (Nat.le_of_ble_eq_true rfl) dL_law_1069 (Nat.le_refl _) (Nat.le_refl _)) hK hW (fun H locs hW => ?_)
        refine lv_icmp_eq (tgt := 1316) hx hb dL_law_1072 (by decide) (fun _ => ?_) (fun q => absurd rfl q)
        exact go _ _ H locs hR1 hW ls hl
      by_cases c29 : v = (29 : Int32)
      · refine lv_tableIn (tgt := 1077) hx hb dL_law_33 (by rw [c29]; decide) (by rw [c29]; decide) (by rw [c29]; rfl) (by decide) ?_
        obtain ⟨r, M1, N1, h1, h2, hR1⟩ := hO29 (xs (x3 + (1 : Int32)).toNatClampNeg) (xs (x3 + (2 : Int32)).toNatClampNeg) (xs (x3 + (3 : Int32)).toNatClampNeg) M N hR
        refine lv_aload_n hx hb dL_law_1077 rfl (lv_at hl 1 rfl) ?_
        refine lv_aload_n hx hb dL_law_1078 rfl (lv_at hl 0 rfl) ?_
        refine lv_iload_n hx hb dL_law_1079 rfl (lv_at hl 3 rfl) ?_
        refine lv_iconst (v := (1 : Int32)) hx hb dL_law_1080 (by decide) ?_
        refine lv_iadd hx hb dL_law_1081 ?_
        refine va_sld hx hb hX hbl hbA hW.2.2 hv1 dL_law_1082 ?_
        refine lv_aload_n hx hb dL_law_1083 rfl (lv_at hl 0 rfl) ?_
        refine lv_iload_n hx hb dL_law_1084 rfl (lv_at hl 3 rfl) ?_
        refine lv_iconst (v := (2 : Int32)) hx hb dL_law_1085 (by decide) ?_
        refine lv_iadd hx hb dL_law_1086 ?_
        refine va_sld hx hb hX hbl hbA hW.2.2 hv2 dL_law_1087 ?_
        refine lv_aload_n hx hb dL_law_1088 rfl (lv_at hl 0 rfl) ?_
        refine lv_iload_n hx hb dL_law_1089 rfl (lv_at hl 3 rfl) ?_
        refine lv_iconst (v := (3 : Int32)) hx hb dL_law_1090 (by decide) ?_
        refine lv_iadd hx hb dL_law_1091 ?_
        refine va_sld hx hb hX hbl hbA hW.2.2 hv3 dL_law_1092 ?_
        refine lx_i (lr_x g_757 g_758 g_759 g_1 g_760 hd_X6_hands (Nat.le_of_ble_eq_true rfl) hx hb hml hown hg hK hW (As := [.int (xs (x3 + (1 : Int32)).toNatClampNeg), .int (xs (x3 + (2 : Int32)).toNatClampNeg), .int (xs (x3 + (3 : Int32)).toNatClampNeg)]) (c_X6_hands l G (xs (x3 + (1 : Int32)).toNatClampNeg) (xs (x3 + (2 : Int32)).toNatClampNeg) (xs (x3 + (3 : Int32)).toNatClampNeg) M h1) (Nat.le_of_ble_eq_true rfl) rfl hl.1 rfl (Nat.le_of_ble_eq_true rfl) dL_law_1093 (Nat.le_refl _) (Nat.le_refl _)) hK hW (fun H locs hW => ?_)
        refine lv_aload_n hx hb dL_law_1096 rfl (lv_at hl 2 rfl) ?_
        refine lv_aload_n hx hb dL_law_1097 rfl (lv_at hl 0 rfl) ?_
        refine lv_iload_n hx hb dL_law_1098 rfl (lv_at hl 3 rfl) ?_
        refine lv_iconst (v := (1 : Int32)) hx hb dL_law_1099 (by decide) ?_
        refine lv_iadd hx hb dL_law_1100 ?_
        refine va_sld hx hb hX hbl hbA hW.2.2 hv1 dL_law_1101 ?_
        refine lv_aload_n hx hb dL_law_1102 rfl (lv_at hl 0 rfl) ?_
        refine lv_iload_n hx hb dL_law_1103 rfl (lv_at hl 3 rfl) ?_
        refine lv_iconst (v := (2 : Int32)) hx hb dL_law_1104 (by decide) ?_
        refine lv_iadd hx hb dL_law_1105 ?_
        refine va_sld hx hb hX hbl hbA hW.2.2 hv2 dL_law_1106 ?_
        refine lv_aload_n hx hb dL_law_1107 rfl (lv_at hl 0 rfl) ?_
        refine lv_iload_n hx hb dL_law_1108 rfl (lv_at hl 3 rfl) ?_
        refine lv_iconst (v := (3 : Int32)) hx hb dL_law_1109 (by decide) ?_
        refine lv_iadd hx hb dL_law_1110 ?_
        refine va_sld hx hb hX hbl hbA hW.2.2 hv3 dL_law_1111 ?_
        refine ly_i (lr_y g_1220 g_1221 g_1222 g_9 g_1223 hd_X7_hands (Nat.le_of_ble_eq_true rfl) hx hb hml hown hg hK hW (As := [.int (xs (x3 + (1 : Int32)).toNatClampNeg), .int (xs (x3 + (2 : Int32)).toNatClampNeg), .int (xs (x3 + (3 : Int32)).toNatClampNeg)]) (c_X7_hands l G (xs (x3 + (1 : Int32)).toNatClampNeg) (xs (x3 + (2 : Int32)).toNatClampNeg) (xs (x3 + (3 : Int32)).toNatClampNeg) N h2) (Nat.le_of_ble_eq_true rfl) rfl hl.1 rfl (Nat.le_of_ble_eq_true rfl) dL_law_1112 (Nat.le_refl _) (Nat.le_refl _)) hK hW (fun H locs hW => ?_)
        refine lv_icmp_eq (tgt := 1316) hx hb dL_law_1115 (by decide) (fun _ => ?_) (fun q => absurd rfl q)
        exact go _ _ H locs hR1 hW ls hl
      by_cases c30 : v = (30 : Int32)
      · refine lv_tableIn (tgt := 1120) hx hb dL_law_33 (by rw [c30]; decide) (by rw [c30]; decide) (by rw [c30]; rfl) (by decide) ?_
        obtain ⟨r, M1, N1, h1, h2, hR1⟩ := hO30 (xs (x3 + (1 : Int32)).toNatClampNeg) (xs (x3 + (2 : Int32)).toNatClampNeg) M N hR
        refine lv_aload_n hx hb dL_law_1120 rfl (lv_at hl 1 rfl) ?_
        refine lv_aload_n hx hb dL_law_1121 rfl (lv_at hl 0 rfl) ?_
        refine lv_iload_n hx hb dL_law_1122 rfl (lv_at hl 3 rfl) ?_
        refine lv_iconst (v := (1 : Int32)) hx hb dL_law_1123 (by decide) ?_
        refine lv_iadd hx hb dL_law_1124 ?_
        refine va_sld hx hb hX hbl hbA hW.2.2 hv1 dL_law_1125 ?_
        refine lv_aload_n hx hb dL_law_1126 rfl (lv_at hl 0 rfl) ?_
        refine lv_iload_n hx hb dL_law_1127 rfl (lv_at hl 3 rfl) ?_
        refine lv_iconst (v := (2 : Int32)) hx hb dL_law_1128 (by decide) ?_
        refine lv_iadd hx hb dL_law_1129 ?_
        refine va_sld hx hb hX hbl hbA hW.2.2 hv2 dL_law_1130 ?_
        refine lx_i (lr_x g_780 g_781 g_782 g_1 g_783 hd_X6_slack (Nat.le_of_ble_eq_true rfl) hx hb hml hown hg hK hW (As := [.int (xs (x3 + (1 : Int32)).toNatClampNeg), .int (xs (x3 + (2 : Int32)).toNatClampNeg)]) (c_X6_slack l G (xs (x3 + (1 : Int32)).toNatClampNeg) (xs (x3 + (2 : Int32)).toNatClampNeg) M h1) (Nat.le_of_ble_eq_true rfl) rfl hl.1 rfl (Nat.le_of_ble_eq_true rfl) dL_law_1131 (Nat.le_refl _) (Nat.le_refl _)) hK hW (fun H locs hW => ?_)
        refine lv_aload_n hx hb dL_law_1134 rfl (lv_at hl 2 rfl) ?_
        refine lv_aload_n hx hb dL_law_1135 rfl (lv_at hl 0 rfl) ?_
        refine lv_iload_n hx hb dL_law_1136 rfl (lv_at hl 3 rfl) ?_
        refine lv_iconst (v := (1 : Int32)) hx hb dL_law_1137 (by decide) ?_
        refine lv_iadd hx hb dL_law_1138 ?_
        refine va_sld hx hb hX hbl hbA hW.2.2 hv1 dL_law_1139 ?_
        refine lv_aload_n hx hb dL_law_1140 rfl (lv_at hl 0 rfl) ?_
        refine lv_iload_n hx hb dL_law_1141 rfl (lv_at hl 3 rfl) ?_
        refine lv_iconst (v := (2 : Int32)) hx hb dL_law_1142 (by decide) ?_
        refine lv_iadd hx hb dL_law_1143 ?_
        refine va_sld hx hb hX hbl hbA hW.2.2 hv2 dL_law_1144 ?_
        refine ly_i (lr_y g_1228 g_1229 g_1230 g_9 g_1231 hd_X7_slack (Nat.le_of_ble_eq_true rfl) hx hb hml hown hg hK hW (As := [.int (xs (x3 + (1 : Int32)).toNatClampNeg), .int (xs (x3 + (2 : Int32)).toNatClampNeg)]) (c_X7_slack l G (xs (x3 + (1 : Int32)).toNatClampNeg) (xs (x3 + (2 : Int32)).toNatClampNeg) N h2) (Nat.le_of_ble_eq_true rfl) rfl hl.1 rfl (Nat.le_of_ble_eq_true rfl) dL_law_1145 (Nat.le_refl _) (Nat.le_refl _)) hK hW (fun H locs hW => ?_)
        refine lv_icmp_eq (tgt := 1316) hx hb dL_law_1148 (by decide) (fun _ => ?_) (fun q => absurd rfl q)
        exact go _ _ H locs hR1 hW ls hl
      by_cases c31 : v = (31 : Int32)
      · refine lv_tableIn (tgt := 1153) hx hb dL_law_33 (by rw [c31]; decide) (by rw [c31]; decide) (by rw [c31]; rfl) (by decide) ?_
        obtain ⟨r, M1, N1, h1, h2, hR1⟩ := hO31 (xs (x3 + (1 : Int32)).toNatClampNeg) (xs (x3 + (2 : Int32)).toNatClampNeg) M N hR
        refine lv_aload_n hx hb dL_law_1153 rfl (lv_at hl 1 rfl) ?_
        refine lv_aload_n hx hb dL_law_1154 rfl (lv_at hl 0 rfl) ?_
        refine lv_iload_n hx hb dL_law_1155 rfl (lv_at hl 3 rfl) ?_
        refine lv_iconst (v := (1 : Int32)) hx hb dL_law_1156 (by decide) ?_
        refine lv_iadd hx hb dL_law_1157 ?_
        refine va_sld hx hb hX hbl hbA hW.2.2 hv1 dL_law_1158 ?_
        refine lv_aload_n hx hb dL_law_1159 rfl (lv_at hl 0 rfl) ?_
        refine lv_iload_n hx hb dL_law_1160 rfl (lv_at hl 3 rfl) ?_
        refine lv_iconst (v := (2 : Int32)) hx hb dL_law_1161 (by decide) ?_
        refine lv_iadd hx hb dL_law_1162 ?_
        refine va_sld hx hb hX hbl hbA hW.2.2 hv2 dL_law_1163 ?_
        refine lx_i (lr_x g_793 g_794 g_795 g_1 g_796 hd_X6_nights (Nat.le_of_ble_eq_true rfl) hx hb hml hown hg hK hW (As := [.int (xs (x3 + (1 : Int32)).toNatClampNeg), .int (xs (x3 + (2 : Int32)).toNatClampNeg)]) (c_X6_nights l G (xs (x3 + (1 : Int32)).toNatClampNeg) (xs (x3 + (2 : Int32)).toNatClampNeg) M h1) (Nat.le_of_ble_eq_true rfl) rfl hl.1 rfl (Nat.le_of_ble_eq_true rfl) dL_law_1164 (Nat.le_refl _) (Nat.le_refl _)) hK hW (fun H locs hW => ?_)
        refine lv_aload_n hx hb dL_law_1167 rfl (lv_at hl 2 rfl) ?_
        refine lv_aload_n hx hb dL_law_1168 rfl (lv_at hl 0 rfl) ?_
        refine lv_iload_n hx hb dL_law_1169 rfl (lv_at hl 3 rfl) ?_
        refine lv_iconst (v := (1 : Int32)) hx hb dL_law_1170 (by decide) ?_
        refine lv_iadd hx hb dL_law_1171 ?_
        refine va_sld hx hb hX hbl hbA hW.2.2 hv1 dL_law_1172 ?_
        refine lv_aload_n hx hb dL_law_1173 rfl (lv_at hl 0 rfl) ?_
        refine lv_iload_n hx hb dL_law_1174 rfl (lv_at hl 3 rfl) ?_
        refine lv_iconst (v := (2 : Int32)) hx hb dL_law_1175 (by decide) ?_
        refine lv_iadd hx hb dL_law_1176 ?_
        refine va_sld hx hb hX hbl hbA hW.2.2 hv2 dL_law_1177 ?_
        refine ly_i (lr_y g_1237 g_1238 g_1239 g_9 g_1240 hd_X7_nights (Nat.le_of_ble_eq_true rfl) hx hb hml hown hg hK hW (As := [.int (xs (x3 + (1 : Int32)).toNatClampNeg), .int (xs (x3 + (2 : Int32)).toNatClampNeg)]) (c_X7_nights l G (xs (x3 + (1 : Int32)).toNatClampNeg) (xs (x3 + (2 : Int32)).toNatClampNeg) N h2) (Nat.le_of_ble_eq_true rfl) rfl hl.1 rfl (Nat.le_of_ble_eq_true rfl) dL_law_1178 (Nat.le_refl _) (Nat.le_refl _)) hK hW (fun H locs hW => ?_)
        refine lv_icmp_eq (tgt := 1316) hx hb dL_law_1181 (by decide) (fun _ => ?_) (fun q => absurd rfl q)
        exact go _ _ H locs hR1 hW ls hl
      by_cases c32 : v = (32 : Int32)
      · refine lv_tableIn (tgt := 1186) hx hb dL_law_33 (by rw [c32]; decide) (by rw [c32]; decide) (by rw [c32]; rfl) (by decide) ?_
        obtain ⟨r, M1, N1, h1, h2, hR1⟩ := hO32 (xs (x3 + (1 : Int32)).toNatClampNeg) M N hR
        refine lv_aload_n hx hb dL_law_1186 rfl (lv_at hl 1 rfl) ?_
        refine lv_aload_n hx hb dL_law_1187 rfl (lv_at hl 0 rfl) ?_
        refine lv_iload_n hx hb dL_law_1188 rfl (lv_at hl 3 rfl) ?_
        refine lv_iconst (v := (1 : Int32)) hx hb dL_law_1189 (by decide) ?_
        refine lv_iadd hx hb dL_law_1190 ?_
        refine va_sld hx hb hX hbl hbA hW.2.2 hv1 dL_law_1191 ?_
        refine lx_l (lr_x g_803 g_804 g_805 g_1 g_806 hd_X6_part (Nat.le_of_ble_eq_true rfl) hx hb hml hown hg hK hW (As := [.int (xs (x3 + (1 : Int32)).toNatClampNeg)]) (c_X6_part l G (xs (x3 + (1 : Int32)).toNatClampNeg) M h1) (Nat.le_of_ble_eq_true rfl) rfl hl.1 rfl (Nat.le_of_ble_eq_true rfl) dL_law_1192 (Nat.le_refl _) (Nat.le_refl _)) hK hW (fun H locs hW => ?_)
        refine lv_aload_n hx hb dL_law_1195 rfl (lv_at hl 2 rfl) ?_
        refine lv_aload_n hx hb dL_law_1196 rfl (lv_at hl 0 rfl) ?_
        refine lv_iload_n hx hb dL_law_1197 rfl (lv_at hl 3 rfl) ?_
        refine lv_iconst (v := (1 : Int32)) hx hb dL_law_1198 (by decide) ?_
        refine lv_iadd hx hb dL_law_1199 ?_
        refine va_sld hx hb hX hbl hbA hW.2.2 hv1 dL_law_1200 ?_
        refine ly_l (lr_y g_1246 g_1247 g_1248 g_9 g_1249 hd_X7_part (Nat.le_of_ble_eq_true rfl) hx hb hml hown hg hK hW (As := [.int (xs (x3 + (1 : Int32)).toNatClampNeg)]) (c_X7_part l G (xs (x3 + (1 : Int32)).toNatClampNeg) N h2) (Nat.le_of_ble_eq_true rfl) rfl hl.1 rfl (Nat.le_of_ble_eq_true rfl) dL_law_1201 (Nat.le_refl _) (Nat.le_refl _)) hK hW (fun H locs hW => ?_)
        refine W.lcmp hx hb dL_law_1204 ?_
        refine lv_if_eq (tgt := 1316) hx hb dL_law_1205 (by decide) (fun _ => ?_) (fun q => absurd lg_same q)
        exact go _ _ H locs hR1 hW ls hl
      by_cases c33 : v = (33 : Int32)
      · refine lv_tableIn (tgt := 1210) hx hb dL_law_33 (by rw [c33]; decide) (by rw [c33]; decide) (by rw [c33]; rfl) (by decide) ?_
        obtain ⟨r, M1, N1, h1, h2, hR1⟩ := hO33 (xs (x3 + (1 : Int32)).toNatClampNeg) M N hR
        refine lv_aload_n hx hb dL_law_1210 rfl (lv_at hl 1 rfl) ?_
        refine lv_aload_n hx hb dL_law_1211 rfl (lv_at hl 0 rfl) ?_
        refine lv_iload_n hx hb dL_law_1212 rfl (lv_at hl 3 rfl) ?_
        refine lv_iconst (v := (1 : Int32)) hx hb dL_law_1213 (by decide) ?_
        refine lv_iadd hx hb dL_law_1214 ?_
        refine va_sld hx hb hX hbl hbA hW.2.2 hv1 dL_law_1215 ?_
        refine lx_i (lr_x g_807 g_808 g_809 g_1 g_810 hd_X6_image (Nat.le_of_ble_eq_true rfl) hx hb hml hown hg hK hW (As := [.int (xs (x3 + (1 : Int32)).toNatClampNeg)]) (c_X6_image l G (xs (x3 + (1 : Int32)).toNatClampNeg) M h1) (Nat.le_of_ble_eq_true rfl) rfl hl.1 rfl (Nat.le_of_ble_eq_true rfl) dL_law_1216 (Nat.le_refl _) (Nat.le_refl _)) hK hW (fun H locs hW => ?_)
        refine lv_aload_n hx hb dL_law_1219 rfl (lv_at hl 2 rfl) ?_
        refine lv_aload_n hx hb dL_law_1220 rfl (lv_at hl 0 rfl) ?_
        refine lv_iload_n hx hb dL_law_1221 rfl (lv_at hl 3 rfl) ?_
        refine lv_iconst (v := (1 : Int32)) hx hb dL_law_1222 (by decide) ?_
        refine lv_iadd hx hb dL_law_1223 ?_
        refine va_sld hx hb hX hbl hbA hW.2.2 hv1 dL_law_1224 ?_
        refine ly_i (lr_y g_1250 g_1251 g_1252 g_9 g_1253 hd_X7_image (Nat.le_of_ble_eq_true rfl) hx hb hml hown hg hK hW (As := [.int (xs (x3 + (1 : Int32)).toNatClampNeg)]) (c_X7_image l G (xs (x3 + (1 : Int32)).toNatClampNeg) N h2) (Nat.le_of_ble_eq_true rfl) rfl hl.1 rfl (Nat.le_of_ble_eq_true rfl) dL_law_1225 (Nat.le_refl _) (Nat.le_refl _)) hK hW (fun H locs hW => ?_)
        refine lv_icmp_eq (tgt := 1316) hx hb dL_law_1228 (by decide) (fun _ => ?_) (fun q => absurd rfl q)
        exact go _ _ H locs hR1 hW ls hl
      by_cases c34 : v = (34 : Int32)
      · refine lv_tableIn (tgt := 1233) hx hb dL_law_33 (by rw [c34]; decide) (by rw [c34]; decide) (by rw [c34]; rfl) (by decide) ?_
        obtain ⟨r, M1, N1, h1, h2, hR1⟩ := hO34 (xs (x3 + (1 : Int32)).toNatClampNeg) M N hR
        refine lv_aload_n hx hb dL_law_1233 rfl (lv_at hl 1 rfl) ?_
        refine lv_aload_n hx hb dL_law_1234 rfl (lv_at hl 0 rfl) ?_
        refine lv_iload_n hx hb dL_law_1235 rfl (lv_at hl 3 rfl) ?_
        refine lv_iconst (v := (1 : Int32)) hx hb dL_law_1236 (by decide) ?_
        refine lv_iadd hx hb dL_law_1237 ?_
        refine va_sld hx hb hX hbl hbA hW.2.2 hv1 dL_law_1238 ?_
        refine lx_i (lr_x g_811 g_812 g_813 g_1 g_814 hd_X6_from (Nat.le_of_ble_eq_true rfl) hx hb hml hown hg hK hW (As := [.int (xs (x3 + (1 : Int32)).toNatClampNeg)]) (c_X6_from l G (xs (x3 + (1 : Int32)).toNatClampNeg) M h1) (Nat.le_of_ble_eq_true rfl) rfl hl.1 rfl (Nat.le_of_ble_eq_true rfl) dL_law_1239 (Nat.le_refl _) (Nat.le_refl _)) hK hW (fun H locs hW => ?_)
        refine lv_aload_n hx hb dL_law_1242 rfl (lv_at hl 2 rfl) ?_
        refine lv_aload_n hx hb dL_law_1243 rfl (lv_at hl 0 rfl) ?_
        refine lv_iload_n hx hb dL_law_1244 rfl (lv_at hl 3 rfl) ?_
        refine lv_iconst (v := (1 : Int32)) hx hb dL_law_1245 (by decide) ?_
        refine lv_iadd hx hb dL_law_1246 ?_
        refine va_sld hx hb hX hbl hbA hW.2.2 hv1 dL_law_1247 ?_
        refine ly_i (lr_y g_1254 g_1255 g_1256 g_9 g_1257 hd_X7_from (Nat.le_of_ble_eq_true rfl) hx hb hml hown hg hK hW (As := [.int (xs (x3 + (1 : Int32)).toNatClampNeg)]) (c_X7_from l G (xs (x3 + (1 : Int32)).toNatClampNeg) N h2) (Nat.le_of_ble_eq_true rfl) rfl hl.1 rfl (Nat.le_of_ble_eq_true rfl) dL_law_1248 (Nat.le_refl _) (Nat.le_refl _)) hK hW (fun H locs hW => ?_)
        refine lv_icmp_eq (tgt := 1316) hx hb dL_law_1251 (by decide) (fun _ => ?_) (fun q => absurd rfl q)
        exact go _ _ H locs hR1 hW ls hl
      by_cases c35 : v = (35 : Int32)
      · refine lv_tableIn (tgt := 1256) hx hb dL_law_33 (by rw [c35]; decide) (by rw [c35]; decide) (by rw [c35]; rfl) (by decide) ?_
        obtain ⟨r, M1, N1, h1, h2, hR1⟩ := hO35 (xs (x3 + (1 : Int32)).toNatClampNeg) M N hR
        refine lv_aload_n hx hb dL_law_1256 rfl (lv_at hl 1 rfl) ?_
        refine lv_aload_n hx hb dL_law_1257 rfl (lv_at hl 0 rfl) ?_
        refine lv_iload_n hx hb dL_law_1258 rfl (lv_at hl 3 rfl) ?_
        refine lv_iconst (v := (1 : Int32)) hx hb dL_law_1259 (by decide) ?_
        refine lv_iadd hx hb dL_law_1260 ?_
        refine va_sld hx hb hX hbl hbA hW.2.2 hv1 dL_law_1261 ?_
        refine lx_i (lr_x g_815 g_816 g_817 g_1 g_818 hd_X6_status (Nat.le_of_ble_eq_true rfl) hx hb hml hown hg hK hW (As := [.int (xs (x3 + (1 : Int32)).toNatClampNeg)]) (c_X6_status l G (xs (x3 + (1 : Int32)).toNatClampNeg) M h1) (Nat.le_of_ble_eq_true rfl) rfl hl.1 rfl (Nat.le_of_ble_eq_true rfl) dL_law_1262 (Nat.le_refl _) (Nat.le_refl _)) hK hW (fun H locs hW => ?_)
        refine lv_aload_n hx hb dL_law_1265 rfl (lv_at hl 2 rfl) ?_
        refine lv_aload_n hx hb dL_law_1266 rfl (lv_at hl 0 rfl) ?_
        refine lv_iload_n hx hb dL_law_1267 rfl (lv_at hl 3 rfl) ?_
        refine lv_iconst (v := (1 : Int32)) hx hb dL_law_1268 (by decide) ?_
        refine lv_iadd hx hb dL_law_1269 ?_
        refine va_sld hx hb hX hbl hbA hW.2.2 hv1 dL_law_1270 ?_
        refine ly_i (lr_y g_1258 g_1259 g_1260 g_9 g_1261 hd_X7_status (Nat.le_of_ble_eq_true rfl) hx hb hml hown hg hK hW (As := [.int (xs (x3 + (1 : Int32)).toNatClampNeg)]) (c_X7_status l G (xs (x3 + (1 : Int32)).toNatClampNeg) N h2) (Nat.le_of_ble_eq_true rfl) rfl hl.1 rfl (Nat.le_of_ble_eq_true rfl) dL_law_1271 (Nat.le_refl _) (Nat.le_refl _)) hK hW (fun H locs hW => ?_)
        refine lv_icmp_eq (tgt := 1316) hx hb dL_law_1274 (by decide) (fun _ => ?_) (fun q => absurd rfl q)
        exact go _ _ H locs hR1 hW ls hl
      by_cases c36 : v = (36 : Int32)
      · refine lv_tableIn (tgt := 1279) hx hb dL_law_33 (by rw [c36]; decide) (by rw [c36]; decide) (by rw [c36]; rfl) (by decide) ?_
        obtain ⟨r, M1, N1, h1, h2, hR1⟩ := hO36 (xs (x3 + (1 : Int32)).toNatClampNeg) M N hR
        refine lv_aload_n hx hb dL_law_1279 rfl (lv_at hl 1 rfl) ?_
        refine lv_aload_n hx hb dL_law_1280 rfl (lv_at hl 0 rfl) ?_
        refine lv_iload_n hx hb dL_law_1281 rfl (lv_at hl 3 rfl) ?_
        refine lv_iconst (v := (1 : Int32)) hx hb dL_law_1282 (by decide) ?_
        refine lv_iadd hx hb dL_law_1283 ?_
        refine va_sld hx hb hX hbl hbA hW.2.2 hv1 dL_law_1284 ?_
        refine lx_i (lr_x g_819 g_820 g_821 g_1 g_822 hd_X6_count (Nat.le_of_ble_eq_true rfl) hx hb hml hown hg hK hW (As := [.int (xs (x3 + (1 : Int32)).toNatClampNeg)]) (c_X6_count l G (xs (x3 + (1 : Int32)).toNatClampNeg) M h1) (Nat.le_of_ble_eq_true rfl) rfl hl.1 rfl (Nat.le_of_ble_eq_true rfl) dL_law_1285 (Nat.le_refl _) (Nat.le_refl _)) hK hW (fun H locs hW => ?_)
        refine lv_aload_n hx hb dL_law_1288 rfl (lv_at hl 2 rfl) ?_
        refine lv_aload_n hx hb dL_law_1289 rfl (lv_at hl 0 rfl) ?_
        refine lv_iload_n hx hb dL_law_1290 rfl (lv_at hl 3 rfl) ?_
        refine lv_iconst (v := (1 : Int32)) hx hb dL_law_1291 (by decide) ?_
        refine lv_iadd hx hb dL_law_1292 ?_
        refine va_sld hx hb hX hbl hbA hW.2.2 hv1 dL_law_1293 ?_
        refine ly_i (lr_y g_1262 g_1263 g_1264 g_9 g_1265 hd_X7_count (Nat.le_of_ble_eq_true rfl) hx hb hml hown hg hK hW (As := [.int (xs (x3 + (1 : Int32)).toNatClampNeg)]) (c_X7_count l G (xs (x3 + (1 : Int32)).toNatClampNeg) N h2) (Nat.le_of_ble_eq_true rfl) rfl hl.1 rfl (Nat.le_of_ble_eq_true rfl) dL_law_1294 (Nat.le_refl _) (Nat.le_refl _)) hK hW (fun H locs hW => ?_)
        refine lv_icmp_eq (tgt := 1316) hx hb dL_law_1297 (by decide) (fun _ => ?_) (fun q => absurd rfl q)
        exact go _ _ H locs hR1 hW ls hl
      by_cases c37 : v = (37 : Int32)
      · refine lv_tableIn (tgt := 1302) hx hb dL_law_33 (by rw [c37]; decide) (by rw [c37]; decide) (by rw [c37]; rfl) (by decide) ?_
        obtain ⟨r, h1, h2⟩ := hO37 M N hR
        refine lv_aload_n hx hb dL_law_1302 rfl (lv_at hl 1 rfl) ?_
        refine lx_l (lr_x g_831 g_832 g_833 g_1 g_834 hd_X6_digest (Nat.le_of_ble_eq_true rfl) hx hb hml hown hg hK hW (As := []) (c_X6_digest l G M h1) (Nat.le_of_ble_eq_true rfl) rfl hl.1 rfl (Nat.le_of_ble_eq_true rfl) dL_law_1303 (Nat.le_refl _) (Nat.le_refl _)) hK hW (fun H locs hW => ?_)
        refine lv_aload_n hx hb dL_law_1306 rfl (lv_at hl 2 rfl) ?_
        refine ly_l (lr_y g_1270 g_1271 g_1272 g_9 g_1273 hd_X7_digest (Nat.le_of_ble_eq_true rfl) hx hb hml hown hg hK hW (As := []) (c_X7_digest l G N h2) (Nat.le_of_ble_eq_true rfl) rfl hl.1 rfl (Nat.le_of_ble_eq_true rfl) dL_law_1307 (Nat.le_refl _) (Nat.le_refl _)) hK hW (fun H locs hW => ?_)
        refine W.lcmp hx hb dL_law_1310 ?_
        refine lv_if_eq (tgt := 1316) hx hb dL_law_1311 (by decide) (fun _ => ?_) (fun q => absurd lg_same q)
        exact go _ _ H locs hR hW ls hl
      refine lv_tableOut (tgt := 1316) hx hb dL_law_33 (by have q0 := lv_neT c0 (a := 0) (by decide); have q1 := lv_neT c1 (a := 1) (by decide); have q2 := lv_neT c2 (a := 2) (by decide); have q3 := lv_neT c3 (a := 3) (by decide); have q4 := lv_neT c4 (a := 4) (by decide); have q5 := lv_neT c5 (a := 5) (by decide); have q6 := lv_neT c6 (a := 6) (by decide); have q7 := lv_neT c7 (a := 7) (by decide); have q8 := lv_neT c8 (a := 8) (by decide); have q9 := lv_neT c9 (a := 9) (by decide); have q10 := lv_neT c10 (a := 10) (by decide); have q11 := lv_neT c11 (a := 11) (by decide); have q12 := lv_neT c12 (a := 12) (by decide); have q13 := lv_neT c13 (a := 13) (by decide); have q14 := lv_neT c14 (a := 14) (by decide); have q15 := lv_neT c15 (a := 15) (by decide); have q16 := lv_neT c16 (a := 16) (by decide); have q17 := lv_neT c17 (a := 17) (by decide); have q18 := lv_neT c18 (a := 18) (by decide); have q19 := lv_neT c19 (a := 19) (by decide); have q20 := lv_neT c20 (a := 20) (by decide); have q21 := lv_neT c21 (a := 21) (by decide); have q22 := lv_neT c22 (a := 22) (by decide); have q23 := lv_neT c23 (a := 23) (by decide); have q24 := lv_neT c24 (a := 24) (by decide); have q25 := lv_neT c25 (a := 25) (by decide); have q26 := lv_neT c26 (a := 26) (by decide); have q27 := lv_neT c27 (a := 27) (by decide); have q28 := lv_neT c28 (a := 28) (by decide); have q29 := lv_neT c29 (a := 29) (by decide); have q30 := lv_neT c30 (a := 30) (by decide); have q31 := lv_neT c31 (a := 31) (by decide); have q32 := lv_neT c32 (a := 32) (by decide); have q33 := lv_neT c33 (a := 33) (by decide); have q34 := lv_neT c34 (a := 34) (by decide); have q35 := lv_neT c35 (a := 35) (by decide); have q36 := lv_neT c36 (a := 36) (by decide); have q37 := lv_neT c37 (a := 37) (by decide); omega) (by decide) ?_
      exact go _ _ H locs hR hW ls hl
