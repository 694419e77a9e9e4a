theorem hd_X6_init : yX6_init.cls ≠ "java/lang/invoke/MethodHandle" ∧ yX6_init.cls ≠ "java/lang/invoke/VarHandle" ∧ (parseMethodDescriptor yX6_init.desc).map (fun d => d.parameters.length) = some 0 := by decide +kernel
theorem hd_X7_init : yX7_init.cls ≠ "java/lang/invoke/MethodHandle" ∧ yX7_init.cls ≠ "java/lang/invoke/VarHandle" ∧ (parseMethodDescriptor yX7_init.desc).map (fun d => d.parameters.length) = some 0 := by decide +kernel
theorem g_15 : Cond.classLink RL 7 RX6 ∈ gw := gw_t 15 (by decide +kernel) rfl
theorem g_16 : Cond.instantiable RX6 16 ∈ gw := gw_t 16 (by decide +kernel) rfl
theorem g_17 : Cond.methodLink RL 9 yX6_init ∈ gw := gw_t 17 (by decide +kernel) rfl
theorem g_18 : Cond.instanceMethod yX6_init ∈ gw := gw_t 18 (by decide +kernel) rfl
theorem g_19 : Cond.code yX6_init cX6_init 1 none ∈ gw := gw_t 19 (by decide +kernel) rfl
theorem g_842 : Cond.classLink RL 10 RX7 ∈ gw := gw_t 842 (by decide +kernel) rfl
theorem g_843 : Cond.instantiable RX7 21 ∈ gw := gw_t 843 (by decide +kernel) rfl
theorem g_844 : Cond.methodLink RL 12 yX7_init ∈ gw := gw_t 844 (by decide +kernel) rfl
theorem g_845 : Cond.instanceMethod yX7_init ∈ gw := gw_t 845 (by decide +kernel) rfl
theorem g_846 : Cond.code yX7_init cX7_init 1 none ∈ gw := gw_t 846 (by decide +kernel) rfl
def tmS (i : Nat) : Term := Term.string RX3 ((sIdx.getD i (0, "")).1)
theorem app_at {G : GT} {M N : Mem} {i : Nat} (hi : i < 185) : ∃ e, (wl G true M ++ wl G false N)[i]? = some (ad G i, e) := by
  have hl : (wl G true M).length = 176 := by unfold wl; rw [List.length_map, List.length_range]; rfl
  rcases Nat.lt_or_ge i 176 with h | h
  · refine ⟨shp G i (M.1 i) (M.2 i), ?_⟩
    rw [List.getElem?_append_left (by rw [hl]; exact h)]
    exact wl_at (t := true) (k := i) ⟨Nat.zero_le _, by show i < 0 + 176; omega⟩
  · refine ⟨shp G i (N.1 i) (N.2 i), ?_⟩
    rw [List.getElem?_append_right (by rw [hl]; exact h), hl]
    exact wl_at (t := false) (k := i) ⟨h, by show i < 176 + 9; omega⟩
theorem wl_B {D : va_G} {q0 : Nat} {A1 A2 A3 A4 B : Nat → Nat} {rest : List Nat} {z : ClassId × ClassId × (Nat → Nat) × (Nat → Nat)} {N : Mem} : wl (D, B, z) false N = wl (D, Adr q0 A1 A2 A3 A4 rest B, z) false N := by
  unfold wl
  refine List.map_congr_left (fun i hi => ?_)
  have hi : i < 9 := List.mem_range.mp hi
  rcases (show i = 0 ∨ i = 1 ∨ i = 2 ∨ i = 3 ∨ i = 4 ∨ i = 5 ∨ i = 6 ∨ i = 7 ∨ i = 8 by omega) with rfl | rfl | rfl | rfl | rfl | rfl | rfl | rfl | rfl <;> rfl
set_option maxHeartbeats 8000000 in
set_option maxRecDepth 100000 in
theorem law_start {p : Program} {e : Env} {s : State} {m : MethodId} {below : List Frame} {meth : Method} {c : Code} (l : Launch) {b L : Nat} {xs : Nat → Int32} {R : Mem → Mem → Prop} {N0 : Mem} (hO : Ops R) (hN0 : f_X7_begins 20 m7 = some N0) (hR0 : R m0 N0) (hL : L ≤ 3072) (C0 : lw_At p s m meth c b L xs) : W p l e room_1 s m #[Value.ref b] below meth c s.heap [] 0 0 (lw_Z below #[Value.ref b] s) (entryFrame m ([Value.ref b] : List Value).toArray 4) := by
  obtain ⟨hx, hb, hr, hml, hown, hts, hX, hbl, hlocks, hgv⟩ := id C0
  have hg : ∀ w ∈ gw, w.before #[Value.ref b] s = true := fun w h => hts w (gw_tbl h)
  have hA : ∀ q : Nat, s.heap.size ≤ q → (fun q : Nat => s.heap.size ≤ q) q := fun _ h => h
  have hnA : ∀ a : Nat, a < s.heap.size → ¬ (fun q : Nat => s.heap.size ≤ q) a := fun a h => Nat.not_le.mpr h
  obtain ⟨c0, iS0, hKn0⟩ := u_known (C := RX0) (T := TX0) (N := 2) (n := 2) hg inG_0 (hg _ g_211)
  obtain ⟨c1, iS1, hKn1⟩ := u_known (C := RX1) (T := TX1) (N := 5) (n := 5) hg inG_1 (hg _ g_30)
  obtain ⟨c2, iS2, hKn2⟩ := u_known (C := RX2) (T := TX2) (N := 15) (n := 15) hg inG_2 (hg _ g_24)
  obtain ⟨c3, iS3, hKn3⟩ := u_known (C := RX3) (T := TX3) (N := 6) (n := 6) hg inG_3 (hg _ g_153)
  obtain ⟨c4, iS4, hKn4⟩ := u_known (C := RX4) (T := TX4) (N := 8) (n := 8) hg inG_4 (hg _ g_179)
  obtain ⟨c5, iS5, hKn5⟩ := u_known (C := RX5) (T := TX5) (N := 4) (n := 4) hg inG_5 (hg _ g_69)
  obtain ⟨c6, iS6, hKn6⟩ := u_known (C := RX6) (T := TX6) (N := 16) (n := 16) hg inG_6 (hg _ g_16)
  obtain ⟨c7, iS7, hKn7⟩ := u_known (C := RX7) (T := TX7) (N := 21) (n := 21) hg inG_7 (hg _ g_843)
  obtain ⟨dC, dI, hKc⟩ : ∃ (dC : Nat → ClassId) (dI : Nat → Nat → Nat), ∀ (k : Nat) (q : vw_C), cl8[k]? = some q → u_Kn s q.1 q.2.1 q.2.2 (dC k) (dI k) := by
    refine ⟨fun k => match k with | 0 => c0 | 1 => c1 | 2 => c2 | 3 => c3 | 4 => c4 | 5 => c5 | 6 => c6 | _ => c7, fun k => match k with | 0 => iS0 | 1 => iS1 | 2 => iS2 | 3 => iS3 | 4 => iS4 | 5 => iS5 | 6 => iS6 | _ => iS7, ?_⟩
    intro k q hq
    match k, hq with
    | 0, hq => cases hq; exact hKn0
    | 1, hq => cases hq; exact hKn1
    | 2, hq => cases hq; exact hKn2
    | 3, hq => cases hq; exact hKn3
    | 4, hq => cases hq; exact hKn4
    | 5, hq => cases hq; exact hKn5
    | 6, hq => cases hq; exact hKn6
    | 7, hq => cases hq; exact hKn7
    | k + 8, hq => simp [cl8] at hq
  obtain ⟨cI, kI, cmI, i1, i2, i3⟩ := Cond.arrayClass_spec (hg _ g_66)
  have hAO : (Cond.arrayOver (.object RX1)).before #[Value.ref b] s = true := hts _ (nst_t 67 (by decide +kernel))
  obtain ⟨cmP, cP, kP, p1, p2, p3, p4, p5⟩ := Cond.arrayOver_spec hAO
  have hs := flat_of_before _ hgv
  have hexS : ∀ i : Nat, i < 5 → (Cond.exactly (tmS i) "java/lang/String").before #[Value.ref b] s = true := by
    intro i hi
    rcases (show i = 0 ∨ i = 1 ∨ i = 2 ∨ i = 3 ∨ i = 4 by omega) with rfl | rfl | rfl | rfl | rfl <;> exact hs _ (by decide +kernel)
  have hcoS : ∀ i : Nat, i < 5 → (Cond.eq (.field (tmS i) "java/lang/String" "coder" "B") (.int 0)).before #[Value.ref b] s = true := by
    intro i hi
    rcases (show i = 0 ∨ i = 1 ∨ i = 2 ∨ i = 3 ∨ i = 4 by omega) with rfl | rfl | rfl | rfl | rfl <;> exact hs _ (by decide +kernel)
  have harS : ∀ i : Nat, i < 5 → (Cond.arrayOf (.field (tmS i) "java/lang/String" "value" "[B") .byte).before #[Value.ref b] s = true := by
    intro i hi
    rcases (show i = 0 ∨ i = 1 ∨ i = 2 ∨ i = 3 ∨ i = 4 by omega) with rfl | rfl | rfl | rfl | rfl <;> exact hs _ (by decide +kernel)
  have hleS : ∀ i : Nat, i < 5 → (Cond.eq (.length (.field (tmS i) "java/lang/String" "value" "[B")) (.int (Int32.ofNat (sLen.getD i 0)))).before #[Value.ref b] s = true := by
    intro i hi
    rcases (show i = 0 ∨ i = 1 ∨ i = 2 ∨ i = 3 ∨ i = 4 by omega) with rfl | rfl | rfl | rfl | rfl <;> exact hs _ (by decide +kernel)
  have helS : ∀ i : Nat, i < 5 → ∀ j : Nat, j < sLen.getD i 0 → (Cond.eq (.elem (.field (tmS i) "java/lang/String" "value" "[B") (.int (Int32.ofNat j))) (.int ((sByt.getD i []).getD j 0))).before #[Value.ref b] s = true := by
    intro i hi
    rcases (show i = 0 ∨ i = 1 ∨ i = 2 ∨ i = 3 ∨ i = 4 by omega) with rfl | rfl | rfl | rfl | rfl
    · intro j hj
      have hj : j < 6 := hj
      rcases (show j = 0 ∨ j = 1 ∨ j = 2 ∨ j = 3 ∨ j = 4 ∨ j = 5 by omega) with rfl | rfl | rfl | rfl | rfl | rfl <;> exact hs _ (by decide +kernel)
    · intro j hj
      have hj : j < 4 := hj
      rcases (show j = 0 ∨ j = 1 ∨ j = 2 ∨ j = 3 by omega) with rfl | rfl | rfl | rfl <;> exact hs _ (by decide +kernel)
    · intro j hj
      have hj : j < 4 := hj
      rcases (show j = 0 ∨ j = 1 ∨ j = 2 ∨ j = 3 by omega) with rfl | rfl | rfl | rfl <;> exact hs _ (by decide +kernel)
    · intro j hj
      have hj : j < 3 := hj
      rcases (show j = 0 ∨ j = 1 ∨ j = 2 by omega) with rfl | rfl | rfl <;> exact hs _ (by decide +kernel)
    · intro j hj
      have hj : j < 4 := hj
      rcases (show j = 0 ∨ j = 1 ∨ j = 2 ∨ j = 3 by omega) with rfl | rfl | rfl | rfl <;> exact hs _ (by decide +kernel)
  have hneS : ∀ i j : Nat, i < 5 → j < 5 → i ≠ j → (Cond.not (Cond.eq (tmS i) (tmS j))).before #[Value.ref b] s = true ∨ (Cond.not (Cond.eq (tmS j) (tmS i))).before #[Value.ref b] s = true := by
    intro i j hi hj hne
    rcases (show i = 0 ∨ i = 1 ∨ i = 2 ∨ i = 3 ∨ i = 4 by omega) with rfl | rfl | rfl | rfl | rfl <;> rcases (show j = 0 ∨ j = 1 ∨ j = 2 ∨ j = 3 ∨ j = 4 by omega) with rfl | rfl | rfl | rfl | rfl <;> first | exact absurd rfl hne | exact Or.inl (hs _ (by decide +kernel)) | exact Or.inr (hs _ (by decide +kernel))
  obtain ⟨adK, adV, hvk, hev⟩ := vk_Sof (N := 5) (tm := tmS) (len := sLen) (byt := sByt) (A := fun q : Nat => s.heap.size ≤ q) (by decide) hexS hcoS harS hleS helS hneS hnA
  have hZ1 : va_Z "java/lang/String" "COMPACT_STRINGS" "Z" (.int 1) (fun q : Nat => s.heap.size ≤ q) s s.heap := va_Zof (args := #[Value.ref b]) (hts _ (nst_t 363 (by decide +kernel))) (hg _ g_10) (va_eqt (hs (Cond.eq (.static "java/lang/String" "COMPACT_STRINGS" "Z") (.int 1)) (by decide +kernel))) hnA
  have hZ2 : va_Zq "jdk/internal/util/Preconditions" "SIOOBE_FORMATTER" "Ljava/util/function/BiFunction;" (fun q : Nat => s.heap.size ≤ q) s s.heap := va_Zqof (args := #[Value.ref b]) (hts _ (nst_t 379 (by decide +kernel))) (hg _ g_12) (hs (Cond.isRef (.static "jdk/internal/util/Preconditions" "SIOOBE_FORMATTER" "Ljava/util/function/BiFunction;")) (by decide +kernel)) hnA
  have hVR : ∀ i : Nat, ∀ q : Nat × String, sIdx[i]? = some q → vk_R RX3 q.1 q.2 (adK i) s := by
    intro i q hq
    have hi : i < 5 := (List.getElem?_eq_some_iff.mp hq).1
    have hw := hev i hi
    rcases (show i = 0 ∨ i = 1 ∨ i = 2 ∨ i = 3 ∨ i = 4 by omega) with rfl | rfl | rfl | rfl | rfl
    · cases hq; exact vk_R.of (hts _ (nst_t 349 (by decide +kernel))) hw
    · cases hq; exact vk_R.of (hts _ (nst_t 419 (by decide +kernel))) hw
    · cases hq; exact vk_R.of (hts _ (nst_t 425 (by decide +kernel))) hw
    · cases hq; exact vk_R.of (hts _ (nst_t 452 (by decide +kernel))) hw
    · cases hq; exact vk_R.of (hts _ (nst_t 464 (by decide +kernel))) hw
  obtain ⟨z, hz⟩ : ∃ z : ClassId × ClassId × (Nat → Nat) × (Nat → Nat), z = (cI, cP, adK, adV) := ⟨_, rfl⟩
  obtain ⟨G0, hG0⟩ : ∃ G0 : GT, G0 = ((dC, dI), (fun _ => 0), z) := ⟨_, rfl⟩
  have hKA : ∀ G : GT, G.1 = (dC, dI) → G.2.2 = z → va_K G.1 cl8 (tysG G) s := by
    intro G e1 e2
    refine ⟨by rw [e1]; exact hKc, fun k q hq => ?_⟩
    have e3 : tysG G = [(cI, .int), (cP, .object RX1)] := by unfold tysG; rw [e2, hz]
    rw [e3] at hq
    match k, hq with
    | 0, hq => cases hq; exact ⟨fun n z => ⟨fun k h => (by cases h), kI, i2, cmI, i3⟩, i1⟩
    | 1, hq => cases hq; exact ⟨fun n z => ⟨fun k h => (by cases h), kP, p3, cmP, p4⟩, kP, cmP, p3, p4, p1, p5⟩
    | k + 2, hq => simp at hq
  have hK : KI G0 s := ⟨hKA G0 (by rw [hG0]) (by rw [hG0]), NW.of hts, va_AO.of hAO⟩
  have hS : va_S (fun q : Nat => s.heap.size ≤ q) s.heap s.heap [] := va_S.rf
  have hP : va_P G0.1 cl8 [] s.heap := fun k q h => by simp at h
  have hD : va_D (fun q : Nat => s.heap.size ≤ q) [] := ⟨fun i j p q h => by simp at h, fun k q h => by simp at h⟩
  have hl := lv_entry ([.ref b]) (n := 4) (Nat.le_of_ble_eq_true rfl)
  rw [lg_entry_eq]
  generalize (lg_sl ([.ref b]) ++ List.replicate (4 - (lg_sl ([.ref b])).length) Slot.unset).toArray = ls at hl ⊢
  have hl : lv_has ls 4 [(0, .ref b)] := hl
  refine va_new (D := G0.1) (ci := 6) (fs := [.null, .null, .null, .null, .int 0, .int 0, .null, .null, .null, .null, .null, .long 0, .long 0, .int 0, .int 0, .int 0]) (C := RX6) (T := TX6) (N := 16) hx hb hg inG_6 tyX6 tyX6_ok hown (hg _ g_15) (hg _ g_16) (hg _ g_1) hK.1 hP hD hS hA rfl df_6 (Nat.le_of_ble_eq_true rfl) (Nat.le_of_ble_eq_true rfl) dL_law_0 (fun q0 H hP hD hS => ?_)
  refine lv_dup hx hb dL_law_3 rfl ?_
  refine ic_L g_17 g_18 g_1 g_19 hd_X6_init rfl (Nat.le_of_ble_eq_true rfl) hx hb hml hown hg hK hA hP hD hS (fun sz => i_X6 l G0 q0 sz) (Nat.le_of_ble_eq_true rfl) hl.1 rfl (rest := [.ref q0]) (Nat.le_of_ble_eq_true rfl) dL_law_4 (Nat.le_of_ble_eq_true rfl) (Nat.le_of_ble_eq_true rfl) (fun w H locs hw hP hD hS => ?_)
  obtain ⟨w2, w4, w6, w8, w10, w12, w14, w16, q1, q2, q3, q4, qr, qs, qb, qt, qc, rfl, ⟨A1, e1, rfl⟩, ⟨A2, e2, rfl⟩, ⟨A3, e3, rfl⟩, ⟨A4, e4, rfl⟩, ⟨r1, rfl⟩, ⟨r2, rfl⟩, ⟨r3, r4, rfl⟩, ⟨r5, r6, rfl⟩⟩ := hw
  obtain ⟨wr, hwr⟩ : ∃ wr : va_W, wr = ((q0, .inr (6, [.ref q1, .ref q2, .ref q3, .ref q4, .int (0 : Int32), .int (0 : Int32), .ref qr, .ref qs, .ref qb, .ref qt, .ref qc, .long (0 : Int64), .long (1 : Int64), .int (0 : Int32), .int (0 : Int32), .int (0 : Int32)])) :: (pupW G0 A1 ++ pupW G0 A2 ++ pupW G0 A3 ++ pupW G0 A4 ++ [(qr, .inr (3, [.ref r1, .int (0 : Int32), .int (0 : Int32), .int (0 : Int32), .int (0 : Int32), .int (0 : Int32)])), (r1, .inl (G0.2.2.1, 150, .inl (fun _ => 0)))] ++ [(qs, .inr (4, [.ref r2, .int (0 : Int32), .int (0 : Int32), .int (0 : Int32), .int (0 : Int32), .int (0 : Int32), .int (0 : Int32), .int (0 : Int32)])), (r2, .inl (G0.2.2.1, 5, .inl (fun _ => 0)))] ++ [(qb, .inr (0, [.ref r3, .ref r4])), (r3, .inl (G0.2.2.1, 25, .inl (fun _ => 0))), (r4, .inl (G0.2.2.1, 25, .inl (fun _ => 0)))] ++ [(qt, .inr (1, [.int (20 : Int32), .int (0 : Int32), .int (0 : Int32), .ref r5, .ref r6])), (r5, .inl (G0.2.2.1, 7, .inl (fun _ => 0))), (r6, .inl (G0.2.2.1, 7, .inl (fun _ => 0)))] ++ [(qc, .inl (G0.2.2.1, 9, .inl (fun _ => 0)))])) := ⟨_, rfl⟩
  have hP : va_P G0.1 cl8 wr H := by rw [hwr]; exact hP
  have hD : va_D (fun q : Nat => s.heap.size ≤ q) wr := by rw [hwr]; exact hD
  refine lv_astore_n (lv' := [(1, .ref q0), (0, .ref b)]) hx hb dL_law_7 rfl hl (by decide) rfl (fun ls hl => ?_)
  refine va_new (D := G0.1) (ci := 7) (fs := [.null, .int 0, .int 0, .int 0, .long 0, .long 0, .null, .int 0, .int 0, .int 0, .int 0, .int 0, .int 0, .null, .null, .int 0, .null, .null, .null, .null, .int 0]) (C := RX7) (T := TX7) (N := 21) hx hb hg inG_7 tyX7 tyX7_ok hown (hg _ g_842) (hg _ g_843) (hg _ g_9) hK.1 hP hD hS hA rfl df_7 (Nat.le_of_ble_eq_true rfl) (Nat.le_of_ble_eq_true rfl) dL_law_8 (fun q7 H hP hD hS => ?_)
  refine lv_dup hx hb dL_law_11 rfl ?_
  refine ic_L g_844 g_845 g_9 g_846 hd_X7_init rfl (Nat.le_of_ble_eq_true rfl) hx hb hml hown hg hK hA hP hD hS (fun sz => i_X7 l G0 hN0 q7 sz) (Nat.le_of_ble_eq_true rfl) hl.1 rfl (rest := [.ref q7]) (Nat.le_of_ble_eq_true rfl) dL_law_12 (Nat.le_of_ble_eq_true rfl) (Nat.le_of_ble_eq_true rfl) (fun w H locs hw hP hD hS => ?_)
  obtain ⟨B, eB, rfl⟩ := hw
  refine lv_astore_n (lv' := [(2, .ref q7), (1, .ref q0), (0, .ref b)]) hx hb dL_law_15 rfl hl (by decide) rfl (fun ls hl => ?_)
  refine lv_iconst (v := (0 : Int32)) hx hb dL_law_16 (by decide) ?_
  refine lv_istore_n (lv' := [(3, .int (0 : Int32)), (2, .ref q7), (1, .ref q0), (0, .ref b)]) hx hb dL_law_17 rfl hl (by decide) rfl (fun ls hl => ?_)
  rw [hwr] at hP hD
  obtain ⟨hP1, hD1⟩ := cls_world (G0 := G0) (z := G0.2.2) (B := B) rfl e1 e2 e3 e4 hP hD
  rw [wl_B (q0 := q0) (A1 := A1) (A2 := A2) (A3 := A3) (A4 := A4) (rest := [qr, r1, qs, r2, qb, r3, r4, qt, r5, r6, qc])] at hP1 hD1
  generalize hG : ((G0.1, Adr q0 A1 A2 A3 A4 [qr, r1, qs, r2, qb, r3, r4, qt, r5, r6, qc] B, G0.2.2) : GT) = G at hP1 hD1
  have g1 : G.1 = G0.1 := by rw [← hG]
  have g2 : G.2.2 = z := by rw [← hG, hG0]
  have a0 : ad G 0 = q0 := by rw [← hG]; rfl
  have a7 : ad G 176 = q7 := by rw [← hG, ← eB]; rfl
  have hIj : Ij G := by
    intro i j hi hj eij
    obtain ⟨x1, y1⟩ := app_at (G := G) (M := m0) (N := N0) hi
    obtain ⟨x2, y2⟩ := app_at (G := G) (M := m0) (N := N0) hj
    exact hD1.1 i j _ _ y1 y2 eij
  have hnew : ∀ k : Nat, k < 185 → s.heap.size ≤ ad G k := by
    intro k hk
    obtain ⟨x1, y1⟩ := app_at (G := G) (M := m0) (N := N0) hk
    exact hD1.2 k _ y1
  have hAw : ∀ q, Aw G true q → s.heap.size ≤ q := by
    intro q hq
    obtain ⟨k, hk, ek⟩ := hq
    rw [ek]
    exact hnew k (inW_lt hk)
  have hinj : ∀ t, Inj G t := fun t i j hi hj eij => hIj i j (inW_lt hi) (inW_lt hj) eij
  have hLK : LKw G s := by
    refine ⟨⟨hKA G (by rw [g1, hG0]) g2, NW.of hts, hinj true, fun _ => ?_⟩, ⟨hKA G (by rw [g1, hG0]) g2, NW.of hts, hinj false, fun q => absurd q (by decide)⟩, hIj, hnew⟩
    have z1 : G.2.2.2.2.1 = adK := by rw [show G.2.2.2.2.1 = (G.2.2).2.2.1 from rfl, g2, hz]
    have z2 : G.2.2.2.2.2 = adV := by rw [show G.2.2.2.2.2 = (G.2.2).2.2.2 from rfl, g2, hz]
    rw [z1, z2]
    exact ⟨hvk.narrow hAw, hVR, hZ1.narrow hAw, hZ2.narrow hAw⟩
  have hLS : LSw G m0 N0 s H locs := by
    rw [← g1] at hP1
    refine ⟨fun k q hk => hP1 k q ?_, fun k q hk => hP1 (176 + k) q ?_, hS⟩
    · rw [List.getElem?_append_left (List.getElem?_eq_some_iff.mp hk).1]; exact hk
    · have hl : (wl G true m0).length = 176 := by unfold wl; rw [List.length_map, List.length_range]; rfl
      rw [List.getElem?_append_right (by rw [hl]; omega), hl, Nat.add_sub_cancel_left]; exact hk
  refine W.widen (k := 600000) (n := 7302250) (Nat.le_of_ble_eq_true rfl) (Nat.le_of_ble_eq_true rfl) ?_
  rw [← a0, ← a7] at hl
  exact law_loop hO hL C0 hLK (L + 1) 0 0 m0 N0 H locs ls (by omega) (by omega) nI_0.symm hR0 hLS (lv_sub hl [3, 2, 1, 0] rfl)
