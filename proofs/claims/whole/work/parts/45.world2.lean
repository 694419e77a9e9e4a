section LCTOR
variable {p : Program} {l : Launch} {e : Env} {s : State} {m : MethodId} {args : Array Value} {below : List Frame} {meth : Method} {c : Code} {H : Heap} {locs : List Loc} {Q : State → Prop} {A : Nat → Prop}
variable {cc : ByteArray} {pc nL cells slots : Nat} {ls : Array Slot} {rest st : List Value} {G : GT} {ws : va_W} {d' mc' ms' : Nat} {own : String} {y : MethodName} {bytes : ByteArray} {mx idx : Nat} {P : va_W → Prop} {q : Nat} {e0 : va_E}
theorem ic_L (w1 : Cond.methodLink own idx y ∈ gw) (w2 : Cond.instanceMethod y ∈ gw) (w3 : Cond.initialized y.cls ∈ gw) (w4 : Cond.code y bytes mx none ∈ gw) (hd : y.cls ≠ "java/lang/invoke/MethodHandle" ∧ y.cls ≠ "java/lang/invoke/VarHandle" ∧ (parseMethodDescriptor y.desc).map (fun d => d.parameters.length) = some 0) (hnm : y.name = "<init>") (hmx : mx ≤ 21)
    (hx : p.tables.exec = Jvm.exec) (hb : c.code = cc) (hml : c.maxLocals = nL) (hown : s.vm.findClass own = some m.cls) (hg : ∀ w ∈ gw, w.before args s = true) (hK : KI G s) (hA : ∀ q : Nat, s.heap.size ≤ q → A q) (hP : va_P G.1 cl8 (ws ++ [(q, e0)]) H) (hD : va_D A (ws ++ [(q, e0)])) (hS : va_S A s.heap H locs)
    (hM : ∀ sz, CI l G y bytes mx d' mc' ms' [.ref q] [(q, e0)] sz P) (hdd : d' ≤ 100) (hsz : ls.size = nL) (hst : st = .ref q :: rest) (hrm : (rest.map fun v => v.category).sum ≤ 8) (hdg : decode cc pc = .ok (.invokespecial idx, 3)) (hc : cells + mc' ≤ 600000) (hs : slots + ms' ≤ 7302250)
    (kk : ∀ (w : va_W) (H1 : Heap) (locs1 : List Loc), P w → va_P G.1 cl8 (ws ++ w) H1 → va_D A (ws ++ w) → va_S A s.heap H1 locs1 → W p l e room_1 s m args below meth c H1 locs1 (cells + mc') (slots + ms') Q (F0 m (pc + 3) ls rest)) : W p l e room_1 s m args below meth c H locs cells slots Q (F0 m pc ls st) := by
  have hq : (ws ++ [(q, e0)])[ws.length]? = some (q, e0) := by simp
  have hsub : ∀ (k : Nat) (x : Nat × va_E), ([(q, e0)] : va_W)[k]? = some x → x = (q, e0) ∧ k = 0 := by
    intro k x h
    rcases Nat.eq_zero_or_pos k with h0 | h0
    · subst h0; cases h; exact ⟨rfl, rfl⟩
    · rw [List.getElem?_eq_none (show 1 ≤ _ from h0)] at h; cases h
  have hPc : va_P G.1 cl8 [(q, e0)] H := fun k x h => by obtain ⟨h1, -⟩ := hsub k x h; subst h1; exact hP _ _ hq
  have hDc : va_D A [(q, e0)] := ⟨fun i j x y h1 h2 _ => by rw [(hsub i x h1).2, (hsub j y h2).2], fun k x h => by obtain ⟨h1, -⟩ := hsub k x h; subst h1; exact hD.2 _ _ hq⟩
  have hF : ∀ x, va_A [(q, e0)] H.size x → A x := by
    intro x h
    rcases h with ⟨k, e1, h⟩ | h
    · obtain ⟨h1, -⟩ := hsub k _ h; cases h1; exact hD.2 _ _ hq
    · exact hA x (Nat.le_trans hS.1 h)
  refine va_callv (va_runI (Ts := gw) (own := own) (As := []) ⟨hx, hb, hml, hown, hg⟩ (hM H.size) ⟨callB_of 0 hg (goodIn_wsM w4) rfl rfl rfl (hg _ w3) (hg _ w1) hd ⟨by show d' + 1 ≤ 2048; omega, by show 8 + (mx + 11) + 40 * d' ≤ 84000; omega⟩, hnm, hg _ w2⟩ ⟨PreI.blind, fun U hU hWm => ⟨rfl, by rw [hU], by rw [hU]; exact hPc, hK.warm hWm, hDc.weaken (fun _ _ _ _ => trivial)⟩⟩ rfl rfl hsz hst (lv_room hrm) hdg ⟨hc, hs⟩) hS (fun x _ h => hF x h) hF (fun w t1 H1 locs1 ht _ hp hB _ hk hS => ?_)
  obtain ⟨hB1, hB2⟩ := hB
  rw [ht] at hB1
  obtain ⟨j1, j2⟩ := join_new hP hD hk hF hB1 hB2
  exact kk w H1 locs1 hp j1 j2 hS
end LCTOR
/-- a puppet's cells lie in the layout -/
theorem pup_at {D : va_G} {G : GT} {A : Nat → Nat} {H : Heap} (h : va_P D cl8 (pupW G A) H) {i : Nat} (hi : i < 41) : va_at D cl8 (A i, psh G A i) H := by
  refine h i _ ?_
  unfold pupW
  rw [List.getElem?_map, List.getElem?_range hi]
  rfl
def Adr (q0 : Nat) (A1 A2 A3 A4 : Nat → Nat) (rest : List Nat) (B : Nat → Nat) (k : Nat) : Nat := if k < 1 then q0 else if k < 42 then A1 (k - 1) else if k < 83 then A2 (k - 42) else if k < 124 then A3 (k - 83) else if k < 165 then A4 (k - 124) else if k < 176 then rest.getD (k - 165) 0 else B k
set_option maxRecDepth 100000 in
theorem shp_p1 {D : va_G} {q0 : Nat} {A1 A2 A3 A4 B : Nat → Nat} {rest : List Nat} {z : ClassId × ClassId × (Nat → Nat) × (Nat → Nat)} {G0 : GT} (hz : G0.2.2 = z) : ∀ i, i < 41 → (ad (D, Adr q0 A1 A2 A3 A4 rest B, z) (1 + i), shp (D, Adr q0 A1 A2 A3 A4 rest B, z) (1 + i) (m0.1 (1 + i)) (m0.2 (1 + i))) = (A1 i, psh G0 A1 i) := by
  intro i hi
  subst hz
  rcases (show i = 0 ∨ i = 1 ∨ i = 2 ∨ i = 3 ∨ i = 4 ∨ i = 5 ∨ i = 6 ∨ i = 7 ∨ i = 8 ∨ i = 9 ∨ i = 10 ∨ i = 11 ∨ i = 12 ∨ i = 13 ∨ i = 14 ∨ i = 15 ∨ i = 16 ∨ i = 17 ∨ i = 18 ∨ i = 19 ∨ i = 20 ∨ i = 21 ∨ i = 22 ∨ i = 23 ∨ i = 24 ∨ i = 25 ∨ i = 26 ∨ i = 27 ∨ i = 28 ∨ i = 29 ∨ i = 30 ∨ i = 31 ∨ i = 32 ∨ i = 33 ∨ i = 34 ∨ i = 35 ∨ i = 36 ∨ i = 37 ∨ i = 38 ∨ i = 39 ∨ i = 40 by omega) with rfl | rfl | rfl | rfl | rfl | rfl | rfl | rfl | rfl | rfl | rfl | rfl | rfl | rfl | rfl | rfl | rfl | rfl | rfl | rfl | rfl | rfl | rfl | rfl | rfl | rfl | rfl | rfl | rfl | rfl | rfl | rfl | rfl | rfl | rfl | rfl | rfl | rfl | rfl | rfl | rfl
  · rfl
  · rfl
  · rfl
  · rfl
  · rfl
  · rfl
  · rfl
  · rfl
  · have hf : (fun n => if n < 8 then some (ad (D, Adr q0 A1 A2 A3 A4 rest B, G0.2.2) (1 + 8 + 1 + 3 * n)) else none) = (fun n => if n < 8 then some (A1 (8 + 1 + 3 * n)) else none) := by
      funext n
      by_cases hn : n < 8
      · rw [if_pos hn, if_pos hn]
        rcases (show n = 0 ∨ n = 1 ∨ n = 2 ∨ n = 3 ∨ n = 4 ∨ n = 5 ∨ n = 6 ∨ n = 7 by omega) with rfl | rfl | rfl | rfl | rfl | rfl | rfl | rfl <;> rfl
      · rw [if_neg hn, if_neg hn]
    show (ad _ (1 + 8), (Sum.inl (G0.2.2.2.1, 8, .inr (.inr (.inr (.inr (fun n => if n < 8 then some (ad (D, Adr q0 A1 A2 A3 A4 rest B, G0.2.2) (1 + 8 + 1 + 3 * n)) else none))))) : va_E)) = _
    rw [hf]
    rfl
  · rfl
  · rfl
  · rfl
  · rfl
  · rfl
  · rfl
  · rfl
  · rfl
  · rfl
  · rfl
  · rfl
  · rfl
  · rfl
  · rfl
  · rfl
  · rfl
  · rfl
  · rfl
  · rfl
  · rfl
  · rfl
  · rfl
  · rfl
  · rfl
  · rfl
  · rfl
  · rfl
  · rfl
  · rfl
  · rfl
  · rfl
  · rfl
set_option maxRecDepth 100000 in
theorem shp_p42 {D : va_G} {q0 : Nat} {A1 A2 A3 A4 B : Nat → Nat} {rest : List Nat} {z : ClassId × ClassId × (Nat → Nat) × (Nat → Nat)} {G0 : GT} (hz : G0.2.2 = z) : ∀ i, i < 41 → (ad (D, Adr q0 A1 A2 A3 A4 rest B, z) (42 + i), shp (D, Adr q0 A1 A2 A3 A4 rest B, z) (42 + i) (m0.1 (42 + i)) (m0.2 (42 + i))) = (A2 i, psh G0 A2 i) := by
  intro i hi
  subst hz
  rcases (show i = 0 ∨ i = 1 ∨ i = 2 ∨ i = 3 ∨ i = 4 ∨ i = 5 ∨ i = 6 ∨ i = 7 ∨ i = 8 ∨ i = 9 ∨ i = 10 ∨ i = 11 ∨ i = 12 ∨ i = 13 ∨ i = 14 ∨ i = 15 ∨ i = 16 ∨ i = 17 ∨ i = 18 ∨ i = 19 ∨ i = 20 ∨ i = 21 ∨ i = 22 ∨ i = 23 ∨ i = 24 ∨ i = 25 ∨ i = 26 ∨ i = 27 ∨ i = 28 ∨ i = 29 ∨ i = 30 ∨ i = 31 ∨ i = 32 ∨ i = 33 ∨ i = 34 ∨ i = 35 ∨ i = 36 ∨ i = 37 ∨ i = 38 ∨ i = 39 ∨ i = 40 by omega) with rfl | rfl | rfl | rfl | rfl | rfl | rfl | rfl | rfl | rfl | rfl | rfl | rfl | rfl | rfl | rfl | rfl | rfl | rfl | rfl | rfl | rfl | rfl | rfl | rfl | rfl | rfl | rfl | rfl | rfl | rfl | rfl | rfl | rfl | rfl | rfl | rfl | rfl | rfl | rfl | rfl
  · rfl
  · rfl
  · rfl
  · rfl
  · rfl
  · rfl
  · rfl
  · rfl
  · have hf : (fun n => if n < 8 then some (ad (D, Adr q0 A1 A2 A3 A4 rest B, G0.2.2) (42 + 8 + 1 + 3 * n)) else none) = (fun n => if n < 8 then some (A2 (8 + 1 + 3 * n)) else none) := by
      funext n
      by_cases hn : n < 8
      · rw [if_pos hn, if_pos hn]
        rcases (show n = 0 ∨ n = 1 ∨ n = 2 ∨ n = 3 ∨ n = 4 ∨ n = 5 ∨ n = 6 ∨ n = 7 by omega) with rfl | rfl | rfl | rfl | rfl | rfl | rfl | rfl <;> rfl
      · rw [if_neg hn, if_neg hn]
    show (ad _ (42 + 8), (Sum.inl (G0.2.2.2.1, 8, .inr (.inr (.inr (.inr (fun n => if n < 8 then some (ad (D, Adr q0 A1 A2 A3 A4 rest B, G0.2.2) (42 + 8 + 1 + 3 * n)) else none))))) : va_E)) = _
    rw [hf]
    rfl
  · rfl
  · rfl
  · rfl
  · rfl
  · rfl
  · rfl
  · rfl
  · rfl
  · rfl
  · rfl
  · rfl
  · rfl
  · rfl
  · rfl
  · rfl
  · rfl
  · rfl
  · rfl
  · rfl
  · rfl
  · rfl
  · rfl
  · rfl
  · rfl
  · rfl
  · rfl
  · rfl
  · rfl
  · rfl
  · rfl
  · rfl
  · rfl
set_option maxRecDepth 100000 in
theorem shp_p83 {D : va_G} {q0 : Nat} {A1 A2 A3 A4 B : Nat → Nat} {rest : List Nat} {z : ClassId × ClassId × (Nat → Nat) × (Nat → Nat)} {G0 : GT} (hz : G0.2.2 = z) : ∀ i, i < 41 → (ad (D, Adr q0 A1 A2 A3 A4 rest B, z) (83 + i), shp (D, Adr q0 A1 A2 A3 A4 rest B, z) (83 + i) (m0.1 (83 + i)) (m0.2 (83 + i))) = (A3 i, psh G0 A3 i) := by
  intro i hi
  subst hz
  rcases (show i = 0 ∨ i = 1 ∨ i = 2 ∨ i = 3 ∨ i = 4 ∨ i = 5 ∨ i = 6 ∨ i = 7 ∨ i = 8 ∨ i = 9 ∨ i = 10 ∨ i = 11 ∨ i = 12 ∨ i = 13 ∨ i = 14 ∨ i = 15 ∨ i = 16 ∨ i = 17 ∨ i = 18 ∨ i = 19 ∨ i = 20 ∨ i = 21 ∨ i = 22 ∨ i = 23 ∨ i = 24 ∨ i = 25 ∨ i = 26 ∨ i = 27 ∨ i = 28 ∨ i = 29 ∨ i = 30 ∨ i = 31 ∨ i = 32 ∨ i = 33 ∨ i = 34 ∨ i = 35 ∨ i = 36 ∨ i = 37 ∨ i = 38 ∨ i = 39 ∨ i = 40 by omega) with rfl | rfl | rfl | rfl | rfl | rfl | rfl | rfl | rfl | rfl | rfl | rfl | rfl | rfl | rfl | rfl | rfl | rfl | rfl | rfl | rfl | rfl | rfl | rfl | rfl | rfl | rfl | rfl | rfl | rfl | rfl | rfl | rfl | rfl | rfl | rfl | rfl | rfl | rfl | rfl | rfl
  · rfl
  · rfl
  · rfl
  · rfl
  · rfl
  · rfl
  · rfl
  · rfl
  · have hf : (fun n => if n < 8 then some (ad (D, Adr q0 A1 A2 A3 A4 rest B, G0.2.2) (83 + 8 + 1 + 3 * n)) else none) = (fun n => if n < 8 then some (A3 (8 + 1 + 3 * n)) else none) := by
      funext n
      by_cases hn : n < 8
      · rw [if_pos hn, if_pos hn]
        rcases (show n = 0 ∨ n = 1 ∨ n = 2 ∨ n = 3 ∨ n = 4 ∨ n = 5 ∨ n = 6 ∨ n = 7 by omega) with rfl | rfl | rfl | rfl | rfl | rfl | rfl | rfl <;> rfl
      · rw [if_neg hn, if_neg hn]
    show (ad _ (83 + 8), (Sum.inl (G0.2.2.2.1, 8, .inr (.inr (.inr (.inr (fun n => if n < 8 then some (ad (D, Adr q0 A1 A2 A3 A4 rest B, G0.2.2) (83 + 8 + 1 + 3 * n)) else none))))) : va_E)) = _
    rw [hf]
    rfl
  · rfl
  · rfl
  · rfl
  · rfl
  · rfl
  · rfl
  · rfl
  · rfl
  · rfl
  · rfl
  · rfl
  · rfl
  · rfl
  · rfl
  · rfl
  · rfl
  · rfl
  · rfl
  · rfl
  · rfl
  · rfl
  · rfl
  · rfl
  · rfl
  · rfl
  · rfl
  · rfl
  · rfl
  · rfl
  · rfl
  · rfl
  · rfl
set_option maxRecDepth 100000 in
theorem shp_p124 {D : va_G} {q0 : Nat} {A1 A2 A3 A4 B : Nat → Nat} {rest : List Nat} {z : ClassId × ClassId × (Nat → Nat) × (Nat → Nat)} {G0 : GT} (hz : G0.2.2 = z) : ∀ i, i < 41 → (ad (D, Adr q0 A1 A2 A3 A4 rest B, z) (124 + i), shp (D, Adr q0 A1 A2 A3 A4 rest B, z) (124 + i) (m0.1 (124 + i)) (m0.2 (124 + i))) = (A4 i, psh G0 A4 i) := by
  intro i hi
  subst hz
  rcases (show i = 0 ∨ i = 1 ∨ i = 2 ∨ i = 3 ∨ i = 4 ∨ i = 5 ∨ i = 6 ∨ i = 7 ∨ i = 8 ∨ i = 9 ∨ i = 10 ∨ i = 11 ∨ i = 12 ∨ i = 13 ∨ i = 14 ∨ i = 15 ∨ i = 16 ∨ i = 17 ∨ i = 18 ∨ i = 19 ∨ i = 20 ∨ i = 21 ∨ i = 22 ∨ i = 23 ∨ i = 24 ∨ i = 25 ∨ i = 26 ∨ i = 27 ∨ i = 28 ∨ i = 29 ∨ i = 30 ∨ i = 31 ∨ i = 32 ∨ i = 33 ∨ i = 34 ∨ i = 35 ∨ i = 36 ∨ i = 37 ∨ i = 38 ∨ i = 39 ∨ i = 40 by omega) with rfl | rfl | rfl | rfl | rfl | rfl | rfl | rfl | rfl | rfl | rfl | rfl | rfl | rfl | rfl | rfl | rfl | rfl | rfl | rfl | rfl | rfl | rfl | rfl | rfl | rfl | rfl | rfl | rfl | rfl | rfl | rfl | rfl | rfl | rfl | rfl | rfl | rfl | rfl | rfl | rfl
  · rfl
  · rfl
  · rfl
  · rfl
  · rfl
  · rfl
  · rfl
  · rfl
  · have hf : (fun n => if n < 8 then some (ad (D, Adr q0 A1 A2 A3 A4 rest B, G0.2.2) (124 + 8 + 1 + 3 * n)) else none) = (fun n => if n < 8 then some (A4 (8 + 1 + 3 * n)) else none) := by
      funext n
      by_cases hn : n < 8
      · rw [if_pos hn, if_pos hn]
        rcases (show n = 0 ∨ n = 1 ∨ n = 2 ∨ n = 3 ∨ n = 4 ∨ n = 5 ∨ n = 6 ∨ n = 7 by omega) with rfl | rfl | rfl | rfl | rfl | rfl | rfl | rfl <;> rfl
      · rw [if_neg hn, if_neg hn]
    show (ad _ (124 + 8), (Sum.inl (G0.2.2.2.1, 8, .inr (.inr (.inr (.inr (fun n => if n < 8 then some (ad (D, Adr q0 A1 A2 A3 A4 rest B, G0.2.2) (124 + 8 + 1 + 3 * n)) else none))))) : va_E)) = _
    rw [hf]
    rfl
  · rfl
  · rfl
  · rfl
  · rfl
  · rfl
  · rfl
  · rfl
  · rfl
  · rfl
  · rfl
  · rfl
  · rfl
  · rfl
  · rfl
  · rfl
  · rfl
  · rfl
  · rfl
  · rfl
  · rfl
  · rfl
  · rfl
  · rfl
  · rfl
  · rfl
  · rfl
  · rfl
  · rfl
  · rfl
  · rfl
  · rfl
  · rfl
set_option maxHeartbeats 8000000 in
set_option maxRecDepth 100000 in
theorem cls_world {D : va_G} {z : ClassId × ClassId × (Nat → Nat) × (Nat → Nat)} {q0 q1 q2 q3 q4 qr qs qb qt qc r1 r2 r3 r4 r5 r6 : Nat} {A1 A2 A3 A4 B : Nat → Nat} {G0 : GT} {H : Heap} {A : Nat → Prop} {rw : va_W} (hz : G0.2.2 = z) (e1 : A1 0 = q1) (e2 : A2 0 = q2) (e3 : A3 0 = q3) (e4 : A4 0 = q4)
    (hP : va_P D cl8 (((q0, .inr (6, [.ref q1, .ref q2, .ref q3, .ref q4, .int (0 : Int32), .int (0 : Int32), .ref qr, .ref qs, .ref qb, .ref qt, .ref qc, .long (0 : Int64), .long (1 : Int64), .int (0 : Int32), .int (0 : Int32), .int (0 : Int32)])) :: (pupW G0 A1 ++ pupW G0 A2 ++ pupW G0 A3 ++ pupW G0 A4 ++ [(qr, .inr (3, [.ref r1, .int (0 : Int32), .int (0 : Int32), .int (0 : Int32), .int (0 : Int32), .int (0 : Int32)])), (r1, .inl (z.1, 150, .inl (fun _ => 0)))] ++ [(qs, .inr (4, [.ref r2, .int (0 : Int32), .int (0 : Int32), .int (0 : Int32), .int (0 : Int32), .int (0 : Int32), .int (0 : Int32), .int (0 : Int32)])), (r2, .inl (z.1, 5, .inl (fun _ => 0)))] ++ [(qb, .inr (0, [.ref r3, .ref r4])), (r3, .inl (z.1, 25, .inl (fun _ => 0))), (r4, .inl (z.1, 25, .inl (fun _ => 0)))] ++ [(qt, .inr (1, [.int (20 : Int32), .int (0 : Int32), .int (0 : Int32), .ref r5, .ref r6])), (r5, .inl (z.1, 7, .inl (fun _ => 0))), (r6, .inl (z.1, 7, .inl (fun _ => 0)))] ++ [(qc, .inl (z.1, 9, .inl (fun _ => 0)))])) ++ rw) H)
    (hD : va_D A (((q0, .inr (6, [.ref q1, .ref q2, .ref q3, .ref q4, .int (0 : Int32), .int (0 : Int32), .ref qr, .ref qs, .ref qb, .ref qt, .ref qc, .long (0 : Int64), .long (1 : Int64), .int (0 : Int32), .int (0 : Int32), .int (0 : Int32)])) :: (pupW G0 A1 ++ pupW G0 A2 ++ pupW G0 A3 ++ pupW G0 A4 ++ [(qr, .inr (3, [.ref r1, .int (0 : Int32), .int (0 : Int32), .int (0 : Int32), .int (0 : Int32), .int (0 : Int32)])), (r1, .inl (z.1, 150, .inl (fun _ => 0)))] ++ [(qs, .inr (4, [.ref r2, .int (0 : Int32), .int (0 : Int32), .int (0 : Int32), .int (0 : Int32), .int (0 : Int32), .int (0 : Int32), .int (0 : Int32)])), (r2, .inl (z.1, 5, .inl (fun _ => 0)))] ++ [(qb, .inr (0, [.ref r3, .ref r4])), (r3, .inl (z.1, 25, .inl (fun _ => 0))), (r4, .inl (z.1, 25, .inl (fun _ => 0)))] ++ [(qt, .inr (1, [.int (20 : Int32), .int (0 : Int32), .int (0 : Int32), .ref r5, .ref r6])), (r5, .inl (z.1, 7, .inl (fun _ => 0))), (r6, .inl (z.1, 7, .inl (fun _ => 0)))] ++ [(qc, .inl (z.1, 9, .inl (fun _ => 0)))])) ++ rw)) :
    va_P D cl8 (wl (D, Adr q0 A1 A2 A3 A4 [qr, r1, qs, r2, qb, r3, r4, qt, r5, r6, qc] B, z) true m0 ++ rw) H ∧ va_D A (wl (D, Adr q0 A1 A2 A3 A4 [qr, r1, qs, r2, qb, r3, r4, qt, r5, r6, qc] B, z) true m0 ++ rw) := by
  generalize hG : ((D, Adr q0 A1 A2 A3 A4 [qr, r1, qs, r2, qb, r3, r4, qt, r5, r6, qc] B, z) : GT) = G at *
  have key : wl G true m0 = ((q0, .inr (6, [.ref q1, .ref q2, .ref q3, .ref q4, .int (0 : Int32), .int (0 : Int32), .ref qr, .ref qs, .ref qb, .ref qt, .ref qc, .long (0 : Int64), .long (1 : Int64), .int (0 : Int32), .int (0 : Int32), .int (0 : Int32)])) :: (pupW G0 A1 ++ pupW G0 A2 ++ pupW G0 A3 ++ pupW G0 A4 ++ [(qr, .inr (3, [.ref r1, .int (0 : Int32), .int (0 : Int32), .int (0 : Int32), .int (0 : Int32), .int (0 : Int32)])), (r1, .inl (z.1, 150, .inl (fun _ => 0)))] ++ [(qs, .inr (4, [.ref r2, .int (0 : Int32), .int (0 : Int32), .int (0 : Int32), .int (0 : Int32), .int (0 : Int32), .int (0 : Int32), .int (0 : Int32)])), (r2, .inl (z.1, 5, .inl (fun _ => 0)))] ++ [(qb, .inr (0, [.ref r3, .ref r4])), (r3, .inl (z.1, 25, .inl (fun _ => 0))), (r4, .inl (z.1, 25, .inl (fun _ => 0)))] ++ [(qt, .inr (1, [.int (20 : Int32), .int (0 : Int32), .int (0 : Int32), .ref r5, .ref r6])), (r5, .inl (z.1, 7, .inl (fun _ => 0))), (r6, .inl (z.1, 7, .inl (fun _ => 0)))] ++ [(qc, .inl (z.1, 9, .inl (fun _ => 0)))])) := by
    have e176 : List.range 176 = [0] ++ ((List.range 41).map (fun i => 1 + i) ++ (List.range 41).map (fun i => 42 + i) ++ (List.range 41).map (fun i => 83 + i) ++ (List.range 41).map (fun i => 124 + i) ++ [165, 166] ++ [167, 168] ++ [169, 170, 171] ++ [172, 173, 174] ++ [175]) := by decide +kernel
    have pm : ∀ (b : Nat) (An : Nat → Nat), (∀ i, i < 41 → (ad G (b + i), shp G (b + i) (m0.1 (b + i)) (m0.2 (b + i))) = (An i, psh G0 An i)) → ((List.range 41).map (fun i => b + i)).map (fun i => (ad G (0 + i), shp G (0 + i) (m0.1 (0 + i)) (m0.2 (0 + i)))) = pupW G0 An := by
      intro b An hb
      unfold pupW
      rw [List.map_map]
      refine List.map_congr_left (fun i hi => ?_)
      have := hb i (List.mem_range.mp hi)
      show (ad G (0 + (b + i)), shp G (0 + (b + i)) (m0.1 (0 + (b + i))) (m0.2 (0 + (b + i)))) = _
      rw [Nat.zero_add]
      exact this
    show (List.range 176).map (fun i => (ad G (0 + i), shp G (0 + i) (m0.1 (0 + i)) (m0.2 (0 + i)))) = _
    rw [e176]
    simp only [List.map_append]
    rw [pm 1 A1 (by rw [← hG]; exact shp_p1 hz), pm 42 A2 (by rw [← hG]; exact shp_p42 hz), pm 83 A3 (by rw [← hG]; exact shp_p83 hz), pm 124 A4 (by rw [← hG]; exact shp_p124 hz)]
    subst e1 e2 e3 e4
    rw [← hG]
    rfl
  rw [key]
  exact ⟨hP, hD⟩
