/-! tell, look, ask -/
theorem fresh_v {M : Mem} {l k q : Nat} {y z w : Int32} (hl : l < 7) (hk : k < 6) (hq : q < 6) (h1 : M.1 (1 + 1) l = nI k) (h2 : M.1 (1 + 2) l = nI q) : f_X6_freshHigh (nI l) y w z M = some (f_X7_comesTo (nI k) (z - f_X7_drops (nI q) y w 0) (nI 0)) := by
  unfold f_X6_freshHigh
  rw [cell_n (show l < ln (1 + 1) from hl) (by decide), ob_e, cell_n (show l < ln (1 + 2) from hl) (by decide), ob_e, h1, h2, drops_e (by omega)]
  exact congrArg some (high_e (m := 0) (by omega) (by decide) _)
theorem heavy_v {N : Mem} {l k q : Nat} {y z w : Int32} (hl : l < 7) (h1 : N.1 177 (4 + 7 * l) = nI k) (h2 : N.1 177 (4 + 7 * l + 1) = nI q) : f_X7_heavyHigh (nI l) y z w N = some (f_X7_comesTo (nI k) (z - f_X7_drops (nI q) y w 0) (nI 0)) := by
  unfold f_X7_heavyHigh
  rw [show f_X7_limbOf (nI l) (0 : Int32) N = some (N.1 177 (4 + 7 * l + 0)) from limbOf_n (w := 0) (by omega), ob_e, show f_X7_limbOf (nI l) (1 : Int32) N = some (N.1 177 (4 + 7 * l + 1)) from limbOf_n (w := 1) (by omega), ob_e, show N.1 177 (4 + 7 * l + 0) = nI k from h1, h2]
  rfl
theorem bt0 : ∀ k, k < 512 → Bt (2 * k) 0 = false := by decide +kernel
theorem tell_a {M0 N0 M N : Mem} {n l m y : Nat} (hn : n ≤ 7) (hl : l < n) (hS : Sta M0.1 1 (N0.1 177) n) (hF : Fr M0 N0 M N) (hb : Bt m 0 = false) : ∃ A M' N', A ≤ 9 ∧ f_X6_alikeByLength (nI l) (nI m) (nI y) M = some (nI A, M') ∧ f_X7_tell_L44 (nI l) (nI y) FU (nI 0) N = some (nI 10, N') ∧ f_X7_parted (nI m) (nI 10) N' = some (nI A) ∧ Fr M0 N0 M' N' := by
  obtain ⟨f1, f2, f3, f4⟩ := hF
  obtain ⟨s1', s2', s3, s4, s5, s6, s7, s8⟩ := hS l hl
  obtain ⟨k, hk, ek⟩ := nI_oI (n := 6) s5 (by decide)
  obtain ⟨q, hq, eq⟩ := nI_oI (n := 6) s6 (by decide)
  obtain ⟨v, hv⟩ : ∃ v : Nat → Int32, v = fun j => f_X7_comesTo (nI k) (30 - f_X7_drops (nI q) (nI y) (nI j) 0) (nI 0) := ⟨_, rfl⟩
  obtain ⟨M', p1, p2, p3, p4⟩ := put_loop (fun f c j M => f_X6_alikeByLength_L6 (nI l) (nI m) (nI y) f c j M) (Bt m) v 10 (fun M => M.1 (1 + 1) l = nI k ∧ M.1 (1 + 2) l = nI q) (fun f c M => by
      show f_X6_alikeByLength_L6 (nI l) (nI m) (nI y) (f + 1) (nI c) (nI 10) M = _
      rw [f_X6_alikeByLength_L6]
      rw [l9, if_pos (nI_lt (by decide) (by decide))]) (fun f c j M hj hc hM => by
      show f_X6_alikeByLength_L6 (nI l) (nI m) (nI y) (f + 1) (nI c) (nI j) M = _
      rw [f_X6_alikeByLength_L6]
      rw [l9, if_neg (nI_nlt (by omega) (by omega)), fresh_v (by omega) hk hq hM.1 hM.2, ob_e, put_n (show c < ln 175 from hc) (by decide), ob_e, lq_e, nI_1, nI_1]
      by_cases h : Bt m j = true
      · rw [if_neg (fun q => (hasB m j).mp q h), if_pos h, ob2_e, lq_e, hv]
      · rw [if_pos ((hasB m j).mpr h), if_neg h, ob2_e, lq_e]) (fun M c x hM => ⟨by rw [s1_ne (by omega)]; exact hM.1, by rw [s1_ne (by omega)]; exact hM.2⟩) 9 1 FU 0 M (by omega) (by omega) (FU_gt (by omega)) ⟨by rw [f2 _ _ (by omega), s1', ek], by rw [f2 _ _ (by omega), s2', eq]⟩
  obtain ⟨N', r1, r2, r3, r4⟩ := fill_loop (fun f j N => f_X7_tell_L44 (nI l) (nI y) f j N) v 10 (by omega) (fun N => N.1 177 (4 + 7 * l) = nI k ∧ N.1 177 (4 + 7 * l + 1) = nI q) (fun f N => by
      show f_X7_tell_L44 (nI l) (nI y) (f + 1) (nI 10) N = _
      rw [f_X7_tell_L44]
      rw [l10, if_pos (nI_le (Nat.le_refl _) (by decide))]) (fun f j N hj hN => by
      show f_X7_tell_L44 (nI l) (nI y) (f + 1) (nI j) N = _
      rw [f_X7_tell_L44]
      rw [l10, if_neg (nI_ge hj (by decide)), heavy_v (by omega) hN.1 hN.2, ob_e, wr_n (by rw [ln_181]; omega) (by omega), ob_e, lq_e, nI_1, hv]) (fun N j x hN => ⟨by rw [s1_ne (by omega)]; exact hN.1, by rw [s1_ne (by omega)]; exact hN.2⟩) N ⟨by rw [f4 _ _ (by omega), ek], by rw [f4 _ _ (by omega), eq]⟩
  have p1 : f_X6_alikeByLength_L6 (nI l) (nI m) (nI y) FU (nI 0) (nI 1) M = some (nI (0 + (fl (Bt m) v 9 1).length), M') := p1
  have r1 : f_X7_tell_L44 (nI l) (nI y) FU (nI 0) N = some (nI 10, N') := r1
  have hlen := fl_len (Bt m) v 9 1
  have e10 : fl (Bt m) v 10 0 = fl (Bt m) v 9 1 := by
    rw [fl, if_neg (by rw [hb]; decide)]
  have p4 : ml M' 175 (0 + (fl (Bt m) v 9 1).length) 0 = fl (Bt m) v 9 1 := p4
  refine ⟨mxl 0 (fl (Bt m) v 9 1) (fl (Bt m) v 9 1), M', N', mxl_le _ _ hlen 0 (by omega), ?_, r1, ?_, by rw [p2]; exact f1, fun a b h => by rw [p3 a b h]; exact f2 a b h, by rw [r2]; exact f3, fun a b h => by rw [r3 a b h]; exact f4 a b h⟩
  · unfold f_X6_alikeByLength
    rw [l0, l1, p1, ob2_e, most_n (by omega), p4, ob_e]
  · rw [parted_n (by omega), fl_congr (B := Bt m) (v := N'.1 181) (w := v) 10 0 (fun t _ h => r4 t (by omega)), e10]
theorem op21 : opP21 Rel := by
  intro a1 M N hR
  unfold f_X6_tell f_X7_tell
  obtain ⟨⟨n, hn, e1, e2, hS, hQ, hD, hTt, hU⟩, hO⟩ := id hR
  obtain ⟨z1, ez1, hz1⟩ := y_lb a1 hn e2
  rw [ez1, ob_e]
  by_cases g1 : oI a1 0 ((n : Int) - 1)
  · rw [if_pos ((o_lb a1 hn e1).mpr g1), if_neg (fun q => (hz1.mp q) g1)]
    obtain ⟨l, hl, rfl⟩ := nI_oI g1 (by omega)
    have hW := hO.1 1 (Or.inl rfl)
    obtain ⟨m, hm, hev, f1, f2⟩ := maskW hn hl hS hW.1 hTt.1
    obtain ⟨k, hk, rfl⟩ : ∃ k, k < 512 ∧ m = 2 * k := ⟨m / 2, by omega, by have := hev (by decide); omega⟩
    rw [f1, f2, ob_e, ob_e]
    by_cases g2 : k = 0
    · subst g2
      rw [if_pos (show nI (2 * 0) = (0 : Int32) from rfl), show f_X7_tell_L30 (nI l) (nI (2 * 0)) FU ((-1001) : Int32) (99 : Int32) (1 : Int32) N = some (-1001, N) from by
        show f_X7_tell_L30 (nI l) (nI (2 * 0)) (3999 + 1) ((-1001) : Int32) (99 : Int32) (1 : Int32) N = some (-1001, N)
        rw [f_X7_tell_L30]
        rw [if_neg (show ¬ (21 : Int32) ≤ 1 by decide), if_pos (show nI (2 * 0) = (0 : Int32) from rfl)], ob2_e]
      exact ⟨_, _, _, rfl, rfl, hR⟩
    · have gz : ¬ nI (2 * k) = (0 : Int32) := fun q => g2 (by have := (nI_eq (a := 2 * k) (b := 0) (by omega) (by decide)).mp q; omega)
      rw [if_neg gz]
      obtain ⟨A, M1, N1, hA, c1, c2, c3, hF⟩ := tell_a (y := 1) hn hl hS ⟨rfl, fun _ _ _ => rfl, rfl, fun _ _ _ => rfl⟩ (bt0 k hk)
      have c1 : f_X6_alikeByLength (nI l) (nI (2 * k)) (1 : Int32) M = some (nI A, M1) := c1
      rw [c1, ob2_e]
      have h99 : ¬ (99 : Int32) ≤ nI A := nI_ge (b := 99) (by omega) (by decide)
      have eN : f_X7_tell_L30 (nI l) (nI (2 * k)) FU ((-1001) : Int32) (99 : Int32) (1 : Int32) N = f_X7_tell_L30 (nI l) (nI (2 * k)) 3999 (nI 1) (nI A) (nI 2) N1 := by
        show f_X7_tell_L30 (nI l) (nI (2 * k)) (3999 + 1) ((-1001) : Int32) (99 : Int32) (1 : Int32) N = _
        rw [f_X7_tell_L30]
        rw [if_neg (show ¬ (21 : Int32) ≤ 1 by decide), if_neg gz, l1, l0, c2, ob2_e, l10, c3, ob_e, lq_e, lq_e, lq_e, nI_add, if_neg h99, if_neg h99]
      rw [eN]
      obtain ⟨r, s, k1, k2, kq, kF⟩ : ∃ r s, f_X6_tell_L44 (nI l) (nI (2 * k)) FU (nI 1) (nI A) (nI 2) M1 = some r ∧ f_X7_tell_L30 (nI l) (nI (2 * k)) 3999 (nI 1) (nI A) (nI 2) N1 = some s ∧ (r.1 = s.1 ∧ Fr M N r.2 s.2) := by
        refine loop2 (fun f i (x : Int32 × Int32 × Mem) => f_X6_tell_L44 (nI l) (nI (2 * k)) f x.1 x.2.1 (nI i) x.2.2) (fun f i (x : Int32 × Int32 × Mem) => f_X7_tell_L30 (nI l) (nI (2 * k)) f x.1 x.2.1 (nI i) x.2.2) 21 (fun i x y => x.1 = y.1 ∧ x.2.1 = y.2.1 ∧ Fr M N x.2.2 y.2.2) _ ?_ ?_ 19 2 FU 3999 (nI 1, nI A, M1) (nI 1, nI A, N1) (by omega) (FU_gt (by omega)) (by omega) ⟨rfl, rfl, hF⟩
        · intro f g x y h
          obtain ⟨x1, x2, x3⟩ := x
          obtain ⟨y1, y2, y3⟩ := y
          obtain ⟨rfl, rfl, h3⟩ : x1 = y1 ∧ x2 = y2 ∧ Fr M N x3 y3 := h
          refine ⟨(x1, x3), (x1, y3), ?_, ?_, rfl, h3⟩
          · show f_X6_tell_L44 (nI l) (nI (2 * k)) (f + 1) x1 x2 (nI 21) x3 = _
            rw [f_X6_tell_L44]
            rw [l20, if_pos (nI_lt (by decide) (by decide))]
          · show f_X7_tell_L30 (nI l) (nI (2 * k)) (g + 1) x1 x2 (nI 21) y3 = _
            rw [f_X7_tell_L30]
            rw [l21, if_pos (nI_le (Nat.le_refl _) (by decide))]
        · intro f g i x y hi h
          obtain ⟨x1, x2, x3⟩ := x
          obtain ⟨y1, y2, y3⟩ := y
          obtain ⟨rfl, rfl, h3⟩ : x1 = y1 ∧ x2 = y2 ∧ Fr M N x3 y3 := h
          obtain ⟨A', M2, N2, hA', d1, d2, d3, hF2⟩ := tell_a (y := i) hn hl hS h3 (bt0 k hk)
          refine Or.inl ⟨(if x2 ≤ nI A' then x1 else nI i, if x2 ≤ nI A' then x2 else nI A', M2), (if x2 ≤ nI A' then x1 else nI i, if x2 ≤ nI A' then x2 else nI A', N2), ?_, ?_, rfl, rfl, hF2⟩
          · show f_X6_tell_L44 (nI l) (nI (2 * k)) (f + 1) x1 x2 (nI i) x3 = f_X6_tell_L44 (nI l) (nI (2 * k)) f (if x2 ≤ nI A' then x1 else nI i) (if x2 ≤ nI A' then x2 else nI A') (nI (i + 1)) M2
            rw [f_X6_tell_L44]
            rw [l20, if_neg (nI_nlt (by omega) (by omega)), d1, ob2_e]
            by_cases h : x2 ≤ nI A'
            · rw [if_pos h, if_pos h, if_pos h, ob2_e, lq_e, nI_1]
            · rw [if_neg h, if_neg h, if_neg h, ob2_e, lq_e, nI_1]
          · show f_X7_tell_L30 (nI l) (nI (2 * k)) (g + 1) x1 x2 (nI i) y3 = f_X7_tell_L30 (nI l) (nI (2 * k)) g (if x2 ≤ nI A' then x1 else nI i) (if x2 ≤ nI A' then x2 else nI A') (nI (i + 1)) N2
            rw [f_X7_tell_L30]
            rw [l21, if_neg (nI_ge hi (by decide)), if_neg gz, l0, d2, ob2_e, l10, d3, ob_e, lq_e, lq_e, lq_e, nI_1]
      obtain ⟨ra, rM⟩ := r
      obtain ⟨sa, sN⟩ := s
      obtain rfl : ra = sa := kq
      rw [show f_X6_tell_L44 (nI l) (nI (2 * k)) FU (1 : Int32) (nI A) (2 : Int32) M1 = some (ra, rM) from k1, k2, ob2_e, ob2_e]
      exact ⟨_, _, _, rfl, rfl, Fr.rel kF hR⟩
  · rw [if_neg (fun q => g1 ((o_lb a1 hn e1).mp q)), if_pos (hz1.mpr g1)]
    exact ⟨_, _, _, rfl, rfl, hR.bad⟩
theorem dm100 : ∀ z, z < 1000 → nI z / (100 : Int32) = nI (z / 100) ∧ (nI z - nI z / (100 : Int32) * (100 : Int32)) = nI (z % 100) := by decide +kernel
theorem dm10 : ∀ z, z < 202 → nI z / (10 : Int32) = nI (z / 10) ∧ (nI z - nI z / (10 : Int32) * (10 : Int32)) = nI (z % 10) := by decide +kernel
def Bq (b c : Int32) : Prop := (b = 7 ∧ c = 99) ∨ b = c
theorem Bq.step {b c : Int32} {A : Nat} (h : Bq b c) (hA : A ≤ 6) : (b ≤ nI A ↔ c ≤ nI A) ∧ Bq (if b ≤ nI A then b else nI A) (if c ≤ nI A then c else nI A) := by
  rcases h with ⟨rfl, rfl⟩ | rfl
  · have h1 : ¬ (7 : Int32) ≤ nI A := nI_ge (b := 7) (by omega) (by decide)
    have h2 : ¬ (99 : Int32) ≤ nI A := nI_ge (b := 99) (by omega) (by decide)
    rw [if_neg h1, if_neg h2]
    exact ⟨⟨fun q => absurd q h1, fun q => absurd q h2⟩, Or.inr rfl⟩
  · exact ⟨Iff.rfl, Or.inr rfl⟩
theorem look_a {M0 N0 M N : Mem} {n l m w y : Nat} (hn : n ≤ 7) (hl : l < n) (hQ : Pos M0.1 (1 + 5) (N0.1 177) 1 8 7 n 9999) (hF : Fr M0 N0 M N) (hw : w < 10) (hy : y < 100) : ∃ A x M' N', A ≤ 6 ∧ f_X2_wornOf 1 (nI l) M = some x ∧ f_X6_alikeByDrop (nI m) (nI y) (nI w) x M = some (nI A, M') ∧ f_X7_look_L62 (nI l) (nI (100 * w + y)) FU (nI 0) N = some (nI 6, N') ∧ f_X7_parted (nI m) (nI 6) N' = some (nI A) ∧ Fr M0 N0 M' N' := by
  obtain ⟨f1, f2, f3, f4⟩ := hF
  obtain ⟨L1, L2, L3, L4, L5⟩ := hQ.2 l hl
  obtain ⟨x, hx⟩ : ∃ x, x = N0.1 177 (8 + 7 * l + 1) := ⟨_, rfl⟩
  obtain ⟨v, hv⟩ : ∃ v : Nat → Int32, v = fun j => f_X7_drops (nI j) (nI y) (nI w) x := ⟨_, rfl⟩
  obtain ⟨d1, d2⟩ := dm100 (100 * w + y) (by omega)
  rw [show (100 * w + y) / 100 = w by omega] at d1
  rw [show (100 * w + y) % 100 = y by omega] at d2
  obtain ⟨M', p1, p2, p3, p4⟩ := put_loop (fun f c j M => f_X6_alikeByDrop_L6 (nI m) (nI y) (nI w) x f c j M) (Bt m) v 6 (fun M => True) (fun f c M => by
      show f_X6_alikeByDrop_L6 (nI m) (nI y) (nI w) x (f + 1) (nI c) (nI 6) M = _
      rw [f_X6_alikeByDrop_L6]
      rw [l6, if_pos (nI_le (Nat.le_refl _) (by decide))]) (fun f c j M hj hc hM => by
      show f_X6_alikeByDrop_L6 (nI m) (nI y) (nI w) x (f + 1) (nI c) (nI j) M = _
      rw [f_X6_alikeByDrop_L6]
      rw [l6, if_neg (nI_ge hj (by omega)), drops_e (by omega), put_n (show c < ln 175 from hc) (by decide), ob_e, lq_e, nI_1, nI_1]
      by_cases h : Bt m j = true
      · rw [if_neg (fun q => (hasB m j).mp q h), if_pos h, ob2_e, lq_e, hv]
      · rw [if_pos ((hasB m j).mpr h), if_neg h, ob2_e, lq_e]) (fun M c x hM => trivial) 6 0 FU 0 M (by omega) (by omega) (FU_gt (by omega)) trivial
  obtain ⟨N', r1, r2, r3, r4⟩ := fill_loop (fun f j N => f_X7_look_L62 (nI l) (nI (100 * w + y)) f j N) v 6 (by omega) (fun N => N.1 177 (8 + 7 * l + 1) = x) (fun f N => by
      show f_X7_look_L62 (nI l) (nI (100 * w + y)) (f + 1) (nI 6) N = _
      rw [f_X7_look_L62]
      rw [l6, if_pos (nI_le (Nat.le_refl _) (by decide))]) (fun f j N hj hN => by
      show f_X7_look_L62 (nI l) (nI (100 * w + y)) (f + 1) (nI j) N = _
      rw [f_X7_look_L62]
      rw [l6, if_neg (nI_ge hj (by decide)), l5, limbOf_n (by omega), ob_e, d2, d1, show 4 + 7 * l + 5 = 8 + 7 * l + 1 by omega, hN, wr_n (by rw [ln_181]; omega) (by omega), ob_e, lq_e, nI_1, hv]) (fun N j x hN => by show (s1 N 181 j x).1 177 (8 + 7 * l + 1) = _; rw [s1_ne (by omega)]; exact hN) N (by rw [f4 _ _ (by omega), hx])
  have p1 : f_X6_alikeByDrop_L6 (nI m) (nI y) (nI w) x FU (nI 0) (nI 0) M = some (nI (0 + (fl (Bt m) v 6 0).length), M') := p1
  have r1 : f_X7_look_L62 (nI l) (nI (100 * w + y)) FU (nI 0) N = some (nI 6, N') := r1
  have hlen := fl_len (Bt m) v 6 0
  have p4 : ml M' 175 (0 + (fl (Bt m) v 6 0).length) 0 = fl (Bt m) v 6 0 := p4
  refine ⟨mxl 0 (fl (Bt m) v 6 0) (fl (Bt m) v 6 0), x, M', N', mxl_le _ _ hlen 0 (by omega), ?_, ?_, r1, ?_, by rw [p2]; exact f1, fun a b h => by rw [p3 a b h]; exact f2 a b h, by rw [r2]; exact f3, fun a b h => by rw [r3 a b h]; exact f4 a b h⟩
  · unfold f_X2_wornOf
    rw [cell_n (show l < ln (1 + 5 + 2) from by show l < 7; omega) (by decide), ob_e, f2 _ _ (by omega), L2, hx]
  · unfold f_X6_alikeByDrop
    rw [l0, p1, ob2_e, most_n (by omega), p4, ob_e]
  · rw [parted_n (by omega), fl_congr (B := Bt m) (v := N'.1 181) (w := v) 6 0 (fun t _ h => r4 t (by omega))]
theorem look_skip {l m : Nat} {a b : Int32} {N : Mem} (gz : ¬ nI m = (0 : Int32)) : ∀ (k z f : Nat), (∀ t, z ≤ t → t < z + k → t < 1000 ∧ (20 < t % 100 ∨ t % 100 = 0)) → f_X7_look_L31 (nI l) (nI m) (f + k) a b (nI z) N = f_X7_look_L31 (nI l) (nI m) f a b (nI (z + k)) N := by
  intro k
  induction k with
  | zero => intro z f _; rfl
  | succ k ih =>
    intro z f h
    obtain ⟨h1, h2⟩ := h z (by omega) (by omega)
    show f_X7_look_L31 (nI l) (nI m) (f + k + 1) a b (nI z) N = _
    rw [f_X7_look_L31]
    rw [show (1000 : Int32) = nI 1000 from rfl, if_neg (nI_ge h1 (by decide)), if_neg gz, (dm100 z h1).2, if_pos ((y_1_20 (nI (z % 100))).mpr (fun q => by rw [oI_nI (by omega)] at q; omega)), ob3_e, lq_e, nI_1, ih (z + 1) f (fun t q1 q2 => h t (by omega) (by omega)), show z + 1 + k = z + (k + 1) by omega]
theorem look_in {M0 N0 : Mem} {n l m w : Nat} (hn : n ≤ 7) (hl : l < n) (hQ : Pos M0.1 (1 + 5) (N0.1 177) 1 8 7 n 9999) (gz : ¬ nI m = (0 : Int32)) (hw : w < 10) : ∀ (k y f g : Nat) (a b c : Int32) (M N : Mem), y + k = 21 → 1 ≤ y → k < f → Bq b c → Fr M0 N0 M N → ∃ a' b' c' M' N', f_X6_look_L51 (nI l) (nI m) (nI w) f a b (nI y) M = some (a', b', M') ∧ f_X7_look_L31 (nI l) (nI m) (g + k) a c (nI (100 * w + y)) N = f_X7_look_L31 (nI l) (nI m) g a' c' (nI (100 * w + 21)) N' ∧ Bq b' c' ∧ Fr M0 N0 M' N' := by
  intro k
  induction k with
  | zero =>
    intro y f g a b c M N hy h1 hf hB hF
    obtain ⟨f', rfl⟩ : ∃ f', f = f' + 1 := ⟨f - 1, by omega⟩
    have : y = 21 := by omega
    subst this
    refine ⟨a, b, c, M, N, ?_, rfl, hB, hF⟩
    rw [f_X6_look_L51]
    rw [l20, if_pos (nI_lt (by decide) (by decide))]
  | succ k ih =>
    intro y f g a b c M N hy h1 hf hB hF
    obtain ⟨f', rfl⟩ : ∃ f', f = f' + 1 := ⟨f - 1, by omega⟩
    obtain ⟨A, x, M1, N1, hA, x1, x2, x3, x4, hF1⟩ := look_a (m := m) (w := w) (y := y) hn hl hQ hF hw (by omega)
    obtain ⟨hc, hB1⟩ := hB.step hA
    obtain ⟨a', b', c', M2, N2, q1, q2, q3, q4⟩ := ih (y + 1) f' g (if b ≤ nI A then a else nI (100 * w + y)) (if b ≤ nI A then b else nI A) (if c ≤ nI A then c else nI A) M1 N1 (by omega) (by omega) (by omega) hB1 hF1
    refine ⟨a', b', c', M2, N2, ?_, ?_, q3, q4⟩
    · rw [← q1, f_X6_look_L51]
      rw [l20, if_neg (nI_nlt (by omega) (by omega)), x1, ob_e, x2, ob2_e, show (100 : Int32) = nI 100 from rfl, pk_mul, nI_add, lq_e]
      by_cases h : b ≤ nI A
      · rw [if_pos h, if_pos h, if_pos h, ob2_e, lq_e, nI_1]
      · rw [if_neg h, if_neg h, if_neg h, ob2_e, lq_e, nI_1]
    · rw [← q2]
      show f_X7_look_L31 (nI l) (nI m) (g + k + 1) a c (nI (100 * w + y)) N = _
      rw [f_X7_look_L31]
      rw [show (1000 : Int32) = nI 1000 from rfl, if_neg (nI_ge (by omega) (by decide)), if_neg gz, (dm100 (100 * w + y) (by omega)).2, if_neg (fun q => ((y_1_20 (nI ((100 * w + y) % 100))).mp q) (by rw [oI_nI (by omega)]; omega)), l0, x3, ob2_e, l6, x4, ob_e, lq_e, lq_e, ob3_e, lq_e, nI_1, show 100 * w + y + 1 = 100 * w + (y + 1) by omega]
      by_cases h : b ≤ nI A
      · rw [if_pos h, if_pos (hc.mp h)]
      · rw [if_neg h, if_neg (fun q => h (hc.mpr q))]
theorem look_out {M0 N0 : Mem} {n l m : Nat} (hn : n ≤ 7) (hl : l < n) (hQ : Pos M0.1 (1 + 5) (N0.1 177) 1 8 7 n 9999) (gz : ¬ nI m = (0 : Int32)) : ∀ (k w f g : Nat) (a b c : Int32) (M N : Mem), w + k = 9 → k + 1 < f → Bq b c → Fr M0 N0 M N → ∃ a' M' N', f_X6_look_L41 (nI l) (nI m) f a b (nI w) M = some (a', M') ∧ f_X7_look_L31 (nI l) (nI m) (g + (100 * k + 100)) a c (nI (100 * w + 1)) N = some (a', N') ∧ Fr M0 N0 M' N' := by
  intro k
  induction k with
  | zero =>
    intro w f g a b c M N hw hf hB hF
    obtain ⟨f', rfl⟩ : ∃ f', f = f' + 1 + 1 := ⟨f - 2, by omega⟩
    have : w = 9 := by omega
    subst this
    obtain ⟨a', b', c', M1, N1, q1, q2, q3, q4⟩ := look_in hn hl hQ gz (w := 9) (by omega) 20 1 FU (g + 80) a b c M N (by omega) (by omega) (FU_gt (by omega)) hB hF
    refine ⟨a', M1, N1, ?_, ?_, q4⟩
    · rw [f_X6_look_L41]
      rw [l9, if_neg (nI_nlt (by omega) (by omega)), l1, q1, ob3_e, lq_e, nI_add, f_X6_look_L41]
      rw [l9, if_pos (nI_lt (by omega) (by omega))]
    · rw [show g + (100 * 0 + 100) = g + 80 + 20 by omega, q2, show g + 80 = g + 1 + 79 by omega, look_skip gz 79 (100 * 9 + 21) (g + 1) (fun t h1 h2 => by omega), f_X7_look_L31]
      rw [show (1000 : Int32) = nI 1000 from rfl, if_pos (nI_le (by omega) (by omega))]
  | succ k ih =>
    intro w f g a b c M N hw hf hB hF
    obtain ⟨f', rfl⟩ : ∃ f', f = f' + 1 := ⟨f - 1, by omega⟩
    obtain ⟨a', b', c', M1, N1, q1, q2, q3, q4⟩ := look_in hn hl hQ gz (w := w) (by omega) 20 1 FU (g + (100 * k + 100) + 80) a b c M N (by omega) (by omega) (FU_gt (by omega)) hB hF
    obtain ⟨a2, M2, N2, r1, r2, r3⟩ := ih (w + 1) f' g a' b' c' M1 N1 (by omega) (by omega) q3 q4
    refine ⟨a2, M2, N2, ?_, ?_, r3⟩
    · rw [← r1, f_X6_look_L41]
      rw [l9, if_neg (nI_nlt (by omega) (by omega)), l1, q1, ob3_e, lq_e, nI_add]
    · rw [← r2, show g + (100 * (k + 1) + 100) = g + (100 * k + 100) + 80 + 20 by omega, q2, look_skip gz 80 (100 * w + 21) (g + (100 * k + 100)) (fun t h1 h2 => by omega), show 100 * w + 21 + 80 = 100 * (w + 1) + 1 by omega]
theorem op26 : opP26 Rel := by
  intro a1 M N hR
  unfold f_X6_look f_X7_look
  obtain ⟨⟨n, hn, e1, e2, hS, hQ, hD, hTt, hU⟩, hO⟩ := id hR
  obtain ⟨z1, ez1, hz1⟩ := y_lb a1 hn e2
  rw [ez1, ob_e]
  by_cases g1 : oI a1 0 ((n : Int) - 1)
  · rw [if_pos ((o_lb a1 hn e1).mpr g1), if_neg (fun q => (hz1.mp q) g1)]
    obtain ⟨l, hl, rfl⟩ := nI_oI g1 (by omega)
    have hW := hO.1 1 (Or.inl rfl)
    obtain ⟨m, hm, _, f1, f2⟩ := maskN hn hl hS hW.2.2.1 hTt.2.1
    rw [f1, f2, ob_e, ob_e]
    by_cases g2 : m = 0
    · subst g2
      rw [if_pos (show nI 0 = (0 : Int32) from rfl), show f_X7_look_L31 (nI l) (nI 0) FU ((-1001) : Int32) (99 : Int32) (101 : Int32) N = some (-1001, N) from by
        show f_X7_look_L31 (nI l) (nI 0) (3999 + 1) ((-1001) : Int32) (99 : Int32) (101 : Int32) N = some (-1001, N)
        rw [f_X7_look_L31]
        rw [if_neg (show ¬ (1000 : Int32) ≤ 101 by decide), if_pos (show nI 0 = (0 : Int32) from rfl)], ob2_e]
      exact ⟨_, _, _, rfl, rfl, hR⟩
    · have gz : ¬ nI m = (0 : Int32) := fun q => g2 (by have := (nI_eq (a := m) (b := 0) (by omega) (by decide)).mp q; omega)
      rw [if_neg gz]
      obtain ⟨a', M', N', q1, q2, q3⟩ := look_out hn hl hQ gz 8 1 FU 3100 (-1001) 7 99 M N (by omega) (FU_gt (by omega)) (Or.inl ⟨rfl, rfl⟩) ⟨rfl, fun _ _ _ => rfl, rfl, fun _ _ _ => rfl⟩
      rw [show f_X6_look_L41 (nI l) (nI m) FU ((-1001) : Int32) (7 : Int32) (1 : Int32) M = some (a', M') from q1, show f_X7_look_L31 (nI l) (nI m) FU ((-1001) : Int32) (99 : Int32) (101 : Int32) N = some (a', N') from q2, ob2_e, ob2_e]
      exact ⟨_, _, _, rfl, rfl, Fr.rel q3 hR⟩
  · rw [if_neg (fun q => g1 ((o_lb a1 hn e1).mp q)), if_pos (hz1.mpr g1)]
    exact ⟨_, _, _, rfl, rfl, hR.bad⟩
theorem ask_a {M0 N0 M N : Mem} {m w y : Nat} (hF : Fr M0 N0 M N) (hw : w < 21) (hy : y < 2) (hz : 10 * w + y < 202) : ∃ A M' N', A ≤ 6 ∧ f_X6_alikeByHigh (nI m) (nI w) (nI y) M = some (nI A, M') ∧ f_X7_ask_L54 (nI (10 * w + y)) FU (nI 0) N = some (nI 6, N') ∧ f_X7_parted (nI m) (nI 6) N' = some (nI A) ∧ Fr M0 N0 M' N' := by
  obtain ⟨f1, f2, f3, f4⟩ := hF
  obtain ⟨v, hv⟩ : ∃ v : Nat → Int32, v = fun j => f_X7_comesTo (nI j) (nI w) (nI y) := ⟨_, rfl⟩
  obtain ⟨d1, d2⟩ := dm10 (10 * w + y) hz
  rw [show (10 * w + y) / 10 = w by omega] at d1
  rw [show (10 * w + y) % 10 = y by omega] at d2
  obtain ⟨M', p1, p2, p3, p4⟩ := put_loop (fun f c j M => f_X6_alikeByHigh_L6 (nI m) (nI w) (nI y) f c j M) (Bt m) v 6 (fun M => True) (fun f c M => by
      show f_X6_alikeByHigh_L6 (nI m) (nI w) (nI y) (f + 1) (nI c) (nI 6) M = _
      rw [f_X6_alikeByHigh_L6]
      rw [l6, if_pos (nI_le (Nat.le_refl _) (by decide))]) (fun f c j M hj hc hM => by
      show f_X6_alikeByHigh_L6 (nI m) (nI w) (nI y) (f + 1) (nI c) (nI j) M = _
      rw [f_X6_alikeByHigh_L6]
      rw [l6, if_neg (nI_ge hj (by omega)), high_e (by omega) (by omega), put_n (show c < ln 175 from hc) (by decide), ob_e, lq_e, nI_1, nI_1]
      by_cases h : Bt m j = true
      · rw [if_neg (fun q => (hasB m j).mp q h), if_pos h, ob2_e, lq_e, hv]
      · rw [if_pos ((hasB m j).mpr h), if_neg h, ob2_e, lq_e]) (fun M c x hM => trivial) 6 0 FU 0 M (by omega) (by omega) (FU_gt (by omega)) trivial
  obtain ⟨N', r1, r2, r3, r4⟩ := fill_loop (fun f j N => f_X7_ask_L54 (nI (10 * w + y)) f j N) v 6 (by omega) (fun N => True) (fun f N => by
      show f_X7_ask_L54 (nI (10 * w + y)) (f + 1) (nI 6) N = _
      rw [f_X7_ask_L54]
      rw [l6, if_pos (nI_le (Nat.le_refl _) (by decide))]) (fun f j N hj hN => by
      show f_X7_ask_L54 (nI (10 * w + y)) (f + 1) (nI j) N = _
      rw [f_X7_ask_L54]
      rw [d2, d1, l6, if_neg (nI_ge hj (by decide)), wr_n (by rw [ln_181]; omega) (by omega), ob_e, lq_e, nI_1, hv]) (fun N j x hN => trivial) N trivial
  have p1 : f_X6_alikeByHigh_L6 (nI m) (nI w) (nI y) FU (nI 0) (nI 0) M = some (nI (0 + (fl (Bt m) v 6 0).length), M') := p1
  have r1 : f_X7_ask_L54 (nI (10 * w + y)) FU (nI 0) N = some (nI 6, N') := r1
  have hlen := fl_len (Bt m) v 6 0
  have p4 : ml M' 175 (0 + (fl (Bt m) v 6 0).length) 0 = fl (Bt m) v 6 0 := p4
  refine ⟨mxl 0 (fl (Bt m) v 6 0) (fl (Bt m) v 6 0), M', N', mxl_le _ _ hlen 0 (by omega), ?_, r1, ?_, by rw [p2]; exact f1, fun a b h => by rw [p3 a b h]; exact f2 a b h, by rw [r2]; exact f3, fun a b h => by rw [r3 a b h]; exact f4 a b h⟩
  · unfold f_X6_alikeByHigh
    rw [l0, p1, ob2_e, most_n (by omega), p4, ob_e]
  · rw [parted_n (by omega), fl_congr (B := Bt m) (v := N'.1 181) (w := v) 6 0 (fun t _ h => r4 t (by omega))]
theorem l202 : (202 : Int32) = nI 202 := rfl
theorem ask_skip {m : Nat} {a b : Int32} {N : Mem} (gz : ¬ nI m = (0 : Int32)) : ∀ (k z f : Nat), (∀ t, z ≤ t → t < z + k → t < 202 ∧ 2 ≤ t % 10) → f_X7_ask_L30 (nI m) (f + k) a b (nI z) N = f_X7_ask_L30 (nI m) f a b (nI (z + k)) N := by
  intro k
  induction k with
  | zero => intro z f _; rfl
  | succ k ih =>
    intro z f h
    obtain ⟨h1, h2⟩ := h z (by omega) (by omega)
    show f_X7_ask_L30 (nI m) (f + k + 1) a b (nI z) N = _
    rw [f_X7_ask_L30]
    rw [l202, if_neg (nI_ge h1 (by decide)), if_neg gz, (dm10 z h1).2, l2, if_pos (nI_le h2 (by omega)), ob3_e, lq_e, nI_1, ih (z + 1) f (fun t q1 q2 => h t (by omega) (by omega)), show z + 1 + k = z + (k + 1) by omega]
theorem ask_in {M0 N0 : Mem} {m w : Nat} (gz : ¬ nI m = (0 : Int32)) (hw : w < 21) : ∀ (k y f g : Nat) (a b c : Int32) (M N : Mem), y + k = 2 → k < f → Bq b c → Fr M0 N0 M N → ∃ a' b' c' M' N', f_X6_ask_L51 (nI m) (nI w) f a b (nI y) M = some (a', b', M') ∧ f_X7_ask_L30 (nI m) (g + k) a c (nI (10 * w + y)) N = f_X7_ask_L30 (nI m) g a' c' (nI (10 * w + 2)) N' ∧ Bq b' c' ∧ Fr M0 N0 M' N' := by
  intro k
  induction k with
  | zero =>
    intro y f g a b c M N hy hf hB hF
    obtain ⟨f', rfl⟩ : ∃ f', f = f' + 1 := ⟨f - 1, by omega⟩
    have : y = 2 := by omega
    subst this
    refine ⟨a, b, c, M, N, ?_, rfl, hB, hF⟩
    rw [f_X6_ask_L51]
    rw [l1, if_pos (nI_lt (by decide) (by decide))]
  | succ k ih =>
    intro y f g a b c M N hy hf hB hF
    obtain ⟨f', rfl⟩ : ∃ f', f = f' + 1 := ⟨f - 1, by omega⟩
    obtain ⟨A, M1, N1, hA, x2, x3, x4, hF1⟩ := ask_a (m := m) (w := w) (y := y) hF hw (by omega) (by omega)
    obtain ⟨hc, hB1⟩ := hB.step hA
    obtain ⟨a', b', c', M2, N2, q1, q2, q3, q4⟩ := ih (y + 1) f' g (if b ≤ nI A then a else nI (10 * w + y)) (if b ≤ nI A then b else nI A) (if c ≤ nI A then c else nI A) M1 N1 (by omega) (by omega) hB1 hF1
    refine ⟨a', b', c', M2, N2, ?_, ?_, q3, q4⟩
    · rw [← q1, f_X6_ask_L51]
      rw [l1, if_neg (nI_nlt (by omega) (by omega)), x2, ob2_e, l10, pk_mul, nI_add, lq_e]
      by_cases h : b ≤ nI A
      · rw [if_pos h, if_pos h, if_pos h, ob2_e, lq_e, nI_add]
      · rw [if_neg h, if_neg h, if_neg h, ob2_e, lq_e, nI_add]
    · rw [← q2]
      show f_X7_ask_L30 (nI m) (g + k + 1) a c (nI (10 * w + y)) N = _
      rw [f_X7_ask_L30]
      rw [l202, if_neg (nI_ge (by omega) (by decide)), if_neg gz, (dm10 (10 * w + y) (by omega)).2, l2, if_neg (nI_ge (by omega) (by omega)), l0, x3, ob2_e, l6, x4, ob_e, lq_e, lq_e, ob3_e, lq_e, nI_1, show 10 * w + y + 1 = 10 * w + (y + 1) by omega]
      by_cases h : b ≤ nI A
      · rw [if_pos h, if_pos (hc.mp h)]
      · rw [if_neg h, if_neg (fun q => h (hc.mpr q))]
theorem ask_out {M0 N0 : Mem} {m : Nat} (gz : ¬ nI m = (0 : Int32)) : ∀ (k w f g : Nat) (a b c : Int32) (M N : Mem), w + k = 20 → k + 1 < f → Bq b c → Fr M0 N0 M N → ∃ a' M' N', f_X6_ask_L41 (nI m) f a b (nI w) M = some (a', M') ∧ f_X7_ask_L30 (nI m) (g + (10 * k + 3)) a c (nI (10 * w)) N = some (a', N') ∧ Fr M0 N0 M' N' := by
  intro k
  induction k with
  | zero =>
    intro w f g a b c M N hw hf hB hF
    obtain ⟨f', rfl⟩ : ∃ f', f = f' + 1 + 1 := ⟨f - 2, by omega⟩
    have : w = 20 := by omega
    subst this
    obtain ⟨a', b', c', M1, N1, q1, q2, q3, q4⟩ := ask_in gz (w := 20) (by omega) 2 0 FU (g + 1) a b c M N (by omega) (FU_gt (by omega)) hB hF
    refine ⟨a', M1, N1, ?_, ?_, q4⟩
    · rw [f_X6_ask_L41]
      rw [l20, if_neg (nI_nlt (by omega) (by omega)), l0, q1, ob3_e, lq_e, nI_1, f_X6_ask_L41]
      rw [l20, if_pos (nI_lt (by omega) (by omega))]
    · have q2 : f_X7_ask_L30 (nI m) (g + 1 + 2) a c (nI (10 * 20)) N = f_X7_ask_L30 (nI m) (g + 1) a' c' (nI (10 * 20 + 2)) N1 := q2
      rw [show g + (10 * 0 + 3) = g + 1 + 2 by omega, q2, f_X7_ask_L30]
      rw [l202, if_pos (nI_le (by omega) (by omega))]
  | succ k ih =>
    intro w f g a b c M N hw hf hB hF
    obtain ⟨f', rfl⟩ : ∃ f', f = f' + 1 := ⟨f - 1, by omega⟩
    obtain ⟨a', b', c', M1, N1, q1, q2, q3, q4⟩ := ask_in gz (w := w) (by omega) 2 0 FU (g + (10 * k + 3) + 8) a b c M N (by omega) (FU_gt (by omega)) hB hF
    obtain ⟨a2, M2, N2, r1, r2, r3⟩ := ih (w + 1) f' g a' b' c' M1 N1 (by omega) (by omega) q3 q4
    refine ⟨a2, M2, N2, ?_, ?_, r3⟩
    · rw [← r1, f_X6_ask_L41]
      rw [l20, if_neg (nI_nlt (by omega) (by omega)), l0, q1, ob3_e, lq_e, nI_1]
    · have q2 : f_X7_ask_L30 (nI m) (g + (10 * k + 3) + 8 + 2) a c (nI (10 * w)) N = f_X7_ask_L30 (nI m) (g + (10 * k + 3) + 8) a' c' (nI (10 * w + 2)) N1 := q2
      rw [← r2, show g + (10 * (k + 1) + 3) = g + (10 * k + 3) + 8 + 2 by omega, q2, ask_skip gz 8 (10 * w + 2) (g + (10 * k + 3)) (fun t h1 h2 => by omega), show 10 * w + 2 + 8 = 10 * (w + 1) by omega]
theorem op28 : opP28 Rel := by
  intro a1 M N hR
  unfold f_X6_ask f_X7_ask
  obtain ⟨⟨n, hn, e1, e2, hS, hQ, hD, hTt, hU⟩, hO⟩ := id hR
  obtain ⟨z1, ez1, hz1⟩ := y_lb a1 hn e2
  rw [ez1, ob_e]
  by_cases g1 : oI a1 0 ((n : Int) - 1)
  · rw [if_pos ((o_lb a1 hn e1).mpr g1), if_neg (fun q => (hz1.mp q) g1)]
    obtain ⟨l, hl, rfl⟩ := nI_oI g1 (by omega)
    have hW := hO.1 1 (Or.inl rfl)
    obtain ⟨m, hm, _, f1, f2⟩ := maskM hn hl hS hW.2.2.2.2.1 hTt.2.2.1 hTt.2.2.2
    rw [f1, f2, ob_e, ob_e]
    by_cases g2 : m = 0
    · subst g2
      rw [if_pos (show nI 0 = (0 : Int32) from rfl), show f_X7_ask_L30 (nI 0) FU ((-1001) : Int32) (99 : Int32) (0 : Int32) N = some (-1001, N) from by
        show f_X7_ask_L30 (nI 0) (3999 + 1) ((-1001) : Int32) (99 : Int32) (0 : Int32) N = some (-1001, N)
        rw [f_X7_ask_L30]
        rw [if_neg (show ¬ (202 : Int32) ≤ 0 by decide), if_pos (show nI 0 = (0 : Int32) from rfl)], ob2_e]
      exact ⟨_, _, _, rfl, rfl, hR⟩
    · have gz : ¬ nI m = (0 : Int32) := fun q => g2 (by have := (nI_eq (a := m) (b := 0) (by omega) (by decide)).mp q; omega)
      rw [if_neg gz]
      obtain ⟨a', M', N', q1, q2, q3⟩ := ask_out gz 20 0 FU 3797 (-1001) 7 99 M N (by omega) (FU_gt (by omega)) (Or.inl ⟨rfl, rfl⟩) ⟨rfl, fun _ _ _ => rfl, rfl, fun _ _ _ => rfl⟩
      rw [show f_X6_ask_L41 (nI m) FU ((-1001) : Int32) (7 : Int32) (0 : Int32) M = some (a', M') from q1, show f_X7_ask_L30 (nI m) FU ((-1001) : Int32) (99 : Int32) (0 : Int32) N = some (a', N') from q2, ob2_e, ob2_e]
      exact ⟨_, _, _, rfl, rfl, Fr.rel q3 hR⟩
  · rw [if_neg (fun q => g1 ((o_lb a1 hn e1).mp q)), if_pos (hz1.mpr g1)]
    exact ⟨_, _, _, rfl, rfl, hR.bad⟩
