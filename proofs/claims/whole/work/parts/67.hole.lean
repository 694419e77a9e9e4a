/-! sums that stay small -/
theorem a_I {x y : Int32} (h1 : -2147483648 ≤ x.toInt + y.toInt) (h2 : x.toInt + y.toInt < 2147483648) : (x + y).toInt = x.toInt + y.toInt := by
  rw [Int32.toInt_add]
  exact Int.bmod_eq_of_le (by omega) (by omega)
theorem s_I {x y : Int32} (h1 : -2147483648 ≤ x.toInt - y.toInt) (h2 : x.toInt - y.toInt < 2147483648) : (x - y).toInt = x.toInt - y.toInt := by
  rw [Int32.toInt_sub]
  exact Int.bmod_eq_of_le (by omega) (by omega)
theorem tm_b : ∀ t, t < 9 → ∀ h, h < 9 → oI ((nI t - 4) * (nI h - 4)) (-16) 16 := by decide +kernel
theorem w3_b : ∀ w, w < 10 → oI (nI w / (3 : Int32)) 0 3 := by decide +kernel
theorem z10_b : ∀ z, z < 100 → oI (nI z / (10 : Int32)) 0 9 := by decide +kernel
theorem l2_b : ∀ l, l < 21 → oI ((2 : Int32) * nI l) 0 40 := by decide +kernel
theorem x2_b : ∀ x, x < 10 → oI (nI x / (2 : Int32)) 0 9 := by decide +kernel
theorem oI_a {x y : Int32} {a b c d : Int} (h1 : oI x a b) (h2 : oI y c d) (k1 : -1000000 ≤ a + c) (k2 : b + d ≤ 1000000) : oI (x + y) (a + c) (b + d) := by
  have h1' := h1
  have h2' := h2
  unfold oI at h1' h2' ⊢
  rw [a_I (by omega) (by omega)]
  omega
theorem oI_s {x y : Int32} {a b c d : Int} (h1 : oI x a b) (h2 : oI y c d) (k1 : -1000000 ≤ a - d) (k2 : b - c ≤ 1000000) : oI (x - y) (a - d) (b - c) := by
  have h1' := h1
  have h2' := h2
  unfold oI at h1' h2' ⊢
  rw [s_I (by omega) (by omega)]
  omega
theorem oI_w {x : Int32} {a b c d : Int} (h : oI x a b) (h1 : c ≤ a) (h2 : b ≤ d) : oI x c d := ⟨by have := h.1; omega, by have := h.2; omega⟩
theorem drops_b {k l w z : Nat} (hk : k ≤ 5) (hl : l ≤ 20) (hl1 : 1 ≤ l) (hw : w ≤ 9) (hz : z ≤ 99) : oI (f_X7_drops (nI k) (nI l) (nI w) (nI z)) 0 40 := by
  have bl : oI (nI l) 1 20 := (oI_nI (by omega)).mpr (by omega)
  have bw : oI (nI w) 0 9 := (oI_nI (by omega)).mpr (by omega)
  have b3 := w3_b w (by omega)
  have b10 := z10_b z (by omega)
  have b2 := l2_b l (by omega)
  have b1 : oI (1 : Int32) 1 1 := by decide
  unfold f_X7_drops
  rcases six hk with rfl | rfl | rfl | rfl | rfl | rfl
  · rw [if_pos (by decide)]; exact oI_w bl (by omega) (by omega)
  · rw [if_neg (by decide), if_pos (by decide)]; exact oI_w (oI_a bl b3 (by omega) (by omega)) (by omega) (by omega)
  · rw [if_neg (by decide), if_neg (by decide), if_pos (by decide)]; exact oI_w (oI_a bl bw (by omega) (by omega)) (by omega) (by omega)
  · rw [if_neg (by decide), if_neg (by decide), if_neg (by decide), if_pos (by decide)]
    split
    · exact oI_w (oI_s bl b1 (by omega) (by omega)) (by omega) (by omega)
    · exact oI_w bl (by omega) (by omega)
  · rw [if_neg (by decide), if_neg (by decide), if_neg (by decide), if_neg (by decide), if_pos (by decide)]; exact oI_w (oI_a (oI_a bl b3 (by omega) (by omega)) b10 (by omega) (by omega)) (by omega) (by omega)
  · rw [if_neg (by decide), if_neg (by decide), if_neg (by decide), if_neg (by decide), if_neg (by decide)]
    split
    · exact oI_w (oI_a bl bw (by omega) (by omega)) (by omega) (by omega)
    · exact oI_w b2 (by omega) (by omega)
theorem comes_b {k : Nat} {h m : Int32} (hk : k ≤ 5) (hh : oI h (-60) 60) : oI (f_X7_comesTo (nI k) h m) (-70) 70 := by
  have e0 : (0 : Int32).toInt = 0 := by decide
  have e2 : (2 : Int32).toInt = 2 := by decide
  have e9 : (9 : Int32).toInt = 9 := by decide
  have hh' := hh
  unfold oI at hh'
  have b9 : oI (if (0 : Int32) ≤ h then (if h ≤ (9 : Int32) then h else (9 : Int32)) else (0 : Int32)) 0 9 := by
    split
    · rename_i q
      rw [Int32.le_iff_toInt_le] at q
      split
      · rename_i q2
        rw [Int32.le_iff_toInt_le] at q2
        exact ⟨by omega, by omega⟩
      · exact ⟨by omega, by omega⟩
    · exact ⟨by omega, by omega⟩
  have bx : oI (if (2 : Int32) ≤ h then h else (2 : Int32)) (-60) 60 := by
    split
    · exact hh
    · exact ⟨by omega, by omega⟩
  have b1 : oI (1 : Int32) 1 1 := by decide
  have b3 : oI (3 : Int32) 3 3 := by decide
  unfold f_X7_comesTo
  rw [lq_e, lq_e]
  rcases six hk with rfl | rfl | rfl | rfl | rfl | rfl
  · rw [if_pos (show nI 0 = (0 : Int32) by decide)]; exact oI_w hh (by omega) (by omega)
  · rw [if_neg (show ¬ nI 1 = (0 : Int32) by decide), if_pos (show nI 1 = (1 : Int32) by decide)]; exact oI_w bx (by omega) (by omega)
  · rw [if_neg (show ¬ nI 2 = (0 : Int32) by decide), if_neg (show ¬ nI 2 = (1 : Int32) by decide), if_pos (show nI 2 = (2 : Int32) by decide)]; exact oI_w b9 (by omega) (by omega)
  · rw [if_neg (show ¬ nI 3 = (0 : Int32) by decide), if_neg (show ¬ nI 3 = (1 : Int32) by decide), if_neg (show ¬ nI 3 = (2 : Int32) by decide), if_pos (show nI 3 = (3 : Int32) by decide)]
    obtain ⟨x, hx, ex⟩ := nI_oI (n := 10) b9 (by decide)
    rw [ex]
    exact oI_w (x2_b x hx) (by omega) (by omega)
  · rw [if_neg (show ¬ nI 4 = (0 : Int32) by decide), if_neg (show ¬ nI 4 = (1 : Int32) by decide), if_neg (show ¬ nI 4 = (2 : Int32) by decide), if_neg (show ¬ nI 4 = (3 : Int32) by decide), if_pos (show nI 4 = (4 : Int32) by decide)]
    split
    · exact oI_w (oI_s hh b1 (by omega) (by omega)) (by omega) (by omega)
    · exact oI_w hh (by omega) (by omega)
  · rw [if_neg (show ¬ nI 5 = (0 : Int32) by decide), if_neg (show ¬ nI 5 = (1 : Int32) by decide), if_neg (show ¬ nI 5 = (2 : Int32) by decide), if_neg (show ¬ nI 5 = (3 : Int32) by decide), if_neg (show ¬ nI 5 = (4 : Int32) by decide)]
    exact oI_w (oI_a bx b3 (by omega) (by omega)) (by omega) (by omega)
theorem highIn_b {n i : Nat} {h x : Int32} {f : Fm} {N : Mem} {q : Nat} {X : Int} {g : Fm} (hn : n ≤ 7) (hi : i < n) (hS : Sta g 1 (N.1 177) n) (hQ : Pos f q (N.1 177) 1 8 7 n X) (hh : oI h 0 8) (e : f_X7_highIn (nI i) h N = some x) : oI x (-70) 70 := by
  obtain ⟨⟨b1, b2, b3, b4, b5, b6⟩, hL⟩ := hQ
  obtain ⟨L1, L2, L3, L4, L5⟩ := hL i hi
  obtain ⟨s1', s2', s3', s4', s5', s6', s7', s8'⟩ := hS i hi
  unfold f_X7_highIn at e
  rw [snapN (by omega) L5, ob_e] at e
  by_cases hc : snp (N.1 177 (8 + 7 * i + 1)) = 0
  · rw [if_pos hc] at e
    rw [show rd N 177 (1 : Int32) = some (N.1 177 1) from rd_n (k := 1) (hb177 (by decide)) (by decide), ob_e, show rd N 177 (2 : Int32) = some (N.1 177 2) from rd_n (k := 2) (hb177 (by decide)) (by decide), ob_e, lq_e, show f_X7_limbOf (nI i) (0 : Int32) N = some (N.1 177 (4 + 7 * i)) from limbOf_n (w := 0) (by omega), ob_e, show f_X7_limbOf (nI i) (1 : Int32) N = some (N.1 177 (4 + 7 * i + 1)) from limbOf_n (w := 1) (by omega), ob_e, show f_X7_limbOf (nI i) (3 : Int32) N = some (N.1 177 (4 + 7 * i + 3)) from limbOf_n (w := 3) (by omega), ob_e, show f_X7_limbOf (nI i) (2 : Int32) N = some (N.1 177 (4 + 7 * i + 2)) from limbOf_n (w := 2) (by omega), ob_e, show f_X7_limbOf (nI i) (5 : Int32) N = some (N.1 177 (4 + 7 * i + 5)) from limbOf_n (w := 5) (by omega), ob_e, show rd N 177 (3 : Int32) = some (N.1 177 3) from rd_n (k := 3) (hb177 (by decide)) (by decide), ob_e] at e
    obtain ⟨k1, hk1, ek1⟩ := nI_oI (n := 6) s5' (by decide)
    obtain ⟨k2, hk2, ek2⟩ := nI_oI (n := 6) s6' (by decide)
    obtain ⟨g3, hg3, eg3⟩ := nI_oI (n := 10) (oI_w s7' (c := 0) (d := 9) (by omega) (by omega)) (by decide)
    obtain ⟨g4, hg4, eg4⟩ := nI_oI (n := 21) (oI_w s8' (c := 0) (d := 20) (by omega) (by omega)) (by decide)
    obtain ⟨w, hw, ew⟩ := nI_oI (n := 100) L4 (by decide)
    obtain ⟨t, ht, et⟩ := oI_m4 b5
    obtain ⟨z, hz, ez⟩ := nI_oI (n := 9) hh (by decide)
    have et' : N.1 177 2 = nI t - 4 := et
    have g41 : 1 ≤ g4 := by
      have := s8'.1
      rw [eg4, nI_I (by omega)] at this
      omega
    rw [show 4 + 7 * i + 5 = 8 + 7 * i + 1 by omega, ek1, ek2, eg3, eg4, ew, et', ez] at e
    rw [← Option.some.inj e]
    exact comes_b (by omega) (oI_w (oI_s (oI_a b4 (tm_b t ht z hz) (by omega) (by omega)) (drops_b (by omega) (by omega) g41 (by omega) (by omega)) (by omega) (by omega)) (by omega) (by omega))
  · rw [if_neg hc] at e
    rw [← Option.some.inj e]
    decide
theorem off_e {x a : Int32} (hx : oI x (-70) 70) (ha : oI a (-40) 60) : (if 0 ≤ (x - a) then (x - a) else 0 - (x - a)) = f_X7_off x a := by
  have hx' := hx
  have ha' := ha
  unfold oI at hx' ha'
  unfold f_X7_off
  have e := s_I (x := x) (y := a) (by omega) (by omega)
  have e0 : (0 : Int32).toInt = 0 := by decide
  by_cases h : a ≤ x
  · rw [if_pos h, if_pos]
    rw [Int32.le_iff_toInt_le] at h ⊢
    omega
  · rw [if_neg h, if_neg]
    · have e3 := s_I (x := 0) (y := x - a) (by omega) (by omega)
      have e4 := s_I (x := a) (y := x) (by omega) (by omega)
      rw [← Int32.toInt_inj, e3, e4]
      omega
    · intro q
      rw [Int32.le_iff_toInt_le] at h q
      omega
theorem far_rel {M N : Mem} {n i h : Nat} {a : Int32} (hn : n ≤ 7) (hi : i < n) (hh : h ≤ 8) (ha : oI a (-40) 60) (hS : Sta M.1 1 (N.1 177) n) (hQ : Pos M.1 (1 + 5) (N.1 177) 1 8 7 n 9999) : ∃ x, f_X6_farFrom (nI i) a (nI h) M = some (f_X7_off x a) ∧ f_X7_highIn (nI i) (nI h) N = some x := by
  obtain ⟨x, k1, k2⟩ := highFrom_rel (q := 6) (h := nI h) (Or.inl rfl) hn hi hS hQ
  have hb := highIn_b hn hi hS hQ ((oI_nI (by omega)).mpr (by omega)) k2
  have k1 : f_X2_highFrom 1 (nI i) (f_X6_holeAt (M.1 (1 + 5) 0) (M.1 (1 + 5) 1) (nI h)) (M.1 (1 + 5 + 2) i) (M.1 (1 + 5) 2) M = some x := k1
  refine ⟨x, ?_, k2⟩
  unfold f_X6_farFrom f_X2_wornOf
  rw [lq_e, cell_n (show i < ln (1 + 5 + 2) from by show i < 7; omega) (by decide), ob_e, ob_e, k1, ob_e, off_e hb ha]
theorem op14 : opP14 Rel := by
  intro a1 a2 a3 M N hR
  unfold f_X6_hole f_X7_hole
  obtain ⟨⟨n, hn, e1, e2, hS, hQ, hD, hT, hU⟩, hO⟩ := id hR
  obtain ⟨x, ex, hx⟩ := y_lb (N := N) a1 hn e2
  rw [ex, ob_e]
  by_cases g1 : oI a1 0 ((n : Int) - 1)
  · rw [if_pos ((o_lb a1 hn e1).mpr g1), if_neg (fun q => hx.mp q g1)]
    by_cases g2 : oI a2 (-40) 60
    · rw [if_pos ((o_hi a2).mpr g2), if_neg (fun q => (y_m40_60 a2).mp q g2)]
      by_cases g3 : oI a3 0 1
      · rw [if_pos ((o_0_1 a3).mpr g3), if_neg (fun q => (y_0_1 a3).mp q g3)]
        obtain ⟨i, hi, rfl⟩ := nI_oI g1 (by omega)
        obtain ⟨x0, f1, f2⟩ := far_rel hn hi (show 0 ≤ 8 by omega) g2 hS hQ
        obtain ⟨⟨r1, r2⟩, s, k1, k2, h, y, h1, h2, h3, h4, h5⟩ : ∃ r s, f_X6_hole_L47 (nI i) a2 M FU (nI 0) (f_X7_off x0 a2) (nI 1) = some r ∧ f_X7_hole_L43 (nI i) a2 N FU (nI 0) (nI 1) = some s ∧ (∃ (h : Nat) (y : Int32), h ≤ 8 ∧ r.1 = nI h ∧ s = nI h ∧ r.2 = f_X7_off y a2 ∧ f_X7_highIn (nI i) (nI h) N = some y) := by
          refine loop2 (fun k j (x : Int32 × Int32) => f_X6_hole_L47 (nI i) a2 M k x.1 x.2 (nI j)) (fun k j x => f_X7_hole_L43 (nI i) a2 N k x (nI j)) 9 (fun j x y => ∃ (h : Nat) (v : Int32), h ≤ 8 ∧ x.1 = nI h ∧ y = nI h ∧ x.2 = f_X7_off v a2 ∧ f_X7_highIn (nI i) (nI h) N = some v) _ ?_ ?_ 8 1 FU FU (nI 0, f_X7_off x0 a2) (nI 0) (by omega) (FU_gt (by omega)) (FU_gt (by omega)) ⟨0, x0, by omega, rfl, rfl, rfl, f2⟩
          · intro k m x y hP
            refine ⟨x, y, ?_, ?_, hP⟩
            · show f_X6_hole_L47 (nI i) a2 M (k + 1) x.1 x.2 (nI 9) = _
              rw [f_X6_hole_L47]
              rw [l8, if_pos (nI_lt (by decide) (by decide))]
            · show f_X7_hole_L43 (nI i) a2 N (m + 1) y (nI 9) = _
              rw [f_X7_hole_L43]
              rw [show (9 : Int32) = nI 9 from rfl, if_pos (nI_le (Nat.le_refl _) (by decide))]
          · rintro k m j ⟨u1, u2⟩ w hj ⟨h, v, p1, p2, p3, p4, p5⟩
            have p2 : u1 = nI h := p2
            have p4 : u2 = f_X7_off v a2 := p4
            subst p2
            subst p3
            subst p4
            obtain ⟨z, q1, q2⟩ := far_rel hn hi (show j ≤ 8 by omega) g2 hS hQ
            have eM : f_X6_hole_L47 (nI i) a2 M (k + 1) (nI h) (f_X7_off v a2) (nI j) = if f_X7_off v a2 ≤ f_X7_off z a2 then f_X6_hole_L47 (nI i) a2 M k (nI h) (f_X7_off v a2) (nI (j + 1)) else f_X6_hole_L47 (nI i) a2 M k (nI j) (f_X7_off z a2) (nI (j + 1)) := by
              rw [f_X6_hole_L47]
              rw [l8, if_neg (nI_nlt (by omega) (by decide)), q1, ob_e]
              by_cases c : f_X7_off v a2 ≤ f_X7_off z a2
              · rw [if_pos c, if_pos c, ob2_e, lq_e, nI_1]
              · rw [if_neg c, if_neg c, ob2_e, lq_e, nI_1]
            have eN : f_X7_hole_L43 (nI i) a2 N (m + 1) (nI h) (nI j) = if f_X7_off v a2 ≤ f_X7_off z a2 then f_X7_hole_L43 (nI i) a2 N m (nI h) (nI (j + 1)) else f_X7_hole_L43 (nI i) a2 N m (nI j) (nI (j + 1)) := by
              rw [f_X7_hole_L43]
              rw [show (9 : Int32) = nI 9 from rfl, if_neg (nI_ge (by omega) (by decide)), q2, ob_e, p5, ob_e, lq_e, lq_e, nI_1]
              by_cases c : f_X7_off v a2 ≤ f_X7_off z a2
              · rw [if_pos c, if_pos c]
              · rw [if_neg c, if_neg c]
            by_cases c : f_X7_off v a2 ≤ f_X7_off z a2
            · rw [if_pos c] at eM eN
              exact Or.inl ⟨(nI h, f_X7_off v a2), nI h, eM, eN, h, v, p1, rfl, rfl, rfl, p5⟩
            · rw [if_neg c] at eM eN
              exact Or.inl ⟨(nI j, f_X7_off z a2), nI j, eM, eN, j, z, by omega, rfl, rfl, rfl, q2⟩
        have h2 : r1 = nI h := h2
        have h4 : r2 = f_X7_off y a2 := h4
        subst h2
        subst h3
        subst h4
        rw [l0, f1, ob_e, l1, k1, k2, ob2_e, ob_e]
        by_cases c : a3 = nI 0
        · rw [if_pos c, if_pos c]
          exact ⟨_, _, _, rfl, rfl, hR⟩
        · rw [if_neg c, if_neg c, h5, ob_e]
          exact ⟨_, _, _, rfl, rfl, hR⟩
      · rw [if_neg (fun q => g3 ((o_0_1 a3).mp q)), if_pos ((y_0_1 a3).mpr g3), rBad, yBad, ob2_e, ob2_e]
        exact ⟨_, _, _, rfl, rfl, hR.bad⟩
    · rw [if_neg (fun q => g2 ((o_hi a2).mp q)), if_pos ((y_m40_60 a2).mpr g2), rBad, yBad, ob2_e, ob2_e]
      exact ⟨_, _, _, rfl, rfl, hR.bad⟩
  · rw [if_neg (fun q => g1 ((o_lb a1 hn e1).mp q)), if_pos (hx.mpr g1), rBad, yBad, ob2_e, ob2_e]
    exact ⟨_, _, _, rfl, rfl, hR.bad⟩
