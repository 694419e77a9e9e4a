theorem wornT_rel {n : Nat} {M N : Mem} (hn : n ≤ 7) (e1 : M.1 1 4 = nI n) (e2 : N.1 177 0 = nI n) (hL : Lim M.1 (1 + 5) (N.1 177) 8 7 n) : ∃ x, f_X2_wornTogether 1 M = some x ∧ f_X7_counted_L4 N FU (0 : Int32) (0 : Int32) = some x := by
  obtain ⟨r, s, k1, k2, k3⟩ : ∃ r s, f_X2_wornTogether_L4 1 M FU (nI 0) (nI 0) = some r ∧ f_X7_counted_L4 N FU (nI 0) (nI 0) = some s ∧ r = s := by
    refine loop2 (fun k i x => f_X2_wornTogether_L4 1 M k x (nI i)) (fun k i x => f_X7_counted_L4 N k x (nI i)) n (fun _ x y => x = y) (fun r s => r = s) ?_ ?_ n 0 FU FU (nI 0) (nI 0) (by omega) (FU_gt (by omega)) (FU_gt (by omega)) rfl
    · intro k m x y h
      refine ⟨x, y, ?_, ?_, h⟩
      · show f_X2_wornTogether_L4 1 M (k + 1) x (nI n) = _
        rw [f_X2_wornTogether_L4]
        rw [e1, if_pos (nI_le (Nat.le_refl _) (by omega))]
      · show f_X7_counted_L4 N (m + 1) y (nI n) = _
        rw [f_X7_counted_L4]
        rw [l0, rd_n (hb177 (by decide)) (by decide), ob_e, e2, if_pos (nI_le (Nat.le_refl _) (by omega))]
    · intro k m i x y hi h
      subst h
      obtain ⟨L1, L2, L3, L4, L5⟩ := hL i hi
      refine Or.inl ⟨x + N.1 177 (8 + 7 * i + 1), x + N.1 177 (8 + 7 * i + 1), ?_, ?_, rfl⟩
      · show f_X2_wornTogether_L4 1 M (k + 1) x (nI i) = f_X2_wornTogether_L4 1 M k _ (nI (i + 1))
        rw [f_X2_wornTogether_L4]
        unfold f_X2_wornOf
        rw [e1, if_neg (nI_ge hi (by omega)), cell_n (show i < ln (1 + 5 + 2) from by show i < 7; omega) (by decide), ob_e, ob_e, lq_e, lq_e, nI_1, L2]
      · show f_X7_counted_L4 N (m + 1) x (nI i) = f_X7_counted_L4 N m _ (nI (i + 1))
        rw [f_X7_counted_L4]
        rw [l0, rd_n (hb177 (by decide)) (by decide), ob_e, e2, if_neg (nI_ge hi (by omega)), l5, limbOf_n (by omega), ob_e, lq_e, lq_e, nI_1, show 4 + 7 * i + 5 = 8 + 7 * i + 1 by omega]
  subst k3
  unfold f_X2_wornTogether
  refine ⟨r, ?_, k2⟩
  rw [l0, k1, ob_e]
theorem eleven {k : Nat} (h : k < 11) : k = 0 ∨ k = 1 ∨ k = 2 ∨ k = 3 ∨ k = 4 ∨ k = 5 ∨ k = 6 ∨ k = 7 ∨ k = 8 ∨ k = 9 ∨ k = 10 := by omega
theorem counted_rel {M N : Mem} {k : Nat} (hR : Rel M N) (hk : k < 11) : ∃ x, f_X6_counted (nI k) M = some x ∧ f_X7_counted (nI k) N = some x := by
  obtain ⟨⟨n, hn, e1, e2, hS, hQ, hD, ⟨⟨a, _, t1, t2, _⟩, ⟨b, _, t3, t4, _⟩, ⟨c, _, t5, t6, _⟩, _⟩, ⟨u, _, _, _, u1, u2, _⟩⟩, _, _, _, ⟨t, _, x1, x2, _⟩, _⟩ := hR
  obtain ⟨w, w1, w2⟩ := wornT_rel hn e1 e2 hQ.2
  obtain ⟨s, v1, v2⟩ := snapped_rel (q := 6) (Or.inl rfl) hn e1 e2 hQ.2
  have v1 : f_X2_snappedIn 1 (1 + 5) M = some s := v1
  obtain ⟨b1, b2, b3, _⟩ := hQ.1
  unfold f_X6_counted f_X7_counted
  rw [w2, ob_e]
  rcases eleven hk with rfl | rfl | rfl | rfl | rfl | rfl | rfl | rfl | rfl | rfl | rfl
  · rw [if_pos (show nI 0 = (0 : Int32) by decide), if_pos (show nI 0 = (0 : Int32) by decide), e1, l0, rd_n (hb177 (by decide)) (by decide), ob_e, e2]
    exact ⟨_, rfl, rfl⟩
  · rw [if_neg (show ¬ nI 1 = (0 : Int32) by decide), if_pos (show nI 1 = (1 : Int32) by decide), if_neg (show ¬ nI 1 = (0 : Int32) by decide), if_pos (show nI 1 = (1 : Int32) by decide), v1, v2, ob_e]
    exact ⟨_, rfl, rfl⟩
  · rw [if_neg (show ¬ nI 2 = (0 : Int32) by decide), if_neg (show ¬ nI 2 = (1 : Int32) by decide), if_pos (show nI 2 = (2 : Int32) by decide), if_neg (show ¬ nI 2 = (0 : Int32) by decide), if_neg (show ¬ nI 2 = (1 : Int32) by decide), if_pos (show nI 2 = (2 : Int32) by decide), b1, show rd N 177 (1 : Int32) = some (N.1 177 1) from rd_n (k := 1) (hb177 (by decide)) (by decide), ob_e]
    exact ⟨_, rfl, rfl⟩
  · rw [if_neg (show ¬ nI 3 = (0 : Int32) by decide), if_neg (show ¬ nI 3 = (1 : Int32) by decide), if_neg (show ¬ nI 3 = (2 : Int32) by decide), if_pos (show nI 3 = (3 : Int32) by decide), if_neg (show ¬ nI 3 = (0 : Int32) by decide), if_neg (show ¬ nI 3 = (1 : Int32) by decide), if_neg (show ¬ nI 3 = (2 : Int32) by decide), if_pos (show nI 3 = (3 : Int32) by decide), b2, show rd N 177 (2 : Int32) = some (N.1 177 (1 + 1)) from rd_n (k := 2) (hb177 (by decide)) (by decide), ob_e]
    exact ⟨_, rfl, rfl⟩
  · rw [if_neg (show ¬ nI 4 = (0 : Int32) by decide), if_neg (show ¬ nI 4 = (1 : Int32) by decide), if_neg (show ¬ nI 4 = (2 : Int32) by decide), if_neg (show ¬ nI 4 = (3 : Int32) by decide), if_pos (show nI 4 = (4 : Int32) by decide), if_neg (show ¬ nI 4 = (0 : Int32) by decide), if_neg (show ¬ nI 4 = (1 : Int32) by decide), if_neg (show ¬ nI 4 = (2 : Int32) by decide), if_neg (show ¬ nI 4 = (3 : Int32) by decide), if_pos (show nI 4 = (4 : Int32) by decide), b3, show rd N 177 (3 : Int32) = some (N.1 177 (1 + 2)) from rd_n (k := 3) (hb177 (by decide)) (by decide), ob_e]
    exact ⟨_, rfl, rfl⟩
  · rw [if_neg (show ¬ nI 5 = (0 : Int32) by decide), if_neg (show ¬ nI 5 = (1 : Int32) by decide), if_neg (show ¬ nI 5 = (2 : Int32) by decide), if_neg (show ¬ nI 5 = (3 : Int32) by decide), if_neg (show ¬ nI 5 = (4 : Int32) by decide), if_pos (show nI 5 = (5 : Int32) by decide), if_neg (show ¬ nI 5 = (0 : Int32) by decide), if_neg (show ¬ nI 5 = (1 : Int32) by decide), if_neg (show ¬ nI 5 = (2 : Int32) by decide), if_neg (show ¬ nI 5 = (3 : Int32) by decide), if_neg (show ¬ nI 5 = (4 : Int32) by decide), if_pos (show nI 5 = (5 : Int32) by decide), w1, ob_e]
    exact ⟨_, rfl, rfl⟩
  · rw [if_neg (show ¬ nI 6 = (0 : Int32) by decide), if_neg (show ¬ nI 6 = (1 : Int32) by decide), if_neg (show ¬ nI 6 = (2 : Int32) by decide), if_neg (show ¬ nI 6 = (3 : Int32) by decide), if_neg (show ¬ nI 6 = (4 : Int32) by decide), if_neg (show ¬ nI 6 = (5 : Int32) by decide), if_pos (show nI 6 = (6 : Int32) by decide), if_neg (show ¬ nI 6 = (0 : Int32) by decide), if_neg (show ¬ nI 6 = (1 : Int32) by decide), if_neg (show ¬ nI 6 = (2 : Int32) by decide), if_neg (show ¬ nI 6 = (3 : Int32) by decide), if_neg (show ¬ nI 6 = (4 : Int32) by decide), if_neg (show ¬ nI 6 = (5 : Int32) by decide), if_pos (show nI 6 = (6 : Int32) by decide), t1, l70, rd_n (hb177 (by decide)) (by decide), ob_e, t2]
    exact ⟨_, rfl, rfl⟩
  · rw [if_neg (show ¬ nI 7 = (0 : Int32) by decide), if_neg (show ¬ nI 7 = (1 : Int32) by decide), if_neg (show ¬ nI 7 = (2 : Int32) by decide), if_neg (show ¬ nI 7 = (3 : Int32) by decide), if_neg (show ¬ nI 7 = (4 : Int32) by decide), if_neg (show ¬ nI 7 = (5 : Int32) by decide), if_neg (show ¬ nI 7 = (6 : Int32) by decide), if_pos (show nI 7 = (7 : Int32) by decide), if_neg (show ¬ nI 7 = (0 : Int32) by decide), if_neg (show ¬ nI 7 = (1 : Int32) by decide), if_neg (show ¬ nI 7 = (2 : Int32) by decide), if_neg (show ¬ nI 7 = (3 : Int32) by decide), if_neg (show ¬ nI 7 = (4 : Int32) by decide), if_neg (show ¬ nI 7 = (5 : Int32) by decide), if_neg (show ¬ nI 7 = (6 : Int32) by decide), if_pos (show nI 7 = (7 : Int32) by decide), t3, l91, rd_n (hb177 (by decide)) (by decide), ob_e, t4]
    exact ⟨_, rfl, rfl⟩
  · rw [if_neg (show ¬ nI 8 = (0 : Int32) by decide), if_neg (show ¬ nI 8 = (1 : Int32) by decide), if_neg (show ¬ nI 8 = (2 : Int32) by decide), if_neg (show ¬ nI 8 = (3 : Int32) by decide), if_neg (show ¬ nI 8 = (4 : Int32) by decide), if_neg (show ¬ nI 8 = (5 : Int32) by decide), if_neg (show ¬ nI 8 = (6 : Int32) by decide), if_neg (show ¬ nI 8 = (7 : Int32) by decide), if_pos (show nI 8 = (8 : Int32) by decide), if_neg (show ¬ nI 8 = (0 : Int32) by decide), if_neg (show ¬ nI 8 = (1 : Int32) by decide), if_neg (show ¬ nI 8 = (2 : Int32) by decide), if_neg (show ¬ nI 8 = (3 : Int32) by decide), if_neg (show ¬ nI 8 = (4 : Int32) by decide), if_neg (show ¬ nI 8 = (5 : Int32) by decide), if_neg (show ¬ nI 8 = (6 : Int32) by decide), if_neg (show ¬ nI 8 = (7 : Int32) by decide), if_pos (show nI 8 = (8 : Int32) by decide), t5, l122, rd_n (hb177 (by decide)) (by decide), ob_e, t6]
    exact ⟨_, rfl, rfl⟩
  · rw [if_neg (show ¬ nI 9 = (0 : Int32) by decide), if_neg (show ¬ nI 9 = (1 : Int32) by decide), if_neg (show ¬ nI 9 = (2 : Int32) by decide), if_neg (show ¬ nI 9 = (3 : Int32) by decide), if_neg (show ¬ nI 9 = (4 : Int32) by decide), if_neg (show ¬ nI 9 = (5 : Int32) by decide), if_neg (show ¬ nI 9 = (6 : Int32) by decide), if_neg (show ¬ nI 9 = (7 : Int32) by decide), if_neg (show ¬ nI 9 = (8 : Int32) by decide), if_pos (show nI 9 = (9 : Int32) by decide), if_neg (show ¬ nI 9 = (0 : Int32) by decide), if_neg (show ¬ nI 9 = (1 : Int32) by decide), if_neg (show ¬ nI 9 = (2 : Int32) by decide), if_neg (show ¬ nI 9 = (3 : Int32) by decide), if_neg (show ¬ nI 9 = (4 : Int32) by decide), if_neg (show ¬ nI 9 = (5 : Int32) by decide), if_neg (show ¬ nI 9 = (6 : Int32) by decide), if_neg (show ¬ nI 9 = (7 : Int32) by decide), if_neg (show ¬ nI 9 = (8 : Int32) by decide), if_pos (show nI 9 = (9 : Int32) by decide), u1, l147, rd_n (hb177 (by decide)) (by decide), ob_e, u2]
    exact ⟨_, rfl, rfl⟩
  · rw [if_neg (show ¬ nI 10 = (0 : Int32) by decide), if_neg (show ¬ nI 10 = (1 : Int32) by decide), if_neg (show ¬ nI 10 = (2 : Int32) by decide), if_neg (show ¬ nI 10 = (3 : Int32) by decide), if_neg (show ¬ nI 10 = (4 : Int32) by decide), if_neg (show ¬ nI 10 = (5 : Int32) by decide), if_neg (show ¬ nI 10 = (6 : Int32) by decide), if_neg (show ¬ nI 10 = (7 : Int32) by decide), if_neg (show ¬ nI 10 = (8 : Int32) by decide), if_neg (show ¬ nI 10 = (9 : Int32) by decide), if_neg (show ¬ nI 10 = (0 : Int32) by decide), if_neg (show ¬ nI 10 = (1 : Int32) by decide), if_neg (show ¬ nI 10 = (2 : Int32) by decide), if_neg (show ¬ nI 10 = (3 : Int32) by decide), if_neg (show ¬ nI 10 = (4 : Int32) by decide), if_neg (show ¬ nI 10 = (5 : Int32) by decide), if_neg (show ¬ nI 10 = (6 : Int32) by decide), if_neg (show ¬ nI 10 = (7 : Int32) by decide), if_neg (show ¬ nI 10 = (8 : Int32) by decide), if_neg (show ¬ nI 10 = (9 : Int32) by decide), x1, x2]
    exact ⟨_, rfl, rfl⟩
theorem op36 : opP36 Rel := by
  intro a1 M N hR
  unfold f_X6_count f_X7_count
  by_cases g1 : oI a1 0 10
  · rw [if_pos ((o_0_10 a1).mpr g1), if_neg (fun q => (y_0_10 a1).mp q g1)]
    obtain ⟨k, hk, rfl⟩ := nI_oI (n := 11) g1 (by decide)
    obtain ⟨x, h1, h2⟩ := counted_rel hR hk
    rw [h1, h2, ob_e, ob_e]
    exact ⟨_, _, _, rfl, rfl, hR⟩
  · rw [if_neg (fun q => g1 ((o_0_10 a1).mp q)), if_pos ((y_0_10 a1).mpr g1), rBad, yBad, ob2_e, ob2_e]
    exact ⟨_, _, _, rfl, rfl, hR.bad⟩
