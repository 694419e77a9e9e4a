theorem tell_rel {M N : Mem} {n i j : Nat} (hn : n ≤ 7) (hi : i < n) (hj : j < 7) (hS : Sta M.1 1 (N.1 177) n) (hQ : Pos M.1 (1 + 5) (N.1 177) 1 8 7 n 9999) : f_X2_tellOf 1 (nI i) (nI j) M = some (N.1 177 (4 + 7 * i + j)) := by
  obtain ⟨L1, L2, L3, L4, L5⟩ := hQ.2 i hi
  obtain ⟨s1', s2', s3', s4', s5', s6', s7', s8'⟩ := hS i hi
  unfold f_X2_tellOf
  rcases (show j = 0 ∨ j = 1 ∨ j = 2 ∨ j = 3 ∨ j = 4 ∨ j = 5 ∨ j = 6 by omega) with rfl | rfl | rfl | rfl | rfl | rfl | rfl
  · rw [if_pos (by decide), cell_n (show i < ln (1 + 1) from by show i < 7; omega) (by decide), ob_e, s1']; rfl
  · rw [if_neg (by decide), if_pos (by decide), cell_n (show i < ln (1 + 2) from by show i < 7; omega) (by decide), ob_e, s2']
  · unfold f_X2_weightOf
    rw [if_neg (by decide), if_neg (by decide), if_pos (by decide), cell_n (show i < ln (1 + 3) from by show i < 7; omega) (by decide), ob_e, ob_e, s3']
  · rw [if_neg (by decide), if_neg (by decide), if_neg (by decide), if_pos (by decide), cell_n (show i < ln (1 + 4) from by show i < 7; omega) (by decide), ob_e, s4']
  · unfold f_X2_holeOf
    rw [if_neg (by decide), if_neg (by decide), if_neg (by decide), if_neg (by decide), if_pos (by decide), cell_n (show i < ln (1 + 5 + 1) from by show i < 7; omega) (by decide), ob_e, ob_e, L1, show 4 + 7 * i + 4 = 8 + 7 * i by omega]
  · unfold f_X2_wornOf
    rw [if_neg (by decide), if_neg (by decide), if_neg (by decide), if_neg (by decide), if_neg (by decide), if_pos (by decide), cell_n (show i < ln (1 + 5 + 2) from by show i < 7; omega) (by decide), ob_e, ob_e, L2, show 4 + 7 * i + 5 = 8 + 7 * i + 1 by omega]
  · unfold f_X2_wornOf
    rw [if_neg (by decide), if_neg (by decide), if_neg (by decide), if_neg (by decide), if_neg (by decide), if_neg (by decide), if_pos (by decide), cell_n (show i < ln (1 + 5 + 2) from by show i < 7; omega) (by decide), ob_e, ob_e, snapM, L2, show 4 + 7 * i + 6 = 8 + 7 * i + 2 by omega, L5]
    unfold snp
    by_cases c : 99 ≤ (N.1 177 (8 + 7 * i + 1)).toInt
    · rw [if_pos c]; rfl
    · rw [if_neg c]; rfl
theorem dig6 {M N : Mem} (hR : Rel M N) (v : Int64) : ∃ r s, f_X6_digest_L6 M FU v (nI 0) = some r ∧ f_X7_digest_L6 N FU v (nI 0) = some s ∧ r = s := by
  refine loop2 (fun k i x => f_X6_digest_L6 M k x (nI i)) (fun k i x => f_X7_digest_L6 N k x (nI i)) 11 (fun _ x y => x = y) (fun r s => r = s) ?_ ?_ 11 0 FU FU v v (by omega) (FU_gt (by omega)) (FU_gt (by omega)) rfl
  · intro k m x y h
    refine ⟨x, y, ?_, ?_, h⟩
    · show f_X6_digest_L6 M (k + 1) x (nI 11) = _
      rw [f_X6_digest_L6]
      rw [show (10 : Int32) = nI 10 from rfl, if_pos (nI_lt (by decide) (by decide))]
    · show f_X7_digest_L6 N (m + 1) y (nI 11) = _
      rw [f_X7_digest_L6]
      rw [show (11 : Int32) = nI 11 from rfl, if_pos (nI_le (Nat.le_refl _) (by decide))]
  · intro k m i x y hi h
    subst h
    obtain ⟨c, h1, h2⟩ := counted_rel hR hi
    refine Or.inl ⟨((31 : Int64) * x) + c.toInt64, ((31 : Int64) * x) + c.toInt64, ?_, ?_, rfl⟩
    · show f_X6_digest_L6 M (k + 1) x (nI i) = f_X6_digest_L6 M k _ (nI (i + 1))
      rw [f_X6_digest_L6]
      rw [show (10 : Int32) = nI 10 from rfl, if_neg (nI_nlt (by omega) (by decide)), h1, ob_e, lq_e, lq_e, nI_1]
    · show f_X7_digest_L6 N (m + 1) x (nI i) = f_X7_digest_L6 N m _ (nI (i + 1))
      rw [f_X7_digest_L6]
      rw [show (11 : Int32) = nI 11 from rfl, if_neg (nI_ge hi (by decide)), h2, ob_e, lq_e, lq_e, nI_1]
theorem dig47 {M N : Mem} {n i : Nat} (hn : n ≤ 7) (hi : i < n) (e2 : N.1 177 0 = nI n) (hS : Sta M.1 1 (N.1 177) n) (hQ : Pos M.1 (1 + 5) (N.1 177) 1 8 7 n 9999) : ∀ (k t f g : Nat) (v : Int64), t + k = 7 → k < f → ∃ v', f_X6_digest_L47 M (nI i) f v (nI t) = some v' ∧ f_X7_digest_L33 N (g + k) v (nI (7 * i + t)) = f_X7_digest_L33 N g v' (nI (7 * i + 7)) := by
  intro k
  induction k with
  | zero =>
    intro t f g v ht hf
    obtain ⟨f', rfl⟩ : ∃ f', f = f' + 1 := ⟨f - 1, by omega⟩
    have : t = 7 := by omega
    subst this
    refine ⟨v, ?_, rfl⟩
    rw [f_X6_digest_L47]
    rw [l6, if_pos (nI_lt (by decide) (by decide))]
  | succ k ih =>
    intro t f g v ht hf
    obtain ⟨f', rfl⟩ : ∃ f', f = f' + 1 := ⟨f - 1, by omega⟩
    obtain ⟨v', h1, h2⟩ := ih (t + 1) f' g (((31 : Int64) * v) + (N.1 177 (4 + 7 * i + t)).toInt64) (by omega) (by omega)
    refine ⟨v', ?_, ?_⟩
    · rw [f_X6_digest_L47]
      rw [l6, if_neg (nI_nlt (by omega) (by decide)), tell_rel hn hi (by omega) hS hQ, ob_e, lq_e, lq_e, nI_1]
      exact h1
    · rw [← h2, show g + (k + 1) = (g + k) + 1 by omega, f_X7_digest_L33]
      rw [l0, rd_n (hb177 (by decide)) (by decide), ob_e, e2, l7, pk_mul, if_neg (nI_ge (by omega) (by omega)), l4, nI_add, rd_n (hb177 (by omega)) (by omega), ob_e, lq_e, lq_e, nI_1, show 4 + (7 * i + t) = 4 + 7 * i + t by omega, show 7 * i + t + 1 = 7 * i + (t + 1) by omega]
theorem dig33 {M N : Mem} {n : Nat} (hn : n ≤ 7) (e1 : M.1 1 4 = nI n) (e2 : N.1 177 0 = nI n) (hS : Sta M.1 1 (N.1 177) n) (hQ : Pos M.1 (1 + 5) (N.1 177) 1 8 7 n 9999) : ∀ (k i f g : Nat) (v : Int64), i + k = n → k < f → 7 * k < g → ∃ v', f_X6_digest_L33 M f v (nI i) = some v' ∧ f_X7_digest_L33 N g v (nI (7 * i)) = some v' := by
  intro k
  induction k with
  | zero =>
    intro i f g v ht hf hg
    obtain ⟨f', rfl⟩ : ∃ f', f = f' + 1 := ⟨f - 1, by omega⟩
    obtain ⟨g', rfl⟩ : ∃ g', g = g' + 1 := ⟨g - 1, by omega⟩
    have : i = n := by omega
    subst this
    refine ⟨v, ?_, ?_⟩
    · rw [f_X6_digest_L33]
      rw [e1, if_pos (nI_le (Nat.le_refl _) (by omega))]
    · rw [f_X7_digest_L33]
      rw [l0, rd_n (hb177 (by decide)) (by decide), ob_e, e2, l7, pk_mul, if_pos (nI_le (Nat.le_refl _) (by omega))]
  | succ k ih =>
    intro i f g v ht hf hg
    obtain ⟨f', rfl⟩ : ∃ f', f = f' + 1 := ⟨f - 1, by omega⟩
    obtain ⟨g', rfl⟩ : ∃ g', g = g' + 7 := ⟨g - 7, by omega⟩
    obtain ⟨w, h1, h2⟩ := dig47 hn (show i < n by omega) e2 hS hQ 7 0 FU g' v (by omega) (FU_gt (by omega))
    obtain ⟨v', h3, h4⟩ := ih (i + 1) f' g' w (by omega) (by omega) (by omega)
    refine ⟨v', ?_, ?_⟩
    · rw [f_X6_digest_L33]
      rw [e1, if_neg (nI_ge (by omega) (by omega)), l0, h1, ob_e, lq_e, nI_1]
      exact h3
    · rw [show 7 * i = 7 * i + 0 by omega, h2, show 7 * i + 7 = 7 * (i + 1) by omega]
      exact h4
theorem dig86 {M N : Mem} (hD : Dan M.1 1 (N.1 177)) : ∀ (k t f g : Nat) (v : Int64), t + k = 8 → k < f → 2 * k < g → ∃ v', f_X6_digest_L86 M f v (nI t) = some v' ∧ f_X7_digest_L70 N g v (nI (2 * t)) = some v' := by
  intro k
  induction k with
  | zero =>
    intro t f g v ht hf hg
    obtain ⟨f', rfl⟩ : ∃ f', f = f' + 1 := ⟨f - 1, by omega⟩
    obtain ⟨g', rfl⟩ : ∃ g', g = g' + 1 := ⟨g - 1, by omega⟩
    have : t = 8 := by omega
    subst this
    refine ⟨v, ?_, ?_⟩
    · rw [f_X6_digest_L86]
      rw [l8, if_pos (nI_le (Nat.le_refl _) (by omega))]
    · rw [f_X7_digest_L70]
      rw [show (16 : Int32) = nI 16 from rfl, if_pos (nI_le (Nat.le_refl _) (by omega))]
  | succ k ih =>
    intro t f g v ht hf hg
    obtain ⟨f', rfl⟩ : ∃ f', f = f' + 1 := ⟨f - 1, by omega⟩
    obtain ⟨g', rfl⟩ : ∃ g', g = g' + 1 + 1 := ⟨g - 2, by omega⟩
    obtain ⟨d1, d2, d3, d4⟩ := hD.1 t (by omega)
    obtain ⟨v', h3, h4⟩ := ih (t + 1) f' g' (((31 : Int64) * (((31 : Int64) * v) + (N.1 177 (54 + 2 * t)).toInt64)) + (N.1 177 (54 + 2 * t + 1)).toInt64) (by omega) (by omega) (by omega)
    refine ⟨v', ?_, ?_⟩
    · rw [f_X6_digest_L86]
      rw [l8, if_neg (nI_ge (by omega) (by omega)), cell_n (show t < ln (1 + 33) from by show t < 8; omega) (by decide), ob_e, lq_e, cell_n (show t < ln (1 + 34) from by show t < 8; omega) (by decide), ob_e, lq_e, lq_e, nI_1, d1, d2]
      exact h3
    · rw [f_X7_digest_L70]
      rw [show (16 : Int32) = nI 16 from rfl, if_neg (nI_ge (by omega) (by omega)), l54, nI_add, rd_n (hb177 (by omega)) (by omega), ob_e, lq_e, lq_e, nI_1, f_X7_digest_L70]
      rw [show (16 : Int32) = nI 16 from rfl, if_neg (nI_ge (by omega) (by omega)), l54, nI_add, rd_n (hb177 (by omega)) (by omega), ob_e, lq_e, lq_e, nI_1, show 54 + (2 * t + 1) = 54 + 2 * t + 1 by omega, show 2 * t + 1 + 1 = 2 * (t + 1) by omega]
      exact h4
theorem digT {M N : Mem} {o b w m : Nat} (v : Int64) (hw : M.1 o 0 = nI w) (hl : ln (o + 1) = w * m) (hm : w * m ≤ 30) (hb : b + 40 < 340) (h : Tb1 M.1 o (N.1 177) b w m) : ∃ r, f_X5_digestOn o v M = some r ∧ f_X7_over v (nI b) (nI w) N = some r := by
  obtain ⟨a, ha, h1, h2, h3⟩ := h
  have hwa : w * a ≤ w * m := Nat.mul_le_mul_left _ ha
  obtain ⟨r, s, k1, k2, k3⟩ : ∃ r s, f_X5_digestOn_L5 o M FU v (nI 0) = some r ∧ f_X7_over_L6 (nI b) (nI w) N FU v (nI 0) = some s ∧ r = s := by
    refine loop2 (fun k i x => f_X5_digestOn_L5 o M k x (nI i)) (fun k i x => f_X7_over_L6 (nI b) (nI w) N k x (nI i)) (w * a) (fun _ x y => x = y) (fun r s => r = s) ?_ ?_ (w * a) 0 FU FU v v (by omega) (FU_gt (by omega)) (FU_gt (by omega)) rfl
    · intro k m x y h
      refine ⟨x, y, ?_, ?_, h⟩
      · show f_X5_digestOn_L5 o M (k + 1) x (nI (w * a)) = _
        rw [f_X5_digestOn_L5]
        rw [h1, hw, pk_mul, Nat.mul_comm a w, if_pos (nI_le (Nat.le_refl _) (by omega))]
      · show f_X7_over_L6 (nI b) (nI w) N (m + 1) y (nI (w * a)) = _
        rw [f_X7_over_L6]
        rw [rd_n (hb177 (by omega)) (by omega), ob_e, h2, pk_mul, if_pos (nI_le (Nat.le_refl _) (by omega))]
    · intro k m' i x y hi h
      subst h
      refine Or.inl ⟨((31 : Int64) * x) + (N.1 177 (b + 1 + i)).toInt64, _, ?_, ?_, rfl⟩
      · show f_X5_digestOn_L5 o M (k + 1) x (nI i) = f_X5_digestOn_L5 o M k _ (nI (i + 1))
        rw [f_X5_digestOn_L5]
        rw [h1, hw, pk_mul, Nat.mul_comm a w, if_neg (nI_ge hi (by omega)), cell_n (by omega) (by omega), ob_e, lq_e, lq_e, nI_1, h3 i hi]
      · show f_X7_over_L6 (nI b) (nI w) N (m' + 1) x (nI i) = f_X7_over_L6 (nI b) (nI w) N m' _ (nI (i + 1))
        rw [f_X7_over_L6]
        rw [rd_n (hb177 (by omega)) (by omega), ob_e, h2, pk_mul, if_neg (nI_ge hi (by omega)), l1, nI_add, nI_add, rd_n (hb177 (by omega)) (by omega), ob_e, lq_e, lq_e, nI_add]
  subst k3
  unfold f_X5_digestOn f_X7_over
  rw [l0, k1, k2, ob_e]
  exact ⟨r, rfl, rfl⟩
theorem op37 : opP37 Rel := by
  intro M N hR
  unfold f_X6_digest f_X7_digest
  obtain ⟨⟨n, hn, e1, e2, hS, hQ, hD, ⟨hT1, hT2, hT3, _⟩, hU⟩, hW, _, _, _, c1, c2, c3, c4, c5⟩ := id hR
  obtain ⟨r, s, a1, a2, a3⟩ := dig6 hR 1783
  subst a3
  obtain ⟨v1, b1, b2⟩ := dig33 hn e1 e2 hS hQ n 0 FU FU r (by omega) (FU_gt (by omega)) (FU_gt (by omega))
  obtain ⟨v2, d1, d2⟩ := dig86 hD 8 0 FU FU v1 (by omega) (FU_gt (by omega)) (FU_gt (by omega))
  have hw := hW 1 (Or.inl rfl)
  obtain ⟨v3, f1, f2⟩ := digT (((31 : Int64) * v2) + (N.1 177 53).toInt64) hw.1 rfl (by decide) (by decide) hT1
  obtain ⟨v4, g1, g2⟩ := digT v3 hw.2.2.1 rfl (by decide) (by decide) hT2
  obtain ⟨v5, h1, h2⟩ := digT v4 hw.2.2.2.2.1 rfl (by decide) (by decide) hT3
  have b2 : f_X7_digest_L33 N FU r (nI 0) = some v1 := b2
  have d2 : f_X7_digest_L70 N FU v1 (nI 0) = some v2 := d2
  have f2 : f_X7_over (((31 : Int64) * v2) + (N.1 177 53).toInt64) (70 : Int32) (4 : Int32) N = some v3 := f2
  have g2 : f_X7_over v3 (91 : Int32) (5 : Int32) N = some v4 := g2
  have h2 : f_X7_over v4 (122 : Int32) (4 : Int32) N = some v5 := h2
  refine ⟨((31 : Int64) * (((31 : Int64) * v5) + (N.2 176 4))) + (N.2 176 5), ?_, ?_⟩
  · rw [l0, a1, ob_e, b1, ob_e, d1, ob_e, lq_e, hD.2.1, f1, ob_e, g1, ob_e, h1, ob_e, lq_e, c4, c5]
  · rw [show f_X7_digest_L6 N FU (1783 : Int64) (0 : Int32) = some r from a2, ob_e, show f_X7_digest_L33 N FU r (0 : Int32) = some v1 from b2, ob_e, show f_X7_digest_L70 N FU v1 (0 : Int32) = some v2 from d2, ob_e, show rd N 177 (53 : Int32) = some (N.1 177 53) from rd_n (k := 53) (hb177 (by decide)) (by decide), ob_e, lq_e, f2, ob_e, g2, ob_e, h2, ob_e]
