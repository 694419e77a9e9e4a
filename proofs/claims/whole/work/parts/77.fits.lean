/-! what fits the sights, the notes, the marks -/
theorem l9 : (9 : Int32) = nI 9 := rfl
theorem l10 : (10 : Int32) = nI 10 := rfl
theorem l20 : (20 : Int32) = nI 20 := rfl
theorem l21 : (21 : Int32) = nI 21 := rfl
theorem l71 : (71 : Int32) = nI 71 := rfl
theorem l92 : (92 : Int32) = nI 92 := rfl
theorem l123 : (123 : Int32) = nI 123 := rfl
theorem val4 {M N : Mem} {o c i w a : Nat} (hw : M.1 o 0 = nI 4) (hl : 4 * a ≤ ln (o + 1)) (hl2 : ln (o + 1) ≤ 1000) (hr : ∀ j, j < 4 * a → M.1 (o + 1) j = N.1 177 (c + j)) (hi : i < a) (h : w < 4) : f_X5_value o (nI i) (nI w) M = some (N.1 177 (c + 4 * i + w)) := by
  unfold f_X5_value
  rw [hw, pk_mul, nI_add, cell_n (by omega) hl2, ob_e, hr _ (by omega), show c + (i * 4 + w) = c + 4 * i + w by omega]
theorem val5 {M N : Mem} {o c i w a : Nat} (hw : M.1 o 0 = nI 5) (hl : 5 * a ≤ ln (o + 1)) (hl2 : ln (o + 1) ≤ 1000) (hr : ∀ j, j < 5 * a → M.1 (o + 1) j = N.1 177 (c + j)) (hi : i < a) (h : w < 5) : f_X5_value o (nI i) (nI w) M = some (N.1 177 (c + 5 * i + w)) := by
  unfold f_X5_value
  rw [hw, pk_mul, nI_add, cell_n (by omega) hl2, ob_e, hr _ (by omega), show c + (i * 5 + w) = c + 5 * i + w by omega]
theorem fresh_e {M N : Mem} {n l : Nat} {y z w : Int32} (hn : n ≤ 7) (hl : l < n) (hS : Sta M.1 1 (N.1 177) n) : ∃ h, f_X6_freshHigh (nI l) y w z M = some h ∧ f_X7_heavyHigh (nI l) y z w N = some h := by
  obtain ⟨s1', s2', s3, s4, s5, s6, s7, s8⟩ := hS l hl
  obtain ⟨k, hk, ek⟩ := nI_oI (n := 6) s5 (by decide)
  obtain ⟨q, hq, eq⟩ := nI_oI (n := 6) s6 (by decide)
  refine ⟨f_X7_comesTo (nI k) (z - f_X7_drops (nI q) y w 0) (nI 0), ?_, ?_⟩
  · unfold f_X6_freshHigh
    rw [cell_n (show l < ln (1 + 1) from by show l < 7; omega) (by decide), ob_e, cell_n (show l < ln (1 + 2) from by show l < 7; omega) (by decide), ob_e, s1', s2', ek, eq, drops_e (by omega)]
    exact congrArg some (high_e (m := 0) (by omega) (by decide) _)
  · unfold f_X7_heavyHigh
    rw [show f_X7_limbOf (nI l) (0 : Int32) N = some (N.1 177 (4 + 7 * l + 0)) from limbOf_n (w := 0) (by omega), ob_e, show f_X7_limbOf (nI l) (1 : Int32) N = some (N.1 177 (4 + 7 * l + 1)) from limbOf_n (w := 1) (by omega), ob_e, show N.1 177 (4 + 7 * l + 0) = nI k from ek, eq]
    rfl
theorem fitS0 {N : Mem} {l w : Int32} {a : Nat} (ha : a ≤ 5) (h1 : N.1 177 70 = nI a) : ∀ (k t f : Nat), t + k = a → k < f → f_X7_weights_L16 l N w f (nI 0) (nI t) = some (nI 0) := by
  intro k
  induction k with
  | zero =>
    intro t f ht hf
    obtain ⟨f', rfl⟩ : ∃ f', f = f' + 1 := ⟨f - 1, by omega⟩
    have : t = a := by omega
    subst this
    rw [f_X7_weights_L16]
    rw [l70, rd_n (hb177 (by decide)) (by decide), ob_e, h1, if_pos (nI_le (Nat.le_refl _) (by omega))]
  | succ k ih =>
    intro t f ht hf
    obtain ⟨f', rfl⟩ : ∃ f', f = f' + 1 := ⟨f - 1, by omega⟩
    rw [f_X7_weights_L16]
    rw [l70, rd_n (hb177 (by decide)) (by decide), ob_e, h1, if_neg (nI_ge (by omega) (by omega)), lq_e, if_pos (show nI 0 = (0 : Int32) from rfl), ob_e, lq_e, nI_1]
    exact ih (t + 1) f' (by omega) (by omega)
theorem fitS {M N : Mem} {n l w : Nat} (hn : n ≤ 7) (hl : l < n) (hw : w < 10) (hS : Sta M.1 1 (N.1 177) n) (hW : M.1 (1 + 35) 0 = nI 4) (hT : Tb1 M.1 (1 + 35) (N.1 177) 70 4 5) : ∃ b : Bool, f_X6_fitsSights (nI l) (nI w) M = some (if b = true then 1 else 0) ∧ f_X7_weights_L16 (nI l) N (nI w) FU (nI 1) (nI 0) = some (if b = true then nI 1 else nI 0) := by
  obtain ⟨a, ha, t1, t2, t3⟩ := hT
  have t3 : ∀ j, j < 4 * a → M.1 (1 + 35 + 1) j = N.1 177 (71 + j) := t3
  obtain ⟨r, s, k1, k2, hq⟩ : ∃ r s, f_X6_fitsSights_L11 (nI l) (nI w) M FU (nI 0) = some r ∧ f_X7_weights_L16 (nI l) N (nI w) FU (nI 1) (nI 0) = some s ∧ ((∃ p, r = Sum.inl p ∧ s = nI 1) ∨ (r = Sum.inr 0 ∧ s = nI 0)) := by
    refine loop2f (fun k i (_ : Unit) => f_X6_fitsSights_L11 (nI l) (nI w) M k (nI i)) (fun k i (_ : Unit) => f_X7_weights_L16 (nI l) N (nI w) k (nI 1) (nI i)) a (fun _ _ _ => True) _ ?_ ?_ a 0 FU FU () () (by omega) (FU_gt (by omega)) (FU_gt (by omega)) trivial
    · intro k m x y h
      refine ⟨Sum.inl (nI a), nI 1, ?_, ?_, Or.inl ⟨_, rfl, rfl⟩⟩
      · show f_X6_fitsSights_L11 (nI l) (nI w) M (k + 1) (nI a) = _
        rw [f_X6_fitsSights_L11]
        rw [t1, if_pos (nI_le (Nat.le_refl _) (by omega))]
      · show f_X7_weights_L16 (nI l) N (nI w) (m + 1) (nI 1) (nI a) = _
        rw [f_X7_weights_L16]
        rw [l70, rd_n (hb177 (by decide)) (by decide), ob_e, t2, if_pos (nI_le (Nat.le_refl _) (by omega))]
    · intro k m i x y hi hk hm _
      have v0 : f_X5_value (1 + 35) (nI i) (nI 0) M = some (N.1 177 (71 + 4 * i)) := val4 (w := 0) hW (show 4 * a ≤ 20 by omega) (by decide) t3 hi (by omega)
      have v1 : f_X5_value (1 + 35) (nI i) (nI 1) M = some (N.1 177 (71 + 4 * i + 1)) := val4 (w := 1) hW (show 4 * a ≤ 20 by omega) (by decide) t3 hi (by omega)
      have v2 : f_X5_value (1 + 35) (nI i) (nI 2) M = some (N.1 177 (71 + 4 * i + 2)) := val4 (w := 2) hW (show 4 * a ≤ 20 by omega) (by decide) t3 hi (by omega)
      have v3 : f_X5_value (1 + 35) (nI i) (nI 3) M = some (N.1 177 (71 + 4 * i + 3)) := val4 (w := 3) hW (show 4 * a ≤ 20 by omega) (by decide) t3 hi (by omega)
      obtain ⟨h, g1, g2⟩ := fresh_e (y := N.1 177 (71 + 4 * i + 1)) (z := N.1 177 (71 + 4 * i + 2)) (w := nI w) hn hl hS
      have eM : f_X6_fitsSights_L11 (nI l) (nI w) M (k + 1) (nI i) = if N.1 177 (71 + 4 * i) = nI l then (if h = N.1 177 (71 + 4 * i + 3) then f_X6_fitsSights_L11 (nI l) (nI w) M k (nI (i + 1)) else some (Sum.inr 0)) else f_X6_fitsSights_L11 (nI l) (nI w) M k (nI (i + 1)) := by
        rw [f_X6_fitsSights_L11]
        rw [t1, if_neg (nI_ge hi (by omega)), l0, l1, l2, l3, v0, ob_e, v1, ob_e, v2, ob_e, g1, ob_e, v3, ob_e, lq_e, nI_add]
      have eN : f_X7_weights_L16 (nI l) N (nI w) (m + 1) (nI 1) (nI i) = if N.1 177 (71 + 4 * i) = nI l then (if h = N.1 177 (71 + 4 * i + 3) then f_X7_weights_L16 (nI l) N (nI w) m (nI 1) (nI (i + 1)) else f_X7_weights_L16 (nI l) N (nI w) m (nI 0) (nI (i + 1))) else f_X7_weights_L16 (nI l) N (nI w) m (nI 1) (nI (i + 1)) := by
        rw [f_X7_weights_L16]
        rw [l70, rd_n (hb177 (by decide)) (by decide), ob_e, t2, if_neg (nI_ge hi (by omega)), l71, l0, l1, l2, l3, l4, pk_mul, nI_add, lq_e, if_neg (show ¬ nI 1 = nI 0 by decide), rd_n (hb177 (by omega)) (by omega), ob_e, nI_add, rd_n (hb177 (by omega)) (by omega), ob_e, nI_add, rd_n (hb177 (by omega)) (by omega), ob_e, g2, ob_e, nI_add, rd_n (hb177 (by omega)) (by omega), ob_e]
        by_cases c1 : N.1 177 (71 + 4 * i) = nI l
        · rw [if_pos c1, if_pos c1]
          by_cases c2 : h = N.1 177 (71 + 4 * i + 3)
          · rw [if_pos c2, if_pos c2, ob_e, lq_e, nI_add]
          · rw [if_neg c2, if_neg c2, ob_e, lq_e, nI_add]
        · rw [if_neg c1, if_neg c1, ob_e, lq_e, nI_add]
      by_cases c1 : N.1 177 (71 + 4 * i) = nI l
      · rw [if_pos c1] at eM eN
        by_cases c2 : h = N.1 177 (71 + 4 * i + 3)
        · rw [if_pos c2] at eM eN
          exact Or.inl ⟨(), (), eM, eN, trivial⟩
        · rw [if_neg c2] at eM eN
          exact Or.inr ⟨_, nI 0, eM, eN.trans (fitS0 ha t2 (a - (i + 1)) (i + 1) m (by omega) (by omega)), Or.inr ⟨rfl, rfl⟩⟩
      · rw [if_neg c1] at eM eN
        exact Or.inl ⟨(), (), eM, eN, trivial⟩
  unfold f_X6_fitsSights
  rw [l0, k1, k2]
  rcases hq with ⟨p, rfl, rfl⟩ | ⟨rfl, rfl⟩
  · exact ⟨true, by rw [oeT1_l, if_pos rfl], by rw [if_pos rfl]⟩
  · exact ⟨false, by rw [oeT1_r, if_neg (by decide)]; rfl, by rw [if_neg (by decide)]⟩
theorem fitN0 {N : Mem} {l w : Int32} {a : Nat} (ha : a ≤ 6) (h1 : N.1 177 91 = nI a) : ∀ (k t f : Nat), t + k = a → k < f → f_X7_stringsOf_L16 l N w f (nI 0) (nI t) = some (nI 0) := by
  intro k
  induction k with
  | zero =>
    intro t f ht hf
    obtain ⟨f', rfl⟩ : ∃ f', f = f' + 1 := ⟨f - 1, by omega⟩
    have : t = a := by omega
    subst this
    rw [f_X7_stringsOf_L16]
    rw [l91, rd_n (hb177 (by decide)) (by decide), ob_e, h1, if_pos (nI_le (Nat.le_refl _) (by omega))]
  | succ k ih =>
    intro t f ht hf
    obtain ⟨f', rfl⟩ : ∃ f', f = f' + 1 := ⟨f - 1, by omega⟩
    rw [f_X7_stringsOf_L16]
    rw [l91, rd_n (hb177 (by decide)) (by decide), ob_e, h1, if_neg (nI_ge (by omega) (by omega)), lq_e, if_pos (show nI 0 = (0 : Int32) from rfl), ob_e, lq_e, nI_1]
    exact ih (t + 1) f' (by omega) (by omega)
theorem fitN {M N : Mem} {n l w : Nat} (hn : n ≤ 7) (hl : l < n) (hw : w < 6) (hS : Sta M.1 1 (N.1 177) n) (hW : M.1 (1 + 37) 0 = nI 5) (hT : Tb1 M.1 (1 + 37) (N.1 177) 91 5 6) : ∃ b : Bool, f_X6_fitsNotes (nI l) (nI w) M = some (if b = true then 1 else 0) ∧ f_X7_stringsOf_L16 (nI l) N (nI w) FU (nI 1) (nI 0) = some (if b = true then nI 1 else nI 0) := by
  obtain ⟨a, ha, t1, t2, t3⟩ := hT
  have t3 : ∀ j, j < 5 * a → M.1 (1 + 37 + 1) j = N.1 177 (92 + j) := t3
  obtain ⟨r, s, k1, k2, hq⟩ : ∃ r s, f_X6_fitsNotes_L11 (nI l) (nI w) M FU (nI 0) = some r ∧ f_X7_stringsOf_L16 (nI l) N (nI w) FU (nI 1) (nI 0) = some s ∧ ((∃ p, r = Sum.inl p ∧ s = nI 1) ∨ (r = Sum.inr 0 ∧ s = nI 0)) := by
    refine loop2f (fun k i (_ : Unit) => f_X6_fitsNotes_L11 (nI l) (nI w) M k (nI i)) (fun k i (_ : Unit) => f_X7_stringsOf_L16 (nI l) N (nI w) k (nI 1) (nI i)) a (fun _ _ _ => True) _ ?_ ?_ a 0 FU FU () () (by omega) (FU_gt (by omega)) (FU_gt (by omega)) trivial
    · intro k m x y h
      refine ⟨Sum.inl (nI a), nI 1, ?_, ?_, Or.inl ⟨_, rfl, rfl⟩⟩
      · show f_X6_fitsNotes_L11 (nI l) (nI w) M (k + 1) (nI a) = _
        rw [f_X6_fitsNotes_L11]
        rw [t1, if_pos (nI_le (Nat.le_refl _) (by omega))]
      · show f_X7_stringsOf_L16 (nI l) N (nI w) (m + 1) (nI 1) (nI a) = _
        rw [f_X7_stringsOf_L16]
        rw [l91, rd_n (hb177 (by decide)) (by decide), ob_e, t2, if_pos (nI_le (Nat.le_refl _) (by omega))]
    · intro k m i x y hi hk hm _
      have v0 : f_X5_value (1 + 37) (nI i) (nI 0) M = some (N.1 177 (92 + 5 * i)) := val5 (w := 0) hW (show 5 * a ≤ 30 by omega) (by decide) t3 hi (by omega)
      have v1 : f_X5_value (1 + 37) (nI i) (nI 1) M = some (N.1 177 (92 + 5 * i + 1)) := val5 (w := 1) hW (show 5 * a ≤ 30 by omega) (by decide) t3 hi (by omega)
      have v2 : f_X5_value (1 + 37) (nI i) (nI 2) M = some (N.1 177 (92 + 5 * i + 2)) := val5 (w := 2) hW (show 5 * a ≤ 30 by omega) (by decide) t3 hi (by omega)
      have v3 : f_X5_value (1 + 37) (nI i) (nI 3) M = some (N.1 177 (92 + 5 * i + 3)) := val5 (w := 3) hW (show 5 * a ≤ 30 by omega) (by decide) t3 hi (by omega)
      have v4 : f_X5_value (1 + 37) (nI i) (nI 4) M = some (N.1 177 (92 + 5 * i + 4)) := val5 (w := 4) hW (show 5 * a ≤ 30 by omega) (by decide) t3 hi (by omega)
      have hd := drops_e (k := w) (by omega) (N.1 177 (92 + 5 * i + 1)) (N.1 177 (92 + 5 * i + 2)) (N.1 177 (92 + 5 * i + 3))
      have eM : f_X6_fitsNotes_L11 (nI l) (nI w) M (k + 1) (nI i) = if N.1 177 (92 + 5 * i) = nI l then (if f_X7_drops (nI w) (N.1 177 (92 + 5 * i + 1)) (N.1 177 (92 + 5 * i + 2)) (N.1 177 (92 + 5 * i + 3)) = N.1 177 (92 + 5 * i + 4) then f_X6_fitsNotes_L11 (nI l) (nI w) M k (nI (i + 1)) else some (Sum.inr 0)) else f_X6_fitsNotes_L11 (nI l) (nI w) M k (nI (i + 1)) := by
        rw [f_X6_fitsNotes_L11]
        rw [t1, if_neg (nI_ge hi (by omega)), l0, l1, l2, l3, l4, v0, ob_e, v1, ob_e, v2, ob_e, v3, ob_e, v4, ob_e, hd, lq_e, nI_add]
      have eN : f_X7_stringsOf_L16 (nI l) N (nI w) (m + 1) (nI 1) (nI i) = if N.1 177 (92 + 5 * i) = nI l then (if f_X7_drops (nI w) (N.1 177 (92 + 5 * i + 1)) (N.1 177 (92 + 5 * i + 2)) (N.1 177 (92 + 5 * i + 3)) = N.1 177 (92 + 5 * i + 4) then f_X7_stringsOf_L16 (nI l) N (nI w) m (nI 1) (nI (i + 1)) else f_X7_stringsOf_L16 (nI l) N (nI w) m (nI 0) (nI (i + 1))) else f_X7_stringsOf_L16 (nI l) N (nI w) m (nI 1) (nI (i + 1)) := by
        rw [f_X7_stringsOf_L16]
        rw [l91, rd_n (hb177 (by decide)) (by decide), ob_e, t2, if_neg (nI_ge hi (by omega)), l92, l0, l1, l2, l3, l4, l5, pk_mul, nI_add, lq_e, if_neg (show ¬ nI 1 = nI 0 by decide), rd_n (hb177 (by omega)) (by omega), ob_e, nI_add, rd_n (hb177 (by omega)) (by omega), ob_e, nI_add, rd_n (hb177 (by omega)) (by omega), ob_e, nI_add, rd_n (hb177 (by omega)) (by omega), ob_e, nI_add, rd_n (hb177 (by omega)) (by omega), ob_e]
        by_cases c1 : N.1 177 (92 + 5 * i) = nI l
        · rw [if_pos c1, if_pos c1]
          by_cases c2 : f_X7_drops (nI w) (N.1 177 (92 + 5 * i + 1)) (N.1 177 (92 + 5 * i + 2)) (N.1 177 (92 + 5 * i + 3)) = N.1 177 (92 + 5 * i + 4)
          · rw [if_pos c2, if_pos c2, ob_e, lq_e, nI_add]
          · rw [if_neg c2, if_neg c2, ob_e, lq_e, nI_add]
        · rw [if_neg c1, if_neg c1, ob_e, lq_e, nI_add]
      by_cases c1 : N.1 177 (92 + 5 * i) = nI l
      · rw [if_pos c1] at eM eN
        by_cases c2 : f_X7_drops (nI w) (N.1 177 (92 + 5 * i + 1)) (N.1 177 (92 + 5 * i + 2)) (N.1 177 (92 + 5 * i + 3)) = N.1 177 (92 + 5 * i + 4)
        · rw [if_pos c2] at eM eN
          exact Or.inl ⟨(), (), eM, eN, trivial⟩
        · rw [if_neg c2] at eM eN
          exact Or.inr ⟨_, nI 0, eM, eN.trans (fitN0 ha t2 (a - (i + 1)) (i + 1) m (by omega) (by omega)), Or.inr ⟨rfl, rfl⟩⟩
      · rw [if_neg c1] at eM eN
        exact Or.inl ⟨(), (), eM, eN, trivial⟩
  unfold f_X6_fitsNotes
  rw [l0, k1, k2]
  rcases hq with ⟨p, rfl, rfl⟩ | ⟨rfl, rfl⟩
  · exact ⟨true, by rw [oeT1_l, if_pos rfl], by rw [if_pos rfl]⟩
  · exact ⟨false, by rw [oeT1_r, if_neg (by decide)]; rfl, by rw [if_neg (by decide)]⟩
theorem fitM0 {N : Mem} {l w : Int32} {a : Nat} (ha : a ≤ 6) (h1 : N.1 177 122 = nI a) : ∀ (k t f : Nat), t + k = a → k < f → f_X7_kindsOf_L16 l N w f (nI 0) (nI t) = some (nI 0) := by
  intro k
  induction k with
  | zero =>
    intro t f ht hf
    obtain ⟨f', rfl⟩ : ∃ f', f = f' + 1 := ⟨f - 1, by omega⟩
    have : t = a := by omega
    subst this
    rw [f_X7_kindsOf_L16]
    rw [l122, rd_n (hb177 (by decide)) (by decide), ob_e, h1, if_pos (nI_le (Nat.le_refl _) (by omega))]
  | succ k ih =>
    intro t f ht hf
    obtain ⟨f', rfl⟩ : ∃ f', f = f' + 1 := ⟨f - 1, by omega⟩
    rw [f_X7_kindsOf_L16]
    rw [l122, rd_n (hb177 (by decide)) (by decide), ob_e, h1, if_neg (nI_ge (by omega) (by omega)), lq_e, if_pos (show nI 0 = (0 : Int32) from rfl), ob_e, lq_e, nI_1]
    exact ih (t + 1) f' (by omega) (by omega)
theorem fitM {M N : Mem} {n l w : Nat} (hn : n ≤ 7) (hl : l < n) (hw : w < 6) (hS : Sta M.1 1 (N.1 177) n) (hW : M.1 (1 + 39) 0 = nI 4) (hT : Tb1 M.1 (1 + 39) (N.1 177) 122 4 6) (hp : ∀ k, k < 6 → nI (k + 1) ≤ N.1 177 122 → 0 ≤ (N.1 177 (123 + 4 * k + 2)).toInt) : ∃ b : Bool, f_X6_fitsMarks (nI l) (nI w) M = some (if b = true then 1 else 0) ∧ f_X7_kindsOf_L16 (nI l) N (nI w) FU (nI 1) (nI 0) = some (if b = true then nI 1 else nI 0) := by
  obtain ⟨a, ha, t1, t2, t3⟩ := hT
  have t3 : ∀ j, j < 4 * a → M.1 (1 + 39 + 1) j = N.1 177 (123 + j) := t3
  obtain ⟨r, s, k1, k2, hq⟩ : ∃ r s, f_X6_fitsMarks_L11 (nI l) (nI w) M FU (nI 0) = some r ∧ f_X7_kindsOf_L16 (nI l) N (nI w) FU (nI 1) (nI 0) = some s ∧ ((∃ p, r = Sum.inl p ∧ s = nI 1) ∨ (r = Sum.inr 0 ∧ s = nI 0)) := by
    refine loop2f (fun k i (_ : Unit) => f_X6_fitsMarks_L11 (nI l) (nI w) M k (nI i)) (fun k i (_ : Unit) => f_X7_kindsOf_L16 (nI l) N (nI w) k (nI 1) (nI i)) a (fun _ _ _ => True) _ ?_ ?_ a 0 FU FU () () (by omega) (FU_gt (by omega)) (FU_gt (by omega)) trivial
    · intro k m x y h
      refine ⟨Sum.inl (nI a), nI 1, ?_, ?_, Or.inl ⟨_, rfl, rfl⟩⟩
      · show f_X6_fitsMarks_L11 (nI l) (nI w) M (k + 1) (nI a) = _
        rw [f_X6_fitsMarks_L11]
        rw [t1, if_pos (nI_le (Nat.le_refl _) (by omega))]
      · show f_X7_kindsOf_L16 (nI l) N (nI w) (m + 1) (nI 1) (nI a) = _
        rw [f_X7_kindsOf_L16]
        rw [l122, rd_n (hb177 (by decide)) (by decide), ob_e, t2, if_pos (nI_le (Nat.le_refl _) (by omega))]
    · intro k m i x y hi hk hm _
      have v0 : f_X5_value (1 + 39) (nI i) (nI 0) M = some (N.1 177 (123 + 4 * i)) := val4 (w := 0) hW (show 4 * a ≤ 24 by omega) (by decide) t3 hi (by omega)
      have v1 : f_X5_value (1 + 39) (nI i) (nI 1) M = some (N.1 177 (123 + 4 * i + 1)) := val4 (w := 1) hW (show 4 * a ≤ 24 by omega) (by decide) t3 hi (by omega)
      have v2 : f_X5_value (1 + 39) (nI i) (nI 2) M = some (N.1 177 (123 + 4 * i + 2)) := val4 (w := 2) hW (show 4 * a ≤ 24 by omega) (by decide) t3 hi (by omega)
      have v3 : f_X5_value (1 + 39) (nI i) (nI 3) M = some (N.1 177 (123 + 4 * i + 3)) := val4 (w := 3) hW (show 4 * a ≤ 24 by omega) (by decide) t3 hi (by omega)
      obtain ⟨z, hz, ez⟩ : ∃ z : Nat, z < 2147483648 ∧ N.1 177 (123 + 4 * i + 2) = nI z := nI_of (by
        have := hp i (by omega) (by rw [t2]; exact nI_le (by omega) (by omega))
        rw [Int32.lt_iff_toInt_lt]
        rw [show (0 : Int32).toInt = 0 by decide]
        omega)
      have hd := high_e (k := w) (by omega) hz (N.1 177 (123 + 4 * i + 1))
      have eM : f_X6_fitsMarks_L11 (nI l) (nI w) M (k + 1) (nI i) = if N.1 177 (123 + 4 * i) = nI l then (if f_X7_comesTo (nI w) (N.1 177 (123 + 4 * i + 1)) (nI z) = N.1 177 (123 + 4 * i + 3) then f_X6_fitsMarks_L11 (nI l) (nI w) M k (nI (i + 1)) else some (Sum.inr 0)) else f_X6_fitsMarks_L11 (nI l) (nI w) M k (nI (i + 1)) := by
        rw [f_X6_fitsMarks_L11]
        rw [t1, if_neg (nI_ge hi (by omega)), l0, l1, l2, l3, v0, ob_e, v1, ob_e, v2, ob_e, v3, ob_e, ez, hd, lq_e, nI_add]
      have eN : f_X7_kindsOf_L16 (nI l) N (nI w) (m + 1) (nI 1) (nI i) = if N.1 177 (123 + 4 * i) = nI l then (if f_X7_comesTo (nI w) (N.1 177 (123 + 4 * i + 1)) (nI z) = N.1 177 (123 + 4 * i + 3) then f_X7_kindsOf_L16 (nI l) N (nI w) m (nI 1) (nI (i + 1)) else f_X7_kindsOf_L16 (nI l) N (nI w) m (nI 0) (nI (i + 1))) else f_X7_kindsOf_L16 (nI l) N (nI w) m (nI 1) (nI (i + 1)) := by
        rw [f_X7_kindsOf_L16]
        rw [l122, rd_n (hb177 (by decide)) (by decide), ob_e, t2, if_neg (nI_ge hi (by omega)), l123, l0, l1, l2, l3, l4, pk_mul, nI_add, lq_e, if_neg (show ¬ nI 1 = nI 0 by decide), rd_n (hb177 (by omega)) (by omega), ob_e, nI_add, rd_n (hb177 (by omega)) (by omega), ob_e, nI_add, rd_n (hb177 (by omega)) (by omega), ob_e, nI_add, rd_n (hb177 (by omega)) (by omega), ob_e, ez]
        by_cases c1 : N.1 177 (123 + 4 * i) = nI l
        · rw [if_pos c1, if_pos c1]
          by_cases c2 : f_X7_comesTo (nI w) (N.1 177 (123 + 4 * i + 1)) (nI z) = N.1 177 (123 + 4 * i + 3)
          · rw [if_pos c2, if_pos c2, ob_e, lq_e, nI_add]
          · rw [if_neg c2, if_neg c2, ob_e, lq_e, nI_add]
        · rw [if_neg c1, if_neg c1, ob_e, lq_e, nI_add]
      by_cases c1 : N.1 177 (123 + 4 * i) = nI l
      · rw [if_pos c1] at eM eN
        by_cases c2 : f_X7_comesTo (nI w) (N.1 177 (123 + 4 * i + 1)) (nI z) = N.1 177 (123 + 4 * i + 3)
        · rw [if_pos c2] at eM eN
          exact Or.inl ⟨(), (), eM, eN, trivial⟩
        · rw [if_neg c2] at eM eN
          exact Or.inr ⟨_, nI 0, eM, eN.trans (fitM0 ha t2 (a - (i + 1)) (i + 1) m (by omega) (by omega)), Or.inr ⟨rfl, rfl⟩⟩
      · rw [if_neg c1] at eM eN
        exact Or.inl ⟨(), (), eM, eN, trivial⟩
  unfold f_X6_fitsMarks
  rw [l0, k1, k2]
  rcases hq with ⟨p, rfl, rfl⟩ | ⟨rfl, rfl⟩
  · exact ⟨true, by rw [oeT1_l, if_pos rfl], by rw [if_pos rfl]⟩
  · exact ⟨false, by rw [oeT1_r, if_neg (by decide)]; rfl, by rw [if_neg (by decide)]⟩
theorem mask_s : ∀ i, i < 10 → ∀ m, m < 2 ^ i → (nI m ||| ((1 : Int32) <<< (nI i &&& 31))) = nI (m + 2 ^ i) ∧ m + 2 ^ i < 2 ^ (i + 1) ∧ (0 < i → (m + 2 ^ i) % 2 = m % 2) ∧ m < 2 ^ (i + 1) := by decide +kernel
theorem maskW {M N : Mem} {n l : Nat} (hn : n ≤ 7) (hl : l < n) (hS : Sta M.1 1 (N.1 177) n) (hW : M.1 (1 + 35) 0 = nI 4) (hT : Tb1 M.1 (1 + 35) (N.1 177) 70 4 5) : ∃ m : Nat, m < 1024 ∧ (0 < 1 → m % 2 = 0) ∧ f_X6_fittingWeights (nI l) M = some (nI m) ∧ f_X7_weights (nI l) N = some (nI m) := by
  obtain ⟨r, s, k1, k2, m, hm, h2, rfl, rfl⟩ : ∃ r s, f_X6_fittingWeights_L4 (nI l) M FU (nI 0) (nI 1) = some r ∧ f_X7_weights_L4 (nI l) N FU (nI 0) (nI 1) = some s ∧ (∃ m : Nat, m < 2 ^ 10 ∧ (0 < 1 → m % 2 = 0) ∧ r = nI m ∧ s = nI m) := by
    refine loop2 (fun k i (x : Int32) => f_X6_fittingWeights_L4 (nI l) M k x (nI i)) (fun k i (x : Int32) => f_X7_weights_L4 (nI l) N k x (nI i)) 10 (fun i x y => 1 ≤ i ∧ ∃ m : Nat, m < 2 ^ i ∧ (0 < 1 → m % 2 = 0) ∧ x = nI m ∧ y = nI m) _ ?_ ?_ 9 1 FU FU (nI 0) (nI 0) (by omega) (FU_gt (by omega)) (FU_gt (by omega)) ⟨by omega, 0, by decide, fun _ => rfl, rfl, rfl⟩
    · intro k q x y h
      obtain ⟨_, m, h1, h2, rfl, rfl⟩ := h
      refine ⟨nI m, nI m, ?_, ?_, m, h1, h2, rfl, rfl⟩
      · show f_X6_fittingWeights_L4 (nI l) M (k + 1) (nI m) (nI 10) = _
        rw [f_X6_fittingWeights_L4]
        rw [l9, if_pos (nI_lt (by decide) (by decide))]
      · show f_X7_weights_L4 (nI l) N (q + 1) (nI m) (nI 10) = _
        rw [f_X7_weights_L4]
        rw [l10, if_pos (nI_le (Nat.le_refl _) (by decide))]
    · intro k q i x y hi h
      obtain ⟨h0, m, h1, h2, rfl, rfl⟩ := h
      obtain ⟨b, hb, hc⟩ := fitS (w := i) hn hl hi hS hW hT
      obtain ⟨m1, m2, m3, m4⟩ := mask_s i (by omega) m h1
      have eM : f_X6_fittingWeights_L4 (nI l) M (k + 1) (nI m) (nI i) = f_X6_fittingWeights_L4 (nI l) M k (if b = true then nI (m + 2 ^ i) else nI m) (nI (i + 1)) := by
        rw [f_X6_fittingWeights_L4]
        rw [l9, if_neg (nI_nlt (by omega) (by omega)), hb, ob_e, lq_e, lq_e, nI_1, lq_e, m1]
        cases b with
        | false => rw [if_neg (show ¬ (false = true) by decide), if_neg (show ¬ (false = true) by decide), if_pos rfl]
        | true => rw [if_pos rfl, if_pos rfl, if_neg (show ¬ (1 : Int32) = 0 by decide)]
      have eN : f_X7_weights_L4 (nI l) N (q + 1) (nI m) (nI i) = f_X7_weights_L4 (nI l) N q (if b = true then nI (m + 2 ^ i) else nI m) (nI (i + 1)) := by
        rw [f_X7_weights_L4]
        rw [l10, if_neg (nI_ge hi (by decide)), show ∀ x, f_X7_weights_L16 (nI l) N x FU (1 : Int32) (0 : Int32) = f_X7_weights_L16 (nI l) N x FU (nI 1) (nI 0) from fun _ => rfl, hc, ob_e, lq_e, lq_e, lq_e, nI_1]
        cases b with
        | false => rw [if_neg (show ¬ (false = true) by decide), if_neg (show ¬ (false = true) by decide), if_pos (show nI 0 = (0 : Int32) from rfl), Int32.or_zero]
        | true => rw [if_pos rfl, if_pos rfl, if_neg (show ¬ nI 1 = (0 : Int32) by decide), m1]
      refine Or.inl ⟨_, _, eM, eN, by omega, ?_⟩
      cases b with
      | false => exact ⟨m, m4, h2, if_neg (by decide), if_neg (by decide)⟩
      | true => exact ⟨m + 2 ^ i, m2, fun q => by rw [m3 (by omega)]; exact h2 q, if_pos rfl, if_pos rfl⟩
  unfold f_X6_fittingWeights f_X7_weights
  refine ⟨m, hm, h2, ?_, ?_⟩
  · rw [show f_X6_fittingWeights_L4 (nI l) M FU (0 : Int32) (1 : Int32) = some (nI m) from k1, ob_e]
  · rw [show f_X7_weights_L4 (nI l) N FU (0 : Int32) (1 : Int32) = some (nI m) from k2, ob_e]
theorem maskN {M N : Mem} {n l : Nat} (hn : n ≤ 7) (hl : l < n) (hS : Sta M.1 1 (N.1 177) n) (hW : M.1 (1 + 37) 0 = nI 5) (hT : Tb1 M.1 (1 + 37) (N.1 177) 91 5 6) : ∃ m : Nat, m < 64 ∧ (0 < 0 → m % 2 = 0) ∧ f_X6_fittingStrings (nI l) M = some (nI m) ∧ f_X7_stringsOf (nI l) N = some (nI m) := by
  obtain ⟨r, s, k1, k2, m, hm, h2, rfl, rfl⟩ : ∃ r s, f_X6_fittingStrings_L4 (nI l) M FU (nI 0) (nI 0) = some r ∧ f_X7_stringsOf_L4 (nI l) N FU (nI 0) (nI 0) = some s ∧ (∃ m : Nat, m < 2 ^ 6 ∧ (0 < 0 → m % 2 = 0) ∧ r = nI m ∧ s = nI m) := by
    refine loop2 (fun k i (x : Int32) => f_X6_fittingStrings_L4 (nI l) M k x (nI i)) (fun k i (x : Int32) => f_X7_stringsOf_L4 (nI l) N k x (nI i)) 6 (fun i x y => 0 ≤ i ∧ ∃ m : Nat, m < 2 ^ i ∧ (0 < 0 → m % 2 = 0) ∧ x = nI m ∧ y = nI m) _ ?_ ?_ 6 0 FU FU (nI 0) (nI 0) (by omega) (FU_gt (by omega)) (FU_gt (by omega)) ⟨by omega, 0, by decide, fun _ => rfl, rfl, rfl⟩
    · intro k q x y h
      obtain ⟨_, m, h1, h2, rfl, rfl⟩ := h
      refine ⟨nI m, nI m, ?_, ?_, m, h1, h2, rfl, rfl⟩
      · show f_X6_fittingStrings_L4 (nI l) M (k + 1) (nI m) (nI 6) = _
        rw [f_X6_fittingStrings_L4]
        rw [l6, if_pos (nI_le (Nat.le_refl _) (by decide))]
      · show f_X7_stringsOf_L4 (nI l) N (q + 1) (nI m) (nI 6) = _
        rw [f_X7_stringsOf_L4]
        rw [l6, if_pos (nI_le (Nat.le_refl _) (by decide))]
    · intro k q i x y hi h
      obtain ⟨h0, m, h1, h2, rfl, rfl⟩ := h
      obtain ⟨b, hb, hc⟩ := fitN (w := i) hn hl hi hS hW hT
      obtain ⟨m1, m2, m3, m4⟩ := mask_s i (by omega) m h1
      have eM : f_X6_fittingStrings_L4 (nI l) M (k + 1) (nI m) (nI i) = f_X6_fittingStrings_L4 (nI l) M k (if b = true then nI (m + 2 ^ i) else nI m) (nI (i + 1)) := by
        rw [f_X6_fittingStrings_L4]
        rw [l6, if_neg (nI_ge hi (by decide)), hb, ob_e, lq_e, lq_e, nI_1, lq_e, m1]
        cases b with
        | false => rw [if_neg (show ¬ (false = true) by decide), if_neg (show ¬ (false = true) by decide), if_pos rfl]
        | true => rw [if_pos rfl, if_pos rfl, if_neg (show ¬ (1 : Int32) = 0 by decide)]
      have eN : f_X7_stringsOf_L4 (nI l) N (q + 1) (nI m) (nI i) = f_X7_stringsOf_L4 (nI l) N q (if b = true then nI (m + 2 ^ i) else nI m) (nI (i + 1)) := by
        rw [f_X7_stringsOf_L4]
        rw [l6, if_neg (nI_ge hi (by decide)), show ∀ x, f_X7_stringsOf_L16 (nI l) N x FU (1 : Int32) (0 : Int32) = f_X7_stringsOf_L16 (nI l) N x FU (nI 1) (nI 0) from fun _ => rfl, hc, ob_e, lq_e, lq_e, lq_e, nI_1]
        cases b with
        | false => rw [if_neg (show ¬ (false = true) by decide), if_neg (show ¬ (false = true) by decide), if_pos (show nI 0 = (0 : Int32) from rfl), Int32.or_zero]
        | true => rw [if_pos rfl, if_pos rfl, if_neg (show ¬ nI 1 = (0 : Int32) by decide), m1]
      refine Or.inl ⟨_, _, eM, eN, by omega, ?_⟩
      cases b with
      | false => exact ⟨m, m4, h2, if_neg (by decide), if_neg (by decide)⟩
      | true => exact ⟨m + 2 ^ i, m2, fun q => by rw [m3 (by omega)]; exact h2 q, if_pos rfl, if_pos rfl⟩
  unfold f_X6_fittingStrings f_X7_stringsOf
  refine ⟨m, hm, h2, ?_, ?_⟩
  · rw [show f_X6_fittingStrings_L4 (nI l) M FU (0 : Int32) (0 : Int32) = some (nI m) from k1, ob_e]
  · rw [show f_X7_stringsOf_L4 (nI l) N FU (0 : Int32) (0 : Int32) = some (nI m) from k2, ob_e]
theorem maskM {M N : Mem} {n l : Nat} (hn : n ≤ 7) (hl : l < n) (hS : Sta M.1 1 (N.1 177) n) (hW : M.1 (1 + 39) 0 = nI 4) (hT : Tb1 M.1 (1 + 39) (N.1 177) 122 4 6) (hp : ∀ k, k < 6 → nI (k + 1) ≤ N.1 177 122 → 0 ≤ (N.1 177 (123 + 4 * k + 2)).toInt) : ∃ m : Nat, m < 64 ∧ (0 < 0 → m % 2 = 0) ∧ f_X6_fittingKinds (nI l) M = some (nI m) ∧ f_X7_kindsOf (nI l) N = some (nI m) := by
  obtain ⟨r, s, k1, k2, m, hm, h2, rfl, rfl⟩ : ∃ r s, f_X6_fittingKinds_L4 (nI l) M FU (nI 0) (nI 0) = some r ∧ f_X7_kindsOf_L4 (nI l) N FU (nI 0) (nI 0) = some s ∧ (∃ m : Nat, m < 2 ^ 6 ∧ (0 < 0 → m % 2 = 0) ∧ r = nI m ∧ s = nI m) := by
    refine loop2 (fun k i (x : Int32) => f_X6_fittingKinds_L4 (nI l) M k x (nI i)) (fun k i (x : Int32) => f_X7_kindsOf_L4 (nI l) N k x (nI i)) 6 (fun i x y => 0 ≤ i ∧ ∃ m : Nat, m < 2 ^ i ∧ (0 < 0 → m % 2 = 0) ∧ x = nI m ∧ y = nI m) _ ?_ ?_ 6 0 FU FU (nI 0) (nI 0) (by omega) (FU_gt (by omega)) (FU_gt (by omega)) ⟨by omega, 0, by decide, fun _ => rfl, rfl, rfl⟩
    · intro k q x y h
      obtain ⟨_, m, h1, h2, rfl, rfl⟩ := h
      refine ⟨nI m, nI m, ?_, ?_, m, h1, h2, rfl, rfl⟩
      · show f_X6_fittingKinds_L4 (nI l) M (k + 1) (nI m) (nI 6) = _
        rw [f_X6_fittingKinds_L4]
        rw [l6, if_pos (nI_le (Nat.le_refl _) (by decide))]
      · show f_X7_kindsOf_L4 (nI l) N (q + 1) (nI m) (nI 6) = _
        rw [f_X7_kindsOf_L4]
        rw [l6, if_pos (nI_le (Nat.le_refl _) (by decide))]
    · intro k q i x y hi h
      obtain ⟨h0, m, h1, h2, rfl, rfl⟩ := h
      obtain ⟨b, hb, hc⟩ := fitM (w := i) hn hl hi hS hW hT hp
      obtain ⟨m1, m2, m3, m4⟩ := mask_s i (by omega) m h1
      have eM : f_X6_fittingKinds_L4 (nI l) M (k + 1) (nI m) (nI i) = f_X6_fittingKinds_L4 (nI l) M k (if b = true then nI (m + 2 ^ i) else nI m) (nI (i + 1)) := by
        rw [f_X6_fittingKinds_L4]
        rw [l6, if_neg (nI_ge hi (by decide)), hb, ob_e, lq_e, lq_e, nI_1, lq_e, m1]
        cases b with
        | false => rw [if_neg (show ¬ (false = true) by decide), if_neg (show ¬ (false = true) by decide), if_pos rfl]
        | true => rw [if_pos rfl, if_pos rfl, if_neg (show ¬ (1 : Int32) = 0 by decide)]
      have eN : f_X7_kindsOf_L4 (nI l) N (q + 1) (nI m) (nI i) = f_X7_kindsOf_L4 (nI l) N q (if b = true then nI (m + 2 ^ i) else nI m) (nI (i + 1)) := by
        rw [f_X7_kindsOf_L4]
        rw [l6, if_neg (nI_ge hi (by decide)), show ∀ x, f_X7_kindsOf_L16 (nI l) N x FU (1 : Int32) (0 : Int32) = f_X7_kindsOf_L16 (nI l) N x FU (nI 1) (nI 0) from fun _ => rfl, hc, ob_e, lq_e, lq_e, lq_e, nI_1]
        cases b with
        | false => rw [if_neg (show ¬ (false = true) by decide), if_neg (show ¬ (false = true) by decide), if_pos (show nI 0 = (0 : Int32) from rfl), Int32.or_zero]
        | true => rw [if_pos rfl, if_pos rfl, if_neg (show ¬ nI 1 = (0 : Int32) by decide), m1]
      refine Or.inl ⟨_, _, eM, eN, by omega, ?_⟩
      cases b with
      | false => exact ⟨m, m4, h2, if_neg (by decide), if_neg (by decide)⟩
      | true => exact ⟨m + 2 ^ i, m2, fun q => by rw [m3 (by omega)]; exact h2 q, if_pos rfl, if_pos rfl⟩
  unfold f_X6_fittingKinds f_X7_kindsOf
  refine ⟨m, hm, h2, ?_, ?_⟩
  · rw [show f_X6_fittingKinds_L4 (nI l) M FU (0 : Int32) (0 : Int32) = some (nI m) from k1, ob_e]
  · rw [show f_X7_kindsOf_L4 (nI l) N FU (0 : Int32) (0 : Int32) = some (nI m) from k2, ob_e]
theorem op25 : opP25 Rel := by
  intro a1 M N hR
  unfold f_X6_is f_X7_is
  obtain ⟨⟨n, hn, e1, e2, hS, hQ, hD, hTt, hU⟩, hO⟩ := id hR
  obtain ⟨z1, ez1, hz1⟩ := y_lb a1 hn e2
  rw [ez1, ob_e]
  by_cases g1 : oI a1 0 ((n : Int) - 1)
  · rw [if_pos ((o_lb a1 hn e1).mpr g1), if_neg (fun q => (hz1.mp q) g1)]
    obtain ⟨i, hi, rfl⟩ := nI_oI g1 (by omega)
    have hW := hO.1 1 (Or.inl rfl)
    obtain ⟨m, hm, _, f1, f2⟩ := maskN hn hi hS hW.2.2.1 hTt.2.1
    rw [f1, f2, ob_e, ob_e]
    exact ⟨_, _, _, rfl, rfl, hR⟩
  · rw [if_neg (fun q => g1 ((o_lb a1 hn e1).mp q)), if_pos (hz1.mpr g1)]
    exact ⟨_, _, _, rfl, rfl, hR.bad⟩
theorem op27 : opP27 Rel := by
  intro a1 M N hR
  unfold f_X6_kinds f_X7_kinds
  obtain ⟨⟨n, hn, e1, e2, hS, hQ, hD, hTt, hU⟩, hO⟩ := id hR
  obtain ⟨z1, ez1, hz1⟩ := y_lb a1 hn e2
  rw [ez1, ob_e]
  by_cases g1 : oI a1 0 ((n : Int) - 1)
  · rw [if_pos ((o_lb a1 hn e1).mpr g1), if_neg (fun q => (hz1.mp q) g1)]
    obtain ⟨i, hi, rfl⟩ := nI_oI g1 (by omega)
    have hW := hO.1 1 (Or.inl rfl)
    obtain ⟨m, hm, _, f1, f2⟩ := maskM hn hi hS hW.2.2.2.2.1 hTt.2.2.1 hTt.2.2.2
    rw [f1, f2, ob_e, ob_e]
    exact ⟨_, _, _, rfl, rfl, hR⟩
  · rw [if_neg (fun q => g1 ((o_lb a1 hn e1).mp q)), if_pos (hz1.mpr g1)]
    exact ⟨_, _, _, rfl, rfl, hR.bad⟩
theorem heavy_all : ∀ k, k < 512 → (f_X6_leastBit (nI (2 * k))).isSome = true ∧ (f_X6_greatestBit (nI (2 * k))).isSome = true ∧ f_X7_heavy_L47 (nI (2 * k)) FU (0 : Int32) ((-1001) : Int32) ((-1001) : Int32) (1 : Int32) = some (f_J6_bitCount_0f7a4 (nI (2 * k)), if k = 0 then -1001 else (f_X6_leastBit (nI (2 * k))).getD 0, if k = 0 then -1001 else (f_X6_greatestBit (nI (2 * k))).getD 0) := by decide +kernel
theorem some_D {x : Option Int32} (h : x.isSome = true) : x = some (x.getD 0) := by
  cases x with
  | none => exact absurd h (by decide)
  | some v => rfl
theorem op20 : opP20 Rel := by
  intro a1 a2 M N hR
  unfold f_X6_heavy f_X7_heavy
  obtain ⟨⟨n, hn, e1, e2, hS, hQ, hD, hTt, hU⟩, hO⟩ := id hR
  obtain ⟨z1, ez1, hz1⟩ := y_lb a1 hn e2
  rw [ez1, ob_e]
  by_cases g1 : oI a1 0 ((n : Int) - 1)
  · rw [if_pos ((o_lb a1 hn e1).mpr g1), if_neg (fun q => (hz1.mp q) g1)]
    by_cases g2 : oI a2 0 2
    · rw [if_pos ((o_0_2 a2).mpr g2), if_neg (fun q => ((y_0_2 a2).mp q) g2)]
      obtain ⟨i, hi, rfl⟩ := nI_oI g1 (by omega)
      have hW := hO.1 1 (Or.inl rfl)
      obtain ⟨m, hm, hev, f1, f2⟩ := maskW hn hi hS hW.1 hTt.1
      obtain ⟨k, hk, rfl⟩ : ∃ k, k < 512 ∧ m = 2 * k := ⟨m / 2, by omega, by have := hev (by decide); omega⟩
      obtain ⟨p1, p2, p3⟩ := heavy_all k hk
      rw [f1, f2, ob_e, ob_e, p3, ob3_e]
      by_cases g3 : a2 = 0
      · rw [if_pos g3, if_pos g3]
        exact ⟨_, _, _, rfl, rfl, hR⟩
      · rw [if_neg g3, if_neg g3]
        by_cases g4 : k = 0
        · subst g4
          rw [if_pos (show nI (2 * 0) = (0 : Int32) from rfl), if_pos rfl]
          by_cases g5 : a2 = 1
          · rw [if_pos g5]; exact ⟨_, _, _, rfl, rfl, hR⟩
          · rw [if_neg g5]; exact ⟨_, _, _, rfl, rfl, hR⟩
        · rw [if_neg g4, if_neg g4, if_neg (show ¬ nI (2 * k) = (0 : Int32) from fun q => g4 (by have := (nI_eq (a := 2 * k) (b := 0) (by omega) (by decide)).mp q; omega))]
          by_cases g5 : a2 = 1
          · rw [if_pos g5, if_pos g5, some_D p1, ob_e]
            exact ⟨_, _, _, rfl, rfl, hR⟩
          · rw [if_neg g5, if_neg g5, some_D p2, ob_e]
            exact ⟨_, _, _, rfl, rfl, hR⟩
    · rw [if_neg (fun q => g2 ((o_0_2 a2).mp q)), if_pos ((y_0_2 a2).mpr g2)]
      exact ⟨_, _, _, rfl, rfl, hR.bad⟩
  · rw [if_neg (fun q => g1 ((o_lb a1 hn e1).mp q)), if_pos (hz1.mpr g1)]
    exact ⟨_, _, _, rfl, rfl, hR.bad⟩
