/-! hands: which pairs of moves rest -/
theorem rests0 {a c : Int32} {N : Mem} : ∀ (k t f : Nat), t + k = 5 → k < f → f_X7_rests_L5 a c N f (nI 0) (nI t) = some (nI 0) := by
  intro k
  induction k with
  | zero =>
    intro t f ht hf
    obtain ⟨f', rfl⟩ : ∃ f', f = f' + 1 := ⟨f - 1, by omega⟩
    have : t = 5 := by omega
    subst this
    rw [f_X7_rests_L5]
    rw [l5, if_pos (nI_le (Nat.le_refl _) (by decide))]
  | succ k ih =>
    intro t f ht hf
    obtain ⟨f', rfl⟩ : ∃ f', f = f' + 1 := ⟨f - 1, by omega⟩
    rw [f_X7_rests_L5]
    rw [l5, if_neg (nI_ge (by omega) (by decide)), if_pos (show nI 0 = (0 : Int32) from rfl), ob_e, lq_e, nI_1]
    exact ih (t + 1) f' (by omega) (by omega)
theorem place_n {a c : Nat} : f_X0_place (nI a) (nI c) = nI (5 * a + c) := by
  unfold f_X0_place
  rw [l5, pk_mul, nI_add, Nat.mul_comm a 5]
theorem rests_rel {a c : Nat} {K Y : Mem} (ha : a < 5) (hc : c < 5) (h1 : ∀ t, t < 25 → K.1 170 t = Y.1 182 t) (h2 : ∀ t, t < 25 → K.1 171 t = Y.1 183 t) : ∃ b : Bool, f_X0_rests 169 (nI a) (nI c) K = some (if b = true then 1 else 0) ∧ f_X7_rests (nI a) (nI c) Y = some (if b = true then 1 else 0) := by
  obtain ⟨r, s, k1, k2, hq⟩ : ∃ r s, f_X0_rests_L2 169 (nI a) (nI c) K FU (nI 0) = some r ∧ f_X7_rests_L5 (nI a) (nI c) Y FU (nI 1) (nI 0) = some s ∧ ((∃ p, r = Sum.inl p ∧ s = nI 1) ∨ (r = Sum.inr 0 ∧ s = nI 0)) := by
    refine loop2f (fun k i (_ : Unit) => f_X0_rests_L2 169 (nI a) (nI c) K k (nI i)) (fun k i (_ : Unit) => f_X7_rests_L5 (nI a) (nI c) Y k (nI 1) (nI i)) 5 (fun _ _ _ => True) _ ?_ ?_ 5 0 FU FU () () (by omega) (FU_gt (by omega)) (FU_gt (by omega)) trivial
    · intro k m x y h
      refine ⟨Sum.inl (nI 5), nI 1, ?_, ?_, Or.inl ⟨_, rfl, rfl⟩⟩
      · show f_X0_rests_L2 169 (nI a) (nI c) K (k + 1) (nI 5) = _
        rw [f_X0_rests_L2]
        rw [l5, if_pos (nI_le (Nat.le_refl _) (by decide))]
      · show f_X7_rests_L5 (nI a) (nI c) Y (m + 1) (nI 1) (nI 5) = _
        rw [f_X7_rests_L5]
        rw [l5, if_pos (nI_le (Nat.le_refl _) (by decide))]
    · intro k m i x y hi hk hm _
      have eM : f_X0_rests_L2 169 (nI a) (nI c) K (k + 1) (nI i) = if Y.1 182 (5 * a + c) < Y.1 182 (5 * i + c) then some (Sum.inr 0) else (if Y.1 183 (5 * a + i) ≤ Y.1 183 (5 * a + c) then f_X0_rests_L2 169 (nI a) (nI c) K k (nI (i + 1)) else some (Sum.inr 0)) := by
        rw [f_X0_rests_L2]
        rw [place_n, place_n, place_n, l5, if_neg (nI_ge hi (by decide)), cell_n (show 5 * i + c < ln (169 + 1) from by show 5 * i + c < 25; omega) (by decide), ob_e, cell_n (show 5 * a + c < ln (169 + 1) from by show 5 * a + c < 25; omega) (by decide), ob_e, cell_n (show 5 * a + i < ln (169 + 2) from by show 5 * a + i < 25; omega) (by decide), ob_e, cell_n (show 5 * a + c < ln (169 + 2) from by show 5 * a + c < 25; omega) (by decide), ob_e, lq_e, nI_1, show K.1 (169 + 1) (5 * i + c) = Y.1 182 (5 * i + c) from h1 _ (by omega), show K.1 (169 + 1) (5 * a + c) = Y.1 182 (5 * a + c) from h1 _ (by omega), show K.1 (169 + 2) (5 * a + i) = Y.1 183 (5 * a + i) from h2 _ (by omega), show K.1 (169 + 2) (5 * a + c) = Y.1 183 (5 * a + c) from h2 _ (by omega)]
      have eN : f_X7_rests_L5 (nI a) (nI c) Y (m + 1) (nI 1) (nI i) = if Y.1 182 (5 * a + c) < Y.1 182 (5 * i + c) then f_X7_rests_L5 (nI a) (nI c) Y m (nI 0) (nI (i + 1)) else (if Y.1 183 (5 * a + c) < Y.1 183 (5 * a + i) then f_X7_rests_L5 (nI a) (nI c) Y m (nI 0) (nI (i + 1)) else f_X7_rests_L5 (nI a) (nI c) Y m (nI 1) (nI (i + 1))) := by
        rw [f_X7_rests_L5]
        rw [l5, if_neg (nI_ge hi (by decide)), if_neg (show ¬ nI 1 = (0 : Int32) by decide), pk_mul, nI_add, rd_n (by rw [ln_182]; omega) (by omega), ob_e, pk_mul, nI_add, rd_n (by rw [ln_182]; omega) (by omega), ob_e, nI_add, rd_n (by rw [ln_183]; omega) (by omega), ob_e, rd_n (by rw [ln_183]; omega) (by omega), ob_e]
        by_cases c1 : Y.1 182 (5 * a + c) < Y.1 182 (5 * i + c)
        · rw [if_pos c1, if_pos c1, ob_e, lq_e, nI_1]; rfl
        · rw [if_neg c1, if_neg c1]
          by_cases c2 : Y.1 183 (5 * a + c) < Y.1 183 (5 * a + i)
          · rw [if_pos c2, if_pos c2, ob_e, lq_e, nI_1]; rfl
          · rw [if_neg c2, if_neg c2, ob_e, lq_e, nI_1]; rfl
      by_cases c1 : Y.1 182 (5 * a + c) < Y.1 182 (5 * i + c)
      · rw [if_pos c1] at eM eN
        exact Or.inr ⟨_, nI 0, eM, eN.trans (rests0 (5 - (i + 1)) (i + 1) m (by omega) (by omega)), Or.inr ⟨rfl, rfl⟩⟩
      · rw [if_neg c1] at eM eN
        by_cases c2 : Y.1 183 (5 * a + c) < Y.1 183 (5 * a + i)
        · rw [if_neg (fun q => (ilt _ _).mpr q c2)] at eM
          rw [if_pos c2] at eN
          exact Or.inr ⟨_, nI 0, eM, eN.trans (rests0 (5 - (i + 1)) (i + 1) m (by omega) (by omega)), Or.inr ⟨rfl, rfl⟩⟩
        · rw [if_pos ((ilt _ _).mp c2)] at eM
          rw [if_neg c2] at eN
          exact Or.inl ⟨(), (), eM, eN, trivial⟩
  unfold f_X0_rests f_X7_rests
  rw [l0, k1, show f_X7_rests_L5 (nI a) (nI c) Y FU (1 : Int32) (nI 0) = some s from k2, ob_e]
  rcases hq with ⟨p, rfl, rfl⟩ | ⟨rfl, rfl⟩
  · exact ⟨true, by rw [oeT1_l, if_pos rfl], by rw [if_pos rfl, if_pos (by decide)]; rfl⟩
  · exact ⟨false, by rw [oeT1_r, if_neg (by decide)]; rfl, by rw [if_neg (show ¬ (false = true) by decide), if_pos (by decide)]⟩
