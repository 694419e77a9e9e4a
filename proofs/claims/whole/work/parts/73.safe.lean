theorem step_w {n : Nat} {M : Mem} (hn : n ≤ 7) (e1 : M.1 1 4 = nI n) : ∃ r, f_X2_step_L36 1 172 FU (nI 0) M = some r ∧ ∀ i, i < n → r.2.1 174 i = f_X6_wornBehind (M.1 174 i) (M.1 4 i) (M.1 172 1) := by
  obtain ⟨r, e, h⟩ : ∃ r, f_X2_step_L36 1 172 FU (nI 0) M = some r ∧ ((∀ i, i < n → r.2.1 174 i = f_X6_wornBehind (M.1 174 i) (M.1 4 i) (M.1 172 1)) ∧ True) := by
    refine loopE (fun k i x => f_X2_step_L36 1 172 k (nI i) x) n (fun i (x : Mem) => (∀ j, j < i → x.1 174 j = f_X6_wornBehind (M.1 174 j) (M.1 4 j) (M.1 172 1)) ∧ (∀ j, i ≤ j → x.1 174 j = M.1 174 j) ∧ ∀ c b, c ≠ 174 → x.1 c b = M.1 c b) _ ?_ ?_ n 0 FU M (by omega) (FU_gt (by omega)) ⟨fun j hj => absurd hj (by omega), fun _ _ => rfl, fun _ _ _ => rfl⟩
    · intro k x hx
      refine ⟨(nI n, x), ?_, hx.1, trivial⟩
      show f_X2_step_L36 1 172 (k + 1) (nI n) x = _
      rw [f_X2_step_L36]
      rw [hx.2.2 _ _ (by omega), e1, if_pos (nI_le (Nat.le_refl _) (by omega))]
    · intro k i x hi hx
      obtain ⟨h1, h2, h3⟩ := hx
      refine Or.inl ⟨s1 x 174 i (f_X6_wornBehind (M.1 174 i) (M.1 4 i) (M.1 172 1)), ?_, fun j hj => ?_, fun j hj => ?_, fun c b hc => ?_⟩
      · show f_X2_step_L36 1 172 (k + 1) (nI i) x = f_X2_step_L36 1 172 k (nI (i + 1)) _
        rw [f_X2_step_L36]
        unfold f_X2_weightOf
        rw [h3 1 4 (by omega), e1, if_neg (nI_ge hi (by omega)), cell_n (show i < ln (172 + 2) from by show i < 7; omega) (by decide), ob_e, cell_n (show i < ln (1 + 3) from by show i < 7; omega) (by decide), ob_e, ob_e, put_n (show i < ln (172 + 2) from by show i < 7; omega) (by decide), ob_e, lq_e, nI_1, h2 i (Nat.le_refl _), h3 (1 + 3) i (by omega), h3 172 1 (by omega)]
      · by_cases e : j = i
        · subst e; exact s1_eq
        · rw [s1_ne (by omega)]; exact h1 j (by omega)
      · rw [s1_ne (by omega)]; exact h2 j (by omega)
      · rw [s1_ne (by omega)]; exact h3 c b hc
  exact ⟨r, e, h.1⟩
theorem step4_w {n : Nat} {M M' : Mem} (hn : n ≤ 7) (e1 : M.1 1 4 = nI n) (h : f_X2_step 1 172 (nI 4) M = some M') : ∀ i, i < n → M'.1 174 i = f_X6_wornBehind (M.1 174 i) (M.1 4 i) (M.1 172 1) := by
  unfold f_X2_step at h
  rw [lq_e, lq_e, lq_e] at h
  obtain ⟨⟨x, r⟩, e, hw⟩ := step_w (M := s1 (s1 (s1 M 172 0 (f_X6_liftBehind (M.1 172 0) (nI 4))) 172 1 (f_X6_tiltBehind ((s1 M 172 0 (f_X6_liftBehind (M.1 172 0) (nI 4))).1 172 1) (nI 4))) 172 2 ((s1 (s1 M 172 0 (f_X6_liftBehind (M.1 172 0) (nI 4))) 172 1 (f_X6_tiltBehind ((s1 M 172 0 (f_X6_liftBehind (M.1 172 0) (nI 4))).1 172 1) (nI 4))).1 172 2 + 1)) hn (by rw [s1_ne (by omega), s1_ne (by omega), s1_ne (by omega)]; exact e1)
  rw [l0, e, ob2_e] at h
  have h := Option.some.inj h
  subst h
  intro i hi
  have := hw i hi
  rw [s1_ne (by omega), s1_ne (by omega), s1_ne (by omega), s1_ne (by omega), s1_ne (by omega), s1_ne (by omega), s1_ne (by omega), s1_eq, s1_ne (by omega)] at this
  exact this
