theorem step_w {n : Nat} {M : Mem} (hn : n ≤ 7) (e1 : M.1 1 4 = nI n) : ∃ r, f_X2_step_L36 1 172 FU (nI 0) M = some r ∧ (∀ i, i < n → r.2.1 174 i = f_X6_wornBehind (M.1 174 i) (M.1 4 i) (M.1 172 1)) ∧ r.2.1 172 1 = M.1 172 1 := by
  obtain ⟨r, e, h⟩ : ∃ r, f_X2_step_L36 1 172 FU (nI 0) M = some r ∧ ((∀ i, i < n → r.2.1 174 i = f_X6_wornBehind (M.1 174 i) (M.1 4 i) (M.1 172 1)) ∧ r.2.1 172 1 = M.1 172 1) := by
    refine loopE (fun k i x => f_X2_step_L36 1 172 k (nI i) x) n (fun i (x : Mem) => (∀ j, j < i → x.1 174 j = f_X6_wornBehind (M.1 174 j) (M.1 4 j) (M.1 172 1)) ∧ (∀ j, i ≤ j → x.1 174 j = M.1 174 j) ∧ ∀ c b, c ≠ 174 → x.1 c b = M.1 c b) _ ?_ ?_ n 0 FU M (by omega) (FU_gt (by omega)) ⟨fun j hj => absurd hj (by omega), fun _ _ => rfl, fun _ _ _ => rfl⟩
    · intro k x hx
      refine ⟨(nI n, x), ?_, hx.1, hx.2.2 172 1 (by omega)⟩
      show f_X2_step_L36 1 172 (k + 1) (nI n) x = _
      rw [f_X2_step_L36]
      rw [hx.2.2 _ _ (by omega), e1, if_pos (nI_le (Nat.le_refl _) (by omega))]
    · intro k i x hi hx
      obtain ⟨h1, h2, h3⟩ := hx
      refine Or.inl ⟨s1 x 174 i (f_X6_wornBehind (M.1 174 i) (M.1 4 i) (M.1 172 1)), ?_, fun j hj => ?_, fun j hj => ?_, fun c b hc => ?_⟩
      · show f_X2_step_L36 1 172 (k + 1) (nI i) x = f_X2_step_L36 1 172 k (nI (i + 1)) _
        rw [f_X2_step_L36]
        unfold f_X2_weightOf
        rw [h3 1 4 (by omega), e1, if_neg (nI_ge hi (by omega)), cell_n (show i < ln (172 + 2) from by show i < 7; omega) (by decide), ob_e, cell_n (show i < ln (1 + 3) from by show i < 7; omega) (by decide), ob_e, ob_e, put_n (show i < ln (172 + 2) from by show i < 7; omega) (by decide), ob_e, lq_e, nI_1, h2 i (Nat.le_refl _), h3 (1 + 3) i (by omega), h3 172 1 (by omega)]
      · by_cases e : j = i
        · subst e; exact s1_eq
        · rw [s1_ne (by omega)]; exact h1 j (by omega)
      · rw [s1_ne (by omega)]; exact h2 j (by omega)
      · rw [s1_ne (by omega)]; exact h3 c b hc
  exact ⟨r, e, h.1, h.2⟩
theorem step4_w {n : Nat} {M M' : Mem} (hn : n ≤ 7) (e1 : M.1 1 4 = nI n) (h : f_X2_step 1 172 (nI 4) M = some M') : (∀ i, i < n → M'.1 174 i = f_X6_wornBehind (M.1 174 i) (M.1 4 i) (M.1 172 1)) ∧ M'.1 172 1 = M.1 172 1 := by
  unfold f_X2_step at h
  rw [lq_e, lq_e, lq_e] at h
  obtain ⟨⟨x, r⟩, e, hw, hw2⟩ := step_w (M := s1 (s1 (s1 M 172 0 (f_X6_liftBehind (M.1 172 0) (nI 4))) 172 1 (f_X6_tiltBehind ((s1 M 172 0 (f_X6_liftBehind (M.1 172 0) (nI 4))).1 172 1) (nI 4))) 172 2 ((s1 (s1 M 172 0 (f_X6_liftBehind (M.1 172 0) (nI 4))) 172 1 (f_X6_tiltBehind ((s1 M 172 0 (f_X6_liftBehind (M.1 172 0) (nI 4))).1 172 1) (nI 4))).1 172 2 + 1)) hn (by rw [s1_ne (by omega), s1_ne (by omega), s1_ne (by omega)]; exact e1)
  rw [l0, e, ob2_e] at h
  have h := Option.some.inj h
  subst h
  refine ⟨fun i hi => ?_, ?_⟩
  rotate_left
  · have hw2 : r.1 172 1 = _ := hw2
    rw [hw2, s1_ne (by omega), s1_eq, s1_ne (by omega)]
    rfl
  have := hw i hi
  rw [s1_ne (by omega), s1_ne (by omega), s1_ne (by omega), s1_ne (by omega), s1_ne (by omega), s1_ne (by omega), s1_ne (by omega), s1_eq, s1_ne (by omega)] at this
  exact this
theorem op11 : opP11 Rel := by
  intro a1 M N hR
  unfold f_X6_safe f_X7_safe
  obtain ⟨⟨n, hn, e1, e2, hS, hQ, hD, hT, hU⟩, hO⟩ := id hR
  obtain ⟨x, ex, hx⟩ := y_lb (N := N) a1 hn e2
  rw [ex, ob_e]
  by_cases g1 : oI a1 0 ((n : Int) - 1)
  · rw [if_pos ((o_lb a1 hn e1).mpr g1), if_neg (fun q => hx.mp q g1)]
    obtain ⟨l, hl, rfl⟩ := nI_oI g1 (by omega)
    obtain ⟨M1, N1, k1, k2, hTr⟩ := trial_start hQ hn
    unfold f_X2_wornOf
    rw [cell_n (show l < ln (1 + 5 + 2) from by show l < 7; omega) (by decide), ob_e, ob_e, k2, ob_e]
    have hw0 : M.1 (1 + 5 + 2) l = M1.1 174 l := by
      rw [(hQ.2 l hl).2.1]
      have h := (hTr.2.2.2.2.2.2 l hl).2.1
      have k : N1.1 177 (8 + 7 * l + 1) = N.1 177 (8 + 7 * l + 1) := by
        obtain ⟨Na, ea, _, na, _⟩ := asidesX N
        rw [k2] at ea
        have ea := Option.some.inj ea
        subst ea
        exact na _ _ (by omega)
      rw [← k]; exact h.symm
    have ht0 : M1.1 172 1 = M.1 6 1 := by
      obtain ⟨Ma, ea, _, _, mb, _⟩ := become_n (o := 172) (q := 1 + 5) rfl rfl rfl rfl (by omega) M
      rw [k1] at ea
      have ea := Option.some.inj ea
      subst ea
      exact mb 1 (by omega)
    obtain ⟨r, ⟨s, N2⟩, r1, r2, hq⟩ : ∃ r s, f_X6_safe_L27 (nI l) M FU (M1.1 174 l) (nI 0) = some r ∧ f_X7_safe_L19 (nI l) FU (nI 0) N1 = some s ∧ (∃ Mv X, Tr M N Mv s.2 n X ∧ ((∃ p, r = Sum.inl p ∧ s.1 = nI 61) ∨ (∃ i, i < 61 ∧ r = Sum.inr (nI i, M) ∧ s.1 = nI i))) := by
      refine loop2 (fun k i x => f_X6_safe_L27 (nI l) M k x (nI i)) (fun k i x => f_X7_safe_L19 (nI l) k (nI i) x) 61 (fun i x y => ∃ Mv, Tr M N Mv y n (9999 + i) ∧ x = Mv.1 174 l ∧ Mv.1 172 1 = M.1 6 1) _ ?_ ?_ 61 0 FU FU (M1.1 174 l) N1 (by omega) (FU_gt (by omega)) (FU_gt (by omega)) ⟨M1, tr0 hTr, rfl, ht0⟩
      · rintro k m x y ⟨Mv, h1, h2, h3⟩
        refine ⟨Sum.inl (x, nI 61), (nI 61, y), ?_, ?_, Mv, _, h1, Or.inl ⟨_, rfl, rfl⟩⟩
        · show f_X6_safe_L27 (nI l) M (k + 1) x (nI 61) = _
          rw [f_X6_safe_L27]
          rw [show (60 : Int32) = nI 60 from rfl, if_pos (nI_lt (by decide) (by decide))]
        · show f_X7_safe_L19 (nI l) (m + 1) (nI 61) y = _
          rw [f_X7_safe_L19]
          rw [show (61 : Int32) = nI 61 from rfl, if_pos (nI_le (Nat.le_refl _) (by decide))]
      · rintro k m i x y hi ⟨Mv, h1, h2, h3⟩
        subst h2
        obtain ⟨L1, L2, L3, L4, L5⟩ := h1.2.2.2.2.2.2 l hl
        have L2 : Mv.1 174 l = y.1 177 (8 + 7 * l + 1) := L2
        by_cases c : snp (y.1 177 (8 + 7 * l + 1)) = 0
        · obtain ⟨M', N', f1, f2, f3⟩ := trial_step (k := 4) (by omega) (by omega) hn e1 e2 hS h1
          obtain ⟨w1, w2⟩ := step4_w hn (by rw [h1.2.2.1 _ _ (by omega)]; exact e1) f1
          refine Or.inl ⟨M'.1 174 l, N', ?_, ?_, M', ?_, rfl, by rw [w2]; exact h3⟩
          · show f_X6_safe_L27 (nI l) M (k + 1) (Mv.1 174 l) (nI i) = f_X6_safe_L27 (nI l) M k _ (nI (i + 1))
            rw [f_X6_safe_L27]
            unfold f_X2_weightOf
            rw [show (60 : Int32) = nI 60 from rfl, if_neg (nI_nlt (by omega) (by decide)), snapM, L2, if_pos c, cell_n (show l < ln (1 + 3) from by show l < 7; omega) (by decide), ob_e, ob_e, lq_e, lq_e, nI_1, w1 l hl, L2, h3, h1.2.2.1 4 l (by omega)]
          · show f_X7_safe_L19 (nI l) (m + 1) (nI i) y = f_X7_safe_L19 (nI l) m (nI (i + 1)) N'
            rw [f_X7_safe_L19]
            rw [show (61 : Int32) = nI 61 from rfl, if_neg (nI_ge hi (by decide)), snapN (by omega) L5, ob_e, if_pos c, show f_X7_goes (4 : Int32) y = some N' from f2, ob_e, lq_e, nI_1]
          · rw [show (9999 : Int) + ((i + 1 : Nat) : Int) = 9999 + (i : Int) + 1 by omega]
            exact f3
        · refine Or.inr ⟨Sum.inr (nI i, M), (nI i, y), ?_, ?_, Mv, _, h1, Or.inr ⟨i, hi, rfl, rfl⟩⟩
          · show f_X6_safe_L27 (nI l) M (k + 1) (Mv.1 174 l) (nI i) = _
            rw [f_X6_safe_L27]
            rw [show (60 : Int32) = nI 60 from rfl, if_neg (nI_nlt (by omega) (by decide)), snapM, L2, if_neg c]
          · show f_X7_safe_L19 (nI l) (m + 1) (nI i) y = _
            rw [f_X7_safe_L19]
            rw [show (61 : Int32) = nI 61 from rfl, if_neg (nI_ge hi (by decide)), snapN (by omega) L5, ob_e, if_neg c]
    obtain ⟨Mv, X, hTv, hc⟩ := hq
    have hTv : Tr M N Mv N2 n X := hTv
    obtain ⟨N3, w1, w2⟩ := trial_end2 hR rfl (fun _ _ _ => rfl) hTv
    rw [hw0, l0, r1, r2, ob2_e, w1, ob_e]
    rcases hc with ⟨p, rfl, hs⟩ | ⟨i, hi, rfl, hs⟩
    · have hs : s = nI 61 := hs
      subst hs
      rw [oeT2_l, if_pos (show (61 : Int32) ≤ nI 61 by decide)]
      exact ⟨_, _, _, rfl, rfl, w2⟩
    · have hs : s = nI i := hs
      subst hs
      rw [oeT2_r, show (61 : Int32) = nI 61 from rfl, if_neg (nI_ge hi (by decide))]
      exact ⟨_, _, _, rfl, rfl, w2⟩
  · rw [if_neg (fun q => g1 ((o_lb a1 hn e1).mp q)), if_pos (hx.mpr g1), rBad, yBad, ob2_e, ob2_e]
    exact ⟨_, _, _, rfl, rfl, hR.bad⟩
