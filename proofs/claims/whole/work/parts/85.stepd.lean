/-! a move of the draft -/
theorem wearD_L {q n c : Nat} {M N : Mem} (hq : q = 47) (hn : n ≤ 7) (e1 : M.1 42 4 = nI n) (e2 : N.1 177 0 = nI n) (hS : Sta M.1 42 (N.1 177) n) (hL : Lim M.1 q (N.1 177) 8 7 n) (hc : mTimes (M.1 q 1) = nI c) (hc1 : 1 ≤ c) (hc2 : c ≤ 2) : ∃ r s, f_X2_step_L36 42 q FU (nI 0) M = some r ∧ f_X7_wears_L29 (nI c) FU (nI 0) N = some s ∧ (r.2.2 = M.2 ∧ s.2.2 = N.2 ∧ (∀ c b, c ≠ q + 2 → r.2.1 c b = M.1 c b) ∧ (∀ c b, ¬ (c = 177 ∧ 8 ≤ b ∧ b < 53 ∧ 5 ≤ (b - 4) % 7) → s.2.1 c b = N.1 c b) ∧ Lim r.2.1 q (s.2.1 177) 8 7 n) := by
  obtain ⟨lq1, lq2⟩ := (show ln (q + 1) = 7 ∧ ln (q + 2) = 7 from by subst hq; exact ⟨rfl, rfl⟩)
  have hq' : q = 47 := hq
  refine loop2 (fun k i x => f_X2_step_L36 42 q k (nI i) x) (fun k i x => f_X7_wears_L29 (nI c) k (nI i) x) n (fun _ (x y : Mem) => x.2 = M.2 ∧ y.2 = N.2 ∧ (∀ c b, c ≠ q + 2 → x.1 c b = M.1 c b) ∧ (∀ c b, ¬ (c = 177 ∧ 8 ≤ b ∧ b < 53 ∧ 5 ≤ (b - 4) % 7) → y.1 c b = N.1 c b) ∧ Lim x.1 q (y.1 177) 8 7 n) _ ?_ ?_ n 0 FU FU M N (by omega) (FU_gt (by omega)) (FU_gt (by omega)) ⟨rfl, rfl, fun _ _ _ => rfl, fun _ _ _ => rfl, hL⟩
  · intro k m x y h
    obtain ⟨h1, h2, h3, h4, h5⟩ := id h
    refine ⟨(nI n, x), (nI n, y), ?_, ?_, h⟩
    · show f_X2_step_L36 42 q (k + 1) (nI n) x = _
      rw [f_X2_step_L36]
      rw [h3 _ _ (by omega), e1, if_pos (nI_le (Nat.le_refl _) (by omega))]
    · show f_X7_wears_L29 (nI c) (m + 1) (nI n) y = _
      rw [f_X7_wears_L29]
      rw [l0, rd_n (by rw [ln_177]; decide) (by decide), ob_e, h4 _ _ (by omega), e2, if_pos (nI_le (Nat.le_refl _) (by omega))]
  · intro k m i x y hi h
    obtain ⟨h1, h2, h3, h4, h5⟩ := h
    obtain ⟨s1', s2', s3', s4', s5', s6', s7', s8'⟩ := hS i hi
    obtain ⟨L1, L2, L3, L4, L5⟩ := h5 i hi
    obtain ⟨w, hw, ew⟩ := nI_oI (n := 100) L4 (by decide)
    obtain ⟨g, hg, eg⟩ := nI_oI (n := 10) ⟨by have := s7'.1; omega, s7'.2⟩ (by decide)
    obtain ⟨c', hc1', hc2', ec', ewb⟩ := worn_e (w := w) (g := g) (by omega) (by omega) (M.1 q 1)
    have hcc : c' = c := (nI_eq (by omega) (by omega)).mp (by rw [← ec', hc])
    subst hcc
    have eM : f_X2_step_L36 42 q (k + 1) (nI i) x = f_X2_step_L36 42 q k (nI (i + 1)) (s1 x (q + 2) i (nI (if 99 < w + c' * g then 99 else w + c' * g))) := by
      rw [f_X2_step_L36]
      unfold f_X2_weightOf
      rw [h3 42 4 (by omega), e1, if_neg (nI_ge hi (by omega)), cell_n (by omega) (by omega), ob_e, cell_n (show i < ln (42 + 3) from by show i < 7; omega) (by decide), ob_e, ob_e, L2, ew, h3 (42 + 3) _ (by omega), s3', eg, h3 q 1 (by omega), ewb, put_n (by omega) (by omega), ob_e, lq_e, l1, nI_add]
    have hcg : c' * g ≤ 18 := Nat.le_trans (Nat.mul_le_mul hc2 (show g ≤ 9 by omega)) (by decide)
    have hcg1 : 1 ≤ g := by
      have := s7'.1
      rw [eg, nI_I (by omega)] at this
      omega
    have hcg0 : 1 ≤ c' * g := Nat.mul_le_mul hc1 hcg1
    by_cases hw99 : w = 99
    · subst hw99
      refine Or.inl ⟨_, y, eM, ?_, h1, h2, fun a b hab => by rw [s1_ne (by omega)]; exact h3 a b hab, h4, fun j hj => ?_⟩
      · show f_X7_wears_L29 (nI c') (m + 1) (nI i) y = f_X7_wears_L29 (nI c') m (nI (i + 1)) y
        rw [f_X7_wears_L29]
        rw [l0, rd_n (by rw [ln_177]; decide) (by decide), ob_e, h4 177 0 (by omega), e2, if_neg (nI_ge hi (by omega)), snapN (by omega) L5, ob_e, ew, snp_n (by omega), if_pos (Nat.le_refl _), if_neg (by decide), ob_e, lq_e, l1, nI_add]
      · by_cases e : j = i
        · subst e
          rw [s1_ne (by omega), s1_eq, if_pos (by omega), ew]
          rw [ew] at L5 L4
          exact ⟨L1, rfl, L3, L4, L5⟩
        · rw [s1_ne (by omega), s1_ne (by omega)]
          exact h5 j hj
    · refine Or.inl ⟨_, s1 (s1 y 177 (4 + 7 * i + 5) (nI (if 99 < w + c' * g then 99 else w + c' * g))) 177 (4 + 7 * i + 6) (snp (nI (if 99 < w + c' * g then 99 else w + c' * g))), eM, ?_, h1, h2, fun a b hab => by rw [s1_ne (by omega)]; exact h3 a b hab, fun a b hab => by rw [s1_ne (by omega), s1_ne (by omega)]; exact h4 a b hab, fun j hj => ?_⟩
      · show f_X7_wears_L29 (nI c') (m + 1) (nI i) y = f_X7_wears_L29 (nI c') m (nI (i + 1)) _
        rw [f_X7_wears_L29]
        rw [l0, rd_n (by rw [ln_177]; decide) (by decide), ob_e, h4 177 0 (by omega), e2, if_neg (nI_ge hi (by omega)), snapN (by omega) L5, ob_e, ew, snp_n (by omega), if_neg (show ¬ 99 ≤ w by omega)]
        rw [if_pos (show (0 : Int32) = nI 0 from rfl), l5, limbOf_n (by omega), ob_e, l2, limbOf_n (by omega), ob_e, lq_e, lq_e, show 4 + 7 * i + 5 = 8 + 7 * i + 1 by omega, ew, h4 177 (4 + 7 * i + 2) (by omega), eg, pk_mul, nI_add, ← mn1, min99 _ (by omega)]
        rw [sets_n (by omega), ob_e, lq_e, l6, sets_n (by omega), ob_e, ob_e, lq_e, l1, nI_add]
        have es : (if nI (w + c' * g) < (99 : Int32) then nI 0 else nI 1) = snp (nI (if 99 < w + c' * g then 99 else w + c' * g)) := by
          rw [snp_n (by split <;> omega), show (99 : Int32) = nI 99 from rfl]
          by_cases hx : w + c' * g < 99
          · rw [if_pos (nI_lt hx (by decide)), if_neg (by split <;> omega)]; rfl
          · rw [if_neg (nI_nlt (by omega) (by omega)), if_pos (by split <;> omega)]; rfl
        rw [es, show 8 + 7 * i + 1 = 4 + 7 * i + 5 by omega]
      · by_cases e : j = i
        · subst e
          rw [s1_ne (by omega), s1_eq, show 8 + 7 * j + 1 = 4 + 7 * j + 5 by omega, show 8 + 7 * j + 2 = 4 + 7 * j + 6 by omega, s1_ne (by omega), s1_ne (by omega), s1_ne (by omega), s1_eq, s1_eq]
          refine ⟨L1, rfl, L3, (oI_nI (by split <;> omega)).mpr ?_, rfl⟩
          split <;> omega
        · rw [s1_ne (by omega), s1_ne (by omega), s1_ne (by omega), s1_ne (by omega), s1_ne (by omega), s1_ne (by omega), s1_ne (by omega), s1_ne (by omega)]
          exact h5 j hj
theorem stepD_rel {q n k : Nat} {M N : Mem} {X : Int} (hq : q = 47) (hk : k < 5) (hX : X < 1000000000) (hn : n ≤ 7) (e1 : M.1 42 4 = nI n) (e2 : N.1 177 0 = nI n) (hS : Sta M.1 42 (N.1 177) n) (hQ : Pos M.1 q (N.1 177) 1 8 7 n X) : ∃ M' N', f_X2_step 42 q (nI k) M = some M' ∧ f_X7_goes (nI k) N = some N' ∧ M'.2 = M.2 ∧ N'.2 = N.2 ∧ (∀ c b, c ≠ q + 2 → ¬ (c = q ∧ b < 3) → M'.1 c b = M.1 c b) ∧ (∀ c b, ¬ (c = 177 ∧ (b = 1 ∨ b = 2 ∨ b = 3 ∨ (8 ≤ b ∧ b < 53 ∧ 5 ≤ (b - 4) % 7))) → N'.1 c b = N.1 c b) ∧ Pos M'.1 q (N'.1 177) 1 8 7 n (X + 1) ∧ M'.1 q 2 = M.1 q 2 + 1 := by
  have hq' : q = 47 := hq
  obtain ⟨⟨b1, b2, b3, b4, b5, b6⟩, hL⟩ := hQ
  obtain ⟨v, hv, ev⟩ := nI_oI (n := 41) b4 (by decide)
  obtain ⟨t, ht, et⟩ := oI_m4 b5
  obtain ⟨f1, f2⟩ := lift_e v hv k hk
  obtain ⟨f3, f4⟩ := tilt_e t ht k hk
  rw [← ev] at f1 f2
  have et' : N.1 177 2 = nI t - 4 := et
  rw [← et'] at f3 f4
  have hm : ∃ m : Nat, m < 1000000000 ∧ N.1 177 3 = nI m := by
    refine ⟨(N.1 177 (1 + 2)).toInt.toNat, by omega, ?_⟩
    rw [← Int32.toInt_inj, nI_I (by omega)]
    show (N.1 177 (1 + 2)).toInt = _
    omega
  obtain ⟨m, hm, em⟩ := hm
  have b2' : M.1 q 1 = N.1 177 2 := b2
  have b3' : M.1 q 2 = N.1 177 3 := b3
  rw [goes_e, wears_e]
  unfold f_X2_step
  rw [lq_e, lq_e, lq_e]
  rw [show (s1 (s1 M q 0 (f_X6_liftBehind (M.1 q 0) (nI k))) q 1 (f_X6_tiltBehind ((s1 M q 0 (f_X6_liftBehind (M.1 q 0) (nI k))).1 q 1) (nI k))).1 q 2 = M.1 q 2 from by rw [s1_ne (by omega), s1_ne (by omega)]]
  rw [show (s1 M q 0 (f_X6_liftBehind (M.1 q 0) (nI k))).1 q 1 = M.1 q 1 from by rw [s1_ne (by omega)]]
  rw [b1, b2', f1, f3, b3']
  obtain ⟨c, hc1, hc2, hc⟩ := times_n (mTilt (N.1 177 2) (nI k))
  rw [show (s1 (s1 (s1 N 177 1 (mLift (N.1 177 1) (nI k))) 177 2 (mTilt (N.1 177 2) (nI k))) 177 3 (N.1 177 3 + 1)).1 177 2 = mTilt (N.1 177 2) (nI k) from by rw [s1_ne (by omega), s1_eq], hc]
  obtain ⟨⟨r1, r2⟩, ⟨z1, z2⟩, k1, k2, g1, g2, g3, g4, g5⟩ := wearD_L (q := q) (n := n) (c := c) (M := s1 (s1 (s1 M q 0 (mLift (N.1 177 1) (nI k))) q 1 (mTilt (N.1 177 2) (nI k))) q 2 (N.1 177 3 + 1)) (N := s1 (s1 (s1 N 177 1 (mLift (N.1 177 1) (nI k))) 177 2 (mTilt (N.1 177 2) (nI k))) 177 3 (N.1 177 3 + 1)) hq hn (by rw [s1_ne (by omega), s1_ne (by omega), s1_ne (by omega)]; exact e1) (by rw [s1_ne (by omega), s1_ne (by omega), s1_ne (by omega)]; exact e2) (hS.congr (fun a i _ _ _ => by rw [s1_ne (by omega), s1_ne (by omega), s1_ne (by omega)]) (fun i w _ _ => by rw [s1_ne (by omega), s1_ne (by omega), s1_ne (by omega)])) (hL.congr (fun a i ha _ => by rw [s1_ne (by omega), s1_ne (by omega), s1_ne (by omega)]) (fun i w _ _ => by rw [s1_ne (by omega), s1_ne (by omega), s1_ne (by omega)])) (by rw [s1_ne (by omega), s1_eq]; exact hc) hc1 hc2
  rw [l0, k1, k2, ob2_e, ob2_e, ob_e]
  have g3' : ∀ c b, c ≠ q + 2 → r2.1 c b = (s1 (s1 (s1 M q 0 (mLift (N.1 177 1) (nI k))) q 1 (mTilt (N.1 177 2) (nI k))) q 2 (N.1 177 3 + 1)).1 c b := g3
  have g4' : ∀ c b, ¬ (c = 177 ∧ 8 ≤ b ∧ b < 53 ∧ 5 ≤ (b - 4) % 7) → z2.1 c b = (s1 (s1 (s1 N 177 1 (mLift (N.1 177 1) (nI k))) 177 2 (mTilt (N.1 177 2) (nI k))) 177 3 (N.1 177 3 + 1)).1 c b := g4
  have y1 : z2.1 177 1 = mLift (N.1 177 1) (nI k) := by rw [g4' _ _ (by omega), s1_ne (by omega), s1_ne (by omega), s1_eq]
  have y2 : z2.1 177 (1 + 1) = mTilt (N.1 177 2) (nI k) := by rw [g4' _ _ (by omega), s1_ne (by omega), s1_eq]
  have y3 : z2.1 177 (1 + 2) = N.1 177 3 + 1 := by rw [g4' _ _ (by omega), s1_eq]
  refine ⟨r2, z2, rfl, rfl, g1, g2, fun c b q1 q2 => ?_, fun c b q1 => ?_, ⟨⟨?_, ?_, ?_, ?_, ?_, ?_⟩, g5⟩, ?_⟩
  · rw [g3' c b q1, s1_ne (by omega), s1_ne (by omega), s1_ne (by omega)]
  · rw [g4' c b (by omega), s1_ne (by omega), s1_ne (by omega), s1_ne (by omega)]
  · rw [y1, g3' _ _ (by omega), s1_ne (by omega), s1_ne (by omega), s1_eq]
  · rw [y2, g3' _ _ (by omega), s1_ne (by omega), s1_eq]
  · rw [y3, g3' _ _ (by omega), s1_eq]
  · rw [y1]; exact f2
  · rw [y2]; exact f4
  · rw [y3, em, nI_1, oI_nI (by omega)]
    have : (N.1 177 (1 + 2)).toInt = (m : Int) := by
      show (N.1 177 3).toInt = _
      rw [em, nI_I (by omega)]
    omega
  · rw [g3' _ _ (by omega), s1_eq]
