theorem goes_e {N : Mem} (a : Int32) : f_X7_goes a N = ob (f_X7_wears (s1 (s1 (s1 N 177 1 (mLift (N.1 177 1) a)) 177 2 (mTilt (N.1 177 2) a)) 177 3 (N.1 177 3 + 1))) some := by
  have hb : ∀ k, k < 340 → k < ln 177 := fun k h => by rw [ln_177]; exact h
  unfold f_X7_goes
  rw [show rd N 177 (1 : Int32) = some (N.1 177 1) from rd_n (k := 1) (hb _ (by decide)) (by decide), ob_e, lq_e, lq_e, show rd N 177 (2 : Int32) = some (N.1 177 2) from rd_n (k := 2) (hb _ (by decide)) (by decide), ob_e, lq_e, lq_e, lq_e]
  rw [show ∀ v, wr N 177 (1 : Int32) v = some (s1 N 177 1 v) from fun v => wr_n (k := 1) (hb _ (by decide)) (by decide), ob_e, lq_e, show ∀ (K : Mem) v, wr K 177 (2 : Int32) v = some (s1 K 177 2 v) from fun K v => wr_n (k := 2) (hb _ (by decide)) (by decide), ob_e, show ∀ (K : Mem), rd K 177 (3 : Int32) = some (K.1 177 3) from fun K => rd_n (k := 3) (hb _ (by decide)) (by decide), ob_e, show ∀ (K : Mem) v, wr K 177 (3 : Int32) v = some (s1 K 177 3 v) from fun K v => wr_n (k := 3) (hb _ (by decide)) (by decide), ob_e]
  rw [s1_ne (by omega), s1_ne (by omega)]
  rfl
theorem wears_e {N : Mem} : f_X7_wears N = ob2 (f_X7_wears_L29 (mTimes (N.1 177 2)) FU (nI 0) N) (fun _ M9 => some M9) := by
  unfold f_X7_wears mTimes
  rw [show rd N 177 (2 : Int32) = some (N.1 177 2) from rd_n (k := 2) (by rw [ln_177]; decide) (by decide), ob_e, ob_e]
  by_cases h4 : N.1 177 2 = 4
  · rw [if_pos h4, if_pos h4, ob_e]; rfl
  · rw [if_neg h4, if_neg h4]
    by_cases h5 : N.1 177 2 = -4
    · rw [if_pos h5, if_pos h5, ob_e]; rfl
    · rw [if_neg h5, if_neg h5, ob_e]; rfl
theorem times_n (t : Int32) : ∃ c : Nat, 1 ≤ c ∧ c ≤ 2 ∧ mTimes t = nI c := by
  obtain ⟨c, h1, h2, h3, _⟩ := worn_e (w := 0) (g := 0) (by omega) (by omega) t
  exact ⟨c, h1, h2, h3⟩
theorem step_rel {q n k : Nat} {M N : Mem} {X : Int} (hq : isT q) (hk : k < 5) (hX : X < 1000000000) (hn : n ≤ 7) (e1 : M.1 1 4 = nI n) (e2 : N.1 177 0 = nI n) (hS : Sta M.1 1 (N.1 177) n) (hQ : Pos M.1 q (N.1 177) 1 8 7 n X) : ∃ M' N', f_X2_step 1 q (nI k) M = some M' ∧ f_X7_goes (nI k) N = some N' ∧ M'.2 = M.2 ∧ N'.2 = N.2 ∧ (∀ c b, c ≠ q + 2 → ¬ (c = q ∧ b < 3) → M'.1 c b = M.1 c b) ∧ (∀ c b, ¬ (c = 177 ∧ (b = 1 ∨ b = 2 ∨ b = 3 ∨ (8 ≤ b ∧ b < 53 ∧ 5 ≤ (b - 4) % 7))) → N'.1 c b = N.1 c b) ∧ Pos M'.1 q (N'.1 177) 1 8 7 n (X + 1) ∧ M'.1 q 2 = M.1 q 2 + 1 := by
  have hq' : q = 6 ∨ q = 172 := hq
  obtain ⟨⟨b1, b2, b3, b4, b5, b6⟩, hL⟩ := hQ
  obtain ⟨v, hv, ev⟩ := nI_oI (n := 41) b4 (by decide)
  obtain ⟨t, ht, et⟩ := oI_m4 b5
  obtain ⟨f1, f2⟩ := lift_e v hv k hk
  obtain ⟨f3, f4⟩ := tilt_e t ht k hk
  rw [← ev] at f1 f2
  have et' : N.1 177 2 = nI t - 4 := et
  rw [← et'] at f3 f4
  have hm : ∃ m : Nat, m < 1000000000 ∧ N.1 177 3 = nI m := by
    refine ⟨(N.1 177 (1 + 2)).toInt.toNat, by omega, ?_⟩
    rw [← Int32.toInt_inj, nI_I (by omega)]
    show (N.1 177 (1 + 2)).toInt = _
    omega
  obtain ⟨m, hm, em⟩ := hm
  have b2' : M.1 q 1 = N.1 177 2 := b2
  have b3' : M.1 q 2 = N.1 177 3 := b3
  rw [goes_e, wears_e]
  unfold f_X2_step
  rw [lq_e, lq_e, lq_e]
  rw [show (s1 (s1 M q 0 (f_X6_liftBehind (M.1 q 0) (nI k))) q 1 (f_X6_tiltBehind ((s1 M q 0 (f_X6_liftBehind (M.1 q 0) (nI k))).1 q 1) (nI k))).1 q 2 = M.1 q 2 from by rw [s1_ne (by omega), s1_ne (by omega)]]
  rw [show (s1 M q 0 (f_X6_liftBehind (M.1 q 0) (nI k))).1 q 1 = M.1 q 1 from by rw [s1_ne (by omega)]]
  rw [b1, b2', f1, f3, b3']
  obtain ⟨c, hc1, hc2, hc⟩ := times_n (mTilt (N.1 177 2) (nI k))
  rw [show (s1 (s1 (s1 N 177 1 (mLift (N.1 177 1) (nI k))) 177 2 (mTilt (N.1 177 2) (nI k))) 177 3 (N.1 177 3 + 1)).1 177 2 = mTilt (N.1 177 2) (nI k) from by rw [s1_ne (by omega), s1_eq], hc]
  obtain ⟨⟨r1, r2⟩, ⟨z1, z2⟩, k1, k2, g1, g2, g3, g4, g5⟩ := wear_L (q := q) (n := n) (c := c) (M := s1 (s1 (s1 M q 0 (mLift (N.1 177 1) (nI k))) q 1 (mTilt (N.1 177 2) (nI k))) q 2 (N.1 177 3 + 1)) (N := s1 (s1 (s1 N 177 1 (mLift (N.1 177 1) (nI k))) 177 2 (mTilt (N.1 177 2) (nI k))) 177 3 (N.1 177 3 + 1)) hq hn (by rw [s1_ne (by omega), s1_ne (by omega), s1_ne (by omega)]; exact e1) (by rw [s1_ne (by omega), s1_ne (by omega), s1_ne (by omega)]; exact e2) (hS.congr (fun a i _ _ _ => by rw [s1_ne (by omega), s1_ne (by omega), s1_ne (by omega)]) (fun i w _ _ => by rw [s1_ne (by omega), s1_ne (by omega), s1_ne (by omega)])) (hL.congr (fun a i ha _ => by rw [s1_ne (by omega), s1_ne (by omega), s1_ne (by omega)]) (fun i w _ _ => by rw [s1_ne (by omega), s1_ne (by omega), s1_ne (by omega)])) (by rw [s1_ne (by omega), s1_eq]; exact hc) hc1 hc2
  rw [l0, k1, k2, ob2_e, ob2_e, ob_e]
  have g3' : ∀ c b, c ≠ q + 2 → r2.1 c b = (s1 (s1 (s1 M q 0 (mLift (N.1 177 1) (nI k))) q 1 (mTilt (N.1 177 2) (nI k))) q 2 (N.1 177 3 + 1)).1 c b := g3
  have g4' : ∀ c b, ¬ (c = 177 ∧ 8 ≤ b ∧ b < 53 ∧ 5 ≤ (b - 4) % 7) → z2.1 c b = (s1 (s1 (s1 N 177 1 (mLift (N.1 177 1) (nI k))) 177 2 (mTilt (N.1 177 2) (nI k))) 177 3 (N.1 177 3 + 1)).1 c b := g4
  have y1 : z2.1 177 1 = mLift (N.1 177 1) (nI k) := by rw [g4' _ _ (by omega), s1_ne (by omega), s1_ne (by omega), s1_eq]
  have y2 : z2.1 177 (1 + 1) = mTilt (N.1 177 2) (nI k) := by rw [g4' _ _ (by omega), s1_ne (by omega), s1_eq]
  have y3 : z2.1 177 (1 + 2) = N.1 177 3 + 1 := by rw [g4' _ _ (by omega), s1_eq]
  refine ⟨r2, z2, rfl, rfl, g1, g2, fun c b q1 q2 => ?_, fun c b q1 => ?_, ⟨⟨?_, ?_, ?_, ?_, ?_, ?_⟩, g5⟩, ?_⟩
  · rw [g3' c b q1, s1_ne (by omega), s1_ne (by omega), s1_ne (by omega)]
  · rw [g4' c b (by omega), s1_ne (by omega), s1_ne (by omega), s1_ne (by omega)]
  · rw [y1, g3' _ _ (by omega), s1_ne (by omega), s1_ne (by omega), s1_eq]
  · rw [y2, g3' _ _ (by omega), s1_ne (by omega), s1_eq]
  · rw [y3, g3' _ _ (by omega), s1_eq]
  · rw [y1]; exact f2
  · rw [y2]; exact f4
  · rw [y3, em, nI_1, oI_nI (by omega)]
    have : (N.1 177 (1 + 2)).toInt = (m : Int) := by
      show (N.1 177 3).toInt = _
      rw [em, nI_I (by omega)]
    omega
  · rw [g3' _ _ (by omega), s1_eq]
theorem snapped_rel {q n : Nat} {M N : Mem} (hq : isT q) (hn : n ≤ 7) (e1 : M.1 1 4 = nI n) (e2 : N.1 177 0 = nI n) (hL : Lim M.1 q (N.1 177) 8 7 n) : ∃ x, f_X2_snappedIn 1 q M = some x ∧ f_X7_snapped N = some x := by
  obtain ⟨lq1, lq2⟩ := ln_t hq
  obtain ⟨r, s, k1, k2, k3⟩ : ∃ r s, f_X2_snappedIn_L4 1 q M FU (nI 0) (nI 0) = some r ∧ f_X7_snapped_L4 N FU (nI 0) (nI 0) = some s ∧ r = s := by
    refine loop2 (fun k i x => f_X2_snappedIn_L4 1 q M k x (nI i)) (fun k i x => f_X7_snapped_L4 N k x (nI i)) n (fun _ x y => x = y) (fun r s => r = s) ?_ ?_ n 0 FU FU (nI 0) (nI 0) (by omega) (FU_gt (by omega)) (FU_gt (by omega)) rfl
    · intro k m x y h
      refine ⟨x, y, ?_, ?_, h⟩
      · show f_X2_snappedIn_L4 1 q M (k + 1) x (nI n) = _
        rw [f_X2_snappedIn_L4]
        rw [e1, if_pos (nI_le (Nat.le_refl _) (by omega))]
      · show f_X7_snapped_L4 N (m + 1) y (nI n) = _
        rw [f_X7_snapped_L4]
        rw [l0, rd_n (by rw [ln_177]; decide) (by decide), ob_e, e2, if_pos (nI_le (Nat.le_refl _) (by omega))]
    · intro k m i x y hi h
      subst h
      obtain ⟨L1, L2, L3, L4, L5⟩ := hL i hi
      refine Or.inl ⟨x + snp (N.1 177 (8 + 7 * i + 1)), x + snp (N.1 177 (8 + 7 * i + 1)), ?_, ?_, rfl⟩
      · show f_X2_snappedIn_L4 1 q M (k + 1) x (nI i) = f_X2_snappedIn_L4 1 q M k _ (nI (i + 1))
        rw [f_X2_snappedIn_L4]
        rw [e1, if_neg (nI_ge hi (by omega)), cell_n (by omega) (by omega), ob_e, lq_e, lq_e, snapM, L2]
        unfold snp
        by_cases c : 99 ≤ (N.1 177 (8 + 7 * i + 1)).toInt
        · rw [if_pos c, if_neg (by decide), lq_e, nI_1]
        · rw [if_neg c, if_pos rfl, nI_1, Int32.add_zero]
      · show f_X7_snapped_L4 N (m + 1) x (nI i) = f_X7_snapped_L4 N m _ (nI (i + 1))
        rw [f_X7_snapped_L4]
        rw [l0, rd_n (by rw [ln_177]; decide) (by decide), ob_e, e2, if_neg (nI_ge hi (by omega)), l6, limbOf_n (by omega), ob_e, lq_e, lq_e, nI_1, show 4 + 7 * i + 6 = 8 + 7 * i + 2 by omega, L5]
  subst k3
  unfold f_X2_snappedIn f_X7_snapped
  rw [l0, k1, k2, ob_e]
  exact ⟨r, rfl, rfl⟩
theorem highFrom_rel {q n i : Nat} {h : Int32} {M N : Mem} {X : Int} (hq : isT q) (hn : n ≤ 7) (hi : i < n) (hS : Sta M.1 1 (N.1 177) n) (hQ : Pos M.1 q (N.1 177) 1 8 7 n X) : ∃ x, f_X2_highFrom 1 (nI i) (f_X6_holeAt (M.1 q 0) (M.1 q 1) h) (M.1 (q + 2) i) (M.1 q 2) M = some x ∧ f_X7_highIn (nI i) h N = some x := by
  obtain ⟨lq1, lq2⟩ := ln_t hq
  obtain ⟨⟨b1, b2, b3, b4, b5, b6⟩, hL⟩ := hQ
  obtain ⟨L1, L2, L3, L4, L5⟩ := hL i hi
  obtain ⟨s1', s2', s3', s4', s5', s6', s7', s8'⟩ := hS i hi
  have b2' : M.1 q 1 = N.1 177 2 := b2
  have b3' : M.1 q 2 = N.1 177 3 := b3
  have hb : ∀ k, k < 340 → k < ln 177 := fun k h => by rw [ln_177]; exact h
  obtain ⟨m, hm, em⟩ := nI_of (x := N.1 177 3) (by rw [Int32.lt_iff_toInt_lt]; have : 0 ≤ (N.1 177 3).toInt := b6.1; rw [show (0 : Int32).toInt = 0 from by decide]; omega)
  unfold f_X2_highFrom f_X7_highIn f_X6_holeAt
  rw [snapN (by omega) L5, ob_e, snapM, L2]
  by_cases hc : 99 ≤ (N.1 177 (8 + 7 * i + 1)).toInt
  · rw [show snp (N.1 177 (8 + 7 * i + 1)) = 1 from by unfold snp; rw [if_pos hc], if_neg (by decide), if_neg (by decide)]
    exact ⟨_, rfl, rfl⟩
  · rw [show snp (N.1 177 (8 + 7 * i + 1)) = 0 from by unfold snp; rw [if_neg hc], if_pos rfl, if_pos rfl]
    rw [cell_n (show i < ln (1 + 2) from by show i < 7; omega) (by decide), ob_e, cell_n (show i < ln (1 + 4) from by show i < 7; omega) (by decide), ob_e, cell_n (show i < ln (1 + 3) from by show i < 7; omega) (by decide), ob_e, lq_e, cell_n (show i < ln (1 + 1) from by show i < 7; omega) (by decide), ob_e]
    rw [show rd N 177 (1 : Int32) = some (N.1 177 1) from rd_n (k := 1) (hb _ (by decide)) (by decide), ob_e, show rd N 177 (2 : Int32) = some (N.1 177 2) from rd_n (k := 2) (hb _ (by decide)) (by decide), ob_e, lq_e, show f_X7_limbOf (nI i) (0 : Int32) N = some (N.1 177 (4 + 7 * i)) from limbOf_n (w := 0) (by omega), ob_e, show f_X7_limbOf (nI i) (1 : Int32) N = some (N.1 177 (4 + 7 * i + 1)) from limbOf_n (w := 1) (by omega), ob_e, show f_X7_limbOf (nI i) (3 : Int32) N = some (N.1 177 (4 + 7 * i + 3)) from limbOf_n (w := 3) (by omega), ob_e, show f_X7_limbOf (nI i) (2 : Int32) N = some (N.1 177 (4 + 7 * i + 2)) from limbOf_n (w := 2) (by omega), ob_e, show f_X7_limbOf (nI i) (5 : Int32) N = some (N.1 177 (4 + 7 * i + 5)) from limbOf_n (w := 5) (by omega), ob_e, show rd N 177 (3 : Int32) = some (N.1 177 3) from rd_n (k := 3) (hb _ (by decide)) (by decide), ob_e]
    obtain ⟨k1, hk1, ek1⟩ := nI_oI (n := 6) s5' (by decide)
    obtain ⟨k2, hk2, ek2⟩ := nI_oI (n := 6) s6' (by decide)
    rw [s1', s2', s3', s4', b1, b2', b3', em, ek1, ek2, drops_e (by omega), high_e (by omega) hm, show 4 + 7 * i + 5 = 8 + 7 * i + 1 by omega]
    exact ⟨_, rfl, rfl⟩
theorem highIn_rel {q n i : Nat} {M N : Mem} {X : Int} (hq : isT q) (hn : n ≤ 7) (hi : i < n) (hS : Sta M.1 1 (N.1 177) n) (hQ : Pos M.1 q (N.1 177) 1 8 7 n X) : ∃ x, f_X2_highIn 1 q (nI i) M = some x ∧ f_X7_high (nI i) N = some x := by
  obtain ⟨lq1, lq2⟩ := ln_t hq
  obtain ⟨L1, L2, L3, L4, L5⟩ := hQ.2 i hi
  obtain ⟨x, k1, k2⟩ := highFrom_rel (h := N.1 177 (8 + 7 * i)) hq hn hi hS hQ
  unfold f_X2_highIn f_X7_high
  rw [cell_n (by omega) (by omega), ob_e, lq_e, cell_n (by omega) (by omega), ob_e, L1, k1, l4, limbOf_n (by omega), ob_e, show 4 + 7 * i + 4 = 8 + 7 * i by omega, ob_e, k2]
  exact ⟨x, rfl, rfl⟩
