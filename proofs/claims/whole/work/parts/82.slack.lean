/-! slack by odds -/
theorem lA (a b : Nat) : lN a + lN b = lN (a + b) := (Int64.ofNat_add a b).symm
theorem lM (a b : Nat) : lN a * lN b = lN (a * b) := (Int64.ofNat_mul a b).symm
theorem lI {n : Nat} (h : n < 9223372036854775808) : (lN n).toInt = (n : Int) := pk_lT (show n < 2 ^ 63 from h)
theorem l_ne {y : Nat} (h0 : 0 < y) (h : y < 9223372036854775808) : ¬ lN y = (0 : Int64) := fun q => by
  have := congrArg Int64.toInt q
  rw [lI h, show (0 : Int64).toInt = 0 by decide] at this
  omega
theorem rm_n {x y : Nat} (hx : x < 9223372036854775808) (h0 : 0 < y) (hy : y < 9223372036854775808) : rmL (lN x) (lN y) = some (lN (x % y)) := by
  unfold rmL
  rw [if_neg (l_ne h0 hy), pk_lRem (show x < 2 ^ 63 from hx) h0 (show y < 2 ^ 63 from hy)]
theorem dv_n {x y : Nat} (hx : x < 9223372036854775808) (h0 : 0 < y) (hy : y < 9223372036854775808) : dvL (lN x) (lN y) = some (lN (x / y)) := by
  unfold dvL
  rw [if_neg (l_ne h0 hy), pk_lDiv (show x < 2 ^ 63 from hx) h0 (show y < 2 ^ 63 from hy)]
theorem L6_0 (f x : Nat) : f_X7_fraction_L6 (f + 1) (lN x) (lN 0) = some (lN x) := by
  rw [f_X7_fraction_L6]
  rw [if_pos ((lg_eq _ _).mpr (show lN 0 = (0 : Int64) from rfl))]
theorem L6_s {f x y : Nat} (hx : x < 9223372036854775808) (h0 : 0 < y) (hy : y < 9223372036854775808) : f_X7_fraction_L6 (f + 1) (lN x) (lN y) = f_X7_fraction_L6 f (lN y) (lN (x % y)) := by
  rw [f_X7_fraction_L6]
  rw [if_neg (fun q => l_ne h0 hy ((lg_eq _ _).mp q)), rm_n hx h0 hy, ob_e]
theorem l100 : (100 : Int32) = nI 100 := rfl
theorem L9_0 {f x c : Nat} (hc : c < 100) : f_X6_setFraction_L9 (f + 1) (lN x) (lN 0) (nI c) = some (lN x) := by
  rw [f_X6_setFraction_L9]
  rw [l100, if_neg (nI_ge hc (by decide)), if_pos ((lg_eq _ _).mpr (show lN 0 = (0 : Int64) from rfl))]
theorem L9_s {f x y c : Nat} (hc : c < 100) (hx : x < 9223372036854775808) (h0 : 0 < y) (hy : y < 9223372036854775808) : f_X6_setFraction_L9 (f + 1) (lN x) (lN y) (nI c) = f_X6_setFraction_L9 f (lN y) (lN (x % y)) (nI (c + 1)) := by
  rw [f_X6_setFraction_L9]
  rw [l100, if_neg (nI_ge hc (by decide)), if_neg (fun q => l_ne h0 hy ((lg_eq _ _).mp q)), rm_n hx h0 hy, ob_e, lq_e, nI_1]
theorem g_step (x y : Nat) : Nat.gcd x y = Nat.gcd y (x % y) := by
  rw [Nat.gcd_comm x y, Nat.gcd_rec y x, Nat.gcd_comm]
theorem gcd_l : ∀ (k x y f g c : Nat), y < 2 ^ k → k ≤ 20 → x < 1099511627776 → 2 * k < f → 2 * k < g → c + 2 * k < 100 → f_X7_fraction_L6 f (lN x) (lN y) = some (lN (Nat.gcd x y)) ∧ f_X6_setFraction_L9 g (lN x) (lN y) (nI c) = some (lN (Nat.gcd x y)) := by
  intro k
  induction k with
  | zero =>
    intro x y f g c hy hk hx hf hg hc
    obtain ⟨f', rfl⟩ : ∃ f', f = f' + 1 := ⟨f - 1, by omega⟩
    obtain ⟨g', rfl⟩ : ∃ g', g = g' + 1 := ⟨g - 1, by omega⟩
    have : y = 0 := by omega
    subst this
    rw [L6_0, L9_0 (by omega), Nat.gcd_zero_right]
    exact ⟨rfl, rfl⟩
  | succ k ih =>
    intro x y f g c hy hk hx hf hg hc
    obtain ⟨f', rfl⟩ : ∃ f', f = f' + 1 + 1 + 1 := ⟨f - 3, by omega⟩
    obtain ⟨g', rfl⟩ : ∃ g', g = g' + 1 + 1 + 1 := ⟨g - 3, by omega⟩
    have h20 : 2 ^ (k + 1) ≤ 2 ^ 20 := Nat.pow_le_pow_right (by decide) hk
    have h20 : 2 ^ (k + 1) ≤ 1048576 := h20
    by_cases y0 : y = 0
    · subst y0
      rw [L6_0, L9_0 (by omega), Nat.gcd_zero_right]
      exact ⟨rfl, rfl⟩
    · have hr : x % y < y := Nat.mod_lt _ (by omega)
      rw [L6_s (by omega) (by omega) (by omega), L9_s (by omega) (by omega) (by omega) (by omega), g_step x y]
      generalize x % y = r at hr
      by_cases r0 : r = 0
      · subst r0
        rw [L6_0, L9_0 (by omega), Nat.gcd_zero_right]
        exact ⟨rfl, rfl⟩
      · have hs : y % r < r := Nat.mod_lt _ (by omega)
        have hs2 : y % r ≤ y - r := by
          rw [Nat.mod_eq_sub_mod (by omega)]
          exact Nat.mod_le _ _
        rw [L6_s (by omega) (by omega) (by omega), L9_s (by omega) (by omega) (by omega) (by omega), g_step y r]
        rw [Nat.pow_succ] at hy
        exact ih r (y % r) (f' + 1) (g' + 1) (c + 1 + 1) (by omega) (by omega) (by omega) (by omega) (by omega) (by omega)
theorem frac_rel {A T : Nat} {M N : Mem} (hA : A ≤ T) (hT : 0 < T) (hT2 : T < 1048576) (hR : Rel M N) : ∃ M' N', f_X6_setFraction (lN A) (lN T) M = some M' ∧ f_X7_fraction (lN A) (lN T) N = some (1, N') ∧ Rel M' N' := by
  obtain ⟨_, k2⟩ := gcd_l 20 T A FU FU 0 (show A < 1048576 by omega) (by omega) (by omega) (FU_gt (by omega)) (FU_gt (by omega)) (by omega)
  have hm : A % T ≤ A := Nat.mod_le _ _
  obtain ⟨k3, _⟩ := gcd_l 20 T (A % T) 3999 FU 0 (show A % T < 1048576 by omega) (by omega) (by omega) (by omega) (FU_gt (by omega)) (by omega)
  have k3 : f_X7_fraction_L6 FU (lN A) (lN T) = some (lN (Nat.gcd T A)) := by
    show f_X7_fraction_L6 (3999 + 1) (lN A) (lN T) = _
    rw [L6_s (by omega) hT (by omega), k3, ← g_step A T, Nat.gcd_comm]
  have hg : 0 < Nat.gcd T A := Nat.gcd_pos_of_pos_left _ hT
  have hg2 : Nat.gcd T A ≤ T := Nat.gcd_le_left _ hT
  generalize Nat.gcd T A = g at k2 k3 hg hg2
  refine ⟨s2 (s2 M 0 11 (lN (A / g))) 0 12 (lN (T / g)), s2 (s2 N 176 4 (lN (A / g))) 176 5 (lN (T / g)), ?_, ?_, ?_⟩
  · unfold f_X6_setFraction
    rw [l0, k2, ob_e, if_neg (fun q => by
      have h1 : (0 : Int32) < lg_cmp (lN g) 0 := (lg_gt _ _).mpr (by rw [lI (by omega), show (0 : Int64).toInt = 0 by decide]; omega)
      exact (ilt _ _).mpr q h1), dv_n (by omega) hg (by omega), ob_e, lq_e, dv_n (by omega) hg (by omega), ob_e, lq_e]
  · unfold f_X7_fraction
    rw [k3, ob_e, dv_n (by omega) hg (by omega), ob_e, lq_e, dv_n (by omega) hg (by omega), ob_e, lq_e]
  · obtain ⟨hP, h1, h2, h3, h4, h5⟩ := hR
    refine ⟨hP, h1, h2, h3, h4, h5.1, h5.2.1, h5.2.2.1, ?_, ?_⟩
    · rw [s2_at, if_pos rfl, if_neg (by decide), s2_at, if_pos rfl, if_pos rfl, s2_at, if_pos rfl, if_neg (by decide), s2_at, if_pos rfl, if_pos rfl]
    · rw [s2_at, if_pos rfl, if_pos rfl, s2_at, if_pos rfl, if_pos rfl]
def wt (p m : Nat) : Nat → Nat → Nat
  | 0, _ => 1
  | k + 1, t => (if Bt m t = true then p else 10 - p) * wt p m k (t + 1)
def tot (p b : Nat) : Nat → Nat
  | 0 => 0
  | m + 1 => tot p b m + wt p m b 0
theorem tot_e : ∀ b, b < 7 → ∀ p, p < 11 → tot p b (2 ^ b) = 10 ^ b := by decide +kernel
theorem sh_b : ∀ b, b < 7 → ((1 : Int32) <<< (nI b &&& 31)) = nI (2 ^ b) := by decide +kernel
theorem ten_b : ∀ b, b < 7 → f_X6_slack_L33 (nI b) FU (1 : Int64) (0 : Int32) = some (lN (10 ^ b)) := by decide +kernel
theorem pL : ∀ p, p < 11 → (nI p).toInt64 = lN p ∧ ((10 : Int32) - nI p).toInt64 = lN (10 - p) := by decide +kernel
theorem slack55 {M N : Mem} {n b p m : Nat} (hb : b ≤ 6) (hp : p ≤ 10) (hn : n ≤ 7) (e1 : M.1 1 4 = nI n) (e2 : N.1 177 0 = nI n) (hS : Sta M.1 1 (N.1 177) n) (hD : Dan M.1 1 (N.1 177)) : ∀ (k t f g w : Nat) (Mv Y : Mem), t + k = b → k < f → k < g → Tr M N Mv Y n (9999 + (t : Int)) → ∃ Mv' Y', f_X6_chanceOfSlack_L64 (nI b) (nI p) (nI m) f (lN w) (nI t) Mv = some (lN (w * wt p m k t), Mv') ∧ f_X7_slack_L55 (nI b) (nI p) (nI m) g (lN w) (nI t) Y = some (lN (w * wt p m k t), Y') ∧ Tr M N Mv' Y' n (9999 + (b : Int)) := by
  intro k
  induction k with
  | zero =>
    intro t f g w Mv Y ht hf hg hT
    obtain ⟨f', rfl⟩ : ∃ f', f = f' + 1 := ⟨f - 1, by omega⟩
    obtain ⟨g', rfl⟩ : ∃ g', g = g' + 1 := ⟨g - 1, by omega⟩
    have : t = b := by omega
    subst this
    refine ⟨Mv, Y, ?_, ?_, hT⟩
    · rw [f_X6_chanceOfSlack_L64]
      rw [if_pos (nI_le (Nat.le_refl _) (by omega)), wt, Nat.mul_one]
    · rw [f_X7_slack_L55]
      rw [if_pos (nI_le (Nat.le_refl _) (by omega)), wt, Nat.mul_one]
  | succ k ih =>
    intro t f g w Mv Y ht hf hg hT
    obtain ⟨f', rfl⟩ : ∃ f', f = f' + 1 := ⟨f - 1, by omega⟩
    obtain ⟨g', rfl⟩ : ∃ g', g = g' + 1 := ⟨g - 1, by omega⟩
    obtain ⟨p1, p2⟩ := pL p (by omega)
    have hbit : (if ((nI m >>> (nI t &&& 31)) &&& (1 : Int32)) = (1 : Int32) then (1 : Int32) else (0 : Int32)) = f_X6_hasBit (nI m) (nI t) := rfl
    by_cases h : Bt m t = true
    · have hz : ¬ f_X6_hasBit (nI m) (nI t) = 0 := fun q => (hasB m t).mp q h
      obtain ⟨M', N', f1, f2, f3⟩ := trial_step (k := 4) (by omega) (by omega) hn e1 e2 hS hT
      have f1 : f_X2_step 1 172 (4 : Int32) Mv = some M' := f1
      have f2 : f_X7_goes (4 : Int32) Y = some N' := f2
      obtain ⟨Mv', Y', q1, q2, q3⟩ := ih (t + 1) f' g' (w * p) M' N' (by omega) (by omega) (by omega) (by rw [show (9999 : Int) + ((t + 1 : Nat) : Int) = 9999 + (t : Int) + 1 by omega]; exact f3)
      have ew : w * wt p m (k + 1) t = w * p * wt p m k (t + 1) := by rw [wt, if_pos h, Nat.mul_assoc]
      refine ⟨Mv', Y', ?_, ?_, q3⟩
      · rw [ew, ← q1, f_X6_chanceOfSlack_L64]
        rw [if_neg (nI_ge (by omega) (by omega)), lq_e, lq_e, lq_e, if_neg hz, if_neg hz, ob_e, f1, ob_e, lq_e, nI_1, p1, lM]
      · rw [ew, ← q2, f_X7_slack_L55]
        rw [if_neg (nI_ge (by omega) (by omega)), hbit, lq_e, lq_e, lq_e, if_neg hz, if_neg hz, ob_e, f2, ob_e, lq_e, nI_1, p1, lM]
    · have hz : f_X6_hasBit (nI m) (nI t) = 0 := (hasB m t).mpr h
      obtain ⟨z, hz5, c1, c2⟩ := beat_m (show t < 8 by omega) hD hT
      obtain ⟨M', N', f1, f2, f3⟩ := trial_step hz5 (by omega) hn e1 e2 hS hT
      obtain ⟨Mv', Y', q1, q2, q3⟩ := ih (t + 1) f' g' (w * (10 - p)) M' N' (by omega) (by omega) (by omega) (by rw [show (9999 : Int) + ((t + 1 : Nat) : Int) = 9999 + (t : Int) + 1 by omega]; exact f3)
      have ew : w * wt p m (k + 1) t = w * (10 - p) * wt p m k (t + 1) := by rw [wt, if_neg h, Nat.mul_assoc]
      refine ⟨Mv', Y', ?_, ?_, q3⟩
      · rw [ew, ← q1, f_X6_chanceOfSlack_L64]
        rw [if_neg (nI_ge (by omega) (by omega)), lq_e, lq_e, lq_e, if_pos hz, if_pos hz, c1, ob_e, ob_e, f1, ob_e, lq_e, nI_1, p2, lM]
      · rw [ew, ← q2, f_X7_slack_L55]
        rw [if_neg (nI_ge (by omega) (by omega)), hbit, lq_e, lq_e, lq_e, if_pos hz, if_pos hz, c2, ob_e, ob_e, f2, ob_e, lq_e, nI_1, p2, lM]
def FrK (M K : Mem) : Prop := K.2 = M.2 ∧ ∀ c b, c < 167 ∨ c = 175 → K.1 c b = M.1 c b
theorem slack_one {M N K Y : Mem} {n b p m : Nat} (hb : b ≤ 6) (hp : p ≤ 10) (hn : n ≤ 7) (e1 : M.1 1 4 = nI n) (e2 : N.1 177 0 = nI n) (hS : Sta M.1 1 (N.1 177) n) (hQ : Pos M.1 (1 + 5) (N.1 177) 1 8 7 n 9999) (hD : Dan M.1 1 (N.1 177)) (hK : FrK M K) (hY : Rs N Y) : ∃ K1 Mv Y1 Y2, f_X1_become 172 (1 + 5) K = some K1 ∧ f_X6_chanceOfSlack_L64 (nI b) (nI p) (nI m) FU (lN 1) (nI 0) K1 = some (lN (wt p m b 0), Mv) ∧ f_X7_slack_L55 (nI b) (nI p) (nI m) FU (lN 1) (nI 0) Y = some (lN (wt p m b 0), Y1) ∧ Tr M N Mv Y1 n (9999 + (b : Int)) ∧ f_X7_backs Y1 = some Y2 ∧ Rs N Y2 ∧ FrK M Mv := by
  obtain ⟨k1, k2⟩ := hK
  obtain ⟨y1, y2, y3⟩ := hY
  obtain ⟨K1, eK1, k12, mo, mb, ml⟩ := become_n (o := 172) (q := 1 + 5) rfl rfl rfl rfl (by omega) K
  have hT1 : Tr M N K1 Y n (9999 + ((0 : Nat) : Int)) := tr0 ⟨by rw [k12]; exact k1, y1, fun c b h => by rw [mo _ _ (by omega) (by omega) (by omega)]; exact k2 c b h, fun c b h => y2 c b (by unfold kept at h; omega), y3, hQ.move (fun j hj => by rw [mb j hj]; exact k2 _ _ (by omega)) (fun i hi => by rw [(ml i (by omega)).1, (ml i (by omega)).2]; exact ⟨k2 _ _ (by omega), k2 _ _ (by omega)⟩) (fun j hj => y2 _ _ (by omega)) (fun i hi w hw => y2 _ _ (by omega))⟩
  obtain ⟨Mv, Y1, q1, q2, q3⟩ := slack55 (m := m) hb hp hn e1 e2 hS hD b 0 FU FU 1 K1 Y (by omega) (FU_gt (by omega)) (FU_gt (by omega)) hT1
  rw [Nat.one_mul] at q1 q2
  obtain ⟨Y2, eY, y22, yo, yb⟩ := backsX Y1
  refine ⟨K1, Mv, Y1, Y2, eK1, q1, q2, q3, eY, ?_, q3.1, q3.2.2.1⟩
  obtain ⟨t1, t2, t3, t4, t5, t6⟩ := q3
  refine ⟨by rw [y22]; exact t2, fun c b h => ?_, fun k hk => by rw [yo _ _ (by omega)]; exact t5 k hk⟩
  by_cases hb : c = 177 ∧ b < 53
  · rw [hb.1, yb b hb.2]; exact t5 b hb.2
  · rw [yo _ _ hb]
    exact t4 c b (by unfold kept; omega)
theorem slack_yes {M N N1 : Mem} {n b p d : Nat} (hb : b ≤ 6) (hb1 : 1 ≤ b) (hp : p ≤ 10) (hn : n ≤ 7) (e1 : M.1 1 4 = nI n) (e2 : N.1 177 0 = nI n) (hS : Sta M.1 1 (N.1 177) n) (hQ : Pos M.1 (1 + 5) (N.1 177) 1 8 7 n 9999) (hD : Dan M.1 1 (N.1 177)) (hd : d < n) (ed : N.1 177 53 = nI d) (hY : Rs N N1) : ∃ S K Y, S ≤ 10 ^ b ∧ f_X6_chanceOfSlack_L36 (nI b) (nI p) (N.1 177 (54 + 2 * b - 1)) FU (lN 0) (nI 0) M = some (lN S, K) ∧ f_X7_slack_L41 (nI b) (nI p) FU (lN 0) (lN 0) (nI 0) N1 = some (lN S, lN (10 ^ b), Y) ∧ FrK M K ∧ Rs N Y := by
  have h64 : 2 ^ b ≤ 2 ^ 6 := Nat.pow_le_pow_right (by decide) hb
  have h64 : 2 ^ b ≤ 64 := h64
  obtain ⟨r, s, k1, k2, S, K, Y, rfl, rfl, k3, k4, k5⟩ : ∃ r s, f_X6_chanceOfSlack_L36 (nI b) (nI p) (N.1 177 (54 + 2 * b - 1)) FU (lN 0) (nI 0) M = some r ∧ f_X7_slack_L41 (nI b) (nI p) FU (lN 0) (lN 0) (nI 0) N1 = some s ∧ ∃ S K Y, r = (lN S, K) ∧ s = (lN S, lN (tot p b (2 ^ b)), Y) ∧ S ≤ tot p b (2 ^ b) ∧ FrK M K ∧ Rs N Y := by
    refine loop2 (fun f m (x : Nat × Mem) => f_X6_chanceOfSlack_L36 (nI b) (nI p) (N.1 177 (54 + 2 * b - 1)) f (lN x.1) (nI m) x.2) (fun f m (y : Nat × Mem) => f_X7_slack_L41 (nI b) (nI p) f (lN y.1) (lN (tot p b m)) (nI m) y.2) (2 ^ b) (fun m x y => x.1 = y.1 ∧ x.1 ≤ tot p b m ∧ FrK M x.2 ∧ Rs N y.2) _ ?_ ?_ (2 ^ b) 0 FU FU (0, M) (0, N1) (by omega) (FU_gt (by omega)) (FU_gt (by omega)) ⟨rfl, Nat.le_refl _, ⟨rfl, fun _ _ _ => rfl⟩, hY⟩
    · intro f g x y h
      obtain ⟨x1, x2⟩ := x
      obtain ⟨y1, y2⟩ := y
      obtain ⟨rfl, h2, h3, h4⟩ : x1 = y1 ∧ x1 ≤ tot p b (2 ^ b) ∧ FrK M x2 ∧ Rs N y2 := h
      refine ⟨_, _, ?_, ?_, x1, x2, y2, rfl, rfl, h2, h3, h4⟩
      · show f_X6_chanceOfSlack_L36 (nI b) (nI p) (N.1 177 (54 + 2 * b - 1)) (f + 1) (lN x1) (nI (2 ^ b)) x2 = _
        rw [f_X6_chanceOfSlack_L36]
        rw [sh_b b (by omega), if_pos (nI_le (Nat.le_refl _) (by omega))]
      · show f_X7_slack_L41 (nI b) (nI p) (g + 1) (lN x1) (lN (tot p b (2 ^ b))) (nI (2 ^ b)) y2 = _
        rw [f_X7_slack_L41]
        rw [sh_b b (by omega), if_pos (nI_le (Nat.le_refl _) (by omega))]
    · intro f g m x y hm h
      obtain ⟨x1, x2⟩ := x
      obtain ⟨y1, y2⟩ := y
      obtain ⟨rfl, h2, h3, h4⟩ : x1 = y1 ∧ x1 ≤ tot p b m ∧ FrK M x2 ∧ Rs N y2 := h
      obtain ⟨K1, Mv, Y1, Y2, q1, q2, q3, q4, q5, q6, q7⟩ := slack_one (m := m) hb hp hn e1 e2 hS hQ hD h3 h4
      obtain ⟨v, v1, v2⟩ := trial_high hn hd hS q4
      have t4 := q4.2.2.2.1
      obtain ⟨x, ex, hx⟩ := y_lb (N := Y1) (nI d) hn (by rw [t4 _ _ (by unfold kept; omega)]; exact e2)
      have hx : ¬ x = 0 := fun q => hx.mp q (by rw [oI_nI (by omega)]; omega)
      have hdn : Mv.1 1 11 = nI d := by rw [q7.2 _ _ (by omega), hD.2.1, ed]
      have eM : f_X6_chanceOfSlack_L36 (nI b) (nI p) (N.1 177 (54 + 2 * b - 1)) (f + 1) (lN x1) (nI m) x2 = f_X6_chanceOfSlack_L36 (nI b) (nI p) (N.1 177 (54 + 2 * b - 1)) f (if v = N.1 177 (54 + 2 * b - 1) then lN (x1 + wt p m b 0) else lN x1) (nI (m + 1)) Mv := by
        rw [f_X6_chanceOfSlack_L36]
        rw [sh_b b (by omega), if_neg (nI_ge hm (by omega)), q1, ob_e, show f_X6_chanceOfSlack_L64 (nI b) (nI p) (nI m) FU (1 : Int64) (0 : Int32) K1 = some (lN (wt p m b 0), Mv) from q2, ob2_e, hdn, v1, ob_e, lq_e, lq_e, nI_1, lq_e, lA]
      have eN : f_X7_slack_L41 (nI b) (nI p) (g + 1) (lN x1) (lN (tot p b m)) (nI m) y2 = f_X7_slack_L41 (nI b) (nI p) g (if v = N.1 177 (54 + 2 * b - 1) then lN (x1 + wt p m b 0) else lN x1) (lN (tot p b (m + 1))) (nI (m + 1)) Y2 := by
        rw [f_X7_slack_L41]
        rw [sh_b b (by omega), if_neg (nI_ge hm (by omega)), show f_X7_slack_L55 (nI b) (nI p) (nI m) FU (1 : Int64) (0 : Int32) y2 = some (lN (wt p m b 0), Y1) from q3, ob2_e, if_neg (show ¬ nI b = (0 : Int32) from fun q => by have := (nI_eq (a := b) (b := 0) (by omega) (by decide)).mp q; omega), l53, rd_n (hb177 (by decide)) (by decide), ob_e, t4 _ _ (by unfold kept; omega), ed, ex, ob_e, if_neg hx, ob_e, v2, ob_e, l54, l2, pk_mul, nI_add, l1, pk_sub (show 1 ≤ 54 + 2 * b by omega), rd_n (hb177 (by omega)) (by omega), ob_e, t4 _ _ (by unfold kept; omega), q5]
        by_cases c : v = N.1 177 (54 + 2 * b - 1)
        · rw [if_pos c, if_pos c, ob_e, lq_e, lq_e, lq_e, ob_e, lq_e, nI_add, if_neg (show ¬ nI 1 = (0 : Int32) by decide), lA, lA]
          rfl
        · rw [if_neg c, if_neg c, ob_e, lq_e, lq_e, lq_e, ob_e, lq_e, nI_add, if_pos rfl, Int64.add_zero, lA]
          rfl
      by_cases c : v = N.1 177 (54 + 2 * b - 1)
      · rw [if_pos c] at eM eN
        exact Or.inl ⟨(x1 + wt p m b 0, Mv), (x1 + wt p m b 0, Y2), eM, eN, rfl, by show x1 + wt p m b 0 ≤ tot p b m + wt p m b 0; omega, q7, q6⟩
      · rw [if_neg c] at eM eN
        exact Or.inl ⟨(x1, Mv), (x1, Y2), eM, eN, rfl, by show x1 ≤ tot p b m + wt p m b 0; omega, q7, q6⟩
  rw [tot_e b (by omega) p (by omega)] at k2 k3
  exact ⟨S, K, Y, k3, k1, k2, k4, k5⟩
theorem slack_not {M N N1 : Mem} {n b p : Nat} (hb : b ≤ 6) (hb1 : 1 ≤ b) (hp : p ≤ 10) (hn : n ≤ 7) (e1 : M.1 1 4 = nI n) (e2 : N.1 177 0 = nI n) (hS : Sta M.1 1 (N.1 177) n) (hQ : Pos M.1 (1 + 5) (N.1 177) 1 8 7 n 9999) (hD : Dan M.1 1 (N.1 177)) (hd : ¬ oI (N.1 177 53) 0 ((n : Int) - 1)) (hY : Rs N N1) : ∃ Y, f_X7_slack_L41 (nI b) (nI p) FU (lN 0) (lN 0) (nI 0) N1 = some (lN 0, lN (10 ^ b), Y) ∧ Rs N Y := by
  have h64 : 2 ^ b ≤ 2 ^ 6 := Nat.pow_le_pow_right (by decide) hb
  have h64 : 2 ^ b ≤ 64 := h64
  obtain ⟨s, k2, Y, rfl, k5⟩ : ∃ s, f_X7_slack_L41 (nI b) (nI p) FU (lN 0) (lN 0) (nI 0) N1 = some s ∧ ∃ Y, s = (lN 0, lN (tot p b (2 ^ b)), Y) ∧ Rs N Y := by
    refine loopE (fun f m (y : Mem) => f_X7_slack_L41 (nI b) (nI p) f (lN 0) (lN (tot p b m)) (nI m) y) (2 ^ b) (fun m y => Rs N y) _ ?_ ?_ (2 ^ b) 0 FU N1 (by omega) (FU_gt (by omega)) hY
    · intro g y h
      refine ⟨_, ?_, y, rfl, h⟩
      show f_X7_slack_L41 (nI b) (nI p) (g + 1) (lN 0) (lN (tot p b (2 ^ b))) (nI (2 ^ b)) y = _
      rw [f_X7_slack_L41]
      rw [sh_b b (by omega), if_pos (nI_le (Nat.le_refl _) (by omega))]
    · intro g m y hm h
      obtain ⟨K1, Mv, Y1, Y2, q1, q2, q3, q4, q5, q6, q7⟩ := slack_one (m := m) (K := M) hb hp hn e1 e2 hS hQ hD ⟨rfl, fun _ _ _ => rfl⟩ h
      have t4 := q4.2.2.2.1
      obtain ⟨x, ex, hx⟩ := y_lb (N := Y1) (N.1 177 53) hn (by rw [t4 _ _ (by unfold kept; omega)]; exact e2)
      refine Or.inl ⟨Y2, ?_, q6⟩
      show f_X7_slack_L41 (nI b) (nI p) (g + 1) (lN 0) (lN (tot p b m)) (nI m) y = f_X7_slack_L41 (nI b) (nI p) g (lN 0) (lN (tot p b (m + 1))) (nI (m + 1)) Y2
      rw [f_X7_slack_L41]
      rw [sh_b b (by omega), if_neg (nI_ge hm (by omega)), show f_X7_slack_L55 (nI b) (nI p) (nI m) FU (1 : Int64) (0 : Int32) y = some (lN (wt p m b 0), Y1) from q3, ob2_e, if_neg (show ¬ nI b = (0 : Int32) from fun q => by have := (nI_eq (a := b) (b := 0) (by omega) (by decide)).mp q; omega), l53, rd_n (hb177 (by decide)) (by decide), ob_e, t4 _ _ (by unfold kept; omega), ex, ob_e, if_pos (hx.mpr hd), ob_e, lq_e, lq_e, lq_e, q5, ob_e, lq_e, nI_1, if_pos rfl, Int64.add_zero, lA]
      rfl
  rw [tot_e b (by omega) p (by omega)] at k2
  exact ⟨Y, k2, k5⟩
theorem rel_kr {M N K Y : Mem} (hR : Rel M N) (hK : FrK M K) (hY : Rs N Y) : Rel K Y := by
  obtain ⟨k1, k2⟩ := hK
  obtain ⟨y1, y2, _⟩ := hY
  exact ⟨hR.1.congr (fun a i _ _ => k2 _ _ (by omega)) (fun k _ => y2 _ _ (by omega)), hR.2.congr (fun a b hab => k2 _ _ (by unfold oC at hab; omega)) (by rw [k1]) (fun a b hab => y2 _ _ (by unfold oM at hab; omega)) (by rw [y1])⟩
theorem op30 : opP30 Rel := by
  intro a1 a2 M N hR
  unfold f_X6_slack f_X7_slack
  obtain ⟨⟨n, hn, e1, e2, hS, hQ, hD, hTt, hU⟩, hO⟩ := id hR
  by_cases g1 : oI a1 0 6
  · rw [if_pos ((o_0_6 a1).mpr g1), if_neg (fun q => ((y_0_6 a1).mp q) g1)]
    by_cases g2 : oI a2 0 10
    · rw [if_pos ((o_0_10 a2).mpr g2), if_neg (fun q => ((y_0_10 a2).mp q) g2)]
      obtain ⟨b, hb, rfl⟩ := nI_oI (n := 7) g1 (by decide)
      obtain ⟨p, hp, rfl⟩ := nI_oI (n := 11) g2 (by decide)
      have h10 : 10 ^ b ≤ 10 ^ 6 := Nat.pow_le_pow_right (by decide) (by omega)
      have h10 : 10 ^ b ≤ 1000000 := h10
      have h11 : 0 < 10 ^ b := Nat.pow_pos (by decide)
      obtain ⟨N1, en, n1, n2, n3⟩ := asidesX N
      have hY : Rs N N1 := ⟨n1, fun c b q => n2 c b (by omega), n3⟩
      rw [ten_b b hb, ob_e, en, ob_e]
      by_cases g3 : b = 0
      · subst g3
        obtain ⟨K1, Mv, Y1, Y2, q1, q2, q3, q4, q5, q6, q7⟩ := slack_one (m := 0) (b := 0) (K := M) (by omega) (show p ≤ 10 by omega) hn e1 e2 hS hQ hD ⟨rfl, fun _ _ _ => rfl⟩ hY
        obtain ⟨M', N', r1, r2, r3⟩ := frac_rel (A := 1) (T := 1) (by decide) (by decide) (by decide) (rel_kr hR ⟨rfl, fun _ _ _ => rfl⟩ q6)
        have eN : f_X7_slack_L41 (nI 0) (nI p) FU (0 : Int64) (0 : Int64) (0 : Int32) N1 = some (lN 1, lN 1, Y2) := by
          show f_X7_slack_L41 (nI 0) (nI p) (3998 + 1 + 1) (lN 0) (lN 0) (nI 0) N1 = _
          rw [f_X7_slack_L41]
          rw [sh_b 0 (by omega), if_neg (show ¬ nI (2 ^ 0) ≤ nI 0 by decide), show f_X7_slack_L55 (nI 0) (nI p) (nI 0) FU (1 : Int64) (0 : Int32) N1 = some (lN (wt p 0 0 0), Y1) from q3, ob2_e, if_pos (show nI 0 = (0 : Int32) from rfl), ob_e, lq_e, lq_e, lq_e, q5, ob_e, lq_e, nI_1, if_neg (show ¬ (1 : Int32) = 0 by decide), lA, f_X7_slack_L41]
          rw [sh_b 0 (by omega), if_pos (show nI (2 ^ 0) ≤ nI (0 + 1) by decide)]
          rfl
        rw [if_pos (show nI 0 = (0 : Int32) from rfl), ob2_e, show f_X6_setFraction (1 : Int64) (lN (10 ^ 0)) M = some M' from r1, ob_e, eN, ob3_e, r2, ob2_e]
        exact ⟨_, _, _, rfl, rfl, r3⟩
      · rw [if_neg (show ¬ nI b = (0 : Int32) from fun q => g3 (by have := (nI_eq (a := b) (b := 0) (by omega) (by decide)).mp q; omega))]
        unfold f_X6_chanceOfSlack
        by_cases g4 : oI (N.1 177 53) 0 ((n : Int) - 1)
        · obtain ⟨d, hd, ed⟩ := nI_oI g4 (by omega)
          obtain ⟨S, K, Y, k0, k1, k2, k3, k4⟩ := slack_yes (b := b) (p := p) (by omega) (by omega) (by omega) hn e1 e2 hS hQ hD hd ed hY
          obtain ⟨M', N', r1, r2, r3⟩ := frac_rel (A := S) (T := 10 ^ b) k0 h11 (by omega) (rel_kr hR k3 k4)
          obtain ⟨_, d2, _, _⟩ := hD.1 (b - 1) (by omega)
          rw [if_pos ((o_lb _ hn e1).mpr (by rw [hD.2.1]; exact g4)), show nI b - (1 : Int32) = nI (b - 1) from by rw [l1, pk_sub (show 1 ≤ b by omega)], cell_n (show b - 1 < ln (1 + 34) from by show b - 1 < 8; omega) (by decide), ob_e, d2, show 54 + 2 * (b - 1) + 1 = 54 + 2 * b - 1 by omega, show f_X6_chanceOfSlack_L36 (nI b) (nI p) (N.1 177 (54 + 2 * b - 1)) FU (0 : Int64) (0 : Int32) M = some (lN S, K) from k1, ob2_e, ob2_e, ob2_e, r1, ob_e, show f_X7_slack_L41 (nI b) (nI p) FU (0 : Int64) (0 : Int64) (0 : Int32) N1 = some (lN S, lN (10 ^ b), Y) from k2, ob3_e, r2, ob2_e]
          exact ⟨_, _, _, rfl, rfl, r3⟩
        · obtain ⟨Y, k2, k4⟩ := slack_not (b := b) (p := p) (by omega) (by omega) (by omega) hn e1 e2 hS hQ hD g4 hY
          obtain ⟨M', N', r1, r2, r3⟩ := frac_rel (A := 0) (T := 10 ^ b) (by omega) h11 (by omega) (rel_kr hR ⟨rfl, fun _ _ _ => rfl⟩ k4)
          rw [if_neg (fun q => g4 (by have := (o_lb _ hn e1).mp q; rw [hD.2.1] at this; exact this)), ob2_e, ob2_e, show f_X6_setFraction (0 : Int64) (lN (10 ^ b)) M = some M' from r1, ob_e, show f_X7_slack_L41 (nI b) (nI p) FU (0 : Int64) (0 : Int64) (0 : Int32) N1 = some (lN 0, lN (10 ^ b), Y) from k2, ob3_e, r2, ob2_e]
          exact ⟨_, _, _, rfl, rfl, r3⟩
    · rw [if_neg (fun q => g2 ((o_0_10 a2).mp q)), if_pos ((y_0_10 a2).mpr g2)]
      exact ⟨_, _, _, rfl, rfl, hR.bad⟩
  · rw [if_neg (fun q => g1 ((o_0_6 a1).mp q)), if_pos ((y_0_6 a1).mpr g1)]
    exact ⟨_, _, _, rfl, rfl, hR.bad⟩
