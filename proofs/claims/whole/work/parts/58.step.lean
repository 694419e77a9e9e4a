/-! sums that both sides make -/
theorem ilt (a b : Int32) : (¬ a < b) ↔ b ≤ a := by rw [Int32.lt_iff_toInt_lt, Int32.le_iff_toInt_le]; omega
theorem mx1 (a b : Int32) : (if a < b then b else a) = (if b ≤ a then a else b) := by
  by_cases h : a < b
  · rw [if_pos h, if_neg (fun q => (ilt a b).mpr q h)]
  · rw [if_neg h, if_pos ((ilt a b).mp h)]
theorem mn1 (a b : Int32) : (if a < b then a else b) = (if b ≤ a then b else a) := by
  by_cases h : a < b
  · rw [if_pos h, if_neg (fun q => (ilt a b).mpr q h)]
  · rw [if_neg h, if_pos ((ilt a b).mp h)]
theorem six {k : Nat} (h : k ≤ 5) : k = 0 ∨ k = 1 ∨ k = 2 ∨ k = 3 ∨ k = 4 ∨ k = 5 := by omega
theorem drops_e {k : Nat} (hk : k ≤ 5) (l w z : Int32) : f_X6_dropOf (nI k) l w z = f_X7_drops (nI k) l w z := by
  unfold f_X6_dropOf f_X7_drops
  rw [lq_e, lq_e]
  rcases six hk with rfl | rfl | rfl | rfl | rfl | rfl
  · rw [if_neg (show ¬ nI 0 = (1 : Int32) by decide), if_neg (show ¬ nI 0 = (2 : Int32) by decide), if_neg (show ¬ nI 0 = (3 : Int32) by decide), if_neg (show ¬ nI 0 = (4 : Int32) by decide), if_neg (show ¬ nI 0 = (5 : Int32) by decide), if_pos (show nI 0 = (0 : Int32) by decide)]
  · rw [if_pos (show nI 1 = (1 : Int32) by decide), if_neg (show ¬ nI 1 = (0 : Int32) by decide), if_pos (show nI 1 = (1 : Int32) by decide)]
  · rw [if_neg (show ¬ nI 2 = (1 : Int32) by decide), if_pos (show nI 2 = (2 : Int32) by decide), if_neg (show ¬ nI 2 = (0 : Int32) by decide), if_neg (show ¬ nI 2 = (1 : Int32) by decide), if_pos (show nI 2 = (2 : Int32) by decide)]
  · rw [if_neg (show ¬ nI 3 = (1 : Int32) by decide), if_neg (show ¬ nI 3 = (2 : Int32) by decide), if_pos (show nI 3 = (3 : Int32) by decide), if_neg (show ¬ nI 3 = (0 : Int32) by decide), if_neg (show ¬ nI 3 = (1 : Int32) by decide), if_neg (show ¬ nI 3 = (2 : Int32) by decide), if_pos (show nI 3 = (3 : Int32) by decide)]
  · rw [if_neg (show ¬ nI 4 = (1 : Int32) by decide), if_neg (show ¬ nI 4 = (2 : Int32) by decide), if_neg (show ¬ nI 4 = (3 : Int32) by decide), if_pos (show nI 4 = (4 : Int32) by decide), if_neg (show ¬ nI 4 = (0 : Int32) by decide), if_neg (show ¬ nI 4 = (1 : Int32) by decide), if_neg (show ¬ nI 4 = (2 : Int32) by decide), if_neg (show ¬ nI 4 = (3 : Int32) by decide), if_pos (show nI 4 = (4 : Int32) by decide)]
  · rw [if_neg (show ¬ nI 5 = (1 : Int32) by decide), if_neg (show ¬ nI 5 = (2 : Int32) by decide), if_neg (show ¬ nI 5 = (3 : Int32) by decide), if_neg (show ¬ nI 5 = (4 : Int32) by decide), if_pos (show nI 5 = (5 : Int32) by decide), if_neg (show ¬ nI 5 = (0 : Int32) by decide), if_neg (show ¬ nI 5 = (1 : Int32) by decide), if_neg (show ¬ nI 5 = (2 : Int32) by decide), if_neg (show ¬ nI 5 = (3 : Int32) by decide), if_neg (show ¬ nI 5 = (4 : Int32) by decide)]
    exact mn1 _ _
theorem par_e {m : Nat} (hm : m < 2147483648) (a b : Int32) : (if (nI m - nI m / (2 : Int32) * (2 : Int32)) = (0 : Int32) then a else b) = (if (nI m - nI m / (2 : Int32) * (2 : Int32)) = (1 : Int32) then b else a) := by
  rw [l2, pk_rem (show m < 2 ^ 31 from hm) (by decide) (by decide)]
  rcases (show m % 2 = 0 ∨ m % 2 = 1 by omega) with h | h
  · rw [h, if_pos (by decide), if_neg (by decide)]
  · rw [h, if_neg (by decide), if_pos (by decide)]
theorem cl_e (h : Int32) : (if (0 : Int32) < (if (9 : Int32) < h then (9 : Int32) else h) then (if (9 : Int32) < h then (9 : Int32) else h) else (0 : Int32)) = (if (0 : Int32) ≤ h then (if h ≤ (9 : Int32) then h else (9 : Int32)) else (0 : Int32)) := by
  rw [mn1 9 h]
  by_cases h0 : (0 : Int32) ≤ h
  · rw [if_pos h0]
    by_cases h9 : h ≤ 9
    · rw [if_pos h9]
      by_cases hz : (0 : Int32) < h
      · rw [if_pos hz]
      · rw [if_neg hz]
        rw [← Int32.toInt_inj]
        rw [Int32.lt_iff_toInt_lt] at hz
        rw [Int32.le_iff_toInt_le] at h0
        omega
    · rw [if_neg h9, if_pos (by decide)]
  · rw [if_neg h0]
    have h9 : h ≤ 9 := by
      rw [Int32.le_iff_toInt_le] at h0 ⊢
      have e0 : (0 : Int32).toInt = 0 := by decide
      have e9 : (9 : Int32).toInt = 9 := by decide
      omega
    rw [if_pos h9, if_neg]
    intro q
    rw [Int32.lt_iff_toInt_lt] at q
    rw [Int32.le_iff_toInt_le] at h0
    omega
theorem high_e {k m : Nat} (hk : k ≤ 5) (hm : m < 2147483648) (h : Int32) : f_X6_highOf (nI k) h (nI m) = f_X7_comesTo (nI k) h (nI m) := by
  unfold f_X6_highOf f_X7_comesTo
  rw [lq_e, lq_e, lq_e, lq_e]
  rcases six hk with rfl | rfl | rfl | rfl | rfl | rfl
  · rw [if_neg (show ¬ nI 0 = (1 : Int32) by decide), if_neg (show ¬ nI 0 = (2 : Int32) by decide), if_neg (show ¬ nI 0 = (3 : Int32) by decide), if_neg (show ¬ nI 0 = (4 : Int32) by decide), if_neg (show ¬ nI 0 = (5 : Int32) by decide), if_pos (show nI 0 = (0 : Int32) by decide)]
  · rw [if_pos (show nI 1 = (1 : Int32) by decide), if_neg (show ¬ nI 1 = (0 : Int32) by decide), if_pos (show nI 1 = (1 : Int32) by decide)]
    exact mx1 _ _
  · rw [if_neg (show ¬ nI 2 = (1 : Int32) by decide), if_pos (show nI 2 = (2 : Int32) by decide), if_neg (show ¬ nI 2 = (0 : Int32) by decide), if_neg (show ¬ nI 2 = (1 : Int32) by decide), if_pos (show nI 2 = (2 : Int32) by decide)]
    exact cl_e h
  · rw [if_neg (show ¬ nI 3 = (1 : Int32) by decide), if_neg (show ¬ nI 3 = (2 : Int32) by decide), if_pos (show nI 3 = (3 : Int32) by decide), if_neg (show ¬ nI 3 = (0 : Int32) by decide), if_neg (show ¬ nI 3 = (1 : Int32) by decide), if_neg (show ¬ nI 3 = (2 : Int32) by decide), if_pos (show nI 3 = (3 : Int32) by decide)]
    rw [cl_e h]
  · rw [if_neg (show ¬ nI 4 = (1 : Int32) by decide), if_neg (show ¬ nI 4 = (2 : Int32) by decide), if_neg (show ¬ nI 4 = (3 : Int32) by decide), if_pos (show nI 4 = (4 : Int32) by decide), if_neg (show ¬ nI 4 = (0 : Int32) by decide), if_neg (show ¬ nI 4 = (1 : Int32) by decide), if_neg (show ¬ nI 4 = (2 : Int32) by decide), if_neg (show ¬ nI 4 = (3 : Int32) by decide), if_pos (show nI 4 = (4 : Int32) by decide)]
    exact par_e hm _ _
  · rw [if_neg (show ¬ nI 5 = (1 : Int32) by decide), if_neg (show ¬ nI 5 = (2 : Int32) by decide), if_neg (show ¬ nI 5 = (3 : Int32) by decide), if_neg (show ¬ nI 5 = (4 : Int32) by decide), if_pos (show nI 5 = (5 : Int32) by decide), if_neg (show ¬ nI 5 = (0 : Int32) by decide), if_neg (show ¬ nI 5 = (1 : Int32) by decide), if_neg (show ¬ nI 5 = (2 : Int32) by decide), if_neg (show ¬ nI 5 = (3 : Int32) by decide), if_neg (show ¬ nI 5 = (4 : Int32) by decide)]
    rw [mx1 h 2]
def mLift (x a : Int32) : Int32 := if (0 : Int32) ≤ x + (if a = (0 : Int32) then (3 : Int32) else (if a = (1 : Int32) then ((-3) : Int32) else (0 : Int32))) then (if x + (if a = (0 : Int32) then (3 : Int32) else (if a = (1 : Int32) then ((-3) : Int32) else (0 : Int32))) ≤ (40 : Int32) then x + (if a = (0 : Int32) then (3 : Int32) else (if a = (1 : Int32) then ((-3) : Int32) else (0 : Int32))) else (40 : Int32)) else (0 : Int32)
def mTilt (x a : Int32) : Int32 := if ((-4) : Int32) ≤ x + (if a = (2 : Int32) then ((-1) : Int32) else (if a = (3 : Int32) then (1 : Int32) else (0 : Int32))) then (if x + (if a = (2 : Int32) then ((-1) : Int32) else (if a = (3 : Int32) then (1 : Int32) else (0 : Int32))) ≤ (4 : Int32) then x + (if a = (2 : Int32) then ((-1) : Int32) else (if a = (3 : Int32) then (1 : Int32) else (0 : Int32))) else (4 : Int32)) else ((-4) : Int32)
theorem lift_e : ∀ v, v < 41 → ∀ a, a < 5 → f_X6_liftBehind (nI v) (nI a) = mLift (nI v) (nI a) ∧ oI (mLift (nI v) (nI a)) 0 40 := by decide +kernel
theorem tilt_e : ∀ v, v < 9 → ∀ a, a < 5 → f_X6_tiltBehind (nI v - 4) (nI a) = mTilt (nI v - 4) (nI a) ∧ oI (mTilt (nI v - 4) (nI a)) (-4) 4 := by decide +kernel
theorem oI_m4 {a : Int32} (h : oI a (-4) 4) : ∃ k : Nat, k < 9 ∧ a = nI k - 4 := by
  refine ⟨(a.toInt + 4).toNat, by omega, ?_⟩
  rw [l4, ← Int32.toInt_inj, pk_sub_toInt (by omega) (by decide)]
  omega
def mTimes (t : Int32) : Int32 := if t = (4 : Int32) then (2 : Int32) else (if t = ((-4) : Int32) then (2 : Int32) else (1 : Int32))
theorem min99 (x : Nat) (hx : x < 2147483648) : (if (99 : Int32) < nI x then (99 : Int32) else nI x) = nI (if 99 < x then 99 else x) := by
  rw [show (99 : Int32) = nI 99 from rfl]
  by_cases h : 99 < x
  · rw [if_pos (nI_lt h hx), if_pos h]
  · rw [if_neg (nI_nlt (by omega) (by decide)), if_neg h]
theorem worn_e {w g : Nat} (hw : w ≤ 99) (hg : g ≤ 9) (t : Int32) : ∃ c : Nat, 1 ≤ c ∧ c ≤ 2 ∧ mTimes t = nI c ∧ f_X6_wornBehind (nI w) (nI g) t = nI (if 99 < w + c * g then 99 else w + c * g) := by
  unfold mTimes f_X6_wornBehind
  rw [lq_e, lq_e]
  by_cases h4 : t = 4
  · rw [if_pos h4, if_pos h4, if_neg (show ¬ (1 : Int32) = 0 by decide), l2, pk_mul, nI_add, min99 _ (by omega)]
    exact ⟨2, by omega, by omega, rfl, rfl⟩
  · rw [if_neg h4, if_neg h4]
    by_cases h5 : t = -4
    · rw [if_pos h5, if_pos h5, if_neg (show ¬ (1 : Int32) = 0 by decide), l2, pk_mul, nI_add, min99 _ (by omega)]
      exact ⟨2, by omega, by omega, rfl, rfl⟩
    · rw [if_neg h5, if_neg h5, if_pos rfl, nI_add, min99 _ (by omega)]
      exact ⟨1, by omega, by omega, rfl, by rw [Nat.one_mul]⟩
theorem snp_n {w : Nat} (hw : w < 2147483648) : snp (nI w) = if 99 ≤ w then 1 else 0 := by
  unfold snp
  rw [nI_I hw]
  by_cases h : 99 ≤ w
  · rw [if_pos h, if_pos (by omega)]
  · rw [if_neg h, if_neg (by omega)]
theorem snapN {N : Mem} {i : Nat} (hi : 4 + 7 * i + 6 < 340) (h : N.1 177 (8 + 7 * i + 2) = snp (N.1 177 (8 + 7 * i + 1))) : f_X7_isSnapped (nI i) N = some (snp (N.1 177 (8 + 7 * i + 1))) := by
  unfold f_X7_isSnapped
  rw [l6, limbOf_n hi, ob_e, show 4 + 7 * i + 6 = 8 + 7 * i + 2 by omega, h]
  unfold snp
  by_cases c : 99 ≤ (N.1 177 (8 + 7 * i + 1)).toInt
  · rw [if_pos c]; rfl
  · rw [if_neg c]; rfl
theorem snapM (w : Int32) : f_X6_isSnapped w = snp w := by
  unfold f_X6_isSnapped snp
  by_cases c : 99 ≤ w.toInt
  · rw [if_pos c, if_neg]
    rw [Int32.lt_iff_toInt_lt, show (99 : Int32).toInt = 99 by decide]
    omega
  · rw [if_neg c, if_pos]
    rw [Int32.lt_iff_toInt_lt, show (99 : Int32).toInt = 99 by decide]
    omega
def isT (q : Nat) : Prop := q = 6 ∨ q = 172
theorem ln_t {q : Nat} (h : isT q) : ln (q + 1) = 7 ∧ ln (q + 2) = 7 := by rcases h with rfl | rfl <;> exact ⟨rfl, rfl⟩
/-! a move, on both sides -/
theorem wear_L {q n c : Nat} {M N : Mem} (hq : isT q) (hn : n ≤ 7) (e1 : M.1 1 4 = nI n) (e2 : N.1 177 0 = nI n) (hS : Sta M.1 1 (N.1 177) n) (hL : Lim M.1 q (N.1 177) 8 7 n) (hc : mTimes (M.1 q 1) = nI c) (hc1 : 1 ≤ c) (hc2 : c ≤ 2) : ∃ r s, f_X2_step_L36 1 q FU (nI 0) M = some r ∧ f_X7_wears_L29 (nI c) FU (nI 0) N = some s ∧ (r.2.2 = M.2 ∧ s.2.2 = N.2 ∧ (∀ c b, c ≠ q + 2 → r.2.1 c b = M.1 c b) ∧ (∀ c b, ¬ (c = 177 ∧ 8 ≤ b ∧ b < 53 ∧ 5 ≤ (b - 4) % 7) → s.2.1 c b = N.1 c b) ∧ Lim r.2.1 q (s.2.1 177) 8 7 n) := by
  obtain ⟨lq1, lq2⟩ := ln_t hq
  have hq' : q = 6 ∨ q = 172 := hq
  refine loop2 (fun k i x => f_X2_step_L36 1 q k (nI i) x) (fun k i x => f_X7_wears_L29 (nI c) k (nI i) x) n (fun _ (x y : Mem) => x.2 = M.2 ∧ y.2 = N.2 ∧ (∀ c b, c ≠ q + 2 → x.1 c b = M.1 c b) ∧ (∀ c b, ¬ (c = 177 ∧ 8 ≤ b ∧ b < 53 ∧ 5 ≤ (b - 4) % 7) → y.1 c b = N.1 c b) ∧ Lim x.1 q (y.1 177) 8 7 n) _ ?_ ?_ n 0 FU FU M N (by omega) (FU_gt (by omega)) (FU_gt (by omega)) ⟨rfl, rfl, fun _ _ _ => rfl, fun _ _ _ => rfl, hL⟩
  · intro k m x y h
    obtain ⟨h1, h2, h3, h4, h5⟩ := id h
    refine ⟨(nI n, x), (nI n, y), ?_, ?_, h⟩
    · show f_X2_step_L36 1 q (k + 1) (nI n) x = _
      rw [f_X2_step_L36]
      rw [h3 _ _ (by omega), e1, if_pos (nI_le (Nat.le_refl _) (by omega))]
    · show f_X7_wears_L29 (nI c) (m + 1) (nI n) y = _
      rw [f_X7_wears_L29]
      rw [l0, rd_n (by rw [ln_177]; decide) (by decide), ob_e, h4 _ _ (by omega), e2, if_pos (nI_le (Nat.le_refl _) (by omega))]
  · intro k m i x y hi h
    obtain ⟨h1, h2, h3, h4, h5⟩ := h
    obtain ⟨s1', s2', s3', s4', s5', s6', s7', s8'⟩ := hS i hi
    obtain ⟨L1, L2, L3, L4, L5⟩ := h5 i hi
    obtain ⟨w, hw, ew⟩ := nI_oI (n := 100) L4 (by decide)
    obtain ⟨g, hg, eg⟩ := nI_oI (n := 10) ⟨by have := s7'.1; omega, s7'.2⟩ (by decide)
    obtain ⟨c', hc1', hc2', ec', ewb⟩ := worn_e (w := w) (g := g) (by omega) (by omega) (M.1 q 1)
    have hcc : c' = c := (nI_eq (by omega) (by omega)).mp (by rw [← ec', hc])
    subst hcc
    have eM : f_X2_step_L36 1 q (k + 1) (nI i) x = f_X2_step_L36 1 q k (nI (i + 1)) (s1 x (q + 2) i (nI (if 99 < w + c' * g then 99 else w + c' * g))) := by
      rw [f_X2_step_L36]
      unfold f_X2_weightOf
      rw [h3 1 4 (by omega), e1, if_neg (nI_ge hi (by omega)), cell_n (by omega) (by omega), ob_e, cell_n (show i < ln (1 + 3) from by show i < 7; omega) (by decide), ob_e, ob_e, L2, ew, h3 (1 + 3) _ (by omega), s3', eg, h3 q 1 (by omega), ewb, put_n (by omega) (by omega), ob_e, lq_e, l1, nI_add]
    have hcg : c' * g ≤ 18 := Nat.le_trans (Nat.mul_le_mul hc2 (show g ≤ 9 by omega)) (by decide)
    have hcg1 : 1 ≤ g := by
      have := s7'.1
      rw [eg, nI_I (by omega)] at this
      omega
    have hcg0 : 1 ≤ c' * g := Nat.mul_le_mul hc1 hcg1
    by_cases hw99 : w = 99
    · subst hw99
      refine Or.inl ⟨_, y, eM, ?_, h1, h2, fun a b hab => by rw [s1_ne (by omega)]; exact h3 a b hab, h4, fun j hj => ?_⟩
      · show f_X7_wears_L29 (nI c') (m + 1) (nI i) y = f_X7_wears_L29 (nI c') m (nI (i + 1)) y
        rw [f_X7_wears_L29]
        rw [l0, rd_n (by rw [ln_177]; decide) (by decide), ob_e, h4 177 0 (by omega), e2, if_neg (nI_ge hi (by omega)), snapN (by omega) L5, ob_e, ew, snp_n (by omega), if_pos (Nat.le_refl _), if_neg (by decide), ob_e, lq_e, l1, nI_add]
      · by_cases e : j = i
        · subst e
          rw [s1_ne (by omega), s1_eq, if_pos (by omega), ew]
          rw [ew] at L5 L4
          exact ⟨L1, rfl, L3, L4, L5⟩
        · rw [s1_ne (by omega), s1_ne (by omega)]
          exact h5 j hj
    · refine Or.inl ⟨_, s1 (s1 y 177 (4 + 7 * i + 5) (nI (if 99 < w + c' * g then 99 else w + c' * g))) 177 (4 + 7 * i + 6) (snp (nI (if 99 < w + c' * g then 99 else w + c' * g))), eM, ?_, h1, h2, fun a b hab => by rw [s1_ne (by omega)]; exact h3 a b hab, fun a b hab => by rw [s1_ne (by omega), s1_ne (by omega)]; exact h4 a b hab, fun j hj => ?_⟩
      · show f_X7_wears_L29 (nI c') (m + 1) (nI i) y = f_X7_wears_L29 (nI c') m (nI (i + 1)) _
        rw [f_X7_wears_L29]
        rw [l0, rd_n (by rw [ln_177]; decide) (by decide), ob_e, h4 177 0 (by omega), e2, if_neg (nI_ge hi (by omega)), snapN (by omega) L5, ob_e, ew, snp_n (by omega), if_neg (show ¬ 99 ≤ w by omega)]
        rw [if_pos (show (0 : Int32) = nI 0 from rfl), l5, limbOf_n (by omega), ob_e, l2, limbOf_n (by omega), ob_e, lq_e, lq_e, show 4 + 7 * i + 5 = 8 + 7 * i + 1 by omega, ew, h4 177 (4 + 7 * i + 2) (by omega), eg, pk_mul, nI_add, ← mn1, min99 _ (by omega)]
        rw [sets_n (by omega), ob_e, lq_e, l6, sets_n (by omega), ob_e, ob_e, lq_e, l1, nI_add]
        have es : (if nI (w + c' * g) < (99 : Int32) then nI 0 else nI 1) = snp (nI (if 99 < w + c' * g then 99 else w + c' * g)) := by
          rw [snp_n (by split <;> omega), show (99 : Int32) = nI 99 from rfl]
          by_cases hx : w + c' * g < 99
          · rw [if_pos (nI_lt hx (by decide)), if_neg (by split <;> omega)]; rfl
          · rw [if_neg (nI_nlt (by omega) (by omega)), if_pos (by split <;> omega)]; rfl
        rw [es, show 8 + 7 * i + 1 = 4 + 7 * i + 5 by omega]
      · by_cases e : j = i
        · subst e
          rw [s1_ne (by omega), s1_eq, show 8 + 7 * j + 1 = 4 + 7 * j + 5 by omega, show 8 + 7 * j + 2 = 4 + 7 * j + 6 by omega, s1_ne (by omega), s1_ne (by omega), s1_ne (by omega), s1_eq, s1_eq]
          refine ⟨L1, rfl, L3, (oI_nI (by split <;> omega)).mpr ?_, rfl⟩
          split <;> omega
        · rw [s1_ne (by omega), s1_ne (by omega), s1_ne (by omega), s1_ne (by omega), s1_ne (by omega), s1_ne (by omega), s1_ne (by omega), s1_ne (by omega)]
          exact h5 j hj
