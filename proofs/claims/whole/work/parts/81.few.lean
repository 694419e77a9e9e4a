theorem step_w2 {n : Nat} {M : Mem} (hn : n ≤ 7) (e1 : M.1 1 4 = nI n) : ∃ r, f_X2_step_L36 1 172 FU (nI 0) M = some r ∧ ((∀ i, i < n → r.2.1 174 i = f_X6_wornBehind (M.1 174 i) (M.1 4 i) (M.1 172 1)) ∧ ∀ c b, c ≠ 174 → r.2.1 c b = M.1 c b) := by
  refine loopE (fun k i x => f_X2_step_L36 1 172 k (nI i) x) n (fun i (x : Mem) => (∀ j, j < i → x.1 174 j = f_X6_wornBehind (M.1 174 j) (M.1 4 j) (M.1 172 1)) ∧ (∀ j, i ≤ j → x.1 174 j = M.1 174 j) ∧ ∀ c b, c ≠ 174 → x.1 c b = M.1 c b) _ ?_ ?_ n 0 FU M (by omega) (FU_gt (by omega)) ⟨fun j hj => absurd hj (by omega), fun _ _ => rfl, fun _ _ _ => rfl⟩
  · intro k x hx
    refine ⟨(nI n, x), ?_, hx.1, hx.2.2⟩
    show f_X2_step_L36 1 172 (k + 1) (nI n) x = _
    rw [f_X2_step_L36]
    rw [hx.2.2 _ _ (by omega), e1, if_pos (nI_le (Nat.le_refl _) (by omega))]
  · intro k i x hi hx
    obtain ⟨h1, h2, h3⟩ := hx
    refine Or.inl ⟨s1 x 174 i (f_X6_wornBehind (M.1 174 i) (M.1 4 i) (M.1 172 1)), ?_, fun j hj => ?_, fun j hj => ?_, fun c b hc => ?_⟩
    · show f_X2_step_L36 1 172 (k + 1) (nI i) x = f_X2_step_L36 1 172 k (nI (i + 1)) _
      rw [f_X2_step_L36]
      unfold f_X2_weightOf
      rw [h3 1 4 (by omega), e1, if_neg (nI_ge hi (by omega)), cell_n (show i < ln (172 + 2) from by show i < 7; omega) (by decide), ob_e, cell_n (show i < ln (1 + 3) from by show i < 7; omega) (by decide), ob_e, ob_e, put_n (show i < ln (172 + 2) from by show i < 7; omega) (by decide), ob_e, lq_e, nI_1, h2 i (Nat.le_refl _), h3 (1 + 3) i (by omega), h3 172 1 (by omega)]
    · by_cases e : j = i
      · subst e; exact s1_eq
      · rw [s1_ne (by omega)]; exact h1 j (by omega)
    · rw [s1_ne (by omega)]; exact h2 j (by omega)
    · rw [s1_ne (by omega)]; exact h3 c b hc
theorem step_v {n : Nat} {a : Int32} {M M' : Mem} (hn : n ≤ 7) (e1 : M.1 1 4 = nI n) (h : f_X2_step 1 172 a M = some M') : M'.1 172 0 = f_X6_liftBehind (M.1 172 0) a ∧ M'.1 172 1 = f_X6_tiltBehind (M.1 172 1) a ∧ M'.1 172 2 = M.1 172 2 + 1 ∧ (∀ i, i < n → M'.1 174 i = f_X6_wornBehind (M.1 174 i) (M.1 4 i) (f_X6_tiltBehind (M.1 172 1) a)) ∧ ∀ c b, c ≠ 172 → c ≠ 174 → M'.1 c b = M.1 c b := by
  unfold f_X2_step at h
  rw [lq_e, lq_e, lq_e] at h
  obtain ⟨⟨x, r⟩, e, hw, hw2⟩ := step_w2 (M := s1 (s1 (s1 M 172 0 (f_X6_liftBehind (M.1 172 0) a)) 172 1 (f_X6_tiltBehind ((s1 M 172 0 (f_X6_liftBehind (M.1 172 0) a)).1 172 1) a)) 172 2 ((s1 (s1 M 172 0 (f_X6_liftBehind (M.1 172 0) a)) 172 1 (f_X6_tiltBehind ((s1 M 172 0 (f_X6_liftBehind (M.1 172 0) a)).1 172 1) a)).1 172 2 + 1)) hn (by rw [s1_ne (by omega), s1_ne (by omega), s1_ne (by omega)]; exact e1)
  rw [l0, e, ob2_e] at h
  have h := Option.some.inj h
  subst h
  have hw2 : ∀ c b, c ≠ 174 → r.1 c b = (s1 (s1 (s1 M 172 0 (f_X6_liftBehind (M.1 172 0) a)) 172 1 (f_X6_tiltBehind ((s1 M 172 0 (f_X6_liftBehind (M.1 172 0) a)).1 172 1) a)) 172 2 ((s1 (s1 M 172 0 (f_X6_liftBehind (M.1 172 0) a)) 172 1 (f_X6_tiltBehind ((s1 M 172 0 (f_X6_liftBehind (M.1 172 0) a)).1 172 1) a)).1 172 2 + 1)).1 c b := hw2
  refine ⟨?_, ?_, ?_, fun i hi => ?_, fun c b q1 q2 => ?_⟩
  · rw [hw2 _ _ (by omega), s1_ne (by omega), s1_ne (by omega), s1_eq]
  · rw [hw2 _ _ (by omega), s1_ne (by omega), s1_eq, s1_ne (by omega)]
  · rw [hw2 _ _ (by omega), s1_eq, s1_ne (by omega), s1_ne (by omega)]
  · have := hw i hi
    rw [s1_ne (by omega), s1_ne (by omega), s1_ne (by omega), s1_ne (by omega), s1_ne (by omega), s1_ne (by omega), s1_ne (by omega), s1_eq, s1_ne (by omega)] at this
    exact this
  · rw [hw2 _ _ q2, s1_ne (by omega), s1_ne (by omega), s1_ne (by omega)]
def Gh (M0 Mv : Mem) (i j t : Nat) (s : S4) : Prop := Mv.1 172 0 = s.1 ∧ Mv.1 172 1 = s.2.1 ∧ Mv.1 172 2 = M0.1 (1 + 5) 2 + nI t ∧ Mv.1 174 i = s.2.2.1 ∧ Mv.1 174 j = s.2.2.2 ∧ Mv.1 173 i = M0.1 (1 + 5 + 1) i ∧ Mv.1 173 j = M0.1 (1 + 5 + 1) j
theorem gh_step {M0 N0 Mv N : Mem} {n i j t k : Nat} {X : Int} {s : S4} (hk : k < 5) (hX : X < 1000000000) (hn : n ≤ 7) (hi : i < n) (hj : j < n) (e1 : M0.1 1 4 = nI n) (e2 : N0.1 177 0 = nI n) (hS : Sta M0.1 1 (N0.1 177) n) (hT : Tr M0 N0 Mv N n X) (hG : Gh M0 Mv i j t s) : ∃ Mv' N', f_X7_goes (nI k) N = some N' ∧ Tr M0 N0 Mv' N' n (X + 1) ∧ Gh M0 Mv' i j (t + 1) (st4 (M0.1 4 i) (M0.1 4 j) s k) := by
  obtain ⟨Mv', N', q1, q2, q3⟩ := trial_step hk hX hn e1 e2 hS hT
  have hf := hT.2.2.1
  obtain ⟨v0, v1, v2, v3, v4⟩ := step_v hn (by rw [hf _ _ (by omega)]; exact e1) q1
  obtain ⟨g0, g1, g2, g3, g4, g5, g6⟩ := hG
  refine ⟨Mv', N', q2, q3, ?_, ?_, ?_, ?_, ?_, ?_, ?_⟩
  · rw [v0, g0]; rfl
  · rw [v1, g1]; rfl
  · rw [v2, g2, Int32.add_assoc, nI_1]
  · rw [v3 i hi, g3, g1, hf _ _ (by omega)]; rfl
  · rw [v3 j hj, g4, g1, hf _ _ (by omega)]; rfl
  · rw [v4 _ _ (by omega) (by omega)]; exact g5
  · rw [v4 _ _ (by omega) (by omega)]; exact g6
theorem gh_high {M0 N0 Mv N : Mem} {n i t : Nat} {X : Int} {l u w : Int32} (hn : n ≤ 7) (hi : i < n) (hS : Sta M0.1 1 (N0.1 177) n) (hT : Tr M0 N0 Mv N n X) (g0 : Mv.1 172 0 = l) (g1 : Mv.1 172 1 = u) (g2 : Mv.1 172 2 = M0.1 (1 + 5) 2 + nI t) (g3 : Mv.1 174 i = w) (g5 : Mv.1 173 i = M0.1 (1 + 5 + 1) i) : f_X7_high (nI i) N = some (hv4 M0 i t l u w) := by
  obtain ⟨x, h1, h2⟩ := trial_high hn hi hS hT
  rw [h2, ← h1]
  have hf := hT.2.2.1
  unfold f_X2_highIn
  rw [cell_n (show i < ln (172 + 1) from by show i < 7; omega) (by decide), ob_e, lq_e, cell_n (show i < ln (172 + 2) from by show i < 7; omega) (by decide), ob_e, highFrom_v (by omega), ob_e, show Mv.1 (172 + 1) i = M0.1 (1 + 5 + 1) i from g5, show Mv.1 (172 + 2) i = w from g3, g0, g1, g2, hf _ _ (by omega), hf _ _ (by omega), hf _ _ (by omega), hf _ _ (by omega)]
  rfl
theorem by5 : ∀ D, D < 6 → f_X7_goesBy_L5 (nI D) FU (1 : Int32) (1 : Int32) = some (nI (5 ^ (D - 1))) := by decide +kernel
theorem p5_le {e : Nat} (h : e ≤ 5) : 5 ^ e ≤ 3125 := Nat.le_trans (Nat.pow_le_pow_right (by decide) h) (by decide)
theorem by24 {M0 N0 : Mem} {n i j x D : Nat} (hD : D ≤ 5) (hx : x < 2147483648) (hn : n ≤ 7) (hi : i < n) (hj : j < n) (e1 : M0.1 1 4 = nI n) (e2 : N0.1 177 0 = nI n) (hS : Sta M0.1 1 (N0.1 177) n) : ∀ (d t f z : Nat) (Mv N : Mem) (s : S4), t + d = D → d < f → (∀ e, d = e + 1 → z = 5 ^ e) → Tr M0 N0 Mv N n (9999 + (t : Int)) → Gh M0 Mv i j t s → ∃ r Mv', f_X7_goesBy_L24 (nI x) (nI D) f (nI z) (nI t) N = some r ∧ Tr M0 N0 Mv' r.2.2 n (9999 + (D : Int)) ∧ Gh M0 Mv' i j D (run4 (M0.1 4 i) (M0.1 4 j) d (x % 5 ^ d) s) := by
  intro d
  induction d with
  | zero =>
    intro t f z Mv N s ht hf hz hT hG
    obtain ⟨f', rfl⟩ : ∃ f', f = f' + 1 := ⟨f - 1, by omega⟩
    have : t = D := by omega
    subst this
    refine ⟨(nI z, nI t, N), Mv, ?_, hT, hG⟩
    rw [f_X7_goesBy_L24]
    rw [if_pos (nI_le (Nat.le_refl _) (by omega))]
  | succ e ih =>
    intro t f z Mv N s ht hf hz hT hG
    obtain ⟨f', rfl⟩ : ∃ f', f = f' + 1 := ⟨f - 1, by omega⟩
    have hz := hz e rfl
    subst hz
    have hp := p5_le (e := e) (by omega)
    have hq : x / 5 ^ e ≤ x := Nat.div_le_self _ _
    have hr : x / 5 ^ e % 5 < 5 := Nat.mod_lt _ (by decide)
    obtain ⟨Mv', N', g1, g2, g3⟩ := gh_step hr (by omega) hn hi hj e1 e2 hS hT hG
    obtain ⟨r, Mv2, k1, k2, k3⟩ := ih (t + 1) f' (5 ^ e / 5) Mv' N' _ (by omega) (by omega) (fun e' he => by rw [he, Nat.pow_succ, Nat.mul_div_cancel _ (by decide)]) (by rw [show (9999 : Int) + ((t + 1 : Nat) : Int) = 9999 + (t : Int) + 1 by omega]; exact g2) g3
    refine ⟨r, Mv2, ?_, k2, ?_⟩
    · rw [f_X7_goesBy_L24]
      unfold dvI
      rw [if_neg (nI_ge (by omega) (by omega)), if_neg (show ¬ nI (5 ^ e) = (0 : Int32) from fun q => by have := (nI_eq (a := 5 ^ e) (b := 0) (by omega) (by decide)).mp q; have := p5 e; omega), ob_e, div_n hx (by omega), l5, pk_rem (show x / 5 ^ e < 2 ^ 31 by omega) (by decide) (by decide), g1, ob_e, lq_e, div_n (by omega) (by decide), lq_e, nI_1]
      exact k1
    · rw [run4, Nat.pow_succ, Nat.mod_mul_right_mod, Nat.mod_mul_right_div_self]
      exact k3
def Rs (N Y : Mem) : Prop := Y.2 = N.2 ∧ (∀ c b, c < 179 ∨ c = 184 → Y.1 c b = N.1 c b) ∧ ∀ k, k < 53 → Y.1 180 k = N.1 177 k
def s04 (M : Mem) (i j : Nat) : S4 := (M.1 (1 + 5) 0, M.1 (1 + 5) 1, M.1 (1 + 5 + 2) i, M.1 (1 + 5 + 2) j)
theorem few_trial {M N Y : Mem} {n i j D x : Nat} (hD : D ≤ 5) (hx : x < 5 ^ D) (hn : n ≤ 7) (hi : i < n) (hj : j < n) (e1 : M.1 1 4 = nI n) (e2 : N.1 177 0 = nI n) (hS : Sta M.1 1 (N.1 177) n) (hQ : Pos M.1 (1 + 5) (N.1 177) 1 8 7 n 9999) (hY : Rs N Y) : ∃ Y1 Y2, f_X7_goesBy (nI x) (nI D) Y = some Y1 ∧ f_X7_high (nI i) Y1 = some (hv4 M i D (run4 (M.1 4 i) (M.1 4 j) D x (s04 M i j)).1 (run4 (M.1 4 i) (M.1 4 j) D x (s04 M i j)).2.1 (run4 (M.1 4 i) (M.1 4 j) D x (s04 M i j)).2.2.1) ∧ f_X7_high (nI j) Y1 = some (hv4 M j D (run4 (M.1 4 i) (M.1 4 j) D x (s04 M i j)).1 (run4 (M.1 4 i) (M.1 4 j) D x (s04 M i j)).2.1 (run4 (M.1 4 i) (M.1 4 j) D x (s04 M i j)).2.2.2) ∧ f_X7_backs Y1 = some Y2 ∧ Rs N Y2 := by
  obtain ⟨y1, y2, y3⟩ := hY
  have hp := p5_le hD
  obtain ⟨K1, eK1, k12, mo, mb, ml⟩ := become_n (o := 172) (q := 1 + 5) rfl rfl rfl rfl (by omega) M
  have hT1 : Tr M N K1 Y n (9999 + ((0 : Nat) : Int)) := tr0 ⟨k12, y1, fun c b h => mo _ _ (by omega) (by omega) (by omega), fun c b h => y2 c b (by unfold kept at h; omega), y3, hQ.move mb (fun i hi => ml i (by omega)) (fun j hj => y2 _ _ (by omega)) (fun i hi w hw => y2 _ _ (by omega))⟩
  have hG1 : Gh M K1 i j 0 (s04 M i j) := ⟨mb 0 (by omega), mb 1 (by omega), by rw [mb 2 (by omega)]; exact (Int32.add_zero _).symm, (ml i (by omega)).2, (ml j (by omega)).2, (ml i (by omega)).1, (ml j (by omega)).1⟩
  obtain ⟨⟨r1, r2, Y1⟩, Mv, q1, q2, q3⟩ := by24 (x := x) hD (by omega) hn hi hj e1 e2 hS D 0 FU (5 ^ (D - 1)) K1 Y (s04 M i j) (by omega) (FU_gt (by omega)) (fun e he => by rw [he, Nat.add_sub_cancel]) hT1 hG1
  have q2 : Tr M N Mv Y1 n (9999 + (D : Int)) := q2
  rw [Nat.mod_eq_of_lt hx] at q3
  obtain ⟨Y2, eY, y22, yo, yb⟩ := backsX Y1
  obtain ⟨g0, g1, g2, g3, g4, g5, g6⟩ := q3
  refine ⟨Y1, Y2, ?_, gh_high hn hi hS q2 g0 g1 g2 g3 g5, gh_high hn hj hS q2 g0 g1 g2 g4 g6, eY, ?_⟩
  · unfold f_X7_goesBy
    rw [by5 D (by omega), ob_e, l0, q1, ob3_e]
  · obtain ⟨t1, t2, t3, t4, t5, t6⟩ := q2
    refine ⟨by rw [y22]; exact t2, fun c b h => ?_, fun k hk => by rw [yo _ _ (by omega)]; exact t5 k hk⟩
    by_cases hb : c = 177 ∧ b < 53
    · rw [hb.1, yb b hb.2]; exact t5 b hb.2
    · rw [yo _ _ hb]
      exact t4 c b (by unfold kept; omega)
theorem few_step {M N Y : Mem} {n i j D x f : Nat} {a b : Int32} (hD : D ≤ 5) (hx : x < 5 ^ D) (hn : n ≤ 7) (hi : i < n) (hj : j < n) (e1 : M.1 1 4 = nI n) (e2 : N.1 177 0 = nI n) (hS : Sta M.1 1 (N.1 177) n) (hQ : Pos M.1 (1 + 5) (N.1 177) 1 8 7 n 9999) (hY : Rs N Y) : ∃ Y2, Rs N Y2 ∧ f_X7_fewest_L20 (nI i) a (nI j) b (nI (5 ^ D)) (nI D) (f + 1) (nI x) Y = if ok4 M i j D a b (run4 (M.1 4 i) (M.1 4 j) D x (s04 M i j)) then some (Sum.inr (nI D, s1 Y2 176 15 (nI x))) else f_X7_fewest_L20 (nI i) a (nI j) b (nI (5 ^ D)) (nI D) f (nI (x + 1)) Y2 := by
  obtain ⟨Y1, Y2, t1, t2, t3, t4, t5⟩ := few_trial hD hx hn hi hj e1 e2 hS hQ hY
  have hp := p5_le hD
  refine ⟨Y2, t5, ?_⟩
  rw [f_X7_fewest_L20]
  rw [if_neg (nI_ge hx (by omega)), t1, ob_e, t2, ob_e, t3, ob_e, t4, nI_1]
  generalize run4 (M.1 4 i) (M.1 4 j) D x (s04 M i j) = s
  by_cases c1 : hv4 M i D s.1 s.2.1 s.2.2.1 = a
  · rw [if_pos c1]
    by_cases c2 : hv4 M j D s.1 s.2.1 s.2.2.2 = b
    · rw [if_pos c2, ob_e, ob_e, if_neg (show ¬ (1 : Int32) = 0 by decide), lq_e, if_pos ⟨c1, c2⟩]
    · rw [if_neg c2, ob_e, ob_e, if_pos rfl, lq_e, if_neg (fun q => c2 q.2)]
  · rw [if_neg c1, ob_e, ob_e, if_pos rfl, lq_e, if_neg (fun q => c1 q.1)]
theorem few_none {M N Y : Mem} {n i j D : Nat} {a b : Int32} (hD : D ≤ 5) (hn : n ≤ 7) (hi : i < n) (hj : j < n) (e1 : M.1 1 4 = nI n) (e2 : N.1 177 0 = nI n) (hS : Sta M.1 1 (N.1 177) n) (hQ : Pos M.1 (1 + 5) (N.1 177) 1 8 7 n 9999) (hY : Rs N Y) (hno : ∀ x, x < 5 ^ D → ¬ ok4 M i j D a b (run4 (M.1 4 i) (M.1 4 j) D x (s04 M i j))) : ∃ p Y', f_X7_fewest_L20 (nI i) a (nI j) b (nI (5 ^ D)) (nI D) FU (nI 0) Y = some (Sum.inl (p, Y')) ∧ Rs N Y' := by
  have hp := p5_le hD
  obtain ⟨r, h1, p, Y', rfl, h2⟩ : ∃ r, f_X7_fewest_L20 (nI i) a (nI j) b (nI (5 ^ D)) (nI D) FU (nI 0) Y = some r ∧ ∃ p Y', r = Sum.inl (p, Y') ∧ Rs N Y' := by
    refine loopE (fun f x (y : Mem) => f_X7_fewest_L20 (nI i) a (nI j) b (nI (5 ^ D)) (nI D) f (nI x) y) (5 ^ D) (fun _ y => Rs N y) _ ?_ ?_ (5 ^ D) 0 FU Y (by omega) (FU_gt (by omega)) hY
    · intro f y hy
      refine ⟨Sum.inl (nI (5 ^ D), y), ?_, _, _, rfl, hy⟩
      show f_X7_fewest_L20 (nI i) a (nI j) b (nI (5 ^ D)) (nI D) (f + 1) (nI (5 ^ D)) y = _
      rw [f_X7_fewest_L20]
      rw [if_pos (nI_le (Nat.le_refl _) (by omega))]
    · intro f x y hx hy
      obtain ⟨Y2, h1, h2⟩ := few_step (f := f) (a := a) (b := b) hD hx hn hi hj e1 e2 hS hQ hy
      rw [if_neg (hno x hx)] at h2
      exact Or.inl ⟨Y2, h2, h1⟩
  exact ⟨p, Y', h1, h2⟩
theorem few_some {M N Y : Mem} {n i j D x : Nat} {a b : Int32} (hD : D ≤ 5) (hn : n ≤ 7) (hi : i < n) (hj : j < n) (e1 : M.1 1 4 = nI n) (e2 : N.1 177 0 = nI n) (hS : Sta M.1 1 (N.1 177) n) (hQ : Pos M.1 (1 + 5) (N.1 177) 1 8 7 n 9999) (hY : Rs N Y) (hx : x < 5 ^ D) (hok : ok4 M i j D a b (run4 (M.1 4 i) (M.1 4 j) D x (s04 M i j))) (hno : ∀ y, y < x → ¬ ok4 M i j D a b (run4 (M.1 4 i) (M.1 4 j) D y (s04 M i j))) : ∃ Y', f_X7_fewest_L20 (nI i) a (nI j) b (nI (5 ^ D)) (nI D) FU (nI 0) Y = some (Sum.inr (nI D, s1 Y' 176 15 (nI x))) ∧ Rs N Y' := by
  have hp := p5_le hD
  obtain ⟨r, h1, Y', rfl, h2⟩ : ∃ r, f_X7_fewest_L20 (nI i) a (nI j) b (nI (5 ^ D)) (nI D) FU (nI 0) Y = some r ∧ ∃ Y', r = Sum.inr (nI D, s1 Y' 176 15 (nI x)) ∧ Rs N Y' := by
    refine loopE (fun f x (y : Mem) => f_X7_fewest_L20 (nI i) a (nI j) b (nI (5 ^ D)) (nI D) f (nI x) y) x (fun _ y => Rs N y) _ ?_ ?_ x 0 FU Y (by omega) (FU_gt (by omega)) hY
    · intro f y hy
      obtain ⟨Y2, h1, h2⟩ := few_step (f := f) (a := a) (b := b) hD hx hn hi hj e1 e2 hS hQ hy
      rw [if_pos hok] at h2
      exact ⟨_, h2, Y2, rfl, h1⟩
    · intro f z y hz hy
      obtain ⟨Y2, h1, h2⟩ := few_step (x := z) (f := f) (a := a) (b := b) hD (by omega) hn hi hj e1 e2 hS hQ hy
      rw [if_neg (hno z hz)] at h2
      exact Or.inl ⟨Y2, h2, h1⟩
  exact ⟨Y', h1, h2⟩
def FrC (M0 M : Mem) : Prop := M.2 = M0.2 ∧ ∀ c k, c ≠ 167 → c ≠ 168 → M.1 c k = M0.1 c k
theorem fewest_L {M N : Mem} {n i j : Nat} {a b : Int32} (hn : n ≤ 7) (hi : i < n) (hj : j < n) (e1 : M.1 1 4 = nI n) (e2 : N.1 177 0 = nI n) (hS : Sta M.1 1 (N.1 177) n) (hQ : Pos M.1 (1 + 5) (N.1 177) 1 8 7 n 9999) {K Y : Mem} (hK : Cl M K i j (5) a b (M.1 4 i) (M.1 4 j) ∨ ∃ v, Cl M (s1 K 167 1 v) i j 5 a b (M.1 4 i) (M.1 4 j)) (hY : Rs N Y) : ∃ r s, f_X4_fewest_L50 167 1 (nI i) (nI j) FU (nI 0) K = some r ∧ f_X7_fewest_L10 (nI i) a (nI j) b FU (nI 1) (nI 0) Y = some s ∧ ((∃ p q u K' Y', r = Sum.inl (p, K') ∧ s = Sum.inl (q, u, Y') ∧ FrC M K' ∧ Rs N Y') ∨ (∃ D x K' Y', D ≤ 5 ∧ x < 5 ^ D ∧ r = Sum.inr (nI D, K') ∧ s = Sum.inr (nI D, s1 Y' 176 15 (nI x)) ∧ (∀ t, t < D → K'.1 168 t = nI (x / 5 ^ (D - 1 - t) % 5)) ∧ FrC M K' ∧ Rs N Y')) := by
  have hK' : ∃ v, Cl M (s1 K 167 1 v) i j 5 a b (M.1 4 i) (M.1 4 j) := by
    rcases hK with h | h
    · refine ⟨nI 5, ?_⟩
      obtain ⟨c1, c2, c3, c4, c5, c6, c7, c8, c9⟩ := h
      refine ⟨c1, fun c k q1 q2 => by rw [s1_ne (by omega)]; exact c2 c k q1 q2, s1_eq, ?_, ?_, ?_, ?_, ?_, ?_⟩ <;> (rw [s1_ne (by omega)]; assumption)
    · exact h
  refine loop2 (fun f D (x : Mem) => f_X4_fewest_L50 167 1 (nI i) (nI j) f (nI D) x) (fun f D (y : Mem) => f_X7_fewest_L10 (nI i) a (nI j) b f (nI (5 ^ D)) (nI D) y) 6 (fun _ x y => (∃ v, Cl M (s1 x 167 1 v) i j 5 a b (M.1 4 i) (M.1 4 j)) ∧ Rs N y) _ ?_ ?_ 6 0 FU FU K Y (by omega) (FU_gt (by omega)) (FU_gt (by omega)) ⟨hK', hY⟩
  · intro f g x y h
    obtain ⟨⟨v, c1, c2, _⟩, h2⟩ := h
    refine ⟨Sum.inl (nI 6, x), Sum.inl (nI (5 ^ 6), nI 6, y), ?_, ?_, Or.inl ⟨_, _, _, _, _, rfl, rfl, ⟨c1, fun c k q1 q2 => by rw [← c2 c k q1 q2, s1_ne (by omega)]⟩, h2⟩⟩
    · show f_X4_fewest_L50 167 1 (nI i) (nI j) (f + 1) (nI 6) x = _
      rw [f_X4_fewest_L50]
      rw [l5, if_pos (nI_lt (by decide) (by decide))]
    · show f_X7_fewest_L10 (nI i) a (nI j) b (g + 1) (nI (5 ^ 6)) (nI 6) y = _
      rw [f_X7_fewest_L10]
      rw [l6, if_pos (nI_le (Nat.le_refl _) (by decide))]
  · intro f g D x y hD h
    obtain ⟨⟨v, c1, c2, c3, c4, c5, c6, c7, c8, c9⟩, hy⟩ := h
    have hC : Cl M (s1 x 167 1 (nI D)) i j D a b (M.1 4 i) (M.1 4 j) := by
      refine ⟨c1, fun c k q1 q2 => ?_, s1_eq, ?_, ?_, ?_, ?_, ?_, ?_⟩
      · rw [← c2 c k q1 q2, s1_ne (by omega), s1_ne (by omega)]
      · rw [← c4, s1_ne (by omega), s1_ne (by omega)]
      · rw [← c5, s1_ne (by omega), s1_ne (by omega)]
      · rw [← c6, s1_ne (by omega), s1_ne (by omega)]
      · rw [← c7, s1_ne (by omega), s1_ne (by omega)]
      · rw [← c8, s1_ne (by omega), s1_ne (by omega)]
      · rw [← c9, s1_ne (by omega), s1_ne (by omega)]
    obtain ⟨K', hcase, m1, m2⟩ := reach (by omega) (by omega) (show D ≤ 5 by omega) D 8 (s04 M i j) _ (by omega) (Nat.le_refl _) hC
    have hC' : Cl M K' i j D a b (M.1 4 i) (M.1 4 j) := hC.of m2 (fun c k q => m1 c k (by omega))
    have hF : FrC M K' := ⟨hC'.1, hC'.2.1⟩
    have eM : f_X4_fewest_L50 167 1 (nI i) (nI j) (f + 1) (nI D) x = ob2 (f_X4_reaches 8 167 1 (nI D) (s04 M i j).1 (s04 M i j).2.1 (s04 M i j).2.2.1 (s04 M i j).2.2.2 (s1 x 167 1 (nI D))) (fun x16 M17 => if x16 = (0 : Int32) then f_X4_fewest_L50 167 1 (nI i) (nI j) f (nI (D + 1)) M17 else some (Sum.inr (nI D, M17))) := by
      rw [f_X4_fewest_L50]
      generalize f_X4_reaches 8 = FF
      unfold f_X2_wornOf
      rw [l5, if_neg (nI_nlt (by omega) (by omega)), lq_e, cell_n (show i < ln (1 + 5 + 2) from by show i < 7; omega) (by decide), ob_e, ob_e, cell_n (show j < ln (1 + 5 + 2) from by show j < 7; omega) (by decide), ob_e, ob_e, hC.2.1 _ _ (by decide) (by decide), hC.2.1 _ _ (by decide) (by decide), hC.2.1 _ _ (by decide) (by decide), hC.2.1 _ _ (by decide) (by decide), nI_1]
      rfl
    rcases hcase with ⟨q1, q2⟩ | ⟨z, hz, q1, q2, q3, q4⟩
    · left
      obtain ⟨p, Y', r1, r2⟩ := few_none (D := D) (by omega) hn hi hj e1 e2 hS hQ hy q2
      refine ⟨K', Y', ?_, ?_, ⟨nI 5, ?_⟩, r2⟩
      · show f_X4_fewest_L50 167 1 (nI i) (nI j) (f + 1) (nI D) x = _
        rw [eM, q1, ob2_e, if_pos rfl]
      · show f_X7_fewest_L10 (nI i) a (nI j) b (g + 1) (nI (5 ^ D)) (nI D) y = f_X7_fewest_L10 (nI i) a (nI j) b g (nI (5 ^ (D + 1))) (nI (D + 1)) Y'
        rw [f_X7_fewest_L10]
        rw [l6, if_neg (nI_ge hD (by decide)), l0, r1, oeI2_l, l5, pk_mul, lq_e, lq_e, nI_1, Nat.pow_succ]
      · obtain ⟨c1, c2, c3, c4, c5, c6, c7, c8, c9⟩ := hC'
        refine ⟨c1, fun c k q1 q2 => by rw [s1_ne (by omega)]; exact c2 c k q1 q2, s1_eq, ?_, ?_, ?_, ?_, ?_, ?_⟩ <;> (rw [s1_ne (by omega)]; assumption)
    · right
      obtain ⟨Y', r1, r2⟩ := few_some (D := D) (by omega) hn hi hj e1 e2 hS hQ hy hz q2 q3
      refine ⟨Sum.inr (nI D, K'), Sum.inr (nI D, s1 Y' 176 15 (nI z)), ?_, ?_, Or.inr ⟨D, z, K', Y', by omega, hz, rfl, rfl, fun t ht => ?_, hF, r2⟩⟩
      · show f_X4_fewest_L50 167 1 (nI i) (nI j) (f + 1) (nI D) x = _
        rw [eM, q1, ob2_e, if_neg (show ¬ (1 : Int32) = 0 by decide)]
      · show f_X7_fewest_L10 (nI i) a (nI j) b (g + 1) (nI (5 ^ D)) (nI D) y = _
        rw [f_X7_fewest_L10]
        rw [l6, if_neg (nI_ge hD (by decide)), l0, r1, oeI2_r]
      · have := q4 t ht
        rw [Nat.sub_self, Nat.zero_add] at this
        exact this
theorem few_rel {M N K Y : Mem} (hR : Rel M N) (hK : FrC M K) (hY : Rs N Y) : Rel K Y ∧ ∀ v, Rel K (s1 Y 176 15 v) := by
  obtain ⟨k1, k2⟩ := hK
  obtain ⟨y1, y2, _⟩ := hY
  refine ⟨⟨hR.1.congr (fun a i _ _ => k2 _ _ (by omega) (by omega)) (fun k _ => y2 _ _ (by omega)), hR.2.congr (fun a b hab => k2 _ _ (by unfold oC at hab; omega) (by unfold oC at hab; omega)) (by rw [k1]) (fun a b hab => y2 _ _ (by unfold oM at hab; omega)) (by rw [y1])⟩, fun v => ⟨hR.1.congr (fun a i _ _ => k2 _ _ (by omega) (by omega)) (fun k _ => by rw [s1_ne (by omega)]; exact y2 _ _ (by omega)), hR.2.congr (fun a b hab => k2 _ _ (by unfold oC at hab; omega) (by unfold oC at hab; omega)) (by rw [k1]) (fun a b hab => by rw [s1_ne (by unfold oM at hab; omega)]; exact y2 _ _ (by unfold oM at hab; omega)) (by rw [s1_2, y1])⟩⟩
theorem fewest_rel {M N : Mem} {n i j : Nat} {a b : Int32} (hR : Rel M N) (hn : n ≤ 7) (hi : i < n) (hj : j < n) (e1 : M.1 1 4 = nI n) (e2 : N.1 177 0 = nI n) (hS : Sta M.1 1 (N.1 177) n) (hQ : Pos M.1 (1 + 5) (N.1 177) 1 8 7 n 9999) : ∃ M' N', Rel M' N' ∧ ((f_X4_fewest 167 1 (nI i) a (nI j) b M = some (-1, M') ∧ f_X7_fewest (nI i) a (nI j) b N = some (-1001, N')) ∨ (∃ D x, D ≤ 5 ∧ x < 5 ^ D ∧ f_X4_fewest 167 1 (nI i) a (nI j) b M = some (nI D, M') ∧ f_X7_fewest (nI i) a (nI j) b N = some (nI D, N') ∧ N'.1 176 15 = nI x ∧ ∀ t, t < D → M'.1 168 t = nI (x / 5 ^ (D - 1 - t) % 5))) := by
  obtain ⟨N1, en, n1, n2, n3⟩ := asidesX N
  obtain ⟨r, s, k1, k2, hq⟩ := fewest_L (K := s1 (s1 (s1 (s1 (s1 (s1 M 167 2 (nI i)) 167 3 a) 167 4 (M.1 4 i)) 167 5 (nI j)) 167 6 b) 167 7 (M.1 4 j)) (Y := N1) (a := a) (b := b) hn hi hj e1 e2 hS hQ (Or.inr ⟨nI 5, rfl, fun c k q1 q2 => by rw [s1_ne (by omega), s1_ne (by omega), s1_ne (by omega), s1_ne (by omega), s1_ne (by omega), s1_ne (by omega), s1_ne (by omega)], s1_eq, by rw [s1_ne (by omega), s1_ne (by omega), s1_ne (by omega), s1_ne (by omega), s1_ne (by omega), s1_ne (by omega), s1_eq], by rw [s1_ne (by omega), s1_ne (by omega), s1_ne (by omega), s1_ne (by omega), s1_ne (by omega), s1_eq], by rw [s1_ne (by omega), s1_ne (by omega), s1_ne (by omega), s1_ne (by omega), s1_eq], by rw [s1_ne (by omega), s1_ne (by omega), s1_ne (by omega), s1_eq], by rw [s1_ne (by omega), s1_ne (by omega), s1_eq], by rw [s1_ne (by omega), s1_eq]⟩) ⟨n1, fun c b q => n2 c b (by omega), n3⟩
  have eM : f_X4_fewest 167 1 (nI i) a (nI j) b M = oeT2 (some r) (fun x11 M12 => some (((-1) : Int32), M12)) := by
    unfold f_X4_fewest f_X2_weightOf
    rw [lq_e, lq_e, cell_n (show i < ln (1 + 3) from by show i < 7; omega) (by decide), ob_e, ob_e, lq_e, lq_e, lq_e, cell_n (show j < ln (1 + 3) from by show j < 7; omega) (by decide), ob_e, ob_e, lq_e, l0, s1_ne (show ¬ (1 + 3 = 167 ∧ i = 3) by omega), s1_ne (show ¬ (1 + 3 = 167 ∧ i = 2) by omega), s1_ne (show ¬ (1 + 3 = 167 ∧ j = 6) by omega), s1_ne (show ¬ (1 + 3 = 167 ∧ j = 5) by omega), s1_ne (show ¬ (1 + 3 = 167 ∧ j = 4) by omega), s1_ne (show ¬ (1 + 3 = 167 ∧ j = 3) by omega), s1_ne (show ¬ (1 + 3 = 167 ∧ j = 2) by omega)]
    exact congrArg (fun z => oeT2 z (fun x11 M12 => some (((-1) : Int32), M12))) k1
  have eN : f_X7_fewest (nI i) a (nI j) b N = oeT3 (some s) (fun x6 x7 M8 => some (((-1001) : Int32), M8)) := by
    unfold f_X7_fewest
    rw [en, ob_e, l0, l1, k2]
  rcases hq with ⟨p, q, u, K', Y', rfl, rfl, h3, h4⟩ | ⟨D, x, K', Y', hD, hx, rfl, rfl, h3, h4, h5⟩
  · exact ⟨K', Y', (few_rel hR h3 h4).1, Or.inl ⟨eM, eN⟩⟩
  · exact ⟨K', s1 Y' 176 15 (nI x), (few_rel hR h4 h5).2 _, Or.inr ⟨D, x, hD, hx, eM, eN, s1_eq, h3⟩⟩
theorem few68 {a : Int32} : ∀ (d f y : Nat) (v : Int32), d < f → y < 2147483648 → d ≤ 5 → ∃ r, f_X7_few_L68 a f (nI y) v (nI d - 1) = some r ∧ (∀ t, t < d → a = nI t → r = nI (y / 5 ^ (d - 1 - t) % 5)) ∧ ((∀ t, t < d → ¬ a = nI t) → r = v) := by
  intro d
  induction d with
  | zero =>
    intro f y v hf hy hd
    obtain ⟨f', rfl⟩ : ∃ f', f = f' + 1 := ⟨f - 1, by omega⟩
    refine ⟨v, ?_, fun t ht => absurd ht (by omega), fun _ => rfl⟩
    rw [f_X7_few_L68]
    rw [if_pos (show nI 0 - 1 < (0 : Int32) by decide)]
  | succ d ih =>
    intro f y v hf hy hd
    obtain ⟨f', rfl⟩ : ∃ f', f = f' + 1 := ⟨f - 1, by omega⟩
    have hq : y / 5 ≤ y := Nat.div_le_self _ _
    obtain ⟨r, k1, k2, k3⟩ := ih f' (y / 5) (if nI d = a then nI (y % 5) else v) (by omega) (by omega) (by omega)
    refine ⟨r, ?_, fun t ht e => ?_, fun hno => ?_⟩
    · rw [f_X7_few_L68]
      rw [show nI (d + 1) - (1 : Int32) = nI d from by rw [l1, pk_sub (show 1 ≤ d + 1 by omega), Nat.add_sub_cancel], if_neg (show ¬ nI d < (0 : Int32) from nI_nlt (b := 0) (by omega) (by omega)), l5, pk_rem (show y < 2 ^ 31 from hy) (by decide) (by decide), div_n hy (by decide), ← Int32.sub_eq_add_neg]
      by_cases c : nI d = a
      · rw [if_pos c, ob_e, lq_e, lq_e]
        rw [if_pos c] at k1
        exact k1
      · rw [if_neg c, ob_e, lq_e, lq_e]
        rw [if_neg c] at k1
        exact k1
    · by_cases e0 : t = d
      · subst e0
        rw [k3 (fun t' ht' e' => by rw [e] at e'; have := (nI_eq (by omega) (by omega)).mp e'; omega), if_pos e.symm, show t + 1 - 1 - t = 0 by omega, Nat.pow_zero, Nat.div_one]
      · rw [k2 t (by omega) e, Nat.div_div_eq_div_mul, show d + 1 - 1 - t = d - 1 - t + 1 by omega, Nat.pow_succ, Nat.mul_comm 5]
    · rw [k3 (fun t ht => hno t (by omega)), if_neg (fun q => hno d (by omega) q.symm)]
theorem y_hi (a : Int32) : (f_X7_in a.toInt64 ((-40) : Int64) (60 : Int64) = 0) ↔ ¬ oI a (-40) 60 := y_m40_60 a
theorem op12 : opP12 Rel := by
  intro a1 a2 a3 M N hR
  unfold f_X6_few f_X7_few
  obtain ⟨⟨n, hn, e1, e2, hS, hQ, hD, hTt, hU⟩, hO⟩ := id hR
  have hb : ∃ r M' N', ob2 (f_X6_refuseBad ((-10) : Int32) M) (fun x2 M3 => some (x2, M3)) = some (r, M') ∧ ob2 (f_X7_badTen N) (fun x2 M3 => some (x2, M3)) = some (r, N') ∧ Rel M' N' := ⟨_, _, _, rfl, rfl, hR.bad⟩
  obtain ⟨z1, ez1, hz1⟩ := y_lb a1 hn e2
  rw [ez1, ob_e]
  by_cases g1 : oI a1 0 ((n : Int) - 1)
  · rw [if_pos ((o_lb a1 hn e1).mpr g1), if_neg (fun q => (hz1.mp q) g1)]
    by_cases g2 : oI a2 (-40) 60
    · rw [if_pos ((o_hi a2).mpr g2), if_neg (fun q => ((y_hi a2).mp q) g2)]
      by_cases g4 : ((-1) : Int32) ≤ a3
      · rw [if_pos g4, if_pos g4]
        obtain ⟨i, hi, rfl⟩ := nI_oI g1 (by omega)
        obtain ⟨M', N', hR', hq⟩ := fewest_rel (a := a2) (b := a2) hR hn hi hi e1 e2 hS hQ
        rcases hq with ⟨q1, q2⟩ | ⟨D, x, hD5, hx, q1, q2, q3, q4⟩
        · rw [q1, q2, ob2_e, ob2_e, if_neg (show ¬ (0 : Int32) ≤ -1 by decide), if_pos rfl]
          exact ⟨_, _, _, rfl, rfl, hR'⟩
        · have hp := p5_le hD5
          obtain ⟨r, k1, k2, k3⟩ := few68 (a := a3) D FU x 0 (FU_gt (by omega)) (by omega) hD5
          rw [q1, q2, ob2_e, ob2_e, if_pos (show (0 : Int32) ≤ nI D from nI_le (a := 0) (by omega) (by omega)), if_neg (show ¬ nI D = (-1001 : Int32) from fun q => by
            have := congrArg Int32.toInt q
            rw [nI_I (by omega), show ((-1001 : Int32)).toInt = -1001 by decide] at this
            omega), lq_e, lq_e, q3, k1, ob_e]
          unfold f_X7_found
          by_cases h0 : (0 : Int32) ≤ a3
          · obtain ⟨t, ht, rfl⟩ := nI_of (x := a3) (by rw [ilt]; exact h0)
            have ht : t < 2147483648 := ht
            rw [if_neg (show ¬ nI t = (-1 : Int32) from fun q => by
              have := congrArg Int32.toInt q
              rw [nI_I (by omega), show ((-1 : Int32)).toInt = -1 by decide] at this
              omega), if_pos h0]
            by_cases h1 : D ≤ t
            · rw [if_pos (nI_le h1 (by omega)), if_pos (nI_le h1 (by omega))]
              exact ⟨_, _, _, rfl, rfl, hR'⟩
            · have ht5 : t < 5 := by omega
              rw [if_neg (nI_ge (by omega) (by omega)), if_neg (nI_ge (by omega) (by omega)), cell_n (show t < ln (167 + 1) from ht5) (by decide), ob_e, k2 t (by omega) rfl, show M'.1 (167 + 1) t = nI (x / 5 ^ (D - 1 - t) % 5) from q4 t (by omega)]
              exact ⟨_, _, _, rfl, rfl, hR'⟩
          · have ea : a3 = -1 := by
              rw [← Int32.toInt_inj]
              rw [Int32.le_iff_toInt_le] at h0 g4
              rw [show (0 : Int32).toInt = 0 by decide] at h0
              rw [show (-1 : Int32).toInt = -1 by decide] at g4 ⊢
              omega
            rw [if_neg h0, if_pos ea]
            exact ⟨_, _, _, rfl, rfl, hR'⟩
      · rw [if_neg g4, if_neg g4]; exact hb
    · rw [if_neg (fun q => g2 ((o_hi a2).mp q)), if_pos ((y_hi a2).mpr g2)]; exact hb
  · rw [if_neg (fun q => g1 ((o_lb a1 hn e1).mp q)), if_pos (hz1.mpr g1)]; exact hb
theorem op13 : opP13 Rel := by
  intro a1 a2 a3 a4 M N hR
  unfold f_X6_both f_X7_both
  obtain ⟨⟨n, hn, e1, e2, hS, hQ, hD, hTt, hU⟩, hO⟩ := id hR
  have hb : ∃ r M' N', ob2 (f_X6_refuseBad ((-1002) : Int32) M) (fun x2 M3 => some (x2, M3)) = some (r, M') ∧ ob2 (f_X7_bad N) (fun x2 M3 => some (x2, M3)) = some (r, N') ∧ Rel M' N' := ⟨_, _, _, rfl, rfl, hR.bad⟩
  obtain ⟨z1, ez1, hz1⟩ := y_lb a1 hn e2
  obtain ⟨z2, ez2, hz2⟩ := y_lb a3 hn e2
  rw [ez1, ob_e, ez2, ob_e]
  by_cases g1 : oI a1 0 ((n : Int) - 1)
  · rw [if_pos ((o_lb a1 hn e1).mpr g1), if_neg (fun q => (hz1.mp q) g1)]
    by_cases g3 : oI a3 0 ((n : Int) - 1)
    · rw [if_pos ((o_lb a3 hn e1).mpr g3), if_neg (fun q => (hz2.mp q) g3)]
      by_cases g2 : oI a2 (-40) 60
      · rw [if_pos ((o_hi a2).mpr g2), if_neg (fun q => ((y_hi a2).mp q) g2)]
        by_cases g4 : oI a4 (-40) 60
        · rw [if_pos ((o_hi a4).mpr g4), if_neg (fun q => ((y_hi a4).mp q) g4)]
          by_cases g5 : a1 = a3
          · rw [if_pos g5, if_pos g5]; exact hb
          · rw [if_neg g5, if_neg g5]
            obtain ⟨i, hi, rfl⟩ := nI_oI g1 (by omega)
            obtain ⟨j, hj, rfl⟩ := nI_oI g3 (by omega)
            obtain ⟨M', N', hR', hq⟩ := fewest_rel (a := a2) (b := a4) hR hn hi hj e1 e2 hS hQ
            rcases hq with ⟨q1, q2⟩ | ⟨D, x, hD5, hx, q1, q2, q3, q4⟩
            · rw [q1, q2, ob2_e, ob2_e, if_neg (show ¬ (0 : Int32) ≤ -1 by decide)]
              exact ⟨_, _, _, rfl, rfl, hR'⟩
            · rw [q1, q2, ob2_e, ob2_e, if_pos (show (0 : Int32) ≤ nI D from nI_le (a := 0) (by omega) (by omega))]
              exact ⟨_, _, _, rfl, rfl, hR'⟩
        · rw [if_neg (fun q => g4 ((o_hi a4).mp q)), if_pos ((y_hi a4).mpr g4)]
          by_cases g5 : a1 = a3
          · rw [if_pos g5]; exact hb
          · rw [if_neg g5]; exact hb
      · rw [if_neg (fun q => g2 ((o_hi a2).mp q)), if_pos ((y_hi a2).mpr g2)]
        by_cases g5 : a1 = a3
        · rw [if_pos g5]; exact hb
        · rw [if_neg g5]; exact hb
    · rw [if_neg (fun q => g3 ((o_lb a3 hn e1).mp q)), if_pos (hz2.mpr g3)]
      by_cases g2 : oI a2 (-40) 60
      · rw [if_pos ((o_hi a2).mpr g2)]; exact hb
      · rw [if_neg (fun q => g2 ((o_hi a2).mp q))]; exact hb
  · rw [if_neg (fun q => g1 ((o_lb a1 hn e1).mp q)), if_pos (hz1.mpr g1)]; exact hb
