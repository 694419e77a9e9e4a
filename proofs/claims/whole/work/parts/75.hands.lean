theorem trial_stepF {M0 N0 M N : Mem} {n k : Nat} {X : Int} (hk : k < 5) (hX : X < 1000000000) (hn : n ≤ 7) (e1 : M0.1 1 4 = nI n) (e2 : N0.1 177 0 = nI n) (hS : Sta M0.1 1 (N0.1 177) n) (hT : Tr M0 N0 M N n X) : ∃ M' N', f_X2_step 1 172 (nI k) M = some M' ∧ f_X7_goes (nI k) N = some N' ∧ Tr M0 N0 M' N' n (X + 1) ∧ (∀ c b, c < 172 → M'.1 c b = M.1 c b) ∧ (∀ c b, c ≠ 177 → N'.1 c b = N.1 c b) := by
  obtain ⟨t1, t2, t3, t4, t5, t6⟩ := hT
  obtain ⟨M', N', eM, eN, eM2, eN2, mo, no, hQ, _⟩ := step_rel (q := 172) (Or.inr rfl) hk hX hn (by rw [t3 _ _ (by omega)]; exact e1) (by rw [t4 _ _ (by unfold kept; omega)]; exact e2) (hS.congr (fun a i _ _ _ => t3 _ _ (by omega)) (fun i w _ _ => t4 _ _ (by unfold kept; omega))) t6
  refine ⟨M', N', eM, eN, ⟨by rw [eM2]; exact t1, by rw [eN2]; exact t2, fun c b q => ?_, fun c b q => ?_, fun k hk => ?_, hQ⟩, fun c b q => mo _ _ (by omega) (by omega), fun c b q => no _ _ (by omega)⟩
  · rw [mo _ _ (by omega) (by omega)]; exact t3 c b q
  · rw [no _ _ (by unfold kept at q; omega)]; exact t4 c b q
  · rw [no _ _ (by omega)]; exact t5 k hk
def Hn (M N K Y : Mem) (u : Nat) : Prop := K.2 = M.2 ∧ Y.2 = N.2 ∧ (∀ c b, c < 167 ∨ c = 175 → K.1 c b = M.1 c b) ∧ (∀ c b, c < 179 ∨ c = 184 → Y.1 c b = N.1 c b) ∧ (∀ k, k < 53 → Y.1 180 k = N.1 177 k) ∧ (∀ t, t < u → K.1 170 t = Y.1 182 t ∧ K.1 171 t = Y.1 183 t)
theorem hands_step {M N K Y : Mem} {n i j a c : Nat} {x1 x2 : Int32} (hR : Rel M N) (hn : n ≤ 7) (e1 : M.1 1 4 = nI n) (e2 : N.1 177 0 = nI n) (hS : Sta M.1 1 (N.1 177) n) (hQ : Pos M.1 (1 + 5) (N.1 177) 1 8 7 n 9999) (hi : i < n) (hj : j < n) (ha : a < 5) (hc : c < 5) (hH : Hn M N K Y (5 * a + c)) (f g : Nat) : ∃ K' Y', f_X0_weigh_L35 169 1 172 (nI i) (nI j) x1 x2 (nI a) (f + 1) (nI c) K = f_X0_weigh_L35 169 1 172 (nI i) (nI j) x1 x2 (nI a) f (nI (c + 1)) K' ∧ f_X7_hands_L61 (nI i) (nI j) x1 x2 (nI a) (g + 1) (nI c) Y = f_X7_hands_L61 (nI i) (nI j) x1 x2 (nI a) g (nI (c + 1)) Y' ∧ Hn M N K' Y' (5 * a + c + 1) := by
  obtain ⟨q1, q2, q3, q4, q5, q6⟩ := hH
  obtain ⟨K1, eK1, k12, mo, mb, ml⟩ := become_n (o := 172) (q := 1 + 5) rfl rfl rfl rfl (by omega) K
  have hT1 : Tr M N K1 Y n 9999 := ⟨by rw [k12]; exact q1, q2, fun c b h => by rw [mo _ _ (by omega) (by omega) (by omega)]; exact q3 c b h, fun c b h => q4 c b (by unfold kept at h; omega), q5, hQ.move (fun j hj => by rw [mb j hj]; exact q3 _ _ (by omega)) (fun i hi => by rw [(ml i (by omega)).1, (ml i (by omega)).2]; exact ⟨q3 _ _ (by omega), q3 _ _ (by omega)⟩) (fun j hj => q4 _ _ (by omega)) (fun i hi w hw => q4 _ _ (by omega))⟩
  obtain ⟨K2, Y2, eK2, eY2, hT2, kf2, yf2⟩ := trial_stepF (k := a) ha (by omega) hn e1 e2 hS hT1
  obtain ⟨K3, Y3, eK3, eY3, hT3, kf3, yf3⟩ := trial_stepF (k := c) hc (by omega) hn e1 e2 hS hT2
  obtain ⟨v, v1, v2⟩ := trial_high hn hi hS hT3
  have hT4 : ∀ w1 w2, Tr M N (s1 K3 170 (5 * a + c) w1) (s1 Y3 182 (5 * a + c) w2) n (9999 + 1 + 1) := by
    intro w1 w2
    obtain ⟨t1, t2, t3, t4, t5, t6⟩ := hT3
    exact ⟨t1, t2, fun c b h => by rw [s1_ne (by omega)]; exact t3 c b h, fun c b h => by rw [s1_ne (by unfold kept at h; omega)]; exact t4 c b h, fun k hk => by rw [s1_ne (by omega)]; exact t5 k hk, t6.congr (fun a i _ _ => s1_ne (by omega)) (fun j _ => s1_ne (by omega)) (fun i w _ _ => s1_ne (by omega))⟩
  obtain ⟨w, w1, w2⟩ := trial_high hn hj hS (hT4 ((v - x1) - f_X0_toll (nI a)) ((v - x1) - f_X0_toll (nI a)))
  obtain ⟨Y6, eY6, y62, yo, yb⟩ := backsX (s1 (s1 Y3 182 (5 * a + c) ((v - x1) - f_X0_toll (nI a))) 183 (5 * a + c) ((w - x2) - f_X0_toll (nI c)))
  refine ⟨s1 (s1 K3 170 (5 * a + c) ((v - x1) - f_X0_toll (nI a))) 171 (5 * a + c) ((w - x2) - f_X0_toll (nI c)), Y6, ?_, ?_, ?_⟩
  · rw [f_X0_weigh_L35]
    rw [l5, if_neg (nI_ge hc (by decide)), eK1, ob_e, eK2, ob_e, eK3, ob_e, v1, ob_e, place_n, put_n (show 5 * a + c < ln (169 + 1) from by show 5 * a + c < 25; omega) (by decide), ob_e, show f_X2_highIn 1 172 (nI j) (s1 K3 (169 + 1) (5 * a + c) ((v - x1) - f_X0_toll (nI a))) = some w from w1, ob_e, put_n (show 5 * a + c < ln (169 + 2) from by show 5 * a + c < 25; omega) (by decide), ob_e, lq_e, nI_1]
  · rw [f_X7_hands_L61]
    unfold f_X0_toll at w2 eY6
    rw [l5, if_neg (nI_ge hc (by decide)), eY2, ob_e, eY3, ob_e, v2, ob_e, lq_e, pk_mul, nI_add, wr_n (by rw [ln_182]; omega) (by omega), ob_e, w2, ob_e, lq_e, wr_n (by rw [ln_183]; omega) (by omega), ob_e, eY6, ob_e, lq_e, nI_1]
  · obtain ⟨t1, t2, t3, t4, t5, t6⟩ := hT3
    refine ⟨t1, by rw [y62]; exact t2, fun c b h => by rw [s1_ne (by omega), s1_ne (by omega)]; exact t3 c b h, fun c' b h => ?_, fun k hk => ?_, fun t ht => ?_⟩
    · by_cases hb : c' = 177 ∧ b < 53
      · rw [hb.1, yb b hb.2, s1_ne (by omega), s1_ne (by omega)]; exact t5 b hb.2
      · rw [yo _ _ hb, s1_ne (by omega), s1_ne (by omega)]
        exact t4 c' b (by unfold kept; omega)
    · rw [yo _ _ (by omega), s1_ne (by omega), s1_ne (by omega)]; exact t5 k hk
    · rw [yo _ _ (by omega), yo _ _ (by omega)]
      by_cases e : t = 5 * a + c
      · subst e
        rw [s1_ne (by omega), s1_eq, s1_ne (by omega), s1_eq, s1_eq, s1_eq]
        exact ⟨rfl, rfl⟩
      · rw [s1_ne (by omega), s1_ne (by omega), s1_ne (by omega), s1_ne (by omega), s1_ne (by omega), s1_ne (by omega), s1_ne (by omega), s1_ne (by omega), kf3 _ _ (by omega), kf2 _ _ (by omega), mo _ _ (by omega) (by omega) (by omega), kf3 _ _ (by omega), kf2 _ _ (by omega), mo _ _ (by omega) (by omega) (by omega), yf3 _ _ (by omega), yf2 _ _ (by omega), yf3 _ _ (by omega), yf2 _ _ (by omega)]
        exact q6 t (by omega)
