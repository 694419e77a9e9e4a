theorem hands_c {M N : Mem} {n i j a : Nat} {x1 x2 : Int32} (hR : Rel M N) (hn : n ≤ 7) (e1 : M.1 1 4 = nI n) (e2 : N.1 177 0 = nI n) (hS : Sta M.1 1 (N.1 177) n) (hQ : Pos M.1 (1 + 5) (N.1 177) 1 8 7 n 9999) (hi : i < n) (hj : j < n) (ha : a < 5) {K Y : Mem} (hH : Hn M N K Y (5 * a + 0)) : ∃ r s, f_X0_weigh_L35 169 1 172 (nI i) (nI j) x1 x2 (nI a) FU (nI 0) K = some r ∧ f_X7_hands_L61 (nI i) (nI j) x1 x2 (nI a) FU (nI 0) Y = some s ∧ Hn M N r.2 s.2 (5 * a + 5) := by
  refine loop2 (fun k c (K : Mem) => f_X0_weigh_L35 169 1 172 (nI i) (nI j) x1 x2 (nI a) k (nI c) K) (fun k c (Y : Mem) => f_X7_hands_L61 (nI i) (nI j) x1 x2 (nI a) k (nI c) Y) 5 (fun c K Y => Hn M N K Y (5 * a + c)) _ ?_ ?_ 5 0 FU FU K Y (by omega) (FU_gt (by omega)) (FU_gt (by omega)) hH
  · intro k m x y h
    refine ⟨(nI 5, x), (nI 5, y), ?_, ?_, h⟩
    · show f_X0_weigh_L35 169 1 172 (nI i) (nI j) x1 x2 (nI a) (k + 1) (nI 5) x = _
      rw [f_X0_weigh_L35]
      rw [l5, if_pos (nI_le (Nat.le_refl _) (by decide))]
    · show f_X7_hands_L61 (nI i) (nI j) x1 x2 (nI a) (m + 1) (nI 5) y = _
      rw [f_X7_hands_L61]
      rw [l5, if_pos (nI_le (Nat.le_refl _) (by decide))]
  · intro k m c x y hc h
    obtain ⟨K', Y', h1, h2, h3⟩ := hands_step (x1 := x1) (x2 := x2) hR hn e1 e2 hS hQ hi hj ha hc h k m
    exact Or.inl ⟨K', Y', h1, h2, h3⟩
theorem hands_a {M N : Mem} {n i j : Nat} {x1 x2 : Int32} (hR : Rel M N) (hn : n ≤ 7) (e1 : M.1 1 4 = nI n) (e2 : N.1 177 0 = nI n) (hS : Sta M.1 1 (N.1 177) n) (hQ : Pos M.1 (1 + 5) (N.1 177) 1 8 7 n 9999) (hi : i < n) (hj : j < n) {K Y : Mem} (hH : Hn M N K Y 0) : ∃ r s, f_X0_weigh_L26 169 1 172 (nI i) (nI j) x1 x2 FU (nI 0) K = some r ∧ f_X7_hands_L52 (nI i) (nI j) x1 x2 FU (nI 0) Y = some s ∧ Hn M N r.2 s.2 25 := by
  refine loop2 (fun k a (K : Mem) => f_X0_weigh_L26 169 1 172 (nI i) (nI j) x1 x2 k (nI a) K) (fun k a (Y : Mem) => f_X7_hands_L52 (nI i) (nI j) x1 x2 k (nI a) Y) 5 (fun a K Y => Hn M N K Y (5 * a)) _ ?_ ?_ 5 0 FU FU K Y (by omega) (FU_gt (by omega)) (FU_gt (by omega)) hH
  · intro k m x y h
    refine ⟨(nI 5, x), (nI 5, y), ?_, ?_, h⟩
    · show f_X0_weigh_L26 169 1 172 (nI i) (nI j) x1 x2 (k + 1) (nI 5) x = _
      rw [f_X0_weigh_L26]
      rw [l5, if_pos (nI_le (Nat.le_refl _) (by decide))]
    · show f_X7_hands_L52 (nI i) (nI j) x1 x2 (m + 1) (nI 5) y = _
      rw [f_X7_hands_L52]
      rw [l5, if_pos (nI_le (Nat.le_refl _) (by decide))]
  · intro k m a x y ha h
    obtain ⟨⟨r1, r2⟩, ⟨s1', s2'⟩, h1, h2, h3⟩ := hands_c (x1 := x1) (x2 := x2) hR hn e1 e2 hS hQ hi hj ha h
    refine Or.inl ⟨r2, s2', ?_, ?_, h3⟩
    · show f_X0_weigh_L26 169 1 172 (nI i) (nI j) x1 x2 (k + 1) (nI a) x = _
      rw [f_X0_weigh_L26]
      rw [l5, if_neg (nI_ge ha (by decide)), l0, h1, ob2_e, lq_e, nI_1]
    · show f_X7_hands_L52 (nI i) (nI j) x1 x2 (m + 1) (nI a) y = _
      rw [f_X7_hands_L52]
      rw [l5, if_neg (nI_ge ha (by decide)), l0, h2, ob2_e, lq_e, nI_1]
def hT (K : Mem) (a c : Nat) : Bool := decide (f_X0_rests 169 (nI a) (nI c) K = some 1)
def hrs (K : Mem) : Nat → Nat → List (Bool × Int32)
  | 0, _ => []
  | k + 1, i => rw1 (hT K i) (tV i) 5 0 ++ hrs K k (i + 1)
theorem hrs_len (K : Mem) (k i : Nat) : (hrs K k i).length = k * 5 := by
  induction k generalizing i with
  | zero => rw [Nat.zero_mul]; rfl
  | succ k ih =>
    rw [hrs, List.length_append, row_len, Nat.succ_mul, ih]
    omega
theorem hands_in_c {a3 : Int32} {K Y : Mem} {a : Nat} (ha : a < 5) (h1 : ∀ t, t < 25 → K.1 170 t = Y.1 182 t) (h2 : ∀ t, t < 25 → K.1 171 t = Y.1 183 t) : ∀ (k j f c : Nat), j + k = 5 → k < f → f_X6_hands_L65 a3 K (nI a) f (nI c) (nI j) = some (tin a3 K (cs a3 (rw1 (hT K a) (tV a) k j) c)) := by
  intro k
  induction k with
  | zero =>
    intro j f c hj hf
    obtain ⟨f', rfl⟩ : ∃ f', f = f' + 1 := ⟨f - 1, by omega⟩
    have : j = 5 := by omega
    subst this
    rw [f_X6_hands_L65]
    rw [l5, if_pos (nI_le (Nat.le_refl _) (by omega))]
    rfl
  | succ k ih =>
    intro j f c hj hf
    obtain ⟨f', rfl⟩ : ∃ f', f = f' + 1 := ⟨f - 1, by omega⟩
    obtain ⟨b, hb, _⟩ := rests_rel ha (show j < 5 by omega) h1 h2
    rw [f_X6_hands_L65]
    rw [l5, if_neg (nI_ge (by omega) (by omega)), hb, ob_e, rw1, cs]
    cases b with
    | false =>
      rw [if_neg (show ¬ (false = true) by decide), if_pos rfl, lq_e, l1, nI_add]
      have : hT K a j = false := by
        unfold hT
        rw [hb]; decide
      rw [this, if_neg (show ¬ (false = true) by decide)]
      exact ih (j + 1) f' c (by omega) (by omega)
    | true =>
      have : hT K a j = true := by
        unfold hT
        rw [hb]; decide
      rw [this, if_pos rfl, if_pos rfl, if_neg (show ¬ (1 : Int32) = 0 by decide)]
      by_cases e : nI c = a3
      · rw [if_pos e, if_pos e]; rfl
      · rw [if_neg e, if_neg e, lq_e, lq_e, l1, nI_add, nI_add]
        exact ih (j + 1) f' (c + 1) (by omega) (by omega)
theorem hands_in_m {a3 : Int32} {K Y : Mem} {a : Nat} (ha : a < 5) (h1 : ∀ t, t < 25 → K.1 170 t = Y.1 182 t) (h2 : ∀ t, t < 25 → K.1 171 t = Y.1 183 t) : ∀ (k j f c : Nat) (x : Int32), j + k = 5 → k < f → f_X7_hands_L177 a3 Y (nI a) f (nI c) x (nI j) = some (nI (ms a3 (rw1 (hT K a) (tV a) k j) c x).1, (ms a3 (rw1 (hT K a) (tV a) k j) c x).2) := by
  intro k
  induction k with
  | zero =>
    intro j f c x hj hf
    obtain ⟨f', rfl⟩ : ∃ f', f = f' + 1 := ⟨f - 1, by omega⟩
    have : j = 5 := by omega
    subst this
    rw [f_X7_hands_L177]
    rw [l5, if_pos (nI_le (Nat.le_refl _) (by omega))]
    rfl
  | succ k ih =>
    intro j f c x hj hf
    obtain ⟨f', rfl⟩ : ∃ f', f = f' + 1 := ⟨f - 1, by omega⟩
    obtain ⟨b, hb, hy⟩ := rests_rel ha (show j < 5 by omega) h1 h2
    rw [f_X7_hands_L177]
    rw [l5, if_neg (nI_ge (by omega) (by omega)), hy, ob_e, rw1, ms]
    cases b with
    | false =>
      have : hT K a j = false := by
        unfold hT
        rw [hb]; decide
      rw [this, if_neg (show ¬ (false = true) by decide), if_neg (show ¬ (false = true) by decide), if_pos rfl, ob2_e, lq_e, nI_1]
      exact ih (j + 1) f' c x (by omega) (by omega)
    | true =>
      have : hT K a j = true := by
        unfold hT
        rw [hb]; decide
      rw [this, if_pos rfl, if_pos rfl, if_neg (show ¬ (1 : Int32) = 0 by decide), lq_e, lq_e, ob2_e, lq_e, nI_1, nI_1]
      exact ih (j + 1) f' (c + 1) _ (by omega) (by omega)
theorem hands_o_c {a3 : Int32} {K Y : Mem} (h1 : ∀ t, t < 25 → K.1 170 t = Y.1 182 t) (h2 : ∀ t, t < 25 → K.1 171 t = Y.1 183 t) : ∀ (k i f c : Nat), i + k = 5 → k < f → f_X6_hands_L56 a3 K f (nI c) (nI i) = some (tin a3 K (cs a3 (hrs K k i) c)) := by
  intro k
  induction k with
  | zero =>
    intro i f c hj hf
    obtain ⟨f', rfl⟩ : ∃ f', f = f' + 1 := ⟨f - 1, by omega⟩
    have : i = 5 := by omega
    subst this
    rw [f_X6_hands_L56]
    rw [l5, if_pos (nI_le (Nat.le_refl _) (by omega))]
    rfl
  | succ k ih =>
    intro i f c hj hf
    obtain ⟨f', rfl⟩ : ∃ f', f = f' + 1 := ⟨f - 1, by omega⟩
    rw [f_X6_hands_L56]
    rw [l5, if_neg (nI_ge (by omega) (by omega)), l0, hands_in_c (by omega) h1 h2 5 0 FU c (by omega) (FU_gt (by omega)), hrs, cs_app]
    cases cs a3 (rw1 (hT K i) (tV i) 5 0) c with
    | inl c' =>
      show oeI1 (some (Sum.inl (nI c'))) _ = _
      rw [oeI1_l, lq_e, nI_1]
      exact ih (i + 1) f' c' (by omega) (by omega)
    | inr v => rfl
theorem hands_o_m {a3 : Int32} {K Y : Mem} (h1 : ∀ t, t < 25 → K.1 170 t = Y.1 182 t) (h2 : ∀ t, t < 25 → K.1 171 t = Y.1 183 t) : ∀ (k i f c : Nat) (x : Int32), i + k = 5 → k < f → f_X7_hands_L168 a3 Y f (nI c) x (nI i) = some (nI (ms a3 (hrs K k i) c x).1, (ms a3 (hrs K k i) c x).2) := by
  intro k
  induction k with
  | zero =>
    intro i f c x hj hf
    obtain ⟨f', rfl⟩ : ∃ f', f = f' + 1 := ⟨f - 1, by omega⟩
    have : i = 5 := by omega
    subst this
    rw [f_X7_hands_L168]
    rw [l5, if_pos (nI_le (Nat.le_refl _) (by omega))]
    rfl
  | succ k ih =>
    intro i f c x hj hf
    obtain ⟨f', rfl⟩ : ∃ f', f = f' + 1 := ⟨f - 1, by omega⟩
    rw [f_X7_hands_L168]
    rw [l5, if_neg (nI_ge (by omega) (by omega)), l0, hands_in_m (by omega) h1 h2 5 0 FU c x (by omega) (FU_gt (by omega)), ob2_e, lq_e, nI_1, hrs, ms_app]
    exact ih (i + 1) f' _ _ (by omega) (by omega)
theorem op29 : opP29 Rel := by
  intro a1 a2 a3 M N hR
  unfold f_X6_hands f_X7_hands
  obtain ⟨⟨n, hn, e1, e2, hS, hQ, hD, hTt, hU⟩, hO⟩ := id hR
  have hb : ∃ r M' N', ob2 (f_X6_refuseBad ((-10) : Int32) M) (fun x2 M3 => some (x2, M3)) = some (r, M') ∧ ob2 (f_X7_badTen N) (fun x2 M3 => some (x2, M3)) = some (r, N') ∧ Rel M' N' := ⟨_, _, _, rfl, rfl, hR.bad⟩
  obtain ⟨z1, ez1, hz1⟩ := y_lb a1 hn e2
  obtain ⟨z2, ez2, hz2⟩ := y_lb a2 hn e2
  rw [ez1, ob_e]
  by_cases g1 : oI a1 0 ((n : Int) - 1)
  · rw [if_pos ((o_lb a1 hn e1).mpr g1), if_neg (fun q => (hz1.mp q) g1), ez2, ob_e]
    by_cases g2 : oI a2 0 ((n : Int) - 1)
    · rw [if_pos ((o_lb a2 hn e1).mpr g2), if_neg (fun q => (hz2.mp q) g2)]
      by_cases g3 : a1 = a2
      · rw [if_pos g3, if_pos g3]; exact hb
      · rw [if_neg g3, if_neg g3]
        by_cases g4 : ((-1) : Int32) ≤ a3
        · rw [if_pos g4, if_pos g4]
          obtain ⟨i, hi, rfl⟩ := nI_oI g1 (by omega)
          obtain ⟨j, hj, rfl⟩ := nI_oI g2 (by omega)
          obtain ⟨x, x1, x2⟩ := highIn_rel (q := 6) (Or.inl rfl) hn hi hS hQ
          obtain ⟨y, y1, y2⟩ := highIn_rel (q := 6) (Or.inl rfl) hn hj hS hQ
          have x1 : f_X2_highIn 1 (1 + 5) (nI i) M = some x := x1
          have y1 : f_X2_highIn 1 (1 + 5) (nI j) M = some y := y1
          obtain ⟨N1, en, n1, n2, n3⟩ := asidesX N
          have hH0 : Hn M N M N1 0 := ⟨rfl, n1, fun _ _ _ => rfl, fun c b q => n2 c b (by omega), n3, fun t ht => absurd ht (by omega)⟩
          obtain ⟨⟨r1, K⟩, ⟨r2, Y⟩, k1, k2, k3⟩ := hands_a (x1 := x) (x2 := y) hR hn e1 e2 hS hQ hi hj hH0
          obtain ⟨q1, q2, q3, q4, q5, q6⟩ := k3
          have q1 : K.2 = M.2 := q1
          have q2 : Y.2 = N.2 := q2
          have q3 : ∀ c b, c < 167 ∨ c = 175 → K.1 c b = M.1 c b := q3
          have q4 : ∀ c b, c < 179 ∨ c = 184 → Y.1 c b = N.1 c b := q4
          have q6 : ∀ t, t < 25 → K.1 170 t = Y.1 182 t ∧ K.1 171 t = Y.1 183 t := q6
          have hRK : Rel K Y := ⟨hR.1.congr (fun a i _ _ => q3 _ _ (by omega)) (fun k _ => q4 _ _ (by omega)), hR.2.congr (fun a b hab => q3 _ _ (by unfold oC at hab; omega)) (by rw [q1]) (fun a b hab => q4 _ _ (by unfold oM at hab; omega)) (by rw [q2])⟩
          unfold f_X0_weigh
          rw [x1, ob_e, y1, ob_e, x2, ob_e, y2, ob_e, en, ob_e, l0, k1, k2, ob2_e, ob_e, ob2_e, hands_o_c (fun t ht => (q6 t ht).1) (fun t ht => (q6 t ht).2) 5 0 FU 0 (by omega) (FU_gt (by omega)), hands_o_m (fun t ht => (q6 t ht).1) (fun t ht => (q6 t ht).2) 5 0 FU 0 (nI 0) (by omega) (FU_gt (by omega)), ob2_e]
          have hl : (hrs K 5 0).length < 1000 := by rw [hrs_len]; decide
          rw [← ans_e g4 (hrs K 5 0) (nI 0) hl]
          refine ⟨_, K, Y, ?_, rfl, hRK⟩
          cases cs a3 (hrs K 5 0) 0 with
          | inl c =>
            show oeT1 (some (Sum.inl (nI c))) _ = _
            rw [oeT1_l]
            show _ = some ((if a3 = -1 then nI c else -5), K)
            by_cases h : a3 = -1
            · rw [if_pos h, if_pos h]
            · rw [if_neg h, if_neg h]
          | inr v => rfl
        · rw [if_neg g4, if_neg g4]; exact hb
    · rw [if_neg (fun q => g2 ((o_lb a2 hn e1).mp q)), if_pos (hz2.mpr g2)]; exact hb
  · rw [if_neg (fun q => g1 ((o_lb a1 hn e1).mp q)), if_pos (hz1.mpr g1)]; exact hb
