/-! trials: a pose set aside -/
theorem asidesX (N : Mem) : ∃ N', f_X7_asides N = some N' ∧ N'.2 = N.2 ∧ (∀ c b, c ≠ 180 → N'.1 c b = N.1 c b) ∧ ∀ k, k < 53 → N'.1 180 k = N.1 177 k := by
  obtain ⟨⟨x, N'⟩, e, h1, h2, h3⟩ : ∃ r, f_X7_asides_L2 FU (nI 0) N = some r ∧ (r.2.2 = N.2 ∧ (∀ c b, c ≠ 180 → r.2.1 c b = N.1 c b) ∧ ∀ k, k < 53 → r.2.1 180 k = N.1 177 k) := by
    refine loopE (fun n i x => f_X7_asides_L2 n (nI i) x) 53 (fun i (x : Mem) => x.2 = N.2 ∧ (∀ c b, c ≠ 180 → x.1 c b = N.1 c b) ∧ ∀ k, k < i → x.1 180 k = N.1 177 k) _ ?_ ?_ 53 0 FU N (by omega) (FU_gt (by omega)) ⟨rfl, fun _ _ _ => rfl, fun t ht => absurd ht (by omega)⟩
    · intro n x hx
      refine ⟨(nI 53, x), ?_, hx⟩
      show f_X7_asides_L2 (n + 1) (nI 53) x = _
      rw [f_X7_asides_L2]
      rw [l53, if_pos (nI_le (Nat.le_refl _) (by omega))]
    · intro n i x hi hx
      obtain ⟨h1, h2, h3⟩ := hx
      refine Or.inl ⟨s1 x 180 i (x.1 177 i), ?_, h1, fun c k q => ?_, fun t ht => ?_⟩
      · show f_X7_asides_L2 (n + 1) (nI i) x = f_X7_asides_L2 n (nI (i + 1)) _
        rw [f_X7_asides_L2]
        rw [l53, if_neg (nI_ge hi (by omega)), rd_n (hb177 (by omega)) (by omega), ob_e, wr_n (by rw [ln_180]; omega) (by omega), ob_e, lq_e, l1, nI_add]
      · rw [s1_ne (by omega)]
        exact h2 c k q
      · by_cases e : t = i
        · subst e; rw [s1_eq, h2 _ _ (by omega)]
        · rw [s1_ne (by omega)]
          exact h3 t (by omega)
  unfold f_X7_asides
  rw [l0, e, ob2_e]
  exact ⟨N', rfl, h1, h2, h3⟩
theorem backsX (N : Mem) : ∃ N', f_X7_backs N = some N' ∧ N'.2 = N.2 ∧ (∀ c b, ¬ (c = 177 ∧ b < 53) → N'.1 c b = N.1 c b) ∧ ∀ k, k < 53 → N'.1 177 k = N.1 180 k := by
  obtain ⟨⟨x, N'⟩, e, h1, h2, h3⟩ : ∃ r, f_X7_backs_L2 FU (nI 0) N = some r ∧ (r.2.2 = N.2 ∧ (∀ c b, ¬ (c = 177 ∧ b < 53) → r.2.1 c b = N.1 c b) ∧ ∀ k, k < 53 → r.2.1 177 k = N.1 180 k) := by
    refine loopE (fun n i x => f_X7_backs_L2 n (nI i) x) 53 (fun i (x : Mem) => x.2 = N.2 ∧ (∀ c b, ¬ (c = 177 ∧ b < 53) → x.1 c b = N.1 c b) ∧ ∀ k, k < i → x.1 177 k = N.1 180 k) _ ?_ ?_ 53 0 FU N (by omega) (FU_gt (by omega)) ⟨rfl, fun _ _ _ => rfl, fun t ht => absurd ht (by omega)⟩
    · intro n x hx
      refine ⟨(nI 53, x), ?_, hx⟩
      show f_X7_backs_L2 (n + 1) (nI 53) x = _
      rw [f_X7_backs_L2]
      rw [l53, if_pos (nI_le (Nat.le_refl _) (by omega))]
    · intro n i x hi hx
      obtain ⟨h1, h2, h3⟩ := hx
      refine Or.inl ⟨s1 x 177 i (x.1 180 i), ?_, h1, fun c k q => ?_, fun t ht => ?_⟩
      · show f_X7_backs_L2 (n + 1) (nI i) x = f_X7_backs_L2 n (nI (i + 1)) _
        rw [f_X7_backs_L2]
        rw [l53, if_neg (nI_ge hi (by omega)), rd_n (by rw [ln_180]; omega) (by omega), ob_e, wr_n (hb177 (by omega)) (by omega), ob_e, lq_e, l1, nI_add]
      · rw [s1_ne (by omega)]
        exact h2 c k q
      · by_cases e : t = i
        · subst e; rw [s1_eq, h2 _ _ (by omega)]
        · rw [s1_ne (by omega)]
          exact h3 t (by omega)
  unfold f_X7_backs
  rw [l0, e, ob2_e]
  exact ⟨N', rfl, h1, h2, h3⟩
def kept (c b : Nat) : Prop := c < 177 ∨ (c = 177 ∧ (53 ≤ b ∨ b = 0 ∨ (4 ≤ b ∧ (b - 4) % 7 ≤ 4))) ∨ c = 178 ∨ c = 184
def Tr (M0 N0 M N : Mem) (n : Nat) (X : Int) : Prop := M.2 = M0.2 ∧ N.2 = N0.2 ∧ (∀ c b, c < 167 ∨ c = 175 → M.1 c b = M0.1 c b) ∧ (∀ c b, kept c b → N.1 c b = N0.1 c b) ∧ (∀ k, k < 53 → N.1 180 k = N0.1 177 k) ∧ Pos M.1 172 (N.1 177) 1 8 7 n X
theorem trial_start {M N : Mem} {n : Nat} (hQ : Pos M.1 (1 + 5) (N.1 177) 1 8 7 n 9999) (hn : n ≤ 7) : ∃ M' N', f_X1_become 172 (1 + 5) M = some M' ∧ f_X7_asides N = some N' ∧ Tr M N M' N' n 9999 := by
  obtain ⟨M', eM, eM2, mo, mb, ml⟩ := become_n (o := 172) (q := 1 + 5) rfl rfl rfl rfl (by omega) M
  obtain ⟨N', eN, eN2, no, na⟩ := asidesX N
  exact ⟨M', N', eM, eN, eM2, eN2, fun c b q => mo _ _ (by omega) (by omega) (by omega), fun c b q => no _ _ (by unfold kept at q; omega), na, hQ.move mb (fun i hi => ml i (by omega)) (fun j hj => no _ _ (by omega)) (fun i hi w hw => no _ _ (by omega))⟩
theorem tr0 {M N M1 N1 : Mem} {n : Nat} (h : Tr M N M1 N1 n 9999) : Tr M N M1 N1 n (9999 + ((0 : Nat) : Int)) := by
  rw [show (9999 : Int) + ((0 : Nat) : Int) = 9999 by omega]
  exact h
theorem trial_step {M0 N0 M N : Mem} {n k : Nat} {X : Int} (hk : k < 5) (hX : X < 1000000000) (hn : n ≤ 7) (e1 : M0.1 1 4 = nI n) (e2 : N0.1 177 0 = nI n) (hS : Sta M0.1 1 (N0.1 177) n) (hT : Tr M0 N0 M N n X) : ∃ M' N', f_X2_step 1 172 (nI k) M = some M' ∧ f_X7_goes (nI k) N = some N' ∧ Tr M0 N0 M' N' n (X + 1) := by
  obtain ⟨t1, t2, t3, t4, t5, t6⟩ := hT
  obtain ⟨M', N', eM, eN, eM2, eN2, mo, no, hQ, _⟩ := step_rel (q := 172) (Or.inr rfl) hk hX hn (by rw [t3 _ _ (by omega)]; exact e1) (by rw [t4 _ _ (by unfold kept; omega)]; exact e2) (hS.congr (fun a i _ _ _ => t3 _ _ (by omega)) (fun i w _ _ => t4 _ _ (by unfold kept; omega))) t6
  refine ⟨M', N', eM, eN, by rw [eM2]; exact t1, by rw [eN2]; exact t2, fun c b q => ?_, fun c b q => ?_, fun k hk => ?_, hQ⟩
  · rw [mo _ _ (by omega) (by omega)]; exact t3 c b q
  · rw [no _ _ (by unfold kept at q; omega)]; exact t4 c b q
  · rw [no _ _ (by omega)]; exact t5 k hk
theorem trial_end {M0 N0 M N : Mem} {n : Nat} {X : Int} (hR : Rel M0 N0) (hT : Tr M0 N0 M N n X) : ∃ N', f_X7_backs N = some N' ∧ Rel M N' := by
  obtain ⟨t1, t2, t3, t4, t5, t6⟩ := hT
  obtain ⟨N', eN, eN2, no, na⟩ := backsX N
  refine ⟨N', eN, hR.1.congr (fun a i _ _ => t3 _ _ (by omega)) (fun k hk => ?_), hR.2.congr (fun a b hab => by unfold oC at hab; exact t3 _ _ (by omega)) (by rw [t1]) (fun a b hab => by unfold oM at hab; rw [no _ _ (by omega)]; exact t4 _ _ (by unfold kept; omega)) (by rw [eN2, t2])⟩
  by_cases h : k < 53
  · rw [na k h]; exact t5 k h
  · rw [no _ _ (by omega)]; exact t4 _ _ (by unfold kept; omega)
theorem trial_snapped {M0 N0 M N : Mem} {n : Nat} {X : Int} (hn : n ≤ 7) (e1 : M0.1 1 4 = nI n) (e2 : N0.1 177 0 = nI n) (hT : Tr M0 N0 M N n X) : ∃ x, f_X2_snappedIn 1 172 M = some x ∧ f_X7_snapped N = some x := by
  obtain ⟨t1, t2, t3, t4, t5, t6⟩ := hT
  exact snapped_rel (Or.inr rfl) hn (by rw [t3 _ _ (by omega)]; exact e1) (by rw [t4 _ _ (by unfold kept; omega)]; exact e2) t6.2
theorem trial_high {M0 N0 M N : Mem} {n i : Nat} {X : Int} (hn : n ≤ 7) (hi : i < n) (hS : Sta M0.1 1 (N0.1 177) n) (hT : Tr M0 N0 M N n X) : ∃ x, f_X2_highIn 1 172 (nI i) M = some x ∧ f_X7_high (nI i) N = some x := by
  obtain ⟨t1, t2, t3, t4, t5, t6⟩ := hT
  exact highIn_rel (Or.inr rfl) hn hi (hS.congr (fun a i _ _ _ => t3 _ _ (by omega)) (fun i w _ _ => t4 _ _ (by unfold kept; omega))) t6
theorem rem5 (x : Int64) (h0 : 0 ≤ x.toInt) : ∃ k : Nat, k < 5 ∧ ((x / (65536 : Int64)) - (x / (65536 : Int64)) / (5 : Int64) * (5 : Int64)).toInt32 = nI k := by
  obtain ⟨m, hm, rfl⟩ := pk_lOf (x := x) (by rw [Int64.lt_iff_toInt_lt, show (0 : Int64).toInt = 0 by decide]; omega)
  rw [show (65536 : Int64) = lN 65536 from rfl, show (5 : Int64) = lN 5 from rfl, pk_lDiv hm (by decide) (by decide), pk_lRem (by omega) (by decide) (by decide)]
  have h5 : m / 65536 % 5 < 5 := Nat.mod_lt _ (by decide)
  revert h5
  generalize m / 65536 % 5 = z
  intro h5
  exact ⟨z, h5, (show ∀ z, z < 5 → (lN z).toInt32 = nI z by decide) z h5⟩
theorem nxt0 (x : Int64) (h0 : 0 ≤ x.toInt) (h1 : x.toInt < 2147483648) : 0 ≤ (((x * (1103515245 : Int64)) + (12345 : Int64)) - ((x * (1103515245 : Int64)) + (12345 : Int64)) / (2147483648 : Int64) * (2147483648 : Int64)).toInt ∧ (((x * (1103515245 : Int64)) + (12345 : Int64)) - ((x * (1103515245 : Int64)) + (12345 : Int64)) / (2147483648 : Int64) * (2147483648 : Int64)).toInt < 2147483648 := by
  obtain ⟨m, hm, rfl⟩ := pk_lOf (x := x) (by rw [Int64.lt_iff_toInt_lt, show (0 : Int64).toInt = 0 by decide]; omega)
  rw [pk_lT hm] at h1
  have e : (lN m * (1103515245 : Int64)) + (12345 : Int64) = lN (m * 1103515245 + 12345) := by
    rw [show (1103515245 : Int64) = lN 1103515245 from rfl, show (12345 : Int64) = lN 12345 from rfl]
    exact ((congrArg (· + lN 12345) (Int64.ofNat_mul m 1103515245).symm).trans (Int64.ofNat_add (m * 1103515245) 12345).symm)
  rw [e, show (2147483648 : Int64) = lN 2147483648 from rfl, pk_lRem (by omega) (by decide) (by decide), pk_lT (by omega)]
  omega
theorem op31 : opP31 Rel := by
  intro a1 a2 M N hR
  unfold f_X6_nights f_X7_nights
  by_cases g1 : oI a1 0 999999
  · rw [if_pos ((o_0_999999 a1).mpr g1), if_neg (fun q => (y_0_999999 a1).mp q g1)]
    by_cases g2 : oI a2 0 60
    · rw [if_pos ((o_0_60 a2).mpr g2), if_neg (fun q => (y_0_60 a2).mp q g2)]
      obtain ⟨⟨n, hn, e1, e2, hS, hQ, hD, hT, hU⟩, hO⟩ := id hR
      obtain ⟨t, ht, rfl⟩ := nI_oI (n := 61) g2 (by decide)
      obtain ⟨M1, N1, k1, k2, hTr⟩ := trial_start hQ hn
      rw [lq_e, k1, k2, ob_e, ob_e, lq_e]
      obtain ⟨⟨x8, x9, M2⟩, ⟨y8, y9, N2⟩, r1, r2, X, _, hTr2⟩ : ∃ r s, f_X6_nights_L49 (nI t) FU a1.toInt64 (nI 0) M1 = some r ∧ f_X7_nights_L39 (nI t) FU a1.toInt64 (nI 0) N1 = some s ∧ (∃ X : Int, X < 1000000 ∧ Tr M N r.2.2 s.2.2 n X) := by
        refine loop2 (fun k i (x : Int64 × Mem) => f_X6_nights_L49 (nI t) k x.1 (nI i) x.2) (fun k i (x : Int64 × Mem) => f_X7_nights_L39 (nI t) k x.1 (nI i) x.2) t (fun i x y => x.1 = y.1 ∧ 0 ≤ x.1.toInt ∧ x.1.toInt < 2147483648 ∧ Tr M N x.2 y.2 n (9999 + i)) _ ?_ ?_ t 0 FU FU (a1.toInt64, M1) (a1.toInt64, N1) (by omega) (FU_gt (by omega)) (FU_gt (by omega)) ⟨rfl, by show 0 ≤ a1.toInt64.toInt; rw [wide]; omega, by show a1.toInt64.toInt < _; rw [wide]; omega, tr0 hTr⟩
        · intro k m x y h
          refine ⟨(x.1, nI t, x.2), (y.1, nI t, y.2), ?_, ?_, 9999 + t, by omega, h.2.2.2⟩
          · show f_X6_nights_L49 (nI t) (k + 1) x.1 (nI t) x.2 = _
            rw [f_X6_nights_L49]
            rw [if_pos (nI_le (Nat.le_refl _) (by omega))]
          · show f_X7_nights_L39 (nI t) (m + 1) y.1 (nI t) y.2 = _
            rw [f_X7_nights_L39]
            rw [if_pos (nI_le (Nat.le_refl _) (by omega))]
        · rintro k m i ⟨x, X2⟩ ⟨y, Y2⟩ hi ⟨h1, h2, h3, h4⟩
          have h1 : x = y := h1
          subst h1
          have h2 : 0 ≤ x.toInt := h2
          have h3 : x.toInt < 2147483648 := h3
          obtain ⟨z, z1, z2⟩ : ∃ z, z = (((x * (1103515245 : Int64)) + (12345 : Int64)) - ((x * (1103515245 : Int64)) + (12345 : Int64)) / (2147483648 : Int64) * (2147483648 : Int64)) ∧ 0 ≤ z.toInt ∧ z.toInt < 2147483648 := ⟨_, rfl, nxt0 x h2 h3⟩
          obtain ⟨j, hj, ej⟩ := rem5 z z2.1
          obtain ⟨M', N', f1, f2, f3⟩ := trial_step (k := j) hj (by omega) hn e1 e2 hS h4
          refine Or.inl ⟨(z, M'), (z, N'), ?_, ?_, rfl, z2.1, z2.2, ?_⟩
          · show f_X6_nights_L49 (nI t) (k + 1) x (nI i) X2 = f_X6_nights_L49 (nI t) k z (nI (i + 1)) M'
            rw [f_X6_nights_L49]
            rw [if_neg (nI_ge hi (by omega)), ← z1, lq_e, ej, f1, ob_e, lq_e, l1, nI_add]
          · show f_X7_nights_L39 (nI t) (m + 1) x (nI i) Y2 = f_X7_nights_L39 (nI t) m z (nI (i + 1)) N'
            rw [f_X7_nights_L39]
            rw [if_neg (nI_ge hi (by omega)), ← z1, lq_e, ej, f2, ob_e, lq_e, l1, nI_add]
          · rw [show (9999 : Int) + ((i + 1 : Nat) : Int) = 9999 + (i : Int) + 1 by omega]
            exact f3
      rw [l0, r1, r2, ob3_e, ob3_e]
      have hTr2 : Tr M N M2 N2 n X := hTr2
      obtain ⟨v, v1, v2⟩ := trial_snapped hn e1 e2 hTr2
      obtain ⟨N3, w1, w2⟩ := trial_end hR hTr2
      rw [v1, v2, ob_e, ob_e, w1, ob_e]
      exact ⟨_, _, _, rfl, rfl, w2⟩
    · rw [if_neg (fun q => g2 ((o_0_60 a2).mp q)), if_pos ((y_0_60 a2).mpr g2), rBad, yBad, ob2_e, ob2_e]
      exact ⟨_, _, _, rfl, rfl, hR.bad⟩
  · rw [if_neg (fun q => g1 ((o_0_999999 a1).mp q)), if_pos ((y_0_999999 a1).mpr g1), rBad, yBad, ob2_e, ob2_e]
    exact ⟨_, _, _, rfl, rfl, hR.bad⟩
