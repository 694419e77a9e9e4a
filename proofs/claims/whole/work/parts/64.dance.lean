theorem loop2f {σ τ σ' τ' : Type} (L : Nat → Nat → σ → Option τ) (K : Nat → Nat → σ' → Option τ') (e : Nat) (P : Nat → σ → σ' → Prop) (Q : τ → τ' → Prop) (hx : ∀ n m x y, P e x y → ∃ r s, L (n + 1) e x = some r ∧ K (m + 1) e y = some s ∧ Q r s) (hs : ∀ n m i x y, i < e → e - i ≤ n → e - i ≤ m → P i x y → (∃ x' y', L (n + 1) i x = L n (i + 1) x' ∧ K (m + 1) i y = K m (i + 1) y' ∧ P (i + 1) x' y') ∨ (∃ r s, L (n + 1) i x = some r ∧ K (m + 1) i y = some s ∧ Q r s)) : ∀ (k i n m : Nat) (x : σ) (y : σ'), i + k = e → k < n → k < m → P i x y → ∃ r s, L n i x = some r ∧ K m i y = some s ∧ Q r s := by
  intro k
  induction k with
  | zero =>
    intro i n m x y hk hn hm hI
    obtain ⟨n', rfl⟩ : ∃ n', n = n' + 1 := ⟨n - 1, by omega⟩
    obtain ⟨m', rfl⟩ : ∃ m', m = m' + 1 := ⟨m - 1, by omega⟩
    have hie : i = e := by omega
    subst hie
    exact hx n' m' x y hI
  | succ k ih =>
    intro i n m x y hk hn hm hI
    obtain ⟨n', rfl⟩ : ∃ n', n = n' + 1 := ⟨n - 1, by omega⟩
    obtain ⟨m', rfl⟩ : ∃ m', m = m' + 1 := ⟨m - 1, by omega⟩
    rcases hs n' m' i x y (by omega) (by omega) (by omega) hI with ⟨x', y', h1, h2, h3⟩ | h
    · rw [h1, h2]
      exact ih (i + 1) n' m' x' y' (by omega) (by omega) (by omega) h3
    · exact h
theorem trial_end2 {M0 N0 M Mv N : Mem} {n : Nat} {X : Int} (hR : Rel M0 N0) (h2 : M.2 = M0.2) (h3 : ∀ c b, c < 167 ∨ c = 175 → M.1 c b = M0.1 c b) (hT : Tr M0 N0 Mv N n X) : ∃ N', f_X7_backs N = some N' ∧ Rel M N' := by
  obtain ⟨N', eN, hR'⟩ := trial_end hR hT
  refine ⟨N', eN, hR'.1.congr (fun a i _ _ => ?_) (fun _ _ => rfl), hR'.2.congr (fun a b hab => ?_) ?_ (fun _ _ _ => rfl) rfl⟩
  · rw [h3 _ _ (by omega), hT.2.2.1 _ _ (by omega)]
  · unfold oC at hab
    rw [h3 _ _ (by omega), hT.2.2.1 _ _ (by omega)]
  · rw [h2, hT.1]
theorem beat_m {M0 N0 M N : Mem} {n t : Nat} {X : Int} (ht : t < 8) (hD : Dan M0.1 1 (N0.1 177)) (hT : Tr M0 N0 M N n X) : ∃ k, k < 5 ∧ f_X6_cell (1 + 33) (nI t) M = some (nI k) ∧ rd N 177 ((54 : Int32) + ((2 : Int32) * nI t)) = some (nI k) := by
  obtain ⟨d1, d2, d3, d4⟩ := hD.1 t ht
  obtain ⟨k, hk, ek⟩ := nI_oI (n := 5) d3 (by decide)
  refine ⟨k, hk, ?_, ?_⟩
  · rw [cell_n (show t < ln (1 + 33) from ht) (by decide), hT.2.2.1 _ _ (by omega), d1, ek]
  · rw [l54, l2, pk_mul, nI_add, rd_n (hb177 (by omega)) (by omega), hT.2.2.2.1 _ _ (by unfold kept; omega), ek]
theorem snaps_rest {M0 N0 : Mem} {n : Nat} {x3 x4 : Int32} (hn : n ≤ 7) (e1 : M0.1 1 4 = nI n) (e2 : N0.1 177 0 = nI n) (hS : Sta M0.1 1 (N0.1 177) n) (hD : Dan M0.1 1 (N0.1 177)) (h4 : ¬ x4 = -1001) : ∀ (k i f : Nat) (N : Mem), i + k = 8 → k < f → (∃ Mv X, X < 100000 + (i : Int) ∧ Tr M0 N0 Mv N n X) → ∃ s, f_X7_snaps_L15 x3 f x4 (nI i) N = some s ∧ (s.1 = x4 ∧ ∃ Mv X, Tr M0 N0 Mv s.2 n X) := by
  refine loopE (fun f i x => f_X7_snaps_L15 x3 f x4 (nI i) x) 8 (fun i (N : Mem) => ∃ Mv X, X < 100000 + (i : Int) ∧ Tr M0 N0 Mv N n X) _ ?_ ?_
  · intro f x hx
    obtain ⟨Mv, X, _, h⟩ := hx
    refine ⟨(x4, x), ?_, rfl, Mv, X, h⟩
    show f_X7_snaps_L15 x3 (f + 1) x4 (nI 8) x = _
    rw [f_X7_snaps_L15]
    rw [l8, if_pos (nI_le (Nat.le_refl _) (by decide))]
  · intro f i x hi hx
    obtain ⟨Mv, X, hX, h⟩ := hx
    obtain ⟨k, hk, c1, c2⟩ := beat_m hi hD h
    obtain ⟨M', N', f1, f2, f3⟩ := trial_step hk (by omega) hn e1 e2 hS h
    refine Or.inl ⟨N', ?_, M', X + 1, by omega, f3⟩
    show f_X7_snaps_L15 x3 (f + 1) x4 (nI i) x = f_X7_snaps_L15 x3 f x4 (nI (i + 1)) N'
    rw [f_X7_snaps_L15]
    rw [l8, if_neg (nI_ge hi (by decide)), c2, ob_e, f2, ob_e, if_neg h4, ob_e, lq_e, l1, nI_add]
theorem op18 : opP18 Rel := by
  intro M N hR
  unfold f_X6_snaps f_X7_snaps
  obtain ⟨⟨n, hn, e1, e2, hS, hQ, hD, hT, hU⟩, hO⟩ := id hR
  obtain ⟨M1, N1, k1, k2, hTr⟩ := trial_start hQ hn
  obtain ⟨v, v1, v2⟩ := trial_snapped hn e1 e2 hTr
  rw [k1, k2, ob_e, ob_e, v1, v2, ob_e, ob_e]
  obtain ⟨r, ⟨s1v, s2v⟩, r1, r2, hq⟩ : ∃ r s, f_X6_snaps_L28 v FU (nI 0) M1 = some r ∧ f_X7_snaps_L15 v FU (-1001) (nI 0) N1 = some s ∧ ((∃ x4 Mx X, r = Sum.inl (x4, Mx) ∧ s.1 = -1001 ∧ Tr M N Mx s.2 n X) ∨ (∃ w Mx Mv X, r = Sum.inr (w, Mx) ∧ s.1 = w ∧ Mx.2 = M.2 ∧ (∀ c b, c < 167 ∨ c = 175 → Mx.1 c b = M.1 c b) ∧ Tr M N Mv s.2 n X)) := by
    refine loop2f (fun k i x => f_X6_snaps_L28 v k (nI i) x) (fun k i x => f_X7_snaps_L15 v k (-1001) (nI i) x) 8 (fun i x y => Tr M N x y n (9999 + i)) _ ?_ ?_ 8 0 FU FU M1 N1 (by omega) (FU_gt (by omega)) (FU_gt (by omega)) (tr0 hTr)
    · intro k m x y h
      refine ⟨Sum.inl (nI 8, x), (-1001, y), ?_, ?_, Or.inl ⟨_, x, _, rfl, rfl, h⟩⟩
      · show f_X6_snaps_L28 v (k + 1) (nI 8) x = _
        rw [f_X6_snaps_L28]
        rw [l8, if_pos (nI_le (Nat.le_refl _) (by omega))]
      · show f_X7_snaps_L15 v (m + 1) (-1001) (nI 8) y = _
        rw [f_X7_snaps_L15]
        rw [l8, if_pos (nI_le (Nat.le_refl _) (by omega))]
    · intro k m i x y hi hik him h
      obtain ⟨z, hz, c1, c2⟩ := beat_m hi hD h
      obtain ⟨M', N', f1, f2, f3⟩ := trial_step hz (by omega) hn e1 e2 hS h
      obtain ⟨w, w1, w2⟩ := trial_snapped hn e1 e2 f3
      have eM : f_X6_snaps_L28 v (k + 1) (nI i) x = if w ≤ v then f_X6_snaps_L28 v k (nI (i + 1)) M' else some (Sum.inr (nI i, M')) := by
        rw [f_X6_snaps_L28]
        rw [l8, if_neg (nI_ge hi (by decide)), c1, ob_e, f1, ob_e, w1, ob_e, lq_e, l1, nI_add]
      have eN : f_X7_snaps_L15 v (m + 1) (-1001) (nI i) y = if w ≤ v then f_X7_snaps_L15 v m (-1001) (nI (i + 1)) N' else f_X7_snaps_L15 v m (nI i) (nI (i + 1)) N' := by
        rw [f_X7_snaps_L15]
        rw [l8, if_neg (nI_ge hi (by decide)), c2, ob_e, f2, ob_e, if_pos rfl, w2, ob_e]
        by_cases c : w ≤ v
        · rw [if_pos c, if_pos c, ob_e, lq_e, l1, nI_add]
        · rw [if_neg c, if_neg c, ob_e, lq_e, l1, nI_add]
      by_cases c : w ≤ v
      · rw [if_pos c] at eM eN
        refine Or.inl ⟨M', N', eM, eN, ?_⟩
        rw [show (9999 : Int) + ((i + 1 : Nat) : Int) = 9999 + (i : Int) + 1 by omega]
        exact f3
      · rw [if_neg c] at eM eN
        obtain ⟨s, g1, g2, Mv, X, g3⟩ := snaps_rest (x3 := v) (x4 := nI i) hn e1 e2 hS hD (by
          intro q
          have := congrArg Int32.toInt q
          rw [nI_I (by omega), show ((-1001 : Int32)).toInt = -1001 by decide] at this
          omega) (8 - (i + 1)) (i + 1) m N' (by omega) (by omega) ⟨M', _, by omega, f3⟩
        refine Or.inr ⟨_, s, eM, ?_, Or.inr ⟨_, M', Mv, X, rfl, g2, f3.1, f3.2.2.1, g3⟩⟩
        show f_X7_snaps_L15 v (m + 1) (-1001) (nI i) y = _
        rw [eN]; exact g1
  rw [l0, r1, r2, ob2_e]
  rcases hq with ⟨x4, Mx, X, rfl, hs, hq⟩ | ⟨w, Mx, Mv, X, rfl, hs, hq1, hq2, hq⟩
  · have hs : s1v = -1001 := hs
    subst hs
    obtain ⟨N3, w1, w2⟩ := trial_end hR hq
    have w1 : f_X7_backs s2v = some N3 := w1
    rw [oeT2_l, w1, ob_e]
    exact ⟨_, _, _, rfl, rfl, w2⟩
  · have hs : s1v = w := hs
    subst hs
    obtain ⟨N3, w1, w2⟩ := trial_end2 hR hq1 hq2 hq
    have w1 : f_X7_backs s2v = some N3 := w1
    rw [oeT2_r, w1, ob_e]
    exact ⟨_, _, _, rfl, rfl, w2⟩
theorem op17 : opP17 Rel := by
  intro M N hR
  unfold f_X6_comesOut f_X7_comesOut
  obtain ⟨⟨n, hn, e1, e2, hS, hQ, hD, hT, hU⟩, hO⟩ := id hR
  obtain ⟨x, ex, hx⟩ := y_lb (N := N) (N.1 177 53) hn e2
  rw [l53, rd_n (hb177 (by decide)) (by decide), ob_e, ex, ob_e, hD.2.1]
  by_cases g1 : oI (N.1 177 53) 0 ((n : Int) - 1)
  · rw [if_pos ((o_lb _ hn e1).mpr g1), if_neg (fun q => hx.mp q g1)]
    obtain ⟨d, hd, ed⟩ := nI_oI g1 (by omega)
    obtain ⟨M1, N1, k1, k2, hTr⟩ := trial_start hQ hn
    rw [k1, k2, ob_e, ob_e]
    obtain ⟨⟨r, M2⟩, ⟨s, N2⟩, r1, r2, hrs, X, hq⟩ : ∃ r s, f_X6_comesOut_L34 FU (nI 0) (nI 0) M1 = some r ∧ f_X7_comesOut_L24 FU (nI 0) (nI 0) N1 = some s ∧ (r.1 = s.1 ∧ ∃ X, Tr M N r.2 s.2 n X) := by
      refine loop2 (fun k i (x : Int32 × Mem) => f_X6_comesOut_L34 k x.1 (nI i) x.2) (fun k i (x : Int32 × Mem) => f_X7_comesOut_L24 k x.1 (nI i) x.2) 8 (fun i x y => x.1 = y.1 ∧ Tr M N x.2 y.2 n (9999 + i)) _ ?_ ?_ 8 0 FU FU (nI 0, M1) (nI 0, N1) (by omega) (FU_gt (by omega)) (FU_gt (by omega)) ⟨rfl, tr0 hTr⟩
      · intro k m x y h
        refine ⟨x, y, ?_, ?_, h.1, _, h.2⟩
        · show f_X6_comesOut_L34 (k + 1) x.1 (nI 8) x.2 = _
          rw [f_X6_comesOut_L34]
          rw [l8, if_pos (nI_le (Nat.le_refl _) (by omega))]
        · show f_X7_comesOut_L24 (m + 1) y.1 (nI 8) y.2 = _
          rw [f_X7_comesOut_L24]
          rw [l8, if_pos (nI_le (Nat.le_refl _) (by omega))]
      · rintro k m i ⟨x, X2⟩ ⟨y, Y2⟩ hi ⟨h1, h4⟩
        have h1 : x = y := h1
        subst h1
        obtain ⟨z, hz, c1, c2⟩ := beat_m hi hD h4
        obtain ⟨M', N', f1, f2, f3⟩ := trial_step hz (by omega) hn e1 e2 hS h4
        obtain ⟨w, w1, w2⟩ := trial_high hn hd hS f3
        obtain ⟨d1, d2, d3, d4⟩ := hD.1 i hi
        have c1 : f_X6_cell (1 + 33) (nI i) X2 = some (nI z) := c1
        have f1 : f_X2_step 1 172 (nI z) X2 = some M' := f1
        have f2 : f_X7_goes (nI z) Y2 = some N' := f2
        have c2 : rd Y2 177 ((54 : Int32) + ((2 : Int32) * nI i)) = some (nI z) := c2
        have u1 : M'.1 1 11 = nI d := by rw [f3.2.2.1 _ _ (by omega), hD.2.1]; exact ed
        have u2 : N'.1 177 53 = nI d := by rw [f3.2.2.2.1 _ _ (by unfold kept; omega)]; exact ed
        have u3 : f_X6_cell (1 + 34) (nI i) M' = some (N.1 177 (54 + 2 * i + 1)) := by
          rw [cell_n (show i < ln (1 + 34) from hi) (by decide), f3.2.2.1 _ _ (by omega), d2]
        have u4 : rd N' 177 (((54 : Int32) + ((2 : Int32) * nI i)) + (1 : Int32)) = some (N.1 177 (54 + 2 * i + 1)) := by
          rw [l54, l2, l1, pk_mul, nI_add, nI_add, rd_n (hb177 (by omega)) (by omega), f3.2.2.2.1 _ _ (by unfold kept; omega)]
        refine Or.inl ⟨(if w = N.1 177 (54 + 2 * i + 1) then x + 1 else x, M'), (if w = N.1 177 (54 + 2 * i + 1) then x + 1 else x, N'), ?_, ?_, rfl, ?_⟩
        · show f_X6_comesOut_L34 (k + 1) x (nI i) X2 = f_X6_comesOut_L34 k _ (nI (i + 1)) M'
          rw [f_X6_comesOut_L34]
          rw [l8, if_neg (nI_ge hi (by decide)), c1, ob_e, f1, ob_e, u1, w1, ob_e, u3, ob_e, lq_e, lq_e, lq_e, nI_1]
        · show f_X7_comesOut_L24 (m + 1) x (nI i) Y2 = f_X7_comesOut_L24 m _ (nI (i + 1)) N'
          rw [f_X7_comesOut_L24]
          rw [l8, if_neg (nI_ge hi (by decide)), c2, ob_e, f2, ob_e, l53, rd_n (hb177 (by decide)) (by decide), ob_e, u2, w2, ob_e, u4, ob_e, lq_e, lq_e, lq_e, nI_1]
          by_cases c : w = N.1 177 (54 + 2 * i + 1)
          · rw [if_pos c, if_pos c]
          · rw [if_neg c, if_neg c, Int32.add_zero]
        · rw [show (9999 : Int) + ((i + 1 : Nat) : Int) = 9999 + (i : Int) + 1 by omega]
          exact f3
    have hrs : r = s := hrs
    subst hrs
    have hq : Tr M N M2 N2 n X := hq
    obtain ⟨N3, w1, w2⟩ := trial_end hR hq
    rw [l0, r1, r2, ob2_e, ob2_e, w1, ob_e]
    exact ⟨_, _, _, rfl, rfl, w2⟩
  · rw [if_neg (fun q => g1 ((o_lb _ hn e1).mp q)), if_pos (hx.mpr g1)]
    exact ⟨_, _, _, rfl, rfl, hR⟩
