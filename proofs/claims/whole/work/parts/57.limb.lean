/-! a limb comes -/
theorem isLimbBy_e (a0 a1 a2 a3 a4 : Int32) : (f_X7_isLimbBy a0 a1 a2 a3 a4 = 0) ↔ ¬ (oI a0 0 5 ∧ oI a1 0 5 ∧ oI a2 1 9 ∧ oI a3 1 20 ∧ oI a4 0 8) := by
  unfold f_X7_isLimbBy
  by_cases h0 : oI a0 0 5
  · rw [if_neg (fun q => (y_0_5 a0).mp q h0)]
    by_cases h1 : oI a1 0 5
    · rw [if_neg (fun q => (y_0_5 a1).mp q h1)]
      by_cases h2 : oI a2 1 9
      · rw [if_neg (fun q => (y_1_9 a2).mp q h2)]
        by_cases h3 : oI a3 1 20
        · rw [if_neg (fun q => (y_1_20 a3).mp q h3)]
          by_cases h4 : oI a4 0 8
          · rw [if_neg (fun q => (y_0_8 a4).mp q h4)]
            exact ⟨fun q => absurd q (by decide), fun q => absurd ⟨h0, h1, h2, h3, h4⟩ q⟩
          · rw [if_pos ((y_0_8 a4).mpr h4)]
            exact ⟨fun _ q => h4 q.2.2.2.2, fun _ => rfl⟩
        · rw [if_pos ((y_1_20 a3).mpr h3)]
          exact ⟨fun _ q => h3 q.2.2.2.1, fun _ => rfl⟩
      · rw [if_pos ((y_1_9 a2).mpr h2)]
        exact ⟨fun _ q => h2 q.2.2.1, fun _ => rfl⟩
    · rw [if_pos ((y_0_5 a1).mpr h1)]
      exact ⟨fun _ q => h1 q.2.1, fun _ => rfl⟩
  · rw [if_pos ((y_0_5 a0).mpr h0)]
    exact ⟨fun _ q => h0 q.1, fun _ => rfl⟩
theorem addX {p n : Nat} {M : Mem} {a1 a2 a3 a4 a5 : Int32} (hp : isP p) (h4 : M.1 p 4 = nI n) (hn : n < 7) : ∃ M', f_X2_add p a1 a2 a3 a4 a5 M = some (nI n, M') ∧ M'.2 = M.2 ∧ M'.1 (p + 1) n = a1 ∧ M'.1 (p + 2) n = a2 ∧ M'.1 (p + 3) n = a3 ∧ M'.1 (p + 4) n = a4 ∧ M'.1 (p + 6) n = a5 ∧ M'.1 (p + 7) n = 0 ∧ M'.1 p 4 = nI (n + 1) ∧ M'.1 p 8 = nI 0 ∧ ∀ c b, ¬ ((c = p + 1 ∨ c = p + 2 ∨ c = p + 3 ∨ c = p + 4 ∨ c = p + 6 ∨ c = p + 7) ∧ b = n) → ¬ (c = p ∧ (b = 4 ∨ b = 8)) → M'.1 c b = M.1 c b := by
  obtain ⟨q1, q2, q3, q4, q6, q7, _⟩ := ln_p hp
  have q6 : ln (p + 5 + 1) = 7 := q6
  have q7 : ln (p + 5 + 2) = 7 := q7
  unfold f_X2_add
  rw [lq_e, h4, put_n (by omega) (by omega), ob_e, put_n (by omega) (by omega), ob_e, put_n (by omega) (by omega), ob_e, put_n (by omega) (by omega), ob_e, put_n (by omega) (by omega), ob_e, put_n (by omega) (by omega), ob_e, lq_e, lq_e]
  refine ⟨_, rfl, rfl, ?_, ?_, ?_, ?_, ?_, ?_, ?_, ?_, fun c b k1 k2 => ?_⟩
  · rw [s1_ne (by omega), s1_ne (by omega), s1_ne (by omega), s1_ne (by omega), s1_ne (by omega), s1_ne (by omega), s1_ne (by omega), s1_eq]
  · rw [s1_ne (by omega), s1_ne (by omega), s1_ne (by omega), s1_ne (by omega), s1_ne (by omega), s1_ne (by omega), s1_eq]
  · rw [s1_ne (by omega), s1_ne (by omega), s1_ne (by omega), s1_ne (by omega), s1_ne (by omega), s1_eq]
  · rw [s1_ne (by omega), s1_ne (by omega), s1_ne (by omega), s1_ne (by omega), s1_eq]
  · rw [s1_ne (by omega), s1_ne (by omega), s1_ne (by omega), s1_eq]
  · rw [s1_ne (by omega), s1_ne (by omega), s1_eq]
  · rw [s1_ne (by omega), s1_eq, s1_ne (by omega), s1_ne (by omega), s1_ne (by omega), s1_ne (by omega), s1_ne (by omega), s1_ne (by omega), h4, l1, nI_add]
  · rw [s1_eq]; rfl
  · rw [s1_ne (by omega), s1_ne (by omega), s1_ne (by omega), s1_ne (by omega), s1_ne (by omega), s1_ne (by omega), s1_ne (by omega), s1_ne (by omega)]
theorem comesX {n : Nat} {N : Mem} {a1 a2 a3 a4 a5 : Int32} (h0 : N.1 177 0 = nI n) (hn : n < 7) : ∃ N', f_X7_limbComes a1 a2 a3 a4 a5 N = some N' ∧ N'.2 = N.2 ∧ N'.1 177 (4 + 7 * n) = a1 ∧ N'.1 177 (4 + 7 * n + 1) = a2 ∧ N'.1 177 (4 + 7 * n + 2) = a3 ∧ N'.1 177 (4 + 7 * n + 3) = a4 ∧ N'.1 177 (4 + 7 * n + 4) = a5 ∧ N'.1 177 (4 + 7 * n + 5) = 0 ∧ N'.1 177 (4 + 7 * n + 6) = 0 ∧ N'.1 177 0 = nI (n + 1) ∧ N'.1 177 147 = nI 0 ∧ ∀ c b, ¬ (c = 177 ∧ (b = 0 ∨ b = 147 ∨ (4 + 7 * n ≤ b ∧ b < 4 + 7 * n + 7))) → N'.1 c b = N.1 c b := by
  have hb : ∀ k, k < 340 → k < ln 177 := fun k h => by rw [ln_177]; exact h
  unfold f_X7_limbComes
  rw [l0, rd_n (hb _ (by omega)) (by omega), ob_e, h0, sets_n (by omega), ob_e, l1, sets_n (by omega), ob_e, l2, sets_n (by omega), ob_e, l3, sets_n (by omega), ob_e, l4, sets_n (by omega), ob_e, l5, sets_n (by omega), ob_e, l6, sets_n (by omega), ob_e, rd_n (hb _ (by omega)) (by omega), ob_e, wr_n (hb _ (by omega)) (by omega), ob_e, l147, wr_n (hb _ (by omega)) (by omega), ob_e]
  refine ⟨_, rfl, rfl, ?_, ?_, ?_, ?_, ?_, ?_, ?_, ?_, ?_, fun c b k1 => ?_⟩
  · rw [s1_ne (by omega), s1_ne (by omega), s1_ne (by omega), s1_ne (by omega), s1_ne (by omega), s1_ne (by omega), s1_ne (by omega), s1_ne (by omega), Nat.add_zero, s1_eq]
  · rw [s1_ne (by omega), s1_ne (by omega), s1_ne (by omega), s1_ne (by omega), s1_ne (by omega), s1_ne (by omega), s1_ne (by omega), s1_eq]
  · rw [s1_ne (by omega), s1_ne (by omega), s1_ne (by omega), s1_ne (by omega), s1_ne (by omega), s1_ne (by omega), s1_eq]
  · rw [s1_ne (by omega), s1_ne (by omega), s1_ne (by omega), s1_ne (by omega), s1_ne (by omega), s1_eq]
  · rw [s1_ne (by omega), s1_ne (by omega), s1_ne (by omega), s1_ne (by omega), s1_eq]
  · rw [s1_ne (by omega), s1_ne (by omega), s1_ne (by omega), s1_eq]
  · rw [s1_ne (by omega), s1_ne (by omega), s1_eq]
  · rw [s1_ne (by omega), s1_eq, s1_ne (by omega), s1_ne (by omega), s1_ne (by omega), s1_ne (by omega), s1_ne (by omega), s1_ne (by omega), s1_ne (by omega), h0, nI_add]
  · rw [s1_eq]
  · rw [s1_ne (by omega), s1_ne (by omega), s1_ne (by omega), s1_ne (by omega), s1_ne (by omega), s1_ne (by omega), s1_ne (by omega), s1_ne (by omega), s1_ne (by omega)]
theorem add_rel {p n : Nat} {M N : Mem} {a1 a2 a3 a4 a5 : Int32} (hp : isP p) (hP : PRel M.1 p (N.1 177)) (h4 : M.1 p 4 = nI n) (hn : n < 7) (g1 : oI a1 0 5) (g2 : oI a2 0 5) (g3 : oI a3 1 9) (g4 : oI a4 1 20) (g5 : oI a5 0 8) : ∃ M' N', f_X2_add p a1 a2 a3 a4 a5 M = some (nI n, M') ∧ f_X7_limbComes a1 a2 a3 a4 a5 N = some N' ∧ N'.1 177 0 = nI (n + 1) ∧ PRel M'.1 p (N'.1 177) ∧ M'.2 = M.2 ∧ N'.2 = N.2 ∧ (∀ c b, ¬ ((c = p + 1 ∨ c = p + 2 ∨ c = p + 3 ∨ c = p + 4 ∨ c = p + 6 ∨ c = p + 7) ∧ b = n) → ¬ (c = p ∧ (b = 4 ∨ b = 8)) → M'.1 c b = M.1 c b) ∧ (∀ c b, c ≠ 177 → N'.1 c b = N.1 c b) := by
  obtain ⟨n', hn', e1, e2, hS, hQ, hD, hT, hU⟩ := hP
  have hnn : n' = n := (nI_eq (by omega) (by omega)).mp (by rw [← e1, h4])
  subst hnn
  obtain ⟨M', eM, eM2, m1, m2, m3, m4, m6, m7, mz, mu, mo⟩ := addX (a1 := a1) (a2 := a2) (a3 := a3) (a4 := a4) (a5 := a5) hp h4 hn
  obtain ⟨N', eN, eN2, k1, k2, k3, k4, k5, k6, k7, kz, ku, no⟩ := comesX (a1 := a1) (a2 := a2) (a3 := a3) (a4 := a4) (a5 := a5) e2 hn
  refine ⟨M', N', eM, eN, kz, ⟨n' + 1, by omega, mz, kz, fun i hi => ?_, ⟨hQ.1.congr (fun j _ => mo _ _ (by omega) (by omega)) (fun j _ => no _ _ (by omega)), fun i hi => ?_⟩, hD.congr (fun a i ha _ => mo _ _ (by omega) (by omega)) (mo _ _ (by omega) (by omega)) (fun k _ _ => no _ _ (by omega)), hT.congr (fun a i _ _ => mo _ _ (by omega) (by omega)) (fun k _ _ => no _ _ (by omega)), ?_⟩, eM2, eN2, mo, fun c b q => no c b (by omega)⟩
  · by_cases hi' : i = n'
    · subst hi'
      rw [m1, m2, m3, m4, k1, k2, k3, k4]
      exact ⟨rfl, rfl, rfl, rfl, g1, g2, g3, g4⟩
    · rw [mo _ _ (by omega) (by omega), mo _ _ (by omega) (by omega), mo _ _ (by omega) (by omega), mo _ _ (by omega) (by omega), no _ _ (by omega), no _ _ (by omega), no _ _ (by omega), no _ _ (by omega)]
      exact hS i (by omega)
  · by_cases hi' : i = n'
    · subst hi'
      rw [show p + 5 + 1 = p + 6 by omega, show p + 5 + 2 = p + 7 by omega, m6, m7, show 8 + 7 * i = 4 + 7 * i + 4 by omega, show 4 + 7 * i + 4 + 1 = 4 + 7 * i + 5 by omega, show 4 + 7 * i + 4 + 2 = 4 + 7 * i + 6 by omega, k5, k6, k7]
      exact ⟨rfl, rfl, g5, by decide, by decide⟩
    · rw [mo _ _ (by omega) (by omega), mo _ _ (by omega) (by omega), no _ _ (by omega), no _ _ (by omega), no _ _ (by omega)]
      exact hQ.2 i (by omega)
  · obtain ⟨u, x, _, hx, _, _, h7, _⟩ := hU
    exact ⟨0, x, by omega, hx, mu, ku, by rw [mo _ _ (by omega) (by omega)]; exact h7, fun k hk => absurd hk (by omega)⟩
theorem op1 : opP1 Rel := by
  intro a1 a2 a3 a4 a5 M N hR
  unfold f_X6_limb f_X7_limb
  by_cases g1 : oI a1 0 5
  · rw [if_pos ((o_0_5 a1).mpr g1)]
    by_cases g2 : oI a2 0 5
    · rw [if_pos ((o_0_5 a2).mpr g2)]
      by_cases g3 : oI a3 1 9
      · rw [if_pos ((o_1_9 a3).mpr g3)]
        by_cases g4 : oI a4 1 20
        · rw [if_pos ((o_1_20 a4).mpr g4)]
          by_cases g5 : oI a5 0 8
          · rw [if_pos ((o_0_8 a5).mpr g5), if_neg (fun q => (isLimbBy_e _ _ _ _ _).mp q ⟨g1, g2, g3, g4, g5⟩)]
            obtain ⟨hP, hO⟩ := id hR
            obtain ⟨n, hn, e1, e2, _⟩ := id hP
            rw [l0, rd_n (by rw [ln_177]; decide) (by decide), ob_e, e1, e2, l7]
            by_cases hn7 : n = 7
            · subst hn7
              rw [if_neg (nI_nlt (Nat.le_refl _) (by decide)), if_pos rfl, rFull, yFull, ob2_e, ob2_e]
              exact ⟨_, _, _, rfl, rfl, hR.full⟩
            · rw [if_pos (nI_lt (by omega) (by decide)), if_neg (fun q => hn7 ((nI_eq (by omega) (by decide)).mp q))]
              obtain ⟨M', N', eM, eN, kz, hP', eM2, eN2, mo, no⟩ := add_rel (Or.inl rfl) hP e1 (by omega) g1 g2 g3 g4 g5
              rw [eM, eN, ob2_e, ob_e, rd_n (by rw [ln_177]; decide) (by decide), ob_e, kz, nI_pred]
              exact ⟨_, _, _, rfl, rfl, hP', hO.congr (fun a b hab => mo a b (by unfold oC at hab; omega) (by unfold oC at hab; omega)) (by rw [eM2]) (fun a b hab => no a b (by unfold oM at hab; omega)) (by rw [eN2])⟩
          · rw [if_neg (fun q => g5 ((o_0_8 a5).mp q)), if_pos ((isLimbBy_e _ _ _ _ _).mpr (fun q => g5 q.2.2.2.2)), rBad, yBad, ob2_e, ob2_e]
            exact ⟨_, _, _, rfl, rfl, hR.bad⟩
        · rw [if_neg (fun q => g4 ((o_1_20 a4).mp q)), if_pos ((isLimbBy_e _ _ _ _ _).mpr (fun q => g4 q.2.2.2.1)), rBad, yBad, ob2_e, ob2_e]
          exact ⟨_, _, _, rfl, rfl, hR.bad⟩
      · rw [if_neg (fun q => g3 ((o_1_9 a3).mp q)), if_pos ((isLimbBy_e _ _ _ _ _).mpr (fun q => g3 q.2.2.1)), rBad, yBad, ob2_e, ob2_e]
        exact ⟨_, _, _, rfl, rfl, hR.bad⟩
    · rw [if_neg (fun q => g2 ((o_0_5 a2).mp q)), if_pos ((isLimbBy_e _ _ _ _ _).mpr (fun q => g2 q.2.1)), rBad, yBad, ob2_e, ob2_e]
      exact ⟨_, _, _, rfl, rfl, hR.bad⟩
  · rw [if_neg (fun q => g1 ((o_0_5 a1).mp q)), if_pos ((isLimbBy_e _ _ _ _ _).mpr (fun q => g1 q.1)), rBad, yBad, ob2_e, ob2_e]
    exact ⟨_, _, _, rfl, rfl, hR.bad⟩
