theorem Rel.tab {M M' N N' : Mem} (h : Rel M N) (hf : ∀ x y, ¬ (36 ≤ x ∧ x ≤ 41) → M'.1 x y = M.1 x y) (hw : ∀ x y, (x = 36 ∨ x = 38 ∨ x = 40) → (y = 0 ∨ y = 2) → M'.1 x y = M.1 x y) (hf2 : M'.2 = M.2) (hr : ∀ k, (k < 70 ∨ 147 ≤ k) → N'.1 177 k = N.1 177 k) (ho : ∀ x y, x ≠ 177 → N'.1 x y = N.1 x y) (hr2 : N'.2 = N.2) (hT : Tab M'.1 1 (N'.1 177)) : Rel M' N' := by
  obtain ⟨⟨n, hn, e1, e2, hS, hQ, hD, -, hU⟩, hO⟩ := h
  refine ⟨⟨n, hn, by rw [hf _ _ (by omega)]; exact e1, by rw [hr _ (by omega)]; exact e2, hS.congr (fun a i _ _ _ => hf _ _ (by omega)) (fun i w _ _ => hr _ (by omega)), hQ.congr (fun a i _ _ => hf _ _ (by omega)) (fun j _ => hr _ (by omega)) (fun i w _ _ => hr _ (by omega)), hD.congr (fun a i _ _ => hf _ _ (by omega)) (hf _ _ (by omega)) (fun k _ _ => hr _ (by omega)), hT, hU.congr hn (fun a i _ _ => hf _ _ (by omega)) (hf _ _ (by omega)) (hf _ _ (by omega)) (fun k _ _ => hr _ (by omega))⟩, hO.congr (fun a b hab => ?_) (by rw [hf2]) (fun a b hab => ho _ _ (by unfold oM at hab; omega)) (by rw [hr2])⟩
  unfold oC at hab
  by_cases hx : a = 36 ∨ a = 38 ∨ a = 40
  · exact hw _ _ hx (by omega)
  · exact hf _ _ (by omega)
theorem op19 : opP19 Rel := by
  intro a1 a2 a3 a4 M N hR
  unfold f_X6_seen f_X7_seen
  obtain ⟨⟨n, hn, e1, e2, hS, hQ, hD, hT, hU⟩, hO⟩ := id hR
  obtain ⟨x, ex, hx⟩ := y_lb (N := N) a1 hn e2
  rw [ex, ob_e]
  by_cases g1 : oI a1 0 ((n : Int) - 1)
  · rw [if_pos ((o_lb a1 hn e1).mpr g1), if_neg (fun q => hx.mp q g1)]
    by_cases g2 : oI a2 1 20
    · rw [if_pos ((o_1_20 a2).mpr g2), if_neg (fun q => (y_1_20 a2).mp q g2)]
      by_cases g3 : oI a3 0 60
      · rw [if_pos ((o_0_60 a3).mpr g3), if_neg (fun q => (y_0_60 a3).mp q g3)]
        by_cases g4 : oI a4 (-40) 60
        · rw [if_pos ((o_hi a4).mpr g4), if_neg (fun q => (y_m40_60 a4).mp q g4)]
          obtain ⟨hT1, hT2, hT3, hT4⟩ := hT
          obtain ⟨a, ha, t1, t2, t3⟩ := hT1
          have hwd := hO.1 1 (Or.inl rfl)
          have hw0 : M.1 (1 + 35) 0 = nI 4 := hwd.1
          have hw2 : M.1 (1 + 35) 2 = nI 5 := hwd.2.1
          by_cases hfl : a < 5
          · rw [if_pos ((full_n t1 hw2 (by omega) (by decide)).mpr hfl)]
            obtain ⟨M', eM, eM2, m9, m0, m1, m2, m3, mo⟩ := app4x (v1 := a1) (v2 := a2) (v3 := a3) (v4 := a4) (v5 := 0) hw0 t1 (show 4 * a + 3 < 20 by omega) (show 20 ≤ 1000 by decide)
            obtain ⟨N', eN, eN2, k9, k0, k1, k2, k3, no⟩ := tells4x (m := 5) (v1 := a1) (v2 := a2) (v3 := a3) (v4 := a4) (v5 := 0) t2 hfl (by decide) (by omega)
            have eN : f_X7_tells (70 : Int32) (4 : Int32) (5 : Int32) a1 a2 a3 a4 (0 : Int32) N = some (nI (a + 1), N') := eN
            rw [eM, ob2_e, eN, ob2_e]
            refine ⟨_, M', N', rfl, rfl, hR.tab (fun x y q => mo x y (by omega) (by omega)) (fun x y q1 q2 => mo x y (by omega) (by omega)) eM2 (fun k q => no _ _ (by omega) (by omega)) (fun x y q => no _ _ (by omega) (by omega)) eN2 ?_⟩
            refine ⟨?_, hT2.congr (mo _ _ (by omega) (by omega)) (fun i q => mo _ _ (by omega) (by omega)) (fun k q1 q2 => no _ _ (by omega) (by omega)), hT3.congr (mo _ _ (by omega) (by omega)) (fun i q => mo _ _ (by omega) (by omega)) (fun k q1 q2 => no _ _ (by omega) (by omega)), ?_⟩
            · refine ⟨a + 1, by omega, m9, k9, fun j hj => ?_⟩
              by_cases hj1 : j < 4 * a
              · rw [mo _ _ (by omega) (by omega), no _ _ (by omega) (by omega)]
                exact t3 j hj1
              · rcases (show j = 4 * a ∨ j = 4 * a + 1 ∨ j = 4 * a + 2 ∨ j = 4 * a + 3 by omega) with rfl | rfl | rfl | rfl
                · rw [show 70 + 1 + (4 * a) = 70 + 1 + 4 * a by omega, k0]; exact m0
                · rw [show 70 + 1 + (4 * a + 1) = 70 + 1 + 4 * a + 1 by omega, k1]; exact m1
                · rw [show 70 + 1 + (4 * a + 2) = 70 + 1 + 4 * a + 2 by omega, k2]; exact m2
                · rw [show 70 + 1 + (4 * a + 3) = 70 + 1 + 4 * a + 3 by omega, k3]; exact m3
            · intro k hk hle
              rw [no _ _ (by omega) (by omega)] at hle
              rw [no _ _ (by omega) (by omega)]
              exact hT4 k hk hle
          · rw [if_neg (fun q => hfl ((full_n t1 hw2 (by omega) (by decide)).mp q))]
            have hae : a = 5 := by omega
            subst hae
            have eN : f_X7_tells (70 : Int32) (4 : Int32) (5 : Int32) a1 a2 a3 a4 (0 : Int32) N = some (-1004, s1 N 176 3 (N.1 176 3 + 1)) := tellsF (w := 4) t2 (by decide)
            rw [eN, ob2_e]
            exact ⟨_, _, _, by rw [rFull, ob2_e], rfl, hR.full⟩
        · rw [if_neg (fun q => g4 ((o_hi a4).mp q)), if_pos ((y_m40_60 a4).mpr g4)]
          exact ⟨_, _, _, by rw [rBad, ob2_e], by rw [yBad, ob2_e], hR.bad⟩
      · rw [if_neg (fun q => g3 ((o_0_60 a3).mp q)), if_pos ((y_0_60 a3).mpr g3)]
        exact ⟨_, _, _, by rw [rBad, ob2_e], by rw [yBad, ob2_e], hR.bad⟩
    · rw [if_neg (fun q => g2 ((o_1_20 a2).mp q)), if_pos ((y_1_20 a2).mpr g2)]
      exact ⟨_, _, _, by rw [rBad, ob2_e], by rw [yBad, ob2_e], hR.bad⟩
  · rw [if_neg (fun q => g1 ((o_lb a1 hn e1).mp q)), if_pos (hx.mpr g1)]
    exact ⟨_, _, _, by rw [rBad, ob2_e], by rw [yBad, ob2_e], hR.bad⟩
theorem op22 : opP22 Rel := by
  intro a1 a2 a3 a4 a5 M N hR
  unfold f_X6_note f_X7_note
  obtain ⟨⟨n, hn, e1, e2, hS, hQ, hD, hT, hU⟩, hO⟩ := id hR
  obtain ⟨x, ex, hx⟩ := y_lb (N := N) a1 hn e2
  rw [ex, ob_e]
  by_cases g1 : oI a1 0 ((n : Int) - 1)
  · rw [if_pos ((o_lb a1 hn e1).mpr g1), if_neg (fun q => hx.mp q g1)]
    by_cases g2 : oI a2 1 20
    · rw [if_pos ((o_1_20 a2).mpr g2), if_neg (fun q => (y_1_20 a2).mp q g2)]
      by_cases g3 : oI a3 1 9
      · rw [if_pos ((o_1_9 a3).mpr g3), if_neg (fun q => (y_1_9 a3).mp q g3)]
        by_cases g4 : oI a4 0 99
        · rw [if_pos ((o_0_99 a4).mpr g4), if_neg (fun q => (y_0_99 a4).mp q g4)]
          by_cases g5 : oI a5 0 60
          · rw [if_pos ((o_0_60 a5).mpr g5), if_neg (fun q => (y_0_60 a5).mp q g5)]
            obtain ⟨hT1, hT2, hT3, hT4⟩ := hT
            obtain ⟨a, ha, t1, t2, t3⟩ := hT2
            have hwd := hO.1 1 (Or.inl rfl)
            have hw0 : M.1 (1 + 37) 0 = nI 5 := hwd.2.2.1
            have hw2 : M.1 (1 + 37) 2 = nI 6 := hwd.2.2.2.1
            by_cases hfl : a < 6
            · rw [if_pos ((full_n t1 hw2 (by omega) (by decide)).mpr hfl)]
              obtain ⟨M', eM, eM2, m9, m0, m1, m2, m3, m4, mo⟩ := app5x (v1 := a1) (v2 := a2) (v3 := a3) (v4 := a4) (v5 := a5) hw0 t1 (show 5 * a + 4 < 30 by omega) (show 30 ≤ 1000 by decide)
              obtain ⟨N', eN, eN2, k9, k0, k1, k2, k3, k4, no⟩ := tells5x (m := 6) (v1 := a1) (v2 := a2) (v3 := a3) (v4 := a4) (v5 := a5) t2 hfl (by decide) (by omega)
              have eN : f_X7_tells (91 : Int32) (5 : Int32) (6 : Int32) a1 a2 a3 a4 a5 N = some (nI (a + 1), N') := eN
              rw [eM, ob2_e, eN, ob2_e]
              refine ⟨_, M', N', rfl, rfl, hR.tab (fun x y q => mo x y (by omega) (by omega)) (fun x y q1 q2 => mo x y (by omega) (by omega)) eM2 (fun k q => no _ _ (by omega) (by omega)) (fun x y q => no _ _ (by omega) (by omega)) eN2 ?_⟩
              refine ⟨hT1.congr (mo _ _ (by omega) (by omega)) (fun i q => mo _ _ (by omega) (by omega)) (fun k q1 q2 => no _ _ (by omega) (by omega)), ?_, hT3.congr (mo _ _ (by omega) (by omega)) (fun i q => mo _ _ (by omega) (by omega)) (fun k q1 q2 => no _ _ (by omega) (by omega)), ?_⟩
              · refine ⟨a + 1, by omega, m9, k9, fun j hj => ?_⟩
                by_cases hj1 : j < 5 * a
                · rw [mo _ _ (by omega) (by omega), no _ _ (by omega) (by omega)]
                  exact t3 j hj1
                · rcases (show j = 5 * a ∨ j = 5 * a + 1 ∨ j = 5 * a + 2 ∨ j = 5 * a + 3 ∨ j = 5 * a + 4 by omega) with rfl | rfl | rfl | rfl | rfl
                  · rw [show 91 + 1 + (5 * a) = 91 + 1 + 5 * a by omega, k0]; exact m0
                  · rw [show 91 + 1 + (5 * a + 1) = 91 + 1 + 5 * a + 1 by omega, k1]; exact m1
                  · rw [show 91 + 1 + (5 * a + 2) = 91 + 1 + 5 * a + 2 by omega, k2]; exact m2
                  · rw [show 91 + 1 + (5 * a + 3) = 91 + 1 + 5 * a + 3 by omega, k3]; exact m3
                  · rw [show 91 + 1 + (5 * a + 4) = 91 + 1 + 5 * a + 4 by omega, k4]; exact m4
              · intro k hk hle
                rw [no _ _ (by omega) (by omega)] at hle
                rw [no _ _ (by omega) (by omega)]
                exact hT4 k hk hle
            · rw [if_neg (fun q => hfl ((full_n t1 hw2 (by omega) (by decide)).mp q))]
              have hae : a = 6 := by omega
              subst hae
              have eN : f_X7_tells (91 : Int32) (5 : Int32) (6 : Int32) a1 a2 a3 a4 a5 N = some (-1004, s1 N 176 3 (N.1 176 3 + 1)) := tellsF (w := 5) t2 (by decide)
              rw [eN, ob2_e]
              exact ⟨_, _, _, by rw [rFull, ob2_e], rfl, hR.full⟩
          · rw [if_neg (fun q => g5 ((o_0_60 a5).mp q)), if_pos ((y_0_60 a5).mpr g5)]
            exact ⟨_, _, _, by rw [rBad, ob2_e], by rw [yBad, ob2_e], hR.bad⟩
        · rw [if_neg (fun q => g4 ((o_0_99 a4).mp q)), if_pos ((y_0_99 a4).mpr g4)]
          exact ⟨_, _, _, by rw [rBad, ob2_e], by rw [yBad, ob2_e], hR.bad⟩
      · rw [if_neg (fun q => g3 ((o_1_9 a3).mp q)), if_pos ((y_1_9 a3).mpr g3)]
        exact ⟨_, _, _, by rw [rBad, ob2_e], by rw [yBad, ob2_e], hR.bad⟩
    · rw [if_neg (fun q => g2 ((o_1_20 a2).mp q)), if_pos ((y_1_20 a2).mpr g2)]
      exact ⟨_, _, _, by rw [rBad, ob2_e], by rw [yBad, ob2_e], hR.bad⟩
  · rw [if_neg (fun q => g1 ((o_lb a1 hn e1).mp q)), if_pos (hx.mpr g1)]
    exact ⟨_, _, _, by rw [rBad, ob2_e], by rw [yBad, ob2_e], hR.bad⟩
theorem op23 : opP23 Rel := by
  intro a1 a2 a3 a4 M N hR
  unfold f_X6_mark f_X7_mark
  obtain ⟨⟨n, hn, e1, e2, hS, hQ, hD, hT, hU⟩, hO⟩ := id hR
  obtain ⟨x, ex, hx⟩ := y_lb (N := N) a1 hn e2
  rw [ex, ob_e]
  by_cases g1 : oI a1 0 ((n : Int) - 1)
  · rw [if_pos ((o_lb a1 hn e1).mpr g1), if_neg (fun q => hx.mp q g1)]
    by_cases g2 : oI a2 (-40) 60
    · rw [if_pos ((o_hi a2).mpr g2), if_neg (fun q => (y_m40_60 a2).mp q g2)]
      by_cases g3 : oI a3 0 99
      · rw [if_pos ((o_0_99 a3).mpr g3), if_neg (fun q => (y_0_99 a3).mp q g3)]
        by_cases g4 : oI a4 (-40) 60
        · rw [if_pos ((o_hi a4).mpr g4), if_neg (fun q => (y_m40_60 a4).mp q g4)]
          obtain ⟨hT1, hT2, hT3, hT4⟩ := hT
          obtain ⟨a, ha, t1, t2, t3⟩ := hT3
          have hwd := hO.1 1 (Or.inl rfl)
          have hw0 : M.1 (1 + 39) 0 = nI 4 := hwd.2.2.2.2.1
          have hw2 : M.1 (1 + 39) 2 = nI 6 := hwd.2.2.2.2.2
          by_cases hfl : a < 6
          · rw [if_pos ((full_n t1 hw2 (by omega) (by decide)).mpr hfl)]
            obtain ⟨M', eM, eM2, m9, m0, m1, m2, m3, mo⟩ := app4x (v1 := a1) (v2 := a2) (v3 := a3) (v4 := a4) (v5 := 0) hw0 t1 (show 4 * a + 3 < 24 by omega) (show 24 ≤ 1000 by decide)
            obtain ⟨N', eN, eN2, k9, k0, k1, k2, k3, no⟩ := tells4x (m := 6) (v1 := a1) (v2 := a2) (v3 := a3) (v4 := a4) (v5 := 0) t2 hfl (by decide) (by omega)
            have eN : f_X7_tells (122 : Int32) (4 : Int32) (6 : Int32) a1 a2 a3 a4 (0 : Int32) N = some (nI (a + 1), N') := eN
            rw [eM, ob2_e, eN, ob2_e]
            refine ⟨_, M', N', rfl, rfl, hR.tab (fun x y q => mo x y (by omega) (by omega)) (fun x y q1 q2 => mo x y (by omega) (by omega)) eM2 (fun k q => no _ _ (by omega) (by omega)) (fun x y q => no _ _ (by omega) (by omega)) eN2 ?_⟩
            refine ⟨hT1.congr (mo _ _ (by omega) (by omega)) (fun i q => mo _ _ (by omega) (by omega)) (fun k q1 q2 => no _ _ (by omega) (by omega)), hT2.congr (mo _ _ (by omega) (by omega)) (fun i q => mo _ _ (by omega) (by omega)) (fun k q1 q2 => no _ _ (by omega) (by omega)), ?_, ?_⟩
            · refine ⟨a + 1, by omega, m9, k9, fun j hj => ?_⟩
              by_cases hj1 : j < 4 * a
              · rw [mo _ _ (by omega) (by omega), no _ _ (by omega) (by omega)]
                exact t3 j hj1
              · rcases (show j = 4 * a ∨ j = 4 * a + 1 ∨ j = 4 * a + 2 ∨ j = 4 * a + 3 by omega) with rfl | rfl | rfl | rfl
                · rw [show 122 + 1 + (4 * a) = 122 + 1 + 4 * a by omega, k0]; exact m0
                · rw [show 122 + 1 + (4 * a + 1) = 122 + 1 + 4 * a + 1 by omega, k1]; exact m1
                · rw [show 122 + 1 + (4 * a + 2) = 122 + 1 + 4 * a + 2 by omega, k2]; exact m2
                · rw [show 122 + 1 + (4 * a + 3) = 122 + 1 + 4 * a + 3 by omega, k3]; exact m3
            · intro k hk hle
              rw [k9, nI_leI (by omega) (by omega)] at hle
              by_cases hka : k = a
              · subst hka; rw [show 123 + 4 * k + 2 = 122 + 1 + 4 * k + 2 by omega, k2]; exact g3.1
              · rw [no _ _ (by omega) (by omega)]
                exact hT4 k hk (by rw [t2, nI_leI (by omega) (by omega)]; omega)
          · rw [if_neg (fun q => hfl ((full_n t1 hw2 (by omega) (by decide)).mp q))]
            have hae : a = 6 := by omega
            subst hae
            have eN : f_X7_tells (122 : Int32) (4 : Int32) (6 : Int32) a1 a2 a3 a4 (0 : Int32) N = some (-1004, s1 N 176 3 (N.1 176 3 + 1)) := tellsF (w := 4) t2 (by decide)
            rw [eN, ob2_e]
            exact ⟨_, _, _, by rw [rFull, ob2_e], rfl, hR.full⟩
        · rw [if_neg (fun q => g4 ((o_hi a4).mp q)), if_pos ((y_m40_60 a4).mpr g4)]
          exact ⟨_, _, _, by rw [rBad, ob2_e], by rw [yBad, ob2_e], hR.bad⟩
      · rw [if_neg (fun q => g3 ((o_0_99 a3).mp q)), if_pos ((y_0_99 a3).mpr g3)]
        exact ⟨_, _, _, by rw [rBad, ob2_e], by rw [yBad, ob2_e], hR.bad⟩
    · rw [if_neg (fun q => g2 ((o_hi a2).mp q)), if_pos ((y_m40_60 a2).mpr g2)]
      exact ⟨_, _, _, by rw [rBad, ob2_e], by rw [yBad, ob2_e], hR.bad⟩
  · rw [if_neg (fun q => g1 ((o_lb a1 hn e1).mp q)), if_pos (hx.mpr g1)]
    exact ⟨_, _, _, by rw [rBad, ob2_e], by rw [yBad, ob2_e], hR.bad⟩
theorem op24 : opP24 Rel := by
  intro a1 M N hR
  unfold f_X6_forget f_X7_forget
  obtain ⟨⟨n, hn, e1, e2, hS, hQ, hD, hT, hU⟩, hO⟩ := id hR
  obtain ⟨hT1, hT2, hT3, hT4⟩ := hT
  by_cases c0 : a1 = 0
  · have hin : oI a1 0 2 := by subst c0; decide
    rw [if_pos c0, if_neg (fun q => (y_0_2 a1).mp q hin), if_pos c0, drain_e, ob2_e, lq_e, lit_n, lit_n, rd_n (by rw [ln_177]; decide) (by decide), ob_e, wr_n (by rw [ln_177]; decide) (by decide), ob_e]
    obtain ⟨a, ha, t1, t2, t3⟩ := hT1
    rw [t1, t2]
    refine ⟨_, _, _, rfl, rfl, hR.tab (fun x y q => s1_ne (by omega)) (fun x y q1 q2 => s1_ne (by omega)) rfl (fun k q => s1_ne (by omega)) (fun x y q => s1_ne (by omega)) rfl ⟨⟨0, by omega, s1_eq, s1_eq, fun j hj => by omega⟩, hT2.congr (s1_ne (by omega)) (fun i q => s1_ne (by omega)) (fun k q1 q2 => s1_ne (by omega)), hT3.congr (s1_ne (by omega)) (fun i q => s1_ne (by omega)) (fun k q1 q2 => s1_ne (by omega)), fun k hk hle => ?_⟩⟩
    rw [s1_ne (by omega)] at hle
    rw [s1_ne (by omega)]
    exact hT4 k hk hle
  by_cases c1 : a1 = 1
  · have hin : oI a1 0 2 := by subst c1; decide
    rw [if_neg c0, if_pos c1, if_neg (fun q => (y_0_2 a1).mp q hin), if_neg c0, if_pos c1, drain_e, ob2_e, lq_e, lit_n, lit_n, rd_n (by rw [ln_177]; decide) (by decide), ob_e, wr_n (by rw [ln_177]; decide) (by decide), ob_e]
    obtain ⟨a, ha, t1, t2, t3⟩ := hT2
    rw [t1, t2]
    refine ⟨_, _, _, rfl, rfl, hR.tab (fun x y q => s1_ne (by omega)) (fun x y q1 q2 => s1_ne (by omega)) rfl (fun k q => s1_ne (by omega)) (fun x y q => s1_ne (by omega)) rfl ⟨hT1.congr (s1_ne (by omega)) (fun i q => s1_ne (by omega)) (fun k q1 q2 => s1_ne (by omega)), ⟨0, by omega, s1_eq, s1_eq, fun j hj => by omega⟩, hT3.congr (s1_ne (by omega)) (fun i q => s1_ne (by omega)) (fun k q1 q2 => s1_ne (by omega)), fun k hk hle => ?_⟩⟩
    rw [s1_ne (by omega)] at hle
    rw [s1_ne (by omega)]
    exact hT4 k hk hle
  by_cases c2 : a1 = 2
  · have hin : oI a1 0 2 := by subst c2; decide
    rw [if_neg c0, if_neg c1, if_pos c2, if_neg (fun q => (y_0_2 a1).mp q hin), if_neg c0, if_neg c1, drain_e, ob2_e, lq_e, lit_n, lit_n, rd_n (by rw [ln_177]; decide) (by decide), ob_e, wr_n (by rw [ln_177]; decide) (by decide), ob_e]
    obtain ⟨a, ha, t1, t2, t3⟩ := hT3
    rw [t1, t2]
    refine ⟨_, _, _, rfl, rfl, hR.tab (fun x y q => s1_ne (by omega)) (fun x y q1 q2 => s1_ne (by omega)) rfl (fun k q => s1_ne (by omega)) (fun x y q => s1_ne (by omega)) rfl ⟨hT1.congr (s1_ne (by omega)) (fun i q => s1_ne (by omega)) (fun k q1 q2 => s1_ne (by omega)), hT2.congr (s1_ne (by omega)) (fun i q => s1_ne (by omega)) (fun k q1 q2 => s1_ne (by omega)), ⟨0, by omega, s1_eq, s1_eq, fun j hj => by omega⟩, fun k hk hle => ?_⟩⟩
    rw [s1_eq] at hle
    exact absurd hle (by rw [nI_leI (by omega) (by omega)]; omega)
  have hin : ¬ oI a1 0 2 := by
    intro q
    obtain ⟨k, hk, e⟩ := nI_oI (n := 3) q (by decide)
    rcases (show k = 0 ∨ k = 1 ∨ k = 2 by omega) with rfl | rfl | rfl
    · exact c0 e
    · exact c1 e
    · exact c2 e
  rw [if_neg c0, if_neg c1, if_neg c2, if_pos ((y_0_2 a1).mpr hin)]
  exact ⟨_, _, _, by rw [rBad, ob2_e], by rw [yBad, ob2_e], hR.bad⟩
