theorem Pos.hole {f f' : Fm} {r r' : Rw} {q n i : Nat} {X : Int} {v : Int32} (H : Pos f q r 1 8 7 n X) (hv : oI v 0 8) (hf : ∀ c b, q ≤ c → c ≤ q + 2 → ¬ (c = q + 1 ∧ b = i) → f' c b = f c b) (hf1 : f' (q + 1) i = v) (hr : ∀ b, b ≠ 8 + 7 * i → b < 60 → r' b = r b) (hr1 : r' (8 + 7 * i) = v) (hn : n ≤ 7) : Pos f' q r' 1 8 7 n X := by
  refine ⟨H.1.congr (fun j _ => hf _ _ (by omega) (by omega) (by omega)) (fun j _ => hr _ (by omega) (by omega)), fun j hj => ?_⟩
  obtain ⟨L1, L2, L3, L4, L5⟩ := H.2 j hj
  by_cases e : j = i
  · subst e
    rw [hf1, hr1, hf _ _ (by omega) (by omega) (by omega), hr _ (by omega) (by omega), hr _ (by omega) (by omega)]
    exact ⟨rfl, L2, hv, L4, L5⟩
  · rw [hf _ _ (by omega) (by omega) (by omega), hf _ _ (by omega) (by omega) (by omega), hr _ (by omega) (by omega), hr _ (by omega) (by omega), hr _ (by omega) (by omega)]
    exact ⟨L1, L2, L3, L4, L5⟩
theorem op7 : opP7 Rel := by
  intro a1 a2 M N hR
  unfold f_X6_hangs f_X7_hangs
  obtain ⟨⟨n, hn, e1, e2, hS, hQ, hD, hT, hU⟩, hO⟩ := id hR
  obtain ⟨x, ex, hx⟩ := y_lb (N := N) a1 hn e2
  rw [ex, ob_e]
  by_cases g1 : oI a1 0 ((n : Int) - 1)
  · rw [if_pos ((o_lb a1 hn e1).mpr g1), if_neg (fun q => hx.mp q g1)]
    by_cases g2 : oI a2 0 8
    · rw [if_pos ((o_0_8 a2).mpr g2), if_neg (fun q => (y_0_8 a2).mp q g2)]
      obtain ⟨i, hi, rfl⟩ := nI_oI g1 (by omega)
      obtain ⟨L1, L2, L3, L4, L5⟩ := hQ.2 i hi
      unfold f_X2_holeOf
      rw [cell_n (show i < ln (1 + 5 + 1) from by show i < 7; omega) (by decide), ob_e, ob_e, l4, limbOf_n (by omega), ob_e, show 4 + 7 * i + 4 = 8 + 7 * i by omega, L1]
      by_cases g3 : N.1 177 (8 + 7 * i) = a2
      · rw [if_pos g3, if_pos g3, rNo, yNo, ob2_e, ob2_e]
        exact ⟨_, _, _, rfl, rfl, hR.no⟩
      · obtain ⟨M', N', eM, eN, eM2, eN2, mo, no, hU'⟩ := remember_rel hn hQ hU
        rw [if_neg g3, if_neg g3, eM, eN, ob_e, ob_e, put_n (show i < ln (1 + 5 + 1) from by show i < 7; omega) (by decide), ob_e, sets_n (by omega), ob_e, show 4 + 7 * i + 4 = 8 + 7 * i by omega]
        refine ⟨_, _, _, rfl, rfl, ⟨n, hn, ?_, ?_, hS.congr (fun a j _ _ _ => by rw [s1_ne (by omega)]; exact mo _ _ (by omega) (by omega)) (fun j w _ _ => by rw [s1_ne (by omega)]; exact no _ _ (by omega)), hQ.hole g2 (fun c b _ _ q => by rw [s1_ne (by omega)]; exact mo _ _ (by omega) (by omega)) s1_eq (fun b q _ => by rw [s1_ne (by omega)]; exact no _ _ (by omega)) s1_eq hn, hD.congr (fun a j _ _ => by rw [s1_ne (by omega)]; exact mo _ _ (by omega) (by omega)) (by rw [s1_ne (by omega)]; exact mo _ _ (by omega) (by omega)) (fun k _ _ => by rw [s1_ne (by omega)]; exact no _ _ (by omega)), hT.congr (fun a j _ _ => by rw [s1_ne (by omega)]; exact mo _ _ (by omega) (by omega)) (fun k _ _ => by rw [s1_ne (by omega)]; exact no _ _ (by omega)), hU'.congr hn (fun a j _ _ => s1_ne (by omega)) (s1_ne (by omega)) (s1_ne (by omega)) (fun k _ _ => s1_ne (by omega))⟩, hO.congr (fun a b hab => by unfold oC at hab; rw [s1_ne (by omega)]; exact mo _ _ (by omega) (by omega)) (by rw [s1_2, eM2]) (fun a b hab => by unfold oM at hab; rw [s1_ne (by omega)]; exact no _ _ (by omega)) (by rw [s1_2, eN2])⟩
        · rw [s1_ne (by omega), mo _ _ (by omega) (by omega)]; exact e1
        · rw [s1_ne (by omega), no _ _ (by omega)]; exact e2
    · rw [if_neg (fun q => g2 ((o_0_8 a2).mp q)), if_pos ((y_0_8 a2).mpr g2), rBad, yBad, ob2_e, ob2_e]
      exact ⟨_, _, _, rfl, rfl, hR.bad⟩
  · rw [if_neg (fun q => g1 ((o_lb a1 hn e1).mp q)), if_pos (hx.mpr g1), rBad, yBad, ob2_e, ob2_e]
    exact ⟨_, _, _, rfl, rfl, hR.bad⟩
theorem op6 : opP6 Rel := by
  intro a1 M N hR
  unfold f_X6_ties f_X7_ties
  obtain ⟨⟨n, hn, e1, e2, hS, hQ, hD, hT, hU⟩, hO⟩ := id hR
  obtain ⟨x, ex, hx⟩ := y_lb (N := N) a1 hn e2
  rw [ex, ob_e]
  by_cases g1 : oI a1 0 ((n : Int) - 1)
  · rw [if_pos ((o_lb a1 hn e1).mpr g1), if_neg (fun q => hx.mp q g1)]
    obtain ⟨i, hi, rfl⟩ := nI_oI g1 (by omega)
    obtain ⟨L1, L2, L3, L4, L5⟩ := hQ.2 i hi
    unfold f_X2_wornOf
    rw [cell_n (show i < ln (1 + 5 + 2) from by show i < 7; omega) (by decide), ob_e, ob_e, snapM, snapN (by omega) L5, ob_e, ob_e, L2]
    by_cases g3 : snp (N.1 177 (8 + 7 * i + 1)) = 0
    · rw [if_pos g3, if_pos g3, rNo, yNo, ob2_e, ob2_e]
      exact ⟨_, _, _, rfl, rfl, hR.no⟩
    · obtain ⟨M', N', eM, eN, eM2, eN2, mo, no, hU'⟩ := remember_rel hn hQ hU
      unfold f_X7_unsnaps
      rw [if_neg g3, if_neg g3, eM, eN, ob_e, ob_e, put_n (show i < ln (1 + 5 + 2) from by show i < 7; omega) (by decide), ob_e, l5, limbOf_n (by omega), ob_e, sets_n (by omega), ob_e, l6, sets_n (by omega), ob_e, ob_e, show 4 + 7 * i + 5 = 8 + 7 * i + 1 by omega, show 4 + 7 * i + 6 = 8 + 7 * i + 2 by omega, no _ _ (by omega)]
      refine ⟨_, _, _, rfl, rfl, ⟨n, hn, ?_, ?_, hS.congr (fun a j _ _ _ => by rw [s1_ne (by omega)]; exact mo _ _ (by omega) (by omega)) (fun j w _ _ => by rw [s1_ne (by omega), s1_ne (by omega)]; exact no _ _ (by omega)), ⟨hQ.1.congr (fun j _ => by rw [s1_ne (by omega)]; exact mo _ _ (by omega) (by omega)) (fun j _ => by rw [s1_ne (by omega), s1_ne (by omega)]; exact no _ _ (by omega)), fun j hj => ?_⟩, hD.congr (fun a j _ _ => by rw [s1_ne (by omega)]; exact mo _ _ (by omega) (by omega)) (by rw [s1_ne (by omega)]; exact mo _ _ (by omega) (by omega)) (fun k _ _ => by rw [s1_ne (by omega), s1_ne (by omega)]; exact no _ _ (by omega)), hT.congr (fun a j _ _ => by rw [s1_ne (by omega)]; exact mo _ _ (by omega) (by omega)) (fun k _ _ => by rw [s1_ne (by omega), s1_ne (by omega)]; exact no _ _ (by omega)), hU'.congr hn (fun a j _ _ => s1_ne (by omega)) (s1_ne (by omega)) (s1_ne (by omega)) (fun k _ _ => by rw [s1_ne (by omega), s1_ne (by omega)])⟩, hO.congr (fun a b hab => by unfold oC at hab; rw [s1_ne (by omega)]; exact mo _ _ (by omega) (by omega)) (by rw [s1_2, eM2]) (fun a b hab => by unfold oM at hab; rw [s1_ne (by omega), s1_ne (by omega)]; exact no _ _ (by omega)) (by rw [s1_2, s1_2, eN2])⟩
      · rw [s1_ne (by omega), mo _ _ (by omega) (by omega)]; exact e1
      · rw [s1_ne (by omega), s1_ne (by omega), no _ _ (by omega)]; exact e2
      · by_cases e : j = i
        · subst e
          rw [s1_ne (by omega), s1_eq, s1_ne (by omega), s1_ne (by omega), s1_ne (by omega), s1_eq, s1_eq, mo _ _ (by omega) (by omega), no _ _ (by omega)]
          exact ⟨L1, rfl, L3, by decide, by decide⟩
        · rw [s1_ne (by omega), s1_ne (by omega), s1_ne (by omega), s1_ne (by omega), s1_ne (by omega), s1_ne (by omega), s1_ne (by omega), s1_ne (by omega), mo _ _ (by omega) (by omega), mo _ _ (by omega) (by omega), no _ _ (by omega), no _ _ (by omega), no _ _ (by omega)]
          exact hQ.2 j hj
  · rw [if_neg (fun q => g1 ((o_lb a1 hn e1).mp q)), if_pos (hx.mpr g1), rBad, yBad, ob2_e, ob2_e]
    exact ⟨_, _, _, rfl, rfl, hR.bad⟩
theorem op5 : opP5 Rel := by
  intro a1 M N hR
  unfold f_X6_moves f_X7_moves
  obtain ⟨⟨n, hn, e1, e2, hS, hQ, hD, hT, hU⟩, hO⟩ := id hR
  by_cases g1 : oI a1 0 4
  · rw [if_pos ((o_0_4 a1).mpr g1), if_neg (fun q => (y_0_4 a1).mp q g1)]
    obtain ⟨i, hi, rfl⟩ := nI_oI (n := 5) g1 (by decide)
    obtain ⟨⟨b1, b2, b3, b4, b5, b6⟩, hL⟩ := id hQ
    have b3' : M.1 (1 + 5) 2 = N.1 177 3 := b3
    obtain ⟨m, hm, em⟩ := nI_oI (n := 10000) b6 (by decide)
    have em' : N.1 177 3 = nI m := em
    rw [l3, rd_n (hb177 (by decide)) (by decide), ob_e, b3', em', show (9999 : Int32) = nI 9999 from rfl]
    by_cases g2 : m = 9999
    · subst g2
      rw [if_neg (nI_nlt (Nat.le_refl _) (by decide)), if_pos rfl, rNo, yNo, ob2_e, ob2_e]
      exact ⟨_, _, _, rfl, rfl, hR.no⟩
    · rw [if_pos (nI_lt (by omega) (by decide)), if_neg (fun q => g2 ((nI_eq (by omega) (by decide)).mp q))]
      obtain ⟨M', N', eM, eN, eM2, eN2, mo, no, hU'⟩ := remember_rel hn hQ hU
      have hQ' : Pos M'.1 6 (N'.1 177) 1 8 7 n 9998 := by
        refine Pos.congr ⟨⟨b1, b2, b3, b4, b5, by rw [em, oI_nI (by omega)]; omega⟩, hL⟩ (fun a j _ _ => mo _ _ (by omega) (by omega)) (fun j _ => no _ _ (by omega)) (fun j w _ _ => no _ _ (by omega))
      obtain ⟨M2, N2, fM, fN, fM2, fN2, ko, lo, hQ2, _⟩ := step_rel (q := 6) (k := i) (Or.inl rfl) (by omega) (by decide) hn (by rw [mo _ _ (by omega) (by omega)]; exact e1) (by rw [no _ _ (by omega)]; exact e2) (hS.congr (fun a j _ _ _ => mo _ _ (by omega) (by omega)) (fun j w _ _ => no _ _ (by omega))) hQ'
      have f1 : M2.1 1 4 = nI n := by rw [ko _ _ (by omega) (by omega), mo _ _ (by omega) (by omega)]; exact e1
      have f2 : N2.1 177 0 = nI n := by rw [lo _ _ (by omega), no _ _ (by omega)]; exact e2
      obtain ⟨r, r1, r2⟩ := snapped_rel (q := 6) (Or.inl rfl) hn f1 f2 hQ2.2
      have fM' : f_X2_step 1 (1 + 5) (nI i) M' = some M2 := fM
      have r1' : f_X2_snappedIn 1 (1 + 5) M2 = some r := r1
      rw [eM, eN, ob_e, ob_e, fM', fN, ob_e, ob_e, r1', r2, ob_e, ob_e]
      refine ⟨_, _, _, rfl, rfl, ⟨n, hn, f1, f2, hS.congr (fun a j _ _ _ => by rw [ko _ _ (by omega) (by omega)]; exact mo _ _ (by omega) (by omega)) (fun j w _ _ => by rw [lo _ _ (by omega)]; exact no _ _ (by omega)), hQ2, hD.congr (fun a j _ _ => by rw [ko _ _ (by omega) (by omega)]; exact mo _ _ (by omega) (by omega)) (by rw [ko _ _ (by omega) (by omega)]; exact mo _ _ (by omega) (by omega)) (fun k _ _ => by rw [lo _ _ (by omega)]; exact no _ _ (by omega)), hT.congr (fun a j _ _ => by rw [ko _ _ (by omega) (by omega)]; exact mo _ _ (by omega) (by omega)) (fun k _ _ => by rw [lo _ _ (by omega)]; exact no _ _ (by omega)), hU'.congr hn (fun a j _ _ => ko _ _ (by omega) (by omega)) (ko _ _ (by omega) (by omega)) (ko _ _ (by omega) (by omega)) (fun k _ _ => lo _ _ (by omega))⟩, hO.congr (fun a b hab => by unfold oC at hab; rw [ko _ _ (by omega) (by omega)]; exact mo _ _ (by omega) (by omega)) (by rw [fM2, eM2]) (fun a b hab => by unfold oM at hab; rw [lo _ _ (by omega)]; exact no _ _ (by omega)) (by rw [fN2, eN2])⟩
  · rw [if_neg (fun q => g1 ((o_0_4 a1).mp q)), if_pos ((y_0_4 a1).mpr g1), rBad, yBad, ob2_e, ob2_e]
    exact ⟨_, _, _, rfl, rfl, hR.bad⟩
theorem eight {k : Nat} (h : k < 8) : k = 0 ∨ k = 1 ∨ k = 2 ∨ k = 3 ∨ k = 4 ∨ k = 5 ∨ k = 6 ∨ k = 7 := by omega
theorem op9 : opP9 Rel := by
  intro a1 a2 M N hR
  unfold f_X6_of f_X7_of
  obtain ⟨⟨n, hn, e1, e2, hS, hQ, hD, hT, hU⟩, hO⟩ := id hR
  obtain ⟨x, ex, hx⟩ := y_lb (N := N) a1 hn e2
  rw [ex, ob_e]
  by_cases g1 : oI a1 0 ((n : Int) - 1)
  · rw [if_pos ((o_lb a1 hn e1).mpr g1), if_neg (fun q => hx.mp q g1)]
    by_cases g2 : oI a2 0 7
    · rw [if_pos ((o_0_7 a2).mpr g2), if_neg (fun q => (y_0_7 a2).mp q g2)]
      obtain ⟨i, hi, rfl⟩ := nI_oI g1 (by omega)
      obtain ⟨j, hj, rfl⟩ := nI_oI (n := 8) g2 (by omega)
      obtain ⟨L1, L2, L3, L4, L5⟩ := hQ.2 i hi
      obtain ⟨s1', s2', s3', s4', s5', s6', s7', s8'⟩ := hS i hi
      suffices h : ∃ v, f_X2_tellOf 1 (nI i) (nI j) M = some v ∧ (if (7 : Int32) ≤ nI j then (ob (f_X7_high (nI i) N) (fun x5 => some (x5, N))) else (ob (f_X7_limbOf (nI i) (nI j) N) (fun x6 => some (x6, N)))) = some (v, N) by
        obtain ⟨v, h1, h2⟩ := h
        rw [h1, ob_e, h2]
        exact ⟨_, _, _, rfl, rfl, hR⟩
      rw [l7]
      unfold f_X2_tellOf
      rcases eight hj with rfl | rfl | rfl | rfl | rfl | rfl | rfl | rfl
      · rw [if_neg (nI_ge (by decide) (by decide)), limbOf_n (by omega), ob_e]
        exact ⟨_, by rw [if_pos (by decide), cell_n (show i < ln (1 + 1) from by show i < 7; omega) (by decide), ob_e], by rw [s1']; rfl⟩
      · rw [if_neg (nI_ge (by decide) (by decide)), limbOf_n (by omega), ob_e]
        exact ⟨_, by rw [if_neg (by decide), if_pos (by decide), cell_n (show i < ln (1 + 2) from by show i < 7; omega) (by decide), ob_e], by rw [s2']⟩
      · rw [if_neg (nI_ge (by decide) (by decide)), limbOf_n (by omega), ob_e]
        unfold f_X2_weightOf
        exact ⟨_, by rw [if_neg (by decide), if_neg (by decide), if_pos (by decide), cell_n (show i < ln (1 + 3) from by show i < 7; omega) (by decide), ob_e, ob_e], by rw [s3']⟩
      · rw [if_neg (nI_ge (by decide) (by decide)), limbOf_n (by omega), ob_e]
        exact ⟨_, by rw [if_neg (by decide), if_neg (by decide), if_neg (by decide), if_pos (by decide), cell_n (show i < ln (1 + 4) from by show i < 7; omega) (by decide), ob_e], by rw [s4']⟩
      · rw [if_neg (nI_ge (by decide) (by decide)), limbOf_n (by omega), ob_e]
        unfold f_X2_holeOf
        exact ⟨_, by rw [if_neg (by decide), if_neg (by decide), if_neg (by decide), if_neg (by decide), if_pos (by decide), cell_n (show i < ln (1 + 5 + 1) from by show i < 7; omega) (by decide), ob_e, ob_e], by rw [L1, show 4 + 7 * i + 4 = 8 + 7 * i by omega]⟩
      · rw [if_neg (nI_ge (by decide) (by decide)), limbOf_n (by omega), ob_e]
        unfold f_X2_wornOf
        exact ⟨_, by rw [if_neg (by decide), if_neg (by decide), if_neg (by decide), if_neg (by decide), if_neg (by decide), if_pos (by decide), cell_n (show i < ln (1 + 5 + 2) from by show i < 7; omega) (by decide), ob_e, ob_e], by rw [L2, show 4 + 7 * i + 5 = 8 + 7 * i + 1 by omega]⟩
      · rw [if_neg (nI_ge (by decide) (by decide)), limbOf_n (by omega), ob_e]
        unfold f_X2_wornOf
        refine ⟨snp (N.1 177 (8 + 7 * i + 1)), ?_, by rw [← L5, show 4 + 7 * i + 6 = 8 + 7 * i + 2 by omega]⟩
        rw [if_neg (by decide), if_neg (by decide), if_neg (by decide), if_neg (by decide), if_neg (by decide), if_neg (by decide), if_pos (by decide), cell_n (show i < ln (1 + 5 + 2) from by show i < 7; omega) (by decide), ob_e, ob_e, snapM, L2]
        unfold snp
        by_cases c : 99 ≤ (N.1 177 (8 + 7 * i + 1)).toInt
        · rw [if_pos c]; rfl
        · rw [if_neg c]; rfl
      · rw [if_pos (nI_le (Nat.le_refl _) (by decide))]
        obtain ⟨v, h1, h2⟩ := highIn_rel (q := 6) (Or.inl rfl) hn hi hS hQ
        have h1' : f_X2_highIn 1 (1 + 5) (nI i) M = some v := h1
        rw [h2, ob_e]
        exact ⟨v, by rw [if_neg (by decide), if_neg (by decide), if_neg (by decide), if_neg (by decide), if_neg (by decide), if_neg (by decide), if_neg (by decide), h1', ob_e], rfl⟩
    · rw [if_neg (fun q => g2 ((o_0_7 a2).mp q)), if_pos ((y_0_7 a2).mpr g2), rBad, yBad, ob2_e, ob2_e]
      exact ⟨_, _, _, rfl, rfl, hR.bad⟩
  · rw [if_neg (fun q => g1 ((o_lb a1 hn e1).mp q)), if_pos (hx.mpr g1), rBad, yBad, ob2_e, ob2_e]
    exact ⟨_, _, _, rfl, rfl, hR.bad⟩
