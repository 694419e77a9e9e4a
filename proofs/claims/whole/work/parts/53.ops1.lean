/-! the rest of the state, piece by piece -/
theorem wid_c {M M' : Mem} (h : ∀ p, isP p → Wid M.1 p) (hf : ∀ a b, (a = 36 ∨ a = 38 ∨ a = 40 ∨ a = 77 ∨ a = 79 ∨ a = 81 ∨ (83 ≤ a ∧ a < 165)) → (b = 0 ∨ b = 2) → M'.1 a b = M.1 a b) : ∀ p, isP p → Wid M'.1 p := by
  intro p hp
  have hw := h p hp
  unfold Wid at hw ⊢
  rcases hp with rfl | rfl | rfl | rfl <;> (rw [hf _ _ (by omega) (by omega), hf _ _ (by omega) (by omega), hf _ _ (by omega) (by omega), hf _ _ (by omega) (by omega), hf _ _ (by omega) (by omega), hf _ _ (by omega) (by omega)]; exact hw)
theorem img_c {M M' N N' : Mem} (h : Img M N) (h4 : M'.1 0 4 = M.1 0 4) (h5 : M'.1 0 5 = M.1 0 5) (h20 : N'.1 176 20 = N.1 176 20) (hf : ∀ a i, 83 ≤ a → a < 165 → M'.1 a i = M.1 a i) (hr : ∀ k, N'.1 184 k = N.1 184 k) : Img M' N' := by
  obtain ⟨k1, k2, a1, a2, a3, a4, a5, a6, a7⟩ := h
  exact ⟨k1, k2, a1, a2, by rw [h4]; exact a3, by rw [h5]; exact a4, by rw [h20]; exact a5, fun e => (a6 e).congr (fun a i q1 q2 => hf a i (by omega) (by omega)) (fun k _ => hr k), fun e => (a7 e).congr (fun a i q1 q2 => hf a i (by omega) (by omega)) (fun k _ => hr _)⟩
theorem txt_c {M M' N N' : Mem} (h : Txt M N) (h1 : M'.1 165 1 = M.1 165 1) (h7 : N'.1 176 7 = N.1 176 7) (hf : ∀ i, M'.1 166 i = M.1 166 i) (hr : ∀ i, N'.1 178 i = N.1 178 i) : Txt M' N' := by
  obtain ⟨t, b1, b2, b3, b4⟩ := h
  exact ⟨t, b1, by rw [h1]; exact b2, by rw [h7]; exact b3, fun j hj => by rw [hf, hr]; exact b4 j hj⟩
theorem cnt_c {M M' N N' : Mem} (h : Cnt M N) (hf : ∀ b, M'.1 0 b = M.1 0 b) (hf2 : M'.2 0 = M.2 0) (hr : ∀ b, (b = 1 ∨ b = 2 ∨ b = 3) → N'.1 176 b = N.1 176 b) (hr2 : N'.2 176 = N.2 176) : Cnt M' N' := by
  unfold Cnt at h ⊢
  rw [hf, hf, hf, hr 1 (by omega), hr 2 (by omega), hr 3 (by omega), hf2, hr2]
  exact h
/-! the simple calls -/
theorem op35 : opP35 Rel := by
  intro a1 M N hR
  obtain ⟨c1, c2, c3, c4, c5⟩ := hR.2.2.2.2.2
  unfold f_X6_status f_X7_status
  by_cases h0 : a1 = 0
  · exact ⟨_, M, N, by rw [if_pos h0], by rw [if_pos h0, c1], hR⟩
  · by_cases h1 : a1 = 1
    · exact ⟨_, M, N, by rw [if_neg h0, if_pos h1], by rw [if_neg h0, if_pos h1, c2], hR⟩
    · by_cases h2 : a1 = 2
      · exact ⟨_, M, N, by rw [if_neg h0, if_neg h1, if_pos h2], by rw [if_neg h0, if_neg h1, if_pos h2, c3], hR⟩
      · exact ⟨-1, _, _, by rw [if_neg h0, if_neg h1, if_neg h2, rBad, ob2_e], by rw [if_neg h0, if_neg h1, if_neg h2, lq_e], hR.bad⟩
theorem op32 : opP32 Rel := by
  intro a1 M N hR
  obtain ⟨c1, c2, c3, c4, c5⟩ := hR.2.2.2.2.2
  unfold f_X6_part f_X7_part
  by_cases h : oI a1 0 1
  · rw [if_pos ((o_0_1 a1).mpr h), if_neg (fun q => (y_0_1 a1).mp q h)]
    by_cases h0 : a1 = 0
    · exact ⟨_, M, N, by rw [if_pos h0], by rw [if_pos h0, c4], hR⟩
    · exact ⟨_, M, N, by rw [if_neg h0], by rw [if_neg h0, c5], hR⟩
  · rw [if_neg (fun q => h ((o_0_1 a1).mp q)), if_pos ((y_0_1 a1).mpr h)]
    exact ⟨_, _, _, by rw [rBad, ob2_e], by rw [yBad, ob2_e], hR.bad⟩
theorem op3 : opP3 Rel := by
  intro M N hR
  obtain ⟨hP, h1, h2, h3, ⟨t, b1, b2, b3, b4⟩, h5⟩ := hR
  unfold f_X6_clear f_X7_clear
  rw [lq_e, lq_e, lq_e, lq_e, b3, b2]
  refine ⟨_, _, _, rfl, rfl, hP.s1 (Or.inr (by decide)) (by decide), wid_c h1 (fun a b _ _ => s1_ne (by omega)), ?_, img_c h3 (s1_ne (by omega)) (s1_ne (by omega)) (s1_ne (by omega)) (fun a i _ _ => s1_ne (by omega)) (fun k => s1_ne (by omega)), ⟨0, by omega, s1_eq, s1_eq, fun j hj => by omega⟩, cnt_c h5 (fun b => s1_ne (by omega)) rfl (fun b hb => s1_ne (by omega)) rfl⟩
  rw [s1_ne (by omega)]
  exact h2
theorem op2 : opP2 Rel := by
  intro a1 M N hR
  unfold f_X6_type f_X7_type
  by_cases h : oI a1 0 127
  · rw [if_pos ((o_0_127 a1).mpr h), if_neg (fun q => (y_0_127 a1).mp q h)]
    obtain ⟨hP, h1, h2, h3, ⟨t, b1, b2, b3, b4⟩, h5⟩ := id hR
    rw [b2, b3]
    by_cases ht : t = 150
    · subst ht
      rw [lit_n, if_neg (nI_nlt (by decide) (by decide)), if_pos rfl]
      exact ⟨_, _, _, by rw [rFull, ob2_e], by rw [yFull, ob2_e], hR.full⟩
    · rw [lit_n, if_pos (nI_lt (by omega) (by decide)), if_neg (fun q => ht ((nI_eq (by omega) (by decide)).mp q))]
      unfold f_X3_append
      rw [b2, put_n (by rw [ln_166]; omega) (by rw [ln_166]; decide), wr_n (by rw [ln_178]; omega) (by omega), ob_e, ob_e, lq_e, lq_e, ob2_e]
      rw [show (s1 M (165 + 1) t a1).1 165 1 = nI t by rw [s1_ne (by omega)]; exact b2, show (s1 N 178 t a1).1 176 7 = nI t by rw [s1_ne (by omega)]; exact b3]
      rw [s1_eq, s1_eq]
      refine ⟨_, _, _, rfl, rfl, (hP.s1 (Or.inr (by decide)) (by decide)).congr (fun a i _ _ => s1_ne (by omega)) (fun k _ => s1_ne (by omega)), wid_c h1 (fun a b _ _ => by rw [s1_ne (by omega), s1_ne (by omega)]), ?_, img_c h3 (by rw [s1_ne (by omega), s1_ne (by omega)]) (by rw [s1_ne (by omega), s1_ne (by omega)]) (by rw [s1_ne (by omega), s1_ne (by omega)]) (fun a i _ _ => by rw [s1_ne (by omega), s1_ne (by omega)]) (fun k => by rw [s1_ne (by omega), s1_ne (by omega)]), ⟨t + 1, by omega, by rw [s1_eq]; exact nI_1 t, by rw [s1_eq]; exact nI_1 t, fun j hj => ?_⟩, cnt_c h5 (fun b => by rw [s1_ne (by omega), s1_ne (by omega)]) rfl (fun b hb => by rw [s1_ne (by omega), s1_ne (by omega)]) rfl⟩
      · rw [s1_ne (by omega), s1_ne (by omega)]; exact h2
      · by_cases hjt : j = t
        · subst hjt
          rw [s1_ne (by omega), s1_eq, s1_ne (by omega), s1_eq]
          exact ⟨rfl, h⟩
        · rw [s1_ne (by omega), s1_ne (by omega), s1_ne (by omega), s1_ne (by omega)]
          exact b4 j (by omega)
  · rw [if_neg (fun q => h ((o_0_127 a1).mp q)), if_pos ((y_0_127 a1).mpr h)]
    exact ⟨_, _, _, by rw [rBad, ob2_e], by rw [yBad, ob2_e], hR.bad⟩
theorem op16 : opP16 Rel := by
  intro a1 M N hR
  unfold f_X6_dance f_X7_dance
  by_cases h : oI a1 0 6
  · rw [if_pos ((o_0_6 a1).mpr h), if_neg (fun q => (y_0_6 a1).mp q h)]
    obtain ⟨⟨n, hn, e1, e2, hS, hQ, hD, hT, hU⟩, hO⟩ := hR
    rw [lq_e, lq_e, lit_n, rd_n (by rw [ln_177]; decide) (by decide), ob_e, wr_n (by rw [ln_177]; decide) (by decide), ob_e]
    rw [hD.2.1]
    refine ⟨_, _, _, rfl, rfl, ⟨n, hn, by rw [s1_ne (by omega)]; exact e1, by rw [s1_ne (by omega)]; exact e2, hS.congr (fun a i _ _ _ => s1_ne (by omega)) (fun i w _ _ => s1_ne (by omega)), hQ.congr (fun a i _ _ => s1_ne (by omega)) (fun j _ => s1_ne (by omega)) (fun i w _ _ => s1_ne (by omega)), ⟨fun t ht => ?_, ?_⟩, hT.congr (fun a i _ _ => s1_ne (by omega)) (fun k _ _ => s1_ne (by omega)), hU.congr hn (fun a i _ _ => s1_ne (by omega)) (s1_ne (by omega)) (s1_ne (by omega)) (fun k _ _ => s1_ne (by omega))⟩, hO.congr (fun a b hab => s1_ne (by unfold oC at hab; omega)) rfl (fun a b hab => s1_ne (by unfold oM at hab; omega)) rfl⟩
    · rw [s1_ne (by omega), s1_ne (by omega), s1_ne (by omega), s1_ne (by omega)]
      exact hD.1 t ht
    · rw [s1_eq, s1_eq]
      exact ⟨rfl, h⟩
  · rw [if_neg (fun q => h ((o_0_6 a1).mp q)), if_pos ((y_0_6 a1).mpr h)]
    exact ⟨_, _, _, by rw [rBad, ob2_e], by rw [yBad, ob2_e], hR.bad⟩
theorem op15 : opP15 Rel := by
  intro a1 a2 a3 M N hR
  unfold f_X6_beat f_X7_beat
  by_cases g1 : oI a1 0 7
  · rw [if_pos ((o_0_7 a1).mpr g1), if_neg (fun q => (y_0_7 a1).mp q g1)]
    by_cases g2 : oI a2 0 4
    · rw [if_pos ((o_0_4 a2).mpr g2), if_neg (fun q => (y_0_4 a2).mp q g2)]
      by_cases g3 : oI a3 (-40) 60
      · rw [if_pos ((o_hi a3).mpr g3), if_neg (fun q => (y_m40_60 a3).mp q g3)]
        obtain ⟨⟨n, hn, e1, e2, hS, hQ, hD, hT, hU⟩, hO⟩ := hR
        obtain ⟨t, ht, rfl⟩ := nI_oI (n := 8) g1 (by decide)
        rw [cell_n (show t < ln 34 from ht) (by decide), put_n (show t < ln 34 from ht) (by decide), ob_e, ob_e, put_n (show t < ln 35 from ht) (by decide), ob_e]
        rw [lit_n, lit_n, lit_n, pk_mul, nI_add, nI_add, rd_n (by rw [ln_177]; omega) (by omega), ob_e, wr_n (by rw [ln_177]; omega) (by omega), ob_e, wr_n (by rw [ln_177]; omega) (by omega), ob_e]
        rw [show M.1 34 t = N.1 177 (54 + 2 * t) from (hD.1 t ht).1]
        refine ⟨_, _, _, rfl, rfl, ⟨n, hn, by rw [s1_ne (by omega), s1_ne (by omega)]; exact e1, by rw [s1_ne (by omega), s1_ne (by omega)]; exact e2, hS.congr (fun a i _ _ _ => by rw [s1_ne (by omega), s1_ne (by omega)]) (fun i w _ _ => by rw [s1_ne (by omega), s1_ne (by omega)]), hQ.congr (fun a i _ _ => by rw [s1_ne (by omega), s1_ne (by omega)]) (fun j _ => by rw [s1_ne (by omega), s1_ne (by omega)]) (fun i w _ _ => by rw [s1_ne (by omega), s1_ne (by omega)]), ⟨fun z hz => ?_, ?_⟩, hT.congr (fun a i _ _ => by rw [s1_ne (by omega), s1_ne (by omega)]) (fun k _ _ => by rw [s1_ne (by omega), s1_ne (by omega)]), hU.congr hn (fun a i _ _ => by rw [s1_ne (by omega), s1_ne (by omega)]) (by rw [s1_ne (by omega), s1_ne (by omega)]) (by rw [s1_ne (by omega), s1_ne (by omega)]) (fun k _ _ => by rw [s1_ne (by omega), s1_ne (by omega)])⟩, hO.congr (fun a b hab => by unfold oC at hab; rw [s1_ne (by omega), s1_ne (by omega)]) rfl (fun a b hab => by unfold oM at hab; rw [s1_ne (by omega), s1_ne (by omega)]) rfl⟩
        · by_cases hz1 : z = t
          · subst hz1
            rw [s1_ne (by omega), s1_eq, s1_eq, s1_ne (by omega), s1_eq, s1_eq]
            exact ⟨rfl, rfl, g2, g3⟩
          · rw [s1_ne (by omega), s1_ne (by omega), s1_ne (by omega), s1_ne (by omega), s1_ne (by omega), s1_ne (by omega), s1_ne (by omega), s1_ne (by omega)]
            exact hD.1 z hz
        · rw [s1_ne (by omega), s1_ne (by omega), s1_ne (by omega), s1_ne (by omega)]
          exact hD.2
      · rw [if_neg (fun q => g3 ((o_hi a3).mp q)), if_pos ((y_m40_60 a3).mpr g3)]
        exact ⟨_, _, _, by rw [rBad, ob2_e], by rw [yBad, ob2_e], hR.bad⟩
    · rw [if_neg (fun q => g2 ((o_0_4 a2).mp q)), if_pos ((y_0_4 a2).mpr g2)]
      exact ⟨_, _, _, by rw [rBad, ob2_e], by rw [yBad, ob2_e], hR.bad⟩
  · rw [if_neg (fun q => g1 ((o_0_7 a1).mp q)), if_pos ((y_0_7 a1).mpr g1)]
    exact ⟨_, _, _, by rw [rBad, ob2_e], by rw [yBad, ob2_e], hR.bad⟩
