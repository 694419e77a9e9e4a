theorem Pos.move {f f' : Fm} {q q' b b' h h' s s' n : Nat} {r r' : Rw} {X : Int} (H : Pos f q r b h s n X) (h0 : ∀ j, j < 3 → f' q' j = f q j) (h1 : ∀ i, i < n → f' (q' + 1) i = f (q + 1) i ∧ f' (q' + 2) i = f (q + 2) i) (h2 : ∀ j, j < 3 → r' (b' + j) = r (b + j)) (h3 : ∀ i, i < n → ∀ w, w < 3 → r' (h' + s' * i + w) = r (h + s * i + w)) : Pos f' q' r' b' h' s' n X := by
  obtain ⟨⟨b1, b2, b3, b4, b5, b6⟩, hL⟩ := H
  have e0 : r' b' = r b := h2 0 (by omega)
  refine ⟨⟨?_, ?_, ?_, ?_, ?_, ?_⟩, fun i hi => ?_⟩
  · rw [h0 0 (by omega), e0]; exact b1
  · rw [h0 1 (by omega), h2 1 (by omega)]; exact b2
  · rw [h0 2 (by omega), h2 2 (by omega)]; exact b3
  · rw [e0]; exact b4
  · rw [h2 1 (by omega)]; exact b5
  · rw [h2 2 (by omega)]; exact b6
  · have e1 : r' (h' + s' * i) = r (h + s * i) := h3 i hi 0 (by omega)
    rw [(h1 i hi).1, (h1 i hi).2, e1, h3 i hi 1 (by omega), h3 i hi 2 (by omega)]
    exact hL i hi
theorem ln_past : ∀ x : Nat, x < 8 → ln (1 + 8 + 1 + 3 * x + 1) = 7 ∧ ln (1 + 8 + 1 + 3 * x + 2) = 7 := by decide
theorem pastAt_n {x : Nat} (hx : x < 8) : f_X2_pastAt 1 (nI x) = some (1 + 8 + 1 + 3 * x) := by
  unfold f_X2_pastAt rdP
  rw [if_neg (nI_pos (by omega)), if_neg (nI_ge hx (by decide)), if_neg (nI_in hx (by decide)), ob_e, nI_clamp (by omega)]
theorem remember_rel {n : Nat} {M N : Mem} (hn : n ≤ 7) (hQ : Pos M.1 6 (N.1 177) 1 8 7 n 9999) (hU : Und M.1 1 (N.1 177) n) : ∃ M' N', f_X2_remember 1 M = some M' ∧ f_X7_notes N = some N' ∧ M'.2 = M.2 ∧ N'.2 = N.2 ∧ (∀ c b, ¬ (10 ≤ c ∧ c ≤ 33) → ¬ (c = 1 ∧ (b = 7 ∨ b = 8)) → M'.1 c b = M.1 c b) ∧ (∀ c b, c ≠ 177 ∨ b < 147 → N'.1 c b = N.1 c b) ∧ Und M'.1 1 (N'.1 177) n := by
  obtain ⟨u, x, hu, hx, h8, h147, h7, hk⟩ := hU
  obtain ⟨N', d, e, hd, he, eN, eN2, no, k147, ko, kb, kl⟩ := notesX hu h147
  obtain ⟨p1, p2⟩ := ln_past x hx
  obtain ⟨M3, eM, eM2, mo, mb, ml⟩ := become_n (o := 1 + 8 + 1 + 3 * x) (q := 1 + 5) p1 p2 rfl rfl (by omega) M
  have hue : (if (8 : Int32) < nI (u + 1) then (8 : Int32) else nI (u + 1)) = nI (e + 1) := by
    by_cases h : u = 8
    · subst h
      rw [if_pos rfl] at hd
      subst hd
      subst he
      rfl
    · rw [if_neg h] at hd
      subst hd
      rw [l8, if_neg (nI_nlt (by omega) (by decide)), he]; rfl
  refine ⟨s1 (s1 M3 1 7 (nI ((x + 1) % 8))) 1 8 (nI (e + 1)), N', ?_, eN, eM2, eN2, fun c b q1 q2 => ?_, no, ?_⟩
  · unfold f_X2_remember
    rw [h7, pastAt_n hx, ob_e, eM, ob_e, lq_e, lq_e, mo 1 7 (by omega) (by omega) (by omega), h7, l1, nI_add, l8, pk_rem (by omega) (by decide) (by decide)]
    rw [show (s1 M3 1 7 (nI ((x + 1) % 8))).1 1 8 = nI u from by rw [s1_ne (by omega), mo 1 8 (by omega) (by omega) (by omega)]; exact h8, nI_add]
    rw [l8] at hue
    rw [hue]
  · rw [s1_ne (by omega), s1_ne (by omega)]
    exact mo c b (by omega) (by omega) (by omega)
  · have hcase : (u = 8 ∧ d = 1 ∧ e = 7) ∨ (u < 8 ∧ d = 0 ∧ e = u) := by
      by_cases h : u = 8
      · rw [if_pos h] at hd; omega
      · rw [if_neg h] at hd; omega
    refine ⟨e + 1, (x + 1) % 8, by omega, by omega, s1_eq, k147, by rw [s1_ne (by omega), s1_eq], fun k hk' => ?_⟩
    by_cases hke : k = e
    · subst hke
      have hx' : ((x + 1) % 8 + 8 - (k + 1) + k) % 8 = x := by omega
      rw [hx']
      refine hQ.move (fun j hj => ?_) (fun i hi => ?_) (fun j hj => kb j hj) (fun i hi w hw => ?_)
      · rw [s1_ne (by omega), s1_ne (by omega)]
        exact mb j hj
      · rw [s1_ne (by omega), s1_ne (by omega), s1_ne (by omega), s1_ne (by omega)]
        exact ml i (by omega)
      · exact kl i (by omega) w hw
    · have hx' : ((x + 1) % 8 + 8 - (e + 1) + k) % 8 = (x + 8 - u + (k + d)) % 8 := by omega
      have hxx : (x + 8 - u + (k + d)) % 8 ≠ x := by omega
      have hx8 : (x + 8 - u + (k + d)) % 8 < 8 := by omega
      rw [hx']
      have H := hk (k + d) (by omega)
      revert H hxx hx8
      generalize (x + 8 - u + (k + d)) % 8 = z
      intro hxx hx8 H
      refine H.move (fun j hj => ?_) (fun i hi => ?_) (fun j hj => ko k (by omega) j (by omega)) (fun i hi w hw => ?_)
      · rw [s1_ne (by omega), s1_ne (by omega)]
        exact mo _ _ (by omega) (by omega) (by omega)
      · rw [s1_ne (by omega), s1_ne (by omega), s1_ne (by omega), s1_ne (by omega)]
        exact ⟨mo _ _ (by omega) (by omega) (by omega), mo _ _ (by omega) (by omega) (by omega)⟩
      · have := ko k (by omega) (3 + 3 * i + w) (by omega)
        rw [show 151 + 24 * k + 3 * i + w = 148 + 24 * k + (3 + 3 * i + w) by omega, show 151 + 24 * (k + d) + 3 * i + w = 148 + 24 * (k + d) + (3 + 3 * i + w) by omega]
        exact this
theorem undo_L46 {B : Nat} (hB : 148 ≤ B) (hB2 : B + 24 ≤ 340) (N : Mem) : ∃ r, f_X7_undo_L46 (nI B) FU (nI 0) N = some r ∧ (r.2.2 = N.2 ∧ (∀ c b, ¬ (c = 177 ∧ 1 ≤ b ∧ b < 4) → r.2.1 c b = N.1 c b) ∧ ∀ j, j < 3 → r.2.1 177 (1 + j) = N.1 177 (B + j)) := by
  refine loopE (fun n i x => f_X7_undo_L46 (nI B) n (nI i) x) 3 (fun i (x : Mem) => x.2 = N.2 ∧ (∀ c b, ¬ (c = 177 ∧ 1 ≤ b ∧ b < 4) → x.1 c b = N.1 c b) ∧ ∀ j, j < i → x.1 177 (1 + j) = N.1 177 (B + j)) _ ?_ ?_ 3 0 FU N (by omega) (FU_gt (by decide)) ⟨rfl, fun _ _ _ => rfl, fun t ht => absurd ht (by omega)⟩
  · intro n x hx
    refine ⟨(nI 3, x), ?_, hx⟩
    show f_X7_undo_L46 (nI B) (n + 1) (nI 3) x = _
    rw [f_X7_undo_L46]
    rw [l3, if_pos (nI_le (Nat.le_refl _) (by decide))]
  · intro n i x hi hx
    obtain ⟨h1, h2, h3⟩ := hx
    refine Or.inl ⟨s1 x 177 (1 + i) (x.1 177 (B + i)), ?_, h1, fun c b q => ?_, fun t ht => ?_⟩
    · show f_X7_undo_L46 (nI B) (n + 1) (nI i) x = f_X7_undo_L46 (nI B) n (nI (i + 1)) _
      rw [f_X7_undo_L46]
      rw [l3, if_neg (nI_ge hi (by decide)), nI_add, rd_n (hb177 (by omega)) (by omega), ob_e, l1, nI_add, wr_n (hb177 (by omega)) (by omega), ob_e, lq_e, nI_add]
    · rw [s1_ne (by omega)]
      exact h2 c b q
    · by_cases e : t = i
      · subst e; rw [s1_eq, h2 _ _ (by omega)]
      · rw [s1_ne (by omega)]
        exact h3 t (by omega)
theorem undo_L83 {B i : Nat} (hB : 148 ≤ B) (hB2 : B + 24 ≤ 340) (hi7 : i < 7) (N : Mem) : ∃ r, f_X7_undo_L83 (nI B) (nI i) FU (nI 0) N = some r ∧ (r.2.2 = N.2 ∧ (∀ c b, ¬ (c = 177 ∧ 8 + 7 * i ≤ b ∧ b < 8 + 7 * i + 3) → r.2.1 c b = N.1 c b) ∧ ∀ j, j < 3 → r.2.1 177 (8 + 7 * i + j) = N.1 177 (B + 3 + 3 * i + j)) := by
  refine loopE (fun n j x => f_X7_undo_L83 (nI B) (nI i) n (nI j) x) 3 (fun z (x : Mem) => x.2 = N.2 ∧ (∀ c b, ¬ (c = 177 ∧ 8 + 7 * i ≤ b ∧ b < 8 + 7 * i + 3) → x.1 c b = N.1 c b) ∧ ∀ j, j < z → x.1 177 (8 + 7 * i + j) = N.1 177 (B + 3 + 3 * i + j)) _ ?_ ?_ 3 0 FU N (by omega) (FU_gt (by decide)) ⟨rfl, fun _ _ _ => rfl, fun t ht => absurd ht (by omega)⟩
  · intro n x hx
    refine ⟨(nI 3, x), ?_, hx⟩
    show f_X7_undo_L83 (nI B) (nI i) (n + 1) (nI 3) x = _
    rw [f_X7_undo_L83]
    rw [l3, if_pos (nI_le (Nat.le_refl _) (by decide))]
  · intro n z x hi hx
    obtain ⟨h1, h2, h3⟩ := hx
    refine Or.inl ⟨s1 x 177 (8 + 7 * i + z) (x.1 177 (B + 3 + 3 * i + z)), ?_, h1, fun c b q => ?_, fun t ht => ?_⟩
    · show f_X7_undo_L83 (nI B) (nI i) (n + 1) (nI z) x = f_X7_undo_L83 (nI B) (nI i) n (nI (z + 1)) _
      rw [f_X7_undo_L83]
      rw [l3, if_neg (nI_ge hi (by decide)), nI_add, pk_mul, nI_add, nI_add, rd_n (hb177 (by omega)) (by omega), ob_e, l4, nI_add, sets_n (by omega), ob_e, lq_e, l1, nI_add, show 4 + 7 * i + (4 + z) = 8 + 7 * i + z by omega]
    · rw [s1_ne (by omega)]
      exact h2 c b q
    · by_cases e : t = z
      · subst e; rw [s1_eq, h2 _ _ (by omega)]
      · rw [s1_ne (by omega)]
        exact h3 t (by omega)
theorem undo_L75 {B : Nat} (hB : 148 ≤ B) (hB2 : B + 24 ≤ 340) (N : Mem) : ∃ r, f_X7_undo_L75 (nI B) FU (nI 0) N = some r ∧ (r.2.2 = N.2 ∧ (∀ c b, ¬ (c = 177 ∧ 8 ≤ b ∧ b < 53 ∧ 4 ≤ (b - 4) % 7) → r.2.1 c b = N.1 c b) ∧ ∀ i, i < 7 → ∀ j, j < 3 → r.2.1 177 (8 + 7 * i + j) = N.1 177 (B + 3 + 3 * i + j)) := by
  refine loopE (fun n i x => f_X7_undo_L75 (nI B) n (nI i) x) 7 (fun z (x : Mem) => x.2 = N.2 ∧ (∀ c b, ¬ (c = 177 ∧ 8 ≤ b ∧ b < 53 ∧ 4 ≤ (b - 4) % 7) → x.1 c b = N.1 c b) ∧ ∀ i, i < z → ∀ j, j < 3 → x.1 177 (8 + 7 * i + j) = N.1 177 (B + 3 + 3 * i + j)) _ ?_ ?_ 7 0 FU N (by omega) (FU_gt (by decide)) ⟨rfl, fun _ _ _ => rfl, fun t ht => absurd ht (by omega)⟩
  · intro n x hx
    refine ⟨(nI 7, x), ?_, hx⟩
    show f_X7_undo_L75 (nI B) (n + 1) (nI 7) x = _
    rw [f_X7_undo_L75]
    rw [l7, if_pos (nI_le (Nat.le_refl _) (by decide))]
  · intro n z x hi hx
    obtain ⟨h1, h2, h3⟩ := hx
    obtain ⟨⟨y, N'⟩, e, k1, k2, k3⟩ := undo_L83 hB hB2 hi x
    refine Or.inl ⟨N', ?_, by rw [k1]; exact h1, fun c b q => ?_, fun t ht j hj => ?_⟩
    · show f_X7_undo_L75 (nI B) (n + 1) (nI z) x = f_X7_undo_L75 (nI B) n (nI (z + 1)) _
      rw [f_X7_undo_L75]
      rw [l7, if_neg (nI_ge hi (by decide)), l0, e, ob2_e, lq_e, l1, nI_add]
    · rw [k2 _ _ (by omega)]
      exact h2 c b q
    · by_cases e : t = z
      · subst e; rw [k3 j hj, h2 _ _ (by omega)]
      · rw [k2 _ _ (by omega)]
        exact h3 t (by omega) j hj
theorem op8 : opP8 Rel := by
  intro M N hR
  obtain ⟨⟨n, hn, e1, e2, hS, hQ, hD, hT, hU⟩, hO⟩ := id hR
  obtain ⟨u, x, hu, hx, h8, h147, h7, hk⟩ := hU
  unfold f_X6_undo f_X7_undo
  rw [l147, rd_n (hb177 (by decide)) (by decide), ob_e, ob_e, h8, h147, l0]
  by_cases hu0 : u = 0
  · subst hu0
    rw [if_neg (nI_nlt (Nat.le_refl _) (by decide)), if_pos rfl, rNo, yNo, ob2_e, ob2_e]
    exact ⟨_, _, _, rfl, rfl, hR.no⟩
  · obtain ⟨e, rfl⟩ : ∃ e, u = e + 1 := ⟨u - 1, by omega⟩
    rw [if_pos (nI_lt (by omega) (by omega)), if_neg (fun q => hu0 ((nI_eq (by omega) (by decide)).mp q)), l1, show nI (e + 1) - nI 1 = nI e from nI_pred e, wr_n (hb177 (by decide)) (by decide), ob_e, rd_n (hb177 (by decide)) (by decide), ob_e, s1_eq, lq_e, l148, l24, pk_mul, nI_add]
    obtain ⟨⟨y2, N2⟩, k2, a1, a2, a3⟩ := undo_L46 (B := 148 + 24 * e) (by omega) (by omega) (s1 N 177 147 (nI e))
    obtain ⟨⟨y3, N3⟩, k3, b1, b2, b3⟩ := undo_L75 (B := 148 + 24 * e) (by omega) (by omega) N2
    have a2' : ∀ c b, ¬ (c = 177 ∧ 1 ≤ b ∧ b < 4) → N2.1 c b = (s1 N 177 147 (nI e)).1 c b := a2
    have b2' : ∀ c b, ¬ (c = 177 ∧ 8 ≤ b ∧ b < 53 ∧ 4 ≤ (b - 4) % 7) → N3.1 c b = N2.1 c b := b2
    have a3' : ∀ j, j < 3 → N2.1 177 (1 + j) = (s1 N 177 147 (nI e)).1 177 (148 + 24 * e + j) := a3
    have b3' : ∀ i, i < 7 → ∀ j, j < 3 → N3.1 177 (8 + 7 * i + j) = N2.1 177 (148 + 24 * e + 3 + 3 * i + j) := b3
    rw [k2, ob2_e, k3, ob2_e, l3, rd_n (hb177 (by decide)) (by decide), ob_e]
    obtain ⟨z, hz⟩ : ∃ z, z = (x + 7) % 8 := ⟨_, rfl⟩
    have hz8 : z < 8 := by omega
    obtain ⟨p1, p2⟩ := ln_past z hz8
    obtain ⟨M3, eM, eM2, mo, mb, ml⟩ := become_n (o := 1 + 5) (q := 1 + 8 + 1 + 3 * z) rfl rfl p1 p2 (by omega) (s1 (s1 M 1 7 (nI z)) 1 8 (nI e))
    have hgo : f_X2_goBack 1 M = some M3 := by
      unfold f_X2_goBack
      rw [lq_e, lq_e, h7, l8, nI_add, l1, show nI (x + 8) - nI 1 = nI (x + 7) from nI_pred (x + 7), pk_rem (by omega) (by decide) (by decide), ← hz]
      rw [show (s1 M 1 7 (nI z)).1 1 8 = nI (e + 1) from by rw [s1_ne (by omega)]; exact h8, show nI (e + 1) - nI 1 = nI e from nI_pred e]
      rw [show (s1 (s1 M 1 7 (nI z)) 1 8 (nI e)).1 1 7 = nI z from by rw [s1_ne (by omega), s1_eq], pastAt_n hz8, ob_e, eM, ob_e]
    rw [hgo, ob_e]
    have H := hk e (by omega)
    rw [show (x + 8 - (e + 1) + e) % 8 = z by omega] at H
    have HQ : Pos M3.1 (1 + 5) (N3.1 177) 1 8 7 n 9999 := by
      refine H.move (fun j hj => ?_) (fun i hi => ?_) (fun j hj => ?_) (fun i hi w hw => ?_)
      · rw [mb j hj, s1_ne (by omega), s1_ne (by omega)]
      · rw [(ml i (by omega)).1, (ml i (by omega)).2, s1_ne (by omega), s1_ne (by omega), s1_ne (by omega), s1_ne (by omega)]
        exact ⟨rfl, rfl⟩
      · rw [b2' _ _ (by omega), a3' j hj, s1_ne (by omega)]
      · rw [b3' i (by omega) w hw, a2' _ _ (by omega), s1_ne (by omega)]
        exact congrArg _ (by omega)
    rw [show M3.1 (1 + 5) 2 = N3.1 177 3 from HQ.1.2.2.1]
    have hno : ∀ c b, ¬ (c = 177 ∧ (1 ≤ b ∧ b < 4 ∨ b = 147 ∨ 8 ≤ b ∧ b < 53 ∧ 4 ≤ (b - 4) % 7)) → N3.1 c b = N.1 c b := by
      intro c b q
      rw [b2' _ _ (by omega), a2' _ _ (by omega), s1_ne (by omega)]
    have hmo : ∀ c b, ¬ (c = 6 ∧ b < 3) → c ≠ 7 → c ≠ 8 → ¬ (c = 1 ∧ (b = 7 ∨ b = 8)) → M3.1 c b = M.1 c b := by
      intro c b q1 q2 q3 q4
      rw [mo _ _ (by omega) (by omega) (by omega), s1_ne (by omega), s1_ne (by omega)]
    refine ⟨_, _, _, rfl, rfl, ⟨n, hn, ?_, ?_, hS.congr (fun a i _ _ _ => hmo _ _ (by omega) (by omega) (by omega) (by omega)) (fun i w _ _ => hno _ _ (by omega)), HQ, hD.congr (fun a i _ _ => hmo _ _ (by omega) (by omega) (by omega) (by omega)) (hmo _ _ (by omega) (by omega) (by omega) (by omega)) (fun k _ _ => hno _ _ (by omega)), hT.congr (fun a i _ _ => hmo _ _ (by omega) (by omega) (by omega) (by omega)) (fun k _ _ => hno _ _ (by omega)), ⟨e, z, by omega, hz8, ?_, ?_, ?_, fun k hk' => ?_⟩⟩, hO.congr (fun a b hab => by unfold oC at hab; exact hmo _ _ (by omega) (by omega) (by omega) (by omega)) (by rw [eM2]; rfl) (fun a b hab => by unfold oM at hab; exact hno _ _ (by omega)) (by show N3.2 176 = _; rw [b1, a1]; rfl)⟩
    · rw [hmo _ _ (by omega) (by omega) (by omega) (by omega)]; exact e1
    · rw [hno _ _ (by omega)]; exact e2
    · rw [mo _ _ (by omega) (by omega) (by omega), s1_eq]
    · rw [b2' _ _ (by omega), a2' _ _ (by omega), s1_eq]
    · rw [mo _ _ (by omega) (by omega) (by omega), s1_ne (by omega), s1_eq]
    · have H' := hk k (by omega)
      rw [show (z + 8 - e + k) % 8 = (x + 8 - (e + 1) + k) % 8 by omega]
      have hx8 : (x + 8 - (e + 1) + k) % 8 < 8 := by omega
      exact H'.congr (fun a i q1 q2 => hmo _ _ (by omega) (by omega) (by omega) (by omega)) (fun j hj => hno _ _ (by omega)) (fun i w hi hw => hno _ _ (by omega))
