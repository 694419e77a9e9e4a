/-! read -/
theorem items_L {ch : Nat → Nat} {t : Nat} {M0 N0 : Mem} (ht : t ≤ 150) (hch : ∀ j, j < t → ch j ≤ 127) : ∀ (k c f g e : Nat) (M N : Mem), t ≤ e + k → c ≤ e → k + 1 < f → k + 2 < g → Bs ch t M0 N0 M N → Sy1 ch t M N e → Pr e M N → ∃ r M' x N', f_X3_readInto_L23 165 42 f (nI c) M = some (Sum.inr (r, M')) ∧ f_X7_read_L105 g (nI c) N = some (x, N') ∧ Bs ch t M0 N0 M' N' ∧ ((∃ c', c' ≤ 150 ∧ r = nI c' ∧ x = nI c' ∧ N'.1 176 12 = -1 ∧ ∃ e2, Pr e2 M' N') ∨ (∃ s, s ≤ t ∧ r = -10 - nI s ∧ N'.1 176 12 = nI s)) := by
  intro k
  induction k with
  | zero =>
    intro c f g e M N hk hc hf hg hB hS hz
    obtain ⟨f', rfl⟩ : ∃ f', f = f' + 1 := ⟨f - 1, by omega⟩
    obtain ⟨g', rfl⟩ : ∃ g', g = g' + 1 := ⟨g - 1, by omega⟩
    obtain ⟨b1, b2, b3, b4, b5, b6, b7⟩ := tk_b hch hS.1
    have he := hS.1
    obtain ⟨M1, q1, q2, q3⟩ := to2 ht hch hB.2.2.2.2.2.2.2.1 hS
    have c4 : (tk ch t e).2.2.1 = 4 := by
      by_cases h : (tk ch t e).2.2.1 = 4
      · exact h
      · have := b4 h; omega
    refine ⟨nI c, M1, nI c, N, ?_, ?_, hB.near q3 (nearN.rfl' N), Or.inl ⟨c, by omega, rfl, rfl, hS.2.2.2, e, Pr.zs e M N M1 N hz q3 (nearN.rfl' N)⟩⟩
    · rw [f_X3_readInto_L23]
      rw [if_neg (show ¬ (150 : Int32) < nI c from nI_nlt (a := 150) (by omega) (by omega)), q1, ob_e, q2.2.1.2.2.1, if_pos ((srt_0 b5 b6).mpr c4)]
    · rw [f_X7_read_L105]
      rw [hS.2.2.2, if_neg (show ¬ (0 : Int32) ≤ -1 by decide), hS.2.2.1.2.2.1, if_pos (show nI (tk ch t e).2.2.1 = (4 : Int32) from by rw [c4]; rfl)]
  | succ k ih =>
    intro c f g e M N hk hc hf hg hB hS hz
    obtain ⟨f', rfl⟩ : ∃ f', f = f' + 1 := ⟨f - 1, by omega⟩
    obtain ⟨g', rfl⟩ : ∃ g', g = g' + 1 + 1 := ⟨g - 2, by omega⟩
    obtain ⟨b1, b2, b3, b4, b5, b6, b7⟩ := tk_b hch hS.1
    have he := hS.1
    obtain ⟨M1, q1, q2, q3⟩ := to2 ht hch hB.2.2.2.2.2.2.2.1 hS
    have hB1 : Bs ch t M0 N0 M1 N := hB.near q3 (nearN.rfl' N)
    have hz1 : Pr e M1 N := Pr.zs e M N M1 N hz q3 (nearN.rfl' N)
    by_cases c4 : (tk ch t e).2.2.1 = 4
    · refine ⟨nI c, M1, nI c, N, ?_, ?_, hB1, Or.inl ⟨c, by omega, rfl, rfl, hS.2.2.2, e, hz1⟩⟩
      · rw [f_X3_readInto_L23]
        rw [if_neg (show ¬ (150 : Int32) < nI c from nI_nlt (a := 150) (by omega) (by omega)), q1, ob_e, q2.2.1.2.2.1, if_pos ((srt_0 b5 b6).mpr c4)]
      · rw [f_X7_read_L105]
        rw [hS.2.2.2, if_neg (show ¬ (0 : Int32) ≤ -1 by decide), hS.2.2.1.2.2.1, if_pos (show nI (tk ch t e).2.2.1 = (4 : Int32) from by rw [c4]; rfl)]
    · obtain ⟨r, M2, N2, w1, w2, w3, w4⟩ := item_rel ht hch hB1 q2 c4 hz1
      have eM : f_X3_readInto_L23 165 42 (f' + 1) (nI c) M = if r = (0 : Int32) then some (Sum.inr ((((-10) : Int32) - (M2.1 165 2)), M2)) else f_X3_readInto_L23 165 42 f' (nI (c + 1)) M2 := by
        rw [f_X3_readInto_L23]
        rw [if_neg (show ¬ (150 : Int32) < nI c from nI_nlt (a := 150) (by omega) (by omega)), q1, ob_e, q2.2.1.2.2.1, if_neg (fun q => c4 ((srt_0 b5 b6).mp q)), w1, ob2_e, lq_e, nI_1]
      have eN : f_X7_read_L105 (g' + 1 + 1) (nI c) N = f_X7_read_L105 (g' + 1) (nI (c + 1)) N2 := by
        rw [f_X7_read_L105]
        rw [hS.2.2.2, if_neg (show ¬ (0 : Int32) ≤ -1 by decide), hS.2.2.1.2.2.1, if_neg (show ¬ nI (tk ch t e).2.2.1 = (4 : Int32) from fun q => c4 ((nI_eq (b := 4) (by omega) (by decide)).mp q)), w2, ob_e, lq_e, nI_1]
      rcases w4 with ⟨rfl, e2, h1, h2, h3⟩ | ⟨rfl, s, f1, f2, f3⟩
      · rw [if_neg (show ¬ (1 : Int32) = 0 by decide)] at eM
        obtain ⟨r, M', x, N', y1, y2, y3, y4⟩ := ih (c + 1) f' (g' + 1) e2 M2 N2 (by omega) (by omega) (by omega) (by omega) w3 h2 h3
        exact ⟨r, M', x, N', eM.trans y1, eN.trans y2, y3, y4⟩
      · rw [if_pos rfl] at eM
        have eX : f_X7_read_L105 (g' + 1) (nI (c + 1)) N2 = some (nI (c + 1), N2) := by
          rw [f_X7_read_L105]
          rw [f3, if_pos (fl_0 ht f1)]
        exact ⟨_, M2, _, N2, eM, eN.trans eX, w3, Or.inr ⟨s, f1, by rw [f2], f3⟩⟩
theorem read_L2 (N : Mem) : ∃ x N', f_X7_read_L2 FU (0 : Int32) N = some (x, N') ∧ N'.2 = N.2 ∧ (∀ c b, c ≠ 179 → N'.1 c b = N.1 c b) ∧ ∀ k, k < 340 → N'.1 179 k = N.1 177 k := by
  obtain ⟨⟨x, N'⟩, e, h1, h2, h3⟩ : ∃ r, f_X7_read_L2 FU (nI 0) N = some r ∧ (r.2.2 = N.2 ∧ (∀ c b, c ≠ 179 → r.2.1 c b = N.1 c b) ∧ ∀ k, k < 340 → r.2.1 179 k = N.1 177 k) := by
    refine loopE (fun n i x => f_X7_read_L2 n (nI i) x) 340 (fun i (x : Mem) => x.2 = N.2 ∧ (∀ c b, c ≠ 179 → x.1 c b = N.1 c b) ∧ ∀ k, k < i → x.1 179 k = N.1 177 k) _ ?_ ?_ 340 0 FU N (by omega) (FU_gt (by omega)) ⟨rfl, fun _ _ _ => rfl, fun t ht => absurd ht (by omega)⟩
    · intro n x hx
      refine ⟨(nI 340, x), ?_, hx⟩
      show f_X7_read_L2 (n + 1) (nI 340) x = _
      rw [f_X7_read_L2]
      rw [l340, if_pos (nI_le (Nat.le_refl _) (by omega))]
    · intro n i x hi hx
      obtain ⟨h1, h2, h3⟩ := hx
      refine Or.inl ⟨s1 x 179 i (x.1 177 i), ?_, h1, fun c k q => ?_, fun t ht => ?_⟩
      · show f_X7_read_L2 (n + 1) (nI i) x = f_X7_read_L2 n (nI (i + 1)) _
        rw [f_X7_read_L2]
        rw [l340, if_neg (nI_ge hi (by omega)), rd_n (hb177 (by omega)) (by omega), ob_e, wr_n (by rw [ln_179]; omega) (by omega), ob_e, lq_e, nI_1]
      · rw [s1_ne (by omega)]
        exact h2 c k q
      · by_cases e : t = i
        · subst e; rw [s1_eq, h2 _ _ (by omega)]
        · rw [s1_ne (by omega)]
          exact h3 t (by omega)
  exact ⟨x, N', e, h1, h2, h3⟩
theorem read_L150 (N : Mem) : ∃ x N', f_X7_read_L150 FU (0 : Int32) N = some (x, N') ∧ N'.2 = N.2 ∧ (∀ c b, c ≠ 177 → N'.1 c b = N.1 c b) ∧ ∀ k, k < 340 → N'.1 177 k = N.1 179 k := by
  obtain ⟨⟨x, N'⟩, e, h1, h2, h3⟩ : ∃ r, f_X7_read_L150 FU (nI 0) N = some r ∧ (r.2.2 = N.2 ∧ (∀ c b, c ≠ 177 → r.2.1 c b = N.1 c b) ∧ ∀ k, k < 340 → r.2.1 177 k = N.1 179 k) := by
    refine loopE (fun n i x => f_X7_read_L150 n (nI i) x) 340 (fun i (x : Mem) => x.2 = N.2 ∧ (∀ c b, c ≠ 177 → x.1 c b = N.1 c b) ∧ ∀ k, k < i → x.1 177 k = N.1 179 k) _ ?_ ?_ 340 0 FU N (by omega) (FU_gt (by omega)) ⟨rfl, fun _ _ _ => rfl, fun t ht => absurd ht (by omega)⟩
    · intro n x hx
      refine ⟨(nI 340, x), ?_, hx⟩
      show f_X7_read_L150 (n + 1) (nI 340) x = _
      rw [f_X7_read_L150]
      rw [l340, if_pos (nI_le (Nat.le_refl _) (by omega))]
    · intro n i x hi hx
      obtain ⟨h1, h2, h3⟩ := hx
      refine Or.inl ⟨s1 x 177 i (x.1 179 i), ?_, h1, fun c k q => ?_, fun t ht => ?_⟩
      · show f_X7_read_L150 (n + 1) (nI i) x = f_X7_read_L150 n (nI (i + 1)) _
        rw [f_X7_read_L150]
        rw [l340, if_neg (nI_ge hi (by omega)), rd_n (by rw [ln_179]; omega) (by omega), ob_e, wr_n (hb177 (by omega)) (by omega), ob_e, lq_e, nI_1]
      · rw [s1_ne (by omega)]
        exact h2 c k q
      · by_cases e : t = i
        · subst e; rw [s1_eq, h2 _ _ (by omega)]
        · rw [s1_ne (by omega)]
          exact h3 t (by omega)
  exact ⟨x, N', e, h1, h2, h3⟩
theorem neg_ans {s : Nat} (hs : s ≤ 150) : (-10 : Int32) - nI s < 0 := by
  have h : ∀ s, s < 151 → (-10 : Int32) - nI s < 0 := by decide +kernel
  exact h s (by omega)
/-- the end of a reading that failed -/
theorem read_bad {ch : Nat → Nat} {t s : Nat} {M N K Y : Mem} (hR : Rel M N) (ht : t ≤ 150) (hs : s ≤ t) (hB : Bs ch t M N K Y) (h12 : Y.1 176 12 = nI s) : ∃ x Y', f_X7_read_L150 FU (0 : Int32) Y = some (x, Y') ∧ Y'.1 176 12 = nI s ∧ Rel K Y' := by
  obtain ⟨x, Y', e, h1, h2, h3⟩ := read_L150 Y
  obtain ⟨a1, a2, a3, a4, a5, a6, a7, a8, a9⟩ := hB
  refine ⟨x, Y', e, by rw [h2 _ _ (by omega)]; exact h12, hR.1.congr (fun a i _ _ => a3 _ _ (by omega) (by omega)) (fun k hk => by rw [h3 k hk]; exact a7 k hk), hR.2.congr (fun a b hab => ?_) (by rw [a1]) (fun a b hab => ?_) (by rw [h1, a2])⟩
  · unfold oC at hab
    by_cases c1 : a = 77 ∨ a = 79 ∨ a = 81
    · exact a4 a b c1 (by omega)
    · by_cases c2 : a = 42
      · subst c2
        have : b = 7 := by omega
        subst this
        exact a5
      · exact a3 a b (by omega) (by omega)
  · unfold oM at hab
    rw [h2 _ _ (by omega)]
    exact a6 a b (by omega) (by omega) (by omega)
/-- the end of a reading that went well -/
theorem read_good {ch : Nat → Nat} {t e : Nat} {M N K Y : Mem} (hR : Rel M N) (hB : Bs ch t M N K Y) (hz : Pr e K Y) : ∃ K' Y', f_X2_become 1 42 K = some K' ∧ wr Y 177 (147 : Int32) (0 : Int32) = some Y' ∧ Rel K' Y' := by
  obtain ⟨K', k1, k2, k3, k4, k5⟩ := becomeP (o := 1) (q := 42) (Or.inl rfl) (Or.inr (Or.inl rfl)) (by decide) K
  obtain ⟨a1, a2, a3, a4, a5, a6, a7, a8, a9⟩ := hB
  have ew : wr Y 177 (147 : Int32) (0 : Int32) = some (s1 Y 177 147 (nI 0)) := wr_n (k := 147) (hb177 (by decide)) (by decide)
  have hy : ∀ c b, (s1 Y 177 147 (nI 0)).1 c b = Y.1 c b := fun c b => by
    by_cases h : c = 177 ∧ b = 147
    · rw [h.1, h.2, s1_eq, hz.2.2]
    · exact s1_ne h
  refine ⟨K', _, k1, ew, PRel.move hz.1 k5 (fun k _ => hy 177 k), hR.2.congr (fun a b hab => ?_) (by rw [k2, a1]) (fun a b hab => ?_) (by rw [s1_2, a2])⟩
  · unfold oC at hab
    by_cases c1 : a = 77 ∨ a = 79 ∨ a = 81
    · rw [k3 a b (by omega)]
      exact a4 a b c1 (by omega)
    · by_cases c2 : a = 42
      · subst c2
        have : b = 7 := by omega
        subst this
        rw [k3 _ _ (by omega)]
        exact a5
      · by_cases c3 : a = 36 ∨ a = 38 ∨ a = 40
        · rw [k4 a b (by omega) (by omega)]
          exact a3 a b (by omega) (by omega)
        · rw [k3 a b (by omega)]
          exact a3 a b (by omega) (by omega)
  · unfold oM at hab
    rw [hy]
    exact a6 a b (by omega) (by omega) (by omega)
theorem read_F {t s : Nat} {Y : Mem} (ht : t ≤ 150) (hs : s ≤ t) (h12 : Y.1 176 12 = nI s) (x : Int32) : f_X7_read_L105 FU x Y = some (x, Y) := by
  show f_X7_read_L105 (3999 + 1) x Y = some (x, Y)
  rw [f_X7_read_L105]
  rw [h12, if_pos (fl_0 ht hs)]
theorem tI40 : (40 : Int32).toInt = 40 := by decide
theorem op4 : opP4 Rel := by
  intro M N hR
  obtain ⟨t, ht, tM, tN, htx⟩ := hR.2.2.2.2.1
  obtain ⟨ch, hch, hcm, hcn⟩ : ∃ ch : Nat → Nat, (∀ j, j < t → ch j ≤ 127) ∧ (∀ j, j < t → M.1 166 j = nI (ch j)) ∧ ∀ j, j < t → N.1 178 j = nI (ch j) := by
    have hx : ∀ j, j < t → N.1 178 j = nI (N.1 178 j).toInt.toNat ∧ (N.1 178 j).toInt.toNat ≤ 127 := fun j hj => by
      obtain ⟨a, b, c⟩ := htx j hj
      refine ⟨?_, by omega⟩
      rw [← Int32.toInt_inj, nI_I (by omega)]
      omega
    exact ⟨fun j => (N.1 178 j).toInt.toNat, fun j hj => (hx j hj).2, fun j hj => by rw [(htx j hj).1]; exact (hx j hj).1, fun j hj => (hx j hj).1⟩
  obtain ⟨x0, N4, c1, c2, c3, c4⟩ := read_L2 N
  have hT9 : TxN ch t (s1 (s1 N4 176 8 0) 176 12 (-1)) := ⟨by rw [s1_ne (by omega), s1_ne (by omega), c3 _ _ (by omega)]; exact tN, fun j hj => by rw [s1_ne (by omega), s1_ne (by omega), c3 _ _ (by omega)]; exact hcn j hj⟩
  obtain ⟨N12, d1, d2, d3, d4⟩ := lks ht hch hT9 (e := 0) (by rw [s1_ne (by omega), s1_eq]; rfl) (by omega)
  have hB1 : Bs ch t M N (s1 M 165 3 0) N12 := by
    refine ⟨rfl, by rw [d3]; exact c2, fun c b q1 q2 => s1_ne (by omega), fun c b q1 q2 => s1_ne (by omega), s1_ne (by omega), fun c b q1 q2 q3 => ?_, fun k hk => ?_, ⟨by rw [s1_ne (by omega)]; exact tM, fun j hj => by rw [s1_ne (by omega)]; exact hcm j hj⟩, hT9.of (d4 _ _ (by omega)) (fun j => d4 _ _ (by omega))⟩
    · rw [d4 c b (by omega), s1_ne (by omega), s1_ne (by omega)]; exact c3 c b q3
    · rw [d4 _ _ (by omega), s1_ne (by omega), s1_ne (by omega)]; exact c4 k hk
  have hS1 : Sy1 ch t (s1 M 165 3 0) N12 0 := ⟨by omega, s1_eq, d2, by rw [d4 _ _ (by omega), s1_eq]⟩
  obtain ⟨b1, b2, b3, b4, b5, b6, b7⟩ := tk_b (e := 0) hch (by omega)
  obtain ⟨M2, q1, q2, q3⟩ := to2 ht hch hB1.2.2.2.2.2.2.2.1 hS1
  have hB2 : Bs ch t M N M2 N12 := hB1.near q3 (nearN.rfl' N12)
  have x15 : (if (N12.1 176 10) = (1 : Int32) then (if (N12.1 176 11) = (1 : Int32) then (1 : Int32) else (0 : Int32)) else (0 : Int32)) = if (tk ch t 0).2.2.1 = 1 ∧ (tk ch t 0).2.2.2 = 0 + 1 then 1 else 0 := by
    rw [hS1.2.2.1.2.2.1]
    by_cases c : (tk ch t 0).2.2.1 = 1
    · rw [if_pos (show nI (tk ch t 0).2.2.1 = (1 : Int32) from by rw [c]; rfl), hS1.2.2.1.2.2.2 (Or.inl c)]
      by_cases c2 : (tk ch t 0).2.2.2 = 0 + 1
      · rw [if_pos (show nI (tk ch t 0).2.2.2 = (1 : Int32) from by rw [c2]; rfl), if_pos ⟨c, c2⟩]
      · rw [if_neg (show ¬ nI (tk ch t 0).2.2.2 = (1 : Int32) from fun q => c2 ((nI_eq (b := 1) (by omega) (by decide)).mp q)), if_neg (fun q => c2 q.2)]
    · rw [if_neg (show ¬ nI (tk ch t 0).2.2.1 = (1 : Int32) from fun q => c ((nI_eq (b := 1) (by omega) (by decide)).mp q)), if_neg (fun q => c q.1)]
  -- what the reading comes to
  have bad : ∀ (K Y : Mem) (s : Nat), s ≤ t → Bs ch t M N K Y → Y.1 176 12 = nI s → f_X3_readInto 165 42 M = some (-10 - nI s, K) → (∀ (F : Mem → Option (Int32 × Mem)), True) → ∃ x Y', f_X7_read_L150 FU (0 : Int32) Y = some (x, Y') ∧ Y'.1 176 12 = nI s ∧ Rel K Y' ∧ f_X6_read M = some (-10 - nI s, K) := by
    intro K Y s hs hB h12 hr _
    obtain ⟨x, Y', e, h1, h2⟩ := read_bad hR ht hs hB h12
    refine ⟨x, Y', e, h1, h2, ?_⟩
    unfold f_X6_read
    rw [hr, ob2_e, if_pos (neg_ans (by omega)), ob_e]
  unfold f_X7_read
  rw [c1, ob2_e, lq_e, lq_e, d1, ob_e, x15, lq_e]
  have w0 := q2.2.1.2.2.2.2 0 (by omega)
  by_cases cw : (tk ch t 0).2.2.1 = 1 ∧ (tk ch t 0).2.2.2 = 0 + 1
  rotate_left
  · rw [if_neg cw] at w0 ⊢
    obtain ⟨N13, r1, ⟨s, f1, f2, f3⟩, r3⟩ := next0 ht hch q2
    obtain ⟨x, Y', y1, y2, y3, y4⟩ := bad M2 N13 s f1 (hB2.near (nearM.rfl' M2) r3) f3 (by
      unfold f_X3_readInto f_X3_takeOpening
      rw [lq_e, q1, ob_e, w0, ob_e, if_pos rfl, ob2_e, if_pos rfl, f2]) (fun _ => trivial)
    rw [r1, ob_e, numF (by omega) f3, ob2_e, lq_e, mustF (by omega) f3, ob_e, f3, if_pos (fl_0 ht f1), ob_e, read_F ht f1 f3, ob2_e, f3, if_pos (fl_0 ht f1), y1, ob2_e, y2, y4]
    exact ⟨_, _, _, rfl, rfl, y3⟩
  rw [if_pos cw] at w0 ⊢
  have b4 := b4 (by have := cw.1; omega)
  obtain ⟨N13, r1, r2, r3⟩ := next1 (a := 1) (by decide) ht hch hB2.2.2.2.2.2.2.2.2 q2
  rw [r1, ob_e]
  have hB3 : Bs ch t M N M2 N13 := hB2.near (nearM.rfl' M2) r3
  generalize (tk ch t 0).2.1 = u1 at b2 b3 b4 r2
  obtain ⟨M3, N14, xv, p1, B3, _, _, _, h3⟩ := num_rel (Z := fun _ _ => True) (fun _ _ _ _ _ _ _ => trivial) ht hch hB3 r2 trivial 0 40
  rw [p1, ob2_e]
  rcases h3 with ⟨u2, lt2, t2, S3, v3, g3, _⟩ | ⟨t2, s, f1, f2, f3⟩
  rotate_left
  · obtain ⟨x, Y', y1, y2, y3, y4⟩ := bad M3 N14 s f1 B3 f3 (by
      unfold f_X3_readInto f_X3_takeOpening
      rw [lq_e, q1, ob_e, w0, ob_e, if_neg (show ¬ (1 : Int32) = 0 by decide), t2, ob2_e, if_pos rfl, ob2_e, if_pos rfl, f2]) (fun _ => trivial)
    rw [lq_e, mustF (by omega) f3, ob_e, f3, if_pos (fl_0 ht f1), ob_e, read_F ht f1 f3, ob2_e, f3, if_pos (fl_0 ht f1), y1, ob2_e, y2, y4]
    exact ⟨_, _, _, rfl, rfl, y3⟩
  rw [tI0, tI40] at g3
  obtain ⟨x7, hx7, e42⟩ := hR.2.2.1
  have h7 : ∃ x, x < 8 ∧ M3.1 42 7 = nI x := ⟨x7, hx7, by rw [B3.2.2.2.2.1]; exact e42⟩
  obtain ⟨M4, m1, m2, mf, _⟩ := beginX (p := 42) (a := xv) (Or.inr (Or.inl rfl)) M3
  have pM : pupM M3 M4 := ⟨m2, fun c b h => mf c b (by omega) (by omega) (by omega) (by omega) (by omega), fun c b h1 h2 => mf c b (by omega) (by omega) (by omega) (by omega) (by omega), mf _ _ (by omega) (by omega) (by omega) (by omega) (by omega)⟩
  have pR : pupN N14 N14 := ⟨rfl, fun _ _ _ => rfl⟩
  obtain ⟨M5, N15, k1, B5, Z5, h5⟩ := semi_rel (Z := fun M N => ∀ c b, 42 ≤ c → c ≤ 82 → M.1 c b = M4.1 c b) (fun A B A' B' hz hM hN c b h1 h2 => by rw [hM.2 c b (by omega)]; exact hz c b h1 h2) ht hch (B3.pup pM pR) (S3.pup pM pR) (fun _ _ _ _ => rfl)
  rw [lq_e, k1, ob_e]
  rcases h5 with ⟨u3, lt3, t5, S5⟩ | ⟨t5, s, f1, f2, f3⟩
  rotate_left
  · obtain ⟨x, Y', y1, y2, y3, y4⟩ := bad M5 N15 s f1 B5 f3 (by
      unfold f_X3_readInto f_X3_takeOpening
      rw [lq_e, q1, ob_e, w0, ob_e, if_neg (show ¬ (1 : Int32) = 0 by decide), t2, ob2_e, if_neg (show ¬ (1 : Int32) = 0 by decide), v3, m1, ob_e, t5, ob2_e, if_pos (Or.inl rfl), ob2_e, if_pos rfl, f2]) (fun _ => trivial)
    rw [f3, if_pos (fl_0 ht f1), ob_e, read_F ht f1 f3, ob2_e, f3, if_pos (fl_0 ht f1), y1, ob2_e, y2, y4]
    exact ⟨_, _, _, rfl, rfl, y3⟩
  rw [S5.2.2.2, if_neg (show ¬ (0 : Int32) ≤ -1 by decide)]
  obtain ⟨M4', N16, z1, z2, z3, _, _, z6, z7⟩ := begin_rel (p := 42) (a := xv) (M := M3) (N := N15) (Or.inr (Or.inl rfl)) g3 h7
  have hM4 : M4' = M4 := Option.some.inj (z1.symm.trans m1)
  subst hM4
  obtain ⟨N16', a1, _, _, _, _, a6⟩ := beginsX xv N15
  have hN16 : N16' = N16 := Option.some.inj (a1.symm.trans z2)
  subst hN16
  have pN : pupN N15 N16' := ⟨z6, z7⟩
  have pM5 : pupM M5 M5 := ⟨rfl, fun _ _ _ => rfl, fun _ _ _ _ => rfl, rfl⟩
  have hz : Pr u3 M5 N16' := by
    refine ⟨z3.congr (fun a i h1 h2 => Z5 a i (by omega) (by omega)) (fun _ _ => rfl), ?_, a6 147 (by omega) (by omega) (by omega)⟩
    rw [a6 3 (by omega) (by omega) (by omega), nI_I (by omega)]
    omega
  obtain ⟨r, M6, x, N17, y1, y2, B6, y4⟩ := items_L ht hch 150 1 FU FU u3 M5 N16' (by omega) (by omega) (FU_gt (by omega)) (FU_gt (by omega)) (B5.pup pM5 pN) (S5.pup pM5 pN) hz
  have er : f_X3_readInto 165 42 M = some (r, M6) := by
    unfold f_X3_readInto f_X3_takeOpening
    rw [lq_e, q1, ob_e, w0, ob_e, if_neg (show ¬ (1 : Int32) = 0 by decide), t2, ob2_e, if_neg (show ¬ (1 : Int32) = 0 by decide), v3, m1, ob_e, t5, ob2_e, if_pos (Or.inr rfl), ob2_e, if_neg (show ¬ (1 : Int32) = 0 by decide), show f_X3_readInto_L23 165 42 FU (1 : Int32) M5 = some (Sum.inr (r, M6)) from y1, oeT2_r]
  rw [z2, ob_e, ob_e, show f_X7_read_L105 FU (1 : Int32) N16' = some (x, N17) from y2, ob2_e]
  rcases y4 with ⟨c', hc', rfl, rfl, h12, e2, hz2⟩ | ⟨s, f1, rfl, f3⟩
  · obtain ⟨K', Y', v1, v2, v3⟩ := read_good hR B6 hz2
    rw [h12, if_neg (show ¬ (0 : Int32) ≤ -1 by decide), v2, ob_e]
    unfold f_X6_read
    rw [er, ob2_e, if_neg (show ¬ nI c' < (0 : Int32) from nI_nlt (b := 0) (by omega) (by omega)), v1, ob_e, ob_e]
    exact ⟨_, _, _, rfl, rfl, v3⟩
  · obtain ⟨x', Y', w1, w2, w3, w4⟩ := bad M6 N17 s f1 B6 f3 er (fun _ => trivial)
    rw [f3, if_pos (fl_0 ht f1), w1, ob2_e, w2, w4]
    exact ⟨_, _, _, rfl, rfl, w3⟩
