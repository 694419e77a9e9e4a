theorem Pos.str {f : Fm} {q b h s n : Nat} {r : Rw} {X X' : Int} (H : Pos f q r b h s n X) (hx : (r (b + 2)).toInt ≤ X') : Pos f q r b h s n X' := ⟨⟨H.1.1, H.1.2.1, H.1.2.2.1, H.1.2.2.2.1, H.1.2.2.2.2.1, H.1.2.2.2.2.2.1, hx⟩, H.2⟩
abbrev nb (ch : Nat → Nat) (t e : Nat) : Prop := (tk ch t e).2.2.1 = 2 ∧ oI (nI (tk ch t e).2.2.2) (0 : Int32).toInt (4 : Int32).toInt
theorem move_one {ch : Nat → Nat} {t e : Nat} {M0 N0 M N : Mem} (ht : t ≤ 150) (hch : ∀ j, j < t → ch j ≤ 127) (hB : Bs ch t M0 N0 M N) (hS : Sy2 ch t M N e) (hz : Pr e M N) (hn : nb ch t e) : ∃ M2 N1 N2, f_X7_must 1 N = some N1 ∧ N1.1 176 12 = -1 ∧ f_X2_step 42 (42 + 5) (M.1 165 5) M = some M2 ∧ f_X7_goes (N.1 176 11) N1 = some N2 ∧ Bs ch t M0 N0 M2 N2 ∧ Sy1 ch t M2 N2 (tk ch t e).2.1 ∧ Pr (tk ch t e).2.1 M2 N2 := by
  obtain ⟨b1, b2, b3, b4, b5, b6, b7⟩ := tk_b hch hS.1
  have b4 := b4 (by have := hn.1; omega)
  obtain ⟨N1, r1, r2, r3⟩ := next1 (a := 1) (by decide) ht hch hB.2.2.2.2.2.2.2.2 hS
  have hB1 : Bs ch t M0 N0 M N1 := hB.near (nearM.rfl' M) r3
  have hz1 : Pr e M N1 := Pr.zs e M N M N1 hz (nearM.rfl' M) r3
  have hv : (tk ch t e).2.2.2 < 5 := by
    have h := hn.2
    rw [tI0, tI4, oI_nI (by omega)] at h
    omega
  obtain ⟨n, hn7, e1, e2, hSt, hQ, hD, hTt, hU⟩ := hz1.1
  have hX : (N1.1 177 (1 + 2)).toInt ≤ (e : Int) := hz1.2.1
  obtain ⟨M2, N2, k1, k2, k3, k4, k5, k6, k7, _⟩ := stepD_rel (q := 47) (k := (tk ch t e).2.2.2) (X := (e : Int)) rfl hv (by have := hS.1; omega) hn7 e1 e2 hSt (hQ.str hX)
  have k1 : f_X2_step 42 (42 + 5) (nI (tk ch t e).2.2.2) M = some M2 := k1
  have pM : pupM M M2 := ⟨k3, fun c b h => k5 c b (by omega) (by omega), fun c b h1 h2 => k5 c b (by omega) (by omega), k5 _ _ (by omega) (by omega)⟩
  have pN : pupN N1 N2 := ⟨k4, fun c b h => k6 c b (by omega)⟩
  refine ⟨M2, N1, N2, r1, r2.2.2.2, ?_, ?_, hB1.pup pM pN, r2.pup pM pN, ?_, ?_, ?_⟩
  · rw [hS.2.1.2.2.2.1 hn.1]; exact k1
  · rw [hS.2.2.1.2.2.2 (Or.inr hn.1)]; exact k2
  · refine ⟨n, hn7, by rw [k5 _ _ (by omega) (by omega)]; exact e1, by rw [k6 _ _ (by omega)]; exact e2, hSt.congr (fun a j _ _ _ => k5 _ _ (by omega) (by omega)) (fun j w _ _ => k6 _ _ (by omega)), ?_, hD.congr (fun a j _ _ => k5 _ _ (by omega) (by omega)) (k5 _ _ (by omega) (by omega)) (fun k _ _ => k6 _ _ (by omega)), hTt.congr (fun a j _ _ => k5 _ _ (by omega) (by omega)) (fun k _ _ => k6 _ _ (by omega)), hU.congr hn7 (fun a j _ _ => k5 _ _ (by omega) (by omega)) (k5 _ _ (by omega) (by omega)) (k5 _ _ (by omega) (by omega)) (fun k _ _ => k6 _ _ (by omega))⟩
    exact k7.str (by have := k7.1.2.2.2.2.2.2; have := hS.1; omega)
  · have h1 : (N2.1 177 3).toInt ≤ (e : Int) + 1 := k7.1.2.2.2.2.2.2
    omega
  · rw [k6 _ _ (by omega)]; exact hz1.2.2
theorem mv_c {ch : Nat → Nat} {t e i : Nat} {N : Mem} (hi : i ≤ 9) (h : RT N (tk ch t e)) (hb : (tk ch t e).2.2.1 ≤ 5) : (if (N.1 176 10) = (2 : Int32) then (if (f_X7_in (N.1 176 11).toInt64 (0 : Int64) (4 : Int64)) = (0 : Int32) then (0 : Int32) else (if (9 : Int32) ≤ nI i then (0 : Int32) else (1 : Int32))) else (0 : Int32)) = if nb ch t e ∧ i < 9 then 1 else 0 := by
  obtain ⟨r1, r2, r3, r4⟩ := h
  rw [r3]
  by_cases c : (tk ch t e).2.2.1 = 2
  · rw [if_pos (show nI (tk ch t e).2.2.1 = (2 : Int32) from by rw [c]; rfl), r4 (Or.inr c)]
    by_cases c2 : oI (nI (tk ch t e).2.2.2) (0 : Int32).toInt (4 : Int32).toInt
    · rw [if_neg (fun q => (in_0 (wide _) (show (0 : Int64).toInt = (0 : Int32).toInt by decide) (show (4 : Int64).toInt = (4 : Int32).toInt by decide)).mp q c2), l9]
      by_cases c3 : i < 9
      · rw [if_neg (nI_ge c3 (by omega)), if_pos ⟨⟨c, c2⟩, c3⟩]
      · rw [if_pos (nI_le (by omega) (by omega)), if_neg (fun q => c3 q.2)]
    · rw [if_pos ((in_0 (wide _) (show (0 : Int64).toInt = (0 : Int32).toInt by decide) (show (4 : Int64).toInt = (4 : Int32).toInt by decide)).mpr c2), if_neg (fun q => c2 q.1.2)]
  · rw [if_neg (show ¬ nI (tk ch t e).2.2.1 = (2 : Int32) from fun q => c ((nI_eq (b := 2) (by omega) (by decide)).mp q)), if_neg (fun q => c q.1.1)]
theorem moves_L {ch : Nat → Nat} {t : Nat} {M0 N0 : Mem} (ht : t ≤ 150) (hch : ∀ j, j < t → ch j ≤ 127) : ∀ (k i f g e : Nat) (M N : Mem), i + k = 9 → k + 1 < f → k + 2 < g → Bs ch t M0 N0 M N → Sy1 ch t M N e → Pr e M N → ∃ r x M' N', f_X3_takeMoves_L2 165 42 f (nI i) M = some (Sum.inr (r, M')) ∧ f_X7_readsMoves_L7 g (nI i) N = some (x, N') ∧ Bs ch t M0 N0 M' N' ∧ ((r = 1 ∧ ∃ e2, e ≤ e2 ∧ Sy2 ch t M' N' e2 ∧ (tk ch t e2).2.2.1 = 3 ∧ Pr e2 M' N') ∨ (r = 0 ∧ FT t M' N')) := by
  intro k
  induction k with
  | zero =>
    intro i f g e M N hi hf hg hB hS hz
    obtain ⟨f', rfl⟩ : ∃ f', f = f' + 1 := ⟨f - 1, by omega⟩
    obtain ⟨g', rfl⟩ : ∃ g', g = g' + 1 + 1 := ⟨g - 2, by omega⟩
    have : i = 9 := by omega
    subst this
    obtain ⟨b1, b2, b3, b4, b5, b6, b7⟩ := tk_b hch hS.1
    obtain ⟨M1, q1, q2, q3⟩ := to2 ht hch hB.2.2.2.2.2.2.2.1 hS
    have hB1 : Bs ch t M0 N0 M1 N := hB.near q3 (nearN.rfl' N)
    have hz1 : Pr e M1 N := Pr.zs e M N M1 N hz q3 (nearN.rfl' N)
    by_cases c : (tk ch t e).2.2.1 = 3
    · refine ⟨1, nI 9, M1, N, ?_, ?_, hB1, Or.inl ⟨rfl, e, Nat.le_refl _, q2, c, hz1⟩⟩
      · rw [f_X3_takeMoves_L2]
        rw [if_neg (show ¬ (9 : Int32) < nI 9 by decide), q1, ob_e, if_neg (show ¬ nI 9 ≤ (0 : Int32) by decide), q2.2.1.2.2.1, if_pos (show nI (srt (tk ch t e).2.2.1) = (3 : Int32) from (srt_eq (j := 3) b5 b6 (by omega)).mpr c)]
      · rw [f_X7_readsMoves_L7]
        rw [hS.2.2.2, if_neg (show ¬ (0 : Int32) ≤ -1 by decide), if_neg (show ¬ nI 9 = (0 : Int32) by decide), hS.2.2.1.2.2.1, if_pos (show nI (tk ch t e).2.2.1 = (3 : Int32) from by rw [c]; rfl)]
    · obtain ⟨N1, r1, ⟨s, f1, f2, f3⟩, r3⟩ := next0 ht hch q2
      refine ⟨0, nI 10, M1, N1, ?_, ?_, hB1.near (nearM.rfl' M1) r3, Or.inr ⟨rfl, s, f1, f2, f3⟩⟩
      · rw [f_X3_takeMoves_L2]
        rw [if_neg (show ¬ (9 : Int32) < nI 9 by decide), q1, ob_e, if_neg (show ¬ nI 9 ≤ (0 : Int32) by decide), q2.2.1.2.2.1, if_neg (show ¬ nI (srt (tk ch t e).2.2.1) = (3 : Int32) from fun q => c ((srt_eq (j := 3) b5 b6 (by omega)).mp q)), if_pos (show nI 9 = (9 : Int32) from rfl)]
      · rw [f_X7_readsMoves_L7]
        rw [hS.2.2.2, if_neg (show ¬ (0 : Int32) ≤ -1 by decide), if_neg (show ¬ nI 9 = (0 : Int32) by decide), if_neg (show ¬ N.1 176 10 = (3 : Int32) from fun q => c (by rw [hS.2.2.1.2.2.1] at q; exact (nI_eq (b := 3) (by omega) (by decide)).mp q)), lq_e, mv_c (by omega) hS.2.2.1 b6, if_neg (fun q => absurd q.2 (by omega)), lq_e, r1, ob_e, f3, if_pos (fl_0 ht f1), ob_e, lq_e, nI_1, f_X7_readsMoves_L7]
        rw [f3, if_pos (fl_0 ht f1)]
  | succ k ih =>
    intro i f g e M N hi hf hg hB hS hz
    obtain ⟨f', rfl⟩ : ∃ f', f = f' + 1 := ⟨f - 1, by omega⟩
    obtain ⟨g', rfl⟩ : ∃ g', g = g' + 1 + 1 := ⟨g - 2, by omega⟩
    obtain ⟨b1, b2, b3, b4, b5, b6, b7⟩ := tk_b hch hS.1
    obtain ⟨M1, q1, q2, q3⟩ := to2 ht hch hB.2.2.2.2.2.2.2.1 hS
    have hB1 : Bs ch t M0 N0 M1 N := hB.near q3 (nearN.rfl' N)
    have hz1 : Pr e M1 N := Pr.zs e M N M1 N hz q3 (nearN.rfl' N)
    have h9 : ¬ nI i = (9 : Int32) := fun q => by have := (nI_eq (a := i) (b := 9) (by omega) (by decide)).mp q; omega
    have h90 : ¬ (9 : Int32) < nI i := nI_nlt (a := 9) (by omega) (by omega)
    have main : ∀ (hcase : i = 0 ∨ ¬ (tk ch t e).2.2.1 = 3), ∃ r x M' N', f_X3_takeMoves_L2 165 42 (f' + 1) (nI i) M = some (Sum.inr (r, M')) ∧ f_X7_readsMoves_L7 (g' + 1 + 1) (nI i) N = some (x, N') ∧ Bs ch t M0 N0 M' N' ∧ ((r = 1 ∧ ∃ e2, e ≤ e2 ∧ Sy2 ch t M' N' e2 ∧ (tk ch t e2).2.2.1 = 3 ∧ Pr e2 M' N') ∨ (r = 0 ∧ FT t M' N')) := by
      intro hcase
      have eM : f_X3_takeMoves_L2 165 42 (f' + 1) (nI i) M = if nb ch t e then (ob (f_X2_step 42 (42 + 5) (M1.1 165 5) M1) (fun M9 => f_X3_takeMoves_L2 165 42 f' (nI (i + 1)) M9)) else some (Sum.inr ((0 : Int32), M1)) := by
        rw [f_X3_takeMoves_L2]
        rw [if_neg h90, q1, ob_e, isNum_n hch q2, nI_1]
        by_cases c0 : i = 0
        · subst c0
          rw [if_pos (show nI 0 ≤ (0 : Int32) by decide), if_neg (show ¬ nI 0 = (9 : Int32) by decide)]
          by_cases c : nb ch t e
          · rw [if_pos c, if_neg (show ¬ (1 : Int32) = 0 by decide), if_pos c]; rfl
          · rw [if_neg c, if_pos rfl, if_neg c]
        · have c3 : ¬ (tk ch t e).2.2.1 = 3 := by
            rcases hcase with h | h
            · exact absurd h c0
            · exact h
          rw [if_neg (show ¬ nI i ≤ (0 : Int32) from nI_ge (a := 0) (by omega) (by omega)), q2.2.1.2.2.1, if_neg (show ¬ nI (srt (tk ch t e).2.2.1) = (3 : Int32) from fun q => c3 ((srt_eq (j := 3) b5 b6 (by omega)).mp q)), if_neg h9]
          by_cases c : nb ch t e
          · rw [if_pos c, if_neg (show ¬ (1 : Int32) = 0 by decide), if_pos c]; rfl
          · rw [if_neg c, if_pos rfl, if_neg c]
      have eN : f_X7_readsMoves_L7 (g' + 1 + 1) (nI i) N = ob (f_X7_must (if nb ch t e ∧ i < 9 then 1 else 0) N) (fun M14 => ob (if (0 : Int32) ≤ (M14.1 176 12) then (some M14) else (ob (f_X7_goes (N.1 176 11) M14) (fun M16 => some M16))) (fun M18 => f_X7_readsMoves_L7 (g' + 1) (nI (i + 1)) M18)) := by
        rw [f_X7_readsMoves_L7]
        rw [hS.2.2.2, if_neg (show ¬ (0 : Int32) ≤ -1 by decide)]
        by_cases c0 : i = 0
        · subst c0
          rw [if_pos (show nI 0 = (0 : Int32) from rfl), lq_e, mv_c (by omega) hS.2.2.1 b6, lq_e, nI_1]
          rfl
        · have c3 : ¬ (tk ch t e).2.2.1 = 3 := by
            rcases hcase with h | h
            · exact absurd h c0
            · exact h
          rw [if_neg (show ¬ nI i = (0 : Int32) from fun q => c0 ((nI_eq (a := i) (b := 0) (by omega) (by decide)).mp q)), if_neg (show ¬ N.1 176 10 = (3 : Int32) from fun q => c3 (by rw [hS.2.2.1.2.2.1] at q; exact (nI_eq (b := 3) (by omega) (by decide)).mp q)), lq_e, mv_c (by omega) hS.2.2.1 b6, lq_e, nI_1]
          rfl
      by_cases c : nb ch t e
      · obtain ⟨M2, N1, N2, k1, k2, k3, k4, k5, k6, k7⟩ := move_one ht hch hB1 q2 hz1 c
        rw [if_pos c, k3, ob_e] at eM
        rw [if_pos ⟨c, by omega⟩, k1, ob_e, k2, if_neg (show ¬ (0 : Int32) ≤ -1 by decide), k4, ob_e, ob_e] at eN
        obtain ⟨r, x, M', N', w1, w2, w3, w4⟩ := ih (i + 1) f' (g' + 1) (tk ch t e).2.1 M2 N2 (by omega) (by omega) (by omega) k5 k6 k7
        refine ⟨r, x, M', N', eM.trans w1, eN.trans w2, w3, ?_⟩
        rcases w4 with ⟨h1, e2, h2, h3⟩ | h
        · exact Or.inl ⟨h1, e2, by omega, h3⟩
        · exact Or.inr h
      · obtain ⟨N1, r1, ⟨s, f1, f2, f3⟩, r3⟩ := next0 ht hch q2
        rw [if_neg c] at eM
        rw [if_neg (fun q => c q.1), r1, ob_e, f3, if_pos (fl_0 ht f1), ob_e] at eN
        have eX : f_X7_readsMoves_L7 (g' + 1) (nI (i + 1)) N1 = some (nI (i + 1), N1) := by
          rw [f_X7_readsMoves_L7]
          rw [f3, if_pos (fl_0 ht f1)]
        exact ⟨0, _, M1, N1, eM, eN.trans eX, hB1.near (nearM.rfl' M1) r3, Or.inr ⟨rfl, s, f1, f2, f3⟩⟩
    by_cases c0 : i = 0
    · exact main (Or.inl c0)
    · by_cases c : (tk ch t e).2.2.1 = 3
      · refine ⟨1, nI i, M1, N, ?_, ?_, hB1, Or.inl ⟨rfl, e, Nat.le_refl _, q2, c, hz1⟩⟩
        · rw [f_X3_takeMoves_L2]
          rw [if_neg h90, q1, ob_e, if_neg (show ¬ nI i ≤ (0 : Int32) from nI_ge (a := 0) (by omega) (by omega)), q2.2.1.2.2.1, if_pos (show nI (srt (tk ch t e).2.2.1) = (3 : Int32) from (srt_eq (j := 3) b5 b6 (by omega)).mpr c)]
        · rw [f_X7_readsMoves_L7]
          rw [hS.2.2.2, if_neg (show ¬ (0 : Int32) ≤ -1 by decide), if_neg (show ¬ nI i = (0 : Int32) from fun q => c0 ((nI_eq (a := i) (b := 0) (by omega) (by decide)).mp q)), hS.2.2.1.2.2.1, if_pos (show nI (tk ch t e).2.2.1 = (3 : Int32) from by rw [c]; rfl)]
      · exact main (Or.inr c)
theorem moves_rel {ch : Nat → Nat} {t e : Nat} {M0 N0 M N : Mem} (ht : t ≤ 150) (hch : ∀ j, j < t → ch j ≤ 127) (hB : Bs ch t M0 N0 M N) (hS : Sy2 ch t M N e) (hk : ¬ (tk ch t e).2.2.1 = 4) (hz : Pr e M N) : ∃ r M' N' N1, (r = 0 ∨ r = 1) ∧ f_X3_takeMoves 165 42 M = some (r, M') ∧ f_X7_readsMoves N = some N1 ∧ fin N1 = some N' ∧ Out ch t M0 N0 e r M' N' := by
  obtain ⟨b1, b2, b3, b4, b5, b6, b7⟩ := tk_b hch hS.1
  have b4 := b4 hk
  obtain ⟨N1, r1, r2, r3⟩ := next1 (a := 1) (by decide) ht hch hB.2.2.2.2.2.2.2.2 hS
  obtain ⟨r, x, M2, N2, w1, w2, w3, w4⟩ := moves_L ht hch 9 0 FU FU _ M N1 (by omega) (FU_gt (by omega)) (FU_gt (by omega)) (hB.near (nearM.rfl' M) r3) r2 ((Pr.zs e M N M N1 hz (nearM.rfl' M) r3).mono (by omega))
  unfold f_X3_takeMoves f_X7_readsMoves
  rw [r1, ob_e, l0, w1, oeT2_r, w2, ob2_e]
  rcases w4 with ⟨rfl, e2, h2, h3, h4, h5⟩ | ⟨rfl, s, f1, f2, f3⟩
  · obtain ⟨N3, r1, r2, r3⟩ := next1 (a := 1) (by decide) ht hch w3.2.2.2.2.2.2.2.2 h3
    obtain ⟨d1, d2, d3, d4, d5, d6, d7⟩ := tk_b hch h3.1
    have d4 := d4 (by omega)
    refine ⟨1, M2, N3, N2, Or.inr rfl, rfl, rfl, ?_, w3.near (nearM.rfl' M2) r3, Or.inl ⟨rfl, _, by omega, r2, (Pr.zs e2 M2 N2 M2 N3 h5 (nearM.rfl' M2) r3).mono (by omega)⟩⟩
    unfold fin
    rw [h3.2.2.1.2.2.1, if_pos (show nI (tk ch t e2).2.2.1 = (3 : Int32) from by rw [h4]; rfl)]
    exact r1
  · exact ⟨0, M2, N2, N2, Or.inl rfl, rfl, rfl, fin_F ht f1 f3, w3, Or.inr ⟨rfl, s, f1, f2, f3⟩⟩
