theorem takeNum_2 {ch : Nat → Nat} {t e : Nat} {M M1 N : Mem} {a b : Int32} (hch : ∀ j, j < t → ch j ≤ 127) (q1 : f_X3_advance 165 M = some M1) (q2 : Sy2 ch t M1 N e) : f_X3_takeNumber 165 a b M = some (if (tk ch t e).2.2.1 = 2 ∧ oI (nI (tk ch t e).2.2.2) a.toInt b.toInt then 1 else 0, M1) := by
  unfold f_X3_takeNumber
  rw [q1, ob_e, isNum_n hch q2]
theorem tie_rel {ch : Nat → Nat} {t e : Nat} {M0 N0 M N : Mem} (ht : t ≤ 150) (hch : ∀ j, j < t → ch j ≤ 127) (hB : Bs ch t M0 N0 M N) (hS : Sy2 ch t M N e) (hk : ¬ (tk ch t e).2.2.1 = 4) (hz : Pr e M N) : ∃ r M' N' N1, (r = 0 ∨ r = 1) ∧ f_X3_takeTie 165 42 M = some (r, M') ∧ (ob (f_X7_must (1 : Int32) N) (fun M20 => lq (M20.1 176 11) (fun x21 => ob (if (M20.1 176 10) = (2 : Int32) then (ob (f_X7_isLimb x21 M20) (fun x22 => if x22 = (0 : Int32) then (some (0 : Int32)) else (ob (f_X7_isSnapped x21 M20) (fun x23 => if x23 = (0 : Int32) then (some (0 : Int32)) else (some (1 : Int32)))))) else (some (0 : Int32))) (fun x27 => ob (f_X7_must x27 M20) (fun M29 => ob (if (0 : Int32) ≤ (M29.1 176 12) then (some M29) else (ob (f_X7_unsnaps x21 M29) (fun M31 => some M31))) (fun M33 => some M33)))))) = some N1 ∧ fin N1 = some N' ∧ Out ch t M0 N0 e r M' N' := by
  obtain ⟨b1, b2, b3, b4, b5, b6, b7⟩ := tk_b hch hS.1
  have b4 := b4 hk
  obtain ⟨N1, r1, r2, r3⟩ := next1 (a := 1) (by decide) ht hch hB.2.2.2.2.2.2.2.2 hS
  have hB1 : Bs ch t M0 N0 M N1 := hB.near (nearM.rfl' M) r3
  have hz1 : Pr e M N1 := Pr.zs e M N M N1 hz (nearM.rfl' M) r3
  generalize (tk ch t e).2.1 = u at b2 b3 b4 r2
  obtain ⟨M1, q1, q2, q3⟩ := to2 ht hch hB1.2.2.2.2.2.2.2.1 r2
  have hB2 : Bs ch t M0 N0 M1 N1 := hB1.near q3 (nearN.rfl' N1)
  have hz2 : Pr e M1 N1 := Pr.zs e M N1 M1 N1 hz1 q3 (nearN.rfl' N1)
  obtain ⟨d1, d2, d3, d4, d5, d6, d7⟩ := tk_b hch r2.1
  obtain ⟨n, hn, e1, e2, hSt, hQ, hD, hTt, hU⟩ := hz2.1
  have e1M : M.1 42 4 = nI n := by rw [← q3.2 _ _ (by omega)]; exact e1
  unfold f_X3_takeTie
  rw [r1, ob_e, lq_e, e1M]
  have fail : (∀ (h : (if (N1.1 176 10) = (2 : Int32) then (ob (f_X7_isLimb (N1.1 176 11) N1) (fun x22 => if x22 = (0 : Int32) then (some (0 : Int32)) else (ob (f_X7_isSnapped (N1.1 176 11) N1) (fun x23 => if x23 = (0 : Int32) then (some (0 : Int32)) else (some (1 : Int32)))))) else (some (0 : Int32))) = some 0), ∃ N' N3, (ob (if (N1.1 176 10) = (2 : Int32) then (ob (f_X7_isLimb (N1.1 176 11) N1) (fun x22 => if x22 = (0 : Int32) then (some (0 : Int32)) else (ob (f_X7_isSnapped (N1.1 176 11) N1) (fun x23 => if x23 = (0 : Int32) then (some (0 : Int32)) else (some (1 : Int32)))))) else (some (0 : Int32))) (fun x27 => ob (f_X7_must x27 N1) (fun M29 => ob (if (0 : Int32) ≤ (M29.1 176 12) then (some M29) else (ob (f_X7_unsnaps (N1.1 176 11) M29) (fun M31 => some M31))) (fun M33 => some M33)))) = some N3 ∧ fin N3 = some N' ∧ Bs ch t M0 N0 M1 N' ∧ FT t M1 N') := by
    intro h
    obtain ⟨N2, w1, ⟨s, f1, f2, f3⟩, w3⟩ := next0 ht hch q2
    refine ⟨N2, N2, ?_, fin_F ht f1 f3, hB2.near (nearM.rfl' M1) w3, s, f1, f2, f3⟩
    rw [h, ob_e, w1, ob_e, f3, if_pos (fl_0 ht f1), ob_e]
  by_cases c : (tk ch t u).2.2.1 = 2
  · have ev : N1.1 176 11 = nI (tk ch t u).2.2.2 := r2.2.2.1.2.2.2 (Or.inr c)
    obtain ⟨z, ez, hzz⟩ := y_lb (N := N1) (nI (tk ch t u).2.2.2) hn e2
    by_cases c2 : oI (nI (tk ch t u).2.2.2) 0 ((n : Int) - 1)
    · have hv : (tk ch t u).2.2.2 < n := by
        rw [oI_nI (by omega)] at c2
        omega
      have em : M1.1 165 5 = nI (tk ch t u).2.2.2 := q2.2.1.2.2.2.1 c
      have hnum : f_X3_takeNumber 165 (0 : Int32) (nI n - (1 : Int32)) M = some (1, M1) := by
        rw [takeNum_2 hch q1 q2, if_pos ⟨c, by rw [tI0, nI_sub1 (by omega)]; exact c2⟩]
      generalize (tk ch t u).2.2.2 = i at ev ez hzz c2 hv em
      obtain ⟨L1, L2, L3, L4, L5⟩ := hQ.2 i hv
      unfold f_X2_wornOf
      rw [hnum, ob2_e, if_neg (show ¬ (1 : Int32) = 0 by decide), em, cell_n (show i < ln (42 + 5 + 2) from by show i < 7; omega) (by decide), ob_e, ob_e, snapM, L2]
      by_cases g3 : snp (N1.1 177 (8 + 7 * i + 1)) = 0
      · obtain ⟨N', N3, w1, w2, w3, w4⟩ := fail (by rw [r2.2.2.1.2.2.1, if_pos (show nI (tk ch t u).2.2.1 = (2 : Int32) from by rw [c]; rfl), ev, ez, ob_e, if_neg (fun q => hzz.mp q c2), snapN (by omega) L5, ob_e, if_pos g3])
        rw [if_pos g3]
        exact ⟨0, M1, N', N3, Or.inl rfl, rfl, w1, w2, w3, Or.inr ⟨rfl, w4⟩⟩
      · obtain ⟨N2, x1, x2, x3⟩ := next1 (a := 1) (by decide) ht hch hB2.2.2.2.2.2.2.2.2 q2
        have d4 := d4 (by omega)
        have pM : pupM M1 (s1 M1 (42 + 5 + 2) i 0) := ⟨rfl, fun c b h => s1_ne (by omega), fun c b h1 h2 => s1_ne (by omega), s1_ne (by omega)⟩
        have pN : pupN N2 (s1 (s1 N2 177 (4 + 7 * i + 5) 0) 177 (4 + 7 * i + 6) 0) := ⟨rfl, fun c b h => by rw [s1_ne (by omega), s1_ne (by omega)]⟩
        have nf := x3.2
        have hP : Pr (tk ch t u).2.1 (s1 M1 (42 + 5 + 2) i 0) (s1 (s1 N2 177 (4 + 7 * i + 5) 0) 177 (4 + 7 * i + 6) 0) := by
          refine ⟨⟨n, hn, ?_, ?_, hSt.congr (fun a j _ _ _ => s1_ne (by omega)) (fun j w _ _ => by rw [s1_ne (by omega), s1_ne (by omega)]; exact nf _ _ (by omega)), ⟨hQ.1.congr (fun j _ => s1_ne (by omega)) (fun j _ => by rw [s1_ne (by omega), s1_ne (by omega)]; exact nf _ _ (by omega)), fun j hj => ?_⟩, hD.congr (fun a j _ _ => s1_ne (by omega)) (s1_ne (by omega)) (fun k _ _ => by rw [s1_ne (by omega), s1_ne (by omega)]; exact nf _ _ (by omega)), hTt.congr (fun a j _ _ => s1_ne (by omega)) (fun k _ _ => by rw [s1_ne (by omega), s1_ne (by omega)]; exact nf _ _ (by omega)), hU.congr hn (fun a j _ _ => s1_ne (by omega)) (s1_ne (by omega)) (s1_ne (by omega)) (fun k _ _ => by rw [s1_ne (by omega), s1_ne (by omega)]; exact nf _ _ (by omega))⟩, ?_, ?_⟩
          · rw [s1_ne (by omega)]; exact e1
          · rw [s1_ne (by omega), s1_ne (by omega), nf _ _ (by omega)]; exact e2
          · rw [show 4 + 7 * i + 5 = 8 + 7 * i + 1 by omega, show 4 + 7 * i + 6 = 8 + 7 * i + 2 by omega]
            by_cases ee : j = i
            · subst ee
              rw [s1_ne (by omega), s1_eq, s1_ne (by omega), s1_ne (by omega), s1_ne (by omega), s1_eq, s1_eq, nf _ _ (by omega)]
              exact ⟨L1, rfl, L3, by decide, by decide⟩
            · rw [s1_ne (by omega), s1_ne (by omega), s1_ne (by omega), s1_ne (by omega), s1_ne (by omega), s1_ne (by omega), s1_ne (by omega), s1_ne (by omega), nf _ _ (by omega), nf _ _ (by omega), nf _ _ (by omega)]
              exact hQ.2 j hj
          · rw [s1_ne (by omega), s1_ne (by omega), nf _ _ (by omega)]
            have := hz2.2.1
            omega
          · rw [s1_ne (by omega), s1_ne (by omega), nf _ _ (by omega)]; exact hz2.2.2
        obtain ⟨r, M4, N4, hr, y1, y2, y3⟩ := out_semi (e := e) ht hch ((hB2.near (nearM.rfl' M1) x3).pup pM pN) (x2.pup pM pN) (by omega) hP
        unfold f_X7_unsnaps
        rw [if_neg g3, put_n (show i < ln (42 + 5 + 2) from by show i < 7; omega) (by decide), ob_e, y1, ob2_e, if_pos hr, r2.2.2.1.2.2.1, if_pos (show nI (tk ch t u).2.2.1 = (2 : Int32) from by rw [c]; rfl), ev, ez, ob_e, if_neg (fun q => hzz.mp q c2), snapN (by omega) L5, ob_e, if_neg g3, ob_e, x1, ob_e, x2.2.2.2, if_neg (show ¬ (0 : Int32) ≤ -1 by decide), l5, l6, sets_n (by omega), ob_e, sets_n (by omega), ob_e, ob_e, ob_e]
        exact ⟨r, M4, N4, _, hr, rfl, rfl, y2, y3⟩
    · obtain ⟨N', N3, w1, w2, w3, w4⟩ := fail (by rw [r2.2.2.1.2.2.1, if_pos (show nI (tk ch t u).2.2.1 = (2 : Int32) from by rw [c]; rfl), ev, ez, ob_e, if_pos (hzz.mpr c2)])
      rw [show f_X3_takeNumber 165 (0 : Int32) (nI n - (1 : Int32)) M = some (0, M1) from by rw [takeNum_2 hch q1 q2, if_neg (fun q => c2 (by have := q.2; rw [tI0, nI_sub1 (by omega)] at this; exact this))], ob2_e, if_pos rfl]
      exact ⟨0, M1, N', N3, Or.inl rfl, rfl, w1, w2, w3, Or.inr ⟨rfl, w4⟩⟩
  · obtain ⟨N', N3, w1, w2, w3, w4⟩ := fail (by rw [r2.2.2.1.2.2.1, if_neg (show ¬ nI (tk ch t u).2.2.1 = (2 : Int32) from fun q => c ((nI_eq (b := 2) (by omega) (by decide)).mp q))])
    rw [show f_X3_takeNumber 165 (0 : Int32) (nI n - (1 : Int32)) M = some (0, M1) from by rw [takeNum_2 hch q1 q2, if_neg (fun q => c q.1)], ob2_e, if_pos rfl]
    exact ⟨0, M1, N', N3, Or.inl rfl, rfl, w1, w2, w3, Or.inr ⟨rfl, w4⟩⟩
theorem hang_rel {ch : Nat → Nat} {t e : Nat} {M0 N0 M N : Mem} (ht : t ≤ 150) (hch : ∀ j, j < t → ch j ≤ 127) (hB : Bs ch t M0 N0 M N) (hS : Sy2 ch t M N e) (hk : ¬ (tk ch t e).2.2.1 = 4) (hz : Pr e M N) : ∃ r M' N' N1, (r = 0 ∨ r = 1) ∧ f_X3_takeHang 165 42 M = some (r, M') ∧ (ob (f_X7_must (1 : Int32) N) (fun M6 => ob (rd M6 177 (0 : Int32)) (fun x7 => ob2 (f_X7_number (0 : Int32) (x7 - (1 : Int32)) M6) (fun x8 M9 => ob2 (f_X7_number (0 : Int32) (8 : Int32) M9) (fun x10 M11 => ob (if (0 : Int32) ≤ (M11.1 176 12) then (some M11) else (ob (f_X7_sets x8 (4 : Int32) x10 M11) (fun M13 => some M13))) (fun M15 => some M15)))))) = some N1 ∧ fin N1 = some N' ∧ Out ch t M0 N0 e r M' N' := by
  obtain ⟨b1, b2, b3, b4, b5, b6, b7⟩ := tk_b hch hS.1
  have b4 := b4 hk
  obtain ⟨N1, r1, r2, r3⟩ := next1 (a := 1) (by decide) ht hch hB.2.2.2.2.2.2.2.2 hS
  have hB1 : Bs ch t M0 N0 M N1 := hB.near (nearM.rfl' M) r3
  have hz1 : Pr e M N1 := Pr.zs e M N M N1 hz (nearM.rfl' M) r3
  generalize (tk ch t e).2.1 = u at b2 b3 b4 r2
  obtain ⟨n0, hn0, e10, e20, _⟩ := id hz1.1
  unfold f_X3_takeHang
  rw [r1, ob_e, show rd N1 177 (0 : Int32) = some (nI n0) from by rw [l0, rd_n (hb177 (by decide)) (by decide), e20], ob_e, e10]
  obtain ⟨M2, N2, x1, p1, B2, Z2, nm2, _, h2⟩ := num_rel (Pr.zs e) ht hch hB1 r2 hz1 0 (nI n0 - 1)
  rw [p1, ob2_e]
  rcases h2 with ⟨u2, lt2, t2, S2, v2, g2, i, hi1, rfl⟩ | ⟨t2, s, f1, f2, f3⟩
  rotate_left
  · rw [t2, ob2_e, if_pos rfl, numF (by omega) f3, ob2_e, f3, if_pos (fl_0 ht f1), ob_e]
    exact ⟨0, M2, N2, N2, Or.inl rfl, rfl, rfl, fin_F ht f1 f3, B2, Or.inr ⟨rfl, s, f1, f2, f3⟩⟩
  rw [t2, ob2_e, if_neg (show ¬ (1 : Int32) = 0 by decide), lq_e, v2]
  obtain ⟨M3, N3, x2, p2, B3, Z3, nm3, _, h3⟩ := num_rel (Pr.zs e) ht hch B2 S2 Z2 0 8
  rw [p2, ob2_e]
  rcases h3 with ⟨u3, lt3, t3, S3, v3, g3, _⟩ | ⟨t3, s, f1, f2, f3⟩
  rotate_left
  · rw [t3, ob2_e, if_pos rfl, f3, if_pos (fl_0 ht f1), ob_e]
    exact ⟨0, M3, N3, N3, Or.inl rfl, rfl, rfl, fin_F ht f1 f3, B3, Or.inr ⟨rfl, s, f1, f2, f3⟩⟩
  rw [nI_sub1 (by omega), tI0, oI_nI (by omega)] at g2
  rw [tI0, tI8] at g3
  obtain ⟨n, hn, e1, e2, hSt, hQ, hD, hTt, hU⟩ := Z3.1
  have hnn : n = n0 := by
    have a1 : M3.1 42 4 = nI n0 := by rw [nm3.2 _ _ (by omega), nm2.2 _ _ (by omega)]; exact e10
    exact (nI_eq (by omega) (by omega)).mp (e1.symm.trans a1)
  have hi : i < n := by omega
  have pM : pupM M3 (s1 M3 (42 + 5 + 1) i x2) := ⟨rfl, fun c b h => s1_ne (by omega), fun c b h1 h2 => s1_ne (by omega), s1_ne (by omega)⟩
  have pN : pupN N3 (s1 N3 177 (4 + 7 * i + 4) x2) := ⟨rfl, fun c b h => s1_ne (by omega)⟩
  have hP : Pr u3 (s1 M3 (42 + 5 + 1) i x2) (s1 N3 177 (4 + 7 * i + 4) x2) := by
    rw [show 4 + 7 * i + 4 = 8 + 7 * i by omega]
    refine ⟨⟨n, hn, by rw [s1_ne (by omega)]; exact e1, by rw [s1_ne (by omega)]; exact e2, hSt.congr (fun a j _ _ _ => s1_ne (by omega)) (fun j w _ _ => s1_ne (by omega)), hQ.hole g3 (fun c b _ _ q => s1_ne (by omega)) s1_eq (fun b q _ => s1_ne (by omega)) s1_eq hn, hD.congr (fun a j _ _ => s1_ne (by omega)) (s1_ne (by omega)) (fun k _ _ => s1_ne (by omega)), hTt.congr (fun a j _ _ => s1_ne (by omega)) (fun k _ _ => s1_ne (by omega)), hU.congr hn (fun a j _ _ => s1_ne (by omega)) (s1_ne (by omega)) (s1_ne (by omega)) (fun k _ _ => s1_ne (by omega))⟩, ?_, ?_⟩
    · rw [s1_ne (by omega)]
      have := Z3.2.1
      omega
    · rw [s1_ne (by omega)]; exact Z3.2.2
  obtain ⟨r, M4, N4, hr, y1, y2, y3⟩ := out_semi (e := e) ht hch (B3.pup pM pN) (S3.pup pM pN) (by omega) hP
  rw [t3, ob2_e, if_neg (show ¬ (1 : Int32) = 0 by decide), v3, put_n (show i < ln (42 + 5 + 1) from by show i < 7; omega) (by decide), ob_e, y1, ob2_e, if_pos hr, S3.2.2.2, if_neg (show ¬ (0 : Int32) ≤ -1 by decide), l4, sets_n (by omega), ob_e, ob_e]
  exact ⟨r, M4, N4, _, hr, rfl, rfl, y2, y3⟩
theorem item_rel {ch : Nat → Nat} {t e : Nat} {M0 N0 M N : Mem} (ht : t ≤ 150) (hch : ∀ j, j < t → ch j ≤ 127) (hB : Bs ch t M0 N0 M N) (hS : Sy2 ch t M N e) (hk : ¬ (tk ch t e).2.2.1 = 4) (hz : Pr e M N) : ∃ r M' N', f_X3_takeItem 165 42 M = some (r, M') ∧ f_X7_readsItem N = some N' ∧ Out ch t M0 N0 e r M' N' := by
  obtain ⟨b1, b2, b3, b4, b5, b6, b7⟩ := tk_b hch hS.1
  have hw := hS.2.1.2.2.2.2
  obtain ⟨v, hv5, hv, hx, hwo⟩ : ∃ v : Nat, v ≤ 1000 ∧ True ∧ (if (N.1 176 10) = (1 : Int32) then (N.1 176 11) else (0 : Int32)) = nI v ∧ ∀ o, o < 5 → f_X3_isWord 165 o M = some (if v = o + 1 then 1 else 0) := by
    by_cases c : (tk ch t e).2.2.1 = 1
    · refine ⟨(tk ch t e).2.2.2, b7, trivial, ?_, fun o ho => ?_⟩
      · rw [hS.2.2.1.2.2.1, if_pos (show nI (tk ch t e).2.2.1 = (1 : Int32) from by rw [c]; rfl), hS.2.2.1.2.2.2 (Or.inl c)]
      · rw [hw o ho]
        by_cases c2 : (tk ch t e).2.2.2 = o + 1
        · rw [if_pos ⟨c, c2⟩, if_pos c2]
        · rw [if_neg (fun q => c2 q.2), if_neg c2]
    · refine ⟨0, by omega, trivial, ?_, fun o ho => ?_⟩
      · rw [hS.2.2.1.2.2.1, if_neg (show ¬ nI (tk ch t e).2.2.1 = (1 : Int32) from fun q => c ((nI_eq (b := 1) (by omega) (by decide)).mp q))]; rfl
      · rw [hw o ho, if_neg (fun q => c q.1), if_neg (by omega)]
  unfold f_X3_takeItem f_X7_readsItem
  rw [lq_e, hx, hwo 1 (by omega), hwo 2 (by omega), hwo 3 (by omega), hwo 4 (by omega), ob_e, ob_e, ob_e, ob_e]
  have ne : ∀ j, j < 6 → ¬ v = j → ¬ nI v = nI j := fun j hj hne q => hne ((nI_eq (by omega) (by omega)).mp q)
  by_cases c2 : v = 2
  · subst c2
    obtain ⟨r, M', N', N1, w1, w2, w3, w4⟩ := limb_rel ht hch hB hS hk hz
    rw [if_pos rfl, if_neg (show ¬ (1 : Int32) = 0 by decide), w1, if_pos (show nI 2 = (2 : Int32) from rfl), w2, ob_e, ob_e, lq_e, show f_X7_must (if (N1.1 176 10) = (3 : Int32) then (1 : Int32) else (0 : Int32)) N1 = some N' from w3, ob_e]
    exact ⟨r, M', N', rfl, rfl, w4⟩
  · rw [if_neg c2, if_pos rfl, if_neg (show ¬ nI v = (2 : Int32) from ne 2 (by omega) c2)]
    by_cases c3 : v = 3
    · subst c3
      obtain ⟨r, M', N', N1, hr, w1, w2, w3, w4⟩ := moves_rel ht hch hB hS hk hz
      rw [if_pos rfl, if_neg (show ¬ (1 : Int32) = 0 by decide), w1, ob2_e, if_pos hr, if_pos (show nI 3 = (3 : Int32) from rfl), w2, ob_e, ob_e, lq_e, show f_X7_must (if (N1.1 176 10) = (3 : Int32) then (1 : Int32) else (0 : Int32)) N1 = some N' from w3, ob_e]
      exact ⟨r, M', N', rfl, rfl, w4⟩
    · rw [if_neg c3, if_pos rfl, if_neg (show ¬ nI v = (3 : Int32) from ne 3 (by omega) c3)]
      by_cases c4 : v = 4
      · subst c4
        obtain ⟨r, M', N', N1, hr, w1, w2, w3, w4⟩ := tie_rel ht hch hB hS hk hz
        rw [if_pos rfl, if_neg (show ¬ (1 : Int32) = 0 by decide), w1, ob2_e, if_pos hr, if_pos (show nI 4 = (4 : Int32) from rfl), w2, ob_e, lq_e, show f_X7_must (if (N1.1 176 10) = (3 : Int32) then (1 : Int32) else (0 : Int32)) N1 = some N' from w3, ob_e]
        exact ⟨r, M', N', rfl, rfl, w4⟩
      · rw [if_neg c4, if_pos rfl, if_neg (show ¬ nI v = (4 : Int32) from ne 4 (by omega) c4)]
        by_cases c5 : v = 5
        · subst c5
          obtain ⟨r, M', N', N1, hr, w1, w2, w3, w4⟩ := hang_rel ht hch hB hS hk hz
          rw [if_pos rfl, if_neg (show ¬ (1 : Int32) = 0 by decide), w1, ob2_e, if_pos (show nI 5 = (5 : Int32) from rfl), w2, ob_e, lq_e, show f_X7_must (if (N1.1 176 10) = (3 : Int32) then (1 : Int32) else (0 : Int32)) N1 = some N' from w3, ob_e]
          rcases hr with rfl | rfl
          · rw [if_pos rfl]
            exact ⟨0, M', N', rfl, rfl, w4⟩
          · rw [if_neg (show ¬ (1 : Int32) = 0 by decide)]
            exact ⟨1, M', N', rfl, rfl, w4⟩
        · obtain ⟨N1, w1, ⟨s, f1, f2, f3⟩, w3⟩ := next0 ht hch hS
          rw [if_neg c5, if_pos rfl, if_neg (show ¬ nI v = (5 : Int32) from ne 5 (by omega) c5), w1, ob_e, ob_e, lq_e, mustF (by omega) f3, ob_e]
          exact ⟨0, M, N1, rfl, rfl, hB.near (nearM.rfl' M) w3, Or.inr ⟨rfl, s, f1, f2, f3⟩⟩
