/-! items of the text -/
def Pr (e : Nat) (M N : Mem) : Prop := PRel M.1 42 (N.1 177) ∧ (N.1 177 3).toInt ≤ (e : Int) ∧ N.1 177 147 = nI 0
theorem Pr.zs (e : Nat) : Zs (Pr e) := by
  intro M N M' N' h hM hN
  refine ⟨h.1.congr (fun a i _ _ => hM.2 _ _ (by omega)) (fun k _ => hN.2 _ _ (by omega)), ?_, ?_⟩
  · rw [hN.2 _ _ (by omega)]; exact h.2.1
  · rw [hN.2 _ _ (by omega)]; exact h.2.2
theorem Pr.mono {e e' : Nat} {M N : Mem} (h : Pr e M N) (he : e ≤ e') : Pr e' M N := ⟨h.1, by have := h.2.1; omega, h.2.2⟩
def pupM (M M' : Mem) : Prop := M'.2 = M.2 ∧ (∀ c b, ¬ (42 ≤ c ∧ c ≤ 82) → M'.1 c b = M.1 c b) ∧ (∀ c b, (c = 77 ∨ c = 79 ∨ c = 81) → b ≠ 3 → M'.1 c b = M.1 c b) ∧ M'.1 42 7 = M.1 42 7
def pupN (N N' : Mem) : Prop := N'.2 = N.2 ∧ ∀ c b, c ≠ 177 → N'.1 c b = N.1 c b
theorem Bs.pup {ch : Nat → Nat} {t : Nat} {M0 N0 M N M' N' : Mem} (h : Bs ch t M0 N0 M N) (hM : pupM M M') (hN : pupN N N') : Bs ch t M0 N0 M' N' := by
  obtain ⟨h1, h2, h3, h4, h5, h6, h7, h8, h9⟩ := h
  obtain ⟨m1, m2, m3, m4⟩ := hM
  refine ⟨by rw [m1]; exact h1, by rw [hN.1]; exact h2, fun c b q1 q2 => by rw [m2 c b q2]; exact h3 c b q1 q2, fun c b q1 q2 => by rw [m3 c b q1 q2]; exact h4 c b q1 q2, by rw [m4]; exact h5, fun c b q1 q2 q3 => by rw [hN.2 c b q2]; exact h6 c b q1 q2 q3, fun k hk => by rw [hN.2 _ _ (by omega)]; exact h7 k hk, h8.of (m2 _ _ (by omega)) (fun j => m2 _ _ (by omega)), h9.of (hN.2 _ _ (by omega)) (fun j => hN.2 _ _ (by omega))⟩
theorem Sy1.pup {ch : Nat → Nat} {t e : Nat} {M N M' N' : Mem} (h : Sy1 ch t M N e) (hM : pupM M M') (hN : pupN N N') : Sy1 ch t M' N' e := by
  obtain ⟨h1, h2, ⟨r1, r2, r3, r4⟩, h4⟩ := h
  refine ⟨h1, by rw [hM.2.1 _ _ (by omega)]; exact h2, ⟨by rw [hN.2 _ _ (by omega)]; exact r1, by rw [hN.2 _ _ (by omega)]; exact r2, by rw [hN.2 _ _ (by omega)]; exact r3, fun q => by rw [hN.2 _ _ (by omega)]; exact r4 q⟩, by rw [hN.2 _ _ (by omega)]; exact h4⟩
def Out (ch : Nat → Nat) (t : Nat) (M0 N0 : Mem) (e : Nat) (r : Int32) (M' N' : Mem) : Prop := Bs ch t M0 N0 M' N' ∧ ((r = 1 ∧ ∃ e2, e < e2 ∧ Sy1 ch t M' N' e2 ∧ Pr e2 M' N') ∨ (r = 0 ∧ FT t M' N'))
def fin (N : Mem) : Option Mem := f_X7_must (if (N.1 176 10) = (3 : Int32) then (1 : Int32) else (0 : Int32)) N
theorem fin_F {t s : Nat} {N : Mem} (ht : t ≤ 150) (hs : s ≤ t) (h12 : N.1 176 12 = nI s) : fin N = some N := mustF (by omega) h12 _
theorem out_semi {ch : Nat → Nat} {t e e1 : Nat} {M0 N0 M N : Mem} (ht : t ≤ 150) (hch : ∀ j, j < t → ch j ≤ 127) (hB : Bs ch t M0 N0 M N) (hS : Sy1 ch t M N e1) (he : e ≤ e1) (hz : Pr e1 M N) : ∃ r M' N', (r = 0 ∨ r = 1) ∧ f_X3_takeSemicolon 165 M = some (r, M') ∧ fin N = some N' ∧ Out ch t M0 N0 e r M' N' := by
  obtain ⟨M', N', q1, q2, q3, q4⟩ := semi_rel (Pr.zs e1) ht hch hB hS hz
  rcases q4 with ⟨e2, h1, h2, h3⟩ | ⟨h2, h3⟩
  · exact ⟨1, M', N', Or.inr rfl, h2, q1, q2, Or.inl ⟨rfl, e2, by omega, h3, q3.mono (by omega)⟩⟩
  · exact ⟨0, M', N', Or.inl rfl, h2, q1, q2, Or.inr ⟨rfl, h3⟩⟩
theorem tI0 : (0 : Int32).toInt = 0 := by decide
theorem tI1 : (1 : Int32).toInt = 1 := by decide
theorem tI4 : (4 : Int32).toInt = 4 := by decide
theorem tI5 : (5 : Int32).toInt = 5 := by decide
theorem tI8 : (8 : Int32).toInt = 8 := by decide
theorem tI9 : (9 : Int32).toInt = 9 := by decide
theorem tI20 : (20 : Int32).toInt = 20 := by decide
theorem fl_0 {t s : Nat} (ht : t ≤ 150) (hs : s ≤ t) : (0 : Int32) ≤ nI s := nI_le (a := 0) (by omega) (by omega)
theorem limb_rel {ch : Nat → Nat} {t e : Nat} {M0 N0 M N : Mem} (ht : t ≤ 150) (hch : ∀ j, j < t → ch j ≤ 127) (hB : Bs ch t M0 N0 M N) (hS : Sy2 ch t M N e) (hk : ¬ (tk ch t e).2.2.1 = 4) (hz : Pr e M N) : ∃ r M' N' N1, (if (7 : Int32) ≤ (M.1 42 4) then (some ((0 : Int32), M)) else (ob2 (f_X3_takeLimb 165 42 M) (fun x15 M16 => if x15 = (0 : Int32) then (some ((0 : Int32), M16)) else (some ((1 : Int32), M16))))) = some (r, M') ∧ f_X7_readsLimb N = some N1 ∧ fin N1 = some N' ∧ Out ch t M0 N0 e r M' N' := by
  obtain ⟨n, hn, e1, e2, hSt, hQ, hD, hTt, hU⟩ := id hz.1
  obtain ⟨b1, b2, b3, b4, b5, b6, b7⟩ := tk_b hch hS.1
  have b4 := b4 hk
  unfold f_X7_readsLimb f_X3_takeLimb
  rw [e1, show rd N 177 (0 : Int32) = some (nI n) from by rw [l0, rd_n (hb177 (by decide)) (by decide), e2], ob_e, l7, lq_e]
  by_cases c7 : 7 ≤ n
  · rw [if_pos (nI_le c7 (by omega)), if_pos (nI_le c7 (by omega))]
    obtain ⟨N', r1, ⟨s, f1, f2, f3⟩, r3⟩ := next0 ht hch hS
    refine ⟨0, M, N', N', rfl, ?_, fin_F ht f1 f3, hB.near (nearM.rfl' M) r3, Or.inr ⟨rfl, s, f1, f2, f3⟩⟩
    rw [r1, ob_e, numF (by omega) f3, ob2_e, numF (by omega) f3, ob2_e, numF (by omega) f3, ob2_e, numF (by omega) f3, ob2_e, numF (by omega) f3, ob2_e, f3, if_pos (fl_0 ht f1)]
  · rw [if_neg (nI_ge (by omega) (by omega)), if_neg (nI_ge (by omega) (by omega))]
    obtain ⟨N1, r1, r2, r3⟩ := next1 (a := 1) (by decide) ht hch hB.2.2.2.2.2.2.2.2 hS
    rw [r1, ob_e]
    obtain ⟨M2, N2, x1, p1, B2, Z2, nm2, _, h2⟩ := num_rel (Pr.zs e) ht hch (hB.near (nearM.rfl' M) r3) r2 (Pr.zs e M N M N1 hz (nearM.rfl' M) r3) 0 5
    rw [p1, ob2_e]
    rcases h2 with ⟨u2, lt2, t2, S2, v2, g2, _⟩ | ⟨t2, s, f1, f2, f3⟩
    rotate_left
    · rw [t2, ob2_e, if_pos rfl, ob2_e, if_pos rfl, numF (by omega) f3, ob2_e, numF (by omega) f3, ob2_e, numF (by omega) f3, ob2_e, numF (by omega) f3, ob2_e, f3, if_pos (fl_0 ht f1)]
      exact ⟨0, M2, N2, N2, rfl, rfl, fin_F ht f1 f3, B2, Or.inr ⟨rfl, s, f1, f2, f3⟩⟩
    rw [t2, ob2_e, if_neg (show ¬ (1 : Int32) = 0 by decide), lq_e, v2]
    obtain ⟨M3, N3, x2, p2, B3, Z3, nm3, _, h3⟩ := num_rel (Pr.zs e) ht hch B2 S2 Z2 0 5
    rw [p2, ob2_e]
    rcases h3 with ⟨u3, lt3, t3, S3, v3, g3, _⟩ | ⟨t3, s, f1, f2, f3⟩
    rotate_left
    · rw [t3, ob2_e, if_pos rfl, ob2_e, if_pos rfl, numF (by omega) f3, ob2_e, numF (by omega) f3, ob2_e, numF (by omega) f3, ob2_e, f3, if_pos (fl_0 ht f1)]
      exact ⟨0, M3, N3, N3, rfl, rfl, fin_F ht f1 f3, B3, Or.inr ⟨rfl, s, f1, f2, f3⟩⟩
    rw [t3, ob2_e, if_neg (show ¬ (1 : Int32) = 0 by decide), lq_e, v3]
    obtain ⟨M4, N4, x3, p3, B4, Z4, nm4, _, h4⟩ := num_rel (Pr.zs e) ht hch B3 S3 Z3 1 9
    rw [p3, ob2_e]
    rcases h4 with ⟨u4, lt4, t4, S4, v4, g4, _⟩ | ⟨t4, s, f1, f2, f3⟩
    rotate_left
    · rw [t4, ob2_e, if_pos rfl, ob2_e, if_pos rfl, numF (by omega) f3, ob2_e, numF (by omega) f3, ob2_e, f3, if_pos (fl_0 ht f1)]
      exact ⟨0, M4, N4, N4, rfl, rfl, fin_F ht f1 f3, B4, Or.inr ⟨rfl, s, f1, f2, f3⟩⟩
    rw [t4, ob2_e, if_neg (show ¬ (1 : Int32) = 0 by decide), lq_e, v4]
    obtain ⟨M5, N5, x4, p4, B5, Z5, nm5, _, h5⟩ := num_rel (Pr.zs e) ht hch B4 S4 Z4 1 20
    rw [p4, ob2_e]
    rcases h5 with ⟨u5, lt5, t5, S5, v5, g5, _⟩ | ⟨t5, s, f1, f2, f3⟩
    rotate_left
    · rw [t5, ob2_e, if_pos rfl, ob2_e, if_pos rfl, numF (by omega) f3, ob2_e, f3, if_pos (fl_0 ht f1)]
      exact ⟨0, M5, N5, N5, rfl, rfl, fin_F ht f1 f3, B5, Or.inr ⟨rfl, s, f1, f2, f3⟩⟩
    rw [t5, ob2_e, if_neg (show ¬ (1 : Int32) = 0 by decide), lq_e, v5]
    obtain ⟨M6, N6, x5, p5', B6, Z6, nm6, _, h6⟩ := num_rel (Pr.zs e) ht hch B5 S5 Z5 0 8
    rw [p5', ob2_e]
    rcases h6 with ⟨u6, lt6, t6, S6, v6, g6, _⟩ | ⟨t6, s, f1, f2, f3⟩
    rotate_left
    · rw [t6, ob2_e, if_pos rfl, ob2_e, if_pos rfl, f3, if_pos (fl_0 ht f1)]
      exact ⟨0, M6, N6, N6, rfl, rfl, fin_F ht f1 f3, B6, Or.inr ⟨rfl, s, f1, f2, f3⟩⟩
    rw [t6, ob2_e, if_neg (show ¬ (1 : Int32) = 0 by decide), v6, S6.2.2.2, if_neg (show ¬ (0 : Int32) ≤ -1 by decide)]
    rw [tI0, tI5] at g2 g3
    rw [tI1, tI9] at g4
    rw [tI1, tI20] at g5
    rw [tI0, tI8] at g6
    have e6 : M6.1 42 4 = nI n := by
      rw [nm6.2 _ _ (by omega), nm5.2 _ _ (by omega), nm4.2 _ _ (by omega), nm3.2 _ _ (by omega), nm2.2 _ _ (by omega)]
      exact e1
    obtain ⟨M7, N7, k1, k2, k3, k4, k5, k6, k7, k8⟩ := add_rel (p := 42) (Or.inr (Or.inl rfl)) Z6.1 e6 (by omega) g2 g3 g4 g5 g6
    have e0 : N6.1 177 0 = nI n := by
      obtain ⟨n', _, a1, a2, _⟩ := id Z6.1
      rw [a2, ← a1, e6]
    obtain ⟨N7', j1, j2, _, _, _, _, _, _, _, _, j147, jf⟩ := comesX (a1 := x1) (a2 := x2) (a3 := x3) (a4 := x4) (a5 := x5) e0 (by omega)
    have hj : N7' = N7 := Option.some.inj (j1.symm.trans k2)
    subst hj
    have pM : pupM M6 M7 := ⟨k5, fun c b h => k7 c b (by omega) (by omega), fun c b h1 h2 => k7 c b (by omega) (by omega), k7 _ _ (by omega) (by omega)⟩
    have pN : pupN N6 N7' := ⟨k6, k8⟩
    have hP7 : Pr u6 M7 N7' := ⟨k4, by rw [jf _ _ (by omega)]; have := Z6.2.1; omega, j147⟩
    obtain ⟨r, M8, N8, hr, w1, w2, w3⟩ := out_semi (e := e) ht hch (B6.pup pM pN) (S6.pup pM pN) (by omega) hP7
    rw [k1, ob2_e, w1, ob2_e, if_pos hr, ob2_e, k2, ob_e]
    rcases hr with rfl | rfl
    · rw [if_pos rfl]
      exact ⟨0, M8, N8, N7', rfl, rfl, w2, w3⟩
    · rw [if_neg (show ¬ (1 : Int32) = 0 by decide)]
      exact ⟨1, M8, N8, N7', rfl, rfl, w2, w3⟩
