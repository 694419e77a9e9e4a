/-! a puppet becomes another -/
def cov (c b : Nat) : Prop := (c = 0 ∧ (b = 4 ∨ b = 7 ∨ b = 8 ∨ b = 11)) ∨ (1 ≤ c ∧ c ≤ 4 ∧ b < 7) ∨ (c = 5 ∧ b < 3) ∨ ((c = 6 ∨ c = 7) ∧ b < 7) ∨ (9 ≤ c ∧ c ≤ 32 ∧ (c % 3 = 0 → b < 3) ∧ b < 7) ∨ ((c = 33 ∨ c = 34) ∧ b < 8) ∨ ((c = 35 ∨ c = 37 ∨ c = 39) ∧ b = 3) ∨ (c = 36 ∧ b < 20) ∨ (c = 38 ∧ b < 30) ∨ (c = 40 ∧ b < 24)
theorem PRel.move {f f' : Fm} {p p' : Nat} {r r' : Rw} (h : PRel f p r) (hc : ∀ c b, cov c b → f' (p' + c) b = f (p + c) b) (hr : ∀ k, k < 340 → r' k = r k) : PRel f' p' r' := by
  have h0 : PRel f p r' := h.congr (fun _ _ _ _ => rfl) hr
  obtain ⟨n, hn, e1, e2, hS, hQ, hD, ⟨hT1, hT2, hT3, hT4⟩, u, x, hu, hx, h8, h147, h7, hk⟩ := h0
  have g0 : ∀ b, (b = 4 ∨ b = 7 ∨ b = 8 ∨ b = 11) → f' p' b = f p b := fun b q => hc 0 b (by unfold cov; omega)
  have tb : ∀ o w m b, (o = 35 ∨ o = 37 ∨ o = 39) → (∀ j, j < w * m → cov (o + 1) j) → Tb1 f (p + o) r' b w m → Tb1 f' (p' + o) r' b w m := by
    intro o w m b ho hw ⟨a, a1, a2, a3, a4⟩
    refine ⟨a, a1, by rw [hc o 3 (by unfold cov; omega)]; exact a2, a3, fun j hj => ?_⟩
    have : w * a ≤ w * m := Nat.mul_le_mul_left _ a1
    rw [Nat.add_assoc, hc (o + 1) j (hw j (by omega)), ← Nat.add_assoc]
    exact a4 j hj
  refine ⟨n, hn, by rw [g0 4 (by omega)]; exact e1, e2, fun i hi => ?_, hQ.move (fun j hj => hc 5 j (by unfold cov; omega)) (fun i hi => ⟨hc 6 i (by unfold cov; omega), hc 7 i (by unfold cov; omega)⟩) (fun _ _ => rfl) (fun _ _ _ _ => rfl), ⟨fun t ht => ?_, by rw [g0 11 (by omega)]; exact hD.2.1, hD.2.2⟩, ⟨tb 35 4 5 70 (by omega) (fun j hj => by unfold cov; omega) hT1, tb 37 5 6 91 (by omega) (fun j hj => by unfold cov; omega) hT2, tb 39 4 6 122 (by omega) (fun j hj => by unfold cov; omega) hT3, hT4⟩, u, x, hu, hx, by rw [g0 8 (by omega)]; exact h8, h147, by rw [g0 7 (by omega)]; exact h7, fun k hk' => ?_⟩
  · rw [hc 1 i (by unfold cov; omega), hc 2 i (by unfold cov; omega), hc 3 i (by unfold cov; omega), hc 4 i (by unfold cov; omega)]
    exact hS i hi
  · rw [hc 33 t (by unfold cov; omega), hc 34 t (by unfold cov; omega)]
    exact hD.1 t ht
  · have H := hk k hk'
    have hz : (x + 8 - u + k) % 8 < 8 := Nat.mod_lt _ (by omega)
    revert H hz
    generalize (x + 8 - u + k) % 8 = z
    intro H hz
    refine H.move (fun j hj => ?_) (fun i hi => ⟨?_, ?_⟩) (fun _ _ => rfl) (fun _ _ _ _ => rfl)
    · have := hc (9 + 3 * z) j (by unfold cov; omega)
      rw [show p' + (9 + 3 * z) = p' + 9 + 3 * z by omega, show p + (9 + 3 * z) = p + 9 + 3 * z by omega] at this
      exact this
    · have := hc (9 + 3 * z + 1) i (by unfold cov; omega)
      rw [show p' + (9 + 3 * z + 1) = p' + 9 + 3 * z + 1 by omega, show p + (9 + 3 * z + 1) = p + 9 + 3 * z + 1 by omega] at this
      exact this
    · have := hc (9 + 3 * z + 2) i (by unfold cov; omega)
      rw [show p' + (9 + 3 * z + 2) = p' + 9 + 3 * z + 2 by omega, show p + (9 + 3 * z + 2) = p + 9 + 3 * z + 2 by omega] at this
      exact this
def St (o q : Nat) (S : Nat → Nat → Prop) (M K : Mem) : Prop := K.2 = M.2 ∧ (∀ c b, ¬ (o ≤ c ∧ c ≤ o + 40) → K.1 c b = M.1 c b) ∧ (∀ c b, (c = o + 35 ∨ c = o + 37 ∨ c = o + 39) → b ≠ 3 → K.1 c b = M.1 c b) ∧ (∀ c b, S c b → K.1 (o + c) b = M.1 (q + c) b)
theorem isP_far {o q : Nat} (ho : isP o) (hq : isP q) (h : o ≠ q) : o + 40 < q ∨ q + 40 < o := by
  unfold isP at ho hq
  omega
theorem St.add {o q c0 : Nat} {S B : Nat → Nat → Prop} {M K K' : Mem} (hd : o + 40 < q ∨ q + 40 < o) (h : St o q S M K) (h2 : K'.2 = K.2) (hB : ∀ c b, B c b → c ≤ 40 ∧ ((c = 35 ∨ c = 37 ∨ c = 39) → b = 3)) (hf : ∀ c b, ¬ (∃ c1, B c1 b ∧ c = o + c1) → K'.1 c b = K.1 c b) (hn : ∀ c b, B c b → K'.1 (o + c) b = K.1 (q + c) b) (hc0 : c0 = c0) : St o q (fun c b => S c b ∨ B c b) M K' := by
  obtain ⟨k1, k2, k3, k4⟩ := h
  refine ⟨by rw [h2]; exact k1, fun c b hcb => ?_, fun c b hcb hb => ?_, fun c b hcb => ?_⟩
  · rw [hf c b (fun ⟨c1, q1, q2⟩ => by have := (hB c1 b q1).1; omega)]
    exact k2 c b hcb
  · rw [hf c b (fun ⟨c1, q1, q2⟩ => by have := (hB c1 b q1).2; omega)]
    exact k3 c b hcb hb
  · by_cases hBc : B c b
    · rw [hn c b hBc]
      have := (hB c b hBc).1
      exact k2 _ _ (by omega)
    · rw [hf (o + c) b (fun ⟨c1, q1, q2⟩ => by
        have e : c1 = c := by omega
        subst e
        exact hBc q1)]
      rcases hcb with hs | hs
      · exact k4 c b hs
      · exact absurd hs hBc
theorem St.row {o q c0 w : Nat} {S : Nat → Nat → Prop} {M K : Mem} (hd : o + 40 < q ∨ q + 40 < o) (h : St o q S M K) (l1' : ln (q + c0) = w) (l2' : ln (o + c0) = w) (hw : w ≤ 1000) (hc : c0 ≤ 40) (h35 : ¬ (c0 = 35 ∨ c0 = 37 ∨ c0 = 39)) : ∃ K', f_X6_copyRow (q + c0) (o + c0) K = some K' ∧ St o q (fun c b => S c b ∨ (c = c0 ∧ b < w)) M K' := by
  obtain ⟨K', e, a1, a2, a4, a3⟩ := copy_n l1' l2' hw (by omega) K
  refine ⟨K', e, h.add hd a1 (c0 := 0) (fun c b hb => ⟨by omega, by omega⟩) (fun c b hn => ?_) (fun c b hb => ?_) rfl⟩
  · by_cases hcc : c = o + c0
    · subst hcc
      by_cases hbw : b < w
      · exact absurd ⟨c0, ⟨rfl, hbw⟩, rfl⟩ hn
      · exact a4 b (by omega)
    · exact a2 c b hcc
  · rw [hb.1]; exact a3 b hb.2
theorem St.slot {o q c0 j : Nat} {S : Nat → Nat → Prop} {M K : Mem} (hd : o + 40 < q ∨ q + 40 < o) (h : St o q S M K) (hc : c0 ≤ 40) (h35 : (c0 = 35 ∨ c0 = 37 ∨ c0 = 39) → j = 3) : St o q (fun c b => S c b ∨ (c = c0 ∧ b = j)) M (s1 K (o + c0) j (K.1 (q + c0) j)) := by
  refine h.add hd rfl (c0 := 0) (fun c b hb => ⟨by omega, by omega⟩) (fun c b hn => ?_) (fun c b hb => ?_) rfl
  · refine s1_ne (fun q => hn ⟨c0, ⟨rfl, q.2⟩, q.1⟩)
  · rw [hb.1, hb.2, s1_eq]
theorem St.pose {o q c0 : Nat} {S : Nat → Nat → Prop} {M K : Mem} (hd : o + 40 < q ∨ q + 40 < o) (h : St o q S M K) (hl : ln (o + c0 + 1) = 7 ∧ ln (o + c0 + 2) = 7) (hl2 : ln (q + c0 + 1) = 7 ∧ ln (q + c0 + 2) = 7) (hc : c0 ≤ 30) : ∃ K', f_X1_become (o + c0) (q + c0) K = some K' ∧ St o q (fun c b => S c b ∨ ((c = c0 ∧ b < 3) ∨ ((c = c0 + 1 ∨ c = c0 + 2) ∧ b < 7))) M K' := by
  unfold f_X1_become
  rw [lq_e, lq_e, lq_e]
  have h1 := h.slot (c0 := c0) (j := 0) hd (by omega) (by omega)
  have h2 := h1.slot (c0 := c0) (j := 1) hd (by omega) (by omega)
  have h3 := h2.slot (c0 := c0) (j := 2) hd (by omega) (by omega)
  obtain ⟨K1, e1, h4⟩ := h3.row (c0 := c0 + 1) (w := 7) hd hl2.1 hl.1 (by omega) (by omega) (by omega)
  obtain ⟨K2, e2, h5⟩ := h4.row (c0 := c0 + 2) (w := 7) hd hl2.2 hl.2 (by omega) (by omega) (by omega)
  have e1 : f_X6_copyRow (q + c0 + 1) (o + c0 + 1) _ = some K1 := e1
  have e2 : f_X6_copyRow (q + c0 + 2) (o + c0 + 2) K1 = some K2 := e2
  rw [e1, ob_e, e2, ob_e]
  refine ⟨K2, rfl, h5.1, h5.2.1, h5.2.2.1, fun c b hcb => h5.2.2.2 c b ?_⟩
  show (((((S c b ∨ (c = c0 ∧ b = 0)) ∨ (c = c0 ∧ b = 1)) ∨ (c = c0 ∧ b = 2)) ∨ (c = c0 + 1 ∧ b < 7)) ∨ (c = c0 + 2 ∧ b < 7))
  rcases hcb with hs | hs
  · exact Or.inl (Or.inl (Or.inl (Or.inl (Or.inl hs))))
  · omega
theorem ln_pastP {p : Nat} (hp : isP p) : ∀ x : Nat, x < 8 → ln (p + (9 + 3 * x) + 1) = 7 ∧ ln (p + (9 + 3 * x) + 2) = 7 := by
  rcases hp with rfl | rfl | rfl | rfl <;> decide
theorem pastAt_p {p x : Nat} (hx : x < 8) : f_X2_pastAt p (nI x) = some (p + (9 + 3 * x)) := by
  unfold f_X2_pastAt rdP
  rw [if_neg (nI_pos (by omega)), if_neg (nI_ge hx (by decide)), if_neg (nI_in hx (by decide)), ob_e, nI_clamp (by omega)]
  exact congrArg some (by omega)
theorem St.weak {o q : Nat} {S S' : Nat → Nat → Prop} {M K : Mem} (h : St o q S M K) (hs : ∀ c b, S' c b → S c b) : St o q S' M K := ⟨h.1, h.2.1, h.2.2.1, fun c b q => h.2.2.2 c b (hs c b q)⟩
theorem pasts_L {o q : Nat} {S : Nat → Nat → Prop} {M K : Mem} (ho : isP o) (hq : isP q) (hd : o + 40 < q ∨ q + 40 < o) (h : St o q S M K) : ∃ r, f_X2_become_L65 o q FU (nI 0) K = some r ∧ St o q (fun c b => S c b ∨ (9 ≤ c ∧ c < 33 ∧ (c % 3 = 0 → b < 3) ∧ b < 7)) M r.2 := by
  refine loopE (fun n i x => f_X2_become_L65 o q n (nI i) x) 8 (fun i (x : Mem) => St o q (fun c b => S c b ∨ (9 ≤ c ∧ c < 9 + 3 * i ∧ (c % 3 = 0 → b < 3) ∧ b < 7)) M x) _ ?_ ?_ 8 0 FU K (by omega) (FU_gt (by decide)) (h.weak (fun c b q => by rcases q with q | q; exact q; omega))
  · intro n x hx
    refine ⟨(nI 8, x), ?_, hx.weak (fun c b q => by rcases q with q | q; exact Or.inl q; exact Or.inr (by omega))⟩
    show f_X2_become_L65 o q (n + 1) (nI 8) x = _
    rw [f_X2_become_L65]
    rw [l8, if_pos (nI_le (Nat.le_refl _) (by decide))]
  · intro n i x hi hx
    obtain ⟨K', e, h'⟩ := hx.pose (c0 := 9 + 3 * i) hd (ln_pastP ho i hi) (ln_pastP hq i hi) (by omega)
    refine Or.inl ⟨K', ?_, h'.weak (fun c b q => ?_)⟩
    · show f_X2_become_L65 o q (n + 1) (nI i) x = f_X2_become_L65 o q n (nI (i + 1)) K'
      rw [f_X2_become_L65]
      rw [l8, if_neg (nI_ge hi (by decide)), pastAt_p hi, ob_e, pastAt_p hi, ob_e, e, ob_e, lq_e, nI_1]
    · rcases q with q | q
      · exact Or.inl (Or.inl q)
      · by_cases h9 : c < 9 + 3 * i
        · exact Or.inl (Or.inr (by omega))
        · exact Or.inr (by omega)
theorem ln_pq {p : Nat} (h : isP p) : ln (p + 5 + 1) = 7 ∧ ln (p + 5 + 2) = 7 := by
  rcases h with rfl | rfl | rfl | rfl <;> exact ⟨rfl, rfl⟩
theorem becomeP {o q : Nat} (ho : isP o) (hq : isP q) (hoq : o ≠ q) (M : Mem) : ∃ K, f_X2_become o q M = some K ∧ St o q cov M K := by
  have hd := isP_far ho hq hoq
  obtain ⟨o1, o2, o3, o4, _, _, o7, o8, o9, o10, o11⟩ := ln_p ho
  obtain ⟨q1, q2, q3, q4, _, _, q7, q8, q9, q10, q11⟩ := ln_p hq
  have h0 : St o q (fun _ _ => False) M M := ⟨rfl, fun _ _ _ => rfl, fun _ _ _ _ => rfl, fun _ _ h => absurd h id⟩
  obtain ⟨K1, e1, h1⟩ := h0.row (c0 := 1) hd q1 o1 (by omega) (by omega) (by omega)
  obtain ⟨K2, e2, h2⟩ := h1.row (c0 := 2) hd q2 o2 (by omega) (by omega) (by omega)
  obtain ⟨K3, e3, h3⟩ := h2.row (c0 := 3) hd q3 o3 (by omega) (by omega) (by omega)
  obtain ⟨K4, e4, h4⟩ := h3.row (c0 := 4) hd q4 o4 (by omega) (by omega) (by omega)
  have h5 := h4.slot (c0 := 0) (j := 4) hd (by omega) (by omega)
  obtain ⟨K6, e6, h6⟩ := h5.pose (c0 := 5) hd (ln_pq ho) (ln_pq hq) (by omega)
  obtain ⟨⟨x7, K7⟩, e7, h7⟩ := pasts_L ho hq hd h6
  have h8 := h7.slot (c0 := 0) (j := 7) hd (by omega) (by omega)
  have h9 := h8.slot (c0 := 0) (j := 8) hd (by omega) (by omega)
  obtain ⟨K10, e10, h10⟩ := h9.row (c0 := 33) hd q7 o7 (by omega) (by omega) (by omega)
  obtain ⟨K11, e11, h11⟩ := h10.row (c0 := 34) hd q8 o8 (by omega) (by omega) (by omega)
  have h12 := h11.slot (c0 := 0) (j := 11) hd (by omega) (by omega)
  obtain ⟨K13, e13, h13⟩ := h12.row (c0 := 36) hd q9 o9 (by omega) (by omega) (by omega)
  have h14 := h13.slot (c0 := 35) (j := 3) hd (by omega) (by omega)
  obtain ⟨K15, e15, h15⟩ := h14.row (c0 := 38) hd q10 o10 (by omega) (by omega) (by omega)
  have h16 := h15.slot (c0 := 37) (j := 3) hd (by omega) (by omega)
  obtain ⟨K17, e17, h17⟩ := h16.row (c0 := 40) hd q11 o11 (by omega) (by omega) (by omega)
  have h18 := h17.slot (c0 := 39) (j := 3) hd (by omega) (by omega)
  refine ⟨_, ?_, h18.weak (fun c b hc => ?_)⟩
  · unfold f_X2_become f_X5_become
    rw [e1, ob_e, e2, ob_e, e3, ob_e, e4, ob_e, lq_e]
    rw [show s1 K4 o 4 (K4.1 q 4) = s1 K4 (o + 0) 4 (K4.1 (q + 0) 4) from rfl, e6, ob_e, l0, e7, ob2_e, lq_e, lq_e]
    rw [show s1 (s1 K7 o 7 (K7.1 q 7)) o 8 ((s1 K7 o 7 (K7.1 q 7)).1 q 8) = s1 (s1 K7 (o + 0) 7 (K7.1 (q + 0) 7)) (o + 0) 8 ((s1 K7 (o + 0) 7 (K7.1 (q + 0) 7)).1 (q + 0) 8) from rfl, e10, ob_e, e11, ob_e, lq_e]
    rw [show s1 K11 o 11 (K11.1 q 11) = s1 K11 (o + 0) 11 (K11.1 (q + 0) 11) from rfl]
    rw [show q + 35 + 1 = q + 36 from rfl, show o + 35 + 1 = o + 36 from rfl, e13, ob_e, lq_e, ob_e]
    rw [show q + 37 + 1 = q + 38 from rfl, show o + 37 + 1 = o + 38 from rfl, e15, ob_e, lq_e, ob_e]
    rw [show q + 39 + 1 = q + 40 from rfl, show o + 39 + 1 = o + 40 from rfl, e17, ob_e, lq_e, ob_e]
  · unfold cov at hc
    by_cases h14 : 1 ≤ c ∧ c ≤ 4
    · have hb : b < 7 := by omega
      clear hc
      rcases (show c = 1 ∨ c = 2 ∨ c = 3 ∨ c = 4 by omega) with h | h | h | h <;> repeat (first | exact Or.inr (by omega) | apply Or.inl)
    · rcases hc with ⟨c0, h | h | h | h⟩ | ⟨k1, k2, k3⟩ | h | h | h | ⟨h | h, h'⟩ | ⟨h | h | h, h'⟩ | h | h | h
      all_goals (repeat (first | exact Or.inr (by omega) | apply Or.inl))
