/-! loops that keep something -/
theorem l0 : (0 : Int32) = nI 0 := rfl
theorem l1 : (1 : Int32) = nI 1 := rfl
theorem l2 : (2 : Int32) = nI 2 := rfl
theorem l3 : (3 : Int32) = nI 3 := rfl
theorem l4 : (4 : Int32) = nI 4 := rfl
theorem l5 : (5 : Int32) = nI 5 := rfl
theorem l6 : (6 : Int32) = nI 6 := rfl
theorem l7 : (7 : Int32) = nI 7 := rfl
theorem l8 : (8 : Int32) = nI 8 := rfl
theorem l24 : (24 : Int32) = nI 24 := rfl
theorem l53 : (53 : Int32) = nI 53 := rfl
theorem l54 : (54 : Int32) = nI 54 := rfl
theorem l70 : (70 : Int32) = nI 70 := rfl
theorem l91 : (91 : Int32) = nI 91 := rfl
theorem l122 : (122 : Int32) = nI 122 := rfl
theorem l147 : (147 : Int32) = nI 147 := rfl
theorem l148 : (148 : Int32) = nI 148 := rfl
theorem l340 : (340 : Int32) = nI 340 := rfl
theorem loopE {σ τ : Type} (L : Nat → Nat → σ → Option τ) (e : Nat) (P : Nat → σ → Prop) (Q : τ → Prop) (hx : ∀ n x, P e x → ∃ r, L (n + 1) e x = some r ∧ Q r) (hs : ∀ n i x, i < e → P i x → (∃ y, L (n + 1) i x = L n (i + 1) y ∧ P (i + 1) y) ∨ (∃ r, L (n + 1) i x = some r ∧ Q r)) : ∀ (k i n : Nat) (x : σ), i + k = e → k < n → P i x → ∃ r, L n i x = some r ∧ Q r := by
  intro k
  induction k with
  | zero =>
    intro i n x hk hn hI
    obtain ⟨n', rfl⟩ : ∃ n', n = n' + 1 := ⟨n - 1, by omega⟩
    have hie : i = e := by omega
    subst hie
    exact hx n' x hI
  | succ k ih =>
    intro i n x hk hn hI
    obtain ⟨n', rfl⟩ : ∃ n', n = n' + 1 := ⟨n - 1, by omega⟩
    rcases hs n' i x (by omega) hI with ⟨y, h1, h2⟩ | h
    · rw [h1]
      exact ih (i + 1) n' y (by omega) (by omega) h2
    · exact h
theorem loop2 {σ τ σ' τ' : Type} (L : Nat → Nat → σ → Option τ) (K : Nat → Nat → σ' → Option τ') (e : Nat) (P : Nat → σ → σ' → Prop) (Q : τ → τ' → Prop) (hx : ∀ n m x y, P e x y → ∃ r s, L (n + 1) e x = some r ∧ K (m + 1) e y = some s ∧ Q r s) (hs : ∀ n m i x y, i < e → P i x y → (∃ x' y', L (n + 1) i x = L n (i + 1) x' ∧ K (m + 1) i y = K m (i + 1) y' ∧ P (i + 1) x' y') ∨ (∃ r s, L (n + 1) i x = some r ∧ K (m + 1) i y = some s ∧ Q r s)) : ∀ (k i n m : Nat) (x : σ) (y : σ'), i + k = e → k < n → k < m → P i x y → ∃ r s, L n i x = some r ∧ K m i y = some s ∧ Q r s := by
  intro k
  induction k with
  | zero =>
    intro i n m x y hk hn hm hI
    obtain ⟨n', rfl⟩ : ∃ n', n = n' + 1 := ⟨n - 1, by omega⟩
    obtain ⟨m', rfl⟩ : ∃ m', m = m' + 1 := ⟨m - 1, by omega⟩
    have hie : i = e := by omega
    subst hie
    exact hx n' m' x y hI
  | succ k ih =>
    intro i n m x y hk hn hm hI
    obtain ⟨n', rfl⟩ : ∃ n', n = n' + 1 := ⟨n - 1, by omega⟩
    obtain ⟨m', rfl⟩ : ∃ m', m = m' + 1 := ⟨m - 1, by omega⟩
    rcases hs n' m' i x y (by omega) hI with ⟨x', y', h1, h2, h3⟩ | h
    · rw [h1, h2]
      exact ih (i + 1) n' m' x' y' (by omega) (by omega) (by omega) h3
    · exact h
theorem FU_gt {k : Nat} (h : k < 4000) : k < FU := h
/-! a puppet begins -/
theorem begin_L {p : Nat} (hp : isP p) (M : Mem) : ∃ r, f_X2_begin_L20 p FU (nI 0) M = some r ∧ (r.2.2 = M.2 ∧ (∀ a b, a ≠ p + 33 → a ≠ p + 34 → r.2.1 a b = M.1 a b) ∧ ∀ t, t < 8 → r.2.1 (p + 33) t = 4 ∧ r.2.1 (p + 34) t = 0) := by
  obtain ⟨_, _, _, _, _, _, hl1, hl2, _⟩ := ln_p hp
  refine loopE (fun n i x => f_X2_begin_L20 p n (nI i) x) 8 (fun i (x : Mem) => x.2 = M.2 ∧ (∀ a b, a ≠ p + 33 → a ≠ p + 34 → x.1 a b = M.1 a b) ∧ ∀ t, t < i → x.1 (p + 33) t = 4 ∧ x.1 (p + 34) t = 0) _ ?_ ?_ 8 0 FU M (by omega) (FU_gt (by decide)) ⟨rfl, fun _ _ _ _ => rfl, fun t ht => absurd ht (by omega)⟩
  · intro n x hx
    refine ⟨(nI 8, x), ?_, hx⟩
    show f_X2_begin_L20 p (n + 1) (nI 8) x = _
    unfold f_X2_begin_L20
    rw [l8, if_pos (nI_le (Nat.le_refl _) (by decide))]
  · intro n i x hi hx
    obtain ⟨h1, h2, h3⟩ := hx
    refine Or.inl ⟨s1 (s1 x (p + 33) i 4) (p + 34) i 0, ?_, h1, fun a b q1 q2 => ?_, fun t ht => ?_⟩
    · show f_X2_begin_L20 p (n + 1) (nI i) x = f_X2_begin_L20 p n (nI (i + 1)) _
      rw [f_X2_begin_L20]
      rw [l8, if_neg (nI_ge hi (by decide)), put_n (by omega) (by omega), ob_e, put_n (by omega) (by omega), ob_e, lq_e, l1, nI_add]
    · rw [s1_ne (by omega), s1_ne (by omega)]
      exact h2 a b q1 q2
    · by_cases e : t = i
      · subst e
        rw [s1_ne (by omega), s1_eq, s1_eq]
        exact ⟨rfl, rfl⟩
      · rw [s1_ne (by omega), s1_ne (by omega), s1_ne (by omega), s1_ne (by omega)]
        exact h3 t (by omega)
theorem beginX {p : Nat} {a : Int32} (hp : isP p) (M : Mem) : ∃ M', f_X2_begin p a M = some M' ∧ M'.2 = M.2 ∧ (∀ c b, ¬ (c = p ∧ (b = 4 ∨ b = 8 ∨ b = 11)) → c ≠ p + 5 → c ≠ p + 33 → c ≠ p + 34 → ¬ ((c = p + 35 ∨ c = p + 37 ∨ c = p + 39) ∧ b = 3) → M'.1 c b = M.1 c b) ∧ M'.1 p 4 = nI 0 ∧ M'.1 p 8 = nI 0 ∧ M'.1 p 11 = 0 ∧ M'.1 (p + 5) 0 = a ∧ M'.1 (p + 5) 1 = 0 ∧ M'.1 (p + 5) 2 = 0 ∧ M'.1 (p + 35) 3 = nI 0 ∧ M'.1 (p + 37) 3 = nI 0 ∧ M'.1 (p + 39) 3 = nI 0 ∧ ∀ t, t < 8 → M'.1 (p + 33) t = 4 ∧ M'.1 (p + 34) t = 0 := by
  unfold f_X2_begin f_X1_begin
  rw [lq_e, lq_e, lq_e, lq_e, ob_e, lq_e]
  obtain ⟨⟨x, M8⟩, e, h2, h3, h4⟩ := begin_L hp (s1 (s1 (s1 (s1 (s1 M p 4 0) (p + 5) 0 a) (p + 5) 1 0) (p + 5) 2 0) p 8 0)
  rw [l0] at e ⊢
  rw [e, ob2_e, lq_e, drain_e, ob2_e, drain_e, ob2_e, drain_e, ob2_e]
  refine ⟨_, rfl, h2, fun c b q1 q2 q3 q4 q5 => ?_, ?_, ?_, ?_, ?_, ?_, ?_, ?_, ?_, ?_, fun t ht => ?_⟩
  · rw [s1_ne (by omega), s1_ne (by omega), s1_ne (by omega), s1_ne (by omega)]
    rw [h3 c b q3 q4, s1_ne (by omega), s1_ne (by omega), s1_ne (by omega), s1_ne (by omega), s1_ne (by omega)]
  · rw [s1_ne (by omega), s1_ne (by omega), s1_ne (by omega), s1_ne (by omega), h3 _ _ (by omega) (by omega), s1_ne (by omega), s1_ne (by omega), s1_ne (by omega), s1_ne (by omega), s1_eq]; rfl
  · rw [s1_ne (by omega), s1_ne (by omega), s1_ne (by omega), s1_ne (by omega), h3 _ _ (by omega) (by omega), s1_eq]; rfl
  · rw [s1_ne (by omega), s1_ne (by omega), s1_ne (by omega), s1_eq]
  · rw [s1_ne (by omega), s1_ne (by omega), s1_ne (by omega), s1_ne (by omega), h3 _ _ (by omega) (by omega), s1_ne (by omega), s1_ne (by omega), s1_ne (by omega), s1_eq]
  · rw [s1_ne (by omega), s1_ne (by omega), s1_ne (by omega), s1_ne (by omega), h3 _ _ (by omega) (by omega), s1_ne (by omega), s1_ne (by omega), s1_eq]; rfl
  · rw [s1_ne (by omega), s1_ne (by omega), s1_ne (by omega), s1_ne (by omega), h3 _ _ (by omega) (by omega), s1_ne (by omega), s1_eq]; rfl
  · rw [s1_ne (by omega), s1_ne (by omega), s1_eq]; rfl
  · rw [s1_ne (by omega), s1_eq]; rfl
  · rw [s1_eq]; rfl
  · rw [s1_ne (by omega), s1_ne (by omega), s1_ne (by omega), s1_ne (by omega), s1_ne (by omega), s1_ne (by omega), s1_ne (by omega), s1_ne (by omega)]
    exact h4 t ht
theorem begins_L2 (N : Mem) : ∃ r, f_X7_begins_L2 FU (nI 0) N = some r ∧ (r.2.2 = N.2 ∧ (∀ a b, a ≠ 177 → r.2.1 a b = N.1 a b) ∧ ∀ t, t < 340 → r.2.1 177 t = 0) := by
  refine loopE (fun n i x => f_X7_begins_L2 n (nI i) x) 340 (fun i (x : Mem) => x.2 = N.2 ∧ (∀ a b, a ≠ 177 → x.1 a b = N.1 a b) ∧ ∀ t, t < i → x.1 177 t = 0) _ ?_ ?_ 340 0 FU N (by omega) (FU_gt (by decide)) ⟨rfl, fun _ _ _ => rfl, fun t ht => absurd ht (by omega)⟩
  · intro n x hx
    refine ⟨(nI 340, x), ?_, hx⟩
    show f_X7_begins_L2 (n + 1) (nI 340) x = _
    unfold f_X7_begins_L2
    rw [l340, if_pos (nI_le (Nat.le_refl _) (by decide))]
  · intro n i x hi hx
    obtain ⟨h1, h2, h3⟩ := hx
    refine Or.inl ⟨s1 x 177 i 0, ?_, h1, fun a b q1 => ?_, fun t ht => ?_⟩
    · show f_X7_begins_L2 (n + 1) (nI i) x = f_X7_begins_L2 n (nI (i + 1)) _
      rw [f_X7_begins_L2]
      rw [l340, if_neg (nI_ge hi (by decide)), wr_n (by rw [ln_177]; omega) (by omega), ob_e, lq_e, l1, nI_add]
    · rw [s1_ne (by omega)]
      exact h2 a b q1
    · by_cases e : t = i
      · subst e; exact s1_eq
      · rw [s1_ne (by omega)]
        exact h3 t (by omega)
theorem begins_L31 (N : Mem) : ∃ r, f_X7_begins_L31 FU (nI 0) N = some r ∧ (r.2.2 = N.2 ∧ (∀ a b, ¬ (a = 177 ∧ 54 ≤ b ∧ b < 70 ∧ b % 2 = 0) → r.2.1 a b = N.1 a b) ∧ ∀ t, t < 8 → r.2.1 177 (54 + 2 * t) = 4) := by
  refine loopE (fun n i x => f_X7_begins_L31 n (nI i) x) 8 (fun i (x : Mem) => x.2 = N.2 ∧ (∀ a b, ¬ (a = 177 ∧ 54 ≤ b ∧ b < 70 ∧ b % 2 = 0) → x.1 a b = N.1 a b) ∧ ∀ t, t < i → x.1 177 (54 + 2 * t) = 4) _ ?_ ?_ 8 0 FU N (by omega) (FU_gt (by decide)) ⟨rfl, fun _ _ _ => rfl, fun t ht => absurd ht (by omega)⟩
  · intro n x hx
    refine ⟨(nI 8, x), ?_, hx⟩
    show f_X7_begins_L31 (n + 1) (nI 8) x = _
    unfold f_X7_begins_L31
    rw [l8, if_pos (nI_le (Nat.le_refl _) (by decide))]
  · intro n i x hi hx
    obtain ⟨h1, h2, h3⟩ := hx
    refine Or.inl ⟨s1 x 177 (54 + 2 * i) 4, ?_, h1, fun a b q1 => ?_, fun t ht => ?_⟩
    · show f_X7_begins_L31 (n + 1) (nI i) x = f_X7_begins_L31 n (nI (i + 1)) _
      rw [f_X7_begins_L31]
      rw [l8, if_neg (nI_ge hi (by decide)), l54, l2, pk_mul, nI_add, wr_n (by rw [ln_177]; omega) (by omega), ob_e, lq_e, l1, nI_add]
    · rw [s1_ne (by omega)]
      exact h2 a b q1
    · by_cases e : t = i
      · subst e; exact s1_eq
      · rw [s1_ne (by omega)]
        exact h3 t (by omega)
theorem beginsX (a : Int32) (N : Mem) : ∃ N', f_X7_begins a N = some N' ∧ N'.2 = N.2 ∧ (∀ c b, c ≠ 177 → N'.1 c b = N.1 c b) ∧ N'.1 177 1 = a ∧ (∀ t, t < 8 → N'.1 177 (54 + 2 * t) = 4) ∧ ∀ t, t < 340 → t ≠ 1 → ¬ (54 ≤ t ∧ t < 70 ∧ t % 2 = 0) → N'.1 177 t = nI 0 := by
  unfold f_X7_begins
  obtain ⟨⟨x, M4⟩, e, h1, h2, h3⟩ := begins_L2 N
  rw [l0, e, ob2_e, l1, wr_n (by rw [ln_177]; decide) (by decide), ob_e]
  obtain ⟨⟨y, M9⟩, e', k1, k2, k3⟩ := begins_L31 (s1 M4 177 1 a)
  rw [e', ob2_e]
  refine ⟨_, rfl, by rw [k1]; exact h1, fun c b q => ?_, ?_, k3, fun t q1 q2 q3 => ?_⟩
  · rw [k2 c b (by omega), s1_ne (by omega)]
    exact h2 c b q
  · rw [k2 _ _ (by omega)]; exact s1_eq
  · rw [k2 _ _ (by omega), s1_ne (by omega)]
    exact h3 t q1
theorem begin_rel {p : Nat} {a : Int32} {M N : Mem} (hp : isP p) (ha : oI a 0 40) (h7 : ∃ x, x < 8 ∧ M.1 p 7 = nI x) : ∃ M' N', f_X2_begin p a M = some M' ∧ f_X7_begins a N = some N' ∧ PRel M'.1 p (N'.1 177) ∧ M'.2 = M.2 ∧ (∀ c b, ¬ (c = p ∧ (b = 4 ∨ b = 8 ∨ b = 11)) → c ≠ p + 5 → c ≠ p + 33 → c ≠ p + 34 → ¬ ((c = p + 35 ∨ c = p + 37 ∨ c = p + 39) ∧ b = 3) → M'.1 c b = M.1 c b) ∧ N'.2 = N.2 ∧ (∀ c b, c ≠ 177 → N'.1 c b = N.1 c b) := by
  obtain ⟨M', eM, eM2, mo, m4, m8, m11, q0, q1, q2, t1, t2, t3, md⟩ := beginX (a := a) hp M
  obtain ⟨N', eN, eN2, no, n1, nd, n0⟩ := beginsX a N
  obtain ⟨x, hx, h7⟩ := h7
  refine ⟨M', N', eM, eN, ⟨0, by omega, m4, n0 0 (by omega) (by omega) (by omega), fun i hi => absurd hi (by omega), ⟨⟨by rw [q0, n1], by rw [q1, n0 2 (by omega) (by omega) (by omega)]; rfl, by rw [q2, n0 3 (by omega) (by omega) (by omega)]; rfl, by rw [n1]; exact ha, by rw [n0 (1 + 1) (by omega) (by omega) (by omega)]; decide, by rw [n0 (1 + 2) (by omega) (by omega) (by omega)]; decide⟩, fun i hi => absurd hi (by omega)⟩, ⟨fun t ht => ?_, ?_, ?_⟩, ⟨⟨0, by omega, t1, n0 70 (by omega) (by omega) (by omega), fun j hj => absurd hj (by omega)⟩, ⟨0, by omega, t2, n0 91 (by omega) (by omega) (by omega), fun j hj => absurd hj (by omega)⟩, ⟨0, by omega, t3, n0 122 (by omega) (by omega) (by omega), fun j hj => absurd hj (by omega)⟩, fun k hk hle => ?_⟩, ⟨0, x, by omega, hx, m8, n0 147 (by omega) (by omega) (by omega), ?_, fun k hk => absurd hk (by omega)⟩⟩, eM2, mo, eN2, no⟩
  · rw [(md t ht).1, (md t ht).2, nd t ht, n0 (54 + 2 * t + 1) (by omega) (by omega) (by omega)]
    exact ⟨rfl, rfl, by decide, by decide⟩
  · rw [m11, n0 53 (by omega) (by omega) (by omega)]; rfl
  · rw [n0 53 (by omega) (by omega) (by omega)]; decide
  · rw [n0 122 (by omega) (by omega) (by omega), nI_leI (by omega) (by omega)] at hle
    omega
  · rw [mo p 7 (by omega) (by omega) (by omega) (by omega) (by omega)]; exact h7
theorem op0 : opP0 Rel := by
  intro a1 M N hR
  unfold f_X6_puppet f_X7_puppet
  by_cases g1 : oI a1 0 40
  · rw [if_pos ((o_0_40 a1).mpr g1), if_neg (fun q => (y_0_40 a1).mp q g1)]
    obtain ⟨⟨n, hn, e1, e2, hS, hQ, hD, hT, hU⟩, hO⟩ := hR
    rw [lq_e, l0, rd_n (by rw [ln_177]; decide) (by decide), ob_e, e1, e2]
    obtain ⟨u, x, _, hx, _, _, h7, _⟩ := hU
    obtain ⟨M', N', eM, eN, hP, eM2, mo, eN2, no⟩ := begin_rel (p := 1) (N := N) (Or.inl rfl) g1 ⟨x, hx, h7⟩
    rw [eM, eN, ob_e, ob_e]
    exact ⟨_, _, _, rfl, rfl, hP, hO.congr (fun a b hab => mo a b (by unfold oC at hab; omega) (by unfold oC at hab; omega) (by unfold oC at hab; omega) (by unfold oC at hab; omega) (by unfold oC at hab; omega)) (by rw [eM2]) (fun a b hab => no a b (by unfold oM at hab; omega)) (by rw [eN2])⟩
  · rw [if_neg (fun q => g1 ((o_0_40 a1).mp q)), if_pos ((y_0_40 a1).mpr g1)]
    exact ⟨_, _, _, by rw [rBad, ob2_e], by rw [yBad, ob2_e], hR.bad⟩
