def tT (M : Mem) (i j : Nat) : Bool := decide (f_X6_touching (nI i) (nI j) M = some 1)
def tV (i j : Nat) : Int32 := ((10 : Int32) * nI i) + nI j
def rws (M : Mem) (n : Nat) : Nat → Nat → List (Bool × Int32)
  | 0, _ => []
  | k + 1, i => rw1 (tT M i) (tV i) (n - (i + 1)) (i + 1) ++ rws M n k (i + 1)
theorem rws_len (M : Mem) (n k i : Nat) : (rws M n k i).length ≤ k * n := by
  induction k generalizing i with
  | zero => exact Nat.zero_le _
  | succ k ih =>
    rw [rws, List.length_append, row_len, Nat.succ_mul]
    have := ih (i + 1)
    omega
theorem touch_in_c {a1 : Int32} {M N : Mem} {n i : Nat} (hn : n ≤ 7) (hi : i < n) (e1 : M.1 1 4 = nI n) (hS : Sta M.1 1 (N.1 177) n) (hQ : Pos M.1 (1 + 5) (N.1 177) 1 8 7 n 9999) : ∀ (k j f c : Nat), j + k = n → k < f → f_X6_touch_L32 a1 M (nI i) f (nI c) (nI j) = some (tin a1 M (cs a1 (rw1 (tT M i) (tV i) k j) c)) := by
  intro k
  induction k with
  | zero =>
    intro j f c hj hf
    obtain ⟨f', rfl⟩ : ∃ f', f = f' + 1 := ⟨f - 1, by omega⟩
    have : j = n := by omega
    subst this
    rw [f_X6_touch_L32]
    rw [e1, if_pos (nI_le (Nat.le_refl _) (by omega))]
    rfl
  | succ k ih =>
    intro j f c hj hf
    obtain ⟨f', rfl⟩ : ∃ f', f = f' + 1 := ⟨f - 1, by omega⟩
    obtain ⟨b, hb, _⟩ := touching_rel hn hi (show j < n by omega) hS hQ
    rw [f_X6_touch_L32]
    rw [e1, if_neg (nI_ge (by omega) (by omega)), hb, ob_e, rw1, cs]
    cases b with
    | false =>
      rw [if_neg (show ¬ (false = true) by decide), if_pos rfl, lq_e, l1, nI_add]
      have : tT M i j = false := by
        unfold tT
        rw [hb]; decide
      rw [this, if_neg (show ¬ (false = true) by decide)]
      exact ih (j + 1) f' c (by omega) (by omega)
    | true =>
      have : tT M i j = true := by
        unfold tT
        rw [hb]; decide
      rw [this, if_pos rfl, if_pos rfl, if_neg (show ¬ (1 : Int32) = 0 by decide)]
      by_cases e : nI c = a1
      · rw [if_pos e, if_pos e]; rfl
      · rw [if_neg e, if_neg e, lq_e, lq_e, l1, nI_add, nI_add]
        exact ih (j + 1) f' (c + 1) (by omega) (by omega)
theorem touch_in_m {a1 : Int32} {M N : Mem} {n i : Nat} (hn : n ≤ 7) (hi : i < n) (e2 : N.1 177 0 = nI n) (hS : Sta M.1 1 (N.1 177) n) (hQ : Pos M.1 (1 + 5) (N.1 177) 1 8 7 n 9999) : ∀ (k j f c : Nat) (x : Int32), j + k = n → k < f → f_X7_touch_L34 a1 N (nI i) f (nI c) x (nI j) = some (nI (ms a1 (rw1 (tT M i) (tV i) k j) c x).1, (ms a1 (rw1 (tT M i) (tV i) k j) c x).2) := by
  intro k
  induction k with
  | zero =>
    intro j f c x hj hf
    obtain ⟨f', rfl⟩ : ∃ f', f = f' + 1 := ⟨f - 1, by omega⟩
    have : j = n := by omega
    subst this
    rw [f_X7_touch_L34]
    rw [l0, rd_n (hb177 (by decide)) (by decide), ob_e, e2, if_pos (nI_le (Nat.le_refl _) (by omega))]
    rfl
  | succ k ih =>
    intro j f c x hj hf
    obtain ⟨f', rfl⟩ : ∃ f', f = f' + 1 := ⟨f - 1, by omega⟩
    obtain ⟨b, hb, hF⟩ := touching_rel hn hi (show j < n by omega) hS hQ
    rw [f_X7_touch_L34]
    rw [show rd N 177 (0 : Int32) = some (nI n) from by rw [l0, rd_n (hb177 (by decide)) (by decide), e2], ob_e, if_neg (nI_ge (by omega) (by omega)), hF, rw1, ms]
    cases b with
    | false =>
      have : tT M i j = false := by
        unfold tT
        rw [hb]; decide
      rw [this, if_neg (show ¬ (false = true) by decide), if_neg (show ¬ (false = true) by decide), lq_e, nI_1]
      exact ih (j + 1) f' c x (by omega) (by omega)
    | true =>
      have : tT M i j = true := by
        unfold tT
        rw [hb]; decide
      rw [this, if_pos rfl, if_pos rfl, lq_e, nI_1, nI_1]
      exact ih (j + 1) f' (c + 1) _ (by omega) (by omega)
theorem touch_c {a1 : Int32} {M N : Mem} {n : Nat} (hn : n ≤ 7) (e1 : M.1 1 4 = nI n) (hS : Sta M.1 1 (N.1 177) n) (hQ : Pos M.1 (1 + 5) (N.1 177) 1 8 7 n 9999) : ∀ (k i f c : Nat), i + k = n → k < f → f_X6_touch_L16 a1 M f (nI c) (nI i) = some (tin a1 M (cs a1 (rws M n k i) c)) := by
  intro k
  induction k with
  | zero =>
    intro i f c hj hf
    obtain ⟨f', rfl⟩ : ∃ f', f = f' + 1 := ⟨f - 1, by omega⟩
    have : i = n := by omega
    subst this
    rw [f_X6_touch_L16]
    rw [e1, if_pos (nI_le (Nat.le_refl _) (by omega))]
    rfl
  | succ k ih =>
    intro i f c hj hf
    obtain ⟨f', rfl⟩ : ∃ f', f = f' + 1 := ⟨f - 1, by omega⟩
    rw [f_X6_touch_L16]
    rw [e1, if_neg (nI_ge (by omega) (by omega)), lq_e, l1, nI_add, touch_in_c hn (by omega) e1 hS hQ (n - (i + 1)) (i + 1) FU c (by omega) (FU_gt (by omega)), rws, cs_app]
    cases cs a1 (rw1 (tT M i) (tV i) (n - (i + 1)) (i + 1)) c with
    | inl c' =>
      show oeI1 (some (Sum.inl (nI c'))) _ = _
      rw [oeI1_l, lq_e]
      exact ih (i + 1) f' c' (by omega) (by omega)
    | inr v => rfl
theorem touch_m {a1 : Int32} {M N : Mem} {n : Nat} (hn : n ≤ 7) (e2 : N.1 177 0 = nI n) (hS : Sta M.1 1 (N.1 177) n) (hQ : Pos M.1 (1 + 5) (N.1 177) 1 8 7 n 9999) : ∀ (k i f c : Nat) (x : Int32), i + k = n → k < f → f_X7_touch_L17 a1 N f (nI c) x (nI i) = some (nI (ms a1 (rws M n k i) c x).1, (ms a1 (rws M n k i) c x).2) := by
  intro k
  induction k with
  | zero =>
    intro i f c x hj hf
    obtain ⟨f', rfl⟩ : ∃ f', f = f' + 1 := ⟨f - 1, by omega⟩
    have : i = n := by omega
    subst this
    rw [f_X7_touch_L17]
    rw [l0, rd_n (hb177 (by decide)) (by decide), ob_e, e2, if_pos (nI_le (Nat.le_refl _) (by omega))]
    rfl
  | succ k ih =>
    intro i f c x hj hf
    obtain ⟨f', rfl⟩ : ∃ f', f = f' + 1 := ⟨f - 1, by omega⟩
    rw [f_X7_touch_L17]
    rw [l0, rd_n (hb177 (by decide)) (by decide), ob_e, e2, if_neg (nI_ge (by omega) (by omega)), lq_e, l1, nI_add, touch_in_m hn (by omega) e2 hS hQ (n - (i + 1)) (i + 1) FU c x (by omega) (FU_gt (by omega)), ob2_e, lq_e, rws, ms_app]
    exact ih (i + 1) f' _ _ (by omega) (by omega)
theorem op10 : opP10 Rel := by
  intro a1 M N hR
  unfold f_X6_touch f_X7_touch
  obtain ⟨⟨n, hn, e1, e2, hS, hQ, hD, hT, hU⟩, hO⟩ := id hR
  by_cases g : ((-1) : Int32) ≤ a1
  · rw [if_pos g, if_pos g, l0, touch_c hn e1 hS hQ n 0 FU 0 (by omega) (FU_gt (by omega)), touch_m hn e2 hS hQ n 0 FU 0 (nI 0) (by omega) (FU_gt (by omega)), ob2_e]
    have hl : (rws M n n 0).length < 1000 := by
      have h1 := rws_len M n n 0
      have h2 : n * n ≤ 7 * 7 := Nat.mul_le_mul hn hn
      omega
    rw [← ans_e g (rws M n n 0) (nI 0) hl]
    refine ⟨_, M, N, ?_, rfl, hR⟩
    cases cs a1 (rws M n n 0) 0 with
    | inl c =>
      show oeT1 (some (Sum.inl (nI c))) _ = _
      rw [oeT1_l]
      show _ = some ((if a1 = -1 then nI c else -5), M)
      by_cases h : a1 = -1
      · rw [if_pos h, if_pos h]
      · rw [if_neg h, if_neg h]
    | inr v => rfl
  · rw [if_neg g, if_neg g, rBad, yTen, ob2_e, ob2_e]
    exact ⟨_, _, _, rfl, rfl, hR.bad⟩
