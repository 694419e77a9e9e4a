/-! two ways of seeking the a-th of some pairs -/
def cs (a : Int32) : List (Bool × Int32) → Nat → Nat ⊕ Int32
  | [], c => .inl c
  | (h, v) :: l, c => if h = true then (if nI c = a then .inr v else cs a l (c + 1)) else cs a l c
def ms (a : Int32) : List (Bool × Int32) → Nat → Int32 → Nat × Int32
  | [], c, x => (c, x)
  | (h, v) :: l, c, x => if h = true then ms a l (c + 1) (if nI c = a then v else x) else ms a l c x
def rw1 (h : Nat → Bool) (v : Nat → Int32) : Nat → Nat → List (Bool × Int32)
  | 0, _ => []
  | k + 1, j => (h j, v j) :: rw1 h v k (j + 1)
theorem cs_app (a : Int32) (l1 l2 : List (Bool × Int32)) (c : Nat) : cs a (l1 ++ l2) c = match cs a l1 c with | .inl c' => cs a l2 c' | .inr v => .inr v := by
  induction l1 generalizing c with
  | nil => rfl
  | cons p l ih =>
    obtain ⟨h, v⟩ := p
    show (if h = true then (if nI c = a then Sum.inr v else cs a (l ++ l2) (c + 1)) else cs a (l ++ l2) c) = _
    rw [cs]
    by_cases hh : h = true
    · rw [if_pos hh, if_pos hh]
      by_cases hc : nI c = a
      · rw [if_pos hc, if_pos hc]
      · rw [if_neg hc, if_neg hc]; exact ih (c + 1)
    · rw [if_neg hh, if_neg hh]; exact ih c
theorem ms_app (a : Int32) (l1 l2 : List (Bool × Int32)) (c : Nat) (x : Int32) : ms a (l1 ++ l2) c x = ms a l2 (ms a l1 c x).1 (ms a l1 c x).2 := by
  induction l1 generalizing c x with
  | nil => rfl
  | cons p l ih =>
    obtain ⟨h, v⟩ := p
    show (if h = true then ms a (l ++ l2) (c + 1) (if nI c = a then v else x) else ms a (l ++ l2) c x) = _
    rw [ms]
    by_cases hh : h = true
    · rw [if_pos hh, if_pos hh]; exact ih _ _
    · rw [if_neg hh, if_neg hh]; exact ih _ _
theorem ms_len (a : Int32) (l : List (Bool × Int32)) (c : Nat) (x : Int32) : c ≤ (ms a l c x).1 ∧ (ms a l c x).1 ≤ c + l.length := by
  induction l generalizing c x with
  | nil => exact ⟨Nat.le_refl _, Nat.le_refl _⟩
  | cons p l ih =>
    obtain ⟨h, v⟩ := p
    rw [ms, List.length_cons]
    by_cases hh : h = true
    · rw [if_pos hh]; have := ih (c + 1) (if nI c = a then v else x); omega
    · rw [if_neg hh]; have := ih c x; omega
theorem cm_neg (l : List (Bool × Int32)) (c : Nat) (x : Int32) (hl : c + l.length < 1000) : cs (-1) l c = .inl (ms (-1) l c x).1 := by
  induction l generalizing c x with
  | nil => rfl
  | cons p l ih =>
    obtain ⟨h, v⟩ := p
    rw [List.length_cons] at hl
    rw [cs, ms]
    have hc : ¬ nI c = -1 := by
      intro q
      have := congrArg Int32.toInt q
      rw [nI_I (by omega), show ((-1 : Int32)).toInt = -1 by decide] at this
      omega
    by_cases hh : h = true
    · rw [if_pos hh, if_pos hh, if_neg hc, if_neg hc]; exact ih _ _ (by omega)
    · rw [if_neg hh, if_neg hh]; exact ih _ _ (by omega)
theorem ms_past {t : Nat} (ht : t < 2147483648) (l : List (Bool × Int32)) (c : Nat) (x : Int32) (hl : c + l.length < 1000) (hc : t < c) : (ms (nI t) l c x).2 = x := by
  induction l generalizing c x with
  | nil => rfl
  | cons p l ih =>
    obtain ⟨h, v⟩ := p
    rw [List.length_cons] at hl
    rw [ms]
    by_cases hh : h = true
    · rw [if_pos hh, if_neg (fun q => by have := (nI_eq (by omega) (by omega)).mp q; omega)]; exact ih _ _ (by omega) (by omega)
    · rw [if_neg hh]; exact ih _ _ (by omega) hc
theorem cm_pos {t : Nat} (ht : t < 2147483648) (l : List (Bool × Int32)) (c : Nat) (x : Int32) (hl : c + l.length < 1000) (hc : c ≤ t) : (∃ c', c' ≤ t ∧ cs (nI t) l c = .inl c' ∧ (ms (nI t) l c x).1 = c') ∨ (∃ v, cs (nI t) l c = .inr v ∧ (ms (nI t) l c x).2 = v ∧ t < (ms (nI t) l c x).1) := by
  induction l generalizing c x with
  | nil => exact Or.inl ⟨c, hc, rfl, rfl⟩
  | cons p l ih =>
    obtain ⟨h, v⟩ := p
    rw [List.length_cons] at hl
    rw [cs, ms]
    by_cases hh : h = true
    · rw [if_pos hh, if_pos hh]
      by_cases e : c = t
      · subst e
        rw [if_pos rfl, if_pos rfl]
        exact Or.inr ⟨v, rfl, ms_past ht l (c + 1) v (by omega) (by omega), by have := (ms_len (nI c) l (c + 1) v).1; omega⟩
      · rw [if_neg (fun q => e ((nI_eq (by omega) (by omega)).mp q)), if_neg (fun q => e ((nI_eq (by omega) (by omega)).mp q))]
        exact ih (c + 1) x (by omega) (by omega)
    · rw [if_neg hh, if_neg hh]; exact ih c x (by omega) hc
def ans (a : Int32) : Nat ⊕ Int32 → Int32
  | .inl c => if a = -1 then nI c else -5
  | .inr v => v
theorem ans_e {a : Int32} (ha : ((-1) : Int32) ≤ a) (l : List (Bool × Int32)) (x : Int32) (hl : l.length < 1000) : ans a (cs a l 0) = f_X7_found (nI (ms a l 0 x).1) a (ms a l 0 x).2 := by
  unfold f_X7_found
  have hm := ms_len a l 0 x
  by_cases h0 : (0 : Int32) ≤ a
  · rw [if_pos h0]
    obtain ⟨t, ht, rfl⟩ := nI_of (x := a) (by rw [ilt]; exact h0)
    rcases cm_pos ht l 0 x (by omega) (by omega) with ⟨c', h1, h2, h3⟩ | ⟨v, h1, h2, h3⟩
    · rw [h2, h3, if_pos (nI_le h1 ht)]
      show (if nI t = -1 then nI c' else -5) = (-5 : Int32)
      rw [if_neg]
      intro q
      have := congrArg Int32.toInt q
      rw [nI_I (by omega), show ((-1 : Int32)).toInt = -1 by decide] at this
      omega
    · rw [h1, h2, if_neg (nI_ge h3 (by omega))]
      rfl
  · rw [if_neg h0]
    have ea : a = -1 := by
      rw [← Int32.toInt_inj]
      rw [Int32.le_iff_toInt_le] at h0 ha
      rw [show (0 : Int32).toInt = 0 by decide] at h0
      rw [show (-1 : Int32).toInt = -1 by decide] at ha ⊢
      omega
    subst ea
    rw [cm_neg l 0 x (by omega)]
    rfl
theorem row_len (h : Nat → Bool) (v : Nat → Int32) (k j : Nat) : (rw1 h v k j).length = k := by
  induction k generalizing j with
  | zero => rfl
  | succ k ih => rw [rw1, List.length_cons, ih]
/-! touching limbs -/
def tin (a : Int32) (M : Mem) : Nat ⊕ Int32 → (Int32) ⊕ (Int32 × Mem)
  | .inl c => .inl (nI c)
  | .inr v => .inr (v, M)
theorem touching_rel {M N : Mem} {n i j : Nat} (hn : n ≤ 7) (hi : i < n) (hj : j < n) (hS : Sta M.1 1 (N.1 177) n) (hQ : Pos M.1 (1 + 5) (N.1 177) 1 8 7 n 9999) : ∃ b : Bool, f_X6_touching (nI i) (nI j) M = some (if b = true then 1 else 0) ∧ ∀ (F : Int32 → Int32 → Option (Int32 × Int32)) (x8 x9 a1 x3 x10 : Int32), (ob (f_X7_isSnapped (nI i) N) (fun x14 => ob2 (if x14 = (0 : Int32) then (ob (f_X7_isSnapped (nI j) N) (fun x15 => if x15 = (0 : Int32) then (ob (f_X7_high (nI i) N) (fun x16 => ob (f_X7_high (nI j) N) (fun x17 => if x16 = x17 then (lq (if x8 = a1 then (((10 : Int32) * x3) + x10) else x9) (fun x19 => lq (x8 + (1 : Int32)) (fun x20 => some (x20, x19)))) else (some (x8, x9))))) else (some (x8, x9)))) else (some (x8, x9))) F)) = if b = true then F (x8 + 1) (if x8 = a1 then (((10 : Int32) * x3) + x10) else x9) else F x8 x9 := by
  obtain ⟨L1, L2, L3, L4, L5⟩ := hQ.2 i hi
  obtain ⟨K1, K2, K3, K4, K5⟩ := hQ.2 j hj
  obtain ⟨x, x1, x2⟩ := highIn_rel (q := 6) (Or.inl rfl) hn hi hS hQ
  obtain ⟨y, y1, y2⟩ := highIn_rel (q := 6) (Or.inl rfl) hn hj hS hQ
  have x1 : f_X2_highIn 1 (1 + 5) (nI i) M = some x := x1
  have y1 : f_X2_highIn 1 (1 + 5) (nI j) M = some y := y1
  have hM : f_X6_touching (nI i) (nI j) M = if snp (N.1 177 (8 + 7 * i + 1)) = 0 then (if snp (N.1 177 (8 + 7 * j + 1)) = 0 then (if x = y then some 1 else some 0) else some 0) else some 0 := by
    unfold f_X6_touching f_X2_wornOf
    rw [cell_n (show i < ln (1 + 5 + 2) from by show i < 7; omega) (by decide), ob_e, ob_e, cell_n (show j < ln (1 + 5 + 2) from by show j < 7; omega) (by decide), ob_e, ob_e, snapM, snapM, L2, K2, x1, y1, ob_e, ob_e]
  by_cases c1 : snp (N.1 177 (8 + 7 * i + 1)) = 0
  · by_cases c2 : snp (N.1 177 (8 + 7 * j + 1)) = 0
    · by_cases c3 : x = y
      · refine ⟨true, by rw [hM, if_pos c1, if_pos c2, if_pos c3, if_pos rfl], fun F x8 x9 a1 x3 x10 => ?_⟩
        rw [snapN (by omega) L5, snapN (by omega) K5, ob_e, ob_e, if_pos c1, if_pos c2, x2, y2, ob_e, ob_e, if_pos c3, lq_e, lq_e, ob2_e, if_pos rfl]
      · refine ⟨false, by rw [hM, if_pos c1, if_pos c2, if_neg c3, if_neg (by decide)], fun F x8 x9 a1 x3 x10 => ?_⟩
        rw [snapN (by omega) L5, snapN (by omega) K5, ob_e, ob_e, if_pos c1, if_pos c2, x2, y2, ob_e, ob_e, if_neg c3, ob2_e, if_neg (by decide)]
    · refine ⟨false, by rw [hM, if_pos c1, if_neg c2, if_neg (by decide)], fun F x8 x9 a1 x3 x10 => ?_⟩
      rw [snapN (by omega) L5, snapN (by omega) K5, ob_e, ob_e, if_pos c1, if_neg c2, ob2_e, if_neg (by decide)]
  · refine ⟨false, by rw [hM, if_neg c1, if_neg (by decide)], fun F x8 x9 a1 x3 x10 => ?_⟩
    rw [snapN (by omega) L5, ob_e, if_neg c1, ob2_e, if_neg (by decide)]
