/-! LEVEL 2: the two tellings side by side -/
abbrev oI (a : Int32) (lo hi : Int) : Prop := lo ≤ a.toInt ∧ a.toInt ≤ hi
theorem lq_e {α β : Type} (e : α) (f : α → β) : lq e f = f e := rfl
theorem ob_e {α β : Type} (a : α) (f : α → Option β) : ob (some a) f = f a := rfl
theorem ob2_e {α β γ : Type} (a : α) (b : β) (f : α → β → Option γ) : ob2 (some (a, b)) f = f a b := rfl
theorem ob3_e {α β γ δ : Type} (a : α) (b : β) (c : γ) (f : α → β → γ → Option δ) : ob3 (some (a, b, c)) f = f a b c := rfl
theorem ob4_e {α β γ δ ε : Type} (a : α) (b : β) (c : γ) (d : δ) (f : α → β → γ → δ → Option ε) : ob4 (some (a, b, c, d)) f = f a b c d := rfl
theorem ob5_e {α β γ δ ε ζ : Type} (a : α) (b : β) (c : γ) (d : δ) (e : ε) (f : α → β → γ → δ → ε → Option ζ) : ob5 (some (a, b, c, d, e)) f = f a b c d e := rfl
theorem oeT1_l {α ρ : Type} (y : α) (f : α → Option ρ) : oeT1 (some (.inl y)) f = f y := rfl
theorem oeT1_r {α ρ : Type} (r : ρ) (f : α → Option ρ) : oeT1 (some (.inr r)) f = some r := rfl
theorem oeT2_l {α β ρ : Type} (a : α) (b : β) (f : α → β → Option ρ) : oeT2 (some (.inl (a, b))) f = f a b := rfl
theorem oeT2_r {α β ρ : Type} (r : ρ) (f : α → β → Option ρ) : oeT2 (some (.inr r)) f = some r := rfl
theorem oeT3_l {α β γ ρ : Type} (a : α) (b : β) (c : γ) (f : α → β → γ → Option ρ) : oeT3 (some (.inl (a, b, c))) f = f a b c := rfl
theorem oeT3_r {α β γ ρ : Type} (r : ρ) (f : α → β → γ → Option ρ) : oeT3 (some (.inr r)) f = some r := rfl
theorem oeI1_l {α τ ρ : Type} (y : α) (f : α → Option (τ ⊕ ρ)) : oeI1 (some (.inl y)) f = f y := rfl
theorem oeI1_r {α τ ρ : Type} (r : ρ) (f : α → Option (τ ⊕ ρ)) : oeI1 (some (.inr r)) f = some (.inr r) := rfl
theorem oeI2_l {α β τ ρ : Type} (a : α) (b : β) (f : α → β → Option (τ ⊕ ρ)) : oeI2 (some (.inl (a, b))) f = f a b := rfl
theorem oeI2_r {α β τ ρ : Type} (r : ρ) (f : α → β → Option (τ ⊕ ρ)) : oeI2 (some (.inr r)) f = some (.inr r) := rfl
theorem nI_ok {a k : Nat} (h : k < ln a) (h2 : k < 2147483648) : ¬ (nI k < 0 ∨ ln a ≤ (nI k).toNatClampNeg) := by
  intro q
  rcases q with q | q
  · exact nI_pos (show k < 2 ^ 31 from h2) q
  · rw [nI_clamp (show k < 2 ^ 31 from h2)] at q; omega
theorem rd_n {M : Mem} {a k : Nat} (h : k < ln a) (h2 : k < 2147483648) : rd M a (nI k) = some (M.1 a k) := by
  unfold rd
  rw [if_neg (nI_ok h h2), nI_clamp (show k < 2 ^ 31 from h2)]
theorem wr_n {M : Mem} {a k : Nat} {v : Int32} (h : k < ln a) (h2 : k < 2147483648) : wr M a (nI k) v = some (s1 M a k v) := by
  unfold wr
  rw [if_neg (nI_ok h h2), nI_clamp (show k < 2 ^ 31 from h2)]
theorem s1_at (M : Mem) (k j : Nat) (v : Int32) (a b : Nat) : (s1 M k j v).1 a b = if a = k then (if b = j then v else M.1 a b) else M.1 a b := rfl
theorem s1_2 (M : Mem) (k j : Nat) (v : Int32) : (s1 M k j v).2 = M.2 := rfl
theorem s2_1 (M : Mem) (k j : Nat) (v : Int64) : (s2 M k j v).1 = M.1 := rfl
theorem s2_at (M : Mem) (k j : Nat) (v : Int64) (a b : Nat) : (s2 M k j v).2 a b = if a = k then (if b = j then v else M.2 a b) else M.2 a b := rfl
theorem lit_n (n : Nat) : (OfNat.ofNat n : Int32) = nI (OfNat.ofNat n) := rfl
/-! the layout's lengths -/
theorem ln_177 : ln 177 = 340 := rfl
theorem ln_178 : ln 178 = 150 := rfl
theorem ln_179 : ln 179 = 340 := rfl
theorem ln_180 : ln 180 = 53 := rfl
theorem ln_181 : ln 181 = 10 := rfl
theorem ln_182 : ln 182 = 25 := rfl
theorem ln_183 : ln 183 = 25 := rfl
theorem ln_184 : ln 184 = 680 := rfl
theorem ln_166 : ln 166 = 150 := rfl
theorem ln_168 : ln 168 = 5 := rfl
theorem ln_170 : ln 170 = 25 := rfl
theorem ln_171 : ln 171 = 25 := rfl
theorem ln_173 : ln 173 = 7 := rfl
theorem ln_174 : ln 174 = 7 := rfl
theorem ln_175 : ln 175 = 9 := rfl
def isP (p : Nat) : Prop := p = 1 ∨ p = 42 ∨ p = 83 ∨ p = 124
theorem ln_p {p : Nat} (h : isP p) : ln (p + 1) = 7 ∧ ln (p + 2) = 7 ∧ ln (p + 3) = 7 ∧ ln (p + 4) = 7 ∧ ln (p + 6) = 7 ∧ ln (p + 7) = 7 ∧ ln (p + 33) = 8 ∧ ln (p + 34) = 8 ∧ ln (p + 36) = 20 ∧ ln (p + 38) = 30 ∧ ln (p + 40) = 24 := by
  rcases h with rfl | rfl | rfl | rfl <;> exact ⟨rfl, rfl, rfl, rfl, rfl, rfl, rfl, rfl, rfl, rfl, rfl⟩
/-- a pose's rows hold seven -/
def isQ (q : Nat) : Prop := kd q = 1
theorem ln_q : ∀ q : Nat, q < 185 → kd q = 1 → ln (q + 1) = 7 ∧ ln (q + 2) = 7 := by decide +kernel
theorem ln_q1 {q : Nat} (h : kd q = 1) : ln (q + 1) = 7 := (ln_q q (kd_lt h (by decide)) h).1
theorem ln_q2 {q : Nat} (h : kd q = 1) : ln (q + 2) = 7 := (ln_q q (kd_lt h (by decide)) h).2
/-! tests of arguments -/
theorem out_e (a b c : Int32) : f_X6_outside a b c = if b.toInt ≤ a.toInt ∧ a.toInt ≤ c.toInt then 0 else 1 := by
  unfold f_X6_outside
  simp only [Int32.lt_iff_toInt_lt, Int32.le_iff_toInt_le]
  by_cases h1 : a.toInt < b.toInt
  · rw [if_pos h1, if_neg (by omega)]
  · rw [if_neg h1]
    by_cases h2 : a.toInt ≤ c.toInt
    · rw [if_pos h2, if_pos ⟨by omega, h2⟩]
    · rw [if_neg h2, if_neg (by omega)]
theorem lg_lt (x y : Int64) : (lg_cmp x y < 0) ↔ x.toInt < y.toInt := by
  have h := lg_cmp_ge x y
  rw [Int64.le_iff_toInt_le] at h
  constructor
  · intro q
    rcases Int.lt_or_le x.toInt y.toInt with c | c
    · exact c
    · have h1 := h.mpr c
      rw [Int32.le_iff_toInt_le] at h1
      rw [Int32.lt_iff_toInt_lt] at q
      omega
  · intro q
    by_cases c : lg_cmp x y < 0
    · exact c
    · have h1 : 0 ≤ lg_cmp x y := by rw [Int32.le_iff_toInt_le]; rw [Int32.lt_iff_toInt_lt] at c; omega
      have := h.mp h1
      omega
theorem lg_gt (x y : Int64) : (0 < lg_cmp x y) ↔ y.toInt < x.toInt := by
  unfold lg_cmp
  by_cases c : x > y
  · rw [if_pos c]
    have c2 : y < x := c
    rw [Int64.lt_iff_toInt_lt] at c2
    exact ⟨fun _ => c2, fun _ => by decide⟩
  · rw [if_neg c]
    have c2 : ¬ y < x := c
    rw [Int64.lt_iff_toInt_lt] at c2
    refine ⟨fun q => ?_, fun q => absurd q c2⟩
    by_cases e : x = y
    · rw [if_pos e] at q; exact absurd q (by decide)
    · rw [if_neg e] at q; exact absurd q (by decide)
theorem lg_eq (x y : Int64) : (lg_cmp x y = 0) ↔ x = y := by
  unfold lg_cmp
  by_cases c : x > y
  · rw [if_pos c]
    have c2 : y < x := c
    rw [Int64.lt_iff_toInt_lt] at c2
    exact ⟨fun q => absurd q (by decide), fun q => by rw [q] at c2; omega⟩
  · rw [if_neg c]
    by_cases e : x = y
    · rw [if_pos e]; exact ⟨fun _ => e, fun _ => rfl⟩
    · rw [if_neg e]; exact ⟨fun q => absurd q (by decide), fun q => absurd q e⟩
theorem in_e (a b c : Int64) : f_X7_in a b c = if b.toInt ≤ a.toInt ∧ a.toInt ≤ c.toInt then 1 else 0 := by
  unfold f_X7_in
  by_cases h1 : a.toInt < b.toInt
  · rw [if_pos ((lg_lt _ _).mpr h1), if_neg (by omega)]
  · rw [if_neg (fun q => h1 ((lg_lt _ _).mp q))]
    by_cases h2 : c.toInt < a.toInt
    · rw [if_pos ((lg_gt _ _).mpr h2), if_neg (by omega)]
    · rw [if_neg (fun q => h2 ((lg_gt _ _).mp q)), if_pos (by omega)]
theorem wide (a : Int32) : a.toInt64.toInt = a.toInt := Int32.toInt_toInt64 a
theorem z01 {c : Prop} [Decidable c] : ((if c then (0 : Int32) else 1) = 0) ↔ c := by
  by_cases h : c
  · rw [if_pos h]; exact ⟨fun _ => h, fun _ => rfl⟩
  · rw [if_neg h]; exact ⟨fun q => absurd q (by decide), fun q => absurd q h⟩
theorem z10 {c : Prop} [Decidable c] : ((if c then (1 : Int32) else 0) = 0) ↔ ¬ c := by
  by_cases h : c
  · rw [if_pos h]; exact ⟨fun q => absurd q (by decide), fun q => absurd h q⟩
  · rw [if_neg h]; exact ⟨fun _ => h, fun _ => rfl⟩
theorem out_0 {a b c : Int32} {lo hi : Int} (hb : b.toInt = lo) (hc : c.toInt = hi) : (f_X6_outside a b c = 0) ↔ oI a lo hi := by
  rw [out_e, z01, hb, hc]
theorem in_0 {a b c : Int64} {x : Int32} {lo hi : Int} (ha : a.toInt = x.toInt) (hb : b.toInt = lo) (hc : c.toInt = hi) : (f_X7_in a b c = 0) ↔ ¬ oI x lo hi := by
  rw [in_e, z10, ha, hb, hc]
/-! a limb's number -/
theorem nI_oI {a : Int32} {n : Nat} (h : oI a 0 ((n : Int) - 1)) (hn : n ≤ 200000) : ∃ k : Nat, k < n ∧ a = nI k := by
  refine ⟨a.toInt.toNat, by omega, ?_⟩
  have h1 : a.toInt = ((a.toInt.toNat : Nat) : Int) := by omega
  rw [← Int32.toInt_inj, nI_toInt (by omega)]
  exact h1
theorem nI_sub1 {n : Nat} (hn : n ≤ 200000) : (nI n - 1).toInt = (n : Int) - 1 := pk_sub_toInt (a := n) (b := 1) (by omega) (by decide)
theorem nI_I {n : Nat} (h : n < 2147483648) : (nI n).toInt = (n : Int) := nI_toInt (show n < 2 ^ 31 from h)
theorem oI_nI {k : Nat} {lo hi : Int} (h : k < 2147483648) : oI (nI k) lo hi ↔ lo ≤ (k : Int) ∧ (k : Int) ≤ hi := by
  unfold oI; rw [nI_I h]
/-! rows of the class -/
theorem cell_n {M : Mem} {o k : Nat} (h : k < ln o) (hl : ln o ≤ 1000) : f_X6_cell o (nI k) M = some (M.1 o k) := by
  unfold f_X6_cell
  rw [lit_n, if_neg (nI_nlt (Nat.zero_le _) (by omega)), if_neg (by rw [nI_leI (by omega) (by omega)]; omega), rd_n h (by omega)]
  rfl
theorem put_n {M : Mem} {o k : Nat} {v : Int32} (h : k < ln o) (hl : ln o ≤ 1000) : f_X6_put o (nI k) v M = some (s1 M o k v) := by
  unfold f_X6_put
  rw [lit_n, if_neg (nI_nlt (Nat.zero_le _) (by omega)), if_neg (by rw [nI_leI (by omega) (by omega)]; omega), wr_n h (by omega)]
  rfl
theorem limbOf_n {N : Mem} {i w : Nat} (h : 4 + 7 * i + w < 340) : f_X7_limbOf (nI i) (nI w) N = some (N.1 177 (4 + 7 * i + w)) := by
  unfold f_X7_limbOf
  rw [lit_n, lit_n, pk_mul, nI_add, nI_add, rd_n (by rw [ln_177]; exact h) (by omega)]
  rfl
theorem sets_n {N : Mem} {i w : Nat} {v : Int32} (h : 4 + 7 * i + w < 340) : f_X7_sets (nI i) (nI w) v N = some (s1 N 177 (4 + 7 * i + w) v) := by
  unfold f_X7_sets
  rw [lit_n, lit_n, pk_mul, nI_add, nI_add, wr_n (by rw [ln_177]; exact h) (by omega)]
  rfl
/-! loops that count -/
def itr {σ : Type} (g : Nat → σ → σ) : Nat → Nat → σ → σ
  | _, 0, x => x
  | i, k + 1, x => itr g (i + 1) k (g i x)
theorem loop1 {σ τ : Type} (L : Nat → Nat → σ → Option τ) (e : Nat) (g : Nat → σ → σ) (fin : σ → τ) (I : Nat → σ → Prop) (hx : ∀ n x, I e x → L (n + 1) e x = some (fin x)) (hs : ∀ n i x, i < e → I i x → L (n + 1) i x = L n (i + 1) (g i x) ∧ I (i + 1) (g i x)) : ∀ (k i n : Nat) (x : σ), i + k = e → k < n → I i x → L n i x = some (fin (itr g i k x)) ∧ I e (itr g i k x) := by
  intro k
  induction k with
  | zero =>
    intro i n x hk hn hI
    obtain ⟨n', rfl⟩ : ∃ n', n = n' + 1 := ⟨n - 1, by omega⟩
    have hie : i = e := by omega
    subst hie
    exact ⟨hx n' x hI, hI⟩
  | succ k ih =>
    intro i n x hk hn hI
    obtain ⟨n', rfl⟩ : ∃ n', n = n' + 1 := ⟨n - 1, by omega⟩
    obtain ⟨h1, h2⟩ := hs n' i x (by omega) hI
    rw [h1]
    exact ih (i + 1) n' (g i x) (by omega) (by omega) h2
/-- what a counting loop keeps, step by step -/
theorem itr_ind {σ : Type} {g : Nat → σ → σ} (P : Nat → σ → Prop) : ∀ (k i : Nat) (x : σ), P i x → (∀ j y, i ≤ j → j < i + k → P j y → P (j + 1) (g j y)) → P (i + k) (itr g i k x) := by
  intro k
  induction k with
  | zero => intro i x h _; exact h
  | succ k ih =>
    intro i x h hs
    have := ih (i + 1) (g i x) (hs i x (Nat.le_refl _) (by omega) h) (fun j y h1 h2 h3 => hs j y (by omega) (by omega) h3)
    rw [show i + (k + 1) = i + 1 + k by omega]
    exact this
