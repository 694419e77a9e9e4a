/-! words -/
def pkr : List Nat → Nat
  | [] => 0
  | c :: l => pkr l * 128 + c
def rl (ch : Nat → Nat) (s : Nat) : Nat → List Nat
  | 0 => []
  | k + 1 => ch (s + k) :: rl ch s k
theorem rl_len (ch : Nat → Nat) (s k : Nat) : (rl ch s k).length = k := by
  induction k with
  | zero => rfl
  | succ k ih => rw [rl, List.length_cons, ih]
theorem rl_eq {f g : Nat → Nat} {s u : Nat} : ∀ (n m : Nat), rl f s n = rl g u m ↔ (n = m ∧ ∀ j, j < n → f (s + j) = g (u + j)) := by
  intro n
  induction n with
  | zero =>
    intro m
    cases m with
    | zero => exact ⟨fun _ => ⟨rfl, fun j hj => absurd hj (by omega)⟩, fun _ => rfl⟩
    | succ m => exact ⟨fun q => (by cases q), fun q => absurd q.1 (by omega)⟩
  | succ n ih =>
    intro m
    cases m with
    | zero => exact ⟨fun q => (by cases q), fun q => absurd q.1 (by omega)⟩
    | succ m =>
      rw [rl, rl, List.cons.injEq, ih m]
      constructor
      · rintro ⟨h1, h2, h3⟩
        refine ⟨by omega, fun j hj => ?_⟩
        by_cases e : j = n
        · subst e; subst h2; exact h1
        · exact h3 j (by omega)
      · rintro ⟨h1, h2⟩
        have : n = m := by omega
        subst this
        exact ⟨h2 n (by omega), rfl, fun j hj => h2 j (by omega)⟩
def dg (l : List Nat) : Prop := ∀ c, c ∈ l → 1 ≤ c ∧ c < 128
theorem pkr_inj : ∀ (l1 l2 : List Nat), dg l1 → dg l2 → pkr l1 = pkr l2 → l1 = l2 := by
  intro l1
  induction l1 with
  | nil =>
    intro l2 _ h2 e
    cases l2 with
    | nil => rfl
    | cons c l =>
      have := h2 c (List.mem_cons_self)
      have e : 0 = pkr l * 128 + c := e
      omega
  | cons c l ih =>
    intro l2 h1 h2 e
    cases l2 with
    | nil =>
      have := h1 c (List.mem_cons_self)
      have e : pkr l * 128 + c = 0 := e
      omega
    | cons c' l' =>
      have a1 := h1 c (List.mem_cons_self)
      have a2 := h2 c' (List.mem_cons_self)
      have e : pkr l * 128 + c = pkr l' * 128 + c' := e
      have e1 : c = c' := by omega
      have e2 : pkr l = pkr l' := by omega
      rw [e1, ih l' (fun x hx => h1 x (List.mem_cons_of_mem _ hx)) (fun x hx => h2 x (List.mem_cons_of_mem _ hx)) e2]
theorem pkr_lt : ∀ (l : List Nat), dg l → pkr l < 128 ^ l.length := by
  intro l
  induction l with
  | nil => intro _; decide
  | cons c l ih =>
    intro h
    have a1 := h c (List.mem_cons_self)
    have a2 := ih (fun x hx => h x (List.mem_cons_of_mem _ hx))
    rw [List.length_cons, Nat.pow_succ]
    show pkr l * 128 + c < _
    omega
theorem rl_dg {ch : Nat → Nat} {s : Nat} : ∀ (n : Nat), (∀ j, j < n → 1 ≤ ch (s + j) ∧ ch (s + j) < 128) → dg (rl ch s n) := by
  intro n
  induction n with
  | zero => intro _ c hc; cases hc
  | succ n ih =>
    intro h c hc
    rw [rl, List.mem_cons] at hc
    rcases hc with rfl | hc
    · exact h n (by omega)
    · exact ih (fun j hj => h j (by omega)) c hc
def wln (o : Nat) : Nat := sLen.getD o 0
def wb (o j : Nat) : Nat := ((sByt.getD o []).getD j 0).toInt.toNat
def Wd (o : Nat) : List Nat := rl (wb o) 0 (wln o)
def wcL (L : List Nat) : Nat := if L = Wd 0 then 1 else if L = Wd 1 then 2 else if L = Wd 2 then 3 else if L = Wd 3 then 4 else if L = Wd 4 then 5 else 0
theorem Wd_c : ∀ i, i < 5 → ∀ o, o < 5 → (wcL (Wd i) = o + 1 ↔ Wd i = Wd o) := by decide +kernel
theorem Wd_dg : ∀ i, i < 5 → ((Wd i).all (fun c => decide (1 ≤ c ∧ c < 128))) = true := by decide +kernel
theorem Wd_dg' {i : Nat} (hi : i < 5) : dg (Wd i) := fun c hc => by
  have := List.all_eq_true.mp (Wd_dg i hi) c hc
  exact of_decide_eq_true this
theorem Wd_len : ∀ i, i < 5 → 3 ≤ (Wd i).length ∧ (Wd i).length ≤ 6 := by decide +kernel
theorem five {o : Nat} (h : o < 5) : o = 0 ∨ o = 1 ∨ o = 2 ∨ o = 3 ∨ o = 4 := by omega
theorem wc_n {L : List Nat} (h0 : ¬ L = Wd 0) (h1 : ¬ L = Wd 1) (h2 : ¬ L = Wd 2) (h3 : ¬ L = Wd 3) (h4 : ¬ L = Wd 4) : wcL L = 0 := by
  unfold wcL
  rw [if_neg h0, if_neg h1, if_neg h2, if_neg h3, if_neg h4]
theorem wc_o (L : List Nat) {o : Nat} (ho : o < 5) : wcL L = o + 1 ↔ L = Wd o := by
  by_cases h : ∃ i, i < 5 ∧ L = Wd i
  · obtain ⟨i, hi, rfl⟩ := h
    exact Wd_c i hi o ho
  · have hn : ∀ i, i < 5 → ¬ L = Wd i := fun i hi e => h ⟨i, hi, e⟩
    rw [wc_n (hn 0 (by omega)) (hn 1 (by omega)) (hn 2 (by omega)) (hn 3 (by omega)) (hn 4 (by omega))]
    exact ⟨fun q => absurd q (by omega), fun q => absurd q (hn o ho)⟩
theorem wc_le (L : List Nat) : wcL L ≤ 5 := by
  by_cases h : ∃ i, i < 5 ∧ L = Wd i
  · obtain ⟨i, hi, rfl⟩ := h
    rw [(wc_o (Wd i) hi).mpr rfl]; omega
  · have hn : ∀ i, i < 5 → ¬ L = Wd i := fun i hi e => h ⟨i, hi, e⟩
    rw [wc_n (hn 0 (by omega)) (hn 1 (by omega)) (hn 2 (by omega)) (hn 3 (by omega)) (hn 4 (by omega))]
    omega
theorem lN_inj {a b : Nat} (ha : a < 9223372036854775808) (hb : b < 9223372036854775808) (h : lN a = lN b) : a = b := by
  have := congrArg Int64.toInt h
  rw [lI ha, lI hb] at this
  omega
theorem k_0 : f_X7_word (112 : Int64) (117 : Int64) (112 : Int64) (112 : Int64) (101 : Int64) (116 : Int64) = lN (pkr (Wd 0)) := by decide +kernel
theorem k_1 : f_X7_word (0 : Int64) (0 : Int64) (108 : Int64) (105 : Int64) (109 : Int64) (98 : Int64) = lN (pkr (Wd 1)) := by decide +kernel
theorem k_2 : f_X7_word (0 : Int64) (0 : Int64) (109 : Int64) (111 : Int64) (118 : Int64) (101 : Int64) = lN (pkr (Wd 2)) := by decide +kernel
theorem k_3 : f_X7_word (0 : Int64) (0 : Int64) (0 : Int64) (116 : Int64) (105 : Int64) (101 : Int64) = lN (pkr (Wd 3)) := by decide +kernel
theorem k_4 : f_X7_word (0 : Int64) (0 : Int64) (104 : Int64) (97 : Int64) (110 : Int64) (103 : Int64) = lN (pkr (Wd 4)) := by decide +kernel
theorem p128 {n : Nat} (h : n ≤ 6) : 128 ^ n ≤ 4398046511104 := Nat.le_trans (Nat.pow_le_pow_right (by decide) h) (by decide)
theorem word_c {L : List Nat} {o : Nat} (hL : dg L) (hl : L.length ≤ 6) (ho : o < 5) : (lg_cmp (lN (pkr L)) (lN (pkr (Wd o))) = 0) ↔ L = Wd o := by
  rw [lg_eq]
  have h1 := pkr_lt L hL
  have h2 := pkr_lt (Wd o) (Wd_dg' ho)
  have h3 := p128 hl
  have h4 := p128 (Wd_len o ho).2
  exact ⟨fun q => pkr_inj _ _ hL (Wd_dg' ho) (lN_inj (by omega) (by omega) q), fun q => by rw [q]⟩
theorem wordL {ch : Nat → Nat} {t s n : Nat} {N : Mem} (ht : t ≤ 150) (hT : TxN ch t N) (hn : n ≤ 6) (he : s + n ≤ t) (hd : ∀ j, j < n → 1 ≤ ch (s + j) ∧ ch (s + j) < 128) : ∀ (k i f : Nat), i + k = n → k < f → f_X7_wordAt_L5 (nI s) (nI (s + n)) N f (lN (pkr (rl ch s i))) (nI (s + i)) = some (lN (pkr (rl ch s n))) := by
  intro k
  induction k with
  | zero =>
    intro i f hi hf
    obtain ⟨f', rfl⟩ : ∃ f', f = f' + 1 := ⟨f - 1, by omega⟩
    have : i = n := by omega
    subst this
    rw [f_X7_wordAt_L5]
    rw [if_pos (nI_le (Nat.le_refl _) (by omega))]
  | succ k ih =>
    intro i f hi hf
    obtain ⟨f', rfl⟩ : ∃ f', f = f' + 1 := ⟨f - 1, by omega⟩
    have hp := pkr_lt _ (rl_dg i (fun j hj => hd j (by omega)))
    rw [rl_len] at hp
    have hp2 := p128 (n := i) (by omega)
    have hc := hd i (by omega)
    rw [f_X7_wordAt_L5]
    rw [if_neg (nI_ge (by omega) (by omega)), pk_sub (show s ≤ s + n by omega), show s + n - s = n by omega, l6, if_pos (nI_le hn (by omega)), rd_n (by rw [ln_178]; omega) (by omega), ob_e, ob_e, hT.2 _ (by omega), nIc _ (by omega), shl7 _ _ (by omega) (by omega), lq_e, nI_1]
    exact ih (i + 1) f' (by omega) (by omega)
theorem longL {s n : Nat} {N : Mem} (hn : 6 < n) (he : s + n ≤ 150) : ∀ (k i f : Nat), i + k = n → k < f → f_X7_wordAt_L5 (nI s) (nI (s + n)) N f (lN 0) (nI (s + i)) = some (lN 0) := by
  intro k
  induction k with
  | zero =>
    intro i f hi hf
    obtain ⟨f', rfl⟩ : ∃ f', f = f' + 1 := ⟨f - 1, by omega⟩
    have : i = n := by omega
    subst this
    rw [f_X7_wordAt_L5]
    rw [if_pos (nI_le (Nat.le_refl _) (by omega))]
  | succ k ih =>
    intro i f hi hf
    obtain ⟨f', rfl⟩ : ∃ f', f = f' + 1 := ⟨f - 1, by omega⟩
    rw [f_X7_wordAt_L5]
    rw [if_neg (nI_ge (by omega) (by omega)), pk_sub (show s ≤ s + n by omega), show s + n - s = n by omega, l6, if_neg (nI_ge hn (by omega)), ob_e, lq_e, nI_1]
    exact ih (i + 1) f' (by omega) (by omega)
theorem word_t {L : List Nat} (hL : dg L) (hl : L.length ≤ 6) : (if lg_cmp (lN (pkr L)) (lN (pkr (Wd 0))) = (0 : Int32) then some (1 : Int32) else if lg_cmp (lN (pkr L)) (lN (pkr (Wd 1))) = (0 : Int32) then some (2 : Int32) else if lg_cmp (lN (pkr L)) (lN (pkr (Wd 2))) = (0 : Int32) then some (3 : Int32) else if lg_cmp (lN (pkr L)) (lN (pkr (Wd 3))) = (0 : Int32) then some (4 : Int32) else if lg_cmp (lN (pkr L)) (lN (pkr (Wd 4))) = (0 : Int32) then some (5 : Int32) else some (0 : Int32)) = some (nI (wcL L)) := by
  unfold wcL
  by_cases h0 : L = Wd 0
  · rw [if_pos ((word_c hL hl (by omega)).mpr h0), if_pos h0]; rfl
  · rw [if_neg (fun q => h0 ((word_c hL hl (by omega)).mp q)), if_neg h0]
    by_cases h1 : L = Wd 1
    · rw [if_pos ((word_c hL hl (by omega)).mpr h1), if_pos h1]; rfl
    · rw [if_neg (fun q => h1 ((word_c hL hl (by omega)).mp q)), if_neg h1]
      by_cases h2 : L = Wd 2
      · rw [if_pos ((word_c hL hl (by omega)).mpr h2), if_pos h2]; rfl
      · rw [if_neg (fun q => h2 ((word_c hL hl (by omega)).mp q)), if_neg h2]
        by_cases h3 : L = Wd 3
        · rw [if_pos ((word_c hL hl (by omega)).mpr h3), if_pos h3]; rfl
        · rw [if_neg (fun q => h3 ((word_c hL hl (by omega)).mp q)), if_neg h3]
          by_cases h4 : L = Wd 4
          · rw [if_pos ((word_c hL hl (by omega)).mpr h4), if_pos h4]; rfl
          · rw [if_neg (fun q => h4 ((word_c hL hl (by omega)).mp q)), if_neg h4]; rfl
theorem wordAt_n {ch : Nat → Nat} {t s n : Nat} {N : Mem} (ht : t ≤ 150) (hT : TxN ch t N) (he : s + n ≤ t) (hd : ∀ j, j < n → 1 ≤ ch (s + j) ∧ ch (s + j) < 128) : f_X7_wordAt (nI s) (nI (s + n)) N = some (nI (wcL (rl ch s n))) := by
  unfold f_X7_wordAt
  rw [k_0, k_1, k_2, k_3, k_4]
  by_cases hn : n ≤ 6
  · rw [show f_X7_wordAt_L5 (nI s) (nI (s + n)) N FU (0 : Int64) (nI s) = some (lN (pkr (rl ch s n))) from wordL ht hT hn he hd n 0 FU (by omega) (FU_gt (by omega)), ob_e]
    exact word_t (rl_dg n hd) (by rw [rl_len]; exact hn)
  · rw [show f_X7_wordAt_L5 (nI s) (nI (s + n)) N FU (0 : Int64) (nI s) = some (lN 0) from longL (by omega) (by omega) n 0 FU (by omega) (FU_gt (by omega)), ob_e]
    have h0 : wcL (rl ch s n) = wcL [] := by
      have hne : ∀ i, i < 5 → ¬ rl ch s n = Wd i := fun i hi e => by
        have h1 := congrArg List.length e
        rw [rl_len] at h1
        have := (Wd_len i hi).2
        omega
      rw [wc_n (hne 0 (by omega)) (hne 1 (by omega)) (hne 2 (by omega)) (hne 3 (by omega)) (hne 4 (by omega))]
      decide
    rw [h0]
    exact word_t (L := []) (fun c hc => by cases hc) (by decide)
theorem chS_n : ∀ o, o < 5 → ∀ j, j < wln o → chS o (nI j) = some (nI (wb o j)) ∧ wb o j < 128 := by decide +kernel
theorem isWordL {ch : Nat → Nat} {t s o : Nat} {M : Mem} (ht : t ≤ 150) (hch : ∀ j, j < t → ch j ≤ 127) (hT : TxM ch t M) (ho : o < 5) (he : s + wln o ≤ t) (h2 : M.1 165 2 = nI s) : ∀ (k j f : Nat), j + k = wln o → k < f → ∃ r, f_X3_isWord_L28 165 o M f (nI j) = some r ∧ ((∃ p, r = Sum.inl p ∧ ∀ i, j ≤ i → i < wln o → ch (s + i) = wb o i) ∨ (r = Sum.inr 0 ∧ ¬ ∀ i, j ≤ i → i < wln o → ch (s + i) = wb o i)) := by
  intro k
  induction k with
  | zero =>
    intro j f hj hf
    obtain ⟨f', rfl⟩ : ∃ f', f = f' + 1 := ⟨f - 1, by omega⟩
    refine ⟨_, ?_, Or.inl ⟨nI j, rfl, fun i h1 h2 => by omega⟩⟩
    rw [f_X3_isWord_L28]
    rw [if_pos (show nI (sLen.getD o 0) ≤ nI j from nI_le (show wln o ≤ j by omega) (by omega))]
  | succ k ih =>
    intro j f hj hf
    obtain ⟨f', rfl⟩ : ∃ f', f = f' + 1 := ⟨f - 1, by omega⟩
    obtain ⟨c1, c2⟩ := chS_n o ho j (by omega)
    have hc := hch (s + j) (by omega)
    have e : f_X3_isWord_L28 165 o M (f' + 1) (nI j) = if ch (s + j) = wb o j then f_X3_isWord_L28 165 o M f' (nI (j + 1)) else some (Sum.inr 0) := by
      rw [f_X3_isWord_L28]
      rw [if_neg (show ¬ nI (sLen.getD o 0) ≤ nI j from nI_ge (show j < wln o by omega) (show wln o < 2 ^ 31 by omega)), h2, nI_add, cellM hT ht (by omega), ob_e, c1, ob_e, lq_e, nI_1]
      by_cases q : ch (s + j) = wb o j
      · rw [if_pos (by rw [q]), if_pos q]
      · rw [if_neg (fun z => q ((nI_eq (by omega) (by omega)).mp z)), if_neg q]
    by_cases q : ch (s + j) = wb o j
    · rw [if_pos q] at e
      rw [e]
      obtain ⟨r, r1, r2⟩ := ih (j + 1) f' (by omega) (by omega)
      refine ⟨r, r1, ?_⟩
      rcases r2 with ⟨p, r2, r3⟩ | ⟨r2, r3⟩
      · exact Or.inl ⟨p, r2, fun i h1 h2 => by
          by_cases e : i = j
          · rw [e]; exact q
          · exact r3 i (by omega) h2⟩
      · exact Or.inr ⟨r2, fun z => r3 (fun i h1 h2 => z i (by omega) h2)⟩
    · rw [if_neg q] at e
      exact ⟨_, e, Or.inr ⟨rfl, fun z => q (z j (Nat.le_refl _) (by omega))⟩⟩
theorem wl_le : ∀ o, o < 5 → wln o ≤ 6 ∧ 3 ≤ wln o := by decide +kernel
theorem isWord_n {ch : Nat → Nat} {t s n o : Nat} {M : Mem} (ht : t ≤ 150) (hch : ∀ j, j < t → ch j ≤ 127) (hT : TxM ch t M) (ho : o < 5) (he : s + n ≤ t) (h2 : M.1 165 2 = nI s) (h3 : M.1 165 3 = nI (s + n)) (h4 : M.1 165 4 = nI 1) : f_X3_isWord 165 o M = some (if wcL (rl ch s n) = o + 1 then 1 else 0) := by
  have hiff : (wcL (rl ch s n) = o + 1) ↔ (n = wln o ∧ ∀ j, j < wln o → ch (s + j) = wb o j) := by
    rw [wc_o _ ho, Wd, rl_eq]
    constructor
    · rintro ⟨a, b⟩; exact ⟨a, fun j hj => by rw [b j (by omega), Nat.zero_add]⟩
    · rintro ⟨a, b⟩; exact ⟨a, fun j hj => by rw [b j (by omega), Nat.zero_add]⟩
  have hw := wl_le o ho
  unfold f_X3_isWord
  rw [h4, if_pos (show nI 1 = (1 : Int32) from rfl), h3, h2, pk_sub (show s ≤ s + n by omega), show s + n - s = n by omega]
  by_cases c : n = wln o
  · rw [if_pos (show nI n = nI (sLen.getD o 0) from by rw [c]; rfl), l0]
    obtain ⟨r, r1, r2⟩ := isWordL ht hch hT ho (by omega) h2 (wln o) 0 FU (by omega) (FU_gt (by omega))
    rw [r1]
    rcases r2 with ⟨p, rfl, r3⟩ | ⟨rfl, r3⟩
    · rw [oeT1_l, if_pos (hiff.mpr ⟨c, fun j hj => r3 j (by omega) hj⟩)]
    · rw [oeT1_r, if_neg (fun q => r3 (fun i _ hi => (hiff.mp q).2 i hi))]
      rfl
  · rw [if_neg (show ¬ nI n = nI (sLen.getD o 0) from fun q => c ((nI_eq (a := n) (b := wln o) (by omega) (by omega)).mp q)), if_neg (fun q => c (hiff.mp q).1)]
theorem isWord_0 {o : Nat} {M : Mem} (h : ¬ M.1 165 4 = 1) : f_X3_isWord 165 o M = some 0 := by
  unfold f_X3_isWord
  rw [if_neg h]
