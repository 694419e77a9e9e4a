/-! a row is copied; a pose becomes another -/
theorem copy_n {a b w : Nat} (ha : ln a = w) (hb : ln b = w) (hw : w ≤ 1000) (hab : a ≠ b) (M : Mem) : ∃ M', f_X6_copyRow a b M = some M' ∧ M'.2 = M.2 ∧ (∀ c k, c ≠ b → M'.1 c k = M.1 c k) ∧ (∀ k, w ≤ k → M'.1 b k = M.1 b k) ∧ ∀ k, k < w → M'.1 b k = M.1 a k := by
  obtain ⟨⟨x, M'⟩, e, h1, h2, h4, h3⟩ : ∃ r, f_X6_copyRow_L2 a b FU (nI 0) M = some r ∧ (r.2.2 = M.2 ∧ (∀ c k, c ≠ b → r.2.1 c k = M.1 c k) ∧ (∀ k, w ≤ k → r.2.1 b k = M.1 b k) ∧ ∀ k, k < w → r.2.1 b k = M.1 a k) := by
    refine loopE (fun n i x => f_X6_copyRow_L2 a b n (nI i) x) w (fun i (x : Mem) => x.2 = M.2 ∧ (∀ c k, c ≠ b → x.1 c k = M.1 c k) ∧ (∀ k, w ≤ k → x.1 b k = M.1 b k) ∧ ∀ k, k < i → x.1 b k = M.1 a k) _ ?_ ?_ w 0 FU M (by omega) (FU_gt (by omega)) ⟨rfl, fun _ _ _ => rfl, fun _ _ => rfl, fun t ht => absurd ht (by omega)⟩
    · intro n x hx
      refine ⟨(nI w, x), ?_, hx⟩
      show f_X6_copyRow_L2 a b (n + 1) (nI w) x = _
      rw [f_X6_copyRow_L2]
      rw [ha, if_pos (nI_le (Nat.le_refl _) (by omega))]
    · intro n i x hi hx
      obtain ⟨h1, h2, h4, h3⟩ := hx
      refine Or.inl ⟨s1 x b i (x.1 a i), ?_, h1, fun c k q => ?_, fun k q => ?_, fun t ht => ?_⟩
      · show f_X6_copyRow_L2 a b (n + 1) (nI i) x = f_X6_copyRow_L2 a b n (nI (i + 1)) _
        rw [f_X6_copyRow_L2]
        rw [ha, hb, if_neg (nI_ge hi (by omega)), if_neg (nI_ge hi (by omega)), rd_n (by omega) (by omega), ob_e, wr_n (by omega) (by omega), ob_e, lq_e, l1, nI_add]
      · rw [s1_ne (by omega)]
        exact h2 c k q
      · rw [s1_ne (by omega)]
        exact h4 k q
      · by_cases e : t = i
        · subst e; rw [s1_eq, h2 _ _ hab]
        · rw [s1_ne (by omega)]
          exact h3 t (by omega)
  unfold f_X6_copyRow
  rw [l0, e, ob2_e]
  exact ⟨M', rfl, h1, h2, h4, h3⟩
theorem become_n {o q : Nat} (l1' : ln (o + 1) = 7) (l2' : ln (o + 2) = 7) (l3' : ln (q + 1) = 7) (l4' : ln (q + 2) = 7) (hd : o + 2 < q ∨ q + 2 < o) (M : Mem) : ∃ M', f_X1_become o q M = some M' ∧ M'.2 = M.2 ∧ (∀ c b, ¬ (c = o ∧ b < 3) → c ≠ o + 1 → c ≠ o + 2 → M'.1 c b = M.1 c b) ∧ (∀ j, j < 3 → M'.1 o j = M.1 q j) ∧ ∀ i, i < 7 → M'.1 (o + 1) i = M.1 (q + 1) i ∧ M'.1 (o + 2) i = M.1 (q + 2) i := by
  unfold f_X1_become
  rw [lq_e, lq_e, lq_e]
  obtain ⟨Ma, ea, a1, a2, a4, a3⟩ := copy_n l3' l1' (by decide) (by omega) (s1 (s1 (s1 M o 0 (M.1 q 0)) o 1 ((s1 M o 0 (M.1 q 0)).1 q 1)) o 2 ((s1 (s1 M o 0 (M.1 q 0)) o 1 ((s1 M o 0 (M.1 q 0)).1 q 1)).1 q 2))
  rw [ea, ob_e]
  obtain ⟨Mb, eb, b1, b2, b4, b3⟩ := copy_n l4' l2' (by decide) (by omega) Ma
  rw [eb, ob_e]
  refine ⟨Mb, rfl, by rw [b1, a1]; rfl, fun c b q1 q2 q3 => ?_, fun j hj => ?_, fun i hi => ⟨?_, ?_⟩⟩
  · rw [b2 _ _ q3, a2 _ _ q2, s1_ne (by omega), s1_ne (by omega), s1_ne (by omega)]
  · rw [b2 _ _ (by omega), a2 _ _ (by omega)]
    rcases (show j = 0 ∨ j = 1 ∨ j = 2 by omega) with rfl | rfl | rfl
    · rw [s1_ne (by omega), s1_ne (by omega), s1_eq]
    · rw [s1_ne (by omega), s1_eq, s1_ne (by omega)]
    · rw [s1_eq, s1_ne (by omega), s1_ne (by omega)]
  · rw [b2 _ _ (by omega), a3 i hi, s1_ne (by omega), s1_ne (by omega), s1_ne (by omega)]
  · rw [b3 i hi, a2 _ _ (by omega), s1_ne (by omega), s1_ne (by omega), s1_ne (by omega)]
/-! the reference's notes of earlier poses -/
theorem hb177 {k : Nat} (h : k < 340) : k < ln 177 := by rw [ln_177]; exact h
theorem notes_L17 (N : Mem) : ∃ r, f_X7_notes_L17 FU (nI 172) N = some r ∧ (r.2.2 = N.2 ∧ (∀ c b, c ≠ 177 ∨ b < 148 → r.2.1 c b = N.1 c b) ∧ ∀ b, 148 ≤ b → b + 24 < 340 → r.2.1 177 b = N.1 177 (b + 24)) := by
  obtain ⟨r, e, h1, h2, h3, h4⟩ : ∃ r, f_X7_notes_L17 FU (nI 172) N = some r ∧ (r.2.2 = N.2 ∧ (∀ c b, c ≠ 177 ∨ b < 148 → r.2.1 c b = N.1 c b) ∧ (∀ b, 148 ≤ b → b + 24 < 340 → r.2.1 177 b = N.1 177 (b + 24)) ∧ True) := by
    refine loopE (fun n i x => f_X7_notes_L17 n (nI i) x) 340 (fun i (x : Mem) => 172 ≤ i ∧ x.2 = N.2 ∧ (∀ c b, c ≠ 177 ∨ b < 148 → x.1 c b = N.1 c b) ∧ (∀ b, 148 ≤ b → b + 24 < i → x.1 177 b = N.1 177 (b + 24)) ∧ ∀ b, i ≤ b + 24 → x.1 177 b = N.1 177 b) _ ?_ ?_ 168 172 FU N (by omega) (FU_gt (by decide)) ⟨by omega, rfl, fun _ _ _ => rfl, fun b h1 h2 => absurd h2 (by omega), fun _ _ => rfl⟩
    · intro n x hx
      refine ⟨(nI 340, x), ?_, hx.2.1, hx.2.2.1, hx.2.2.2.1, trivial⟩
      show f_X7_notes_L17 (n + 1) (nI 340) x = _
      rw [f_X7_notes_L17]
      rw [l340, if_pos (nI_le (Nat.le_refl _) (by decide))]
    · intro n i x hi hx
      obtain ⟨h0, h1, h2, h3, h4⟩ := hx
      refine Or.inl ⟨s1 x 177 (i - 24) (x.1 177 i), ?_, by omega, h1, fun c b q => ?_, fun b q1 q2 => ?_, fun b q => ?_⟩
      · show f_X7_notes_L17 (n + 1) (nI i) x = f_X7_notes_L17 n (nI (i + 1)) _
        rw [f_X7_notes_L17]
        rw [l340, if_neg (nI_ge hi (by decide)), rd_n (hb177 (by omega)) (by omega), ob_e, l24, pk_sub (by omega), wr_n (hb177 (by omega)) (by omega), ob_e, lq_e, l1, nI_add]
      · rw [s1_ne (by omega)]
        exact h2 c b q
      · by_cases e : b = i - 24
        · subst e
          rw [s1_eq, show i - 24 + 24 = i by omega]
          exact h4 i (by omega)
        · rw [s1_ne (by omega)]
          exact h3 b q1 (by omega)
      · rw [s1_ne (by omega)]
        exact h4 b (by omega)
  exact ⟨r, e, h1, h2, h3⟩
theorem notes_L73 {B : Nat} (hB : 148 ≤ B) (hB2 : B + 24 ≤ 340) (N : Mem) : ∃ r, f_X7_notes_L73 (nI B) FU (nI 0) N = some r ∧ (r.2.2 = N.2 ∧ (∀ c b, ¬ (c = 177 ∧ B ≤ b ∧ b < B + 3) → r.2.1 c b = N.1 c b) ∧ ∀ j, j < 3 → r.2.1 177 (B + j) = N.1 177 (1 + j)) := by
  refine loopE (fun n i x => f_X7_notes_L73 (nI B) n (nI i) x) 3 (fun i (x : Mem) => x.2 = N.2 ∧ (∀ c b, ¬ (c = 177 ∧ B ≤ b ∧ b < B + 3) → x.1 c b = N.1 c b) ∧ ∀ j, j < i → x.1 177 (B + j) = N.1 177 (1 + j)) _ ?_ ?_ 3 0 FU N (by omega) (FU_gt (by decide)) ⟨rfl, fun _ _ _ => rfl, fun t ht => absurd ht (by omega)⟩
  · intro n x hx
    refine ⟨(nI 3, x), ?_, hx⟩
    show f_X7_notes_L73 (nI B) (n + 1) (nI 3) x = _
    rw [f_X7_notes_L73]
    rw [l3, if_pos (nI_le (Nat.le_refl _) (by decide))]
  · intro n i x hi hx
    obtain ⟨h1, h2, h3⟩ := hx
    refine Or.inl ⟨s1 x 177 (B + i) (x.1 177 (1 + i)), ?_, h1, fun c b q => ?_, fun t ht => ?_⟩
    · show f_X7_notes_L73 (nI B) (n + 1) (nI i) x = f_X7_notes_L73 (nI B) n (nI (i + 1)) _
      rw [f_X7_notes_L73]
      rw [l3, if_neg (nI_ge hi (by decide)), l1, nI_add, rd_n (hb177 (by omega)) (by omega), ob_e, nI_add, wr_n (hb177 (by omega)) (by omega), ob_e, lq_e, nI_add]
    · rw [s1_ne (by omega)]
      exact h2 c b q
    · by_cases e : t = i
      · subst e; rw [s1_eq, h2 _ _ (by omega)]
      · rw [s1_ne (by omega)]
        exact h3 t (by omega)
theorem notes_L110 {B i : Nat} (hB : 148 ≤ B) (hB2 : B + 24 ≤ 340) (hi7 : i < 7) (N : Mem) : ∃ r, f_X7_notes_L110 (nI B) (nI i) FU (nI 0) N = some r ∧ (r.2.2 = N.2 ∧ (∀ c b, ¬ (c = 177 ∧ B + 3 + 3 * i ≤ b ∧ b < B + 3 + 3 * i + 3) → r.2.1 c b = N.1 c b) ∧ ∀ j, j < 3 → r.2.1 177 (B + 3 + 3 * i + j) = N.1 177 (8 + 7 * i + j)) := by
  refine loopE (fun n j x => f_X7_notes_L110 (nI B) (nI i) n (nI j) x) 3 (fun z (x : Mem) => x.2 = N.2 ∧ (∀ c b, ¬ (c = 177 ∧ B + 3 + 3 * i ≤ b ∧ b < B + 3 + 3 * i + 3) → x.1 c b = N.1 c b) ∧ ∀ j, j < z → x.1 177 (B + 3 + 3 * i + j) = N.1 177 (8 + 7 * i + j)) _ ?_ ?_ 3 0 FU N (by omega) (FU_gt (by decide)) ⟨rfl, fun _ _ _ => rfl, fun t ht => absurd ht (by omega)⟩
  · intro n x hx
    refine ⟨(nI 3, x), ?_, hx⟩
    show f_X7_notes_L110 (nI B) (nI i) (n + 1) (nI 3) x = _
    rw [f_X7_notes_L110]
    rw [l3, if_pos (nI_le (Nat.le_refl _) (by decide))]
  · intro n z x hi hx
    obtain ⟨h1, h2, h3⟩ := hx
    refine Or.inl ⟨s1 x 177 (B + 3 + 3 * i + z) (x.1 177 (8 + 7 * i + z)), ?_, h1, fun c b q => ?_, fun t ht => ?_⟩
    · show f_X7_notes_L110 (nI B) (nI i) (n + 1) (nI z) x = f_X7_notes_L110 (nI B) (nI i) n (nI (z + 1)) _
      rw [f_X7_notes_L110]
      rw [l3, if_neg (nI_ge hi (by decide)), l4, nI_add, limbOf_n (by omega), ob_e, nI_add, pk_mul, nI_add, nI_add, wr_n (hb177 (by omega)) (by omega), ob_e, lq_e, l1, nI_add, show 4 + 7 * i + (4 + z) = 8 + 7 * i + z by omega]
    · rw [s1_ne (by omega)]
      exact h2 c b q
    · by_cases e : t = z
      · subst e; rw [s1_eq, h2 _ _ (by omega)]
      · rw [s1_ne (by omega)]
        exact h3 t (by omega)
theorem notes_L102 {B : Nat} (hB : 148 ≤ B) (hB2 : B + 24 ≤ 340) (N : Mem) : ∃ r, f_X7_notes_L102 (nI B) FU (nI 0) N = some r ∧ (r.2.2 = N.2 ∧ (∀ c b, ¬ (c = 177 ∧ B + 3 ≤ b ∧ b < B + 24) → r.2.1 c b = N.1 c b) ∧ ∀ i, i < 7 → ∀ j, j < 3 → r.2.1 177 (B + 3 + 3 * i + j) = N.1 177 (8 + 7 * i + j)) := by
  refine loopE (fun n i x => f_X7_notes_L102 (nI B) n (nI i) x) 7 (fun z (x : Mem) => x.2 = N.2 ∧ (∀ c b, ¬ (c = 177 ∧ B + 3 ≤ b ∧ b < B + 24) → x.1 c b = N.1 c b) ∧ ∀ i, i < z → ∀ j, j < 3 → x.1 177 (B + 3 + 3 * i + j) = N.1 177 (8 + 7 * i + j)) _ ?_ ?_ 7 0 FU N (by omega) (FU_gt (by decide)) ⟨rfl, fun _ _ _ => rfl, fun t ht => absurd ht (by omega)⟩
  · intro n x hx
    refine ⟨(nI 7, x), ?_, hx⟩
    show f_X7_notes_L102 (nI B) (n + 1) (nI 7) x = _
    rw [f_X7_notes_L102]
    rw [l7, if_pos (nI_le (Nat.le_refl _) (by decide))]
  · intro n z x hi hx
    obtain ⟨h1, h2, h3⟩ := hx
    obtain ⟨⟨y, N'⟩, e, k1, k2, k3⟩ := notes_L110 hB hB2 hi x
    refine Or.inl ⟨N', ?_, by rw [k1]; exact h1, fun c b q => ?_, fun t ht j hj => ?_⟩
    · show f_X7_notes_L102 (nI B) (n + 1) (nI z) x = f_X7_notes_L102 (nI B) n (nI (z + 1)) _
      rw [f_X7_notes_L102]
      rw [l7, if_neg (nI_ge hi (by decide)), l0, e, ob2_e, lq_e, l1, nI_add]
    · rw [k2 _ _ (by omega)]
      exact h2 c b q
    · by_cases e : t = z
      · subst e; rw [k3 j hj, h2 _ _ (by omega)]
      · rw [k2 _ _ (by omega)]
        exact h3 t (by omega) j hj
theorem notesX {N : Mem} {u : Nat} (hu : u ≤ 8) (h147 : N.1 177 147 = nI u) : ∃ N' d e, (d = if u = 8 then 1 else 0) ∧ e = u - d ∧ f_X7_notes N = some N' ∧ N'.2 = N.2 ∧ (∀ c b, c ≠ 177 ∨ b < 147 → N'.1 c b = N.1 c b) ∧ N'.1 177 147 = nI (e + 1) ∧ (∀ k, k < e → ∀ j, j < 24 → N'.1 177 (148 + 24 * k + j) = N.1 177 (148 + 24 * (k + d) + j)) ∧ (∀ j, j < 3 → N'.1 177 (148 + 24 * e + j) = N.1 177 (1 + j)) ∧ ∀ i, i < 7 → ∀ j, j < 3 → N'.1 177 (151 + 24 * e + 3 * i + j) = N.1 177 (8 + 7 * i + j) := by
  obtain ⟨N1, d, e, hd, he, heq, p1, p2, p3, p4⟩ : ∃ N1 d e, (d = if u = 8 then 1 else 0) ∧ e = u - d ∧ (if nI u = (8 : Int32) then (ob2 (f_X7_notes_L17 FU (172 : Int32) N) (fun x4 M5 => ob (wr M5 177 (147 : Int32) (7 : Int32)) (fun M10 => some M10))) else (some N)) = some N1 ∧ N1.2 = N.2 ∧ (∀ c b, c ≠ 177 ∨ b < 147 → N1.1 c b = N.1 c b) ∧ N1.1 177 147 = nI e ∧ (∀ k, k < e → ∀ j, j < 24 → N1.1 177 (148 + 24 * k + j) = N.1 177 (148 + 24 * (k + d) + j)) := by
    by_cases h8 : u = 8
    · subst h8
      obtain ⟨⟨y, K⟩, e, k1, k2, k3⟩ := notes_L17 N
      have k3' : ∀ b, 148 ≤ b → b + 24 < 340 → K.1 177 b = N.1 177 (b + 24) := k3
      refine ⟨s1 K 177 147 7, 1, 7, by rw [if_pos rfl], rfl, ?_, k1, fun c b q => ?_, ?_, fun k hk j hj => ?_⟩
      · rw [if_pos (show nI 8 = (8 : Int32) from rfl), show (172 : Int32) = nI 172 from rfl, e, ob2_e, l147, wr_n (hb177 (by decide)) (by decide), ob_e]
      · rw [s1_ne (by omega)]
        exact k2 c b (by omega)
      · rw [s1_eq]; rfl
      · rw [s1_ne (by omega), k3' _ (by omega) (by omega)]
        exact congrArg _ (by omega)
    · refine ⟨N, 0, u, by rw [if_neg h8], rfl, ?_, rfl, fun _ _ _ => rfl, h147, fun k hk j hj => rfl⟩
      rw [if_neg]
      intro q
      exact h8 ((nI_eq (b := 8) (by omega) (by decide)).mp q)
  have hd' : d ≤ 1 := by rw [hd]; split <;> omega
  have he7 : e ≤ 7 := by rw [he, hd]; split <;> omega
  obtain ⟨⟨y2, N2⟩, e2, a1, a2, a3⟩ := notes_L73 (B := 148 + 24 * e) (by omega) (by omega) N1
  obtain ⟨⟨y3, N3⟩, e3, b1, b2, b3⟩ := notes_L102 (B := 148 + 24 * e) (by omega) (by omega) N2
  have a2' : ∀ c b, ¬ (c = 177 ∧ 148 + 24 * e ≤ b ∧ b < 148 + 24 * e + 3) → N2.1 c b = N1.1 c b := a2
  have b2' : ∀ c b, ¬ (c = 177 ∧ 148 + 24 * e + 3 ≤ b ∧ b < 148 + 24 * e + 24) → N3.1 c b = N2.1 c b := b2
  have a3' : ∀ j, j < 3 → N2.1 177 (148 + 24 * e + j) = N1.1 177 (1 + j) := a3
  have b3' : ∀ i, i < 7 → ∀ j, j < 3 → N3.1 177 (148 + 24 * e + 3 + 3 * i + j) = N2.1 177 (8 + 7 * i + j) := b3
  refine ⟨s1 N3 177 147 (nI (e + 1)), d, e, hd, he, ?_, ?_, fun c b q => ?_, s1_eq, fun k hk j hj => ?_, fun j hj => ?_, fun i hi j hj => ?_⟩
  · unfold f_X7_notes
    rw [l147, rd_n (hb177 (by decide)) (by decide), ob_e, h147]
    rw [l147] at heq
    rw [heq, ob_e, rd_n (hb177 (by decide)) (by decide), ob_e, p3, lq_e, l148, l24, pk_mul, nI_add, l0, e2, ob2_e, e3, ob2_e, rd_n (hb177 (by decide)) (by decide), ob_e, b2' _ _ (by omega), a2' _ _ (by omega), p3, l1, nI_add, wr_n (hb177 (by decide)) (by decide), ob_e]
  · show N3.2 = N.2
    rw [b1, a1]; exact p1
  · rw [s1_ne (by omega), b2' _ _ (by omega), a2' _ _ (by omega)]
    exact p2 c b q
  · rw [s1_ne (by omega), b2' _ _ (by omega), a2' _ _ (by omega)]
    exact p4 k hk j hj
  · rw [s1_ne (by omega), b2' _ _ (by omega), a3' j hj]
    exact p2 _ _ (by omega)
  · rw [s1_ne (by omega), show 151 + 24 * e + 3 * i + j = 148 + 24 * e + 3 + 3 * i + j by omega, b3' i hi j hj, a2' _ _ (by omega)]
    exact p2 _ _ (by omega)
