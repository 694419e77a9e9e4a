/-! reading, step by step, on both sides -/
def Bs (ch : Nat → Nat) (t : Nat) (M0 N0 M N : Mem) : Prop := M.2 = M0.2 ∧ N.2 = N0.2 ∧ (∀ c b, ¬ (c = 165 ∧ 2 ≤ b ∧ b ≤ 5) → ¬ (42 ≤ c ∧ c ≤ 82) → M.1 c b = M0.1 c b) ∧ (∀ c b, (c = 77 ∨ c = 79 ∨ c = 81) → b ≠ 3 → M.1 c b = M0.1 c b) ∧ M.1 42 7 = M0.1 42 7 ∧ (∀ c b, ¬ (c = 176 ∧ 8 ≤ b ∧ b ≤ 12) → c ≠ 177 → c ≠ 179 → N.1 c b = N0.1 c b) ∧ (∀ k, k < 340 → N.1 179 k = N0.1 177 k) ∧ TxM ch t M ∧ TxN ch t N
def nearM (M M' : Mem) : Prop := M'.2 = M.2 ∧ ∀ c b, ¬ (c = 165 ∧ 2 ≤ b ∧ b ≤ 5) → M'.1 c b = M.1 c b
def nearN (N N' : Mem) : Prop := N'.2 = N.2 ∧ ∀ c b, ¬ (c = 176 ∧ 8 ≤ b ∧ b ≤ 12) → N'.1 c b = N.1 c b
theorem nearM.rfl' (M : Mem) : nearM M M := ⟨rfl, fun _ _ _ => rfl⟩
theorem nearN.rfl' (N : Mem) : nearN N N := ⟨rfl, fun _ _ _ => rfl⟩
theorem Bs.near {ch : Nat → Nat} {t : Nat} {M0 N0 M N M' N' : Mem} (h : Bs ch t M0 N0 M N) (hM : nearM M M') (hN : nearN N N') : Bs ch t M0 N0 M' N' := by
  obtain ⟨h1, h2, h3, h4, h5, h6, h7, h8, h9⟩ := h
  refine ⟨by rw [hM.1]; exact h1, by rw [hN.1]; exact h2, fun c b q1 q2 => by rw [hM.2 c b q1]; exact h3 c b q1 q2, fun c b q1 q2 => by rw [hM.2 c b (by omega)]; exact h4 c b q1 q2, by rw [hM.2 _ _ (by omega)]; exact h5, fun c b q1 q2 q3 => by rw [hN.2 c b q1]; exact h6 c b q1 q2 q3, fun k hk => by rw [hN.2 _ _ (by omega)]; exact h7 k hk, h8.of (hM.2 _ _ (by omega)) (fun j => hM.2 _ _ (by omega)), h9.of (hN.2 _ _ (by omega)) (fun j => hN.2 _ _ (by omega))⟩
def Zs (Z : Mem → Mem → Prop) : Prop := ∀ M N M' N', Z M N → nearM M M' → nearN N N' → Z M' N'
def Sy1 (ch : Nat → Nat) (t : Nat) (M N : Mem) (e : Nat) : Prop := e ≤ t ∧ M.1 165 3 = nI e ∧ RT N (tk ch t e) ∧ N.1 176 12 = -1
def Sy2 (ch : Nat → Nat) (t : Nat) (M N : Mem) (e : Nat) : Prop := e ≤ t ∧ CT M (tk ch t e) ∧ RT N (tk ch t e) ∧ N.1 176 12 = -1
def FT (t : Nat) (M N : Mem) : Prop := ∃ s, s ≤ t ∧ M.1 165 2 = nI s ∧ N.1 176 12 = nI s
theorem must1 {ch : Nat → Nat} {t e : Nat} {N : Mem} {a : Int32} (ha : ¬ a = 0) (ht : t ≤ 150) (hch : ∀ j, j < t → ch j ≤ 127) (hT : TxN ch t N) (h8 : N.1 176 8 = nI e) (he : e ≤ t) (h12 : N.1 176 12 = -1) : ∃ N', f_X7_must a N = some N' ∧ RT N' (tk ch t e) ∧ nearN N N' ∧ N'.1 176 12 = -1 := by
  obtain ⟨N', q1, q2, q3, q4⟩ := lks ht hch hT h8 he
  refine ⟨N', ?_, q2, ⟨q3, fun c b h => q4 c b (by omega)⟩, by rw [q4 _ _ (by omega)]; exact h12⟩
  unfold f_X7_must
  rw [h12, if_neg (show ¬ (0 : Int32) ≤ -1 by decide), if_neg ha, ob_e, h12, if_neg (show ¬ (0 : Int32) ≤ -1 by decide), q1, ob_e]
theorem must0 {s : Nat} {N : Mem} (hs : s ≤ 150) (h9 : N.1 176 9 = nI s) (h12 : N.1 176 12 = -1) : f_X7_must 0 N = some (s1 N 176 12 (nI s)) := by
  unfold f_X7_must
  rw [h12, if_neg (show ¬ (0 : Int32) ≤ -1 by decide), if_pos rfl, lq_e, ob_e, h9, s1_eq, if_pos (show (0 : Int32) ≤ nI s from nI_le (a := 0) (by omega) (by omega))]
theorem mustF {s : Nat} {N : Mem} (hs : s ≤ 150) (h12 : N.1 176 12 = nI s) (a : Int32) : f_X7_must a N = some N := by
  have h0 : (0 : Int32) ≤ nI s := nI_le (a := 0) (by omega) (by omega)
  unfold f_X7_must
  rw [h12, if_pos h0, ob_e, h12, if_pos h0]
theorem numF {s : Nat} {N : Mem} (hs : s ≤ 150) (h12 : N.1 176 12 = nI s) (a b : Int32) : f_X7_number a b N = some (N.1 176 11, N) := by
  unfold f_X7_number
  rw [lq_e, lq_e, mustF hs h12, ob_e]
theorem near0 (N : Mem) (v : Int32) : nearN N (s1 N 176 12 v) := ⟨rfl, fun c b h => s1_ne (by omega)⟩
theorem to2 {ch : Nat → Nat} {t e : Nat} {M N : Mem} (ht : t ≤ 150) (hch : ∀ j, j < t → ch j ≤ 127) (hT : TxM ch t M) (h : Sy1 ch t M N e) : ∃ M', f_X3_advance 165 M = some M' ∧ Sy2 ch t M' N e ∧ nearM M M' := by
  obtain ⟨h1, h2, h3, h4⟩ := h
  obtain ⟨M', q1, q2, q3, q4⟩ := adv ht hch hT h2 h1
  exact ⟨M', q1, ⟨h1, q2, h3, h4⟩, q3, q4⟩
theorem next1 {ch : Nat → Nat} {t e : Nat} {M N : Mem} {a : Int32} (ha : ¬ a = 0) (ht : t ≤ 150) (hch : ∀ j, j < t → ch j ≤ 127) (hT : TxN ch t N) (h : Sy2 ch t M N e) : ∃ N', f_X7_must a N = some N' ∧ Sy1 ch t M N' (tk ch t e).2.1 ∧ nearN N N' := by
  obtain ⟨h1, h2, h3, h4⟩ := h
  obtain ⟨b1, b2, b3, _⟩ := tk_b hch h1
  obtain ⟨N', q1, q2, q3, q4⟩ := must1 ha ht hch hT h3.2.1 b3 h4
  exact ⟨N', q1, ⟨b3, h2.2.1, q2, q4⟩, q3⟩
theorem next0 {ch : Nat → Nat} {t e : Nat} {M N : Mem} (ht : t ≤ 150) (hch : ∀ j, j < t → ch j ≤ 127) (h : Sy2 ch t M N e) : ∃ N', f_X7_must 0 N = some N' ∧ FT t M N' ∧ nearN N N' := by
  obtain ⟨h1, h2, h3, h4⟩ := h
  obtain ⟨b1, b2, b3, _⟩ := tk_b hch h1
  refine ⟨_, must0 (by omega) h3.1 h4, ⟨(tk ch t e).1, by omega, h2.1, s1_eq⟩, near0 _ _⟩
theorem srt_eq {k j : Nat} (hk : 1 ≤ k) (hk5 : k ≤ 5) (hj : j = 1 ∨ j = 2 ∨ j = 3) : (nI (srt k) = nI j) ↔ k = j := by
  have h : ∀ k, k < 6 → ∀ j, j < 4 → 1 ≤ k → 1 ≤ j → ((nI (srt k) = nI j) ↔ k = j) := by decide +kernel
  exact h k (by omega) j (by omega) hk (by omega)
theorem srt_0 {k : Nat} (hk : 1 ≤ k) (hk5 : k ≤ 5) : (nI (srt k) = (0 : Int32)) ↔ k = 4 := by
  have h : ∀ k, k < 6 → 1 ≤ k → ((nI (srt k) = (0 : Int32)) ↔ k = 4) := by decide +kernel
  exact h k (by omega) hk
theorem isNum_n {ch : Nat → Nat} {t e : Nat} {M N : Mem} {a b : Int32} (hch : ∀ j, j < t → ch j ≤ 127) (h : Sy2 ch t M N e) : f_X3_isNumber 165 a b M = if (tk ch t e).2.2.1 = 2 ∧ oI (nI (tk ch t e).2.2.2) a.toInt b.toInt then 1 else 0 := by
  obtain ⟨h1, h2, h3, h4⟩ := h
  obtain ⟨b1, b2, b3, b4, b5, b6, b7⟩ := tk_b hch h1
  unfold f_X3_isNumber
  rw [h2.2.2.1]
  by_cases c : (tk ch t e).2.2.1 = 2
  · rw [if_pos (show nI (srt (tk ch t e).2.2.1) = (2 : Int32) from (srt_eq (j := 2) b5 b6 (by omega)).mpr c), h2.2.2.2.1 c]
    by_cases c2 : oI (nI (tk ch t e).2.2.2) a.toInt b.toInt
    · rw [if_pos ((out_0 rfl rfl).mpr c2), if_pos ⟨c, c2⟩]
    · rw [if_neg (fun q => c2 ((out_0 rfl rfl).mp q)), if_neg (fun q => c2 q.2)]
  · rw [if_neg (show ¬ nI (srt (tk ch t e).2.2.1) = (2 : Int32) from fun q => c ((srt_eq (j := 2) b5 b6 (by omega)).mp q)), if_neg (fun q => c q.1)]
theorem num_c {ch : Nat → Nat} {t e : Nat} {N : Mem} {a b : Int32} (h : RT N (tk ch t e)) (hb : (tk ch t e).2.2.1 ≤ 5) : (if (N.1 176 10) = (2 : Int32) then (if (f_X7_in (N.1 176 11).toInt64 a.toInt64 b.toInt64) = (0 : Int32) then (0 : Int32) else (1 : Int32)) else (0 : Int32)) = if (tk ch t e).2.2.1 = 2 ∧ oI (nI (tk ch t e).2.2.2) a.toInt b.toInt then 1 else 0 := by
  obtain ⟨r1, r2, r3, r4⟩ := h
  rw [r3]
  by_cases c : (tk ch t e).2.2.1 = 2
  · rw [if_pos (show nI (tk ch t e).2.2.1 = (2 : Int32) from by rw [c]; rfl), r4 (Or.inr c)]
    by_cases c2 : oI (nI (tk ch t e).2.2.2) a.toInt b.toInt
    · rw [if_neg (fun q => (in_0 (wide _) (wide _) (wide _)).mp q c2), if_pos ⟨c, c2⟩]
    · rw [if_pos ((in_0 (wide _) (wide _) (wide _)).mpr c2), if_neg (fun q => c2 q.2)]
  · rw [if_neg (show ¬ nI (tk ch t e).2.2.1 = (2 : Int32) from fun q => c ((nI_eq (b := 2) (by omega) (by decide)).mp q)), if_neg (fun q => c q.1)]
theorem num_rel {ch : Nat → Nat} {t e : Nat} {Z : Mem → Mem → Prop} {M0 N0 M N : Mem} (hZ : Zs Z) (ht : t ≤ 150) (hch : ∀ j, j < t → ch j ≤ 127) (hB : Bs ch t M0 N0 M N) (hS : Sy1 ch t M N e) (hz : Z M N) (a b : Int32) : ∃ M' N' x, f_X7_number a b N = some (x, N') ∧ Bs ch t M0 N0 M' N' ∧ Z M' N' ∧ nearM M M' ∧ nearN N N' ∧ ((∃ e2, e < e2 ∧ f_X3_takeNumber 165 a b M = some (1, M') ∧ Sy1 ch t M' N' e2 ∧ M'.1 165 5 = x ∧ oI x a.toInt b.toInt ∧ ∃ v, v ≤ 1000 ∧ x = nI v) ∨ (f_X3_takeNumber 165 a b M = some (0, M') ∧ FT t M' N')) := by
  obtain ⟨M1, q1, q2, q3⟩ := to2 ht hch hB.2.2.2.2.2.2.2.1 hS
  have hB1 : Bs ch t M0 N0 M1 N := hB.near q3 (nearN.rfl' N)
  have hz1 : Z M1 N := hZ M N M1 N hz q3 (nearN.rfl' N)
  obtain ⟨b1, b2, b3, b4, b5, b6, b7⟩ := tk_b hch hS.1
  have eM : f_X3_takeNumber 165 a b M = some (if (tk ch t e).2.2.1 = 2 ∧ oI (nI (tk ch t e).2.2.2) a.toInt b.toInt then 1 else 0, M1) := by
    unfold f_X3_takeNumber
    rw [q1, ob_e, isNum_n hch q2]
  unfold f_X7_number
  rw [lq_e, num_c hS.2.2.1 b6, lq_e]
  by_cases c : (tk ch t e).2.2.1 = 2 ∧ oI (nI (tk ch t e).2.2.2) a.toInt b.toInt
  · rw [if_pos c] at eM ⊢
    obtain ⟨N', r1, r2, r3⟩ := next1 (a := 1) (by decide) ht hch hB1.2.2.2.2.2.2.2.2 q2
    refine ⟨M1, N', N.1 176 11, ?_, hB1.near (nearM.rfl' M1) r3, hZ M1 N M1 N' hz1 (nearM.rfl' M1) r3, q3, r3, Or.inl ⟨(tk ch t e).2.1, by have := b4 (by omega); omega, eM, r2, ?_, ?_, (tk ch t e).2.2.2, b7, ?_⟩⟩
    · rw [r1, ob_e]
    · rw [q2.2.1.2.2.2.1 c.1, hS.2.2.1.2.2.2 (Or.inr c.1)]
    · rw [hS.2.2.1.2.2.2 (Or.inr c.1)]; exact c.2
    · exact hS.2.2.1.2.2.2 (Or.inr c.1)
  · rw [if_neg c] at eM ⊢
    obtain ⟨N', r1, r2, r3⟩ := next0 ht hch q2
    refine ⟨M1, N', N.1 176 11, ?_, hB1.near (nearM.rfl' M1) r3, hZ M1 N M1 N' hz1 (nearM.rfl' M1) r3, q3, r3, Or.inr ⟨eM, r2⟩⟩
    rw [r1, ob_e]
theorem semi_rel {ch : Nat → Nat} {t e : Nat} {Z : Mem → Mem → Prop} {M0 N0 M N : Mem} (hZ : Zs Z) (ht : t ≤ 150) (hch : ∀ j, j < t → ch j ≤ 127) (hB : Bs ch t M0 N0 M N) (hS : Sy1 ch t M N e) (hz : Z M N) : ∃ M' N', f_X7_must (if (N.1 176 10) = (3 : Int32) then (1 : Int32) else (0 : Int32)) N = some N' ∧ Bs ch t M0 N0 M' N' ∧ Z M' N' ∧ ((∃ e2, e < e2 ∧ f_X3_takeSemicolon 165 M = some (1, M') ∧ Sy1 ch t M' N' e2) ∨ (f_X3_takeSemicolon 165 M = some (0, M') ∧ FT t M' N')) := by
  obtain ⟨M1, q1, q2, q3⟩ := to2 ht hch hB.2.2.2.2.2.2.2.1 hS
  have hB1 : Bs ch t M0 N0 M1 N := hB.near q3 (nearN.rfl' N)
  have hz1 : Z M1 N := hZ M N M1 N hz q3 (nearN.rfl' N)
  obtain ⟨b1, b2, b3, b4, b5, b6, b7⟩ := tk_b hch hS.1
  by_cases c : (tk ch t e).2.2.1 = 3
  · have eM : f_X3_takeSemicolon 165 M = some (1, M1) := by
      unfold f_X3_takeSemicolon
      rw [q1, ob_e, q2.2.1.2.2.1, if_pos (show nI (srt (tk ch t e).2.2.1) = (3 : Int32) from (srt_eq (j := 3) b5 b6 (by omega)).mpr c)]
    rw [hS.2.2.1.2.2.1, if_pos (show nI (tk ch t e).2.2.1 = (3 : Int32) from by rw [c]; rfl)]
    obtain ⟨N', r1, r2, r3⟩ := next1 (a := 1) (by decide) ht hch hB1.2.2.2.2.2.2.2.2 q2
    exact ⟨M1, N', r1, hB1.near (nearM.rfl' M1) r3, hZ M1 N M1 N' hz1 (nearM.rfl' M1) r3, Or.inl ⟨(tk ch t e).2.1, by have := b4 (by omega); omega, eM, r2⟩⟩
  · have eM : f_X3_takeSemicolon 165 M = some (0, M1) := by
      unfold f_X3_takeSemicolon
      rw [q1, ob_e, q2.2.1.2.2.1, if_neg (show ¬ nI (srt (tk ch t e).2.2.1) = (3 : Int32) from fun q => c ((srt_eq (j := 3) b5 b6 (by omega)).mp q))]
    rw [hS.2.2.1.2.2.1, if_neg (show ¬ nI (tk ch t e).2.2.1 = (3 : Int32) from fun q => c ((nI_eq (b := 3) (by omega) (by decide)).mp q))]
    obtain ⟨N', r1, r2, r3⟩ := next0 ht hch q2
    exact ⟨M1, N', r1, hB1.near (nearM.rfl' M1) r3, hZ M1 N M1 N' hz1 (nearM.rfl' M1) r3, Or.inr ⟨eM, r2⟩⟩
