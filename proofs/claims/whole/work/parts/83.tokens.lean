/-! tokens of the text: the class's reader and the reference's -/
theorem nIc : ∀ c, c < 128 → (nI c).toInt64 = lN c := by decide +kernel
theorem shl7 (w c : Nat) (hw : w < 72057594037927936) (hc : c < 128) : ((lN w <<< ((7 : Int32).toInt64 &&& 63)) ||| lN c) = lN (w * 128 + c) := by
  rw [← Int64.toBitVec_inj, Int64.toBitVec_or, Int64.toBitVec_shiftLeft]
  rw [show ((((7 : Int32).toInt64 &&& 63) : Int64).toBitVec.smod 64) = 7#64 by decide]
  show (BitVec.ofNat 64 w <<< 7#64 ||| BitVec.ofNat 64 c) = BitVec.ofNat 64 (w * 128 + c)
  apply BitVec.eq_of_toNat_eq
  rw [BitVec.toNat_or]
  show ((BitVec.ofNat 64 w <<< 7).toNat ||| (BitVec.ofNat 64 c).toNat) = _
  rw [BitVec.toNat_shiftLeft, BitVec.toNat_ofNat, BitVec.toNat_ofNat, BitVec.toNat_ofNat, Nat.mod_eq_of_lt (show w < 2 ^ 64 by omega), Nat.mod_eq_of_lt (show c < 2 ^ 64 by omega), Nat.shiftLeft_eq, Nat.mod_eq_of_lt (show w * 2 ^ 7 < 2 ^ 64 by omega), Nat.mod_eq_of_lt (show w * 128 + c < 2 ^ 64 by omega), ← Nat.shiftLeft_eq, ← Nat.shiftLeft_add_eq_or_of_lt (show c < 2 ^ 7 from hc), Nat.shiftLeft_eq]
theorem l32 : (32 : Int32) = nI 32 := rfl
theorem l48 : (48 : Int32) = nI 48 := rfl
theorem l57 : (57 : Int32) = nI 57 := rfl
theorem l59 : (59 : Int32) = nI 59 := rfl
theorem l97 : (97 : Int32) = nI 97 := rfl
theorem l122' : (122 : Int32) = nI 122 := rfl
def rn (ch : Nat → Nat) (lo hi : Nat) : Nat → Nat → Nat
  | 0, j => j
  | k + 1, j => if lo ≤ ch j ∧ ch j ≤ hi then rn ch lo hi k (j + 1) else j
theorem rn_le (ch : Nat → Nat) (lo hi : Nat) : ∀ (k j : Nat), j ≤ rn ch lo hi k j ∧ rn ch lo hi k j ≤ j + k := by
  intro k
  induction k with
  | zero => intro j; exact ⟨Nat.le_refl _, Nat.le_refl _⟩
  | succ k ih =>
    intro j
    rw [rn]
    by_cases h : lo ≤ ch j ∧ ch j ≤ hi
    · rw [if_pos h]; have := ih (j + 1); omega
    · rw [if_neg h]; omega
theorem rn_in (ch : Nat → Nat) (lo hi : Nat) : ∀ (k j i : Nat), j ≤ i → i < rn ch lo hi k j → lo ≤ ch i ∧ ch i ≤ hi := by
  intro k
  induction k with
  | zero => intro j i h1 h2; have h2 : i < j := h2; omega
  | succ k ih =>
    intro j i h1 h2
    rw [rn] at h2
    by_cases h : lo ≤ ch j ∧ ch j ≤ hi
    · rw [if_pos h] at h2
      by_cases e : i = j
      · rw [e]; exact h
      · exact ih (j + 1) i (by omega) h2
    · rw [if_neg h] at h2; omega
def TxM (ch : Nat → Nat) (t : Nat) (M : Mem) : Prop := M.1 165 1 = nI t ∧ ∀ j, j < t → M.1 166 j = nI (ch j)
def TxN (ch : Nat → Nat) (t : Nat) (N : Mem) : Prop := N.1 176 7 = nI t ∧ ∀ j, j < t → N.1 178 j = nI (ch j)
theorem TxM.of {ch : Nat → Nat} {t : Nat} {M M' : Mem} (h : TxM ch t M) (h1 : M'.1 165 1 = M.1 165 1) (h2 : ∀ j, M'.1 166 j = M.1 166 j) : TxM ch t M' := ⟨by rw [h1]; exact h.1, fun j hj => by rw [h2]; exact h.2 j hj⟩
theorem TxN.of {ch : Nat → Nat} {t : Nat} {N N' : Mem} (h : TxN ch t N) (h1 : N'.1 176 7 = N.1 176 7) (h2 : ∀ j, N'.1 178 j = N.1 178 j) : TxN ch t N' := ⟨by rw [h1]; exact h.1, fun j hj => by rw [h2]; exact h.2 j hj⟩
theorem rdM {ch : Nat → Nat} {t j : Nat} {M : Mem} (hT : TxM ch t M) (ht : t ≤ 150) (hj : j < t) : rd M (165 + 1) (nI j) = some (nI (ch j)) := by
  rw [rd_n (show j < ln (165 + 1) from by show j < 150; omega) (by omega)]
  exact congrArg some (hT.2 j hj)
theorem cellM {ch : Nat → Nat} {t j : Nat} {M : Mem} (hT : TxM ch t M) (ht : t ≤ 150) (hj : j < t) : f_X6_cell (165 + 1) (nI j) M = some (nI (ch j)) := by
  rw [cell_n (show j < ln (165 + 1) from by show j < 150; omega) (by decide)]
  exact congrArg some (hT.2 j hj)
theorem runL {ch : Nat → Nat} {t lo hi : Nat} {M : Mem} (hT : TxM ch t M) (ht : t ≤ 150) (hch : ∀ j, j < t → ch j ≤ 127) (hlo : lo ≤ 127) (hhi : hi ≤ 127) : ∀ (k j f : Nat), j + k = t → k < f → f_X3_runEnd_L3 165 (nI lo) (nI hi) M f (nI j) = some (nI (rn ch lo hi k j)) := by
  intro k
  induction k with
  | zero =>
    intro j f hj hf
    obtain ⟨f', rfl⟩ : ∃ f', f = f' + 1 := ⟨f - 1, by omega⟩
    have : j = t := by omega
    subst this
    rw [f_X3_runEnd_L3]
    rw [if_neg (show ¬ nI j < (0 : Int32) from nI_nlt (b := 0) (by omega) (by omega)), hT.1, if_pos (nI_le (Nat.le_refl _) (by omega))]
    rfl
  | succ k ih =>
    intro j f hj hf
    obtain ⟨f', rfl⟩ : ∃ f', f = f' + 1 := ⟨f - 1, by omega⟩
    have hc := hch j (by omega)
    rw [f_X3_runEnd_L3]
    rw [if_neg (show ¬ nI j < (0 : Int32) from nI_nlt (b := 0) (by omega) (by omega)), hT.1, if_neg (nI_ge (by omega) (by omega)), if_neg (show ¬ nI (ln (165 + 1)) ≤ nI j from nI_ge (b := 150) (by omega) (by decide)), rdM hT ht (by omega), ob_e, ob_e, lq_e, nI_1, rn]
    by_cases c1 : lo ≤ ch j
    · rw [if_neg (nI_nlt c1 (by omega))]
      by_cases c2 : ch j ≤ hi
      · rw [if_neg (nI_nlt c2 (by omega)), if_pos ⟨c1, c2⟩]
        exact ih (j + 1) f' (by omega) (by omega)
      · rw [if_pos (nI_lt (by omega) (by omega)), if_neg (fun q => c2 q.2)]
    · rw [if_pos (nI_lt (by omega) (by omega)), if_neg (fun q => c1 q.1)]
theorem run_n {ch : Nat → Nat} {t lo hi j : Nat} {M : Mem} (hT : TxM ch t M) (ht : t ≤ 150) (hch : ∀ j, j < t → ch j ≤ 127) (hlo : lo ≤ 127) (hhi : hi ≤ 127) (hj : j ≤ t) : f_X3_runEnd 165 (nI j) (nI lo) (nI hi) M = some (nI (rn ch lo hi (t - j) j)) := by
  unfold f_X3_runEnd
  rw [runL hT ht hch hlo hhi (t - j) j FU (by omega) (FU_gt (by omega)), ob_e]
theorem byte_n {ch : Nat → Nat} {t j : Nat} {N : Mem} (hT : TxN ch t N) (ht : t ≤ 150) : f_X7_byteAt (nI j) N = some (if j < t then nI (ch j) else -1) ∨ ¬ j < 151 := by
  by_cases h : j < 151
  · left
    unfold f_X7_byteAt
    rw [hT.1]
    by_cases c : j < t
    · rw [if_neg (nI_ge c (by omega)), if_pos c, rd_n (by rw [ln_178]; omega) (by omega), ob_e, hT.2 j c]
    · rw [if_pos (nI_le (by omega) (by omega)), if_neg c]
  · exact Or.inr h
theorem byte_lt {ch : Nat → Nat} {t j : Nat} {N : Mem} (hT : TxN ch t N) (ht : t ≤ 150) (hj : j < t) : f_X7_byteAt (nI j) N = some (nI (ch j)) := by
  rcases byte_n (j := j) hT ht with h | h
  · rw [h, if_pos hj]
  · omega
theorem byte_ge {ch : Nat → Nat} {t : Nat} {N : Mem} (hT : TxN ch t N) (ht : t ≤ 150) : f_X7_byteAt (nI t) N = some (-1) := by
  rcases byte_n (j := t) hT ht with h | h
  · rw [h, if_neg (by omega)]
  · omega
theorem in_nN {c : Nat} {x y : Int64} {lo hi : Nat} (hc : c ≤ 127) (hx : x.toInt = (lo : Int)) (hy : y.toInt = (hi : Int)) : (f_X7_in (nI c).toInt64 x y = 0) ↔ ¬ (lo ≤ c ∧ c ≤ hi) := by
  rw [in_0 (wide (nI c)) hx hy, oI_nI (by omega)]
  constructor
  · intro h q; exact h (by omega)
  · intro h q; exact h (by omega)
theorem in_m1 {x y : Int64} {lo hi : Nat} (hx : x.toInt = (lo : Int)) (hy : y.toInt = (hi : Int)) : f_X7_in ((-1) : Int32).toInt64 x y = 0 := by
  rw [in_0 (wide (-1)) hx hy]
  intro q
  have := q.1
  rw [show ((-1) : Int32).toInt = -1 by decide] at this
  omega
theorem blankL {ch : Nat → Nat} {t : Nat} (ht : t ≤ 150) (hch : ∀ j, j < t → ch j ≤ 127) : ∀ (k j f : Nat) (N : Mem), j + k = t → k < f → TxN ch t N → N.1 176 8 = nI j → ∃ N', f_X7_looksOn_L0 f N = some N' ∧ N'.1 176 8 = nI (rn ch 32 32 k j) ∧ N'.2 = N.2 ∧ ∀ c b, ¬ (c = 176 ∧ b = 8) → N'.1 c b = N.1 c b := by
  intro k
  induction k with
  | zero =>
    intro j f N hj hf hT h8
    obtain ⟨f', rfl⟩ : ∃ f', f = f' + 1 := ⟨f - 1, by omega⟩
    have : j = t := by omega
    subst this
    refine ⟨N, ?_, h8, rfl, fun _ _ _ => rfl⟩
    rw [f_X7_looksOn_L0]
    rw [h8, byte_ge hT ht, ob_e, if_neg (show ¬ (-1 : Int32) = 32 by decide)]
  | succ k ih =>
    intro j f N hj hf hT h8
    obtain ⟨f', rfl⟩ : ∃ f', f = f' + 1 := ⟨f - 1, by omega⟩
    have hc := hch j (by omega)
    rw [f_X7_looksOn_L0, rn]
    rw [h8, byte_lt hT ht (by omega), ob_e, l32, lq_e, nI_1]
    by_cases c : ch j = 32
    · rw [if_pos (by rw [c]), if_pos (by omega)]
      obtain ⟨N', q1, q2, q3, q4⟩ := ih (j + 1) f' (s1 N 176 8 (nI (j + 1))) (by omega) (by omega) (hT.of (s1_ne (by omega)) (fun _ => s1_ne (by omega))) s1_eq
      exact ⟨N', q1, q2, q3, fun c b h => by rw [q4 c b h, s1_ne (by omega)]⟩
    · rw [if_neg (fun q => c ((nI_eq (by omega) (by omega)).mp q)), if_neg (by omega)]
      exact ⟨N, rfl, h8, rfl, fun _ _ _ => rfl⟩
theorem letterL {ch : Nat → Nat} {t : Nat} (ht : t ≤ 150) (hch : ∀ j, j < t → ch j ≤ 127) : ∀ (k j f : Nat) (N : Mem), j + k = t → k < f → TxN ch t N → N.1 176 8 = nI j → ∃ N', f_X7_looksOn_L57 f N = some N' ∧ N'.1 176 8 = nI (rn ch 97 122 k j) ∧ N'.2 = N.2 ∧ ∀ c b, ¬ (c = 176 ∧ b = 8) → N'.1 c b = N.1 c b := by
  intro k
  induction k with
  | zero =>
    intro j f N hj hf hT h8
    obtain ⟨f', rfl⟩ : ∃ f', f = f' + 1 := ⟨f - 1, by omega⟩
    have : j = t := by omega
    subst this
    refine ⟨N, ?_, h8, rfl, fun _ _ _ => rfl⟩
    rw [f_X7_looksOn_L57]
    rw [h8, byte_ge hT ht, ob_e, if_pos (in_m1 (lo := 97) (hi := 122) (by decide) (by decide))]
  | succ k ih =>
    intro j f N hj hf hT h8
    obtain ⟨f', rfl⟩ : ∃ f', f = f' + 1 := ⟨f - 1, by omega⟩
    have hc := hch j (by omega)
    rw [f_X7_looksOn_L57, rn]
    rw [h8, byte_lt hT ht (by omega), ob_e, lq_e, nI_1]
    by_cases c : 97 ≤ ch j ∧ ch j ≤ 122
    · rw [if_neg (fun q => (in_nN (lo := 97) (hi := 122) hc (by decide) (by decide)).mp q c), if_pos c]
      obtain ⟨N', q1, q2, q3, q4⟩ := ih (j + 1) f' (s1 N 176 8 (nI (j + 1))) (by omega) (by omega) (hT.of (s1_ne (by omega)) (fun _ => s1_ne (by omega))) s1_eq
      exact ⟨N', q1, q2, q3, fun c b h => by rw [q4 c b h, s1_ne (by omega)]⟩
    · rw [if_pos ((in_nN (lo := 97) (hi := 122) hc (by decide) (by decide)).mpr c), if_neg c]
      exact ⟨N, rfl, h8, rfl, fun _ _ _ => rfl⟩
def dv (ch : Nat → Nat) (s n : Nat) : Nat := if n = 0 then 0 else if n = 1 then ch s - 48 else 10 * (ch s - 48) + (ch (s + 1) - 48)
theorem digitL {ch : Nat → Nat} {t s : Nat} (ht : t ≤ 150) (hch : ∀ j, j < t → ch j ≤ 127) : ∀ (k j f : Nat) (N : Mem), j + k = t → k < f → s ≤ j → TxN ch t N → N.1 176 8 = nI j → N.1 176 9 = nI s → N.1 176 11 = nI (dv ch s (j - s)) → ∃ N', f_X7_looksOn_L134 f N = some N' ∧ N'.1 176 8 = nI (rn ch 48 57 k j) ∧ N'.1 176 11 = nI (dv ch s (rn ch 48 57 k j - s)) ∧ N'.2 = N.2 ∧ ∀ c b, ¬ (c = 176 ∧ (b = 8 ∨ b = 11)) → N'.1 c b = N.1 c b := by
  intro k
  induction k with
  | zero =>
    intro j f N hj hf hs hT h8 h9 h11
    obtain ⟨f', rfl⟩ : ∃ f', f = f' + 1 := ⟨f - 1, by omega⟩
    have : j = t := by omega
    subst this
    refine ⟨N, ?_, h8, h11, rfl, fun _ _ _ => rfl⟩
    rw [f_X7_looksOn_L134]
    rw [h8, byte_ge hT ht, ob_e, if_pos (in_m1 (lo := 48) (hi := 57) (by decide) (by decide))]
  | succ k ih =>
    intro j f N hj hf hs hT h8 h9 h11
    obtain ⟨f', rfl⟩ : ∃ f', f = f' + 1 := ⟨f - 1, by omega⟩
    have hc := hch j (by omega)
    rw [rn]
    by_cases c : 48 ≤ ch j ∧ ch j ≤ 57
    · rw [if_pos c]
      have hv : ob (if (2 : Int32) ≤ (N.1 176 8 - N.1 176 9) then some (N.1 176 11) else ob (rd N 178 (N.1 176 8)) (fun x26 => some ((((10 : Int32) * (N.1 176 11)) + x26) - (48 : Int32)))) (fun x28 => some x28) = some (nI (dv ch s (j + 1 - s))) := by
        rw [h8, h9, h11, pk_sub hs, l2]
        by_cases c2 : 2 ≤ j - s
        · rw [if_pos (nI_le c2 (by omega)), ob_e]
          unfold dv
          rw [if_neg (by omega), if_neg (by omega), if_neg (by omega), if_neg (by omega)]
        · rw [if_neg (nI_ge (by omega) (by omega)), rd_n (by rw [ln_178]; omega) (by omega), ob_e, ob_e, hT.2 j (by omega), l10, l48, pk_mul, nI_add, pk_sub (by omega)]
          congr 2
          unfold dv
          by_cases e0 : j = s
          · subst e0
            rw [if_pos (by omega), if_neg (by omega), if_pos (by omega)]; omega
          · have e1 : j = s + 1 := by omega
            subst e1
            rw [if_neg (by omega), if_pos (by omega), if_neg (by omega), if_neg (by omega)]; omega
      obtain ⟨N', q1, q2, q3, q4, q5⟩ := ih (j + 1) f' (s1 (s1 N 176 11 (nI (dv ch s (j + 1 - s)))) 176 8 (nI (j + 1))) (by omega) (by omega) (by omega) (hT.of (by rw [s1_ne (by omega), s1_ne (by omega)]) (fun _ => by rw [s1_ne (by omega), s1_ne (by omega)])) s1_eq (by rw [s1_ne (by omega), s1_ne (by omega)]; exact h9) (by rw [s1_ne (by omega), s1_eq])
      refine ⟨N', ?_, q2, q3, q4, fun c b h => by rw [q5 c b h, s1_ne (by omega), s1_ne (by omega)]⟩
      rw [f_X7_looksOn_L134]
      have hv' : (if (2 : Int32) ≤ (N.1 176 8 - N.1 176 9) then some (N.1 176 11) else ob (rd N 178 (N.1 176 8)) (fun x26 => some ((((10 : Int32) * (N.1 176 11)) + x26) - (48 : Int32)))) = some (nI (dv ch s (j + 1 - s))) := by
        cases hz : (if (2 : Int32) ≤ (N.1 176 8 - N.1 176 9) then some (N.1 176 11) else ob (rd N 178 (N.1 176 8)) (fun x26 => some ((((10 : Int32) * (N.1 176 11)) + x26) - (48 : Int32)))) with
        | none => rw [hz] at hv; exact absurd hv (by intro q; cases q)
        | some z => rw [hz] at hv; exact hv
      rw [hv', ob_e, h8, byte_lt hT ht (by omega), ob_e, if_neg (fun q => (in_nN (lo := 48) (hi := 57) hc (by decide) (by decide)).mp q c), lq_e, lq_e, s1_ne (by omega), h8, nI_1]
      exact q1
    · rw [if_neg c]
      refine ⟨N, ?_, h8, h11, rfl, fun _ _ _ => rfl⟩
      rw [f_X7_looksOn_L134]
      rw [h8, byte_lt hT ht (by omega), ob_e, if_pos ((in_nN (lo := 48) (hi := 57) hc (by decide) (by decide)).mpr c)]
