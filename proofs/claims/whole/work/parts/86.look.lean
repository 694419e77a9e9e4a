/-! one token, on both sides -/
def tkS (ch : Nat → Nat) (t e : Nat) : Nat := rn ch 32 32 (t - e) e
def tk (ch : Nat → Nat) (t e : Nat) : Nat × Nat × Nat × Nat :=
  if tkS ch t e < t then
    (if 97 ≤ ch (tkS ch t e) ∧ ch (tkS ch t e) ≤ 122 then (tkS ch t e, rn ch 97 122 (t - tkS ch t e) (tkS ch t e), 1, wcL (rl ch (tkS ch t e) (rn ch 97 122 (t - tkS ch t e) (tkS ch t e) - tkS ch t e)))
     else (if 48 ≤ ch (tkS ch t e) ∧ ch (tkS ch t e) ≤ 57 then (tkS ch t e, rn ch 48 57 (t - tkS ch t e) (tkS ch t e), (if rn ch 48 57 (t - tkS ch t e) (tkS ch t e) - tkS ch t e ≤ 2 then 2 else 5), dv ch (tkS ch t e) (rn ch 48 57 (t - tkS ch t e) (tkS ch t e) - tkS ch t e))
     else (tkS ch t e, tkS ch t e + 1, (if ch (tkS ch t e) = 59 then 3 else 5), 0)))
  else (tkS ch t e, t, 4, 0)
def srt (k : Nat) : Nat := if k = 4 then 0 else if k = 5 then 4 else k
def CT (M : Mem) (q : Nat × Nat × Nat × Nat) : Prop := M.1 165 2 = nI q.1 ∧ M.1 165 3 = nI q.2.1 ∧ M.1 165 4 = nI (srt q.2.2.1) ∧ (q.2.2.1 = 2 → M.1 165 5 = nI q.2.2.2) ∧ ∀ o, o < 5 → f_X3_isWord 165 o M = some (if q.2.2.1 = 1 ∧ q.2.2.2 = o + 1 then 1 else 0)
def RT (N : Mem) (q : Nat × Nat × Nat × Nat) : Prop := N.1 176 9 = nI q.1 ∧ N.1 176 8 = nI q.2.1 ∧ N.1 176 10 = nI q.2.2.1 ∧ (q.2.2.1 = 1 ∨ q.2.2.1 = 2 → N.1 176 11 = nI q.2.2.2)
theorem tkS_b {ch : Nat → Nat} {t e : Nat} (he : e ≤ t) : e ≤ tkS ch t e ∧ tkS ch t e ≤ t := by
  have := rn_le ch 32 32 (t - e) e
  unfold tkS
  omega
theorem dv_b {ch : Nat → Nat} {t s n : Nat} (hch : ∀ j, j < t → ch j ≤ 127) (hs : s + n ≤ t) : dv ch s n ≤ 1000 := by
  unfold dv
  by_cases h0 : n = 0
  · rw [if_pos h0]; omega
  · rw [if_neg h0]
    have := hch s (by omega)
    by_cases h1 : n = 1
    · rw [if_pos h1]; omega
    · rw [if_neg h1]
      have := hch (s + 1) (by omega)
      omega
theorem rn_up {ch : Nat → Nat} {lo hi k j : Nat} (hk : 0 < k) (h : lo ≤ ch j ∧ ch j ≤ hi) : j < rn ch lo hi k j := by
  obtain ⟨k', rfl⟩ : ∃ k', k = k' + 1 := ⟨k - 1, by omega⟩
  rw [rn, if_pos h]
  have := (rn_le ch lo hi k' (j + 1)).1
  omega
theorem tk_b {ch : Nat → Nat} {t e : Nat} (hch : ∀ j, j < t → ch j ≤ 127) (he : e ≤ t) : e ≤ (tk ch t e).1 ∧ (tk ch t e).1 ≤ (tk ch t e).2.1 ∧ (tk ch t e).2.1 ≤ t ∧ (¬ (tk ch t e).2.2.1 = 4 → (tk ch t e).1 < (tk ch t e).2.1) ∧ 1 ≤ (tk ch t e).2.2.1 ∧ (tk ch t e).2.2.1 ≤ 5 ∧ (tk ch t e).2.2.2 ≤ 1000 := by
  obtain ⟨h1, h2⟩ := tkS_b (ch := ch) he
  unfold tk
  generalize tkS ch t e = s at h1 h2
  by_cases c0 : s < t
  · rw [if_pos c0]
    by_cases c1 : 97 ≤ ch s ∧ ch s ≤ 122
    · rw [if_pos c1]
      have a1 := rn_le ch 97 122 (t - s) s
      have a2 := rn_up (k := t - s) (by omega) c1
      have a3 := wc_le (rl ch s (rn ch 97 122 (t - s) s - s))
      refine ⟨h1, a1.1, by show rn ch 97 122 (t - s) s ≤ t; omega, fun _ => a2, Nat.le_refl _, by show 1 ≤ 5; omega, by show wcL (rl ch s (rn ch 97 122 (t - s) s - s)) ≤ 1000; omega⟩
    · rw [if_neg c1]
      by_cases c2 : 48 ≤ ch s ∧ ch s ≤ 57
      · rw [if_pos c2]
        have a1 := rn_le ch 48 57 (t - s) s
        have a2 := rn_up (k := t - s) (by omega) c2
        refine ⟨h1, a1.1, by show rn ch 48 57 (t - s) s ≤ t; omega, fun _ => a2, ?_, ?_, dv_b hch (by omega)⟩
        · show 1 ≤ if rn ch 48 57 (t - s) s - s ≤ 2 then 2 else 5
          split <;> omega
        · show (if rn ch 48 57 (t - s) s - s ≤ 2 then 2 else 5) ≤ 5
          split <;> omega
      · rw [if_neg c2]
        refine ⟨h1, by show s ≤ s + 1; omega, by show s + 1 ≤ t; omega, fun _ => by show s < s + 1; omega, ?_, ?_, by show 0 ≤ 1000; omega⟩
        · show 1 ≤ if ch s = 59 then 3 else 5
          split <;> omega
        · show (if ch s = 59 then 3 else 5) ≤ 5
          split <;> omega
  · rw [if_neg c0]
    exact ⟨h1, h2, Nat.le_refl _, fun q => absurd rfl q, by show 1 ≤ 4; omega, by show 4 ≤ 5; omega, by show 0 ≤ 1000; omega⟩
theorem out_nN {c lo hi : Nat} (hc : c ≤ 127) (h1 : lo ≤ 127) (h2 : hi ≤ 127) : (f_X6_outside (nI c) (nI lo) (nI hi) = 0) ↔ (lo ≤ c ∧ c ≤ hi) := by
  rw [out_0 (lo := (lo : Int)) (hi := (hi : Int)) (nI_I (by omega)) (nI_I (by omega)), oI_nI (by omega)]
  omega
theorem cell_any {s : Nat} {M : Mem} (hs : s ≤ 150) : ∃ x, f_X6_cell (165 + 1) (nI s) M = some x := by
  by_cases h : s < 150
  · exact ⟨_, cell_n (show s < ln (165 + 1) from h) (by decide)⟩
  · refine ⟨0, ?_⟩
    unfold f_X6_cell
    rw [if_neg (show ¬ nI s < (0 : Int32) from nI_nlt (b := 0) (by omega) (by omega)), if_pos (show nI (ln (165 + 1)) ≤ nI s from nI_le (a := 150) (by omega) (by omega))]
theorem adv {ch : Nat → Nat} {t e : Nat} {M : Mem} (ht : t ≤ 150) (hch : ∀ j, j < t → ch j ≤ 127) (hT : TxM ch t M) (h3 : M.1 165 3 = nI e) (he : e ≤ t) : ∃ M', f_X3_advance 165 M = some M' ∧ CT M' (tk ch t e) ∧ M'.2 = M.2 ∧ ∀ c b, ¬ (c = 165 ∧ 2 ≤ b ∧ b ≤ 5) → M'.1 c b = M.1 c b := by
  obtain ⟨b1, b2⟩ := tkS_b (ch := ch) he
  have hrun : f_X3_runEnd 165 (nI e) (nI 32) (nI 32) M = some (nI (tkS ch t e)) := run_n hT ht hch (by omega) (by omega) he
  unfold f_X3_advance tk
  generalize tkS ch t e = s at b1 b2 hrun
  rw [h3, l32, hrun, ob_e, lq_e, lq_e]
  rw [show (s1 M 165 2 (nI s)).1 165 2 + (1 : Int32) = nI (s + 1) from by rw [s1_eq, nI_1]]
  have k2 : (s1 (s1 M 165 2 (nI s)) 165 3 (nI (s + 1))).1 165 2 = nI s := by rw [s1_ne (by omega), s1_eq]
  have k3 : (s1 (s1 M 165 2 (nI s)) 165 3 (nI (s + 1))).1 165 3 = nI (s + 1) := s1_eq
  have kf : ∀ c b, ¬ (c = 165 ∧ 2 ≤ b ∧ b ≤ 5) → (s1 (s1 M 165 2 (nI s)) 165 3 (nI (s + 1))).1 c b = M.1 c b := fun c b h => by rw [s1_ne (by omega), s1_ne (by omega)]
  have kk : (s1 (s1 M 165 2 (nI s)) 165 3 (nI (s + 1))).2 = M.2 := rfl
  generalize s1 (s1 M 165 2 (nI s)) 165 3 (nI (s + 1)) = K at k2 k3 kf kk
  have hTK : TxM ch t K := hT.of (kf _ _ (by omega)) (fun j => kf _ _ (by omega))
  rw [k2, hTK.1]
  by_cases c0 : s < t
  · have hc := hch s c0
    rw [if_pos c0, cellM hTK ht c0, ob_e, if_pos (nI_lt c0 (by omega)), l97, l122', l48, l57]
    by_cases c1 : 97 ≤ ch s ∧ ch s ≤ 122
    · rw [if_pos c1, if_pos ((out_nN hc (by omega) (by omega)).mpr c1), lq_e, s1_ne (by omega), k2, run_n (hTK.of (s1_ne (by omega)) (fun j => s1_ne (by omega))) ht hch (by omega) (by omega) b2, ob_e, lq_e]
      have a1 := rn_le ch 97 122 (t - s) s
      generalize rn ch 97 122 (t - s) s = u at a1
      obtain ⟨n, rfl⟩ : ∃ n, u = s + n := ⟨u - s, by omega⟩
      rw [show s + n - s = n by omega]
      refine ⟨_, rfl, ⟨?_, ?_, ?_, fun q => absurd (show 1 = 2 from q) (by decide), fun o ho => ?_⟩, kk, fun c b h => ?_⟩
      · rw [s1_ne (by omega), s1_ne (by omega)]; exact k2
      · exact s1_eq
      · rw [s1_ne (by omega), s1_eq]; rfl
      · rw [isWord_n (s := s) (n := n) ht hch (hTK.of (by rw [s1_ne (by omega), s1_ne (by omega)]) (fun j => by rw [s1_ne (by omega), s1_ne (by omega)])) ho (by omega) (by rw [s1_ne (by omega), s1_ne (by omega)]; exact k2) s1_eq (by rw [s1_ne (by omega), s1_eq]; rfl)]
        by_cases z : wcL (rl ch s n) = o + 1
        · rw [if_pos z, if_pos ⟨rfl, z⟩]
        · rw [if_neg z, if_neg (fun q => z q.2)]
      · rw [s1_ne (by omega), s1_ne (by omega)]; exact kf c b h
    · rw [if_neg c1, if_neg (fun q => c1 ((out_nN hc (by omega) (by omega)).mp q))]
      by_cases c2 : 48 ≤ ch s ∧ ch s ≤ 57
      · rw [if_pos c2, if_pos ((out_nN hc (by omega) (by omega)).mpr c2), run_n hTK ht hch (by omega) (by omega) b2, ob_e, lq_e]
        have a1 := rn_le ch 48 57 (t - s) s
        have a2 := rn_up (k := t - s) (by omega) c2
        have a3 := rn_in ch 48 57 (t - s) s
        generalize rn ch 48 57 (t - s) s = u at a1 a2 a3
        obtain ⟨n, rfl⟩ : ∃ n, u = s + n := ⟨u - s, by omega⟩
        rw [show s + n - s = n by omega, s1_eq, s1_ne (by omega), k2, pk_sub (show s ≤ s + n by omega), show s + n - s = n by omega, lq_e, lq_e]
        have hk : (if (2 : Int32) < nI n then (4 : Int32) else (2 : Int32)) = nI (srt (if n ≤ 2 then 2 else 5)) := by
          rw [l2]
          by_cases z : n ≤ 2
          · rw [if_neg (nI_nlt z (by omega)), if_pos z]; rfl
          · rw [if_pos (nI_lt (by omega) (by omega)), if_neg z]; rfl
        rw [hk, s1_ne (by omega), s1_eq, s1_ne (by omega), s1_ne (by omega), k2, pk_sub (show s ≤ s + n by omega), show s + n - s = n by omega]
        have hv : (if nI n = (1 : Int32) then some (nI (ch s) - nI 48) else ob (f_X6_cell (165 + 1) (nI s + (1 : Int32)) (s1 (s1 K 165 3 (nI (s + n))) 165 4 (nI (srt (if n ≤ 2 then 2 else 5))))) (fun x17 => some ((((10 : Int32) * (nI (ch s) - nI 48)) + x17) - nI 48))) = some (nI (dv ch s n)) := by
          unfold dv
          rw [if_neg (show ¬ n = 0 by omega)]
          by_cases z : n = 1
          · rw [if_pos (show nI n = (1 : Int32) from by rw [z]; rfl), if_pos z, pk_sub c2.1]
          · have hs1 := a3 (s + 1) (by omega) (by omega)
            rw [if_neg (show ¬ nI n = (1 : Int32) from fun q => z ((nI_eq (a := n) (b := 1) (by omega) (by decide)).mp q)), if_neg z, nI_1, cellM (hTK.of (by rw [s1_ne (by omega), s1_ne (by omega)]) (fun j => by rw [s1_ne (by omega), s1_ne (by omega)])) ht (by omega), ob_e, pk_sub c2.1, l10, pk_mul, nI_add, pk_sub (by omega)]
            congr 2
            omega
        rw [hv, ob_e, lq_e]
        refine ⟨_, rfl, ⟨?_, ?_, ?_, fun q => ?_, fun o ho => ?_⟩, kk, fun c b h => ?_⟩
        · rw [s1_ne (by omega), s1_ne (by omega), s1_ne (by omega)]; exact k2
        · rw [s1_ne (by omega), s1_ne (by omega), s1_eq]
        · rw [s1_ne (by omega), s1_eq]
        · exact s1_eq
        · rw [isWord_0, if_neg]
          · rintro ⟨q, _⟩
            have q : (if n ≤ 2 then 2 else 5) = 1 := q
            split at q <;> omega
          · rw [s1_ne (by omega), s1_eq]
            by_cases z : n ≤ 2
            · rw [if_pos z]; decide
            · rw [if_neg z]; decide
        · rw [s1_ne (by omega), s1_ne (by omega), s1_ne (by omega)]; exact kf c b h
      · rw [if_neg c2, if_neg (fun q => c2 ((out_nN hc (by omega) (by omega)).mp q)), lq_e, lq_e]
        have hk : (if nI (ch s) = (59 : Int32) then (3 : Int32) else (4 : Int32)) = nI (srt (if ch s = 59 then 3 else 5)) := by
          rw [l59]
          by_cases z : ch s = 59
          · rw [if_pos (by rw [z]), if_pos z]; rfl
          · rw [if_neg (fun q => z ((nI_eq (by omega) (by omega)).mp q)), if_neg z]; rfl
        rw [hk]
        refine ⟨_, rfl, ⟨?_, ?_, s1_eq, fun q => ?_, fun o ho => ?_⟩, kk, fun c b h => ?_⟩
        · rw [s1_ne (by omega)]; exact k2
        · rw [s1_ne (by omega)]; exact k3
        · exfalso
          have q : (if ch s = 59 then 3 else 5) = 2 := q
          split at q <;> omega
        · rw [isWord_0, if_neg]
          · rintro ⟨q, _⟩
            have q : (if ch s = 59 then 3 else 5) = 1 := q
            split at q <;> omega
          · rw [s1_eq]
            by_cases z : ch s = 59
            · rw [if_pos z]; decide
            · rw [if_neg z]; decide
        · rw [s1_ne (by omega)]; exact kf c b h
  · obtain ⟨x, hx⟩ := cell_any (M := K) (show s ≤ 150 by omega)
    rw [if_neg c0, hx, ob_e, if_neg (nI_nlt (by omega) (by omega)), lq_e, lq_e, s1_ne (by omega), hTK.1]
    refine ⟨_, rfl, ⟨?_, s1_eq, ?_, fun q => absurd (show 4 = 2 from q) (by decide), fun o ho => ?_⟩, kk, fun c b h => ?_⟩
    · rw [s1_ne (by omega), s1_ne (by omega)]; exact k2
    · rw [s1_ne (by omega), s1_eq]; rfl
    · rw [isWord_0, if_neg (fun q => absurd (show 4 = 1 from q.1) (by decide))]
      rw [s1_ne (by omega), s1_eq]; decide
    · rw [s1_ne (by omega), s1_ne (by omega)]; exact kf c b h
theorem lks {ch : Nat → Nat} {t e : Nat} {N : Mem} (ht : t ≤ 150) (hch : ∀ j, j < t → ch j ≤ 127) (hT : TxN ch t N) (h8 : N.1 176 8 = nI e) (he : e ≤ t) : ∃ N', f_X7_looksOn N = some N' ∧ RT N' (tk ch t e) ∧ N'.2 = N.2 ∧ ∀ c b, ¬ (c = 176 ∧ 8 ≤ b ∧ b ≤ 11) → N'.1 c b = N.1 c b := by
  obtain ⟨b1, b2⟩ := tkS_b (ch := ch) he
  obtain ⟨N2, q1, q2, q3, q4⟩ := blankL ht hch (t - e) e FU N (by omega) (FU_gt (by omega)) hT h8
  have q2 : N2.1 176 8 = nI (tkS ch t e) := q2
  unfold f_X7_looksOn tk
  generalize tkS ch t e = s at b1 b2 q2
  rw [q1, ob_e, lq_e]
  have k8 : (s1 N2 176 9 (N2.1 176 8)).1 176 8 = nI s := by rw [s1_ne (by omega)]; exact q2
  have k9 : (s1 N2 176 9 (N2.1 176 8)).1 176 9 = nI s := by rw [s1_eq]; exact q2
  have kf : ∀ c b, ¬ (c = 176 ∧ 8 ≤ b ∧ b ≤ 11) → (s1 N2 176 9 (N2.1 176 8)).1 c b = N.1 c b := fun c b h => by rw [s1_ne (by omega)]; exact q4 c b (by omega)
  have kk : (s1 N2 176 9 (N2.1 176 8)).2 = N.2 := q3
  generalize s1 N2 176 9 (N2.1 176 8) = K at k8 k9 kf kk
  have hTK : TxN ch t K := hT.of (kf _ _ (by omega)) (fun j => kf _ _ (by omega))
  rw [k8]
  by_cases c0 : s < t
  · have hc := hch s c0
    rw [if_pos c0, byte_lt hTK ht c0, ob_e]
    by_cases c1 : 97 ≤ ch s ∧ ch s ≤ 122
    · rw [if_pos c1, if_neg (fun q => (in_nN (lo := 97) (hi := 122) hc (by decide) (by decide)).mp q c1)]
      obtain ⟨N3, r1, r2, r3, r4⟩ := letterL ht hch (t - s) s FU K (by omega) (FU_gt (by omega)) hTK k8
      have a1 := rn_le ch 97 122 (t - s) s
      have a3 := rn_in ch 97 122 (t - s) s
      generalize rn ch 97 122 (t - s) s = u at a1 a3 r2
      obtain ⟨n, rfl⟩ : ∃ n, u = s + n := ⟨u - s, by omega⟩
      have hT3 : TxN ch t (s1 N3 176 10 1) := hTK.of (by rw [s1_ne (by omega)]; exact r4 _ _ (by omega)) (fun j => by rw [s1_ne (by omega)]; exact r4 _ _ (by omega))
      rw [show s + n - s = n by omega, r1, ob_e, lq_e, s1_ne (by omega), s1_ne (by omega), r2, r4 176 9 (by omega), k9, wordAt_n ht hT3 (by omega) (fun j hj => by have := a3 (s + j) (by omega) (by omega); omega), ob_e, lq_e]
      refine ⟨_, rfl, ⟨?_, ?_, ?_, fun _ => s1_eq⟩, by rw [s1_2, s1_2, r3]; exact kk, fun c b h => ?_⟩
      · rw [s1_ne (by omega), s1_ne (by omega), r4 176 9 (by omega)]; exact k9
      · rw [s1_ne (by omega), s1_ne (by omega)]; exact r2
      · rw [s1_ne (by omega), s1_eq]; rfl
      · rw [s1_ne (by omega), s1_ne (by omega), r4 c b (by omega)]; exact kf c b h
    · rw [if_neg c1, if_pos ((in_nN (lo := 97) (hi := 122) hc (by decide) (by decide)).mpr c1)]
      by_cases c2 : 48 ≤ ch s ∧ ch s ≤ 57
      · rw [if_pos c2, if_neg (fun q => (in_nN (lo := 48) (hi := 57) hc (by decide) (by decide)).mp q c2), lq_e]
        obtain ⟨N3, r1, r2, r3, r4, r5⟩ := digitL (s := s) ht hch (t - s) s FU (s1 K 176 11 0) (by omega) (FU_gt (by omega)) (Nat.le_refl _) (hTK.of (s1_ne (by omega)) (fun j => s1_ne (by omega))) (by rw [s1_ne (by omega)]; exact k8) (by rw [s1_ne (by omega)]; exact k9) (by rw [s1_eq, Nat.sub_self]; rfl)
        have a1 := rn_le ch 48 57 (t - s) s
        generalize rn ch 48 57 (t - s) s = u at a1 r2 r3
        obtain ⟨n, rfl⟩ : ∃ n, u = s + n := ⟨u - s, by omega⟩
        rw [show s + n - s = n by omega] at r3 ⊢
        rw [r1, ob_e, r2, r5 176 9 (by omega), s1_ne (by omega), k9, pk_sub (show s ≤ s + n by omega), show s + n - s = n by omega, lq_e, lq_e]
        have hk : (if nI n ≤ (2 : Int32) then (2 : Int32) else (5 : Int32)) = nI (if n ≤ 2 then 2 else 5) := by
          rw [l2]
          by_cases z : n ≤ 2
          · rw [if_pos (nI_le z (by omega)), if_pos z]
          · rw [if_neg (nI_ge (by omega) (by omega)), if_neg z]; rfl
        rw [hk]
        refine ⟨_, rfl, ⟨?_, ?_, s1_eq, fun _ => ?_⟩, by rw [s1_2, r4]; exact kk, fun c b h => ?_⟩
        · rw [s1_ne (by omega), r5 176 9 (by omega), s1_ne (by omega)]; exact k9
        · rw [s1_ne (by omega)]; exact r2
        · rw [s1_ne (by omega)]; exact r3
        · rw [s1_ne (by omega), r5 c b (by omega), s1_ne (by omega)]; exact kf c b h
      · rw [if_neg c2, if_pos ((in_nN (lo := 48) (hi := 57) hc (by decide) (by decide)).mpr c2), lq_e, lq_e, lq_e, lq_e]
        have h0 : (0 : Int32) ≤ nI (ch s) := nI_le (a := 0) (by omega) (by omega)
        have hk : (if nI (ch s) = (59 : Int32) then (3 : Int32) else (if (0 : Int32) ≤ nI (ch s) then (5 : Int32) else (4 : Int32))) = nI (if ch s = 59 then 3 else 5) := by
          rw [l59, if_pos h0]
          by_cases z : ch s = 59
          · rw [if_pos (by rw [z]), if_pos z]; rfl
          · rw [if_neg (fun q => z ((nI_eq (by omega) (by omega)).mp q)), if_neg z]; rfl
        rw [hk, if_pos h0, s1_ne (by omega), k8, nI_1]
        refine ⟨_, rfl, ⟨?_, s1_eq, ?_, fun q => ?_⟩, kk, fun c b h => ?_⟩
        · rw [s1_ne (by omega), s1_ne (by omega)]; exact k9
        · rw [s1_ne (by omega), s1_eq]
        · exfalso
          have q : (if ch s = 59 then 3 else 5) = 1 ∨ (if ch s = 59 then 3 else 5) = 2 := q
          by_cases z : ch s = 59
          · rw [if_pos z] at q; omega
          · rw [if_neg z] at q; omega
        · rw [s1_ne (by omega), s1_ne (by omega)]; exact kf c b h
  · have : s = t := by omega
    subst this
    rw [if_neg c0, byte_ge hTK ht, ob_e, if_pos (in_m1 (lo := 97) (hi := 122) (by decide) (by decide)), if_pos (in_m1 (lo := 48) (hi := 57) (by decide) (by decide)), lq_e, lq_e, lq_e, lq_e, if_neg (show ¬ (-1 : Int32) = 59 by decide), if_neg (show ¬ (0 : Int32) ≤ -1 by decide), if_neg (show ¬ (0 : Int32) ≤ -1 by decide), s1_ne (by omega), k8]
    refine ⟨_, rfl, ⟨?_, ?_, ?_, fun q => ?_⟩, kk, fun c b h => ?_⟩
    · rw [s1_ne (by omega), s1_ne (by omega)]; exact k9
    · rw [s1_eq]; exact Int32.add_zero _
    · rw [s1_ne (by omega), s1_eq]; rfl
    · exact absurd (show 4 = 1 ∨ 4 = 2 from q) (by decide)
    · rw [s1_ne (by omega), s1_ne (by omega)]; exact kf c b h
