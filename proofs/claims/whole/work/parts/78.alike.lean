/-! how many stay alike: the crowd against the row of bits -/
theorem one_and (z : Int32) : z &&& 1 = 0 ∨ z &&& 1 = 1 := by
  rw [← Int32.toBitVec_inj, ← Int32.toBitVec_inj, Int32.toBitVec_and]
  show z.toBitVec &&& 1#32 = 0#32 ∨ z.toBitVec &&& 1#32 = 1#32
  rw [BitVec.and_one_eq_setWidth_ofBool_getLsbD]
  cases z.toBitVec.getLsbD 0 with
  | false => left; decide
  | true => right; decide
theorem and2 (x y : Int32) : ((x &&& y) &&& 1 = 1) ↔ (x &&& 1 = 1 ∧ y &&& 1 = 1) := by
  rw [Int32.and_assoc]
  rcases one_and y with h | h
  · rw [h, Int32.and_zero]
    exact ⟨fun q => absurd q (by decide), fun q => absurd q.2 (by decide)⟩
  · rw [h]
    exact ⟨fun q => ⟨q, rfl⟩, fun q => q.1⟩
def cnx (x : Int32) : List Int32 → Nat
  | [] => 0
  | y :: l => if x = y then cnx x l + 1 else cnx x l
def mxl : Nat → List Int32 → List Int32 → Nat
  | a, [], _ => a
  | a, x :: l, W => mxl (if cnx x W ≤ a then a else cnx x W) l W
def ml (M : Mem) (o : Nat) : Nat → Nat → List Int32
  | 0, _ => []
  | k + 1, j => M.1 o j :: ml M o k (j + 1)
def fl (B : Nat → Bool) (v : Nat → Int32) : Nat → Nat → List Int32
  | 0, _ => []
  | k + 1, j => if B j = true then v j :: fl B v k (j + 1) else fl B v k (j + 1)
theorem cnx_len (x : Int32) (l : List Int32) : cnx x l ≤ l.length := by
  induction l with
  | nil => exact Nat.le_refl _
  | cons y l ih =>
    rw [cnx, List.length_cons]
    by_cases h : x = y
    · rw [if_pos h]; omega
    · rw [if_neg h]; omega
theorem mxl_le {e : Nat} (l W : List Int32) (hW : W.length ≤ e) : ∀ a, a ≤ e → mxl a l W ≤ e := by
  induction l with
  | nil => intro a h; exact h
  | cons x l ih =>
    intro a h
    rw [mxl]
    have := cnx_len x W
    by_cases c : cnx x W ≤ a
    · rw [if_pos c]; exact ih a h
    · rw [if_neg c]; exact ih _ (by omega)
theorem ml_len (M : Mem) (o k j : Nat) : (ml M o k j).length = k := by
  induction k generalizing j with
  | zero => rfl
  | succ k ih => rw [ml, List.length_cons, ih]
theorem fl_len (B : Nat → Bool) (v : Nat → Int32) (k j : Nat) : (fl B v k j).length ≤ k := by
  induction k generalizing j with
  | zero => exact Nat.le_refl _
  | succ k ih =>
    rw [fl]
    have := ih (j + 1)
    by_cases h : B j = true
    · rw [if_pos h, List.length_cons]; omega
    · rw [if_neg h]; omega
theorem fl_congr {B : Nat → Bool} {v w : Nat → Int32} (k j : Nat) (h : ∀ t, j ≤ t → t < j + k → v t = w t) : fl B v k j = fl B w k j := by
  induction k generalizing j with
  | zero => rfl
  | succ k ih =>
    rw [fl, fl, h j (by omega) (by omega), ih (j + 1) (fun t h1 h2 => h t (by omega) (by omega))]
theorem ml_congr {M M' : Mem} {o : Nat} (k j : Nat) (h : ∀ t, j ≤ t → t < j + k → M'.1 o t = M.1 o t) : ml M' o k j = ml M o k j := by
  induction k generalizing j with
  | zero => rfl
  | succ k ih =>
    rw [ml, ml, h j (by omega) (by omega), ih (j + 1) (fun t h1 h2 => h t (by omega) (by omega))]
theorem ml_last (M : Mem) (o k j : Nat) : ml M o (k + 1) j = ml M o k j ++ [M.1 o (j + k)] := by
  induction k generalizing j with
  | zero => rfl
  | succ k ih =>
    rw [ml, ih (j + 1), ml, List.cons_append, show j + 1 + k = j + (k + 1) by omega]
theorem nmax (a b : Nat) (ha : a < 1000) (hb : b < 1000) : (if nI b ≤ nI a then nI a else nI b) = nI (if b ≤ a then a else b) := by
  by_cases h : b ≤ a
  · rw [if_pos h, if_pos (nI_le h (by omega))]
  · rw [if_neg h, if_neg (nI_ge (by omega) (by omega))]
theorem most21 {M : Mem} {c i : Nat} (hc : c ≤ 9) (hi : i < c) : ∀ (k j f a : Nat), j + k = c → k < f → f_X6_mostAlike_L21 175 (nI c) M (nI i) f (nI a) (nI j) = some (nI (a + cnx (M.1 175 i) (ml M 175 k j))) := by
  intro k
  induction k with
  | zero =>
    intro j f a hj hf
    obtain ⟨f', rfl⟩ : ∃ f', f = f' + 1 := ⟨f - 1, by omega⟩
    have : j = c := by omega
    subst this
    rw [f_X6_mostAlike_L21]
    rw [if_pos (nI_le (Nat.le_refl _) (by omega))]
    rfl
  | succ k ih =>
    intro j f a hj hf
    obtain ⟨f', rfl⟩ : ∃ f', f = f' + 1 := ⟨f - 1, by omega⟩
    rw [f_X6_mostAlike_L21]
    rw [if_neg (nI_ge (by omega) (by omega)), ln_175, if_neg (nI_ge (by omega) (by omega)), rd_n (by rw [ln_175]; omega) (by omega), ob_e, rd_n (by rw [ln_175]; omega) (by omega), ob_e, lq_e, lq_e, lq_e, nI_1, nI_1, ml, cnx]
    by_cases h : M.1 175 i = M.1 175 j
    · rw [if_pos h, if_pos h, ih (j + 1) f' (a + 1) (by omega) (by omega), show a + 1 + cnx (M.1 175 i) (ml M 175 k (j + 1)) = a + (cnx (M.1 175 i) (ml M 175 k (j + 1)) + 1) by omega]
    · rw [if_neg h, if_neg h, ih (j + 1) f' a (by omega) (by omega)]
theorem most4 {M : Mem} {c : Nat} (hc : c ≤ 9) : ∀ (k i f a : Nat), i + k = c → k < f → a ≤ 9 → f_X6_mostAlike_L4 175 (nI c) M f (nI a) (nI i) = some (nI (mxl a (ml M 175 k i) (ml M 175 c 0))) := by
  intro k
  induction k with
  | zero =>
    intro j f a hj hf ha
    obtain ⟨f', rfl⟩ : ∃ f', f = f' + 1 := ⟨f - 1, by omega⟩
    have : j = c := by omega
    subst this
    rw [f_X6_mostAlike_L4]
    rw [if_pos (nI_le (Nat.le_refl _) (by omega))]
    rfl
  | succ k ih =>
    intro j f a hj hf ha
    obtain ⟨f', rfl⟩ : ∃ f', f = f' + 1 := ⟨f - 1, by omega⟩
    have hb := cnx_len (M.1 175 j) (ml M 175 c 0)
    rw [ml_len] at hb
    rw [f_X6_mostAlike_L4]
    rw [if_neg (nI_ge (by omega) (by omega)), ln_175, if_neg (nI_ge (by omega) (by omega)), l0, most21 hc (by omega) c 0 FU 0 (by omega) (FU_gt (by omega)), ob_e, lq_e, lq_e, nI_1, mx1, Nat.zero_add, nmax _ _ (by omega) (by omega), ml, mxl]
    by_cases h : cnx (M.1 175 j) (ml M 175 c 0) ≤ a
    · rw [if_pos h, ih (j + 1) f' a (by omega) (by omega) ha]
    · rw [if_neg h, ih (j + 1) f' _ (by omega) (by omega) (by omega)]
theorem most_n {M : Mem} {c : Nat} (hc : c ≤ 9) : f_X6_mostAlike 175 (nI c) M = some (nI (mxl 0 (ml M 175 c 0) (ml M 175 c 0))) := by
  unfold f_X6_mostAlike
  rw [l0, most4 hc c 0 FU 0 (by omega) (FU_gt (by omega)) (by omega), ob_e]
def Bt (m j : Nat) : Bool := decide (((nI m >>> (nI j &&& 31)) &&& (1 : Int32)) = 1)
theorem hasB (m j : Nat) : (f_X6_hasBit (nI m) (nI j) = 0) ↔ ¬ Bt m j = true := by
  unfold f_X6_hasBit Bt
  by_cases h : ((nI m >>> (nI j &&& 31)) &&& (1 : Int32)) = 1
  · rw [if_pos h, decide_eq_true h]
    exact ⟨fun q => absurd q (by decide), fun q => absurd rfl q⟩
  · rw [if_neg h, decide_eq_false h]
    exact ⟨fun _ => by decide, fun _ => rfl⟩
theorem andB (m i j : Nat) : ((((nI m >>> (nI i &&& 31)) &&& (nI m >>> (nI j &&& 31))) &&& (1 : Int32)) = 1) ↔ (Bt m i = true ∧ Bt m j = true) := by
  rw [and2]
  unfold Bt
  rw [decide_eq_true_iff, decide_eq_true_iff]
theorem part17 {m E i : Nat} {N : Mem} (hE : E ≤ 10) (hi : i < E) : ∀ (k j f a : Nat), j + k = E → k < f → f_X7_parted_L17 (nI m) (nI E) N (nI i) f (nI a) (nI j) = some (nI (a + if Bt m i = true then cnx (N.1 181 i) (fl (Bt m) (N.1 181) k j) else 0)) := by
  intro k
  induction k with
  | zero =>
    intro j f a hj hf
    obtain ⟨f', rfl⟩ : ∃ f', f = f' + 1 := ⟨f - 1, by omega⟩
    have : j = E := by omega
    subst this
    rw [f_X7_parted_L17]
    rw [if_pos (nI_le (Nat.le_refl _) (by omega)), fl, cnx]
    by_cases h : Bt m i = true
    · rw [if_pos h]; rfl
    · rw [if_neg h]; rfl
  | succ k ih =>
    intro j f a hj hf
    obtain ⟨f', rfl⟩ : ∃ f', f = f' + 1 := ⟨f - 1, by omega⟩
    have e : f_X7_parted_L17 (nI m) (nI E) N (nI i) (f' + 1) (nI a) (nI j) = f_X7_parted_L17 (nI m) (nI E) N (nI i) f' (nI (a + if (Bt m i = true ∧ Bt m j = true) ∧ N.1 181 i = N.1 181 j then 1 else 0)) (nI (j + 1)) := by
      rw [f_X7_parted_L17]
      rw [if_neg (nI_ge (by omega) (by omega)), rd_n (by rw [ln_181]; omega) (by omega), ob_e, rd_n (by rw [ln_181]; omega) (by omega), ob_e]
      by_cases h : Bt m i = true ∧ Bt m j = true
      · rw [if_pos ((andB m i j).mpr h)]
        by_cases h2 : N.1 181 i = N.1 181 j
        · rw [if_pos h2, if_pos ⟨h, h2⟩, ob_e, lq_e, lq_e, nI_1, nI_1]
        · rw [if_neg h2, if_neg (fun q => h2 q.2), ob_e, lq_e, lq_e, nI_1, l0, nI_add]
      · rw [if_neg (fun q => h ((andB m i j).mp q)), if_neg (fun q => h q.1), ob_e, lq_e, lq_e, nI_1, l0, nI_add]
    rw [e, ih (j + 1) f' _ (by omega) (by omega), fl]
    by_cases h : Bt m i = true
    · rw [if_pos h, if_pos h]
      by_cases h1 : Bt m j = true
      · rw [if_pos h1, cnx]
        by_cases h2 : N.1 181 i = N.1 181 j
        · rw [if_pos h2, if_pos ⟨⟨h, h1⟩, h2⟩, Nat.add_assoc, Nat.add_comm 1]
        · rw [if_neg h2, if_neg (fun q => h2 q.2), Nat.add_zero]
      · rw [if_neg h1, if_neg (fun q => h1 q.1.2), Nat.add_zero]
    · rw [if_neg h, if_neg h, if_neg (fun q => h q.1.1), Nat.add_zero]
theorem part5 {m E : Nat} {N : Mem} (hE : E ≤ 10) : ∀ (k i f a : Nat), i + k = E → k < f → a ≤ 10 → f_X7_parted_L5 (nI m) (nI E) N f (nI a) (nI i) = some (nI (mxl a (fl (Bt m) (N.1 181) k i) (fl (Bt m) (N.1 181) E 0))) := by
  intro k
  induction k with
  | zero =>
    intro j f a hj hf ha
    obtain ⟨f', rfl⟩ : ∃ f', f = f' + 1 := ⟨f - 1, by omega⟩
    have : j = E := by omega
    subst this
    rw [f_X7_parted_L5]
    rw [if_pos (nI_le (Nat.le_refl _) (by omega))]
    rfl
  | succ k ih =>
    intro j f a hj hf ha
    obtain ⟨f', rfl⟩ : ∃ f', f = f' + 1 := ⟨f - 1, by omega⟩
    have hb := cnx_len (N.1 181 j) (fl (Bt m) (N.1 181) E 0)
    have hb2 := fl_len (Bt m) (N.1 181) E 0
    rw [f_X7_parted_L5]
    rw [if_neg (nI_ge (by omega) (by omega)), l0, part17 hE (by omega) E 0 FU 0 (by omega) (FU_gt (by omega)), ob_e, lq_e, lq_e, nI_1, fl]
    by_cases h : Bt m j = true
    · rw [if_pos h, if_pos h, Nat.zero_add, nmax _ _ (by omega) (by omega), mxl]
      by_cases h2 : cnx (N.1 181 j) (fl (Bt m) (N.1 181) E 0) ≤ a
      · rw [if_pos h2, ih (j + 1) f' a (by omega) (by omega) ha]
      · rw [if_neg h2, ih (j + 1) f' _ (by omega) (by omega) (by omega)]
    · rw [if_neg h, if_neg h, Nat.zero_add, if_pos (nI_le (Nat.zero_le _) (by omega)), ih (j + 1) f' a (by omega) (by omega) ha]
theorem parted_n {m E : Nat} {N : Mem} (hE : E ≤ 10) : f_X7_parted (nI m) (nI E) N = some (nI (mxl 0 (fl (Bt m) (N.1 181) E 0) (fl (Bt m) (N.1 181) E 0))) := by
  unfold f_X7_parted
  rw [l0, part5 hE E 0 FU 0 (by omega) (FU_gt (by omega)) (by omega), ob_e]
theorem put_loop (L : Nat → Int32 → Int32 → Mem → Option (Int32 × Mem)) (B : Nat → Bool) (v : Nat → Int32) (E : Nat) (Inv : Mem → Prop) (hend : ∀ f c M, L (f + 1) (nI c) (nI E) M = some (nI c, M)) (hs : ∀ f c j M, j < E → c < 9 → Inv M → L (f + 1) (nI c) (nI j) M = if B j = true then L f (nI (c + 1)) (nI (j + 1)) (s1 M 175 c (v j)) else L f (nI c) (nI (j + 1)) M) (hI : ∀ M c x, Inv M → Inv (s1 M 175 c x)) : ∀ (k j f c : Nat) (M : Mem), j + k = E → c + k ≤ 9 → k < f → Inv M → ∃ M', L f (nI c) (nI j) M = some (nI (c + (fl B v k j).length), M') ∧ M'.2 = M.2 ∧ (∀ a b, a ≠ 175 → M'.1 a b = M.1 a b) ∧ ml M' 175 (c + (fl B v k j).length) 0 = ml M 175 c 0 ++ fl B v k j := by
  intro k
  induction k with
  | zero =>
    intro j f c M hj hc hf hM
    obtain ⟨f', rfl⟩ : ∃ f', f = f' + 1 := ⟨f - 1, by omega⟩
    have : j = E := by omega
    subst this
    refine ⟨M, hend f' c M, rfl, fun _ _ _ => rfl, ?_⟩
    rw [fl, List.append_nil]
    rfl
  | succ k ih =>
    intro j f c M hj hc hf hM
    obtain ⟨f', rfl⟩ : ∃ f', f = f' + 1 := ⟨f - 1, by omega⟩
    rw [hs f' c j M (by omega) (by omega) hM, fl]
    by_cases h : B j = true
    · rw [if_pos h, if_pos h]
      obtain ⟨M', q1, q2, q3, q4⟩ := ih (j + 1) f' (c + 1) (s1 M 175 c (v j)) (by omega) (by omega) (by omega) (hI _ _ _ hM)
      rw [List.length_cons, show c + ((fl B v k (j + 1)).length + 1) = c + 1 + (fl B v k (j + 1)).length by omega]
      refine ⟨M', q1, q2, fun a b q => by rw [q3 a b q, s1_ne (by omega)], ?_⟩
      rw [q4, ml_last, List.append_assoc, Nat.zero_add, s1_eq, ml_congr (M := M) c 0 (fun t _ h2 => s1_ne (by omega))]
      rfl
    · rw [if_neg h, if_neg h]
      exact ih (j + 1) f' c M (by omega) (by omega) (by omega) hM
theorem fill_loop (L : Nat → Int32 → Mem → Option (Int32 × Mem)) (v : Nat → Int32) (E : Nat) (hE : E ≤ 10) (Inv : Mem → Prop) (hend : ∀ f N, L (f + 1) (nI E) N = some (nI E, N)) (hs : ∀ f j N, j < E → Inv N → L (f + 1) (nI j) N = L f (nI (j + 1)) (s1 N 181 j (v j))) (hI : ∀ N j x, Inv N → Inv (s1 N 181 j x)) (N : Mem) (hN : Inv N) : ∃ N', L FU (nI 0) N = some (nI E, N') ∧ N'.2 = N.2 ∧ (∀ a b, a ≠ 181 → N'.1 a b = N.1 a b) ∧ ∀ j, j < E → N'.1 181 j = v j := by
  obtain ⟨⟨r, N'⟩, q1, q2, q3, q4, q5⟩ : ∃ r, L FU (nI 0) N = some r ∧ (r.1 = nI E ∧ r.2.2 = N.2 ∧ (∀ a b, a ≠ 181 → r.2.1 a b = N.1 a b) ∧ ∀ j, j < E → r.2.1 181 j = v j) := by
    refine loopE (fun f i x => L f (nI i) x) E (fun i (x : Mem) => Inv x ∧ x.2 = N.2 ∧ (∀ a b, a ≠ 181 → x.1 a b = N.1 a b) ∧ ∀ j, j < i → x.1 181 j = v j) _ ?_ ?_ E 0 FU N (by omega) (FU_gt (by omega)) ⟨hN, rfl, fun _ _ _ => rfl, fun t ht => absurd ht (by omega)⟩
    · intro f x hx
      exact ⟨(nI E, x), hend f x, rfl, hx.2⟩
    · intro f i x hi hx
      obtain ⟨h0, h1, h2, h3⟩ := hx
      refine Or.inl ⟨s1 x 181 i (v i), hs f i x hi h0, hI _ _ _ h0, h1, fun a b q => by rw [s1_ne (by omega)]; exact h2 a b q, fun t ht => ?_⟩
      by_cases e : t = i
      · subst e; exact s1_eq
      · rw [s1_ne (by omega)]
        exact h3 t (by omega)
  have q2 : r = nI E := q2
  subst q2
  exact ⟨N', q1, q3, q4, q5⟩
def Fr (M0 N0 M N : Mem) : Prop := M.2 = M0.2 ∧ (∀ a b, a ≠ 175 → M.1 a b = M0.1 a b) ∧ N.2 = N0.2 ∧ (∀ a b, a ≠ 181 → N.1 a b = N0.1 a b)
theorem Fr.rel {M0 N0 M N : Mem} (h : Fr M0 N0 M N) (hR : Rel M0 N0) : Rel M N := by
  obtain ⟨h1, h2, h3, h4⟩ := h
  exact ⟨hR.1.congr (fun a i _ _ => h2 _ _ (by omega)) (fun k _ => h4 _ _ (by omega)), hR.2.congr (fun a b hab => h2 _ _ (by unfold oC at hab; omega)) (by rw [h1]) (fun a b hab => h4 _ _ (by unfold oM at hab; omega)) (by rw [h3])⟩
