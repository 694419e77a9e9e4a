/-! the fewest moves: the search against the enumeration -/
theorem div_n {a d : Nat} (ha : a < 2147483648) (hd : d < 2147483648) : nI a / nI d = nI (a / d) := by
  have h : a / d ≤ a := Nat.div_le_self a d
  rw [← Int32.toInt_inj, Int32.toInt_div, nI_I ha, nI_I hd, ← Int.ofNat_tdiv]
  generalize a / d = q at h
  rw [nI_I (by omega)]
  exact Int.bmod_eq_of_le (by omega) (by omega)
abbrev S4 : Type := Int32 × Int32 × Int32 × Int32
def st4 (g h : Int32) (s : S4) (k : Nat) : S4 := (f_X6_liftBehind s.1 (nI k), f_X6_tiltBehind s.2.1 (nI k), f_X6_wornBehind s.2.2.1 g (f_X6_tiltBehind s.2.1 (nI k)), f_X6_wornBehind s.2.2.2 h (f_X6_tiltBehind s.2.1 (nI k)))
def run4 (g h : Int32) : Nat → Nat → S4 → S4
  | 0, _, s => s
  | d + 1, x, s => run4 g h d (x % 5 ^ d) (st4 g h s (x / 5 ^ d))
theorem p5 (d : Nat) : 0 < 5 ^ d := Nat.pow_pos (by decide)
theorem run_k {g h : Int32} {d k x : Nat} {s : S4} (hx : x < 5 ^ d) : run4 g h (d + 1) (x + k * 5 ^ d) s = run4 g h d x (st4 g h s k) := by
  rw [run4, Nat.add_mul_mod_self_right, Nat.add_mul_div_right _ _ (p5 d), Nat.mod_eq_of_lt hx, Nat.div_eq_of_lt hx, Nat.zero_add]
theorem splitx {p k x : Nat} (h1 : k * p ≤ x) (h2 : x < (k + 1) * p) : ∃ y, y < p ∧ x = y + k * p := by
  rw [Nat.succ_mul] at h2
  exact ⟨x - k * p, by omega, by omega⟩
def hv4 (M : Mem) (i D : Nat) (l t w : Int32) : Int32 := if f_X6_isSnapped w = 0 then f_X6_highOf (M.1 (1 + 1) i) (f_X6_holeAt l t (M.1 (1 + 5 + 1) i) - f_X6_dropOf (M.1 (1 + 2) i) (M.1 (1 + 4) i) (M.1 (1 + 3) i) w) (M.1 (1 + 5) 2 + nI D) else -20
abbrev ok4 (M : Mem) (i j D : Nat) (a b : Int32) (s : S4) : Prop := hv4 M i D s.1 s.2.1 s.2.2.1 = a ∧ hv4 M j D s.1 s.2.1 s.2.2.2 = b
theorem highFrom_v {M : Mem} {i : Nat} {h w m : Int32} (hi : i < 7) : f_X2_highFrom 1 (nI i) h w m M = some (if f_X6_isSnapped w = 0 then f_X6_highOf (M.1 (1 + 1) i) (h - f_X6_dropOf (M.1 (1 + 2) i) (M.1 (1 + 4) i) (M.1 (1 + 3) i) w) m else -20) := by
  unfold f_X2_highFrom
  rw [cell_n (show i < ln (1 + 1) from hi) (by decide), cell_n (show i < ln (1 + 2) from hi) (by decide), cell_n (show i < ln (1 + 3) from hi) (by decide), cell_n (show i < ln (1 + 4) from hi) (by decide), ob_e, ob_e, ob_e, lq_e, ob_e]
  by_cases c : f_X6_isSnapped w = 0
  · rw [if_pos c, if_pos c]
  · rw [if_neg c, if_neg c]
/-- the search's memory, while it seeks ways of D moves -/
def Cl (M0 M : Mem) (i j D : Nat) (a b g h : Int32) : Prop := M.2 = M0.2 ∧ (∀ c k, c ≠ 167 → c ≠ 168 → M.1 c k = M0.1 c k) ∧ M.1 167 1 = nI D ∧ M.1 167 2 = nI i ∧ M.1 167 3 = a ∧ M.1 167 4 = g ∧ M.1 167 5 = nI j ∧ M.1 167 6 = b ∧ M.1 167 7 = h
theorem Cl.of {M0 M M' : Mem} {i j D : Nat} {a b g h : Int32} (hC : Cl M0 M i j D a b g h) (h2 : M'.2 = M.2) (hf : ∀ c k, c ≠ 168 → M'.1 c k = M.1 c k) : Cl M0 M' i j D a b g h := by
  obtain ⟨c1, c2, c3, c4, c5, c6, c7, c8, c9⟩ := hC
  unfold Cl
  rw [hf _ _ (by decide), hf _ _ (by decide), hf _ _ (by decide), hf _ _ (by decide), hf _ _ (by decide), hf _ _ (by decide), hf _ _ (by decide), h2]
  exact ⟨c1, fun c k q1 q2 => by rw [hf c k q2]; exact c2 c k q1 q2, c3, c4, c5, c6, c7, c8, c9⟩
theorem isHigh_v {M0 M : Mem} {i j D k : Nat} {a b g h x l t w : Int32} (hC : Cl M0 M i j D a b g h) (hk : k < 7) : f_X4_isHigh 167 1 (nI k) x l t w M = some (if hv4 M0 k D l t w = x then 1 else 0) := by
  obtain ⟨c1, c2, c3, _⟩ := hC
  unfold f_X4_isHigh f_X2_holeOf
  rw [cell_n (show k < ln (1 + 5 + 1) from hk) (by decide), ob_e, ob_e, lq_e, c3, highFrom_v hk, ob_e, c2 _ _ (by decide) (by decide), c2 _ _ (by decide) (by decide), c2 _ _ (by decide) (by decide), c2 _ _ (by decide) (by decide), c2 _ _ (by decide) (by decide), c2 _ _ (by decide) (by decide)]
  show (if hv4 M0 k D l t w = x then some 1 else some 0) = _
  by_cases e : hv4 M0 k D l t w = x
  · rw [if_pos e, if_pos e]
  · rw [if_neg e, if_neg e]
theorem reach_e {M0 x : Mem} {i j D d f k n' : Nat} {a b g h : Int32} {s : S4} (hk : k < 5) (hd : d + 1 ≤ D) (hD : D ≤ 5) (hCx : Cl M0 x i j D a b g h) : f_X4_reaches_L64 (f_X4_reaches n') 167 1 (nI (d + 1)) s.1 s.2.1 s.2.2.1 s.2.2.2 (f + 1) (nI k) x = ob2 (f_X4_reaches n' 167 1 (nI d) (st4 g h s k).1 (st4 g h s k).2.1 (st4 g h s k).2.2.1 (st4 g h s k).2.2.2 (s1 x 168 (D - (d + 1)) (nI k))) (fun x20 M21 => if x20 = (0 : Int32) then f_X4_reaches_L64 (f_X4_reaches n') 167 1 (nI (d + 1)) s.1 s.2.1 s.2.2.1 s.2.2.2 f (nI (k + 1)) M21 else some (Sum.inr ((1 : Int32), M21))) := by
  obtain ⟨c1, c2, c3, c4, c5, c6, c7, c8, c9⟩ := hCx
  generalize f_X4_reaches n' = FF
  have hs : nI (d + 1) - (1 : Int32) = nI d := by rw [l1, pk_sub (show 1 ≤ d + 1 by omega), Nat.add_sub_cancel]
  have hp : f_X6_put (167 + 1) (nI (D - (d + 1))) (nI k) x = some (s1 x 168 (D - (d + 1)) (nI k)) := put_n (show D - (d + 1) < 5 by omega) (by decide)
  rw [f_X4_reaches_L64]
  rw [l5, if_neg (nI_ge hk (by decide)), lq_e, lq_e, lq_e, lq_e, c3, c6, c9, pk_sub hd, hp, ob_e, hs, nI_1]
  rfl
theorem reach {M0 : Mem} {i j D : Nat} {a b g h : Int32} (hi : i < 7) (hj : j < 7) (hD : D ≤ 5) : ∀ (d n0 : Nat) (s : S4) (M : Mem), d < n0 → d ≤ D → Cl M0 M i j D a b g h → ∃ M', ((f_X4_reaches n0 167 1 (nI d) s.1 s.2.1 s.2.2.1 s.2.2.2 M = some (0, M') ∧ ∀ x, x < 5 ^ d → ¬ ok4 M0 i j D a b (run4 g h d x s)) ∨ (∃ x, x < 5 ^ d ∧ f_X4_reaches n0 167 1 (nI d) s.1 s.2.1 s.2.2.1 s.2.2.2 M = some (1, M') ∧ ok4 M0 i j D a b (run4 g h d x s) ∧ (∀ y, y < x → ¬ ok4 M0 i j D a b (run4 g h d y s)) ∧ ∀ t, t < d → M'.1 168 (D - d + t) = nI (x / 5 ^ (d - 1 - t) % 5))) ∧ (∀ c k, ¬ (c = 168 ∧ D - d ≤ k) → M'.1 c k = M.1 c k) ∧ M'.2 = M.2 := by
  intro d
  induction d with
  | zero =>
    intro n0 s M hn hd hC
    obtain ⟨n', rfl⟩ : ∃ n', n0 = n' + 1 := ⟨n0 - 1, by omega⟩
    have e : f_X4_reaches (n' + 1) 167 1 (nI 0) s.1 s.2.1 s.2.2.1 s.2.2.2 M = some (if ok4 M0 i j D a b s then 1 else 0, M) := by
      rw [f_X4_reaches]
      rw [if_pos (show nI 0 ≤ (0 : Int32) by decide), if_pos (show nI 0 = (0 : Int32) from rfl)]
      obtain ⟨c1, c2, c3, c4, c5, c6, c7, c8, c9⟩ := id hC
      rw [c4, c5, c7, c8, isHigh_v hC hi, ob_e, isHigh_v hC hj, ob_e]
      by_cases q1 : hv4 M0 i D s.1 s.2.1 s.2.2.1 = a
      · rw [if_pos q1, if_neg (show ¬ (1 : Int32) = 0 by decide)]
        by_cases q2 : hv4 M0 j D s.1 s.2.1 s.2.2.2 = b
        · rw [if_pos q2, if_neg (show ¬ (1 : Int32) = 0 by decide), if_pos (show ok4 M0 i j D a b s from ⟨q1, q2⟩)]
        · rw [if_neg q2, if_pos rfl, if_neg (show ¬ ok4 M0 i j D a b s from fun q => q2 q.2)]
      · rw [if_neg q1, if_pos rfl, if_neg (show ¬ ok4 M0 i j D a b s from fun q => q1 q.1)]
    refine ⟨M, ?_, fun _ _ _ => rfl, rfl⟩
    by_cases q : ok4 M0 i j D a b s
    · rw [if_pos q] at e
      exact Or.inr ⟨0, by decide, e, q, fun y hy => absurd hy (by omega), fun t ht => absurd ht (by omega)⟩
    · rw [if_neg q] at e
      exact Or.inl ⟨e, fun x _ => q⟩
  | succ d ih =>
    intro n0 s M hn hd hC
    obtain ⟨n', rfl⟩ : ∃ n', n0 = n' + 1 := ⟨n0 - 1, by omega⟩
    obtain ⟨r, hr, hQ⟩ : ∃ r, f_X4_reaches_L64 (f_X4_reaches n') 167 1 (nI (d + 1)) s.1 s.2.1 s.2.2.1 s.2.2.2 FU (nI 0) M = some r ∧ ((∃ p M', r = Sum.inl (p, M') ∧ (∀ x, x < 5 ^ (d + 1) → ¬ ok4 M0 i j D a b (run4 g h (d + 1) x s)) ∧ (∀ c k, ¬ (c = 168 ∧ D - (d + 1) ≤ k) → M'.1 c k = M.1 c k) ∧ M'.2 = M.2) ∨ (∃ x M', x < 5 ^ (d + 1) ∧ r = Sum.inr (1, M') ∧ ok4 M0 i j D a b (run4 g h (d + 1) x s) ∧ (∀ y, y < x → ¬ ok4 M0 i j D a b (run4 g h (d + 1) y s)) ∧ (∀ t, t < d + 1 → M'.1 168 (D - (d + 1) + t) = nI (x / 5 ^ (d + 1 - 1 - t) % 5)) ∧ (∀ c k, ¬ (c = 168 ∧ D - (d + 1) ≤ k) → M'.1 c k = M.1 c k) ∧ M'.2 = M.2)) := by
      refine loopE (fun f k (x : Mem) => f_X4_reaches_L64 (f_X4_reaches n') 167 1 (nI (d + 1)) s.1 s.2.1 s.2.2.1 s.2.2.2 f (nI k) x) 5 (fun k (x : Mem) => (∀ y, y < k * 5 ^ d → ¬ ok4 M0 i j D a b (run4 g h (d + 1) y s)) ∧ (∀ c b, ¬ (c = 168 ∧ D - (d + 1) ≤ b) → x.1 c b = M.1 c b) ∧ x.2 = M.2) _ ?_ ?_ 5 0 FU M (by omega) (FU_gt (by omega)) ⟨fun y hy => absurd hy (by omega), fun _ _ _ => rfl, rfl⟩
      · intro f x hx
        refine ⟨Sum.inl (nI 5, x), ?_, Or.inl ⟨_, _, rfl, fun y hy => hx.1 y (by rw [Nat.pow_succ, Nat.mul_comm] at hy; exact hy), hx.2⟩⟩
        show f_X4_reaches_L64 (f_X4_reaches n') 167 1 (nI (d + 1)) s.1 s.2.1 s.2.2.1 s.2.2.2 (f + 1) (nI 5) x = _
        rw [f_X4_reaches_L64]
        rw [l5, if_pos (nI_le (Nat.le_refl _) (by decide))]
      · intro f k x hk hx
        obtain ⟨h1, h2, h3⟩ := hx
        have hCx : Cl M0 x i j D a b g h := hC.of h3 (fun c k q => h2 c k (by omega))
        have hCp : Cl M0 (s1 x 168 (D - (d + 1)) (nI k)) i j D a b g h := hCx.of rfl (fun c k q => s1_ne (by omega))
        obtain ⟨M', hcase, m1, m2⟩ := ih n' (st4 g h s k) (s1 x 168 (D - (d + 1)) (nI k)) (by omega) (by omega) hCp
        obtain ⟨c1, c2, c3, c4, c5, c6, c7, c8, c9⟩ := id hCx
        have e := reach_e (f := f) (k := k) (n' := n') (s := s) hk hd hD hCx
        have hfr : ∀ c b, ¬ (c = 168 ∧ D - (d + 1) ≤ b) → M'.1 c b = M.1 c b := fun c b q => by
          rw [m1 c b (by omega), s1_ne (by omega)]
          exact h2 c b q
        rcases hcase with ⟨q1, q2⟩ | ⟨x', hx', q1, q2, q3, q4⟩
        · left
          refine ⟨M', ?_, fun y hy => ?_, hfr, by rw [m2]; exact h3⟩
          · show f_X4_reaches_L64 (f_X4_reaches n') 167 1 (nI (d + 1)) s.1 s.2.1 s.2.2.1 s.2.2.2 (f + 1) (nI k) x = _
            rw [e, q1, ob2_e, if_pos rfl]
          · by_cases hlt : y < k * 5 ^ d
            · exact h1 y hlt
            · obtain ⟨z, hz, rfl⟩ := splitx (Nat.le_of_not_lt hlt) hy
              rw [run_k hz]
              exact q2 z hz
        · right
          refine ⟨Sum.inr (1, M'), ?_, Or.inr ⟨x' + k * 5 ^ d, M', ?_, rfl, ?_, fun y hy => ?_, fun t ht => ?_, hfr, by rw [m2]; exact h3⟩⟩
          · show f_X4_reaches_L64 (f_X4_reaches n') 167 1 (nI (d + 1)) s.1 s.2.1 s.2.2.1 s.2.2.2 (f + 1) (nI k) x = _
            rw [e, q1, ob2_e, if_neg (show ¬ (1 : Int32) = 0 by decide)]
          · have h5 : (k + 1) * 5 ^ d ≤ 5 * 5 ^ d := Nat.mul_le_mul_right _ (by omega)
            rw [Nat.succ_mul] at h5
            rw [Nat.pow_succ, Nat.mul_comm (5 ^ d) 5]
            omega
          · rw [run_k hx']; exact q2
          · by_cases hlt : y < k * 5 ^ d
            · exact h1 y hlt
            · obtain ⟨z, hz, rfl⟩ := splitx (p := 5 ^ d) (k := k) (Nat.le_of_not_lt hlt) (by rw [Nat.succ_mul]; omega)
              rw [run_k hz]
              exact q3 z (by omega)
          · by_cases e0 : t = 0
            · subst e0
              rw [Nat.add_zero, m1 _ _ (by omega), s1_eq, show d + 1 - 1 - 0 = d by omega, Nat.add_mul_div_right _ _ (p5 d), Nat.div_eq_of_lt hx', Nat.zero_add, Nat.mod_eq_of_lt hk]
            · obtain ⟨t', rfl⟩ : ∃ t', t = t' + 1 := ⟨t - 1, by omega⟩
              rw [show D - (d + 1) + (t' + 1) = D - d + t' by omega, q4 t' (by omega), show d + 1 - 1 - (t' + 1) = d - 1 - t' by omega]
              congr 1
              obtain ⟨v, hv⟩ : ∃ v, d = (d - 1 - t') + 1 + v := ⟨t', by omega⟩
              obtain ⟨u, hu⟩ : ∃ u, u = d - 1 - t' := ⟨_, rfl⟩
              rw [← hu] at hv ⊢
              rw [hv, Nat.pow_add, Nat.pow_succ, show k * (5 ^ u * 5 * 5 ^ v) = (k * 5 ^ v * 5) * 5 ^ u by rw [Nat.mul_comm (5 ^ u) 5, Nat.mul_assoc 5, Nat.mul_comm (5 ^ u), ← Nat.mul_assoc 5, ← Nat.mul_assoc k, Nat.mul_comm 5, ← Nat.mul_assoc k], Nat.add_mul_div_right _ _ (p5 u), Nat.add_mul_mod_self_right]
    have e : f_X4_reaches (n' + 1) 167 1 (nI (d + 1)) s.1 s.2.1 s.2.2.1 s.2.2.2 M = oeT2 (f_X4_reaches_L64 (f_X4_reaches n') 167 1 (nI (d + 1)) s.1 s.2.1 s.2.2.1 s.2.2.2 FU (nI 0) M) (fun x8 M9 => some ((0 : Int32), M9)) := by
      rw [f_X4_reaches]
      rw [if_neg (show ¬ nI (d + 1) ≤ (0 : Int32) from nI_ge (b := d + 1) (a := 0) (by omega) (by omega)), if_pos (show nI (d + 1) ≤ (5 : Int32) from nI_le (b := 5) (by omega) (by decide))]
      rfl
    rw [hr] at e
    rcases hQ with ⟨p, M', rfl, q1, q2, q3⟩ | ⟨x, M', hx, rfl, q1, q2, q3, q4, q5⟩
    · exact ⟨M', Or.inl ⟨e, q1⟩, q2, q3⟩
    · exact ⟨M', Or.inr ⟨x, hx, e, q1, q2, q3⟩, q4, q5⟩
