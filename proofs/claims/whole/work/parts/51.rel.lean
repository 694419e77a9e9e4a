/-! what the two memories have in common -/
abbrev Rw : Type := Nat → Int32
abbrev Fm : Type := Nat → Nat → Int32
def Sta (f : Fm) (p : Nat) (r : Rw) (n : Nat) : Prop := ∀ i, i < n → f (p + 1) i = r (4 + 7 * i) ∧ f (p + 2) i = r (4 + 7 * i + 1) ∧ f (p + 3) i = r (4 + 7 * i + 2) ∧ f (p + 4) i = r (4 + 7 * i + 3) ∧ oI (r (4 + 7 * i)) 0 5 ∧ oI (r (4 + 7 * i + 1)) 0 5 ∧ oI (r (4 + 7 * i + 2)) 1 9 ∧ oI (r (4 + 7 * i + 3)) 1 20
def snp (w : Int32) : Int32 := if 99 ≤ w.toInt then 1 else 0
def Bar (f : Fm) (q : Nat) (r : Rw) (b : Nat) (X : Int) : Prop := f q 0 = r b ∧ f q 1 = r (b + 1) ∧ f q 2 = r (b + 2) ∧ oI (r b) 0 40 ∧ oI (r (b + 1)) (-4) 4 ∧ oI (r (b + 2)) 0 X
def Lim (f : Fm) (q : Nat) (r : Rw) (h s n : Nat) : Prop := ∀ i, i < n → f (q + 1) i = r (h + s * i) ∧ f (q + 2) i = r (h + s * i + 1) ∧ oI (r (h + s * i)) 0 8 ∧ oI (r (h + s * i + 1)) 0 99 ∧ r (h + s * i + 2) = snp (r (h + s * i + 1))
def Pos (f : Fm) (q : Nat) (r : Rw) (b h s n : Nat) (X : Int) : Prop := Bar f q r b X ∧ Lim f q r h s n
def Dan (f : Fm) (p : Nat) (r : Rw) : Prop := (∀ t, t < 8 → f (p + 33) t = r (54 + 2 * t) ∧ f (p + 34) t = r (54 + 2 * t + 1) ∧ oI (r (54 + 2 * t)) 0 4 ∧ oI (r (54 + 2 * t + 1)) (-40) 60) ∧ f p 11 = r 53 ∧ oI (r 53) 0 6
def Tb1 (f : Fm) (o : Nat) (r : Rw) (b w m : Nat) : Prop := ∃ a, a ≤ m ∧ f o 3 = nI a ∧ r b = nI a ∧ ∀ j, j < w * a → f (o + 1) j = r (b + 1 + j)
def Tab (f : Fm) (p : Nat) (r : Rw) : Prop := Tb1 f (p + 35) r 70 4 5 ∧ Tb1 f (p + 37) r 91 5 6 ∧ Tb1 f (p + 39) r 122 4 6 ∧ ∀ k, k < 6 → nI (k + 1) ≤ r 122 → 0 ≤ (r (123 + 4 * k + 2)).toInt
def Und (f : Fm) (p : Nat) (r : Rw) (n : Nat) : Prop := ∃ u x : Nat, u ≤ 8 ∧ x < 8 ∧ f p 8 = nI u ∧ r 147 = nI u ∧ f p 7 = nI x ∧ ∀ k, k < u → Pos f (p + 9 + 3 * ((x + 8 - u + k) % 8)) r (148 + 24 * k) (151 + 24 * k) 3 n 9999
def PRel (f : Fm) (p : Nat) (r : Rw) : Prop := ∃ n : Nat, n ≤ 7 ∧ f p 4 = nI n ∧ r 0 = nI n ∧ Sta f p r n ∧ Pos f (p + 5) r 1 8 7 n 9999 ∧ Dan f p r ∧ Tab f p r ∧ Und f p r n
def Wid (f : Fm) (p : Nat) : Prop := f (p + 35) 0 = nI 4 ∧ f (p + 35) 2 = nI 5 ∧ f (p + 37) 0 = nI 5 ∧ f (p + 37) 2 = nI 6 ∧ f (p + 39) 0 = nI 4 ∧ f (p + 39) 2 = nI 6
def Img (M N : Mem) : Prop := ∃ k1 k2 : Nat, k1 ≤ 1 ∧ k2 ≤ 1 ∧ M.1 0 4 = nI k1 ∧ M.1 0 5 = nI k2 ∧ N.1 176 20 = nI (k1 + 2 * k2) ∧ (k1 = 1 → PRel M.1 83 (N.1 184)) ∧ (k2 = 1 → PRel M.1 124 (fun k => N.1 184 (340 + k)))
def Txt (M N : Mem) : Prop := ∃ t : Nat, t ≤ 150 ∧ M.1 165 1 = nI t ∧ N.1 176 7 = nI t ∧ ∀ j, j < t → M.1 166 j = N.1 178 j ∧ oI (N.1 178 j) 0 127
def Cnt (M N : Mem) : Prop := M.1 0 13 = N.1 176 1 ∧ M.1 0 14 = N.1 176 2 ∧ M.1 0 15 = N.1 176 3 ∧ M.2 0 11 = N.2 176 4 ∧ M.2 0 12 = N.2 176 5
def Oth (M N : Mem) : Prop := (∀ p, isP p → Wid M.1 p) ∧ (∃ x, x < 8 ∧ M.1 42 7 = nI x) ∧ Img M N ∧ Txt M N ∧ Cnt M N
def Rel (M N : Mem) : Prop := PRel M.1 1 (N.1 177) ∧ Oth M N
/-! it holds where nothing of it has changed -/
theorem Sta.congr {f f' : Fm} {p n : Nat} {r r' : Rw} (h : Sta f p r n) (hf : ∀ a i, p + 1 ≤ a → a ≤ p + 4 → i < n → f' a i = f a i) (hr : ∀ i w, i < n → w < 4 → r' (4 + 7 * i + w) = r (4 + 7 * i + w)) : Sta f' p r' n := by
  intro i hi
  have e0 : r' (4 + 7 * i) = r (4 + 7 * i) := hr i 0 hi (by omega)
  rw [hf (p + 1) i (by omega) (by omega) hi, hf (p + 2) i (by omega) (by omega) hi, hf (p + 3) i (by omega) (by omega) hi, hf (p + 4) i (by omega) (by omega) hi, e0, hr i 1 hi (by omega), hr i 2 hi (by omega), hr i 3 hi (by omega)]
  exact h i hi
theorem Bar.congr {f f' : Fm} {q b : Nat} {r r' : Rw} {X : Int} (h : Bar f q r b X) (hf : ∀ j, j < 3 → f' q j = f q j) (hr : ∀ j, j < 3 → r' (b + j) = r (b + j)) : Bar f' q r' b X := by
  have e0 : r' b = r b := hr 0 (by omega)
  unfold Bar
  rw [hf 0 (by omega), hf 1 (by omega), hf 2 (by omega), e0, hr 1 (by omega), hr 2 (by omega)]
  exact h
theorem Lim.congr {f f' : Fm} {q hh s n : Nat} {r r' : Rw} (h : Lim f q r hh s n) (hf : ∀ a i, (a = q + 1 ∨ a = q + 2) → i < n → f' a i = f a i) (hr : ∀ i w, i < n → w < 3 → r' (hh + s * i + w) = r (hh + s * i + w)) : Lim f' q r' hh s n := by
  intro i hi
  have e0 : r' (hh + s * i) = r (hh + s * i) := hr i 0 hi (by omega)
  rw [hf (q + 1) i (Or.inl rfl) hi, hf (q + 2) i (Or.inr rfl) hi, e0, hr i 1 hi (by omega), hr i 2 hi (by omega)]
  exact h i hi
theorem Pos.congr {f f' : Fm} {q b hh s n : Nat} {r r' : Rw} {X : Int} (h : Pos f q r b hh s n X) (hf : ∀ a i, q ≤ a → a ≤ q + 2 → f' a i = f a i) (hb : ∀ j, j < 3 → r' (b + j) = r (b + j)) (hr : ∀ i w, i < n → w < 3 → r' (hh + s * i + w) = r (hh + s * i + w)) : Pos f' q r' b hh s n X :=
  ⟨h.1.congr (fun j _ => hf q j (by omega) (by omega)) hb, h.2.congr (fun a i ha _ => hf a i (by omega) (by omega)) hr⟩
theorem Dan.congr {f f' : Fm} {p : Nat} {r r' : Rw} (h : Dan f p r) (hf : ∀ a i, (a = p + 33 ∨ a = p + 34) → i < 8 → f' a i = f a i) (h11 : f' p 11 = f p 11) (hr : ∀ k, 53 ≤ k → k < 70 → r' k = r k) : Dan f' p r' := by
  refine ⟨fun t ht => ?_, by rw [h11, hr 53 (by omega) (by omega)]; exact h.2.1, by rw [hr 53 (by omega) (by omega)]; exact h.2.2⟩
  rw [hf _ t (Or.inl rfl) ht, hf _ t (Or.inr rfl) ht, hr _ (by omega) (by omega), hr _ (by omega) (by omega)]
  exact h.1 t ht
theorem Tb1.congr {f f' : Fm} {o b w m : Nat} {r r' : Rw} (h : Tb1 f o r b w m) (h3 : f' o 3 = f o 3) (hf : ∀ i, i < w * m → f' (o + 1) i = f (o + 1) i) (hr : ∀ k, b ≤ k → k ≤ b + w * m → r' k = r k) : Tb1 f' o r' b w m := by
  obtain ⟨a, h1, h2, h4, h5⟩ := h
  refine ⟨a, h1, by rw [h3]; exact h2, by rw [hr b (by omega) (by omega)]; exact h4, fun j hj => ?_⟩
  have : w * a ≤ w * m := Nat.mul_le_mul_left _ h1
  rw [hf j (by omega), hr _ (by omega) (by omega)]
  exact h5 j hj
theorem Tab.congr {f f' : Fm} {p : Nat} {r r' : Rw} (h : Tab f p r) (hf : ∀ a i, p + 35 ≤ a → a ≤ p + 40 → f' a i = f a i) (hr : ∀ k, 70 ≤ k → k < 147 → r' k = r k) : Tab f' p r' := by
  refine ⟨h.1.congr (hf _ _ (by omega) (by omega)) (fun i _ => hf _ i (by omega) (by omega)) (fun k _ _ => hr k (by omega) (by omega)), h.2.1.congr (hf _ _ (by omega) (by omega)) (fun i _ => hf _ i (by omega) (by omega)) (fun k _ _ => hr k (by omega) (by omega)), h.2.2.1.congr (hf _ _ (by omega) (by omega)) (fun i _ => hf _ i (by omega) (by omega)) (fun k _ _ => hr k (by omega) (by omega)), fun k hk hle => ?_⟩
  rw [hr 122 (by omega) (by omega)] at hle
  rw [hr _ (by omega) (by omega)]
  exact h.2.2.2 k hk hle
theorem Und.congr {f f' : Fm} {p n : Nat} {r r' : Rw} (h : Und f p r n) (hn : n ≤ 7) (hf : ∀ a i, p + 9 ≤ a → a ≤ p + 32 → f' a i = f a i) (h7 : f' p 7 = f p 7) (h8 : f' p 8 = f p 8) (hr : ∀ k, 147 ≤ k → k < 340 → r' k = r k) : Und f' p r' n := by
  obtain ⟨u, x, h1, h2, h3, h4, h5, h6⟩ := h
  refine ⟨u, x, h1, h2, by rw [h8]; exact h3, by rw [hr 147 (by omega) (by omega)]; exact h4, by rw [h7]; exact h5, fun k hk => ?_⟩
  have hm : (x + 8 - u + k) % 8 < 8 := Nat.mod_lt _ (by omega)
  exact (h6 k hk).congr (fun a i h1 h2 => hf a i (by omega) (by omega)) (fun j hj => hr _ (by omega) (by omega)) (fun i w hi hw => hr _ (by omega) (by omega))
theorem PRel.congr {f f' : Fm} {p : Nat} {r r' : Rw} (h : PRel f p r) (hf : ∀ a i, p ≤ a → a ≤ p + 40 → f' a i = f a i) (hr : ∀ k, k < 340 → r' k = r k) : PRel f' p r' := by
  obtain ⟨n, hn, h1, h2, h3, h4, h5, h6, h7⟩ := h
  refine ⟨n, hn, by rw [hf p 4 (by omega) (by omega)]; exact h1, by rw [hr 0 (by omega)]; exact h2, h3.congr (fun a i _ _ _ => hf a i (by omega) (by omega)) (fun i w hi hw => hr _ (by omega)), h4.congr (fun a i _ _ => hf a i (by omega) (by omega)) (fun j hj => hr _ (by omega)) (fun i w hi hw => hr _ (by omega)), h5.congr (fun a i ha _ => hf a i (by omega) (by omega)) (hf p 11 (by omega) (by omega)) (fun k _ _ => hr k (by omega)), h6.congr (fun a i _ _ => hf a i (by omega) (by omega)) (fun k _ _ => hr k (by omega)), h7.congr hn (fun a i _ _ => hf a i (by omega) (by omega)) (hf p 7 (by omega) (by omega)) (hf p 8 (by omega) (by omega)) (fun k _ _ => hr k (by omega))⟩
def oC (a b : Nat) : Prop := (a = 0 ∧ (b = 4 ∨ b = 5 ∨ b = 13 ∨ b = 14 ∨ b = 15)) ∨ ((a = 36 ∨ a = 38 ∨ a = 40 ∨ a = 77 ∨ a = 79 ∨ a = 81) ∧ (b = 0 ∨ b = 2)) ∨ (a = 42 ∧ b = 7) ∨ (83 ≤ a ∧ a < 165) ∨ (a = 165 ∧ b = 1) ∨ a = 166
def oM (a b : Nat) : Prop := (a = 176 ∧ (b = 1 ∨ b = 2 ∨ b = 3 ∨ b = 7 ∨ b = 20)) ∨ a = 178 ∨ a = 184
theorem Oth.congr {M M' N N' : Mem} (h : Oth M N) (hf : ∀ a b, oC a b → M'.1 a b = M.1 a b) (hf2 : M'.2 0 = M.2 0) (hr : ∀ a b, oM a b → N'.1 a b = N.1 a b) (hr2 : N'.2 176 = N.2 176) : Oth M' N' := by
  obtain ⟨h1, h2, h3, h4, h5⟩ := h
  refine ⟨fun p hp => ?_, ?_, ?_, ?_, ?_⟩
  · have hw := h1 p hp
    unfold Wid at hw ⊢
    rcases hp with rfl | rfl | rfl | rfl <;> (rw [hf _ _ (by unfold oC; omega), hf _ _ (by unfold oC; omega), hf _ _ (by unfold oC; omega), hf _ _ (by unfold oC; omega), hf _ _ (by unfold oC; omega), hf _ _ (by unfold oC; omega)]; exact hw)
  · rw [hf _ _ (by unfold oC; omega)]; exact h2
  · obtain ⟨k1, k2, a1, a2, a3, a4, a5, a6, a7⟩ := h3
    refine ⟨k1, k2, a1, a2, by rw [hf _ _ (by unfold oC; omega)]; exact a3, by rw [hf _ _ (by unfold oC; omega)]; exact a4, by rw [hr _ _ (by unfold oM; omega)]; exact a5, fun e => ?_, fun e => ?_⟩
    · exact (a6 e).congr (fun a i q1 q2 => hf a i (by unfold oC; omega)) (fun k _ => hr _ _ (by unfold oM; omega))
    · exact (a7 e).congr (fun a i q1 q2 => hf a i (by unfold oC; omega)) (fun k _ => hr _ _ (by unfold oM; omega))
  · obtain ⟨t, b1, b2, b3, b4⟩ := h4
    refine ⟨t, b1, by rw [hf _ _ (by unfold oC; omega)]; exact b2, by rw [hr _ _ (by unfold oM; omega)]; exact b3, fun j hj => ?_⟩
    rw [hf _ _ (by unfold oC; omega), hr _ _ (by unfold oM; omega)]
    exact b4 j hj
  · unfold Cnt at h5 ⊢
    rw [hf _ _ (by unfold oC; omega), hf _ _ (by unfold oC; omega), hf _ _ (by unfold oC; omega), hr _ _ (by unfold oM; omega), hr _ _ (by unfold oM; omega), hr _ _ (by unfold oM; omega), hf2, hr2]
    exact h5
theorem s1_ne {M : Mem} {k j a b : Nat} {v : Int32} (h : ¬ (a = k ∧ b = j)) : (s1 M k j v).1 a b = M.1 a b := by
  rw [s1_at]
  by_cases h1 : a = k
  · rw [if_pos h1, if_neg (fun h2 => h ⟨h1, h2⟩)]
  · rw [if_neg h1]
theorem s1_eq {M : Mem} {k j : Nat} {v : Int32} : (s1 M k j v).1 k j = v := by rw [s1_at, if_pos rfl, if_pos rfl]
/-! refusals -/
theorem rBad (v : Int32) (M : Mem) : f_X6_refuseBad v M = some (v, s1 M 0 13 (M.1 0 13 + 1)) := rfl
theorem rNo (M : Mem) : f_X6_refuseNo M = some (-1003, s1 M 0 14 (M.1 0 14 + 1)) := rfl
theorem rFull (M : Mem) : f_X6_refuseFull M = some (-1004, s1 M 0 15 (M.1 0 15 + 1)) := rfl
theorem yBad (N : Mem) : f_X7_bad N = some (-1002, s1 N 176 1 (N.1 176 1 + 1)) := rfl
theorem yTen (N : Mem) : f_X7_badTen N = some (-10, s1 N 176 1 (N.1 176 1 + 1)) := rfl
theorem yNo (N : Mem) : f_X7_no N = some (-1003, s1 N 176 2 (N.1 176 2 + 1)) := rfl
theorem yFull (N : Mem) : f_X7_full N = some (-1004, s1 N 176 3 (N.1 176 3 + 1)) := rfl
theorem PRel.s1 {M N : Mem} {k j k' j' : Nat} {v v' : Int32} (h : PRel M.1 1 (N.1 177)) (hk : k = 0 ∨ 41 < k) (hk' : k' ≠ 177) : PRel (s1 M k j v).1 1 ((s1 N k' j' v').1 177) :=
  h.congr (fun a i h1 h2 => s1_ne (by omega)) (fun q _ => s1_ne (by omega))
theorem Rel.cnt {M N : Mem} {j j' : Nat} (h : Rel M N) (hj : (j = 13 ∧ j' = 1) ∨ (j = 14 ∧ j' = 2) ∨ (j = 15 ∧ j' = 3)) : Rel (s1 M 0 j (M.1 0 j + 1)) (s1 N 176 j' (N.1 176 j' + 1)) := by
  obtain ⟨hP, h1, h2, h3, h4, h5⟩ := h
  refine ⟨hP.s1 (Or.inl rfl) (by decide), ?_, ?_, ?_, ?_, ?_⟩
  · intro p hp
    have hw := h1 p hp
    unfold Wid at hw ⊢
    rcases hp with rfl | rfl | rfl | rfl <;> (rw [s1_ne (by omega), s1_ne (by omega), s1_ne (by omega), s1_ne (by omega), s1_ne (by omega), s1_ne (by omega)]; exact hw)
  · rw [s1_ne (by omega)]; exact h2
  · obtain ⟨k1, k2, a1, a2, a3, a4, a5, a6, a7⟩ := h3
    refine ⟨k1, k2, a1, a2, by rw [s1_ne (by omega)]; exact a3, by rw [s1_ne (by omega)]; exact a4, by rw [s1_ne (by omega)]; exact a5, fun e => ?_, fun e => ?_⟩
    · exact (a6 e).congr (fun a i q1 q2 => s1_ne (by omega)) (fun k _ => s1_ne (by omega))
    · exact (a7 e).congr (fun a i q1 q2 => s1_ne (by omega)) (fun k _ => s1_ne (by omega))
  · obtain ⟨t, b1, b2, b3, b4⟩ := h4
    refine ⟨t, b1, by rw [s1_ne (by omega)]; exact b2, by rw [s1_ne (by omega)]; exact b3, fun j hj => ?_⟩
    rw [s1_ne (by omega), s1_ne (by omega)]
    exact b4 j hj
  · obtain ⟨c1, c2, c3, c4, c5⟩ := h5
    rcases hj with ⟨rfl, rfl⟩ | ⟨rfl, rfl⟩ | ⟨rfl, rfl⟩
    · exact ⟨by rw [s1_eq, s1_eq, c1], by rw [s1_ne (by omega), s1_ne (by omega)]; exact c2, by rw [s1_ne (by omega), s1_ne (by omega)]; exact c3, c4, c5⟩
    · exact ⟨by rw [s1_ne (by omega), s1_ne (by omega)]; exact c1, by rw [s1_eq, s1_eq, c2], by rw [s1_ne (by omega), s1_ne (by omega)]; exact c3, c4, c5⟩
    · exact ⟨by rw [s1_ne (by omega), s1_ne (by omega)]; exact c1, by rw [s1_ne (by omega), s1_ne (by omega)]; exact c2, by rw [s1_eq, s1_eq, c3], c4, c5⟩
theorem Rel.bad {M N : Mem} (h : Rel M N) : Rel (s1 M 0 13 (M.1 0 13 + 1)) (s1 N 176 1 (N.1 176 1 + 1)) := h.cnt (Or.inl ⟨rfl, rfl⟩)
theorem Rel.no {M N : Mem} (h : Rel M N) : Rel (s1 M 0 14 (M.1 0 14 + 1)) (s1 N 176 2 (N.1 176 2 + 1)) := h.cnt (Or.inr (Or.inl ⟨rfl, rfl⟩))
theorem Rel.full {M N : Mem} (h : Rel M N) : Rel (s1 M 0 15 (M.1 0 15 + 1)) (s1 N 176 3 (N.1 176 3 + 1)) := h.cnt (Or.inr (Or.inr ⟨rfl, rfl⟩))
