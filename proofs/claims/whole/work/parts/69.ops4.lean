theorem image_L {a : Nat} (ha : a ≤ 1) (N : Mem) : ∃ r, f_X7_image_L17 (nI a) FU (nI 0) N = some r ∧ (r.2.2 = N.2 ∧ (∀ c b, ¬ (c = 184 ∧ 340 * a ≤ b ∧ b < 340 * a + 340) → r.2.1 c b = N.1 c b) ∧ ∀ k, k < 340 → r.2.1 184 (340 * a + k) = N.1 177 k) := by
  refine loopE (fun n i x => f_X7_image_L17 (nI a) n (nI i) x) 340 (fun i (x : Mem) => x.2 = N.2 ∧ (∀ c b, ¬ (c = 184 ∧ 340 * a ≤ b ∧ b < 340 * a + 340) → x.1 c b = N.1 c b) ∧ ∀ k, k < i → x.1 184 (340 * a + k) = N.1 177 k) _ ?_ ?_ 340 0 FU N (by omega) (FU_gt (by decide)) ⟨rfl, fun _ _ _ => rfl, fun t ht => absurd ht (by omega)⟩
  · intro n x hx
    refine ⟨(nI 340, x), ?_, hx⟩
    show f_X7_image_L17 (nI a) (n + 1) (nI 340) x = _
    rw [f_X7_image_L17]
    rw [l340, if_pos (nI_le (Nat.le_refl _) (by decide))]
  · intro n i x hi hx
    obtain ⟨h1, h2, h3⟩ := hx
    refine Or.inl ⟨s1 x 184 (340 * a + i) (x.1 177 i), ?_, h1, fun c b q => ?_, fun t ht => ?_⟩
    · show f_X7_image_L17 (nI a) (n + 1) (nI i) x = f_X7_image_L17 (nI a) n (nI (i + 1)) _
      rw [f_X7_image_L17]
      rw [l340, if_neg (nI_ge hi (by decide)), rd_n (hb177 (by omega)) (by omega), ob_e, pk_mul, nI_add, wr_n (by rw [ln_184]; omega) (by omega), ob_e, lq_e, l1, nI_add]
    · rw [s1_ne (by omega)]
      exact h2 c b q
    · by_cases e : t = i
      · subst e; rw [s1_eq, h2 _ _ (by omega)]
      · rw [s1_ne (by omega)]
        exact h3 t (by omega)
theorem from_L {a : Nat} (ha : a ≤ 1) (N : Mem) : ∃ r, f_X7_from_L33 (nI a) FU (nI 0) N = some r ∧ (r.2.2 = N.2 ∧ (∀ c b, ¬ (c = 177 ∧ b < 340) → r.2.1 c b = N.1 c b) ∧ ∀ k, k < 340 → r.2.1 177 k = N.1 184 (340 * a + k)) := by
  refine loopE (fun n i x => f_X7_from_L33 (nI a) n (nI i) x) 340 (fun i (x : Mem) => x.2 = N.2 ∧ (∀ c b, ¬ (c = 177 ∧ b < 340) → x.1 c b = N.1 c b) ∧ ∀ k, k < i → x.1 177 k = N.1 184 (340 * a + k)) _ ?_ ?_ 340 0 FU N (by omega) (FU_gt (by decide)) ⟨rfl, fun _ _ _ => rfl, fun t ht => absurd ht (by omega)⟩
  · intro n x hx
    refine ⟨(nI 340, x), ?_, hx⟩
    show f_X7_from_L33 (nI a) (n + 1) (nI 340) x = _
    rw [f_X7_from_L33]
    rw [l340, if_pos (nI_le (Nat.le_refl _) (by decide))]
  · intro n i x hi hx
    obtain ⟨h1, h2, h3⟩ := hx
    refine Or.inl ⟨s1 x 177 i (x.1 184 (340 * a + i)), ?_, h1, fun c b q => ?_, fun t ht => ?_⟩
    · show f_X7_from_L33 (nI a) (n + 1) (nI i) x = f_X7_from_L33 (nI a) n (nI (i + 1)) _
      rw [f_X7_from_L33]
      rw [l340, if_neg (nI_ge hi (by decide)), pk_mul, nI_add, rd_n (by rw [ln_184]; omega) (by omega), ob_e, wr_n (hb177 (by omega)) (by omega), ob_e, lq_e, l1, nI_add]
    · rw [s1_ne (by omega)]
      exact h2 c b q
    · by_cases e : t = i
      · subst e; rw [s1_eq, h2 _ _ (by omega)]
      · rw [s1_ne (by omega)]
        exact h3 t (by omega)
theorem or_k : ∀ k1, k1 < 2 → ∀ k2, k2 < 2 → (nI (k1 + 2 * k2) ||| ((1 : Int32) <<< (nI 0 &&& 31))) = nI (1 + 2 * k2) ∧ (nI (k1 + 2 * k2) ||| ((1 : Int32) <<< (nI 1 &&& 31))) = nI (k1 + 2 * 1) := by decide +kernel
theorem sh_k : ∀ k1, k1 < 2 → ∀ k2, k2 < 2 → ((((nI (k1 + 2 * k2)) >>> (nI 0 &&& 31)) &&& (1 : Int32)) = 0 ↔ k1 = 0) ∧ ((((nI (k1 + 2 * k2)) >>> (nI 1 &&& 31)) &&& (1 : Int32)) = 0 ↔ k2 = 0) := by decide +kernel
theorem wid_st {o q : Nat} {M K : Mem} {S : Nat → Nat → Prop} (ho : isP o) (h : St o q S M K) (hw : ∀ p, isP p → Wid M.1 p) : ∀ p, isP p → Wid K.1 p := by
  intro p hp
  have e : ∀ c b, (c = p + 35 ∨ c = p + 37 ∨ c = p + 39) → b ≠ 3 → K.1 c b = M.1 c b := by
    intro c b hc hb
    by_cases hpo : p = o
    · subst hpo
      exact h.2.2.1 c b hc hb
    · have := isP_far hp ho hpo
      exact h.2.1 c b (by omega)
  have hw := hw p hp
  unfold Wid at hw ⊢
  rw [e _ _ (by omega) (by omega), e _ _ (by omega) (by omega), e _ _ (by omega) (by omega), e _ _ (by omega) (by omega), e _ _ (by omega) (by omega), e _ _ (by omega) (by omega)]
  exact hw
theorem op33 : opP33 Rel := by
  intro a1 M N hR
  unfold f_X6_image f_X7_image
  by_cases g1 : oI a1 0 1
  · rw [if_pos ((o_0_1 a1).mpr g1), if_neg (fun q => (y_0_1 a1).mp q g1)]
    obtain ⟨hP, hW, h42, ⟨k1, k2, b1, b2, b3, b4, b5, b6, b7⟩, hX, hC⟩ := id hR
    obtain ⟨a, ha, rfl⟩ := nI_oI (n := 2) g1 (by decide)
    obtain ⟨⟨y, N2⟩, e, f1, f2, f3⟩ := image_L (a := a) (by omega) N
    have f2 : ∀ c b, ¬ (c = 184 ∧ 340 * a ≤ b ∧ b < 340 * a + 340) → N2.1 c b = N.1 c b := f2
    have f3 : ∀ k, k < 340 → N2.1 184 (340 * a + k) = N.1 177 k := f3
    have f1 : N2.2 = N.2 := f1
    rw [show f_X7_image_L17 (nI a) FU (0 : Int32) N = some (y, N2) from e, ob2_e, lq_e, f2 176 20 (by omega), b5]
    rcases (show a = 0 ∨ a = 1 by omega) with rfl | rfl
    · obtain ⟨K, eK, hK⟩ := becomeP (o := 83) (q := 1) (by unfold isP; omega) (by unfold isP; omega) (by omega) M
      rw [if_pos (show nI 0 = (0 : Int32) from rfl), eK, ob_e, lq_e, ob_e, (or_k k1 (by omega) k2 (by omega)).1]
      have kf : ∀ c b, ¬ (83 ≤ c ∧ c ≤ 83 + 40) → ¬ (c = 0 ∧ b = 4) → (s1 K 0 4 1).1 c b = M.1 c b := fun c b q1 q2 => by rw [s1_ne (by omega)]; exact hK.2.1 c b q1
      have nf : ∀ c b, ¬ (c = 184 ∧ b < 340) → ¬ (c = 176 ∧ b = 20) → (s1 N2 176 20 (nI (1 + 2 * k2))).1 c b = N.1 c b := fun c b q1 q2 => by rw [s1_ne (by omega)]; exact f2 c b (by omega)
      refine ⟨_, _, _, rfl, rfl, hP.congr (fun c b _ _ => kf _ _ (by omega) (by omega)) (fun k _ => nf _ _ (by omega) (by omega)), wid_c (wid_st (by unfold isP; omega) hK hW) (fun c b _ _ => s1_ne (by omega)), ?_, ⟨1, k2, by omega, b2, ?_, ?_, ?_, fun _ => hP.move (fun c b hc => ?_) (fun k hk => ?_), fun h => (b7 h).congr (fun c b _ _ => kf _ _ (by omega) (by omega)) (fun k hk => nf _ _ (by omega) (by omega))⟩, txt_c hX (kf _ _ (by omega) (by omega)) (nf _ _ (by omega) (by omega)) (fun i => kf _ _ (by omega) (by omega)) (fun i => nf _ _ (by omega) (by omega)), ?_⟩
      · rw [kf _ _ (by omega) (by omega)]; exact h42
      · rw [s1_eq]; rfl
      · rw [kf _ _ (by omega) (by omega)]; exact b4
      · rw [s1_eq]
      · rw [s1_ne (by omega)]; exact hK.2.2.2 c b hc
      · rw [s1_ne (by omega)]
        have := f3 k hk
        rw [show 340 * 0 + k = k by omega] at this
        exact this
      · unfold Cnt at hC ⊢
        rw [kf _ _ (by omega) (by omega), kf _ _ (by omega) (by omega), kf _ _ (by omega) (by omega), nf _ _ (by omega) (by omega), nf _ _ (by omega) (by omega), nf _ _ (by omega) (by omega), s1_2, s1_2, hK.1, f1]
        exact hC
    · obtain ⟨K, eK, hK⟩ := becomeP (o := 124) (q := 1) (by unfold isP; omega) (by unfold isP; omega) (by omega) M
      rw [if_neg (show ¬ nI 1 = (0 : Int32) by decide), eK, ob_e, lq_e, ob_e, (or_k k1 (by omega) k2 (by omega)).2]
      have kf : ∀ c b, ¬ (124 ≤ c ∧ c ≤ 124 + 40) → ¬ (c = 0 ∧ b = 5) → (s1 K 0 5 1).1 c b = M.1 c b := fun c b q1 q2 => by rw [s1_ne (by omega)]; exact hK.2.1 c b q1
      have nf : ∀ c b, ¬ (c = 184 ∧ 340 ≤ b) → ¬ (c = 176 ∧ b = 20) → (s1 N2 176 20 (nI (k1 + 2 * 1))).1 c b = N.1 c b := fun c b q1 q2 => by rw [s1_ne (by omega)]; exact f2 c b (by omega)
      refine ⟨_, _, _, rfl, rfl, hP.congr (fun c b _ _ => kf _ _ (by omega) (by omega)) (fun k _ => nf _ _ (by omega) (by omega)), wid_c (wid_st (by unfold isP; omega) hK hW) (fun c b _ _ => s1_ne (by omega)), ?_, ⟨k1, 1, b1, by omega, ?_, ?_, ?_, fun h => (b6 h).congr (fun c b _ _ => kf _ _ (by omega) (by omega)) (fun k hk => nf _ _ (by omega) (by omega)), fun _ => hP.move (fun c b hc => ?_) (fun k hk => ?_)⟩, txt_c hX (kf _ _ (by omega) (by omega)) (nf _ _ (by omega) (by omega)) (fun i => kf _ _ (by omega) (by omega)) (fun i => nf _ _ (by omega) (by omega)), ?_⟩
      · rw [kf _ _ (by omega) (by omega)]; exact h42
      · rw [kf _ _ (by omega) (by omega)]; exact b3
      · rw [s1_eq]; rfl
      · rw [s1_eq]
      · rw [s1_ne (by omega)]; exact hK.2.2.2 c b hc
      · rw [s1_ne (by omega)]
        have := f3 k hk
        rw [show 340 * 1 + k = 340 + k by omega] at this
        exact this
      · unfold Cnt at hC ⊢
        rw [kf _ _ (by omega) (by omega), kf _ _ (by omega) (by omega), kf _ _ (by omega) (by omega), nf _ _ (by omega) (by omega), nf _ _ (by omega) (by omega), nf _ _ (by omega) (by omega), s1_2, s1_2, hK.1, f1]
        exact hC
  · rw [if_neg (fun q => g1 ((o_0_1 a1).mp q)), if_pos ((y_0_1 a1).mpr g1), rBad, yBad, ob2_e, ob2_e]
    exact ⟨_, _, _, rfl, rfl, hR.bad⟩
theorem from_rel {M N K N2 : Mem} {p a : Nat} (hR : Rel M N) (hp : p = 83 ∨ p = 124) (hK : St 1 p cov M K) (hPR : PRel M.1 p (fun k => N.1 184 (340 * a + k))) (f1 : N2.2 = N.2) (f2 : ∀ c b, ¬ (c = 177 ∧ b < 340) → N2.1 c b = N.1 c b) (f3 : ∀ k, k < 340 → N2.1 177 k = N.1 184 (340 * a + k)) : Rel K N2 := by
  obtain ⟨hP, hW, h42, hI, hX, hC⟩ := hR
  have kf : ∀ c b, ¬ (1 ≤ c ∧ c ≤ 41) → K.1 c b = M.1 c b := fun c b q1 => hK.2.1 c b (by omega)
  refine ⟨hPR.move (fun c b hc => hK.2.2.2 c b hc) f3, wid_st (by unfold isP; omega) hK hW, by rw [kf _ _ (by omega)]; exact h42, img_c hI (kf _ _ (by omega)) (kf _ _ (by omega)) (f2 _ _ (by omega)) (fun c b _ _ => kf _ _ (by omega)) (fun k => f2 _ _ (by omega)), txt_c hX (kf _ _ (by omega)) (f2 _ _ (by omega)) (fun i => kf _ _ (by omega)) (fun i => f2 _ _ (by omega)), cnt_c hC (fun b => kf _ _ (by omega)) (by rw [hK.1]) (fun b _ => f2 _ _ (by omega)) (by rw [f1])⟩
theorem op34 : opP34 Rel := by
  intro a1 M N hR
  unfold f_X6_from f_X7_from
  by_cases g1 : oI a1 0 1
  · rw [if_pos ((o_0_1 a1).mpr g1), if_neg (fun q => (y_0_1 a1).mp q g1)]
    obtain ⟨hP, hW, h42, ⟨k1, k2, b1, b2, b3, b4, b5, b6, b7⟩, hX, hC⟩ := id hR
    obtain ⟨a, ha, rfl⟩ := nI_oI (n := 2) g1 (by decide)
    obtain ⟨⟨y, N2⟩, e, f1, f2, f3⟩ := from_L (a := a) (by omega) N
    have f2 : ∀ c b, ¬ (c = 177 ∧ b < 340) → N2.1 c b = N.1 c b := f2
    have f3 : ∀ k, k < 340 → N2.1 177 k = N.1 184 (340 * a + k) := f3
    have f1 : N2.2 = N.2 := f1
    rw [b5, show f_X7_from_L33 (nI a) FU (0 : Int32) N = some (y, N2) from e, ob2_e]
    rcases (show a = 0 ∨ a = 1 by omega) with rfl | rfl
    · rw [if_pos (show nI 0 = (0 : Int32) from rfl), lq_e, b3]
      have hs := (sh_k k1 (by omega) k2 (by omega)).1
      by_cases hk : k1 = 0
      · rw [if_pos (hs.mpr hk), if_pos (show nI k1 = (0 : Int32) from by rw [hk]; rfl), rNo, yNo, ob2_e, ob2_e]
        exact ⟨_, _, _, rfl, rfl, hR.no⟩
      · have hk1 : k1 = 1 := by omega
        obtain ⟨K, eK, hK⟩ := becomeP (o := 1) (q := 83) (by unfold isP; omega) (by unfold isP; omega) (by omega) M
        rw [if_neg (fun q => hk (hs.mp q)), if_neg (show ¬ nI k1 = (0 : Int32) from by rw [hk1]; decide), if_pos (show nI 0 = (0 : Int32) from rfl), eK, ob_e]
        refine ⟨_, _, _, rfl, rfl, from_rel (a := 0) hR (Or.inl rfl) hK ((b6 hk1).congr (fun _ _ _ _ => rfl) (fun k _ => ?_)) f1 f2 f3⟩
        show N.1 184 (340 * 0 + k) = N.1 184 k
        exact congrArg _ (by omega)
    · rw [if_neg (show ¬ nI 1 = (0 : Int32) by decide), lq_e, b4]
      have hs := (sh_k k1 (by omega) k2 (by omega)).2
      by_cases hk : k2 = 0
      · rw [if_pos (hs.mpr hk), if_pos (show nI k2 = (0 : Int32) from by rw [hk]; rfl), rNo, yNo, ob2_e, ob2_e]
        exact ⟨_, _, _, rfl, rfl, hR.no⟩
      · have hk1 : k2 = 1 := by omega
        obtain ⟨K, eK, hK⟩ := becomeP (o := 1) (q := 124) (by unfold isP; omega) (by unfold isP; omega) (by omega) M
        rw [if_neg (fun q => hk (hs.mp q)), if_neg (show ¬ nI k2 = (0 : Int32) from by rw [hk1]; decide), if_neg (show ¬ nI 1 = (0 : Int32) by decide), eK, ob_e]
        refine ⟨_, _, _, rfl, rfl, from_rel (a := 1) hR (Or.inr rfl) hK ((b7 hk1).congr (fun _ _ _ _ => rfl) (fun k _ => ?_)) f1 f2 f3⟩
        show N.1 184 (340 * 1 + k) = N.1 184 (340 + k)
        exact congrArg _ (by omega)
  · rw [if_neg (fun q => g1 ((o_0_1 a1).mp q)), if_pos ((y_0_1 a1).mpr g1), rBad, yBad, ob2_e, ob2_e]
    exact ⟨_, _, _, rfl, rfl, hR.bad⟩
