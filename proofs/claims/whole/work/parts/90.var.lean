/-! THE FACTS' names in a law, by program (gvar.py) -/
theorem VAR {B : Nat → Nat} {N : Nat} (hB : ∀ i, B i < 256) (hN : N ≤ 600) {st : Nat} (hs : st ≤ N) (ess : sk B N st = st) : ∃ v : Int32, (v = -1 ∨ ∃ k, k < 8 ∧ v = Int32.ofNat k) ∧ (¬ st < we B N st → v = -1) ∧ (∀ d (b : pS) (L : xA) (s : rT), Dj L → TX B N (we B N st) s → s.1 26 = Int32.ofNat st → call (d + 3) m_Lw_variableNamed [.ref 1] (xS b L s) = some (.inl (some (.int v)), xS b L s)) ∧ (∀ d (b : pS) (τ : rT), TR B N st τ → ∃ τ', Kf [4] [] τ τ' ∧ TR B N st τ' ∧ vcall (d + 3) m_R_factHere [.ref 30] (mS b τ) = some (.inl (some (.int v)), mS b τ')) := by
  have he : we B N st ≤ N := rn_le hs
  have hse : st ≤ we B N st := rn_ge hs
  have nw : ∀ (w : Nat → Nat) (len : Nat), 0 < len → wq B st (we B N st - st) w len → st < we B N st := fun w len hl h => by have := h.1; omega
  by_cases h0 : wq B st (we B N st - st) w_light 5
  · refine ⟨0, Or.inr ⟨0, by decide, rfl⟩, fun hn => absurd (nw _ _ (by decide) h0) hn, fun d b L s D T hst => ?_, fun d b τ T => ?_⟩
    · skip
      obtain ⟨x0, y0, z0, e0⟩ := T_is hB hN d (b := b) D T hst he hse HW_7
      rw [y0 h0] at e0
      refine cR.trans ((B_Lw_variableNamed_0 _ _ _).trans ?_)
      rw [e0, kC1_v, if_neg (by decide)]
    · obtain ⟨t1, k1, k2, k3⟩ := R_word hB hN d b hs T
      rw [ess] at k2 k3
      refine ⟨t1, k1, k2, (vR rfl).trans ((B_R_factHere_0 _ _ _).trans ?_)⟩
      rw [k3, kC1_v, R_of (d + 1) _ HW_28 (by decide), kC1_v, if_neg (by rw [word_eq hB hN hs HW_28 (by decide) (by decide)]; exact fun h => h h0)]
  by_cases h1 : wq B st (we B N st - st) w_dark 4
  · refine ⟨1, Or.inr ⟨1, by decide, rfl⟩, fun hn => absurd (nw _ _ (by decide) h1) hn, fun d b L s D T hst => ?_, fun d b τ T => ?_⟩
    · skip
      obtain ⟨x0, y0, z0, e0⟩ := T_is hB hN d (b := b) D T hst he hse HW_7
      rw [z0 h0] at e0
      obtain ⟨x1, y1, z1, e1⟩ := T_is hB hN d (b := b) D T hst he hse HW_8
      rw [y1 h1] at e1
      refine cR.trans ((B_Lw_variableNamed_0 _ _ _).trans ?_)
      rw [e0, kC1_v, if_pos rfl, e1, kC1_v, if_neg (by decide)]
    · obtain ⟨t1, k1, k2, k3⟩ := R_word hB hN d b hs T
      rw [ess] at k2 k3
      refine ⟨t1, k1, k2, (vR rfl).trans ((B_R_factHere_0 _ _ _).trans ?_)⟩
      rw [k3, kC1_v, R_of (d + 1) _ HW_28 (by decide), kC1_v, if_pos (by rw [word_eq hB hN hs HW_28 (by decide) (by decide)]; exact h0), R_of (d + 1) _ HW_29 (by decide), kC1_v, if_neg (by rw [word_eq hB hN hs HW_29 (by decide) (by decide)]; exact fun h => h h1)]
  by_cases h2 : wq B st (we B N st - st) w_still 5
  · refine ⟨2, Or.inr ⟨2, by decide, rfl⟩, fun hn => absurd (nw _ _ (by decide) h2) hn, fun d b L s D T hst => ?_, fun d b τ T => ?_⟩
    · skip
      obtain ⟨x0, y0, z0, e0⟩ := T_is hB hN d (b := b) D T hst he hse HW_7
      rw [z0 h0] at e0
      obtain ⟨x1, y1, z1, e1⟩ := T_is hB hN d (b := b) D T hst he hse HW_8
      rw [z1 h1] at e1
      obtain ⟨x2, y2, z2, e2⟩ := T_is hB hN d (b := b) D T hst he hse HW_9
      rw [y2 h2] at e2
      refine cR.trans ((B_Lw_variableNamed_0 _ _ _).trans ?_)
      rw [e0, kC1_v, if_pos rfl, e1, kC1_v, if_pos rfl, e2, kC1_v, if_neg (by decide)]
    · obtain ⟨t1, k1, k2, k3⟩ := R_word hB hN d b hs T
      rw [ess] at k2 k3
      refine ⟨t1, k1, k2, (vR rfl).trans ((B_R_factHere_0 _ _ _).trans ?_)⟩
      rw [k3, kC1_v, R_of (d + 1) _ HW_28 (by decide), kC1_v, if_pos (by rw [word_eq hB hN hs HW_28 (by decide) (by decide)]; exact h0), R_of (d + 1) _ HW_29 (by decide), kC1_v, if_pos (by rw [word_eq hB hN hs HW_29 (by decide) (by decide)]; exact h1), R_of (d + 1) _ HW_30 (by decide), kC1_v, if_neg (by rw [word_eq hB hN hs HW_30 (by decide) (by decide)]; exact fun h => h h2)]
  by_cases h3 : wq B st (we B N st - st) w_hunger 6
  · refine ⟨3, Or.inr ⟨3, by decide, rfl⟩, fun hn => absurd (nw _ _ (by decide) h3) hn, fun d b L s D T hst => ?_, fun d b τ T => ?_⟩
    · skip
      obtain ⟨x0, y0, z0, e0⟩ := T_is hB hN d (b := b) D T hst he hse HW_7
      rw [z0 h0] at e0
      obtain ⟨x1, y1, z1, e1⟩ := T_is hB hN d (b := b) D T hst he hse HW_8
      rw [z1 h1] at e1
      obtain ⟨x2, y2, z2, e2⟩ := T_is hB hN d (b := b) D T hst he hse HW_9
      rw [z2 h2] at e2
      obtain ⟨x3, y3, z3, e3⟩ := T_is hB hN d (b := b) D T hst he hse HW_10
      rw [y3 h3] at e3
      refine cR.trans ((B_Lw_variableNamed_0 _ _ _).trans ?_)
      rw [e0, kC1_v, if_pos rfl, e1, kC1_v, if_pos rfl, e2, kC1_v, if_pos rfl, e3, kC1_v, if_neg (by decide)]
    · obtain ⟨t1, k1, k2, k3⟩ := R_word hB hN d b hs T
      rw [ess] at k2 k3
      refine ⟨t1, k1, k2, (vR rfl).trans ((B_R_factHere_0 _ _ _).trans ?_)⟩
      rw [k3, kC1_v, R_of (d + 1) _ HW_28 (by decide), kC1_v, if_pos (by rw [word_eq hB hN hs HW_28 (by decide) (by decide)]; exact h0), R_of (d + 1) _ HW_29 (by decide), kC1_v, if_pos (by rw [word_eq hB hN hs HW_29 (by decide) (by decide)]; exact h1), R_of (d + 1) _ HW_30 (by decide), kC1_v, if_pos (by rw [word_eq hB hN hs HW_30 (by decide) (by decide)]; exact h2), R_of (d + 1) _ HW_31 (by decide), kC1_v, if_neg (by rw [word_eq hB hN hs HW_31 (by decide) (by decide)]; exact fun h => h h3)]
  by_cases h4 : wq B st (we B N st - st) w_seat 4
  · refine ⟨4, Or.inr ⟨4, by decide, rfl⟩, fun hn => absurd (nw _ _ (by decide) h4) hn, fun d b L s D T hst => ?_, fun d b τ T => ?_⟩
    · skip
      obtain ⟨x0, y0, z0, e0⟩ := T_is hB hN d (b := b) D T hst he hse HW_7
      rw [z0 h0] at e0
      obtain ⟨x1, y1, z1, e1⟩ := T_is hB hN d (b := b) D T hst he hse HW_8
      rw [z1 h1] at e1
      obtain ⟨x2, y2, z2, e2⟩ := T_is hB hN d (b := b) D T hst he hse HW_9
      rw [z2 h2] at e2
      obtain ⟨x3, y3, z3, e3⟩ := T_is hB hN d (b := b) D T hst he hse HW_10
      rw [z3 h3] at e3
      obtain ⟨x4, y4, z4, e4⟩ := T_is hB hN d (b := b) D T hst he hse HW_11
      rw [y4 h4] at e4
      refine cR.trans ((B_Lw_variableNamed_0 _ _ _).trans ?_)
      rw [e0, kC1_v, if_pos rfl, e1, kC1_v, if_pos rfl, e2, kC1_v, if_pos rfl, e3, kC1_v, if_pos rfl, e4, kC1_v, if_neg (by decide)]
    · obtain ⟨t1, k1, k2, k3⟩ := R_word hB hN d b hs T
      rw [ess] at k2 k3
      refine ⟨t1, k1, k2, (vR rfl).trans ((B_R_factHere_0 _ _ _).trans ?_)⟩
      rw [k3, kC1_v, R_of (d + 1) _ HW_28 (by decide), kC1_v, if_pos (by rw [word_eq hB hN hs HW_28 (by decide) (by decide)]; exact h0), R_of (d + 1) _ HW_29 (by decide), kC1_v, if_pos (by rw [word_eq hB hN hs HW_29 (by decide) (by decide)]; exact h1), R_of (d + 1) _ HW_30 (by decide), kC1_v, if_pos (by rw [word_eq hB hN hs HW_30 (by decide) (by decide)]; exact h2), R_of (d + 1) _ HW_31 (by decide), kC1_v, if_pos (by rw [word_eq hB hN hs HW_31 (by decide) (by decide)]; exact h3), R_of (d + 1) _ HW_22 (by decide), kC1_v, if_neg (by rw [word_eq hB hN hs HW_22 (by decide) (by decide)]; exact fun h => h h4)]
  by_cases h5 : wq B st (we B N st - st) w_sitter 6
  · refine ⟨5, Or.inr ⟨5, by decide, rfl⟩, fun hn => absurd (nw _ _ (by decide) h5) hn, fun d b L s D T hst => ?_, fun d b τ T => ?_⟩
    · skip
      obtain ⟨x0, y0, z0, e0⟩ := T_is hB hN d (b := b) D T hst he hse HW_7
      rw [z0 h0] at e0
      obtain ⟨x1, y1, z1, e1⟩ := T_is hB hN d (b := b) D T hst he hse HW_8
      rw [z1 h1] at e1
      obtain ⟨x2, y2, z2, e2⟩ := T_is hB hN d (b := b) D T hst he hse HW_9
      rw [z2 h2] at e2
      obtain ⟨x3, y3, z3, e3⟩ := T_is hB hN d (b := b) D T hst he hse HW_10
      rw [z3 h3] at e3
      obtain ⟨x4, y4, z4, e4⟩ := T_is hB hN d (b := b) D T hst he hse HW_11
      rw [z4 h4] at e4
      obtain ⟨x5, y5, z5, e5⟩ := T_is hB hN d (b := b) D T hst he hse HW_12
      rw [y5 h5] at e5
      refine cR.trans ((B_Lw_variableNamed_0 _ _ _).trans ?_)
      rw [e0, kC1_v, if_pos rfl, e1, kC1_v, if_pos rfl, e2, kC1_v, if_pos rfl, e3, kC1_v, if_pos rfl, e4, kC1_v, if_pos rfl, e5, kC1_v, if_neg (by decide)]
    · obtain ⟨t1, k1, k2, k3⟩ := R_word hB hN d b hs T
      rw [ess] at k2 k3
      refine ⟨t1, k1, k2, (vR rfl).trans ((B_R_factHere_0 _ _ _).trans ?_)⟩
      rw [k3, kC1_v, R_of (d + 1) _ HW_28 (by decide), kC1_v, if_pos (by rw [word_eq hB hN hs HW_28 (by decide) (by decide)]; exact h0), R_of (d + 1) _ HW_29 (by decide), kC1_v, if_pos (by rw [word_eq hB hN hs HW_29 (by decide) (by decide)]; exact h1), R_of (d + 1) _ HW_30 (by decide), kC1_v, if_pos (by rw [word_eq hB hN hs HW_30 (by decide) (by decide)]; exact h2), R_of (d + 1) _ HW_31 (by decide), kC1_v, if_pos (by rw [word_eq hB hN hs HW_31 (by decide) (by decide)]; exact h3), R_of (d + 1) _ HW_22 (by decide), kC1_v, if_pos (by rw [word_eq hB hN hs HW_22 (by decide) (by decide)]; exact h4), R_of (d + 1) _ HW_23 (by decide), kC1_v, if_neg (by rw [word_eq hB hN hs HW_23 (by decide) (by decide)]; exact fun h => h h5)]
  by_cases h6 : wq B st (we B N st - st) w_others 6
  · refine ⟨6, Or.inr ⟨6, by decide, rfl⟩, fun hn => absurd (nw _ _ (by decide) h6) hn, fun d b L s D T hst => ?_, fun d b τ T => ?_⟩
    · skip
      obtain ⟨x0, y0, z0, e0⟩ := T_is hB hN d (b := b) D T hst he hse HW_7
      rw [z0 h0] at e0
      obtain ⟨x1, y1, z1, e1⟩ := T_is hB hN d (b := b) D T hst he hse HW_8
      rw [z1 h1] at e1
      obtain ⟨x2, y2, z2, e2⟩ := T_is hB hN d (b := b) D T hst he hse HW_9
      rw [z2 h2] at e2
      obtain ⟨x3, y3, z3, e3⟩ := T_is hB hN d (b := b) D T hst he hse HW_10
      rw [z3 h3] at e3
      obtain ⟨x4, y4, z4, e4⟩ := T_is hB hN d (b := b) D T hst he hse HW_11
      rw [z4 h4] at e4
      obtain ⟨x5, y5, z5, e5⟩ := T_is hB hN d (b := b) D T hst he hse HW_12
      rw [z5 h5] at e5
      obtain ⟨x6, y6, z6, e6⟩ := T_is hB hN d (b := b) D T hst he hse HW_13
      rw [y6 h6] at e6
      refine cR.trans ((B_Lw_variableNamed_0 _ _ _).trans ?_)
      rw [e0, kC1_v, if_pos rfl, e1, kC1_v, if_pos rfl, e2, kC1_v, if_pos rfl, e3, kC1_v, if_pos rfl, e4, kC1_v, if_pos rfl, e5, kC1_v, if_pos rfl, e6, kC1_v, if_neg (by decide)]
    · obtain ⟨t1, k1, k2, k3⟩ := R_word hB hN d b hs T
      rw [ess] at k2 k3
      refine ⟨t1, k1, k2, (vR rfl).trans ((B_R_factHere_0 _ _ _).trans ?_)⟩
      rw [k3, kC1_v, R_of (d + 1) _ HW_28 (by decide), kC1_v, if_pos (by rw [word_eq hB hN hs HW_28 (by decide) (by decide)]; exact h0), R_of (d + 1) _ HW_29 (by decide), kC1_v, if_pos (by rw [word_eq hB hN hs HW_29 (by decide) (by decide)]; exact h1), R_of (d + 1) _ HW_30 (by decide), kC1_v, if_pos (by rw [word_eq hB hN hs HW_30 (by decide) (by decide)]; exact h2), R_of (d + 1) _ HW_31 (by decide), kC1_v, if_pos (by rw [word_eq hB hN hs HW_31 (by decide) (by decide)]; exact h3), R_of (d + 1) _ HW_22 (by decide), kC1_v, if_pos (by rw [word_eq hB hN hs HW_22 (by decide) (by decide)]; exact h4), R_of (d + 1) _ HW_23 (by decide), kC1_v, if_pos (by rw [word_eq hB hN hs HW_23 (by decide) (by decide)]; exact h5), R_of (d + 1) _ HW_32 (by decide), kC1_v, if_neg (by rw [word_eq hB hN hs HW_32 (by decide) (by decide)]; exact fun h => h h6)]
  by_cases h7 : wq B st (we B N st - st) w_day 3
  · refine ⟨7, Or.inr ⟨7, by decide, rfl⟩, fun hn => absurd (nw _ _ (by decide) h7) hn, fun d b L s D T hst => ?_, fun d b τ T => ?_⟩
    · skip
      obtain ⟨x0, y0, z0, e0⟩ := T_is hB hN d (b := b) D T hst he hse HW_7
      rw [z0 h0] at e0
      obtain ⟨x1, y1, z1, e1⟩ := T_is hB hN d (b := b) D T hst he hse HW_8
      rw [z1 h1] at e1
      obtain ⟨x2, y2, z2, e2⟩ := T_is hB hN d (b := b) D T hst he hse HW_9
      rw [z2 h2] at e2
      obtain ⟨x3, y3, z3, e3⟩ := T_is hB hN d (b := b) D T hst he hse HW_10
      rw [z3 h3] at e3
      obtain ⟨x4, y4, z4, e4⟩ := T_is hB hN d (b := b) D T hst he hse HW_11
      rw [z4 h4] at e4
      obtain ⟨x5, y5, z5, e5⟩ := T_is hB hN d (b := b) D T hst he hse HW_12
      rw [z5 h5] at e5
      obtain ⟨x6, y6, z6, e6⟩ := T_is hB hN d (b := b) D T hst he hse HW_13
      rw [z6 h6] at e6
      obtain ⟨x7, y7, z7, e7⟩ := T_is hB hN d (b := b) D T hst he hse HW_14
      rw [y7 h7] at e7
      refine cR.trans ((B_Lw_variableNamed_0 _ _ _).trans ?_)
      rw [e0, kC1_v, if_pos rfl, e1, kC1_v, if_pos rfl, e2, kC1_v, if_pos rfl, e3, kC1_v, if_pos rfl, e4, kC1_v, if_pos rfl, e5, kC1_v, if_pos rfl, e6, kC1_v, if_pos rfl, e7, kC1_v, if_neg (by decide)]
    · obtain ⟨t1, k1, k2, k3⟩ := R_word hB hN d b hs T
      rw [ess] at k2 k3
      refine ⟨t1, k1, k2, (vR rfl).trans ((B_R_factHere_0 _ _ _).trans ?_)⟩
      rw [k3, kC1_v, R_of (d + 1) _ HW_28 (by decide), kC1_v, if_pos (by rw [word_eq hB hN hs HW_28 (by decide) (by decide)]; exact h0), R_of (d + 1) _ HW_29 (by decide), kC1_v, if_pos (by rw [word_eq hB hN hs HW_29 (by decide) (by decide)]; exact h1), R_of (d + 1) _ HW_30 (by decide), kC1_v, if_pos (by rw [word_eq hB hN hs HW_30 (by decide) (by decide)]; exact h2), R_of (d + 1) _ HW_31 (by decide), kC1_v, if_pos (by rw [word_eq hB hN hs HW_31 (by decide) (by decide)]; exact h3), R_of (d + 1) _ HW_22 (by decide), kC1_v, if_pos (by rw [word_eq hB hN hs HW_22 (by decide) (by decide)]; exact h4), R_of (d + 1) _ HW_23 (by decide), kC1_v, if_pos (by rw [word_eq hB hN hs HW_23 (by decide) (by decide)]; exact h5), R_of (d + 1) _ HW_32 (by decide), kC1_v, if_pos (by rw [word_eq hB hN hs HW_32 (by decide) (by decide)]; exact h6), R_of (d + 1) _ HW_33 (by decide), kC1_v, if_neg (by rw [word_eq hB hN hs HW_33 (by decide) (by decide)]; exact fun h => h h7)]
  refine ⟨(-1), Or.inl rfl, fun _ => rfl, fun d b L s D T hst => ?_, fun d b τ T => ?_⟩
  · skip
    obtain ⟨x0, y0, z0, e0⟩ := T_is hB hN d (b := b) D T hst he hse HW_7
    rw [z0 h0] at e0
    obtain ⟨x1, y1, z1, e1⟩ := T_is hB hN d (b := b) D T hst he hse HW_8
    rw [z1 h1] at e1
    obtain ⟨x2, y2, z2, e2⟩ := T_is hB hN d (b := b) D T hst he hse HW_9
    rw [z2 h2] at e2
    obtain ⟨x3, y3, z3, e3⟩ := T_is hB hN d (b := b) D T hst he hse HW_10
    rw [z3 h3] at e3
    obtain ⟨x4, y4, z4, e4⟩ := T_is hB hN d (b := b) D T hst he hse HW_11
    rw [z4 h4] at e4
    obtain ⟨x5, y5, z5, e5⟩ := T_is hB hN d (b := b) D T hst he hse HW_12
    rw [z5 h5] at e5
    obtain ⟨x6, y6, z6, e6⟩ := T_is hB hN d (b := b) D T hst he hse HW_13
    rw [z6 h6] at e6
    obtain ⟨x7, y7, z7, e7⟩ := T_is hB hN d (b := b) D T hst he hse HW_14
    rw [z7 h7] at e7
    refine cR.trans ((B_Lw_variableNamed_0 _ _ _).trans ?_)
    rw [e0, kC1_v, if_pos rfl, e1, kC1_v, if_pos rfl, e2, kC1_v, if_pos rfl, e3, kC1_v, if_pos rfl, e4, kC1_v, if_pos rfl, e5, kC1_v, if_pos rfl, e6, kC1_v, if_pos rfl, e7, kC1_v, if_pos rfl]
  · obtain ⟨t1, k1, k2, k3⟩ := R_word hB hN d b hs T
    rw [ess] at k2 k3
    refine ⟨t1, k1, k2, (vR rfl).trans ((B_R_factHere_0 _ _ _).trans ?_)⟩
    rw [k3, kC1_v, R_of (d + 1) _ HW_28 (by decide), kC1_v, if_pos (by rw [word_eq hB hN hs HW_28 (by decide) (by decide)]; exact h0), R_of (d + 1) _ HW_29 (by decide), kC1_v, if_pos (by rw [word_eq hB hN hs HW_29 (by decide) (by decide)]; exact h1), R_of (d + 1) _ HW_30 (by decide), kC1_v, if_pos (by rw [word_eq hB hN hs HW_30 (by decide) (by decide)]; exact h2), R_of (d + 1) _ HW_31 (by decide), kC1_v, if_pos (by rw [word_eq hB hN hs HW_31 (by decide) (by decide)]; exact h3), R_of (d + 1) _ HW_22 (by decide), kC1_v, if_pos (by rw [word_eq hB hN hs HW_22 (by decide) (by decide)]; exact h4), R_of (d + 1) _ HW_23 (by decide), kC1_v, if_pos (by rw [word_eq hB hN hs HW_23 (by decide) (by decide)]; exact h5), R_of (d + 1) _ HW_32 (by decide), kC1_v, if_pos (by rw [word_eq hB hN hs HW_32 (by decide) (by decide)]; exact h6), R_of (d + 1) _ HW_33 (by decide), kC1_v, if_pos (by rw [word_eq hB hN hs HW_33 (by decide) (by decide)]; exact h7)]
