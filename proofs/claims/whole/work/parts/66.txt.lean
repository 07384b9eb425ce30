/-! TEXTS: how a call with a text goes -/
/-- the same but for the reference's cells and the row for answers -/
def Ag (S1 S2 : pS) : Prop := S2.1 = S1.1 ∧ S2.2.1 = S1.2.1 ∧ ∀ j, (j < 30 ∨ 59 ≤ j) → S2.2.2 j = S1.2.2 j
theorem Pr_n {ML MY MR : Nat} {as : List Value} {S S1 : pS} {τ : rT} {v : Int32} {H : Nat → Nat → pS → pR} {f : Nat → Int64} (hm : S = mS S τ) (hf : S.2.2 58 = some (cL 1 f)) (h59 : 59 ≤ S.1) (hL : call 200 ML (.ref 0 :: (as ++ [.ref 58])) S = kC1 (vcall 199 MY (.ref 0 :: as) S) (fun v s1 => (pL s1 58 0 (Int32.toInt64 v)).bind fun s6 => some (.inl (some (.int 0)), s6)) H) (hX : vcall 199 MY (.ref 0 :: as) S = some (.inl (some (.int v)), S1)) (hC : ∀ j, 30 ≤ j → j < 59 → S1.2.2 j = S.2.2 j) (hh : ∀ j, S1.1 ≤ j → S1.2.2 j = S.2.2 j) (h1 : S.1 ≤ S1.1) (h2 : S1.1 ≤ S.1 + 90) (h3 : S1.2.1 ≤ S.2.1 + 1900) (hR : ∀ b, ∃ τ', τ'.1 0 = 0 ∧ vcall 200 MR (.ref 30 :: as) (mS b τ) = some (.inl (some (.int v)), mS b τ') ∧ ∀ S2, Ag S1 S2 → S2 = mS S2 τ' → (∃ f, S2.2.2 58 = some (cL 1 f)) → Inv S2) : Pr ML MR as S := by
  have hf1 : S1.2.2 58 = some (cL 1 f) := (hC 58 (by decide) (by decide)).trans hf
  have e58 : (pSet S1 58 (cL 1 (vp_updL f 0 v.toInt64))).2.2 58 = some (cL 1 (vp_updL f 0 v.toInt64)) := pSet_e _ _ _
  have eo : ∀ j, j ≠ 58 → (pSet S1 58 (cL 1 (vp_updL f 0 v.toInt64))).2.2 j = S1.2.2 j := fun j hj => if_neg hj
  have hm1 : pSet S1 58 (cL 1 (vp_updL f 0 v.toInt64)) = mS (pSet S1 58 (cL 1 (vp_updL f 0 v.toInt64))) τ := mS_in hm (fun j g1 g2 => (eo j (by omega)).trans (hC j g1 (by omega)))
  obtain ⟨τ', k2, k3, k4⟩ := hR (pSet S1 58 (cL 1 (vp_updL f 0 v.toInt64)))
  rw [← hm1] at k3
  refine ⟨0, _, v, _, ?_, k3, ⟨τ', (mS_mS _ τ' τ').symm, k2⟩, fun _ => ⟨vp_updL f 0 v.toInt64, ?_, ?_⟩, ⟨?_, h1, ?_, ?_, fun j hj => ?_⟩, fun j hj => ?_⟩
  · rw [hL, hX, kC1_v, pL_58 hf1, obs]
  · rw [mS_out (by omega)]; exact e58
  · unfold vp_updL; simp
  · refine k4 _ ⟨rfl, rfl, fun j hj => ?_⟩ (mS_mS _ τ' τ').symm ⟨_, (mS_out (by omega)).trans e58⟩
    rw [mS_out (by omega)]; exact eo j (by omega)
  · show S1.1 ≤ _; omega
  · show S1.2.1 ≤ _; omega
  · have h3 : S1.1 ≤ j := hj
    rw [mS_out (by omega), eo j (by omega)]; exact hh j hj
  · have h3 : S1.1 ≤ j := hj
    rw [eo j (by omega)]; exact hh j hj
/-- a heap that has the program's objects at these places -/
theorem xS_fix {S : pS} {L : xA} {s : rT} (hP : ∀ i, i < 6 → S.2.2 (aP L + i) = scC (aP L) (aU L) (s.2 0) i) (hQ : ∀ i, i < 6 → S.2.2 (aQ L + i) = scC (aQ L) (aU L) (s.2 1) i) (hW : ∀ i, i < 4 → S.2.2 (aW L + i) = lwC (aW L) s i) (hU : ∀ i, i < 5 → S.2.2 (aU L + i) = suC (aU L) s i) (hK : ∀ i, i < 2 → S.2.2 (aK L + i) = bkC (aK L) s i) (hF : ∀ i, i < 7 → S.2.2 i = fxC L s i) : S = xS S L s := by
  refine congrArg (fun z => (S.1, S.2.1, z)) (funext fun j => ?_)
  by_cases h0 : aP L ≤ j ∧ j < aP L + 6
  · rw [if_pos h0, ← hP _ (by omega), show aP L + (j - aP L) = j by omega]
  rw [if_neg h0]
  by_cases h1 : aQ L ≤ j ∧ j < aQ L + 6
  · rw [if_pos h1, ← hQ _ (by omega), show aQ L + (j - aQ L) = j by omega]
  rw [if_neg h1]
  by_cases h2 : aW L ≤ j ∧ j < aW L + 4
  · rw [if_pos h2, ← hW _ (by omega), show aW L + (j - aW L) = j by omega]
  rw [if_neg h2]
  by_cases h3 : aU L ≤ j ∧ j < aU L + 5
  · rw [if_pos h3, ← hU _ (by omega), show aU L + (j - aU L) = j by omega]
  rw [if_neg h3]
  by_cases h4 : aK L ≤ j ∧ j < aK L + 2
  · rw [if_pos h4, ← hK _ (by omega), show aK L + (j - aK L) = j by omega]
  rw [if_neg h4]
  by_cases h5 : j < 7
  · rw [if_pos h5]; exact hF j h5
  · rw [if_neg h5]
/-- the text's bytes -/
def tB (τ : rT) : Nat → Nat := fun i => if i < 600 then (τ.2 32 i).toNatClampNeg else 0
theorem tB_lt {s τ : rT} (h : ∀ i, i < 600 → s.2 2 i = τ.2 32 i ∧ ∃ j, j < 256 ∧ τ.2 32 i = Int32.ofNat j) : (∀ i, tB τ i < 256) ∧ (∀ i, i < 600 → τ.2 32 i = Int32.ofNat (tB τ i)) ∧ (∀ i, i < 600 → s.2 2 i = Int32.ofNat (tB τ i)) := by
  have h1 : ∀ i, i < 600 → τ.2 32 i = Int32.ofNat (tB τ i) := fun i hi => by
    obtain ⟨-, j, hj, e⟩ := h i hi
    unfold tB
    rw [if_pos hi, e, ii_tn (by omega)]
  refine ⟨fun i => ?_, h1, fun i hi => (h i hi).1.trans (h1 i hi)⟩
  by_cases hi : i < 600
  · obtain ⟨-, j, hj, e⟩ := h i hi
    unfold tB
    rw [if_pos hi, e, ii_tn (by omega)]; exact hj
  · unfold tB; rw [if_neg hi]; decide
/-- the program has opened a text -/
def oX (s : rT) (n : Int32) : rT := wF (wF (wF (wF (wF (wF s 24 n) 25 0) 26 0) 21 0) 22 (-1)) 23 0
def oR (τ : rT) (n : Int32) : rT := wF (wF (wF (wF (wF (wF τ 2 0) 8 (-1)) 3 n) 4 0) 5 (-1)) 7 0
theorem oX_k (s : rT) (n : Int32) : Kf [21, 22, 23, 24, 25, 26] [] s (oX s n) := ((((((Kf.rf _ _ s).wF (by decide) _).wF (by decide) _).wF (by decide) _).wF (by decide) _).wF (by decide) _).wF (by decide) _
theorem oR_k (s : rT) (n : Int32) : Kf [2, 3, 4, 5, 7, 8] [] s (oR s n) := ((((((Kf.rf _ _ s).wF (by decide) _).wF (by decide) _).wF (by decide) _).wF (by decide) _).wF (by decide) _).wF (by decide) _
theorem R_begins (d : Nat) (b : pS) (τ : rT) (n : Int32) : vcall (d + 1) m_R_begins [.ref 30, .int n] (mS b τ) = some (.inl none, mS b (oR τ n)) := by
  refine (vR rfl).trans ((B_R_begins_0 _ _ _ _).trans ?_)
  simp only [m_pF, obs]
  rfl
theorem R_res_y (d : Nat) (b : pS) {τ : rT} (h : τ.1 5 = -1) (v : Int32) : vcall (d + 2) m_R_result [.ref 30, .int v] (mS b τ) = some (.inl (some (.int v)), mS b (wF τ 8 (-1))) := by
  refine (vR rfl).trans ((B_R_result_0 _ _ _ _).trans ?_)
  have h' : (wF τ 8 (-1)).1 5 = -1 := h
  simp only [m_gF, m_pF, obs, h, R_fine1 d b h', kC1_v]
  rw [if_neg (by decide)]
theorem R_res_n (d : Nat) (b : pS) {τ : rT} {k p : Nat} (h : FR τ k p) (hp : p ≤ 600) (v : Int32) : vcall (d + 2) m_R_result [.ref 30, .int v] (mS b τ) = some (.inl (some (.int (Int32.ofNat k - 10))), mS b (wF τ 8 (Int32.ofNat p))) := by
  refine (vR rfl).trans ((B_R_result_0 _ _ _ _).trans ?_)
  have h' : (wF τ 8 (Int32.ofNat p)).1 5 ≠ -1 := FR_b h hp
  simp only [m_gF, m_pF, obs, h.2, R_fine0 d b h', kC1_v]
  rw [if_pos trivial, wF_1, if_neg (by decide), h.1]
theorem T_ans (d : Nat) {b : pS} {L : xA} {s : rT} (D : Dj L) {k p : Nat} (h : FX s k p) : vcall (d + 1) m_Tp_faultAnswer [.ref 1] (xS b L s) = some (.inl (some (.int (Int32.ofNat k - 10))), xS b L s) := by
  refine (vT D rfl).trans ((B_Tp_faultAnswer_0 _ _ _).trans ?_)
  rw [(x1_gF D).2.2.2.1, obs, h.1]
/-- a text of n bytes: none, or refused -/
theorem Y_open_y (d : Nat) {b : pS} {L : xA} {s : rT} (D : Dj L) {k c n : Nat} (hk : s.1 21 = Int32.ofNat k) (h6 : k ≤ 600) (hc : c ≤ 600) (h1 : n ≤ k) (h2 : n ≤ c) : vcall (d + 3) m_Y_openText [.ref 0, .int (Int32.ofNat n), .int (Int32.ofNat c)] (xS b L s) = some (.inl none, xS b L (oX s (Int32.ofNat n))) := by
  refine (vY D rfl).trans ((B_Y_openText_0 _ _ _ _ _).trans ?_)
  have g0 : ∀ s, gFr (xS b L s) 0 10 0 = some 1 := fun s => (x0_gF D).1
  have el : (Int32.ofNat k < Int32.ofNat c) = (k < c) := ii_lt (by omega) (by omega)
  have op : vcall (d + 2) m_Tp_open [.ref 1, .int (Int32.ofNat n)] (xS b L s) = some (.inl none, xS b L (oX s (Int32.ofNat n))) := by
    refine (vT D rfl).trans ((B_Tp_open_0 _ _ _ _).trans ?_)
    simp only [x1_pF D, obs]
    rfl
  rw [g0, obs, (x1_gF D).2.1, obs, hk]
  rw [nR_ok d D (by
    constructor
    · exact Int32.not_lt.mp (by rw [ii_nn (by omega)]; exact id)
    · simp only [el]
      by_cases g : k < c
      · rw [if_pos g, ii_le (by omega) (by omega)]; exact h1
      · rw [if_neg g, ii_le (by omega) (by omega)]; exact h2), kC0_v, g0, obs, op, kC0_v]
theorem Y_open_n (d : Nat) {b : pS} {L : xA} {s : rT} (D : Dj L) {k c : Nat} {n : Int32} (hk : s.1 21 = Int32.ofNat k) (h6 : k ≤ 600) (hc : c ≤ 600) (h : ¬ (0 ≤ n ∧ n ≤ Int32.ofNat k ∧ n ≤ Int32.ofNat c)) : vcall (d + 3) m_Y_openText [.ref 0, .int n, .int (Int32.ofNat c)] (xS b L s) = xA0 b L s := by
  refine (vY D rfl).trans ((B_Y_openText_0 _ _ _ _ _).trans ?_)
  have el : (Int32.ofNat k < Int32.ofNat c) = (k < c) := ii_lt (by omega) (by omega)
  rw [(x0_gF D).1, obs, (x1_gF D).2.1, obs, hk, nR_no d D (by
    simp only [el]
    rintro ⟨g1, g2⟩
    by_cases g : k < c
    · rw [if_pos g] at g2
      exact h ⟨g1, g2, Int32.le_trans g2 (by rw [ii_le (by omega) (by omega)]; omega)⟩
    · rw [if_neg g] at g2
      exact h ⟨g1, Int32.le_trans g2 (by rw [ii_le (by omega) (by omega)]; omega), g2⟩)]
  rfl
/-- the invariant when a text was wrong, or told nothing -/
theorem Inv_f {S S2 : pS} {L : xA} {s s' τ τ' : rT} {m n q : Nat} {l : List Nat} (I : Iv S L s τ m n q l) (hx : S2 = xS S2 L s') (hm : S2 = mS S2 τ') (ho : ∃ f, S2.2.2 58 = some (cL 1 f)) (h1 : S.1 ≤ S2.1) (hc : ∀ j, 59 ≤ j → j < S.1 → Ot L j → S2.2.2 j = S.2.2 j) (hs : Kf [12, 13, 21, 22, 23, 24, 25, 26, 32, 33] [1, 4, 5, 22, 23] s s') (ht : Kf [0, 2, 3, 4, 5, 6, 7, 8, 17, 18, 19, 20, 21, 31, 36, 39, 40, 41, 52] [31, 33, 34, 35, 36, 40, 41, 44, 45, 46, 47, 49, 51, 52, 54, 55, 56] τ τ') (h21 : s'.1 21 = 0 ∧ τ'.1 2 = 0) (h22 : s'.1 22 = τ'.1 8) (hd : RD s' τ') : Inv S2 := by
  obtain ⟨D, ⟨a0, a1, a2, a3, a4, a5⟩, -, -, -, ra, rb, ⟨e48, hsc⟩, rc⟩ := I
  refine ⟨L, s', τ', m, n, q, l, ⟨D, ⟨by omega, by omega, by omega, by omega, by omega, by omega⟩, hx, hm, ho, RA_n (hs.up (by decide) (by decide)) (ht.up (by decide) (by decide)) ra, ⟨⟨0, by decide, h21.1, h21.2⟩, ?_, h22, ?_⟩, ⟨?_, ?_⟩, ?_⟩, hd⟩
  · rw [hs.2 2 (by decide), ht.2 32 (by decide)]; exact rb.2.1
  · rw [hs.1 11 (by decide), ht.1 38 (by decide)]; exact rb.2.2.2
  · rw [hs.2 0 (by decide), ht.2 48 (by decide)]; exact e48
  · rw [hs.2 0 (by decide)]; exact hsc
  · obtain ⟨⟨ws, w1, w2, w3, w4, w5, w6⟩, g, b1, b2, b3, b4⟩ := rc
    have cm : ∀ l z, Ch S L z l → Ch S2 L z l := Ch_mono rfl (fun _ _ h => h) h1 hc
    refine ⟨⟨ws, ?_, ?_, w3, cm _ _ w4, w5, ?_⟩, g, b1, ?_, ?_, fun j hj => ?_⟩
    · rw [hs.1 9 (by decide)]; exact w1
    · rw [ht.1 37 (by decide)]; exact w2
    · rw [ht.2 50 (by decide)]; exact w6
    · rw [hs.1 10 (by decide)]; exact b2
    · rw [ht.1 54 (by decide)]; exact b3
    · obtain ⟨v', ws', c1, c2, c3, c4, c5, c6⟩ := b4 j hj
      refine ⟨v', ws', cm _ _ c1, c2, c3, ?_, ?_, ?_⟩ <;> rw [ht.2 57 (by decide)] <;> assumption
