/-! UNDO, IMAGE, RESTORE -/
theorem RA_n {s s' τ τ' : rT} {m n q : Nat} {l : List Nat} (hs : Kf [9, 10, 11, 12, 13, 21, 22, 23, 24, 25, 26, 32, 33] [0, 1, 2, 4, 5, 22, 23] s s') (ht : Kf [0, 2, 3, 4, 5, 6, 7, 8, 17, 18, 19, 20, 21, 31, 36, 37, 38, 39, 40, 41, 52, 54] [31, 32, 33, 34, 35, 36, 40, 41, 44, 45, 46, 47, 48, 49, 50, 51, 52, 54, 55, 56, 57] τ τ') (h : RA s τ m n q l) : RA s' τ' m n q l := by
  obtain ⟨h1, h2, h3, h4, h5, h6, h7, h8, h9, h10⟩ := h
  refine ⟨hs.xcn h1, ht.cn h2, ?_, ?_, ?_, ?_, hs.xlaw h7, ht.law h8, ?_, ?_⟩
  · rw [hs.1 46 (by decide), ht.1 24 (by decide)]; exact h3
  · rw [hs.1 47 (by decide), ht.1 25 (by decide)]; exact h4
  · rw [hs.2 14 (by decide), ht.2 39 (by decide)]; exact h5
  · rw [hs.2 12 (by decide), hs.2 13 (by decide), ht.2 37 (by decide), ht.2 38 (by decide)]; exact h6
  · rw [hs.1 62 (by decide), ht.1 48 (by decide)]; exact h9
  · rw [hs.1 61 (by decide), hs.2 31 (by decide), ht.2 53 (by decide)]; exact h10
/-- all holds again when studio, law and book stay -/
theorem Gd_n {S S1 : pS} {L : xA} {s s' τ τ' : rT} {m n q : Nat} {l : List Nat} {z : Option Nat} {im : Nat → Option Nat} (I : Iv S L s τ m n q l) (G : Go S S1 (sL L z im) s') (hs : Kf [9, 10, 11, 12, 13, 21, 22, 23, 24, 25, 26, 32, 33] [0, 1, 2, 4, 5, 22, 23] s s') (ht : Kf [0, 2, 3, 4, 5, 6, 7, 8, 17, 18, 19, 20, 21, 31, 36, 37, 38, 39, 40, 41, 52, 54] [31, 32, 33, 34, 35, 36, 40, 41, 44, 45, 46, 47, 48, 49, 50, 51, 52, 54, 55, 56, 57] τ τ') (hd : RD s' τ') (hf : ∃ f, S1.2.2 58 = some (cL 1 f)) (rb : RB s' τ') (sc : s'.2 0 = τ'.2 48 ∧ scI 800 m n (s'.2 0)) (rc : RC S1 (sL L z im) s' τ' m n) : Gd S (mS S1 τ') ∧ (∀ j, (mS S1 τ').1 ≤ j → S1.2.2 j = S.2.2 j) := by
  obtain ⟨g1, g2, g3, g4, g5, g6⟩ := G
  obtain ⟨D, A, -, -, -, ra, -, -, -⟩ := I
  obtain ⟨a0, a1, a2, a3, a4, a5⟩ := A
  obtain ⟨f, hf⟩ := hf
  refine ⟨⟨⟨sL L z im, s', τ', m, n, q, l, ⟨sL_D D, ?_, xS_in g1 (fun j o => ?_), (mS_mS S1 τ' τ').symm, ⟨f, ?_⟩, RA_n hs ht ra, rb, sc, ?_⟩, hd⟩, g4, ?_, ?_, fun j hj => ?_⟩, fun j hj => g3 j hj⟩
  · have h : S.1 ≤ (mS S1 τ').1 := g4
    exact ⟨by omega, Nat.le_trans a1 h, Nat.le_trans a2 h, Nat.le_trans a3 h, Nat.le_trans a4 h, Nat.le_trans a5 h⟩
  · by_cases h : j < 30 ∨ 58 ≤ j
    · exact mS_out h
    · exact absurd (Ot_ref (sL_D D) (by omega) (by omega)) o
  · rw [mS_out (by omega)]; exact hf
  · exact RC_q (S := S1) (S' := mS S1 τ') (Kf.rf _ _ _) (Kf.rf _ _ _) (Nat.le_refl _) (fun j h1 _ _ => mS_out (by omega)) rc
  · show S1.1 ≤ _; omega
  · show S1.2.1 ≤ _; omega
  · have : S1.1 ≤ j := hj
    rw [mS_out (by omega)]; exact g3 j hj
theorem Pd_n {MY MR : Nat} {as : List Value} {S S1 : pS} {L : xA} {s s' τ τ' : rT} {m n q : Nat} {l : List Nat} {z : Option Nat} {im : Nat → Option Nat} {v : Int32} (I : Iv S L s τ m n q l) (hX : vcall 200 MY (.ref 0 :: as) S = some (.inl (some (.int v)), S1)) (G : Go S S1 (sL L z im) s') (hs : Kf [9, 10, 11, 12, 13, 21, 22, 23, 24, 25, 26, 32, 33] [0, 1, 2, 4, 5, 22, 23] s s') (ht : Kf [0, 2, 3, 4, 5, 6, 7, 8, 17, 18, 19, 20, 21, 31, 36, 37, 38, 39, 40, 41, 52, 54] [31, 32, 33, 34, 35, 36, 40, 41, 44, 45, 46, 47, 48, 49, 50, 51, 52, 54, 55, 56, 57] τ τ') (hd : RD s' τ') (rb : RB s' τ') (sc : s'.2 0 = τ'.2 48 ∧ scI 800 m n (s'.2 0)) (rc : RC S1 (sL L z im) s' τ' m n) (hR : ∀ b, vcall 200 MR (.ref 30 :: as) (mS b τ) = some (.inl (some (.int v)), mS b τ')) : Pd MY MR as S := by
  have I' := I
  obtain ⟨D, A, hx, hm, ⟨f, hf⟩, -⟩ := I'
  have hq : 59 ≤ S.1 := A.1
  have hm1 : S1 = mS S1 τ := mS_in hm (fun j h1 h2 => G.2.1 j (by omega) (Ot_ref (sL_D D) h1 (by omega)))
  have k3 := hR S1
  rw [← hm1] at k3
  obtain ⟨g1, g2⟩ := Gd_n I G hs ht hd ⟨f, (G.2.1 58 (by omega) (Ot_58 (sL_D D))).trans hf⟩ rb sc rc
  exact ⟨v, S1, _, hX, k3, g1, g2⟩
theorem RB_k {s s' τ τ' : rT} {F A F' A' : List Nat} (hs : Kf F A s s') (ht : Kf F' A' τ τ') (h : RB s τ) (h11 : s'.1 11 = τ'.1 38) (e1 : 21 ∉ F := by decide) (e2 : 22 ∉ F := by decide) (e3 : 2 ∉ A := by decide) (e4 : 2 ∉ F' := by decide) (e5 : 8 ∉ F' := by decide) (e6 : 32 ∉ A' := by decide) : RB s' τ' := by
  obtain ⟨h1, h2, h3, h4⟩ := h
  refine ⟨?_, ?_, ?_, h11⟩
  · rw [hs.1 21 e1, ht.1 2 e4]; exact h1
  · rw [hs.2 2 e3, ht.2 32 e6]; exact h2
  · rw [hs.1 22 e2, ht.1 8 e5]; exact h3
theorem Ch_nil {S : pS} {L : xA} {z : Option Nat} (h : Ch S L z []) : z = none := h
theorem gD_0 (v : Nat → Int32) (ws : List (Nat → Int32)) (x : Nat → Int32) : (v :: ws).getD 0 x = v := rfl
theorem gD_s (v : Nat → Int32) (ws : List (Nat → Int32)) (x : Nat → Int32) (k : Nat) : (v :: ws).getD (k + 1) x = ws.getD k x := rfl
theorem P_undo {S : pS} {L : xA} {s τ : rT} {m n q : Nat} {l : List Nat} (I : Iv S L s τ m n q l) (hd : RD s τ) : Pd m_Y_undo m_R_undo [] S := by
  have I' := I; obtain ⟨D, A, hx, hr, ho, ⟨C, Cr, ⟨q1, q2, q3⟩, hy, hdy, hdk, xl, rl, hb1, hb2⟩, ⟨⟨tk, k1, k2, k3⟩, tb, tf, tr⟩, ⟨e48, hsc⟩, rc⟩ := I'; have C' := C; have Cr' := Cr; obtain ⟨hm, h8, hn, h6⟩ := C'; obtain ⟨hm', -, hn', -⟩ := Cr'
  obtain ⟨⟨ws, w1, w2, w3, w4, w5, w6⟩, g, im1, im2, im3, im4⟩ := rc
  cases ws with
  | nil =>
    have hz := Ch_nil w4
    refine P_dq I hd ⟨s, Kf.rf _ _ s, ?_⟩ (fun b => ⟨wF τ 0 0, (Kf.rf _ _ τ).wF (by decide) _, R_undo0 199 b τ w2⟩)
    refine (vY D rfl).trans ((B_Y_undo_0 _ _ _).trans ?_)
    rw [x0_gZ D, hz]; rfl
  | cons v ws =>
    obtain ⟨a, c, z', e1, e2, e3, o1, o2, bd, ch⟩ := w4
    have len : (v :: ws).length = ws.length + 1 := rfl
    rw [len] at w1 w2 w3
    have hv : ∀ i, i < 76 → τ.2 50 (76 * ws.length + i) = v i := fun i hi => by
      rw [w6 ws.length (by rw [len]; omega) i hi, len, show ws.length + 1 - 1 - ws.length = 0 by omega, gD_0]
    have hX : vcall 200 m_Y_undo [.ref 0] (xS S L s) = some (.inl (some (.int (Int32.ofNat ws.length))), xS S (sL L z' (aI L)) (wF (wF (wR s 0 v) 9 (Int32.ofNat ws.length)) 11 0)) := by
      refine (vY D rfl).trans ((B_Y_undo_0 _ _ _).trans ?_)
      have gb := c_Y_goBack 197 (b := S) (s := s) D o1 o2 e2 e3
      have gb' : vcall 199 m_Y_goBack [.ref 0, .ref a] (xS S L s) = _ := gb
      rw [x0_gZ D, e1]
      show kC0 (vcall 199 m_Y_goBack [.ref 0, .ref a] (xS S L s)) _ _ = _
      rw [gb', kC0_v, (x0_gF (sL_D D)).2.2.2.2.2.2.2.2.1, obs]
      rfl
    rw [← hx] at hX
    have G := Go.q (S := S) (L := sL L z' (aI L)) (s := s) A (wF (wF (wR s 0 v) 9 (Int32.ofNat ws.length)) 11 0)
    have hs : Kf [9, 11] [0] s (wF (wF (wR s 0 v) 9 (Int32.ofNat ws.length)) 11 0) := (((Kf.rf _ _ s).wR (by decide) _).wF (by decide) _).wF (by decide) _
    have ht : Kf [0, 37, 38] [48] τ (wF (wR (wF (wF τ 0 0) 37 (Int32.ofNat ws.length)) 48 v) 38 0) := ((((Kf.rf _ _ τ).wF (by decide) _).wF (by decide) _).wR (by decide) _).wF (by decide) _
    have cm : ∀ l z, Ch S L z l → Ch (xS S (sL L z' (aI L)) (wF (wF (wR s 0 v) 9 (Int32.ofNat ws.length)) 11 0)) (sL L z' (aI L)) z l := Ch_mono rfl (fun _ _ h => h) (Nat.le_refl _) (fun j _ _ o => xS_o (L := sL L z' (aI L)) o)
    refine Pd_n I hX G (hs.up (by decide) (by decide)) (ht.up (by decide) (by decide)) hd (RB_k hs ht ⟨⟨tk, k1, k2, k3⟩, tb, tf, tr⟩ rfl) ⟨rfl, w5 v (by simp)⟩ ⟨⟨ws, rfl, rfl, by omega, cm _ _ ch, fun u hu => w5 u (by simp [hu]), fun k hk i hi => ?_⟩, g, im1, im2, im3, fun j hj => ?_⟩ (fun b => R_undo 199 b τ (by omega) w2 hv)
    · refine (w6 k (by rw [len]; omega) i hi).trans ?_
      rw [len, show ws.length + 1 - 1 - k = (ws.length - 1 - k) + 1 by omega, gD_s]
    · obtain ⟨v', ws', c1, c2, c3, c4, c5, c6⟩ := im4 j hj
      exact ⟨v', ws', cm _ _ c1, c2, c3, c4, c5, c6⟩
theorem P_image {S : pS} {L : xA} {s τ : rT} {m n q : Nat} {l : List Nat} (I : Iv S L s τ m n q l) (hd : RD s τ) : Pd m_Y_image m_R_image [] S := by
  have I' := I; obtain ⟨D, A, hx, hr, ho, ⟨C, Cr, ⟨q1, q2, q3⟩, hy, hdy, hdk, xl, rl, hb1, hb2⟩, ⟨⟨tk, k1, k2, k3⟩, tb, tf, tr⟩, ⟨e48, hsc⟩, rc⟩ := I'; have C' := C; have Cr' := Cr; obtain ⟨hm, h8, hn, h6⟩ := C'; obtain ⟨hm', -, hn', -⟩ := Cr'
  obtain ⟨⟨ws, w1, w2, w3, w4, w5, w6⟩, g, im1, im2, im3, im4⟩ := rc
  by_cases hg : g = 3
  · subst hg
    refine P_dq I hd ⟨s, Kf.rf _ _ s, ?_⟩ (fun b => ⟨wF τ 0 0, (Kf.rf _ _ τ).wF (by decide) _, R_image3 199 b τ im3⟩)
    refine (vY D rfl).trans ((B_Y_image_0 _ _ _).trans ?_)
    rw [(x0_gF D).2.2.2.2.2.2.2.2.2.1, im2, obs, if_neg (by decide)]
  · have hg3 : g < 3 := by omega
    have a0 := A.1
    have la : (moL L s S.1).length = 7 := rfl
    have hX : vcall 200 m_Y_image [.ref 0] (xS S L s) = some (.inl (some (.int (Int32.ofNat (g + 1)))), xS (aL S.1 (S.2.1 + 85) (moL L s S.1) S.2.2) (sL L (aZ L) (va_up (aI L) g (some (S.1 + 6)))) (wF s 10 (Int32.ofNat (g + 1)))) := by
      refine (vY D rfl).trans ((B_Y_image_0 _ _ _).trans ?_)
      have lt : Int32.ofNat g < 3 := by show Int32.ofNat g < Int32.ofNat 3; rw [ii_lt (by omega) (by omega)]; exact hg3
      have mo : vcall 199 m_Y_momentNow [.ref 0] (xS S L s) = _ := c_Y_momentNow 195 (b := S) (s := s) D A
      have pq := x6_p (b := aL S.1 (S.2.1 + 85) (moL L s S.1) S.2.2) (s := s) D hg3 (a := S.1 + 6) ((xS_o (Ot_lt A (by omega))).trans (aL_i (i := 6) rfl))
      rw [(x0_gF D).2.2.2.2.2.2.2.2.2.1, im2, obs, if_pos lt, (x0_gF D).2.2.1, obs, obs, mo, kC3_v, pq, obs, (x0_gF (sL_D D)).2.2.2.2.2.2.2.2.2.1, obs, (x0_pF (sL_D D) _).2.1, obs, (x0_gF (sL_D D)).2.2.2.2.2.2.2.2.2.1, obs, im2, ii_1]
      rfl
    rw [← hx] at hX
    have aN : ∀ j, S.1 + 7 ≤ j → (aL S.1 (S.2.1 + 85) (moL L s S.1) S.2.2).2.2 j = S.2.2 j := fun j hj => aL_o (Or.inr (by rw [la]; omega))
    have G : Go S (xS (aL S.1 (S.2.1 + 85) (moL L s S.1) S.2.2) (sL L (aZ L) (va_up (aI L) g (some (S.1 + 6)))) (wF s 10 (Int32.ofNat (g + 1)))) (sL L (aZ L) (va_up (aI L) g (some (S.1 + 6)))) (wF s 10 (Int32.ofNat (g + 1))) := by
      refine ⟨(xS_xS _ _ _ _).symm, fun j hj o => (xS_o o).trans (aL_o (Or.inl hj)), fun j hj => ?_, ?_, ?_, ?_⟩
      · have hj' : S.1 + 7 ≤ j := hj
        have oj : Ot (sL L (aZ L) (va_up (aI L) g (some (S.1 + 6)))) j := Ot_lt (L := L) A (by omega)
        exact (xS_o oj).trans (aN j hj')
      · show S.1 ≤ S.1 + 7; omega
      · show S.1 + 7 ≤ _; omega
      · show S.2.1 + 85 ≤ _; omega
    have hs : Kf [10] [] s (wF s 10 (Int32.ofNat (g + 1))) := (Kf.rf _ _ s).wF (by decide) _
    have cm : ∀ l z, Ch S L z l → Ch (xS (aL S.1 (S.2.1 + 85) (moL L s S.1) S.2.2) (sL L (aZ L) (va_up (aI L) g (some (S.1 + 6)))) (wF s 10 (Int32.ofNat (g + 1)))) (sL L (aZ L) (va_up (aI L) g (some (S.1 + 6)))) z l := Ch_mono rfl (fun _ _ h => h) (by show S.1 ≤ S.1 + 7; omega) (fun j _ hj o => (xS_o (L := sL L (aZ L) (va_up (aI L) g (some (S.1 + 6)))) o).trans (aL_o (Or.inl hj)))
    obtain ⟨f, f1, f2, f3, f4, hR⟩ := R_image τ hg3 im3
    have ht : Kf [0, 54] [57] τ (wF (wR (wF τ 0 0) 57 f) 54 (Int32.ofNat (g + 1))) := (((Kf.rf _ _ τ).wF (by decide) _).wR (by decide) _).wF (by decide) _
    refine Pd_n I hX G (hs.up (by decide) (by decide)) (ht.up (by decide) (by decide)) hd (RB_k hs ht ⟨⟨tk, k1, k2, k3⟩, tb, tf, tr⟩ tr) ⟨e48, hsc⟩ ⟨⟨ws, w1, w2, w3, cm _ _ w4, w5, w6⟩, g + 1, by omega, rfl, rfl, fun j hj => ?_⟩ (fun b => hR 197 b)
    by_cases ej : j = g
    · subst ej
      have e0 : aI (sL L (aZ L) (va_up (aI L) j (some (S.1 + 6)))) j = some (S.1 + 6) := if_pos rfl
      have hj' : ∀ i, i < 7 → (xS (aL S.1 (S.2.1 + 85) (moL L s S.1) S.2.2) (sL L (aZ L) (va_up (aI L) j (some (S.1 + 6)))) (wF s 10 (Int32.ofNat (j + 1)))).2.2 (S.1 + i) = (moL L s S.1)[i]? := fun i hi => by
        have oj : Ot (sL L (aZ L) (va_up (aI L) j (some (S.1 + 6)))) (S.1 + i) := Ot_lt (L := L) A (by omega)
        obtain ⟨x, hx⟩ : ∃ x, (moL L s S.1)[i]? = some x := ⟨_, List.getElem?_eq_getElem (by omega)⟩
        rw [hx]
        exact (xS_o oj).trans (aL_i hx)
      refine ⟨s.2 0, ws, ⟨S.1 + 6, S.1, aZ L, e0, ?_, fun i hi => ?_, Ot_lt (L := L) A (by omega), fun i hi => Ot_lt (L := L) A (by omega), ⟨by omega, ?_, by omega, ?_⟩, cm _ _ w4⟩, fun u hu => ?_, w3, fun i hi => ?_, fun k hk i hi => ?_, ?_⟩
      · rw [hj' 6 (by decide), ← w1]; rfl
      · rw [hj' i (by omega)]
        refine Eq.trans ?_ (scL_i S.1 (aU L) (s.2 0) hi)
        exact List.getElem?_append_left hi
      · show S.1 + 6 < S.1 + 7; omega
      · show S.1 + 6 ≤ S.1 + 7; omega
      · rcases List.mem_cons.mp hu with rfl | hu
        · exact hsc
        · exact w5 u hu
      · refine (f1 i hi).trans ?_; rw [e48]
      · exact (f2 (76 * k + i) (by omega)).trans (w6 k hk i hi)
      · exact f3.trans w2
    · obtain ⟨v', ws', c1, c2, c3, c4, c5, c6⟩ := im4 j (by omega)
      have e0 : aI (sL L (aZ L) (va_up (aI L) g (some (S.1 + 6)))) j = aI L j := if_neg ej
      refine ⟨v', ws', ?_, c2, c3, fun i hi => ?_, fun k hk i hi => ?_, ?_⟩
      · rw [e0]; exact cm _ _ c1
      · exact (f4 _ (by omega)).trans (c4 i hi)
      · exact (f4 _ (by omega)).trans (c5 k hk i hi)
      · exact (f4 _ (by omega)).trans c6
theorem P_restore {S : pS} {L : xA} {s τ : rT} {m n q : Nat} {l : List Nat} (I : Iv S L s τ m n q l) (hd : RD s τ) : Pd m_Y_restore m_R_restore [] S := by
  have I' := I; obtain ⟨D, A, hx, hr, ho, ⟨C, Cr, ⟨q1, q2, q3⟩, hy, hdy, hdk, xl, rl, hb1, hb2⟩, ⟨⟨tk, k1, k2, k3⟩, tb, tf, tr⟩, ⟨e48, hsc⟩, rc⟩ := I'; have C' := C; have Cr' := Cr; obtain ⟨hm, h8, hn, h6⟩ := C'; obtain ⟨hm', -, hn', -⟩ := Cr'
  obtain ⟨⟨ws, w1, w2, w3, w4, w5, w6⟩, g, im1, im2, im3, im4⟩ := rc
  cases g with
  | zero =>
    refine P_dq I hd ⟨s, Kf.rf _ _ s, ?_⟩ (fun b => ⟨wF τ 0 0, (Kf.rf _ _ τ).wF (by decide) _, R_restore0 199 b τ im3⟩)
    refine (vY D rfl).trans ((B_Y_restore_0 _ _ _).trans ?_)
    rw [(x0_gF D).2.2.2.2.2.2.2.2.2.1, im2, obs, if_pos (by decide)]
  | succ g =>
    have hg3 : g < 3 := by omega
    obtain ⟨v, ws', ⟨a, c, z', e1, e2, e3, o1, o2, bd, ch⟩, c2, c3, c4, c5, c6⟩ := im4 g (by omega)
    have hX : vcall 200 m_Y_restore [.ref 0] (xS S L s) = some (.inl (some (.int (Int32.ofNat g))), xS S (sL L z' (va_up (aI L) g none)) (wF (wF (wR (wF s 10 (Int32.ofNat g)) 0 v) 9 (Int32.ofNat ws'.length)) 11 0)) := by
      refine (vY D rfl).trans ((B_Y_restore_0 _ _ _).trans ?_)
      have le : ¬ (Int32.ofNat (g + 1) ≤ 0) := by show ¬ (Int32.ofNat (g + 1) ≤ Int32.ofNat 0); rw [ii_le (by omega) (by omega)]; omega
      have l3 : Int32.ofNat (g + 1) ≤ 3 := by show Int32.ofNat (g + 1) ≤ Int32.ofNat 3; rw [ii_le (by omega) (by omega)]; omega
      have gb : vcall 199 m_Y_goBack [.ref 0, .ref a] (xS S (sL L (aZ L) (va_up (aI L) g none)) (wF s 10 (Int32.ofNat g))) = _ := c_Y_goBack 197 (b := S) (L := sL L (aZ L) (va_up (aI L) g none)) (s := wF s 10 (Int32.ofNat g)) (sL_D D) o1 o2 e2 e3
      rw [(x0_gF D).2.2.2.2.2.2.2.2.2.1, im2, obs, if_neg le, obs, if_pos l3, obs, (x0_pF D _).2.1, obs, ii_s1, (x0_gF D).2.2.1, obs, (x0_gF D).2.2.2.2.2.2.2.2.2.1, obs]
      show (gQ _ 6 (Int32.ofNat g)).bind _ = _
      rw [x6_g D hg3, obs, e1]
      show ((some 6).bind fun v13 => _) = _
      rw [obs]
      show ((some (Int32.ofNat g)).bind fun v14 => _) = _
      rw [obs]
      show (pQ _ 6 (Int32.ofNat g) none).bind _ = _
      rw [x6_n D hg3, obs, gb, kC0_v, (x0_gF (sL_D (sL_D D))).2.2.2.2.2.2.2.2.2.1, obs]
      rfl
    rw [← hx] at hX
    have G := Go.q (S := S) (L := sL L z' (va_up (aI L) g none)) (s := s) A (wF (wF (wR (wF s 10 (Int32.ofNat g)) 0 v) 9 (Int32.ofNat ws'.length)) 11 0)
    have hs : Kf [9, 10, 11] [0] s (wF (wF (wR (wF s 10 (Int32.ofNat g)) 0 v) 9 (Int32.ofNat ws'.length)) 11 0) := ((((Kf.rf _ _ s).wF (by decide) _).wR (by decide) _).wF (by decide) _).wF (by decide) _
    have ht : Kf [0, 37, 38, 54] [48, 50] τ (wF (wF (wR (wR (wF (wF τ 0 0) 54 (Int32.ofNat g)) 48 v) 50 (fun i => if i < 1216 then τ.2 57 (1293 * g + 76 + i) else τ.2 50 i)) 37 (τ.2 57 (1293 * g + 1292))) 38 0) := ((((((Kf.rf _ _ τ).wF (by decide) _).wF (by decide) _).wR (by decide) _).wR (by decide) _).wF (by decide) _).wF (by decide) _
    have cm : ∀ l z, Ch S L z l → Ch (xS S (sL L z' (va_up (aI L) g none)) (wF (wF (wR (wF s 10 (Int32.ofNat g)) 0 v) 9 (Int32.ofNat ws'.length)) 11 0)) (sL L z' (va_up (aI L) g none)) z l := Ch_mono rfl (fun _ _ h => h) (Nat.le_refl _) (fun j _ _ o => xS_o (L := sL L z' (va_up (aI L) g none)) o)
    refine Pd_n I hX G (hs.up (by decide) (by decide)) (ht.up (by decide) (by decide)) hd (RB_k hs ht ⟨⟨tk, k1, k2, k3⟩, tb, tf, tr⟩ rfl) ⟨rfl, c2 v (by simp)⟩ ⟨⟨ws', rfl, c6, c3, cm _ _ ch, fun u hu => c2 u (by simp [hu]), fun k hk i hi => ?_⟩, g, by omega, rfl, rfl, fun j hj => ?_⟩ (fun b => R_restore 197 b τ hg3 im3 c4)
    · refine Eq.trans ?_ (c5 k hk i hi)
      exact if_pos (by omega)
    · obtain ⟨v', ws', d1, d2, d3, d4, d5, d6⟩ := im4 j (by omega)
      have e0 : aI (sL L z' (va_up (aI L) g none)) j = aI L j := if_neg (by omega)
      refine ⟨v', ws', ?_, d2, d3, d4, d5, d6⟩
      rw [e0]; exact cm _ _ d1
