/-! THE BOOK: all of the call -/
def sK (L : xA) (k : Nat) : xA := (L.1, L.2.1, k, L.2.2.2.1, L.2.2.2.2.1, L.2.2.2.2.2.1, L.2.2.2.2.2.2)
/-- what a new book changes -/
def nB (s : rT) (x y : Int32) (am : Nat → Int32) : rT := wR (wF (wF s 61 x) 62 y) 31 am
theorem x0_f5 {b : pS} {L : xA} {s : rT} (D : Dj L) (k : Nat) : pF (xS b L s) 0 10 5 (.ref k) = some (pSet (xS b L s) 0 (cO 10 [.ref 1, .ref 3, .ref 6, .ref (aU L), .ref (aW L), .ref k, .ref (aP L), .ref (aQ L), va_rf (aZ L), .int (s.1 9), .int (s.1 10), .int (s.1 11), .int (s.1 12), .int (s.1 13)])) := by
  rw [pF_at (x0_0 D) (by show 5 < 14; decide)]
  rfl
theorem bk_fix {M mm : Nat} {H : pH} {L : xA} {s : rT} {x y : Int32} {am : Nat → Int32} (D : Dj L) (o : ∀ j, M ≤ j → Ot L j) (h7 : 7 ≤ M) : pSet (bQ M mm H L s x y am) 0 (cO 10 [.ref 1, .ref 3, .ref 6, .ref (aU L), .ref (aW L), .ref M, .ref (aP L), .ref (aQ L), va_rf (aZ L), .int (s.1 9), .int (s.1 10), .int (s.1 11), .int (s.1 12), .int (s.1 13)]) = xS (pSet (bQ M mm H L s x y am) 0 (cO 10 [.ref 1, .ref 3, .ref 6, .ref (aU L), .ref (aW L), .ref M, .ref (aP L), .ref (aQ L), va_rf (aZ L), .int (s.1 9), .int (s.1 10), .int (s.1 11), .int (s.1 12), .int (s.1 13)])) (sK L M) (nB s x y am) := by
  have D' := D
  obtain ⟨⟨d1, d2, d3, d4, d5⟩, -⟩ := D'
  have ne : ∀ (c : pC) (j : Nat), j ≠ 0 → (pSet (bQ M mm H L s x y am) 0 c).2.2 j = (bQ M mm H L s x y am).2.2 j := fun c j hj => if_neg hj
  refine xS_fix (fun i hi => ?_) (fun i hi => ?_) (fun i hi => ?_) (fun i hi => ?_) (fun i hi => ?_) (fun i hi => ?_)
  · exact (ne _ _ (by show aP L + i ≠ 0; omega)).trans (sn_at (SN_p D) hi)
  · exact (ne _ _ (by show aQ L + i ≠ 0; omega)).trans (sn_at (SN_q D) hi)
  · refine (ne _ _ (by show aW L + i ≠ 0; omega)).trans ((yS_w D hi).trans ?_)
    have : i = 0 ∨ i = 1 ∨ i = 2 ∨ i = 3 := by omega
    rcases this with rfl | rfl | rfl | rfl <;> rfl
  · refine (ne _ _ (by show aU L + i ≠ 0; omega)).trans ((yS_u D hi).trans ?_)
    have : i = 0 ∨ i = 1 ∨ i = 2 ∨ i = 3 ∨ i = 4 := by omega
    rcases this with rfl | rfl | rfl | rfl | rfl <;> rfl
  · refine (ne _ _ (by show M + i ≠ 0; omega)).trans ?_
    have : i = 0 ∨ i = 1 := by omega
    rcases this with rfl | rfl
    · exact bQ_0 o
    · exact bQ_1 o
  · by_cases h0 : i = 0
    · subst h0; exact (pSet_e _ _ _).trans rfl
    · refine (ne _ _ h0).trans ((yS_f D hi).trans ?_)
      have : i = 1 ∨ i = 2 ∨ i = 3 ∨ i = 4 ∨ i = 5 ∨ i = 6 := by omega
      rcases this with rfl | rfl | rfl | rfl | rfl | rfl <;> rfl
theorem sK_D {S : pS} {L : xA} (D : Dj L) (A : AB S L) : Dj (sK L S.1) := by
  obtain ⟨⟨d1, d2, d3, d4, d5⟩, e1, e2, e3, e4, e5, e6, e7, e8, e9⟩ := D
  obtain ⟨a0, a1, a2, a3, a4, a5⟩ := A
  refine ⟨⟨d1, d2, d3, d4, by show 7 ≤ S.1; omega⟩, e1, e2, e3, ⟨Or.inr a1, Or.inr a2, Or.inr a3, Or.inr a4⟩, e5, e6, e7, e8, Or.inr (by show 30 + 29 ≤ S.1; omega)⟩
theorem sK_O {S : pS} {L : xA} {j : Nat} (h : j < S.1) (o : Ot L j) : Ot (sK L S.1) j := by
  obtain ⟨o1, o2, o3, o4, o5, o6⟩ := o
  exact ⟨o1, o2, o3, o4, o5, by show ¬ (S.1 ≤ j ∧ j < S.1 + 2); omega⟩
theorem P_book {S : pS} {L : xA} {s τ : rT} {m n q : Nat} {l : List Nat} (I : Iv S L s τ m n q l) (hd : RD s τ) (x : Int32) : Pr m_L_book m_R_book [.int x] S := by
  have I' := I; obtain ⟨D, A, hx, hr, ho, ⟨C, Cr, ⟨q1, q2, q3⟩, hy, hdy, hdk, xl, rl, hb1, hb2⟩, ⟨⟨tk, k1, k2, k3⟩, tb, tf, tr⟩, ⟨e48, hsc⟩, rc⟩ := I'; have C' := C; have Cr' := Cr; obtain ⟨hm, h8, hn, h6⟩ := C'; obtain ⟨hm', -, hn', -⟩ := Cr'
  have hL := (cR (d := 199) (M := m_L_book) (as := [.ref 0, .int x, .ref 58]) (s := S)).trans (B_L_book_0 _ _ _ _ _)
  by_cases hr0 : 0 ≤ x ∧ x ≤ Int32.ofNat tk ∧ x ≤ Int32.ofNat 100
  · have xl6 : x < Int32.ofNat 601 := Int32.lt_of_le_of_lt hr0.2.1 (by rw [ii_lt (by omega) (by omega)]; omega)
    obtain ⟨N, hN6, rfl⟩ := ii_ex (by decide) hr0.1 xl6
    have n1 : N ≤ tk := by have := hr0.2.1; rwa [ii_le (by omega) (by omega)] at this
    have n2 : N ≤ 100 := by have := hr0.2.2; rwa [ii_le (by omega) (by omega)] at this
    obtain ⟨hB, tB1, tB2⟩ := tB_lt tb
    have hN : N ≤ 600 := by omega
    have o : ∀ j, S.1 ≤ j → Ot L j := fun j hj => Ot_lt A hj
    have TX0 : TX (tB τ) N 0 (oX s (Int32.ofNat N)) := ⟨rfl, rfl, tB2⟩
    have TR0 : TR (tB τ) N 0 (wR (oR (wF τ 0 0) (Int32.ofNat N)) 52 (b52 τ)) := ⟨rfl, rfl, tB1⟩
    have k0 := oX_k s (Int32.ofNat N)
    have r0 : Kf [0, 2, 3, 4, 5, 7, 8] [52] τ (wR (oR (wF τ 0 0) (Int32.ofNat N)) 52 (b52 τ)) := (((Kf.rf _ _ τ).wF (by decide) _).tr ((oR_k (wF τ 0 0) (Int32.ofNat N)).up (by decide) (by decide))).wR (by decide) _
    have op : vcall 198 m_Y_openText [.ref 0, .int (Int32.ofNat N), .int 100] (xS S L s) = some (.inl none, xS S L (oX s (Int32.ofNat N))) := Y_open_y 195 (c := 100) D k2 k1 (by decide) n1 n2
    have nw : vcall 198 m_Bk_init [.ref S.1] (pNew (xS S L (oX s (Int32.ofNat N))) (cO 0 [.null, .int 0, .int 0]) 3) = _ := c_Bk_new 197 (b := S) (L := L) (s := oX s (Int32.ofNat N)) o
    have hx0 : vcall 199 m_Y_book [.ref 0, .int (Int32.ofNat N)] (xS S L s) = _ := (vY D rfl).trans (B_Y_book_0 _ _ _ _)
    have g0 : ∀ (b : pS) (s : rT), gFr (xS b L s) 0 10 0 = some 1 := fun b s => (x0_gF D).1
    have g3 : ∀ (b : pS) (s : rT), gFr (xS b L s) 0 10 3 = some (aU L) := fun b s => (x0_gF D).2.2.2.1
    have g4 : ∀ (b : pS) (s : rT), gFi (xS b L s) (aU L) 7 4 = some (s.1 44) := fun b s => (xu_gF D).2.2.2.2.1
    have rd : ∀ s', vcall 198 m_Bk_read [.ref S.1, .ref 1, .int (Int32.ofNat m)] (bQ S.1 (S.2.1 + 11) S.2.2 L s' 0 0 (fun _ => 0)) = den 197 m_Bk_read 2 [.ref S.1, .ref 1, .int (Int32.ofNat m), .int (Int32.ofNat 0)] [] (bQ S.1 (S.2.1 + 11) S.2.2 L s' (Int32.ofNat 0) (Int32.ofNat 0) (fun _ => 0)) := fun s' => (bQ_v o rfl).trans (B_Bk_read_0 _ _ _ _ _)
    have m44 : (oX s (Int32.ofNat N)).1 44 = Int32.ofNat m := hm
    have e1 : (xS S L (oX s (Int32.ofNat N))).1 = S.1 := rfl
    rw [op, kC0_v, e1, nw, kC0_v] at hx0
    unfold bQ at hx0
    rw [g0, obs, g3, obs, g4, obs, m44] at hx0
    rw [show xS (aL S.1 (S.2.1 + 11) [cO 0 [.ref (S.1 + 1), .int 0, .int 0], cI 8 (cut 8 fun _ => 0)] S.2.2) L (oX s (Int32.ofNat N)) = bQ S.1 (S.2.1 + 11) S.2.2 L (oX s (Int32.ofNat N)) 0 0 (fun _ => 0) from rfl, rd] at hx0
    rcases BOOK hB hN 193 (M := S.1) (mm := S.2.1 + 11) (H := S.2.2) D o h8 8 0 0 0 (fun _ => 0) (b52 τ) rfl (Nat.zero_le _) (by decide) (fun t ht => Or.inl ⟨if_pos ht, rfl, by
      have : t = 0 ∨ t = 1 ∨ t = 2 ∨ t = 3 ∨ t = 4 ∨ t = 5 ∨ t = 6 ∨ t = 7 := by omega
      rcases this with rfl | rfl | rfl | rfl | rfl | rfl | rfl | rfl <;> decide⟩) with ⟨i', kb', am', bo', z1, z2, z3, z4, z5⟩ | ⟨k, p, hk, hp, z4, z5⟩
    · obtain ⟨s1, y1, y2⟩ := z4 _ TX0
      have y2' : den 197 m_Bk_read 2 [.ref S.1, .ref 1, .int (Int32.ofNat m), .int (Int32.ofNat 0)] [] (bQ S.1 (S.2.1 + 11) S.2.2 L (oX s (Int32.ofNat N)) (Int32.ofNat 0) (Int32.ofNat 0) (fun _ => 0)) = _ := y2
      have ks : Kf [21, 22, 23, 24, 25, 26] [] s s1 := k0.tr (y1.up (by decide) (by decide))
      have g0' : gFr (bQ S.1 (S.2.1 + 11) S.2.2 L s1 (Int32.ofNat kb') (Int32.ofNat i') am') 0 10 0 = some 1 := g0 _ _
      have f5 : pF (bQ S.1 (S.2.1 + 11) S.2.2 L s1 (Int32.ofNat kb') (Int32.ofNat i') am') 0 10 5 (.ref S.1) = some (pSet (bQ S.1 (S.2.1 + 11) S.2.2 L s1 (Int32.ofNat kb') (Int32.ofNat i') am') 0 (cO 10 [.ref 1, .ref 3, .ref 6, .ref (aU L), .ref (aW L), .ref S.1, .ref (aP L), .ref (aQ L), va_rf (aZ L), .int (s1.1 9), .int (s1.1 10), .int (s1.1 11), .int (s1.1 12), .int (s1.1 13)])) := x0_f5 (b := aL S.1 (S.2.1 + 11) [cO 0 [.ref (S.1 + 1), .int (Int32.ofNat kb'), .int (Int32.ofNat i')], cI 8 (cut 8 am')] S.2.2) (s := s1) D S.1
      have fx := bk_fix (M := S.1) (mm := S.2.1 + 11) (H := S.2.2) (s := s1) (x := Int32.ofNat kb') (y := Int32.ofNat i') (am := am') D o (by have := A.1; omega)
      have D2 := sK_D D A
      have g5 : gFr (xS (pSet (bQ S.1 (S.2.1 + 11) S.2.2 L s1 (Int32.ofNat kb') (Int32.ofNat i') am') 0 (cO 10 [.ref 1, .ref 3, .ref 6, .ref (aU L), .ref (aW L), .ref S.1, .ref (aP L), .ref (aQ L), va_rf (aZ L), .int (s1.1 9), .int (s1.1 10), .int (s1.1 11), .int (s1.1 12), .int (s1.1 13)])) (sK L S.1) (nB s1 (Int32.ofNat kb') (Int32.ofNat i') am')) 0 10 5 = some S.1 := (x0_gF D2).2.2.2.2.2.1
      have g62 : gFi (xS (pSet (bQ S.1 (S.2.1 + 11) S.2.2 L s1 (Int32.ofNat kb') (Int32.ofNat i') am') 0 (cO 10 [.ref 1, .ref 3, .ref 6, .ref (aU L), .ref (aW L), .ref S.1, .ref (aP L), .ref (aQ L), va_rf (aZ L), .int (s1.1 9), .int (s1.1 10), .int (s1.1 11), .int (s1.1 12), .int (s1.1 13)])) (sK L S.1) (nB s1 (Int32.ofNat kb') (Int32.ofNat i') am')) S.1 0 2 = some (Int32.ofNat i') := (xk_gF D2).2.2
      rw [← fx] at g5 g62
      rw [y2', kC1_v, if_pos (by decide), f5, obs, g5, obs, g62, obs, ← hx] at hx0
      obtain ⟨f, hf⟩ := ho
      have h59 := A.1
      have eo : ∀ (c : pC) j, j ≠ 0 → j < S.1 → Ot L j → (pSet (bQ S.1 (S.2.1 + 11) S.2.2 L s1 (Int32.ofNat kb') (Int32.ofNat i') am') 0 c).2.2 j = S.2.2 j := fun c j h0 hj oj => (if_neg h0).trans ((xS_o oj).trans (aL_o (Or.inl hj)))
      refine Pr_n hr hf h59 hL hx0 (fun j h1 h2 => eo _ j (by omega) (by omega) (Ot_ref D h1 h2)) (fun j hj => ?_) ?_ ?_ ?_ (fun b => ?_)
      · have hj : S.1 + 2 ≤ j := hj
        exact (if_neg (by omega)).trans ((xS_o (Ot_lt A (by omega))).trans (aL_o (Or.inr hj)))
      · show S.1 ≤ S.1 + 2; omega
      · show S.1 + 2 ≤ _; omega
      · show S.2.1 + 11 ≤ _; omega
      · obtain ⟨t1, l3', l4', l5', v1, v2, v3⟩ := z5 196 b _ (Int32.ofNat N) mk0 mk0 mk0 TR0 rfl hm' rfl
        have h5t : t1.1 5 = -1 := (v1.1 5 (by decide)).trans rfl
        have kt : Kf [0, 2, 3, 4, 5, 7, 8, 48] [52, 53] τ (wR (wF (wF t1 8 (-1)) 48 (Int32.ofNat i')) 53 (fun i => if i < 8 then t1.2 52 i else t1.2 53 i)) := ((((r0.up (by decide) (by decide)).tr (v1.up (by decide) (by decide))).wF (by decide) _).wF (by decide) _).wR (by decide) _
        have ks2 : Kf [21, 22, 23, 24, 25, 26, 61, 62] [31] s (nB s1 (Int32.ofNat kb') (Int32.ofNat i') am') := (((ks.up (by decide) (by decide)).wF (by decide) _).wF (by decide) _).wR (by decide) _
        refine ⟨_, ?_, (R_bk_yes 198 b τ k3 k1 n1 n2).trans (v3.trans (R_bk188 197 b h5t _ _ _ _ _)), fun S2 ag hm2 ho2 => ?_⟩
        · exact (v1.1 0 (by decide)).trans rfl
        · have s21 : S2.1 = S.1 + 2 := ag.1
          have cm : ∀ l z, Ch S L z l → Ch S2 (sK L S.1) z l := Ch_mono rfl (fun j hj oj => sK_O hj oj) (by omega) (fun j h1 h2 oj => (ag.2.2 j (Or.inr h1)).trans (eo _ j (by omega) h2 oj))
          obtain ⟨a0, a1, a2, a3, a4, a5⟩ := A
          refine ⟨sK L S.1, nB s1 (Int32.ofNat kb') (Int32.ofNat i') am', _, m, n, q, l, ⟨D2, ⟨by omega, ?_, ?_, ?_, ?_, ?_⟩, xS_in fx (fun j oj => ag.2.2 j ?_), hm2, ho2, ⟨ks2.xcn C, kt.cn Cr, ?_, ?_, ?_, ?_, ks2.xlaw xl, kt.law rl, rfl, fun t ht => ?_⟩, ⟨⟨0, by decide, ?_, ?_⟩, ?_, ?_, ?_⟩, ⟨?_, ?_⟩, ?_⟩, ?_, ?_⟩
          · show aP L + 6 ≤ S2.1; omega
          · show aQ L + 6 ≤ S2.1; omega
          · show aW L + 4 ≤ S2.1; omega
          · show aU L + 5 ≤ S2.1; omega
          · show S.1 + 2 ≤ S2.1; omega
          · by_cases h : j < 30 ∨ 59 ≤ j
            · exact h
            · exact absurd (Ot_ref D2 (by omega) (by omega)) oj
          · rw [ks2.1 46 (by decide), kt.1 24 (by decide)]; exact ⟨q1, q2, q3⟩
          · rw [ks2.1 47 (by decide), kt.1 25 (by decide)]; exact hy
          · rw [ks2.2 14 (by decide), kt.2 39 (by decide)]; exact hdy
          · rw [ks2.2 12 (by decide), ks2.2 13 (by decide), kt.2 37 (by decide), kt.2 38 (by decide)]; exact hdk
          · have e53 : (wR (wF (wF t1 8 (-1)) 48 (Int32.ofNat i')) 53 (fun i => if i < 8 then t1.2 52 i else t1.2 53 i)).2 53 t = bo' t := by
              rw [wR_2, if_pos rfl, if_pos ht, v2]
            rw [e53]
            exact z3 t ht
          · exact (y1.1 21 (by decide)).trans rfl
          · exact (v1.1 2 (by decide)).trans rfl
          · rw [ks2.2 2 (by decide), kt.2 32 (by decide)]; exact tb
          · exact (y1.1 22 (by decide)).trans rfl
          · rw [ks2.1 11 (by decide), kt.1 38 (by decide)]; exact tr
          · rw [ks2.2 0 (by decide), kt.2 48 (by decide)]; exact e48
          · rw [ks2.2 0 (by decide)]; exact hsc
          · obtain ⟨⟨ws, w1, w2, w3, w4, w5, w6⟩, g, b1, b2, b3, b4⟩ := rc
            refine ⟨⟨ws, ?_, ?_, w3, cm _ _ w4, w5, ?_⟩, g, b1, ?_, ?_, fun j hj => ?_⟩
            · rw [ks2.1 9 (by decide)]; exact w1
            · rw [kt.1 37 (by decide)]; exact w2
            · rw [kt.2 50 (by decide)]; exact w6
            · rw [ks2.1 10 (by decide)]; exact b2
            · rw [kt.1 54 (by decide)]; exact b3
            · obtain ⟨v', ws', c1, c2, c3, c4, c5, c6⟩ := b4 j hj
              refine ⟨v', ws', cm _ _ c1, c2, c3, ?_, ?_, ?_⟩ <;> rw [kt.2 57 (by decide)] <;> assumption
          · rw [ks2.1 12 (by decide), kt.2 31 (by decide)]; exact hd.1
          · rw [ks2.1 13 (by decide), kt.2 31 (by decide)]; exact hd.2
    · obtain ⟨s1, x1, y1, am1, w1, w2, w3⟩ := z4 _ TX0
      have w3' : den 197 m_Bk_read 2 [.ref S.1, .ref 1, .int (Int32.ofNat m), .int (Int32.ofNat 0)] [] (bQ S.1 (S.2.1 + 11) S.2.2 L (oX s (Int32.ofNat N)) (Int32.ofNat 0) (Int32.ofNat 0) (fun _ => 0)) = _ := w3
      have an : vcall 198 m_Tp_faultAnswer [.ref 1] (bQ S.1 (S.2.1 + 11) S.2.2 L s1 x1 y1 am1) = some (.inl (some (.int (Int32.ofNat k - 10))), bQ S.1 (S.2.1 + 11) S.2.2 L s1 x1 y1 am1) := T_ans 197 D w2
      rw [w3', kC1_v, if_neg (by decide)] at hx0
      have g0' : gFr (bQ S.1 (S.2.1 + 11) S.2.2 L s1 x1 y1 am1) 0 10 0 = some 1 := g0 _ _
      rw [g0', obs, an, kC1_v, ← hx] at hx0
      refine P_bad I hd hL hx0 (k0.tr (w1.up (by decide) (by decide))) ((w1.1 21 (by decide)).trans rfl) w2.2 (by show 2 ≤ 90; decide) (by omega) (fun b => ?_)
      obtain ⟨t1, i1, l3', l4', l5', v1, v2, v3⟩ := z5 196 b _ (Int32.ofNat N) mk0 mk0 mk0 TR0 rfl hm' rfl
      refine ⟨wF t1 8 (Int32.ofNat p), ((r0.up (by decide) (by decide)).tr (v1.up (by decide) (by decide))).wF (by decide) _, (v1.1 0 (by decide)).trans rfl, (v1.1 2 (by decide)).trans rfl, rfl, ?_⟩
      have ry := R_bk_yes 198 b τ k3 k1 n1 n2
      exact ry.trans (v3.trans (R_bk188n 197 b v2 hp _ _ _ _ _))
  · have ya : ∀ d, vcall (d + 4) m_Y_book [.ref 0, .int x] (xS S L s) = xA0 S L s := fun d => by
      refine (vY D rfl).trans ((B_Y_book_0 _ _ _ _).trans ?_)
      have := Y_open_n d (b := S) D k2 k1 (c := 100) (by decide) hr0
      have this' : vcall (d + 3) m_Y_openText [.ref 0, .int x, .int 100] (xS S L s) = xA0 S L s := this
      rw [this']
      rfl
    exact P_a (k := 1) I hd hL (fun _ _ => rfl) (by decide) (ya 195) (fun b => R_bk_no 198 b τ k3 hr0)
