/-! A STUDIO: all of the call -/
theorem R_st153y (d : Nat) (b : pS) {τ : rT} {m : Nat} (h5 : τ.1 5 = -1) (hm : τ.1 17 = Int32.ofNat m) (h8 : m ≤ 8) (l1 v : Int32) (l3 l4 : Value) : den (d + 2) m_R_studio 153 [.ref 30, .int l1, .int v, l3, l4] [] (mS b τ) = some (.inl (some (.int (τ.1 18))), mS b (stE (wF τ 8 (-1)) m)) := by
  have h5' : (wF τ 8 (-1)).1 5 = -1 := h5
  have hm' : (wF τ 8 (-1)).1 17 = Int32.ofNat m := hm
  rw [B_R_studio_153]
  simp only [m_gF, obs]
  rw [R_res_y d b h5, kC1_v]
  simp only [m_gF, obs]
  rw [if_neg (fun h => h h5'), R_sets d b _ hm' h8, kC0_v]
/-- the reference's new scene, as the program's -/
theorem stE_48 (b : pS) {r τ : rT} {m n q : Nat} (R : SR r τ m n q) : mS b (stE (wF τ 8 (-1)) m) = mS b (wR (stE (wF τ 8 (-1)) m) 48 (sc0 (r.2 11) (r.1 48))) := by
  obtain ⟨⟨-, -, r3⟩, -, -, -, ⟨f, f1, f2, f3⟩, R6, R7, -, -⟩ := R
  refine mS_eq (fun k _ => rfl) (fun a h1 h2 i hi => ?_)
  rw [wR_2]
  by_cases ea : a = 48
  · subst ea
    have hi : i < 76 := hi
    rw [if_pos rfl]
    show upd (fun x => if 8 + 0 ≤ x ∧ x < 14 then -1 else if 0 ≤ x ∧ x < m then τ.2 33 x else if 0 ≤ x ∧ x < 76 then 0 else τ.2 48 x) 74 (τ.1 21) i = _
    unfold sc0
    by_cases e : i = 74
    · subst e; rw [upd_s, if_neg (by omega), if_neg (by omega), if_pos rfl, f2, f3]
    · rw [upd_n _ _ e]
      by_cases g1 : i < 8
      · rw [if_pos g1, if_neg (by omega)]
        by_cases g2 : i < m
        · rw [if_pos (by omega)]
          obtain ⟨j, j1, j2, j3⟩ := R6 i g2
          rw [j2, j3]
        · rw [if_neg (by omega), if_pos (by omega), R7 i (by omega) g1]
      · by_cases g3 : i < 14
        · rw [if_pos (by omega), if_neg g1, if_pos g3]
        · rw [if_neg (by omega), if_neg (by omega), if_pos (by omega), if_neg g1, if_neg g3, if_neg e]
  · rw [if_neg ea]
theorem xLaw_0 {s : rT} (h1 : s.1 53 = 3) (h2 : s.2 21 = lw0.2 21) : xLaw s [] := by
  have e : lx [] = [1000, 1001, 1010] := rfl
  refine ⟨h1, by rw [e]; decide, by rw [e]; decide, fun i hi => ?_⟩
  rw [e] at hi
  have hi : i < 3 := hi
  rw [h2, e]
  have : i = 0 ∨ i = 1 ∨ i = 2 := by omega
  rcases this with rfl | rfl | rfl <;> rfl
theorem bkR_0 {t : Nat} (ht : t < 8) : bkR 0 0 (-1) t := Or.inl ⟨rfl, rfl, by
  have : t = 0 ∨ t = 1 ∨ t = 2 ∨ t = 3 ∨ t = 4 ∨ t = 5 ∨ t = 6 ∨ t = 7 := by omega
  rcases this with rfl | rfl | rfl | rfl | rfl | rfl | rfl | rfl <;> decide⟩
/-- a new studio: all holds -/
theorem Inv_u {S2 : pS} {M : Nat} {im : Nat → Option Nat} {s r t τ : rT} {m n q : Nat} (h7 : 7 ≤ M) (hM : M + 23 ≤ 30 ∨ 59 ≤ M) (h1 : 59 ≤ S2.1) (h2 : M + 23 ≤ S2.1) (hx : S2 = xS S2 (uL M im) (nU s r)) (hm : S2 = mS S2 τ) (ho : ∃ f, S2.2.2 58 = some (cL 1 f)) (R : SR r t m n q) (k22 : τ.1 22 = t.1 17) (k23 : τ.1 23 = t.1 18) (k24 : τ.1 24 = t.1 19) (k25 : τ.1 25 = t.1 20) (k37 : ∀ i, i < 6 → τ.2 37 i = t.2 34 i) (k38 : ∀ i, i < 6 → τ.2 38 i = t.2 35 i) (k39 : ∀ i, i < 8 → τ.2 39 i = t.2 36 i) (k32 : τ.1 32 = 0) (k48 : τ.1 48 = 0) (kw : τ.1 37 = 0) (k54 : τ.1 54 = 0) (kr : τ.1 38 = 0) (k53 : ∀ i, i < 8 → τ.2 53 i = -1) (s48 : τ.2 48 = sc0 (r.2 11) (r.1 48)) (h21 : s.1 21 = 0 ∧ τ.1 2 = 0) (htb : ∀ i, i < 600 → s.2 2 i = τ.2 32 i ∧ ∃ j, j < 256 ∧ τ.2 32 i = Int32.ofNat j) (h22 : s.1 22 = τ.1 8) (hd : s.1 12 = τ.2 31 0 ∧ s.1 13 = τ.2 31 1) : Inv S2 := by
  obtain ⟨⟨r1, r2, r3⟩, ⟨p1, p2, p3⟩, ⟨u1, u2, u3⟩, ⟨y, y1, y2, y3, y4⟩, ⟨f, f1, f2, f3⟩, R6, R7, R8, R9⟩ := R
  have hl : ∀ t, t < 8 → ∃ j, j ≤ 9 ∧ r.2 11 t = Int32.ofNat j := fun t ht => by
    by_cases g : t < m
    · obtain ⟨j, j1, j2, -⟩ := R6 t g; exact ⟨j, j1, j2⟩
    · exact ⟨0, by decide, R7 t (by omega) ht⟩
  refine ⟨uL M im, nU s r, τ, m, n, q, [], ⟨uL_D h7 hM, ⟨h1, ?_, ?_, ?_, ?_, ?_⟩, hx, hm, ho, ⟨⟨r1, r3, p1, p3⟩, ⟨k22.trans r2, r3, k23.trans p2, p3⟩, ⟨u1, k24.trans u2, u3⟩, ⟨y, y1, y2, y3, k25.trans y4⟩, fun i hi => ?_, fun p hp => ?_, xLaw_0 rfl rfl, ⟨k32, by decide, fun h => absurd rfl h, fun i hi => by have hi : i < 0 := hi; omega⟩, k48.symm, fun t ht => ?_⟩, ⟨⟨0, by decide, h21.1, h21.2⟩, htb, h22, kr.symm⟩, ⟨s48.symm, sc0_I p3 hl ⟨f, f1, f2⟩⟩, ⟨[], rfl, kw, by decide, rfl, fun u hu => by simp at hu, fun k hk => by have hk : k < 0 := hk; omega⟩, 0, by decide, rfl, k54, fun j hj => by omega⟩, hd⟩
  · show M + 11 + 6 ≤ _; omega
  · show M + 17 + 6 ≤ _; omega
  · show M + 5 + 4 ≤ _; omega
  · show M + 5 ≤ _; omega
  · show M + 9 + 2 ≤ _; omega
  · rw [k39 i (by omega)]; exact R9 i hi
  · rw [k37 p (by omega), k38 p (by omega)]; exact R8 p hp
  · rw [k53 t ht]; exact bkR_0 ht
theorem P_studio {S : pS} {L : xA} {s τ : rT} {m n q : Nat} {l : List Nat} (I : Iv S L s τ m n q l) (hd : RD s τ) (x : Int32) : Pr m_L_studio m_R_studio [.int x] S := by
  have I' := I; obtain ⟨D, A, hx, hr, ho, ⟨C, Cr, ⟨q1, q2, q3⟩, hy, hdy, hdk, xl, rl, hb1, hb2⟩, ⟨⟨tk, k1, k2, k3⟩, tb, tf, tr⟩, ⟨e48, hsc⟩, rc⟩ := I'; have C' := C; have Cr' := Cr; obtain ⟨hm, h8, hn, h6⟩ := C'; obtain ⟨hm', -, hn', -⟩ := Cr'
  have hL := (cR (d := 199) (M := m_L_studio) (as := [.ref 0, .int x, .ref 58]) (s := S)).trans (B_L_studio_0 _ _ _ _ _)
  by_cases hr0 : 0 ≤ x ∧ x ≤ Int32.ofNat tk ∧ x ≤ Int32.ofNat 600
  · have xl6 : x < Int32.ofNat 601 := Int32.lt_of_le_of_lt hr0.2.1 (by rw [ii_lt (by omega) (by omega)]; omega)
    obtain ⟨N, hN6, rfl⟩ := ii_ex (by decide) hr0.1 xl6
    have n1 : N ≤ tk := by have := hr0.2.1; rwa [ii_le (by omega) (by omega)] at this
    obtain ⟨hB, tB1, tB2⟩ := tB_lt tb
    have hN : N ≤ 600 := by omega
    have o : ∀ j, S.1 ≤ j → Ot L j := fun j hj => Ot_lt A hj
    have TX0 : TX (tB τ) N 0 (oX s (Int32.ofNat N)) := ⟨rfl, rfl, tB2⟩
    have TR0 : TR (tB τ) N 0 (cR0 (oR (wF τ 0 0) (Int32.ofNat N))) := ⟨rfl, rfl, tB1⟩
    have k0 := oX_k s (Int32.ofNat N)
    have r0 : Kf [0, 2, 3, 4, 5, 7, 8, 17, 18, 19, 20, 21] [] τ (cR0 (oR (wF τ 0 0) (Int32.ofNat N))) := (((Kf.rf _ _ τ).wF (by decide) _).tr ((oR_k (wF τ 0 0) (Int32.ofNat N)).up (by decide) (by decide))).tr ((cR0_k _).up (by decide) (by decide))
    have op : vcall 198 m_Y_openText [.ref 0, .int (Int32.ofNat N), .int 600] (xS S L s) = some (.inl none, xS S L (oX s (Int32.ofNat N))) := Y_open_y 195 (c := 600) D k2 k1 (by decide) n1 hN
    have nw : vcall 198 m_Su_init [.ref S.1] (pNew (xS S L (oX s (Int32.ofNat N))) (cO 7 [.null, .null, .null, .null, .int 0, .int 0, .int 0, .int 0, .int 0]) 9) = _ := c_Su_new 197 (b := S) (L := L) (s := oX s (Int32.ofNat N)) o
    have hx0 : vcall 199 m_Y_studio [.ref 0, .int (Int32.ofNat N)] (xS S L s) = _ := (vY D rfl).trans (B_Y_studio_0 _ _ _ _)
    have g0 : ∀ (mm : Nat) (s r : rT), gFr (uQ S.1 mm S.2.2 L s r) 0 10 0 = some 1 := fun mm s r => (x0_gF D).1
    have rd : ∀ s' r', vcall 198 m_Su_read [.ref S.1, .ref 1] (uQ S.1 (S.2.1 + 37) S.2.2 L s' r') = den 197 m_Su_read 2 [.ref S.1, .ref 1, .int (Int32.ofNat 0)] [] (uQ S.1 (S.2.1 + 37) S.2.2 L s' r') := fun s' r' => (uQ_v o rfl).trans (B_Su_read_0 _ _ _ _)
    have e1 : (xS S L (oX s (Int32.ofNat N))).1 = S.1 := rfl
    rw [op, kC0_v, e1, nw, kC0_v, g0, obs, rd] at hx0
    rcases STUDIO hB hN (M := S.1) (mm := S.2.1 + 37) (H := S.2.2) D o N 0 0 _ 0 0 0 (by omega) (by decide) (Nat.zero_le _) ⟨cR0 (oR (wF τ 0 0) (Int32.ofNat N)), TR0, rfl, cR0_SR _⟩ with ⟨r', m', n', q', zX, zR⟩ | ⟨k, p, hk, hp, zX, zR⟩
    · obtain ⟨s1, y1, y2⟩ := zX 192 _ TX0
      have y2' : den 197 m_Su_read 2 [.ref S.1, .ref 1, .int (Int32.ofNat 0)] [] (uQ S.1 (S.2.1 + 37) S.2.2 L (oX s (Int32.ofNat N)) (wF (wF ((fun _ => 0), fun _ _ => 0) 47 365) 48 20)) = _ := y2
      have ks : Kf [21, 22, 23, 24, 25, 26] [] s s1 := k0.tr (y1.up (by decide) (by decide))
      have h59 := A.1
      have uq : uQ S.1 (S.2.1 + 37) S.2.2 L s1 r' = aL S.1 (S.2.1 + 37) (suL S.1 r') (xS S L s1).2.2 := (xS_aL o _ _).symm
      have bg : vcall 198 m_Y_begin [.ref 0, .ref S.1] (aL S.1 (S.2.1 + 37) (suL S.1 r') (xS S L s1).2.2) = _ := c_Y_begin 195 (N := S.1) (mm := S.2.1 + 37) (r := r') (by omega) (x0_0 D)
      have fl : ∀ j, j ≠ 0 → j < S.1 → (aL S.1 (S.2.1 + 37 + 401) (uCS S.1 r') (h0 (xS S L s1).2.2 (cO 10 [.ref 1, .ref 3, .ref 6, .ref S.1, .ref (S.1 + 5), .ref (S.1 + 9), .ref (S.1 + 11), .ref (S.1 + 17), .null, .int 0, .int 0, .int 0, .int (s1.1 12), .int (s1.1 13)]))).2.2 j = (xS S L s1).2.2 j := fun j hj hl => (aL_o (Or.inl hl)).trans (h0_n hj)
      have g3 : gFr (aL S.1 (S.2.1 + 37 + 401) (uCS S.1 r') (h0 (xS S L s1).2.2 (cO 10 [.ref 1, .ref 3, .ref 6, .ref S.1, .ref (S.1 + 5), .ref (S.1 + 9), .ref (S.1 + 11), .ref (S.1 + 17), .null, .int 0, .int 0, .int 0, .int (s1.1 12), .int (s1.1 13)]))) 0 10 3 = some S.1 := gFr_at ((aL_o (Or.inl (by omega))).trans rfl) rfl
      have g5 : gFi (aL S.1 (S.2.1 + 37 + 401) (uCS S.1 r') (h0 (xS S L s1).2.2 (cO 10 [.ref 1, .ref 3, .ref 6, .ref S.1, .ref (S.1 + 5), .ref (S.1 + 9), .ref (S.1 + 11), .ref (S.1 + 17), .null, .int 0, .int 0, .int 0, .int (s1.1 12), .int (s1.1 13)]))) S.1 7 5 = some (r'.1 45) := gFi_at (aL_i (i := 0) rfl) rfl
      rw [y2', kC1_v, if_pos (by decide), uq, bg, kC0_v, g3, obs, g5, obs, ← hx] at hx0
      have fx : aL S.1 (S.2.1 + 37 + 401) (uCS S.1 r') (h0 (xS S L s1).2.2 (cO 10 [.ref 1, .ref 3, .ref 6, .ref S.1, .ref (S.1 + 5), .ref (S.1 + 9), .ref (S.1 + 11), .ref (S.1 + 17), .null, .int 0, .int 0, .int 0, .int (s1.1 12), .int (s1.1 13)])) = xS (aL S.1 (S.2.1 + 37 + 401) (uCS S.1 r') (h0 (xS S L s1).2.2 (cO 10 [.ref 1, .ref 3, .ref 6, .ref S.1, .ref (S.1 + 5), .ref (S.1 + 9), .ref (S.1 + 11), .ref (S.1 + 17), .null, .int 0, .int 0, .int 0, .int (s1.1 12), .int (s1.1 13)]))) (uL S.1 (aI L)) (nU s1 r') := by
        refine uL_fix (fun i hi => ?_) (fun i hi => ?_)
        · have hl : i < (uCS S.1 r').length := hi
          rw [List.getElem?_eq_getElem hl]
          exact aL_i (List.getElem?_eq_getElem hl)
        · by_cases e : i = 0
          · subst e; exact (aL_o (Or.inl (by omega))).trans rfl
          · refine (fl i e (by omega)).trans ((yS_f D hi).trans ?_)
            have : i = 1 ∨ i = 2 ∨ i = 3 ∨ i = 4 ∨ i = 5 ∨ i = 6 := by omega
            rcases this with rfl | rfl | rfl | rfl | rfl | rfl <;> rfl
      obtain ⟨f, hf⟩ := ho
      have lu : (uCS S.1 r').length = 23 := rfl
      refine Pr_n hr hf h59 hL hx0 (fun j h1 h2 => (fl j (by omega) (by omega)).trans (xS_o (Ot_ref D h1 h2))) (fun j hj => ?_) ?_ ?_ ?_ (fun b => ?_)
      · have hj : S.1 + 23 ≤ j := hj
        exact (aL_o (Or.inr (by rw [lu]; exact hj))).trans ((h0_n (by omega)).trans (xS_o (Ot_lt A (by omega))))
      · show S.1 ≤ S.1 + 23; omega
      · show S.1 + 23 ≤ _; omega
      · show S.2.1 + 37 + 401 ≤ _; omega
      · obtain ⟨t1, c', l3', l4', v1, v2, v3⟩ := zR 195 b _ (Int32.ofNat N) mk0 mk0 TR0 rfl (cR0_SR _)
        have h5t : t1.1 5 = -1 := (v1.1 5 (by decide)).trans rfl
        have kt : Kf [0, 2, 3, 4, 5, 7, 8, 17, 18, 19, 20, 21] [33, 34, 35, 36] τ t1 := (r0.up (by decide) (by decide)).tr (v1.up (by decide) (by decide))
        have v3' : den 199 m_R_studio 44 [.ref 30, .int (Int32.ofNat N), .int 0, mk0, mk0] [] (mS b (cR0 (oR (wF τ 0 0) (Int32.ofNat N)))) = _ := v3
        have e153 := R_st153y 197 b h5t v2.1.2.1 v2.1.2.2 (Int32.ofNat N) c' l3' l4'
        have e153' : den 199 m_R_studio 153 [.ref 30, .int (Int32.ofNat N), .int c', l3', l4'] [] (mS b t1) = _ := e153
        rw [stE_48 b v2, show t1.1 18 = r'.1 45 from v2.2.1.2.1.trans v2.2.1.1.symm] at e153'
        refine ⟨_, ?_, (R_st_yes 198 b τ k3 k1 n1).trans (v3'.trans e153'), fun S2 ag hm2 ho2 => ?_⟩
        · exact (v1.1 0 (by decide)).trans rfl
        · have s21 : S2.1 = S.1 + 23 := ag.1
          have tb' : ∀ i, i < 600 → s1.2 2 i = t1.2 32 i ∧ ∃ j, j < 256 ∧ t1.2 32 i = Int32.ofNat j := by
            rw [ks.2 2 (by decide), kt.2 32 (by decide)]; exact tb
          refine Inv_u (by omega) (Or.inr h59) (by omega) (by omega) (xS_in fx (fun j oj => ag.2.2 j ?_)) hm2 ho2 v2 rfl rfl rfl rfl (fun i hi => if_pos hi) (fun i hi => if_pos hi) (fun i hi => if_pos hi) rfl rfl rfl rfl rfl (fun i hi => ?_) rfl ⟨(y1.1 21 (by decide)).trans rfl, (v1.1 2 (by decide)).trans rfl⟩ tb' ((y1.1 22 (by decide)).trans rfl) ⟨?_, ?_⟩
          · by_cases h : j < 30 ∨ 59 ≤ j
            · exact h
            · exact absurd (uL_O (by omega) (Or.inl (by omega))) oj
          · show (if 0 ≤ i ∧ i < 8 then _ else _) = _
            rw [if_pos ⟨by omega, hi⟩]
          · show s1.1 12 = t1.2 31 0
            rw [ks.1 12 (by decide), kt.2 31 (by decide)]; exact hd.1
          · show s1.1 13 = t1.2 31 1
            rw [ks.1 13 (by decide), kt.2 31 (by decide)]; exact hd.2
    · obtain ⟨s1, r1, w1, w2, w3⟩ := zX 192 _ TX0
      have w3' : den 197 m_Su_read 2 [.ref S.1, .ref 1, .int (Int32.ofNat 0)] [] (uQ S.1 (S.2.1 + 37) S.2.2 L (oX s (Int32.ofNat N)) (wF (wF ((fun _ => 0), fun _ _ => 0) 47 365) 48 20)) = _ := w3
      have an : vcall 198 m_Tp_faultAnswer [.ref 1] (uQ S.1 (S.2.1 + 37) S.2.2 L s1 r1) = some (.inl (some (.int (Int32.ofNat k - 10))), uQ S.1 (S.2.1 + 37) S.2.2 L s1 r1) := T_ans 197 D w2
      rw [w3', kC1_v, if_neg (by decide), g0, obs, an, kC1_v, ← hx] at hx0
      refine P_bad I hd hL hx0 (k0.tr (w1.up (by decide) (by decide))) ((w1.1 21 (by decide)).trans rfl) w2.2 (by show 5 ≤ 90; decide) (by omega) (fun b => ?_)
      obtain ⟨t1, c', l3', l4', v1, v2, v3⟩ := zR 195 b _ (Int32.ofNat N) mk0 mk0 TR0 rfl (cR0_SR _)
      have v3' : den 199 m_R_studio 44 [.ref 30, .int (Int32.ofNat N), .int 0, mk0, mk0] [] (mS b (cR0 (oR (wF τ 0 0) (Int32.ofNat N)))) = _ := v3
      refine ⟨wF t1 8 (Int32.ofNat p), ((r0.up (by decide) (by decide)).tr (v1.up (by decide) (by decide))).wF (by decide) _, (v1.1 0 (by decide)).trans rfl, (v1.1 2 (by decide)).trans rfl, rfl, ?_⟩
      exact (R_st_yes 198 b τ k3 k1 n1).trans (v3'.trans (R_st153n 197 b v2 hp _ _ _ _))
  · have ya : ∀ d, vcall (d + 4) m_Y_studio [.ref 0, .int x] (xS S L s) = xA0 S L s := fun d => by
      refine (vY D rfl).trans ((B_Y_studio_0 _ _ _ _).trans ?_)
      have := Y_open_n d (b := S) D k2 k1 (c := 600) (by decide) hr0
      have this' : vcall (d + 3) m_Y_openText [.ref 0, .int x, .int 600] (xS S L s) = xA0 S L s := this
      rw [this']
      rfl
    exact P_a (k := 1) I hd hL (fun _ _ => rfl) (by decide) (ya 195) (fun b => R_st_no 198 b τ k1 k3 hr0)
