/-! THE BOOK: the call -/
theorem P_bad {ML MY MR : Nat} {as : List Value} {S : pS} {L : xA} {s s' τ : rT} {m n q : Nat} {l : List Nat} {H : Nat → Nat → pS → pR} {v p : Int32} {mm : Nat} {cs : List pC} (I : Iv S L s τ m n q l) (hd : RD s τ) (hL : call 200 ML (.ref 0 :: (as ++ [.ref 58])) S = kC1 (vcall 199 MY (.ref 0 :: as) S) (fun v s1 => (pL s1 58 0 (Int32.toInt64 v)).bind fun s6 => some (.inl (some (.int 0)), s6)) H) (hX : vcall 199 MY (.ref 0 :: as) S = some (.inl (some (.int v)), xS (aL S.1 mm cs S.2.2) L s')) (hs : Kf [21, 22, 23, 24, 25, 26] [] s s') (h21 : s'.1 21 = 0) (hp : s'.1 22 = p) (hlen : cs.length ≤ 90) (hmm : mm ≤ S.2.1 + 1900) (hR : ∀ b, ∃ τ', Kf [0, 2, 3, 4, 5, 6, 7, 8, 17, 18, 19, 20, 21, 31, 36] [33, 34, 35, 36, 40, 41, 44, 45, 46, 47, 49, 51, 52, 54, 55, 56] τ τ' ∧ τ'.1 0 = 0 ∧ τ'.1 2 = 0 ∧ τ'.1 8 = p ∧ vcall 200 MR (.ref 30 :: as) (mS b τ) = some (.inl (some (.int v)), mS b τ')) : Pr ML MR as S := by
  have I' := I
  obtain ⟨D, A, hx, hm, ⟨f, hf⟩, -⟩ := I'
  have h59 : 59 ≤ S.1 := A.1
  have eo : ∀ j, j < S.1 → Ot L j → (xS (aL S.1 mm cs S.2.2) L s').2.2 j = S.2.2 j := fun j hj o => (xS_o o).trans (aL_o (Or.inl hj))
  refine Pr_n hm hf h59 hL hX (fun j h1 h2 => eo j (by omega) (Ot_ref D h1 h2)) (fun j hj => ?_) ?_ ?_ hmm (fun b => ?_)
  · have hj : S.1 + cs.length ≤ j := hj
    exact (xS_o (Ot_lt A (by omega))).trans (aL_o (Or.inr hj))
  · show S.1 ≤ S.1 + cs.length; omega
  · show S.1 + cs.length ≤ _; omega
  · obtain ⟨τ', t1, t2, t3, t4, t5⟩ := hR b
    refine ⟨τ', t2, t5, fun S2 ag hm2 ho2 => ?_⟩
    have g1 : S2.1 = S.1 + cs.length := ag.1
    refine Inv_f I (xS_in (S := xS (aL S.1 mm cs S.2.2) L s') (xS_xS _ _ _ _).symm (fun j o => ag.2.2 j ?_)) hm2 ho2 (by omega) (fun j h1 h2 o => (ag.2.2 j (Or.inr h1)).trans (eo j h2 o)) (hs.up (by decide) (by decide)) (t1.up (by decide) (by decide)) ⟨h21, t3⟩ (hp.trans t4.symm) ⟨?_, ?_⟩
    · by_cases h : j < 30 ∨ 59 ≤ j
      · exact h
      · exact absurd (Ot_ref D (by omega) (by omega)) o
    · rw [hs.1 12 (by decide), t1.2 31 (by decide)]; exact hd.1
    · rw [hs.1 13 (by decide), t1.2 31 (by decide)]; exact hd.2
theorem R_bk_no (d : Nat) (b : pS) (τ : rT) {tk : Nat} {x : Int32} (ht : τ.1 2 = Int32.ofNat tk) (h : ¬ (0 ≤ x ∧ x ≤ Int32.ofNat tk ∧ x ≤ Int32.ofNat 100)) : vcall (d + 2) m_R_book [.ref 30, .int x] (mS b τ) = some (.inl (some (.int 0)), mS b (rN τ 1 1)) := by
  refine (vR rfl).trans ((B_R_book_0 _ _ _ _).trans ?_)
  have e : den (d + 1) m_R_book 29 [.ref 30, .int x, mk0, mk0, mk0, mk0] [.int 0, .ref 30] (mS b (wF τ 0 0)) = some (.inl (some (.int 0)), mS b (rN τ 1 1)) := by
    rw [B_R_book_29, rm_n1 d (by decide), kC1_v, if_neg (by decide)]
  have ht' : (wF τ 0 0).1 2 = Int32.ofNat tk := ht
  simp only [m_pF, m_gF, obs, e, ht']
  by_cases g1 : x < 0
  · rw [if_pos g1]
  · rw [if_neg g1]
    by_cases g2 : Int32.ofNat tk < x
    · rw [if_pos g2]
    · rw [if_neg g2, if_pos]
      rcases Int32.lt_or_le (Int32.ofNat 100) x with g3 | g3
      · exact g3
      · exact absurd ⟨Int32.not_lt.mp g1, Int32.not_lt.mp g2, g3⟩ h
/-- the reference's new book, empty -/
def b52 (τ : rT) : Nat → Int32 := fun i => if i < 8 then -1 else τ.2 52 i
theorem R_bk46 (d : Nat) (b : pS) (τ : rT) (l1 : Int32) : ∀ (j i : Nat), i + j = 8 → den d m_R_book 46 [.ref 30, .int l1, .int (Int32.ofNat i), mk0, mk0, mk0] [] (mS b (wR τ 52 (fun x => if x < i then -1 else τ.2 52 x))) = den d m_R_book 67 [.ref 30, .int l1, .int 0, mk0, mk0, mk0] [] (mS b (wR τ 52 (b52 τ))) := by
  intro j
  induction j with
  | zero =>
    intro i hi
    have : i = 8 := by omega
    subst this
    rw [B_R_book_46, if_pos (by decide)]
    rfl
  | succ j ih =>
    intro i hi
    have g46 : ∀ τ : rT, gFr (mS b τ) 30 11 46 = some 52 := fun τ => gFr_at mS_30 rfl
    rw [B_R_book_46, if_neg (by show ¬ (Int32.ofNat 8 ≤ Int32.ofNat i); rw [ii_le (by omega) (by omega)]; omega), g46, obs, m_pI0 (n := 8) (by decide) (by decide) rfl (by decide) i _ (by omega), obs, ii_1, ← ih (i + 1) (by omega), wA_wR]
    refine congrArg (fun z => den d m_R_book 46 [.ref 30, .int l1, .int (Int32.ofNat (i + 1)), mk0, mk0, mk0] [] (mS b (wR τ 52 z))) (funext fun x => ?_)
    by_cases e : x = i
    · subst e; rw [upd_s, if_pos (by omega)]
    · rw [upd_n _ _ e]
      by_cases g : x < i
      · rw [if_pos g, if_pos (by omega)]
      · rw [if_neg g, if_neg (by omega)]
theorem R_bk_yes (d : Nat) (b : pS) (τ : rT) {tk n : Nat} (ht : τ.1 2 = Int32.ofNat tk) (h6 : tk ≤ 600) (h1 : n ≤ tk) (h2 : n ≤ 100) : vcall (d + 2) m_R_book [.ref 30, .int (Int32.ofNat n)] (mS b τ) = den (d + 1) m_R_book 67 [.ref 30, .int (Int32.ofNat n), .int 0, mk0, mk0, mk0] [] (mS b (wR (oR (wF τ 0 0) (Int32.ofNat n)) 52 (b52 τ))) := by
  refine (vR rfl).trans ((B_R_book_0 _ _ _ _).trans ?_)
  have ht' : (wF τ 0 0).1 2 = Int32.ofNat tk := ht
  simp only [m_pF, m_gF, obs, ht']
  rw [if_neg (by rw [ii_nn (by omega)]; exact id), if_neg (by rw [ii_lt (by omega) (by omega)]; omega), if_neg (by show ¬ (Int32.ofNat 100 < Int32.ofNat n); rw [ii_lt (by omega) (by omega)]; omega), B_R_book_29, rm_ok d, kC1_v, if_pos (by decide), R_begins d, kC0_v]
  have e := R_bk46 (d + 1) b (oR (wF τ 0 0) (Int32.ofNat n)) (Int32.ofNat n) 8 0 (by omega)
  have e0 : wR (oR (wF τ 0 0) (Int32.ofNat n)) 52 (fun x => if x < 0 then -1 else (oR (wF τ 0 0) (Int32.ofNat n)).2 52 x) = oR (wF τ 0 0) (Int32.ofNat n) := by
    have : (fun x => if x < 0 then (-1 : Int32) else (oR (wF τ 0 0) (Int32.ofNat n)).2 52 x) = (oR (wF τ 0 0) (Int32.ofNat n)).2 52 := funext fun x => if_neg (by omega)
    rw [this, wR_id]
  rw [e0] at e
  exact e
theorem c_Bk_new (d : Nat) {b : pS} {L : xA} {s : rT} (o : ∀ j, b.1 ≤ j → Ot L j) : vcall (d + 1) m_Bk_init [.ref b.1] (pNew (xS b L s) (cO 0 [.null, .int 0, .int 0]) 3) = some (.inl none, bQ b.1 (b.2.1 + 11) b.2.2 L s 0 0 (fun _ => 0)) := by
  rw [aL_0]
  refine (aL_v (c := 0) (N := b.1) rfl).trans ((B_Bk_init_0 _ _ _).trans ?_)
  simp (disch := simp) only [aL_new, aL_F, aL_g, aL_1, obs, List.cons_append, List.nil_append, List.length_cons, List.length_nil, Nat.zero_add, Nat.reduceAdd, List.set_cons_zero, List.set_cons_succ, Nat.add_zero, Nat.add_assoc]
  rw [xS_aL o]
  exact congrArg (fun z => some (Sum.inl none, xS (aL b.1 (b.2.1 + 11) [cO 0 [.ref (b.1 + 1), .int 0, .int 0], cI 8 z] b.2.2) L s)) cut_0.symm
theorem R_bk188 (d : Nat) (b : pS) {τ : rT} (h5 : τ.1 5 = -1) (l1 v : Int32) (l3 l4 l5 : Value) : den (d + 2) m_R_book 188 [.ref 30, .int l1, .int v, l3, l4, l5] [] (mS b τ) = some (.inl (some (.int v)), mS b (wR (wF (wF τ 8 (-1)) 48 v) 53 (fun i => if i < 8 then τ.2 52 i else τ.2 53 i))) := by
  have h5' : (wF τ 8 (-1)).1 5 = -1 := h5
  have c := c_R_copies (d + 1) b (wF (wF τ 8 (-1)) 48 v) 52 53 8 (by decide) (by decide) (by decide) (by decide) (by decide) (by decide) (by decide) (by decide) (by decide)
  have c' : vcall (d + 2) m_R_copies [.ref 30, .ref 52, .ref 53, .int 8] (mS b (wF (wF τ 8 (-1)) 48 v)) = _ := c
  have g46 : ∀ τ : rT, gFr (mS b τ) 30 11 46 = some 52 := fun τ => gFr_at mS_30 rfl
  have g47 : ∀ τ : rT, gFr (mS b τ) 30 11 47 = some 53 := fun τ => gFr_at mS_30 rfl
  rw [B_R_book_188, R_res_y d b h5, kC1_v]
  simp only [m_gF, m_pF, obs, h5', if_true, c', kC0_v]
  rfl
theorem R_bk188n (d : Nat) (b : pS) {τ : rT} {k p : Nat} (h : FR τ k p) (hp : p ≤ 600) (l1 v : Int32) (l3 l4 l5 : Value) : den (d + 2) m_R_book 188 [.ref 30, .int l1, .int v, l3, l4, l5] [] (mS b τ) = some (.inl (some (.int (Int32.ofNat k - 10))), mS b (wF τ 8 (Int32.ofNat p))) := by
  have h' : (wF τ 8 (Int32.ofNat p)).1 5 ≠ -1 := FR_b h hp
  rw [B_R_book_188, R_res_n d b h hp, kC1_v]
  simp only [m_gF, obs]
  rw [if_neg h']
