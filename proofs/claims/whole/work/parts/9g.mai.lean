/-! THE WALK over the script -/
theorem gT_at {s : pS} {q n : Nat} {f : Nat → Int32} (h : s.2.2 q = some (cT n f)) {k : Nat} (hk : k < n) (hn : n < 2147483648) : gI s q (Int32.ofNat k) = some (f k) := by
  unfold gI
  rw [h]
  have h1 : (Int32.ofNat k < 0) = False := ii_nn (by omega)
  have h2 : (Int32.ofNat k).toNatClampNeg = k := ii_tn (by omega)
  show (if Int32.ofNat k < 0 ∨ n ≤ (Int32.ofNat k).toNatClampNeg then none else some (f (Int32.ofNat k).toNatClampNeg)) = _
  simp only [h1, h2, false_or]
  rw [if_neg (by omega)]
theorem gT_n {s : pS} {q n : Nat} {f : Nat → Int32} (h : s.2.2 q = some (cT n f)) : gN s q = some (Int32.ofNat n) := by
  unfold gN
  rw [h]
theorem gT_c {S : pS} {L i : Nat} {xs : Nat → Int32} (h : S.2.2 (pSB + 1000) = some (cT L xs)) (hL : L ≤ 4608) (hi : i + 9 ≤ L) (c : Nat) (hc : c < 9) : gI S (pSB + 1000) (Int32.ofNat i + Int32.ofNat c) = some (xs (i + c)) := by
  rw [ii_add]
  exact gT_at h (by omega) (by omega)
theorem gT1 {S : pS} {L i : Nat} {xs : Nat → Int32} (h : S.2.2 (pSB + 1000) = some (cT L xs)) (hL : L ≤ 4608) (hi : i + 9 ≤ L) : gI S (pSB + 1000) (Int32.ofNat i + 1) = some (xs (i + 1)) := gT_c h hL hi 1 (by decide)
theorem gT2 {S : pS} {L i : Nat} {xs : Nat → Int32} (h : S.2.2 (pSB + 1000) = some (cT L xs)) (hL : L ≤ 4608) (hi : i + 9 ≤ L) : gI S (pSB + 1000) (Int32.ofNat i + 2) = some (xs (i + 2)) := gT_c h hL hi 2 (by decide)
theorem gT3 {S : pS} {L i : Nat} {xs : Nat → Int32} (h : S.2.2 (pSB + 1000) = some (cT L xs)) (hL : L ≤ 4608) (hi : i + 9 ≤ L) : gI S (pSB + 1000) (Int32.ofNat i + 3) = some (xs (i + 3)) := gT_c h hL hi 3 (by decide)
theorem gT4 {S : pS} {L i : Nat} {xs : Nat → Int32} (h : S.2.2 (pSB + 1000) = some (cT L xs)) (hL : L ≤ 4608) (hi : i + 9 ≤ L) : gI S (pSB + 1000) (Int32.ofNat i + 4) = some (xs (i + 4)) := gT_c h hL hi 4 (by decide)
theorem gT5 {S : pS} {L i : Nat} {xs : Nat → Int32} (h : S.2.2 (pSB + 1000) = some (cT L xs)) (hL : L ≤ 4608) (hi : i + 9 ≤ L) : gI S (pSB + 1000) (Int32.ofNat i + 5) = some (xs (i + 5)) := gT_c h hL hi 5 (by decide)
theorem gT6 {S : pS} {L i : Nat} {xs : Nat → Int32} (h : S.2.2 (pSB + 1000) = some (cT L xs)) (hL : L ≤ 4608) (hi : i + 9 ≤ L) : gI S (pSB + 1000) (Int32.ofNat i + 6) = some (xs (i + 6)) := gT_c h hL hi 6 (by decide)
theorem gT7 {S : pS} {L i : Nat} {xs : Nat → Int32} (h : S.2.2 (pSB + 1000) = some (cT L xs)) (hL : L ≤ 4608) (hi : i + 9 ≤ L) : gI S (pSB + 1000) (Int32.ofNat i + 7) = some (xs (i + 7)) := gT_c h hL hi 7 (by decide)
theorem gT8 {S : pS} {L i : Nat} {xs : Nat → Int32} (h : S.2.2 (pSB + 1000) = some (cT L xs)) (hL : L ≤ 4608) (hi : i + 9 ≤ L) : gI S (pSB + 1000) (Int32.ofNat i + 8) = some (xs (i + 8)) := gT_c h hL hi 8 (by decide)
theorem gL_58 {S : pS} {f : Nat → Int64} (h : S.2.2 58 = some (cL 1 f)) : gL S 58 0 = some (f 0) := by
  unfold gL
  rw [h]
  show (if (0 : Int32) < 0 ∨ 1 ≤ (0 : Int32).toNatClampNeg then none else some (f (0 : Int32).toNatClampNeg)) = _
  rw [if_neg (by decide)]
  rfl
theorem lg_s (x : Int64) : lg_cmp x x = 0 := by
  unfold lg_cmp
  simp
theorem thr {S2 : pS} {k : Int32} (th : Th S2 k) : vcall 200 m_R_thrown [.ref 30] S2 = some (.inl (some (.int k)), S2) := by
  obtain ⟨τ, e, hk⟩ := th
  have h : vcall 200 m_R_thrown [.ref 30] (mS S2 τ) = _ := (vR (d := 199) rfl).trans (B_R_thrown_0 _ _ _)
  rw [(m_gF S2 τ).1, obs, ← e, hk] at h
  exact h
/-- both threw alike, or both answered alike -/
theorem tl {S2 : pS} {k : Int32} {x : Int64} (th : Th S2 k) (hk : k = 0 → ∃ f, S2.2.2 58 = some (cL 1 f) ∧ f 0 = x) (A : pS → pR) : kC1 (vcall 200 m_R_thrown [.ref 30] S2) (fun v8 s7 => (if (v8 : Int32) = k then (if ¬ (k : Int32) = 0 then A s7 else ((gL s7 58 0).bind fun v9 => (if ((lg_cmp v9 x) : Int32) = 0 then A s7 else some (.inl (some (.int 0)), s7)))) else some (.inl (some (.int 0)), s7))) xp = A S2 := by
  rw [thr th, kC1_v, if_pos rfl]
  by_cases e : k = 0
  · obtain ⟨f, h1, h2⟩ := hk e
    rw [if_neg (fun h => h e), gL_58 h1, obs, h2, lg_s, if_pos rfl]
  · rw [if_pos e]
/-- what holds before each call of the script -/
def Lp (L : Nat) (xs : Nat → Int32) (i : Nat) (S : pS) : Prop := Inv S ∧ S.2.2 (pSB + 1000) = some (cT L xs) ∧ S.1 ≤ 100 + 12 * i ∧ S.2.1 ≤ 20000 + 223 * i
def Nx (L : Nat) (xs : Nat → Int32) (i : Nat) (r : pR) : Prop := ∃ (l5 l6 : Value) (S2 : pS), r = den 200 m_L_main 23 [.ref (pSB + 1000), .ref 0, .ref 30, .ref 58, .int (Int32.ofNat (i + 9)), l5, l6, mk0] [] S2 ∧ Lp L xs (i + 9) S2
theorem Lp_1 {L i : Nat} {xs : Nat → Int32} {S S1 S2 : pS} (h : Lp L xs i S) (hL : L ≤ 4608) (hi : i + 9 ≤ L) (gd : Gd S S2) (hj : ∀ j, S2.1 ≤ j → S1.2.2 j = S.2.2 j) : S1.2.2 (pSB + 1000) = some (cT L xs) := by
  obtain ⟨h1, h2, h3, h4⟩ := h
  obtain ⟨g1, g2, g3, g4, g5⟩ := gd
  have e : pSB = 10000000 := rfl
  exact (hj (pSB + 1000) (by omega)).trans h2
theorem ar1 {a b i : Nat} (h : a ≤ 100 + 12 * i) (g : b ≤ a + 100) : b ≤ 100 + 12 * (i + 9) := by omega
theorem ar2 {a b i : Nat} (h : a ≤ 20000 + 223 * i) (g : b ≤ a + 2000) : b ≤ 20000 + 223 * (i + 9) := by
  rw [Nat.mul_add, ← Nat.add_assoc]
  exact Nat.le_trans g (Nat.le_trans (Nat.add_le_add_right h 2000) (Nat.add_le_add_left (Nat.le_of_ble_eq_true rfl) _))
theorem Nx_2 {L i : Nat} {xs : Nat → Int32} {S S2 : pS} {r : pR} (h : Lp L xs i S) (hL : L ≤ 4608) (hi : i + 9 ≤ L) (gd : Gd S S2) {l5 l6 : Value} (e : r = den 200 m_L_main 2775 [.ref (pSB + 1000), .ref 0, .ref 30, .ref 58, .int (Int32.ofNat i), l5, l6, mk0] [] S2) : Nx L xs i r := by
  have c := Lp_1 h hL hi gd gd.2.2.2.2
  have h3 := h.2.2.1
  have h4 := h.2.2.2
  obtain ⟨g1, g2, g3, g4, g5⟩ := gd
  have u1 : S2.1 ≤ 100 + 12 * (i + 9) := ar1 h3 g3
  have u2 : S2.2.1 ≤ 20000 + 223 * (i + 9) := ar2 h4 g4
  refine ⟨l5, l6, S2, e.trans ((B_L_main_2775 _ _ _ _ _ _ _ _ _).trans ?_), g1, c, u1, u2⟩
  rw [show Int32.ofNat i + 9 = Int32.ofNat (i + 9) from ii_add i 9]
theorem Nx_feed {L i : Nat} {xs : Nat → Int32} {S : pS} (h : Lp L xs i S) (hL : L ≤ 4608) (hi : i + 9 ≤ L) (l5 l6 : Value) : Nx L xs i (den 200 m_L_main 236 [.ref (pSB + 1000), .ref 0, .ref 30, .ref 58, .int (Int32.ofNat i), l5, l6, mk0] [] S) := by
  obtain ⟨L', s, τ, m, n, q, l, I, hd⟩ := h.1
  obtain ⟨v, S1, S2, h1, h2, gd, hj⟩ := P_feed I hd (xs (i + 1)) (xs (i + 2)) (xs (i + 3)) (xs (i + 4)) (xs (i + 5))
  have c1 := Lp_1 h hL hi gd hj
  have h1' : vcall 200 m_Y_feed [.ref 0, .int (xs (i + 1)), .int (xs (i + 2)), .int (xs (i + 3)), .int (xs (i + 4)), .int (xs (i + 5))] S = some (.inl (some (.int v)), S1) := h1
  have h2' : vcall 200 m_R_feed [.ref 30, .int (xs (i + 1)), .int (xs (i + 2)), .int (xs (i + 3)), .int (xs (i + 4)), .int (xs (i + 5))] S1 = some (.inl (some (.int v)), S2) := h2
  refine Nx_2 h hL hi gd (l5 := l5) (l6 := l6) ((B_L_main_236 _ _ _ _ _ _ _ _ _).trans ?_)
  rw [gT1 h.2.1 hL hi, obs, gT2 h.2.1 hL hi, obs, gT3 h.2.1 hL hi, obs, gT4 h.2.1 hL hi, obs, gT5 h.2.1 hL hi, obs, h1', kC1_v, gT1 c1 hL hi, obs, gT2 c1 hL hi, obs, gT3 c1 hL hi, obs, gT4 c1 hL hi, obs, gT5 c1 hL hi, obs, h2', kC1_v, if_pos rfl]
theorem Nx_studio {L i : Nat} {xs : Nat → Int32} {S : pS} (h : Lp L xs i S) (hL : L ≤ 4608) (hi : i + 9 ≤ L) (l5 l6 : Value) : Nx L xs i (den 200 m_L_main 309 [.ref (pSB + 1000), .ref 0, .ref 30, .ref 58, .int (Int32.ofNat i), l5, l6, mk0] [] S) := by
  obtain ⟨L', s, τ, m, n, q, l, I, hd⟩ := h.1
  obtain ⟨k, S1, w, S2, h1, h2, th, hk, gd, hj⟩ := P_studio I hd (xs (i + 1))
  have c1 := Lp_1 h hL hi gd hj
  have h1' : call 200 m_L_studio [.ref 0, .int (xs (i + 1)), .ref 58] S = some (.inl (some (.int k)), S1) := h1
  have h2' : vcall 200 m_R_studio [.ref 30, .int (xs (i + 1))] S1 = some (.inl (some (.int w)), S2) := h2
  refine Nx_2 h hL hi gd (l5 := .int k) (l6 := .int w) ((B_L_main_309 _ _ _ _ _ _ _ _ _).trans ?_)
  rw [gT1 h.2.1 hL hi, obs, h1', kC1_v, gT1 c1 hL hi, obs, h2', kC1_v]
  exact tl th hk (fun s7 => den 200 m_L_main 2775 [.ref (pSB + 1000), .ref 0, .ref 30, .ref 58, .int (Int32.ofNat i), .int k, .int w, mk0] [] s7)
theorem Nx_law {L i : Nat} {xs : Nat → Int32} {S : pS} (h : Lp L xs i S) (hL : L ≤ 4608) (hi : i + 9 ≤ L) (l5 l6 : Value) : Nx L xs i (den 200 m_L_main 365 [.ref (pSB + 1000), .ref 0, .ref 30, .ref 58, .int (Int32.ofNat i), l5, l6, mk0] [] S) := by
  obtain ⟨L', s, τ, m, n, q, l, I, hd⟩ := h.1
  obtain ⟨k, S1, w, S2, h1, h2, th, hk, gd, hj⟩ := P_law I hd (xs (i + 1))
  have c1 := Lp_1 h hL hi gd hj
  have h1' : call 200 m_L_law [.ref 0, .int (xs (i + 1)), .ref 58] S = some (.inl (some (.int k)), S1) := h1
  have h2' : vcall 200 m_R_law [.ref 30, .int (xs (i + 1))] S1 = some (.inl (some (.int w)), S2) := h2
  refine Nx_2 h hL hi gd (l5 := .int k) (l6 := .int w) ((B_L_main_365 _ _ _ _ _ _ _ _ _).trans ?_)
  rw [gT1 h.2.1 hL hi, obs, h1', kC1_v, gT1 c1 hL hi, obs, h2', kC1_v]
  exact tl th hk (fun s7 => den 200 m_L_main 2775 [.ref (pSB + 1000), .ref 0, .ref 30, .ref 58, .int (Int32.ofNat i), .int k, .int w, mk0] [] s7)
theorem Nx_work {L i : Nat} {xs : Nat → Int32} {S : pS} (h : Lp L xs i S) (hL : L ≤ 4608) (hi : i + 9 ≤ L) (l5 l6 : Value) : Nx L xs i (den 200 m_L_main 421 [.ref (pSB + 1000), .ref 0, .ref 30, .ref 58, .int (Int32.ofNat i), l5, l6, mk0] [] S) := by
  obtain ⟨L', s, τ, m, n, q, l, I, hd⟩ := h.1
  obtain ⟨k, S1, w, S2, h1, h2, th, hk, gd, hj⟩ := P_work I hd (xs (i + 1))
  have c1 := Lp_1 h hL hi gd hj
  have h1' : call 200 m_L_work [.ref 0, .int (xs (i + 1)), .ref 58] S = some (.inl (some (.int k)), S1) := h1
  have h2' : vcall 200 m_R_work [.ref 30, .int (xs (i + 1))] S1 = some (.inl (some (.int w)), S2) := h2
  refine Nx_2 h hL hi gd (l5 := .int k) (l6 := .int w) ((B_L_main_421 _ _ _ _ _ _ _ _ _).trans ?_)
  rw [gT1 h.2.1 hL hi, obs, h1', kC1_v, gT1 c1 hL hi, obs, h2', kC1_v]
  exact tl th hk (fun s7 => den 200 m_L_main 2775 [.ref (pSB + 1000), .ref 0, .ref 30, .ref 58, .int (Int32.ofNat i), .int k, .int w, mk0] [] s7)
theorem Nx_book {L i : Nat} {xs : Nat → Int32} {S : pS} (h : Lp L xs i S) (hL : L ≤ 4608) (hi : i + 9 ≤ L) (l5 l6 : Value) : Nx L xs i (den 200 m_L_main 477 [.ref (pSB + 1000), .ref 0, .ref 30, .ref 58, .int (Int32.ofNat i), l5, l6, mk0] [] S) := by
  obtain ⟨L', s, τ, m, n, q, l, I, hd⟩ := h.1
  obtain ⟨k, S1, w, S2, h1, h2, th, hk, gd, hj⟩ := P_book I hd (xs (i + 1))
  have c1 := Lp_1 h hL hi gd hj
  have h1' : call 200 m_L_book [.ref 0, .int (xs (i + 1)), .ref 58] S = some (.inl (some (.int k)), S1) := h1
  have h2' : vcall 200 m_R_book [.ref 30, .int (xs (i + 1))] S1 = some (.inl (some (.int w)), S2) := h2
  refine Nx_2 h hL hi gd (l5 := .int k) (l6 := .int w) ((B_L_main_477 _ _ _ _ _ _ _ _ _).trans ?_)
  rw [gT1 h.2.1 hL hi, obs, h1', kC1_v, gT1 c1 hL hi, obs, h2', kC1_v]
  exact tl th hk (fun s7 => den 200 m_L_main 2775 [.ref (pSB + 1000), .ref 0, .ref 30, .ref 58, .int (Int32.ofNat i), .int k, .int w, mk0] [] s7)
theorem Nx_fault {L i : Nat} {xs : Nat → Int32} {S : pS} (h : Lp L xs i S) (hL : L ≤ 4608) (hi : i + 9 ≤ L) (l5 l6 : Value) : Nx L xs i (den 200 m_L_main 533 [.ref (pSB + 1000), .ref 0, .ref 30, .ref 58, .int (Int32.ofNat i), l5, l6, mk0] [] S) := by
  obtain ⟨L', s, τ, m, n, q, l, I, hd⟩ := h.1
  obtain ⟨v, S1, S2, h1, h2, gd, hj⟩ := P_fault I hd
  have c1 := Lp_1 h hL hi gd hj
  have h1' : vcall 200 m_Y_fault [.ref 0] S = some (.inl (some (.int v)), S1) := h1
  have h2' : vcall 200 m_R_fault [.ref 30] S1 = some (.inl (some (.int v)), S2) := h2
  refine Nx_2 h hL hi gd (l5 := l5) (l6 := l6) ((B_L_main_533 _ _ _ _ _ _ _ _ _).trans ?_)
  rw [h1', kC1_v, h2', kC1_v, if_pos rfl]
theorem Nx_undo {L i : Nat} {xs : Nat → Int32} {S : pS} (h : Lp L xs i S) (hL : L ≤ 4608) (hi : i + 9 ≤ L) (l5 l6 : Value) : Nx L xs i (den 200 m_L_main 546 [.ref (pSB + 1000), .ref 0, .ref 30, .ref 58, .int (Int32.ofNat i), l5, l6, mk0] [] S) := by
  obtain ⟨L', s, τ, m, n, q, l, I, hd⟩ := h.1
  obtain ⟨v, S1, S2, h1, h2, gd, hj⟩ := P_undo I hd
  have c1 := Lp_1 h hL hi gd hj
  have h1' : vcall 200 m_Y_undo [.ref 0] S = some (.inl (some (.int v)), S1) := h1
  have h2' : vcall 200 m_R_undo [.ref 30] S1 = some (.inl (some (.int v)), S2) := h2
  refine Nx_2 h hL hi gd (l5 := l5) (l6 := l6) ((B_L_main_546 _ _ _ _ _ _ _ _ _).trans ?_)
  rw [h1', kC1_v, h2', kC1_v, if_pos rfl]
theorem Nx_told {L i : Nat} {xs : Nat → Int32} {S : pS} (h : Lp L xs i S) (hL : L ≤ 4608) (hi : i + 9 ≤ L) (l5 l6 : Value) : Nx L xs i (den 200 m_L_main 559 [.ref (pSB + 1000), .ref 0, .ref 30, .ref 58, .int (Int32.ofNat i), l5, l6, mk0] [] S) := by
  obtain ⟨L', s, τ, m, n, q, l, I, hd⟩ := h.1
  obtain ⟨k, S1, w, S2, h1, h2, th, hk, gd, hj⟩ := P_told I hd (xs (i + 1))
  have c1 := Lp_1 h hL hi gd hj
  have h1' : call 200 m_L_told [.ref 0, .int (xs (i + 1)), .ref 58] S = some (.inl (some (.int k)), S1) := h1
  have h2' : vcall 200 m_R_told [.ref 30, .int (xs (i + 1))] S1 = some (.inl (some (.int w)), S2) := h2
  refine Nx_2 h hL hi gd (l5 := .int k) (l6 := .int w) ((B_L_main_559 _ _ _ _ _ _ _ _ _).trans ?_)
  rw [gT1 h.2.1 hL hi, obs, h1', kC1_v, gT1 c1 hL hi, obs, h2', kC1_v]
  exact tl th hk (fun s7 => den 200 m_L_main 2775 [.ref (pSB + 1000), .ref 0, .ref 30, .ref 58, .int (Int32.ofNat i), .int k, .int w, mk0] [] s7)
theorem Nx_seat {L i : Nat} {xs : Nat → Int32} {S : pS} (h : Lp L xs i S) (hL : L ≤ 4608) (hi : i + 9 ≤ L) (l5 l6 : Value) : Nx L xs i (den 200 m_L_main 615 [.ref (pSB + 1000), .ref 0, .ref 30, .ref 58, .int (Int32.ofNat i), l5, l6, mk0] [] S) := by
  obtain ⟨L', s, τ, m, n, q, l, I, hd⟩ := h.1
  obtain ⟨k, S1, w, S2, h1, h2, th, hk, gd, hj⟩ := P_seat I hd (xs (i + 1)) (xs (i + 2))
  have c1 := Lp_1 h hL hi gd hj
  have h1' : call 200 m_L_seat [.ref 0, .int (xs (i + 1)), .int (xs (i + 2)), .ref 58] S = some (.inl (some (.int k)), S1) := h1
  have h2' : vcall 200 m_R_seat [.ref 30, .int (xs (i + 1)), .int (xs (i + 2))] S1 = some (.inl (some (.int w)), S2) := h2
  refine Nx_2 h hL hi gd (l5 := .int k) (l6 := .int w) ((B_L_main_615 _ _ _ _ _ _ _ _ _).trans ?_)
  rw [gT1 h.2.1 hL hi, obs, gT2 h.2.1 hL hi, obs, h1', kC1_v, gT1 c1 hL hi, obs, gT2 c1 hL hi, obs, h2', kC1_v]
  exact tl th hk (fun s7 => den 200 m_L_main 2775 [.ref (pSB + 1000), .ref 0, .ref 30, .ref 58, .int (Int32.ofNat i), .int k, .int w, mk0] [] s7)
theorem Nx_sitter {L i : Nat} {xs : Nat → Int32} {S : pS} (h : Lp L xs i S) (hL : L ≤ 4608) (hi : i + 9 ≤ L) (l5 l6 : Value) : Nx L xs i (den 200 m_L_main 683 [.ref (pSB + 1000), .ref 0, .ref 30, .ref 58, .int (Int32.ofNat i), l5, l6, mk0] [] S) := by
  obtain ⟨L', s, τ, m, n, q, l, I, hd⟩ := h.1
  obtain ⟨k, S1, w, S2, h1, h2, th, hk, gd, hj⟩ := P_sitter I hd (xs (i + 1)) (xs (i + 2))
  have c1 := Lp_1 h hL hi gd hj
  have h1' : call 200 m_L_sitter [.ref 0, .int (xs (i + 1)), .int (xs (i + 2)), .ref 58] S = some (.inl (some (.int k)), S1) := h1
  have h2' : vcall 200 m_R_sitter [.ref 30, .int (xs (i + 1)), .int (xs (i + 2))] S1 = some (.inl (some (.int w)), S2) := h2
  refine Nx_2 h hL hi gd (l5 := .int k) (l6 := .int w) ((B_L_main_683 _ _ _ _ _ _ _ _ _).trans ?_)
  rw [gT1 h.2.1 hL hi, obs, gT2 h.2.1 hL hi, obs, h1', kC1_v, gT1 c1 hL hi, obs, gT2 c1 hL hi, obs, h2', kC1_v]
  exact tl th hk (fun s7 => den 200 m_L_main 2775 [.ref (pSB + 1000), .ref 0, .ref 30, .ref 58, .int (Int32.ofNat i), .int k, .int w, mk0] [] s7)
theorem Nx_plate {L i : Nat} {xs : Nat → Int32} {S : pS} (h : Lp L xs i S) (hL : L ≤ 4608) (hi : i + 9 ≤ L) (l5 l6 : Value) : Nx L xs i (den 200 m_L_main 751 [.ref (pSB + 1000), .ref 0, .ref 30, .ref 58, .int (Int32.ofNat i), l5, l6, mk0] [] S) := by
  obtain ⟨L', s, τ, m, n, q, l, I, hd⟩ := h.1
  obtain ⟨k, S1, w, S2, h1, h2, th, hk, gd, hj⟩ := P_plate I hd (xs (i + 1)) (xs (i + 2))
  have c1 := Lp_1 h hL hi gd hj
  have h1' : call 200 m_L_plate [.ref 0, .int (xs (i + 1)), .int (xs (i + 2)), .ref 58] S = some (.inl (some (.int k)), S1) := h1
  have h2' : vcall 200 m_R_plate [.ref 30, .int (xs (i + 1)), .int (xs (i + 2))] S1 = some (.inl (some (.int w)), S2) := h2
  refine Nx_2 h hL hi gd (l5 := .int k) (l6 := .int w) ((B_L_main_751 _ _ _ _ _ _ _ _ _).trans ?_)
  rw [gT1 h.2.1 hL hi, obs, gT2 h.2.1 hL hi, obs, h1', kC1_v, gT1 c1 hL hi, obs, gT2 c1 hL hi, obs, h2', kC1_v]
  exact tl th hk (fun s7 => den 200 m_L_main 2775 [.ref (pSB + 1000), .ref 0, .ref 30, .ref 58, .int (Int32.ofNat i), .int k, .int w, mk0] [] s7)
theorem Nx_sitting {L i : Nat} {xs : Nat → Int32} {S : pS} (h : Lp L xs i S) (hL : L ≤ 4608) (hi : i + 9 ≤ L) (l5 l6 : Value) : Nx L xs i (den 200 m_L_main 819 [.ref (pSB + 1000), .ref 0, .ref 30, .ref 58, .int (Int32.ofNat i), l5, l6, mk0] [] S) := by
  obtain ⟨L', s, τ, m, n, q, l, I, hd⟩ := h.1
  obtain ⟨k, S1, w, S2, h1, h2, th, hk, gd, hj⟩ := P_sitting I hd (xs (i + 1))
  have c1 := Lp_1 h hL hi gd hj
  have h1' : call 200 m_L_sitting [.ref 0, .int (xs (i + 1)), .ref 58] S = some (.inl (some (.int k)), S1) := h1
  have h2' : vcall 200 m_R_sitting [.ref 30, .int (xs (i + 1))] S1 = some (.inl (some (.int w)), S2) := h2
  refine Nx_2 h hL hi gd (l5 := .int k) (l6 := .int w) ((B_L_main_819 _ _ _ _ _ _ _ _ _).trans ?_)
  rw [gT1 h.2.1 hL hi, obs, h1', kC1_v, gT1 c1 hL hi, obs, h2', kC1_v]
  exact tl th hk (fun s7 => den 200 m_L_main 2775 [.ref (pSB + 1000), .ref 0, .ref 30, .ref 58, .int (Int32.ofNat i), .int k, .int w, mk0] [] s7)
theorem Nx_mark {L i : Nat} {xs : Nat → Int32} {S : pS} (h : Lp L xs i S) (hL : L ≤ 4608) (hi : i + 9 ≤ L) (l5 l6 : Value) : Nx L xs i (den 200 m_L_main 875 [.ref (pSB + 1000), .ref 0, .ref 30, .ref 58, .int (Int32.ofNat i), l5, l6, mk0] [] S) := by
  obtain ⟨L', s, τ, m, n, q, l, I, hd⟩ := h.1
  obtain ⟨k, S1, w, S2, h1, h2, th, hk, gd, hj⟩ := P_mark I hd (xs (i + 1))
  have c1 := Lp_1 h hL hi gd hj
  have h1' : call 200 m_L_mark [.ref 0, .int (xs (i + 1)), .ref 58] S = some (.inl (some (.int k)), S1) := h1
  have h2' : vcall 200 m_R_mark [.ref 30, .int (xs (i + 1))] S1 = some (.inl (some (.int w)), S2) := h2
  refine Nx_2 h hL hi gd (l5 := .int k) (l6 := .int w) ((B_L_main_875 _ _ _ _ _ _ _ _ _).trans ?_)
  rw [gT1 h.2.1 hL hi, obs, h1', kC1_v, gT1 c1 hL hi, obs, h2', kC1_v]
  exact tl th hk (fun s7 => den 200 m_L_main 2775 [.ref (pSB + 1000), .ref 0, .ref 30, .ref 58, .int (Int32.ofNat i), .int k, .int w, mk0] [] s7)
theorem Nx_would {L i : Nat} {xs : Nat → Int32} {S : pS} (h : Lp L xs i S) (hL : L ≤ 4608) (hi : i + 9 ≤ L) (l5 l6 : Value) : Nx L xs i (den 200 m_L_main 931 [.ref (pSB + 1000), .ref 0, .ref 30, .ref 58, .int (Int32.ofNat i), l5, l6, mk0] [] S) := by
  obtain ⟨L', s, τ, m, n, q, l, I, hd⟩ := h.1
  obtain ⟨k, S1, w, S2, h1, h2, th, hk, gd, hj⟩ := P_would I hd (xs (i + 1)) (xs (i + 2)) (xs (i + 3)) (xs (i + 4)) (xs (i + 5)) (xs (i + 6)) (xs (i + 7)) (xs (i + 8))
  have c1 := Lp_1 h hL hi gd hj
  have h1' : call 200 m_L_would [.ref 0, .int (xs (i + 1)), .int (xs (i + 2)), .int (xs (i + 3)), .int (xs (i + 4)), .int (xs (i + 5)), .int (xs (i + 6)), .int (xs (i + 7)), .int (xs (i + 8)), .ref 58] S = some (.inl (some (.int k)), S1) := h1
  have h2' : vcall 200 m_R_would [.ref 30, .int (xs (i + 1)), .int (xs (i + 2)), .int (xs (i + 3)), .int (xs (i + 4)), .int (xs (i + 5)), .int (xs (i + 6)), .int (xs (i + 7)), .int (xs (i + 8))] S1 = some (.inl (some (.int w)), S2) := h2
  refine Nx_2 h hL hi gd (l5 := .int k) (l6 := .int w) ((B_L_main_931 _ _ _ _ _ _ _ _ _).trans ?_)
  rw [gT1 h.2.1 hL hi, obs, gT2 h.2.1 hL hi, obs, gT3 h.2.1 hL hi, obs, gT4 h.2.1 hL hi, obs, gT5 h.2.1 hL hi, obs, gT6 h.2.1 hL hi, obs, gT7 h.2.1 hL hi, obs, gT8 h.2.1 hL hi, obs, h1', kC1_v, gT1 c1 hL hi, obs, gT2 c1 hL hi, obs, gT3 c1 hL hi, obs, gT4 c1 hL hi, obs, gT5 c1 hL hi, obs, gT6 c1 hL hi, obs, gT7 c1 hL hi, obs, gT8 c1 hL hi, obs, h2', kC1_v]
  exact tl th hk (fun s7 => den 200 m_L_main 2775 [.ref (pSB + 1000), .ref 0, .ref 30, .ref 58, .int (Int32.ofNat i), .int k, .int w, mk0] [] s7)
theorem Nx_share {L i : Nat} {xs : Nat → Int32} {S : pS} (h : Lp L xs i S) (hL : L ≤ 4608) (hi : i + 9 ≤ L) (l5 l6 : Value) : Nx L xs i (den 200 m_L_main 1077 [.ref (pSB + 1000), .ref 0, .ref 30, .ref 58, .int (Int32.ofNat i), l5, l6, mk0] [] S) := by
  obtain ⟨L', s, τ, m, n, q, l, I, hd⟩ := h.1
  obtain ⟨k, S1, w, S2, h1, h2, th, hk, gd, hj⟩ := P_share I hd (xs (i + 1)) (xs (i + 2)) (xs (i + 3))
  have c1 := Lp_1 h hL hi gd hj
  have h1' : call 200 m_L_share [.ref 0, .int (xs (i + 1)), .int (xs (i + 2)), .int (xs (i + 3)), .ref 58] S = some (.inl (some (.int k)), S1) := h1
  have h2' : vcall 200 m_R_share [.ref 30, .int (xs (i + 1)), .int (xs (i + 2)), .int (xs (i + 3))] S1 = some (.inl (some (.int w)), S2) := h2
  refine Nx_2 h hL hi gd (l5 := .int k) (l6 := .int w) ((B_L_main_1077 _ _ _ _ _ _ _ _ _).trans ?_)
  rw [gT1 h.2.1 hL hi, obs, gT2 h.2.1 hL hi, obs, gT3 h.2.1 hL hi, obs, h1', kC1_v, gT1 c1 hL hi, obs, gT2 c1 hL hi, obs, gT3 c1 hL hi, obs, h2', kC1_v]
  exact tl th hk (fun s7 => den 200 m_L_main 2775 [.ref (pSB + 1000), .ref 0, .ref 30, .ref 58, .int (Int32.ofNat i), .int k, .int w, mk0] [] s7)
theorem Nx_ahead {L i : Nat} {xs : Nat → Int32} {S : pS} (h : Lp L xs i S) (hL : L ≤ 4608) (hi : i + 9 ≤ L) (l5 l6 : Value) : Nx L xs i (den 200 m_L_main 1157 [.ref (pSB + 1000), .ref 0, .ref 30, .ref 58, .int (Int32.ofNat i), l5, l6, mk0] [] S) := by
  obtain ⟨L', s, τ, m, n, q, l, I, hd⟩ := h.1
  obtain ⟨k, S1, w, S2, h1, h2, th, hk, gd, hj⟩ := P_ahead I hd (xs (i + 1)) (xs (i + 2))
  have c1 := Lp_1 h hL hi gd hj
  have h1' : call 200 m_L_ahead [.ref 0, .int (xs (i + 1)), .int (xs (i + 2)), .ref 58] S = some (.inl (some (.int k)), S1) := h1
  have h2' : vcall 200 m_R_ahead [.ref 30, .int (xs (i + 1)), .int (xs (i + 2))] S1 = some (.inl (some (.int w)), S2) := h2
  refine Nx_2 h hL hi gd (l5 := .int k) (l6 := .int w) ((B_L_main_1157 _ _ _ _ _ _ _ _ _).trans ?_)
  rw [gT1 h.2.1 hL hi, obs, gT2 h.2.1 hL hi, obs, h1', kC1_v, gT1 c1 hL hi, obs, gT2 c1 hL hi, obs, h2', kC1_v]
  exact tl th hk (fun s7 => den 200 m_L_main 2775 [.ref (pSB + 1000), .ref 0, .ref 30, .ref 58, .int (Int32.ofNat i), .int k, .int w, mk0] [] s7)
theorem Nx_when {L i : Nat} {xs : Nat → Int32} {S : pS} (h : Lp L xs i S) (hL : L ≤ 4608) (hi : i + 9 ≤ L) (l5 l6 : Value) : Nx L xs i (den 200 m_L_main 1225 [.ref (pSB + 1000), .ref 0, .ref 30, .ref 58, .int (Int32.ofNat i), l5, l6, mk0] [] S) := by
  obtain ⟨L', s, τ, m, n, q, l, I, hd⟩ := h.1
  obtain ⟨k, S1, w, S2, h1, h2, th, hk, gd, hj⟩ := P_when I hd (xs (i + 1))
  have c1 := Lp_1 h hL hi gd hj
  have h1' : call 200 m_L_when [.ref 0, .int (xs (i + 1)), .ref 58] S = some (.inl (some (.int k)), S1) := h1
  have h2' : vcall 200 m_R_when [.ref 30, .int (xs (i + 1))] S1 = some (.inl (some (.int w)), S2) := h2
  refine Nx_2 h hL hi gd (l5 := .int k) (l6 := .int w) ((B_L_main_1225 _ _ _ _ _ _ _ _ _).trans ?_)
  rw [gT1 h.2.1 hL hi, obs, h1', kC1_v, gT1 c1 hL hi, obs, h2', kC1_v]
  exact tl th hk (fun s7 => den 200 m_L_main 2775 [.ref (pSB + 1000), .ref 0, .ref 30, .ref 58, .int (Int32.ofNat i), .int k, .int w, mk0] [] s7)
theorem Nx_meals {L i : Nat} {xs : Nat → Int32} {S : pS} (h : Lp L xs i S) (hL : L ≤ 4608) (hi : i + 9 ≤ L) (l5 l6 : Value) : Nx L xs i (den 200 m_L_main 1281 [.ref (pSB + 1000), .ref 0, .ref 30, .ref 58, .int (Int32.ofNat i), l5, l6, mk0] [] S) := by
  obtain ⟨L', s, τ, m, n, q, l, I, hd⟩ := h.1
  obtain ⟨k, S1, w, S2, h1, h2, th, hk, gd, hj⟩ := P_meals I hd (xs (i + 1)) (xs (i + 2))
  have c1 := Lp_1 h hL hi gd hj
  have h1' : call 200 m_L_meals [.ref 0, .int (xs (i + 1)), .int (xs (i + 2)), .ref 58] S = some (.inl (some (.int k)), S1) := h1
  have h2' : vcall 200 m_R_meals [.ref 30, .int (xs (i + 1)), .int (xs (i + 2))] S1 = some (.inl (some (.int w)), S2) := h2
  refine Nx_2 h hL hi gd (l5 := .int k) (l6 := .int w) ((B_L_main_1281 _ _ _ _ _ _ _ _ _).trans ?_)
  rw [gT1 h.2.1 hL hi, obs, gT2 h.2.1 hL hi, obs, h1', kC1_v, gT1 c1 hL hi, obs, gT2 c1 hL hi, obs, h2', kC1_v]
  exact tl th hk (fun s7 => den 200 m_L_main 2775 [.ref (pSB + 1000), .ref 0, .ref 30, .ref 58, .int (Int32.ofNat i), .int k, .int w, mk0] [] s7)
theorem Nx_goings {L i : Nat} {xs : Nat → Int32} {S : pS} (h : Lp L xs i S) (hL : L ≤ 4608) (hi : i + 9 ≤ L) (l5 l6 : Value) : Nx L xs i (den 200 m_L_main 1349 [.ref (pSB + 1000), .ref 0, .ref 30, .ref 58, .int (Int32.ofNat i), l5, l6, mk0] [] S) := by
  obtain ⟨L', s, τ, m, n, q, l, I, hd⟩ := h.1
  obtain ⟨k, S1, w, S2, h1, h2, th, hk, gd, hj⟩ := P_goings I hd (xs (i + 1)) (xs (i + 2))
  have c1 := Lp_1 h hL hi gd hj
  have h1' : call 200 m_L_goings [.ref 0, .int (xs (i + 1)), .int (xs (i + 2)), .ref 58] S = some (.inl (some (.int k)), S1) := h1
  have h2' : vcall 200 m_R_goings [.ref 30, .int (xs (i + 1)), .int (xs (i + 2))] S1 = some (.inl (some (.int w)), S2) := h2
  refine Nx_2 h hL hi gd (l5 := .int k) (l6 := .int w) ((B_L_main_1349 _ _ _ _ _ _ _ _ _).trans ?_)
  rw [gT1 h.2.1 hL hi, obs, gT2 h.2.1 hL hi, obs, h1', kC1_v, gT1 c1 hL hi, obs, gT2 c1 hL hi, obs, h2', kC1_v]
  exact tl th hk (fun s7 => den 200 m_L_main 2775 [.ref (pSB + 1000), .ref 0, .ref 30, .ref 58, .int (Int32.ofNat i), .int k, .int w, mk0] [] s7)
theorem Nx_bright {L i : Nat} {xs : Nat → Int32} {S : pS} (h : Lp L xs i S) (hL : L ≤ 4608) (hi : i + 9 ≤ L) (l5 l6 : Value) : Nx L xs i (den 200 m_L_main 1417 [.ref (pSB + 1000), .ref 0, .ref 30, .ref 58, .int (Int32.ofNat i), l5, l6, mk0] [] S) := by
  obtain ⟨L', s, τ, m, n, q, l, I, hd⟩ := h.1
  obtain ⟨k, S1, w, S2, h1, h2, th, hk, gd, hj⟩ := P_bright I hd (xs (i + 1))
  have c1 := Lp_1 h hL hi gd hj
  have h1' : call 200 m_L_bright [.ref 0, .int (xs (i + 1)), .ref 58] S = some (.inl (some (.int k)), S1) := h1
  have h2' : vcall 200 m_R_bright [.ref 30, .int (xs (i + 1))] S1 = some (.inl (some (.int w)), S2) := h2
  refine Nx_2 h hL hi gd (l5 := .int k) (l6 := .int w) ((B_L_main_1417 _ _ _ _ _ _ _ _ _).trans ?_)
  rw [gT1 h.2.1 hL hi, obs, h1', kC1_v, gT1 c1 hL hi, obs, h2', kC1_v]
  exact tl th hk (fun s7 => den 200 m_L_main 2775 [.ref (pSB + 1000), .ref 0, .ref 30, .ref 58, .int (Int32.ofNat i), .int k, .int w, mk0] [] s7)
theorem Nx_places {L i : Nat} {xs : Nat → Int32} {S : pS} (h : Lp L xs i S) (hL : L ≤ 4608) (hi : i + 9 ≤ L) (l5 l6 : Value) : Nx L xs i (den 200 m_L_main 1473 [.ref (pSB + 1000), .ref 0, .ref 30, .ref 58, .int (Int32.ofNat i), l5, l6, mk0] [] S) := by
  obtain ⟨L', s, τ, m, n, q, l, I, hd⟩ := h.1
  obtain ⟨v, S1, S2, h1, h2, gd, hj⟩ := P_places I hd
  have c1 := Lp_1 h hL hi gd hj
  have h1' : vcall 200 m_Y_places [.ref 0] S = some (.inl (some (.int v)), S1) := h1
  have h2' : vcall 200 m_R_places [.ref 30] S1 = some (.inl (some (.int v)), S2) := h2
  refine Nx_2 h hL hi gd (l5 := l5) (l6 := l6) ((B_L_main_1473 _ _ _ _ _ _ _ _ _).trans ?_)
  rw [h1', kC1_v, h2', kC1_v, if_pos rfl]
theorem Nx_placed {L i : Nat} {xs : Nat → Int32} {S : pS} (h : Lp L xs i S) (hL : L ≤ 4608) (hi : i + 9 ≤ L) (l5 l6 : Value) : Nx L xs i (den 200 m_L_main 1486 [.ref (pSB + 1000), .ref 0, .ref 30, .ref 58, .int (Int32.ofNat i), l5, l6, mk0] [] S) := by
  obtain ⟨L', s, τ, m, n, q, l, I, hd⟩ := h.1
  obtain ⟨k, S1, w, S2, h1, h2, th, hk, gd, hj⟩ := P_placed I hd (xs (i + 1))
  have c1 := Lp_1 h hL hi gd hj
  have h1' : call 200 m_L_placed [.ref 0, .int (xs (i + 1)), .ref 58] S = some (.inl (some (.int k)), S1) := h1
  have h2' : vcall 200 m_R_placed [.ref 30, .int (xs (i + 1))] S1 = some (.inl (some (.int w)), S2) := h2
  refine Nx_2 h hL hi gd (l5 := .int k) (l6 := .int w) ((B_L_main_1486 _ _ _ _ _ _ _ _ _).trans ?_)
  rw [gT1 h.2.1 hL hi, obs, h1', kC1_v, gT1 c1 hL hi, obs, h2', kC1_v]
  exact tl th hk (fun s7 => den 200 m_L_main 2775 [.ref (pSB + 1000), .ref 0, .ref 30, .ref 58, .int (Int32.ofNat i), .int k, .int w, mk0] [] s7)
theorem Nx_packing {L i : Nat} {xs : Nat → Int32} {S : pS} (h : Lp L xs i S) (hL : L ≤ 4608) (hi : i + 9 ≤ L) (l5 l6 : Value) : Nx L xs i (den 200 m_L_main 1542 [.ref (pSB + 1000), .ref 0, .ref 30, .ref 58, .int (Int32.ofNat i), l5, l6, mk0] [] S) := by
  obtain ⟨L', s, τ, m, n, q, l, I, hd⟩ := h.1
  obtain ⟨v, S1, S2, h1, h2, gd, hj⟩ := P_packing I hd
  have c1 := Lp_1 h hL hi gd hj
  have h1' : vcall 200 m_Y_packing [.ref 0] S = some (.inl (some (.int v)), S1) := h1
  have h2' : vcall 200 m_R_packing [.ref 30] S1 = some (.inl (some (.int v)), S2) := h2
  refine Nx_2 h hL hi gd (l5 := l5) (l6 := l6) ((B_L_main_1542 _ _ _ _ _ _ _ _ _).trans ?_)
  rw [h1', kC1_v, h2', kC1_v, if_pos rfl]
theorem Nx_packed {L i : Nat} {xs : Nat → Int32} {S : pS} (h : Lp L xs i S) (hL : L ≤ 4608) (hi : i + 9 ≤ L) (l5 l6 : Value) : Nx L xs i (den 200 m_L_main 1555 [.ref (pSB + 1000), .ref 0, .ref 30, .ref 58, .int (Int32.ofNat i), l5, l6, mk0] [] S) := by
  obtain ⟨L', s, τ, m, n, q, l, I, hd⟩ := h.1
  obtain ⟨k, S1, w, S2, h1, h2, th, hk, gd, hj⟩ := P_packed I hd (xs (i + 1))
  have c1 := Lp_1 h hL hi gd hj
  have h1' : call 200 m_L_packed [.ref 0, .int (xs (i + 1)), .ref 58] S = some (.inl (some (.int k)), S1) := h1
  have h2' : vcall 200 m_R_packed [.ref 30, .int (xs (i + 1))] S1 = some (.inl (some (.int w)), S2) := h2
  refine Nx_2 h hL hi gd (l5 := .int k) (l6 := .int w) ((B_L_main_1555 _ _ _ _ _ _ _ _ _).trans ?_)
  rw [gT1 h.2.1 hL hi, obs, h1', kC1_v, gT1 c1 hL hi, obs, h2', kC1_v]
  exact tl th hk (fun s7 => den 200 m_L_main 2775 [.ref (pSB + 1000), .ref 0, .ref 30, .ref 58, .int (Int32.ofNat i), .int k, .int w, mk0] [] s7)
theorem Nx_well {L i : Nat} {xs : Nat → Int32} {S : pS} (h : Lp L xs i S) (hL : L ≤ 4608) (hi : i + 9 ≤ L) (l5 l6 : Value) : Nx L xs i (den 200 m_L_main 1611 [.ref (pSB + 1000), .ref 0, .ref 30, .ref 58, .int (Int32.ofNat i), l5, l6, mk0] [] S) := by
  obtain ⟨L', s, τ, m, n, q, l, I, hd⟩ := h.1
  obtain ⟨k, S1, w, S2, h1, h2, th, hk, gd, hj⟩ := P_well I hd (xs (i + 1)) (xs (i + 2)) (xs (i + 3))
  have c1 := Lp_1 h hL hi gd hj
  have h1' : call 200 m_L_well [.ref 0, .int (xs (i + 1)), .int (xs (i + 2)), .int (xs (i + 3)), .ref 58] S = some (.inl (some (.int k)), S1) := h1
  have h2' : vcall 200 m_R_well [.ref 30, .int (xs (i + 1)), .int (xs (i + 2)), .int (xs (i + 3))] S1 = some (.inl (some (.long w)), S2) := h2
  refine Nx_2 h hL hi gd (l5 := .int k) (l6 := .long w) ((B_L_main_1611 _ _ _ _ _ _ _ _ _).trans ?_)
  rw [gT1 h.2.1 hL hi, obs, gT2 h.2.1 hL hi, obs, gT3 h.2.1 hL hi, obs, h1', kC1_v, gT1 c1 hL hi, obs, gT2 c1 hL hi, obs, gT3 c1 hL hi, obs, h2', kC2_v]
  exact tl th hk (fun s7 => den 200 m_L_main 2775 [.ref (pSB + 1000), .ref 0, .ref 30, .ref 58, .int (Int32.ofNat i), .int k, .long w, mk0] [] s7)
theorem Nx_getsUp {L i : Nat} {xs : Nat → Int32} {S : pS} (h : Lp L xs i S) (hL : L ≤ 4608) (hi : i + 9 ≤ L) (l5 l6 : Value) : Nx L xs i (den 200 m_L_main 1690 [.ref (pSB + 1000), .ref 0, .ref 30, .ref 58, .int (Int32.ofNat i), l5, l6, mk0] [] S) := by
  obtain ⟨L', s, τ, m, n, q, l, I, hd⟩ := h.1
  obtain ⟨k, S1, w, S2, h1, h2, th, hk, gd, hj⟩ := P_getsUp I hd (xs (i + 1)) (xs (i + 2)) (xs (i + 3)) (xs (i + 4))
  have c1 := Lp_1 h hL hi gd hj
  have h1' : call 200 m_L_getsUp [.ref 0, .int (xs (i + 1)), .int (xs (i + 2)), .int (xs (i + 3)), .int (xs (i + 4)), .ref 58] S = some (.inl (some (.int k)), S1) := h1
  have h2' : vcall 200 m_R_getsUp [.ref 30, .int (xs (i + 1)), .int (xs (i + 2)), .int (xs (i + 3)), .int (xs (i + 4))] S1 = some (.inl (some (.int w)), S2) := h2
  refine Nx_2 h hL hi gd (l5 := .int k) (l6 := .int w) ((B_L_main_1690 _ _ _ _ _ _ _ _ _).trans ?_)
  rw [gT1 h.2.1 hL hi, obs, gT2 h.2.1 hL hi, obs, gT3 h.2.1 hL hi, obs, gT4 h.2.1 hL hi, obs, h1', kC1_v, gT1 c1 hL hi, obs, gT2 c1 hL hi, obs, gT3 c1 hL hi, obs, gT4 c1 hL hi, obs, h2', kC1_v]
  exact tl th hk (fun s7 => den 200 m_L_main 2775 [.ref (pSB + 1000), .ref 0, .ref 30, .ref 58, .int (Int32.ofNat i), .int k, .int w, mk0] [] s7)
theorem Nx_food {L i : Nat} {xs : Nat → Int32} {S : pS} (h : Lp L xs i S) (hL : L ≤ 4608) (hi : i + 9 ≤ L) (l5 l6 : Value) : Nx L xs i (den 200 m_L_main 1782 [.ref (pSB + 1000), .ref 0, .ref 30, .ref 58, .int (Int32.ofNat i), l5, l6, mk0] [] S) := by
  obtain ⟨L', s, τ, m, n, q, l, I, hd⟩ := h.1
  obtain ⟨k, S1, w, S2, h1, h2, th, hk, gd, hj⟩ := P_food I hd (xs (i + 1)) (xs (i + 2)) (xs (i + 3))
  have c1 := Lp_1 h hL hi gd hj
  have h1' : call 200 m_L_food [.ref 0, .int (xs (i + 1)), .int (xs (i + 2)), .int (xs (i + 3)), .ref 58] S = some (.inl (some (.int k)), S1) := h1
  have h2' : vcall 200 m_R_food [.ref 30, .int (xs (i + 1)), .int (xs (i + 2)), .int (xs (i + 3))] S1 = some (.inl (some (.int w)), S2) := h2
  refine Nx_2 h hL hi gd (l5 := .int k) (l6 := .int w) ((B_L_main_1782 _ _ _ _ _ _ _ _ _).trans ?_)
  rw [gT1 h.2.1 hL hi, obs, gT2 h.2.1 hL hi, obs, gT3 h.2.1 hL hi, obs, h1', kC1_v, gT1 c1 hL hi, obs, gT2 c1 hL hi, obs, gT3 c1 hL hi, obs, h2', kC1_v]
  exact tl th hk (fun s7 => den 200 m_L_main 2775 [.ref (pSB + 1000), .ref 0, .ref 30, .ref 58, .int (Int32.ofNat i), .int k, .int w, mk0] [] s7)
theorem Nx_darkest {L i : Nat} {xs : Nat → Int32} {S : pS} (h : Lp L xs i S) (hL : L ≤ 4608) (hi : i + 9 ≤ L) (l5 l6 : Value) : Nx L xs i (den 200 m_L_main 1862 [.ref (pSB + 1000), .ref 0, .ref 30, .ref 58, .int (Int32.ofNat i), l5, l6, mk0] [] S) := by
  obtain ⟨L', s, τ, m, n, q, l, I, hd⟩ := h.1
  obtain ⟨k, S1, w, S2, h1, h2, th, hk, gd, hj⟩ := P_darkest I hd (xs (i + 1))
  have c1 := Lp_1 h hL hi gd hj
  have h1' : call 200 m_L_darkest [.ref 0, .int (xs (i + 1)), .ref 58] S = some (.inl (some (.int k)), S1) := h1
  have h2' : vcall 200 m_R_darkest [.ref 30, .int (xs (i + 1))] S1 = some (.inl (some (.int w)), S2) := h2
  refine Nx_2 h hL hi gd (l5 := .int k) (l6 := .int w) ((B_L_main_1862 _ _ _ _ _ _ _ _ _).trans ?_)
  rw [gT1 h.2.1 hL hi, obs, h1', kC1_v, gT1 c1 hL hi, obs, h2', kC1_v]
  exact tl th hk (fun s7 => den 200 m_L_main 2775 [.ref (pSB + 1000), .ref 0, .ref 30, .ref 58, .int (Int32.ofNat i), .int k, .int w, mk0] [] s7)
theorem Nx_stillest {L i : Nat} {xs : Nat → Int32} {S : pS} (h : Lp L xs i S) (hL : L ≤ 4608) (hi : i + 9 ≤ L) (l5 l6 : Value) : Nx L xs i (den 200 m_L_main 1918 [.ref (pSB + 1000), .ref 0, .ref 30, .ref 58, .int (Int32.ofNat i), l5, l6, mk0] [] S) := by
  obtain ⟨L', s, τ, m, n, q, l, I, hd⟩ := h.1
  obtain ⟨k, S1, w, S2, h1, h2, th, hk, gd, hj⟩ := P_stillest I hd (xs (i + 1))
  have c1 := Lp_1 h hL hi gd hj
  have h1' : call 200 m_L_stillest [.ref 0, .int (xs (i + 1)), .ref 58] S = some (.inl (some (.int k)), S1) := h1
  have h2' : vcall 200 m_R_stillest [.ref 30, .int (xs (i + 1))] S1 = some (.inl (some (.int w)), S2) := h2
  refine Nx_2 h hL hi gd (l5 := .int k) (l6 := .int w) ((B_L_main_1918 _ _ _ _ _ _ _ _ _).trans ?_)
  rw [gT1 h.2.1 hL hi, obs, h1', kC1_v, gT1 c1 hL hi, obs, h2', kC1_v]
  exact tl th hk (fun s7 => den 200 m_L_main 2775 [.ref (pSB + 1000), .ref 0, .ref 30, .ref 58, .int (Int32.ofNat i), .int k, .int w, mk0] [] s7)
theorem Nx_stains {L i : Nat} {xs : Nat → Int32} {S : pS} (h : Lp L xs i S) (hL : L ≤ 4608) (hi : i + 9 ≤ L) (l5 l6 : Value) : Nx L xs i (den 200 m_L_main 1974 [.ref (pSB + 1000), .ref 0, .ref 30, .ref 58, .int (Int32.ofNat i), l5, l6, mk0] [] S) := by
  obtain ⟨L', s, τ, m, n, q, l, I, hd⟩ := h.1
  obtain ⟨k, S1, w, S2, h1, h2, th, hk, gd, hj⟩ := P_stains I hd (xs (i + 1))
  have c1 := Lp_1 h hL hi gd hj
  have h1' : call 200 m_L_stains [.ref 0, .int (xs (i + 1)), .ref 58] S = some (.inl (some (.int k)), S1) := h1
  have h2' : vcall 200 m_R_stains [.ref 30, .int (xs (i + 1))] S1 = some (.inl (some (.int w)), S2) := h2
  refine Nx_2 h hL hi gd (l5 := .int k) (l6 := .int w) ((B_L_main_1974 _ _ _ _ _ _ _ _ _).trans ?_)
  rw [gT1 h.2.1 hL hi, obs, h1', kC1_v, gT1 c1 hL hi, obs, h2', kC1_v]
  exact tl th hk (fun s7 => den 200 m_L_main 2775 [.ref (pSB + 1000), .ref 0, .ref 30, .ref 58, .int (Int32.ofNat i), .int k, .int w, mk0] [] s7)
theorem Nx_hungriest {L i : Nat} {xs : Nat → Int32} {S : pS} (h : Lp L xs i S) (hL : L ≤ 4608) (hi : i + 9 ≤ L) (l5 l6 : Value) : Nx L xs i (den 200 m_L_main 2030 [.ref (pSB + 1000), .ref 0, .ref 30, .ref 58, .int (Int32.ofNat i), l5, l6, mk0] [] S) := by
  obtain ⟨L', s, τ, m, n, q, l, I, hd⟩ := h.1
  obtain ⟨k, S1, w, S2, h1, h2, th, hk, gd, hj⟩ := P_hungriest I hd (xs (i + 1))
  have c1 := Lp_1 h hL hi gd hj
  have h1' : call 200 m_L_hungriest [.ref 0, .int (xs (i + 1)), .ref 58] S = some (.inl (some (.int k)), S1) := h1
  have h2' : vcall 200 m_R_hungriest [.ref 30, .int (xs (i + 1))] S1 = some (.inl (some (.int w)), S2) := h2
  refine Nx_2 h hL hi gd (l5 := .int k) (l6 := .int w) ((B_L_main_2030 _ _ _ _ _ _ _ _ _).trans ?_)
  rw [gT1 h.2.1 hL hi, obs, h1', kC1_v, gT1 c1 hL hi, obs, h2', kC1_v]
  exact tl th hk (fun s7 => den 200 m_L_main 2775 [.ref (pSB + 1000), .ref 0, .ref 30, .ref 58, .int (Int32.ofNat i), .int k, .int w, mk0] [] s7)
theorem Nx_brightest {L i : Nat} {xs : Nat → Int32} {S : pS} (h : Lp L xs i S) (hL : L ≤ 4608) (hi : i + 9 ≤ L) (l5 l6 : Value) : Nx L xs i (den 200 m_L_main 2086 [.ref (pSB + 1000), .ref 0, .ref 30, .ref 58, .int (Int32.ofNat i), l5, l6, mk0] [] S) := by
  obtain ⟨L', s, τ, m, n, q, l, I, hd⟩ := h.1
  obtain ⟨k, S1, w, S2, h1, h2, th, hk, gd, hj⟩ := P_brightest I hd (xs (i + 1))
  have c1 := Lp_1 h hL hi gd hj
  have h1' : call 200 m_L_brightest [.ref 0, .int (xs (i + 1)), .ref 58] S = some (.inl (some (.int k)), S1) := h1
  have h2' : vcall 200 m_R_brightest [.ref 30, .int (xs (i + 1))] S1 = some (.inl (some (.int w)), S2) := h2
  refine Nx_2 h hL hi gd (l5 := .int k) (l6 := .int w) ((B_L_main_2086 _ _ _ _ _ _ _ _ _).trans ?_)
  rw [gT1 h.2.1 hL hi, obs, h1', kC1_v, gT1 c1 hL hi, obs, h2', kC1_v]
  exact tl th hk (fun s7 => den 200 m_L_main 2775 [.ref (pSB + 1000), .ref 0, .ref 30, .ref 58, .int (Int32.ofNat i), .int k, .int w, mk0] [] s7)
theorem Nx_empty {L i : Nat} {xs : Nat → Int32} {S : pS} (h : Lp L xs i S) (hL : L ≤ 4608) (hi : i + 9 ≤ L) (l5 l6 : Value) : Nx L xs i (den 200 m_L_main 2142 [.ref (pSB + 1000), .ref 0, .ref 30, .ref 58, .int (Int32.ofNat i), l5, l6, mk0] [] S) := by
  obtain ⟨L', s, τ, m, n, q, l, I, hd⟩ := h.1
  obtain ⟨k, S1, w, S2, h1, h2, th, hk, gd, hj⟩ := P_empty I hd (xs (i + 1))
  have c1 := Lp_1 h hL hi gd hj
  have h1' : call 200 m_L_empty [.ref 0, .int (xs (i + 1)), .ref 58] S = some (.inl (some (.int k)), S1) := h1
  have h2' : vcall 200 m_R_empty [.ref 30, .int (xs (i + 1))] S1 = some (.inl (some (.int w)), S2) := h2
  refine Nx_2 h hL hi gd (l5 := .int k) (l6 := .int w) ((B_L_main_2142 _ _ _ _ _ _ _ _ _).trans ?_)
  rw [gT1 h.2.1 hL hi, obs, h1', kC1_v, gT1 c1 hL hi, obs, h2', kC1_v]
  exact tl th hk (fun s7 => den 200 m_L_main 2775 [.ref (pSB + 1000), .ref 0, .ref 30, .ref 58, .int (Int32.ofNat i), .int k, .int w, mk0] [] s7)
theorem Nx_rising {L i : Nat} {xs : Nat → Int32} {S : pS} (h : Lp L xs i S) (hL : L ≤ 4608) (hi : i + 9 ≤ L) (l5 l6 : Value) : Nx L xs i (den 200 m_L_main 2198 [.ref (pSB + 1000), .ref 0, .ref 30, .ref 58, .int (Int32.ofNat i), l5, l6, mk0] [] S) := by
  obtain ⟨L', s, τ, m, n, q, l, I, hd⟩ := h.1
  obtain ⟨k, S1, w, S2, h1, h2, th, hk, gd, hj⟩ := P_rising I hd (xs (i + 1))
  have c1 := Lp_1 h hL hi gd hj
  have h1' : call 200 m_L_rising [.ref 0, .int (xs (i + 1)), .ref 58] S = some (.inl (some (.int k)), S1) := h1
  have h2' : vcall 200 m_R_rising [.ref 30, .int (xs (i + 1))] S1 = some (.inl (some (.int w)), S2) := h2
  refine Nx_2 h hL hi gd (l5 := .int k) (l6 := .int w) ((B_L_main_2198 _ _ _ _ _ _ _ _ _).trans ?_)
  rw [gT1 h.2.1 hL hi, obs, h1', kC1_v, gT1 c1 hL hi, obs, h2', kC1_v]
  exact tl th hk (fun s7 => den 200 m_L_main 2775 [.ref (pSB + 1000), .ref 0, .ref 30, .ref 58, .int (Int32.ofNat i), .int k, .int w, mk0] [] s7)
theorem Nx_gains {L i : Nat} {xs : Nat → Int32} {S : pS} (h : Lp L xs i S) (hL : L ≤ 4608) (hi : i + 9 ≤ L) (l5 l6 : Value) : Nx L xs i (den 200 m_L_main 2254 [.ref (pSB + 1000), .ref 0, .ref 30, .ref 58, .int (Int32.ofNat i), l5, l6, mk0] [] S) := by
  obtain ⟨L', s, τ, m, n, q, l, I, hd⟩ := h.1
  obtain ⟨k, S1, w, S2, h1, h2, th, hk, gd, hj⟩ := P_gains I hd (xs (i + 1)) (xs (i + 2))
  have c1 := Lp_1 h hL hi gd hj
  have h1' : call 200 m_L_gains [.ref 0, .int (xs (i + 1)), .int (xs (i + 2)), .ref 58] S = some (.inl (some (.int k)), S1) := h1
  have h2' : vcall 200 m_R_gains [.ref 30, .int (xs (i + 1)), .int (xs (i + 2))] S1 = some (.inl (some (.int w)), S2) := h2
  refine Nx_2 h hL hi gd (l5 := .int k) (l6 := .int w) ((B_L_main_2254 _ _ _ _ _ _ _ _ _).trans ?_)
  rw [gT1 h.2.1 hL hi, obs, gT2 h.2.1 hL hi, obs, h1', kC1_v, gT1 c1 hL hi, obs, gT2 c1 hL hi, obs, h2', kC1_v]
  exact tl th hk (fun s7 => den 200 m_L_main 2775 [.ref (pSB + 1000), .ref 0, .ref 30, .ref 58, .int (Int32.ofNat i), .int k, .int w, mk0] [] s7)
theorem Nx_absent {L i : Nat} {xs : Nat → Int32} {S : pS} (h : Lp L xs i S) (hL : L ≤ 4608) (hi : i + 9 ≤ L) (l5 l6 : Value) : Nx L xs i (den 200 m_L_main 2322 [.ref (pSB + 1000), .ref 0, .ref 30, .ref 58, .int (Int32.ofNat i), l5, l6, mk0] [] S) := by
  obtain ⟨L', s, τ, m, n, q, l, I, hd⟩ := h.1
  obtain ⟨v, S1, S2, h1, h2, gd, hj⟩ := P_absent I hd
  have c1 := Lp_1 h hL hi gd hj
  have h1' : vcall 200 m_Y_absent [.ref 0] S = some (.inl (some (.int v)), S1) := h1
  have h2' : vcall 200 m_R_absent [.ref 30] S1 = some (.inl (some (.int v)), S2) := h2
  refine Nx_2 h hL hi gd (l5 := l5) (l6 := l6) ((B_L_main_2322 _ _ _ _ _ _ _ _ _).trans ?_)
  rw [h1', kC1_v, h2', kC1_v, if_pos rfl]
theorem Nx_crowd {L i : Nat} {xs : Nat → Int32} {S : pS} (h : Lp L xs i S) (hL : L ≤ 4608) (hi : i + 9 ≤ L) (l5 l6 : Value) : Nx L xs i (den 200 m_L_main 2335 [.ref (pSB + 1000), .ref 0, .ref 30, .ref 58, .int (Int32.ofNat i), l5, l6, mk0] [] S) := by
  obtain ⟨L', s, τ, m, n, q, l, I, hd⟩ := h.1
  obtain ⟨k, S1, w, S2, h1, h2, th, hk, gd, hj⟩ := P_crowd I hd (xs (i + 1))
  have c1 := Lp_1 h hL hi gd hj
  have h1' : call 200 m_L_crowd [.ref 0, .int (xs (i + 1)), .ref 58] S = some (.inl (some (.int k)), S1) := h1
  have h2' : vcall 200 m_R_crowd [.ref 30, .int (xs (i + 1))] S1 = some (.inl (some (.int w)), S2) := h2
  refine Nx_2 h hL hi gd (l5 := .int k) (l6 := .int w) ((B_L_main_2335 _ _ _ _ _ _ _ _ _).trans ?_)
  rw [gT1 h.2.1 hL hi, obs, h1', kC1_v, gT1 c1 hL hi, obs, h2', kC1_v]
  exact tl th hk (fun s7 => den 200 m_L_main 2775 [.ref (pSB + 1000), .ref 0, .ref 30, .ref 58, .int (Int32.ofNat i), .int k, .int w, mk0] [] s7)
theorem Nx_need {L i : Nat} {xs : Nat → Int32} {S : pS} (h : Lp L xs i S) (hL : L ≤ 4608) (hi : i + 9 ≤ L) (l5 l6 : Value) : Nx L xs i (den 200 m_L_main 2391 [.ref (pSB + 1000), .ref 0, .ref 30, .ref 58, .int (Int32.ofNat i), l5, l6, mk0] [] S) := by
  obtain ⟨L', s, τ, m, n, q, l, I, hd⟩ := h.1
  obtain ⟨k, S1, w, S2, h1, h2, th, hk, gd, hj⟩ := P_need I hd (xs (i + 1))
  have c1 := Lp_1 h hL hi gd hj
  have h1' : call 200 m_L_need [.ref 0, .int (xs (i + 1)), .ref 58] S = some (.inl (some (.int k)), S1) := h1
  have h2' : vcall 200 m_R_need [.ref 30, .int (xs (i + 1))] S1 = some (.inl (some (.int w)), S2) := h2
  refine Nx_2 h hL hi gd (l5 := .int k) (l6 := .int w) ((B_L_main_2391 _ _ _ _ _ _ _ _ _).trans ?_)
  rw [gT1 h.2.1 hL hi, obs, h1', kC1_v, gT1 c1 hL hi, obs, h2', kC1_v]
  exact tl th hk (fun s7 => den 200 m_L_main 2775 [.ref (pSB + 1000), .ref 0, .ref 30, .ref 58, .int (Int32.ofNat i), .int k, .int w, mk0] [] s7)
theorem Nx_lead {L i : Nat} {xs : Nat → Int32} {S : pS} (h : Lp L xs i S) (hL : L ≤ 4608) (hi : i + 9 ≤ L) (l5 l6 : Value) : Nx L xs i (den 200 m_L_main 2447 [.ref (pSB + 1000), .ref 0, .ref 30, .ref 58, .int (Int32.ofNat i), l5, l6, mk0] [] S) := by
  obtain ⟨L', s, τ, m, n, q, l, I, hd⟩ := h.1
  obtain ⟨k, S1, w, S2, h1, h2, th, hk, gd, hj⟩ := P_lead I hd (xs (i + 1))
  have c1 := Lp_1 h hL hi gd hj
  have h1' : call 200 m_L_lead [.ref 0, .int (xs (i + 1)), .ref 58] S = some (.inl (some (.int k)), S1) := h1
  have h2' : vcall 200 m_R_lead [.ref 30, .int (xs (i + 1))] S1 = some (.inl (some (.int w)), S2) := h2
  refine Nx_2 h hL hi gd (l5 := .int k) (l6 := .int w) ((B_L_main_2447 _ _ _ _ _ _ _ _ _).trans ?_)
  rw [gT1 h.2.1 hL hi, obs, h1', kC1_v, gT1 c1 hL hi, obs, h2', kC1_v]
  exact tl th hk (fun s7 => den 200 m_L_main 2775 [.ref (pSB + 1000), .ref 0, .ref 30, .ref 58, .int (Int32.ofNat i), .int k, .int w, mk0] [] s7)
theorem Nx_season {L i : Nat} {xs : Nat → Int32} {S : pS} (h : Lp L xs i S) (hL : L ≤ 4608) (hi : i + 9 ≤ L) (l5 l6 : Value) : Nx L xs i (den 200 m_L_main 2503 [.ref (pSB + 1000), .ref 0, .ref 30, .ref 58, .int (Int32.ofNat i), l5, l6, mk0] [] S) := by
  obtain ⟨L', s, τ, m, n, q, l, I, hd⟩ := h.1
  obtain ⟨k, S1, w, S2, h1, h2, th, hk, gd, hj⟩ := P_season I hd (xs (i + 1)) (xs (i + 2)) (xs (i + 3)) (xs (i + 4))
  have c1 := Lp_1 h hL hi gd hj
  have h1' : call 200 m_L_season [.ref 0, .int (xs (i + 1)), .int (xs (i + 2)), .int (xs (i + 3)), .int (xs (i + 4)), .ref 58] S = some (.inl (some (.int k)), S1) := h1
  have h2' : vcall 200 m_R_season [.ref 30, .int (xs (i + 1)), .int (xs (i + 2)), .int (xs (i + 3)), .int (xs (i + 4))] S1 = some (.inl (some (.int w)), S2) := h2
  refine Nx_2 h hL hi gd (l5 := .int k) (l6 := .int w) ((B_L_main_2503 _ _ _ _ _ _ _ _ _).trans ?_)
  rw [gT1 h.2.1 hL hi, obs, gT2 h.2.1 hL hi, obs, gT3 h.2.1 hL hi, obs, gT4 h.2.1 hL hi, obs, h1', kC1_v, gT1 c1 hL hi, obs, gT2 c1 hL hi, obs, gT3 c1 hL hi, obs, gT4 c1 hL hi, obs, h2', kC1_v]
  exact tl th hk (fun s7 => den 200 m_L_main 2775 [.ref (pSB + 1000), .ref 0, .ref 30, .ref 58, .int (Int32.ofNat i), .int k, .int w, mk0] [] s7)
theorem Nx_span {L i : Nat} {xs : Nat → Int32} {S : pS} (h : Lp L xs i S) (hL : L ≤ 4608) (hi : i + 9 ≤ L) (l5 l6 : Value) : Nx L xs i (den 200 m_L_main 2595 [.ref (pSB + 1000), .ref 0, .ref 30, .ref 58, .int (Int32.ofNat i), l5, l6, mk0] [] S) := by
  obtain ⟨L', s, τ, m, n, q, l, I, hd⟩ := h.1
  obtain ⟨k, S1, w, S2, h1, h2, th, hk, gd, hj⟩ := P_span I hd (xs (i + 1)) (xs (i + 2)) (xs (i + 3)) (xs (i + 4)) (xs (i + 5))
  have c1 := Lp_1 h hL hi gd hj
  have h1' : call 200 m_L_span [.ref 0, .int (xs (i + 1)), .int (xs (i + 2)), .int (xs (i + 3)), .int (xs (i + 4)), .int (xs (i + 5)), .ref 58] S = some (.inl (some (.int k)), S1) := h1
  have h2' : vcall 200 m_R_span [.ref 30, .int (xs (i + 1)), .int (xs (i + 2)), .int (xs (i + 3)), .int (xs (i + 4)), .int (xs (i + 5))] S1 = some (.inl (some (.int w)), S2) := h2
  refine Nx_2 h hL hi gd (l5 := .int k) (l6 := .int w) ((B_L_main_2595 _ _ _ _ _ _ _ _ _).trans ?_)
  rw [gT1 h.2.1 hL hi, obs, gT2 h.2.1 hL hi, obs, gT3 h.2.1 hL hi, obs, gT4 h.2.1 hL hi, obs, gT5 h.2.1 hL hi, obs, h1', kC1_v, gT1 c1 hL hi, obs, gT2 c1 hL hi, obs, gT3 c1 hL hi, obs, gT4 c1 hL hi, obs, gT5 c1 hL hi, obs, h2', kC1_v]
  exact tl th hk (fun s7 => den 200 m_L_main 2775 [.ref (pSB + 1000), .ref 0, .ref 30, .ref 58, .int (Int32.ofNat i), .int k, .int w, mk0] [] s7)
theorem Nx_image {L i : Nat} {xs : Nat → Int32} {S : pS} (h : Lp L xs i S) (hL : L ≤ 4608) (hi : i + 9 ≤ L) (l5 l6 : Value) : Nx L xs i (den 200 m_L_main 2699 [.ref (pSB + 1000), .ref 0, .ref 30, .ref 58, .int (Int32.ofNat i), l5, l6, mk0] [] S) := by
  obtain ⟨L', s, τ, m, n, q, l, I, hd⟩ := h.1
  obtain ⟨v, S1, S2, h1, h2, gd, hj⟩ := P_image I hd
  have c1 := Lp_1 h hL hi gd hj
  have h1' : vcall 200 m_Y_image [.ref 0] S = some (.inl (some (.int v)), S1) := h1
  have h2' : vcall 200 m_R_image [.ref 30] S1 = some (.inl (some (.int v)), S2) := h2
  refine Nx_2 h hL hi gd (l5 := l5) (l6 := l6) ((B_L_main_2699 _ _ _ _ _ _ _ _ _).trans ?_)
  rw [h1', kC1_v, h2', kC1_v, if_pos rfl]
theorem Nx_restore {L i : Nat} {xs : Nat → Int32} {S : pS} (h : Lp L xs i S) (hL : L ≤ 4608) (hi : i + 9 ≤ L) (l5 l6 : Value) : Nx L xs i (den 200 m_L_main 2712 [.ref (pSB + 1000), .ref 0, .ref 30, .ref 58, .int (Int32.ofNat i), l5, l6, mk0] [] S) := by
  obtain ⟨L', s, τ, m, n, q, l, I, hd⟩ := h.1
  obtain ⟨v, S1, S2, h1, h2, gd, hj⟩ := P_restore I hd
  have c1 := Lp_1 h hL hi gd hj
  have h1' : vcall 200 m_Y_restore [.ref 0] S = some (.inl (some (.int v)), S1) := h1
  have h2' : vcall 200 m_R_restore [.ref 30] S1 = some (.inl (some (.int v)), S2) := h2
  refine Nx_2 h hL hi gd (l5 := l5) (l6 := l6) ((B_L_main_2712 _ _ _ _ _ _ _ _ _).trans ?_)
  rw [h1', kC1_v, h2', kC1_v, if_pos rfl]
theorem Nx_status {L i : Nat} {xs : Nat → Int32} {S : pS} (h : Lp L xs i S) (hL : L ≤ 4608) (hi : i + 9 ≤ L) (l5 l6 : Value) : Nx L xs i (den 200 m_L_main 2725 [.ref (pSB + 1000), .ref 0, .ref 30, .ref 58, .int (Int32.ofNat i), l5, l6, mk0] [] S) := by
  obtain ⟨L', s, τ, m, n, q, l, I, hd⟩ := h.1
  obtain ⟨v, S1, S2, h1, h2, gd, hj⟩ := P_status I hd (xs (i + 1))
  have c1 := Lp_1 h hL hi gd hj
  have h1' : vcall 200 m_Y_status [.ref 0, .int (xs (i + 1))] S = some (.inl (some (.int v)), S1) := h1
  have h2' : vcall 200 m_R_status [.ref 30, .int (xs (i + 1))] S1 = some (.inl (some (.int v)), S2) := h2
  refine Nx_2 h hL hi gd (l5 := l5) (l6 := l6) ((B_L_main_2725 _ _ _ _ _ _ _ _ _).trans ?_)
  rw [gT1 h.2.1 hL hi, obs, h1', kC1_v, gT1 c1 hL hi, obs, h2', kC1_v, if_pos rfl]
theorem Nx_count {L i : Nat} {xs : Nat → Int32} {S : pS} (h : Lp L xs i S) (hL : L ≤ 4608) (hi : i + 9 ≤ L) (l5 l6 : Value) : Nx L xs i (den 200 m_L_main 2750 [.ref (pSB + 1000), .ref 0, .ref 30, .ref 58, .int (Int32.ofNat i), l5, l6, mk0] [] S) := by
  obtain ⟨L', s, τ, m, n, q, l, I, hd⟩ := h.1
  obtain ⟨v, S1, S2, h1, h2, gd, hj⟩ := P_count I hd (xs (i + 1))
  have c1 := Lp_1 h hL hi gd hj
  have h1' : vcall 200 m_Y_count [.ref 0, .int (xs (i + 1))] S = some (.inl (some (.int v)), S1) := h1
  have h2' : vcall 200 m_R_count [.ref 30, .int (xs (i + 1))] S1 = some (.inl (some (.int v)), S2) := h2
  refine Nx_2 h hL hi gd (l5 := l5) (l6 := l6) ((B_L_main_2750 _ _ _ _ _ _ _ _ _).trans ?_)
  rw [gT1 h.2.1 hL hi, obs, h1', kC1_v, gT1 c1 hL hi, obs, h2', kC1_v, if_pos rfl]
theorem Nx_i {L i : Nat} {xs : Nat → Int32} {c : Prop} [Decidable c] {a b : pR} (ha : Nx L xs i a) (hb : Nx L xs i b) : Nx L xs i (if c then a else b) := by
  split
  · exact ha
  · exact hb
theorem Gd_rf {S : pS} (h : Inv S) : Gd S S := ⟨h, Nat.le_refl _, by omega, by omega, fun _ _ => rfl⟩
theorem end_y {L i : Nat} (hi : i + 9 ≤ L) (hL : L ≤ 4608) : ¬ (Int32.ofNat L - 9 : Int32) < Int32.ofNat i := by
  obtain ⟨k, rfl⟩ : ∃ k, L = k + 9 := ⟨L - 9, by omega⟩
  rw [show Int32.ofNat (k + 9) - 9 = Int32.ofNat k by rw [← ii_add]; exact Int32.add_sub_cancel _ _, ii_lt (by omega) (by omega)]
  omega
theorem end_n {L i : Nat} (hi : L < i + 9) (hL : L ≤ 4608) (hl : i ≤ L) : (Int32.ofNat L - 9 : Int32) < Int32.ofNat i := by
  by_cases g : 9 ≤ L
  · obtain ⟨k, rfl⟩ : ∃ k, L = k + 9 := ⟨L - 9, by omega⟩
    rw [show Int32.ofNat (k + 9) - 9 = Int32.ofNat k by rw [← ii_add]; exact Int32.add_sub_cancel _ _, ii_lt (by omega) (by omega)]
    omega
  · have h0 : (Int32.ofNat L - 9 : Int32) < 0 := by
      have : L = 0 ∨ L = 1 ∨ L = 2 ∨ L = 3 ∨ L = 4 ∨ L = 5 ∨ L = 6 ∨ L = 7 ∨ L = 8 := by omega
      rcases this with rfl | rfl | rfl | rfl | rfl | rfl | rfl | rfl | rfl <;> decide
    refine Int32.lt_of_lt_of_le h0 ?_
    show Int32.ofNat 0 ≤ _
    rw [ii_le (by omega) (by omega)]
    omega
theorem Nx_23 {L i : Nat} {xs : Nat → Int32} {S : pS} (h : Lp L xs i S) (hL : L ≤ 4608) (hi : i + 9 ≤ L) (l5 l6 : Value) : Nx L xs i (den 200 m_L_main 23 [.ref (pSB + 1000), .ref 0, .ref 30, .ref 58, .int (Int32.ofNat i), l5, l6, mk0] [] S) := by
  rw [B_L_main_23, gT_n h.2.1, obs, if_neg (end_y hi hL), gT_at h.2.1 (by omega) (by omega), obs]
  exact Nx_i (Nx_feed h hL hi l5 l6) (Nx_i (Nx_studio h hL hi l5 l6) (Nx_i (Nx_law h hL hi l5 l6) (Nx_i (Nx_work h hL hi l5 l6) (Nx_i (Nx_book h hL hi l5 l6) (Nx_i (Nx_fault h hL hi l5 l6) (Nx_i (Nx_undo h hL hi l5 l6) (Nx_i (Nx_told h hL hi l5 l6) (Nx_i (Nx_seat h hL hi l5 l6) (Nx_i (Nx_sitter h hL hi l5 l6) (Nx_i (Nx_plate h hL hi l5 l6) (Nx_i (Nx_sitting h hL hi l5 l6) (Nx_i (Nx_mark h hL hi l5 l6) (Nx_i (Nx_would h hL hi l5 l6) (Nx_i (Nx_share h hL hi l5 l6) (Nx_i (Nx_ahead h hL hi l5 l6) (Nx_i (Nx_when h hL hi l5 l6) (Nx_i (Nx_meals h hL hi l5 l6) (Nx_i (Nx_goings h hL hi l5 l6) (Nx_i (Nx_bright h hL hi l5 l6) (Nx_i (Nx_places h hL hi l5 l6) (Nx_i (Nx_placed h hL hi l5 l6) (Nx_i (Nx_packing h hL hi l5 l6) (Nx_i (Nx_packed h hL hi l5 l6) (Nx_i (Nx_well h hL hi l5 l6) (Nx_i (Nx_getsUp h hL hi l5 l6) (Nx_i (Nx_food h hL hi l5 l6) (Nx_i (Nx_darkest h hL hi l5 l6) (Nx_i (Nx_stillest h hL hi l5 l6) (Nx_i (Nx_stains h hL hi l5 l6) (Nx_i (Nx_hungriest h hL hi l5 l6) (Nx_i (Nx_brightest h hL hi l5 l6) (Nx_i (Nx_empty h hL hi l5 l6) (Nx_i (Nx_rising h hL hi l5 l6) (Nx_i (Nx_gains h hL hi l5 l6) (Nx_i (Nx_absent h hL hi l5 l6) (Nx_i (Nx_crowd h hL hi l5 l6) (Nx_i (Nx_need h hL hi l5 l6) (Nx_i (Nx_lead h hL hi l5 l6) (Nx_i (Nx_season h hL hi l5 l6) (Nx_i (Nx_span h hL hi l5 l6) (Nx_i (Nx_image h hL hi l5 l6) (Nx_i (Nx_restore h hL hi l5 l6) (Nx_i (Nx_status h hL hi l5 l6) (Nx_i (Nx_count h hL hi l5 l6) (Nx_2 h hL hi (Gd_rf h.1) (l5 := l5) (l6 := l6) rfl)))))))))))))))))))))))))))))))))))))))))))))
theorem LOOP {L : Nat} {xs : Nat → Int32} (hL : L ≤ 4608) : ∀ (n i : Nat) (S : pS) (l5 l6 : Value), L ≤ i + n → i ≤ L → Lp L xs i S → ∃ S', den 200 m_L_main 23 [.ref (pSB + 1000), .ref 0, .ref 30, .ref 58, .int (Int32.ofNat i), l5, l6, mk0] [] S = some (.inl (some (.int 1)), S') ∧ S'.1 ≤ 601024 ∧ S'.2.1 ≤ 7293034 := by
  intro n
  induction n with
  | zero =>
    intro i S l5 l6 h1 h2 h
    obtain ⟨-, h3, h4, h5⟩ := h
    refine ⟨S, ?_, by omega, by omega⟩
    rw [B_L_main_23, gT_n h3, obs, if_pos (end_n (by omega) hL h2)]
  | succ n ih =>
    intro i S l5 l6 h1 h2 h
    by_cases g : i + 9 ≤ L
    · obtain ⟨l5', l6', S2, e, h'⟩ := Nx_23 h hL g l5 l6
      obtain ⟨S', y1, y2⟩ := ih (i + 9) S2 l5' l6' (by omega) g h'
      exact ⟨S', e.trans y1, y2⟩
    · obtain ⟨-, h3, h4, h5⟩ := h
      refine ⟨S, ?_, by omega, by omega⟩
      rw [B_L_main_23, gT_n h3, obs, if_pos (end_n (by omega) hL h2)]
/-- THE WHOLE RUN: program and reference answer alike on every script -/
theorem fn_main (L : Nat) (xs : Nat → Int32) (hL : L ≤ 4608) : ∃ S' : pS, den 200 m_L_main 0 (ent m_L_main [.ref (pSB + 1000)]) [] (S0 L xs) = some (.inl (some (.int 1)), S') ∧ S'.1 ≤ 601024 ∧ S'.2.1 ≤ 7293034 := by
  have e := L_main_0 (fun j => if j = pSB + 1000 then some (cT L xs) else none)
  have h : Lp L xs 0 (Sb (fun j => if j = pSB + 1000 then some (cT L xs) else none)) := ⟨Sb_Inv _, (Sb_hi (by have e : pSB = 10000000 := rfl; omega)).trans (if_pos rfl), by rw [Sb_1]; omega, by rw [Sb_2]; omega⟩
  obtain ⟨S', y1, y2⟩ := LOOP hL L 0 _ mk0 mk0 (by omega) (by omega) h
  exact ⟨S', e.trans y1, y2⟩
