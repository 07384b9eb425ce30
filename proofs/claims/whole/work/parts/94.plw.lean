/-! A LAW: all of the call -/
/-- what the reference does behind the sum -/
noncomputable def lwT (l1 : Int32) : Nat → pS → pR := fun d s5 => kC1 (vcall d m_R_fine [.ref 30] s5) (fun v7 s6 => (if (v7 : Int32) = 0 then den d m_R_law 77 [.ref 30, .int l1, mk0] [] s6 else kC1 (vcall d m_R_isMore [.ref 30] s6) (fun v9 s8 => (if (v9 : Int32) = 0 then den d m_R_law 77 [.ref 30, .int l1, mk0] [] s8 else ((gFi s8 30 11 4).bind fun v10 => kC0 (vcall d m_R_wrong [.ref 30, .int 1, .int v10] s8) (fun s11 => den d m_R_law 77 [.ref 30, .int l1, mk0] [] s11) xp))) xp)) xp
theorem LAWR {B : Nat → Nat} {N : Nat} (hB : ∀ i, B i < 256) (hN : N ≤ 600) (h150 : N ≤ 150) : (∃ cl : List Nat, cl ≠ [] ∧ cl.length ≤ 150 ∧ hgt cl 0 = true ∧ (∀ d M mm H L s r, 40 ≤ d → Dj L → (∀ j, M ≤ j → Ot L j) → TX B N 0 s → ∃ s' r', Kf [25, 26] [] s s' ∧ LX r' cl ∧ vcall d m_Lw_read [.ref M, .ref 1] (lQ M mm H L s r) = some (.inl (some (.int 1)), lQ M mm H L s' r')) ∧ (∀ d b τ l1, 40 ≤ d → TR B N 0 τ → τ.1 5 = -1 → τ.1 7 = 0 → τ.1 31 = 0 → ∃ τ', Kf [4, 7, 31] [40, 41] τ τ' ∧ LR τ' cl ∧ kC0 (vcall d m_R_readSum [.ref 30] (mS b τ)) (fun s5 => lwT l1 d s5) xp = den d m_R_law 77 [.ref 30, .int l1, mk0] [] (mS b τ'))) ∨ (∃ k p, k ≤ 3 ∧ p ≤ 600 ∧ (∀ d M mm H L s r, 40 ≤ d → Dj L → (∀ j, M ≤ j → Ot L j) → TX B N 0 s → ∃ s' r', Kf [22, 23, 25, 26] [] s s' ∧ FX s' k p ∧ vcall d m_Lw_read [.ref M, .ref 1] (lQ M mm H L s r) = some (.inl (some (.int 0)), lQ M mm H L s' r')) ∧ (∀ d b τ l1, 40 ≤ d → TR B N 0 τ → τ.1 5 = -1 → τ.1 7 = 0 → τ.1 31 = 0 → ∃ τ', Kf [4, 5, 6, 7, 31] [40, 41] τ τ' ∧ FR τ' k p ∧ kC0 (vcall d m_R_readSum [.ref 30] (mS b τ)) (fun s5 => lwT l1 d s5) xp = den d m_R_law 77 [.ref 30, .int l1, mk0] [] (mS b τ'))) := by
  have lx0 : ∀ r : rT, LX (wF r 53 0) [] := fun r => ⟨rfl, fun i hi => by have hi : i < 0 := hi; omega⟩
  have lr0 : ∀ τ : rT, τ.1 31 = 0 → LR τ [] := fun τ h => ⟨h, fun i hi => by have hi : i < 0 := hi; omega⟩
  rcases SUMS hB hN h150 6 0 rfl 0 (Nat.zero_le _) with ⟨a, nc, z1, z2, z3, z4, zX, zR⟩ | ⟨k, p, hk, hp, zX, zR⟩
  · have hne : nc ≠ [] := fun e => by
      subst e
      have := z4 [] 1 (by decide)
      exact absurd this (by decide)
    have hh : hgt nc 0 = true := by
      have := z4 [] 0 (by decide)
      rw [List.append_nil] at this
      exact this.trans rfl
    have hs := sk_le (B := B) z2
    by_cases hg : sk B N a < N
    · refine Or.inr ⟨1, sk B N a, by decide, by omega, fun d M mm H L s r hd D o T => ?_, fun d b τ l1 hd T h5 h7 h31 => ?_⟩
      · obtain ⟨e, rfl⟩ : ∃ e, d = e + 3 := ⟨d - 3, by omega⟩
        obtain ⟨s1, r1, k1, k2, k3, k4⟩ := zX (e + 2) M mm H L s (wF r 53 0) [] (by omega) D o T (lx0 r) (Nat.zero_le _)
        have k4' : vcall (e + 2) m_Lw_readSum [.ref M, .ref 1, .int 0] (lQ M mm H L s (wF r 53 0)) = some (.inl (some (.int 1)), lQ M mm H L s1 r1) := k4
        obtain ⟨s2, j1, j2, j3⟩ := T_peek hB hN e (b := aL M mm (lwL M r1) H) D z2 k2
        have j3' : vcall (e + 2) m_Tp_peek [.ref 1] (lQ M mm H L s1 r1) = some (.inl (some (.int (pkX B N (sk B N a)))), lQ M mm H L s2 r1) := j3
        have fa : vcall (e + 2) m_Tp_failHere [.ref 1] (lQ M mm H L s2 r1) = some (.inl (some (.int 0)), lQ M mm H L (wF (wF s2 23 1) 22 (s2.1 25)) r1) := T_failHere (e + 1) D
        have hb := hB (sk B N a)
        refine ⟨wF (wF s2 23 1) 22 (s2.1 25), r1, (((k1.up (by decide) (by decide)).tr (j1.up (by decide) (by decide))).wF (by decide) _).wF (by decide) _, ⟨rfl, j2.2.1⟩, (lQ_v o rfl).trans ((B_Lw_read_0 _ _ _ _).trans ?_)⟩
        rw [lQ_pF o, obs, k4', kC1_v, if_pos (by decide), j3', kC1_v, if_neg (by unfold pkX; rw [if_pos hg, ii_n1 (by omega)]; exact id), fa, kC1_v, if_pos rfl]
      · obtain ⟨e, rfl⟩ : ∃ e, d = e + 2 := ⟨d - 2, by omega⟩
        obtain ⟨t1, k1, k2, k3, k4, k5⟩ := zR (e + 2) b τ [] (by omega) T h5 h7 (lr0 τ h31) (Nat.zero_le _)
        have h5' : t1.1 5 = -1 := (k1.1 5 (by decide)).trans h5
        obtain ⟨t2, j1, j2, j3⟩ := R_isMore hB hN e b z2 k2
        have h5'' : t2.1 5 = -1 := (j1.1 5 (by decide)).trans h5'
        have g4 : gFi (mS b t2) 30 11 4 = some (Int32.ofNat (sk B N a)) := (gFi_at mS_30 rfl).trans (congrArg some j2.2.1)
        have k5' : vcall (e + 2) m_R_readSum [.ref 30] (mS b τ) = some (.inl none, mS b t1) := k5
        refine ⟨wF (wF t2 5 (Int32.ofNat (sk B N a))) 6 1, (((k1.up (by decide) (by decide)).tr (j1.up (by decide) (by decide))).wF (by decide) _).wF (by decide) _, ⟨rfl, rfl⟩, ?_⟩
        rw [k5', kC0_v]
        unfold lwT
        rw [R_fine1 (e + 1) b h5', kC1_v, if_neg (by decide), j3, kC1_v, if_pos hg, if_neg (by decide), g4, obs, R_wrong (e + 1) b h5'', kC0_v]
    · refine Or.inl ⟨nc, hne, by omega, hh, fun d M mm H L s r hd D o T => ?_, fun d b τ l1 hd T h5 h7 h31 => ?_⟩
      · obtain ⟨e, rfl⟩ : ∃ e, d = e + 3 := ⟨d - 3, by omega⟩
        obtain ⟨s1, r1, k1, k2, k3, k4⟩ := zX (e + 2) M mm H L s (wF r 53 0) [] (by omega) D o T (lx0 r) (Nat.zero_le _)
        have k4' : vcall (e + 2) m_Lw_readSum [.ref M, .ref 1, .int 0] (lQ M mm H L s (wF r 53 0)) = some (.inl (some (.int 1)), lQ M mm H L s1 r1) := k4
        obtain ⟨s2, j1, j2, j3⟩ := T_peek hB hN e (b := aL M mm (lwL M r1) H) D z2 k2
        have j3' : vcall (e + 2) m_Tp_peek [.ref 1] (lQ M mm H L s1 r1) = some (.inl (some (.int (pkX B N (sk B N a)))), lQ M mm H L s2 r1) := j3
        refine ⟨s2, r1, k1.tr (j1.up (by decide) (by decide)), k3, (lQ_v o rfl).trans ((B_Lw_read_0 _ _ _ _).trans ?_)⟩
        rw [lQ_pF o, obs, k4', kC1_v, if_pos (by decide), j3', kC1_v, if_pos (by unfold pkX; rw [if_neg hg])]
      · obtain ⟨e, rfl⟩ : ∃ e, d = e + 2 := ⟨d - 2, by omega⟩
        obtain ⟨t1, k1, k2, k3, k4, k5⟩ := zR (e + 2) b τ [] (by omega) T h5 h7 (lr0 τ h31) (Nat.zero_le _)
        have h5' : t1.1 5 = -1 := (k1.1 5 (by decide)).trans h5
        obtain ⟨t2, j1, j2, j3⟩ := R_isMore hB hN e b z2 k2
        have k5' : vcall (e + 2) m_R_readSum [.ref 30] (mS b τ) = some (.inl none, mS b t1) := k5
        refine ⟨t2, k1.tr (j1.up (by decide) (by decide)), LR_k k4 j1, ?_⟩
        rw [k5', kC0_v]
        unfold lwT
        rw [R_fine1 (e + 1) b h5', kC1_v, if_neg (by decide), j3, kC1_v, if_neg hg, if_pos rfl]
  · refine Or.inr ⟨k, p, hk, hp, fun d M mm H L s r hd D o T => ?_, fun d b τ l1 hd T h5 h7 h31 => ?_⟩
    · obtain ⟨e, rfl⟩ : ∃ e, d = e + 3 := ⟨d - 3, by omega⟩
      obtain ⟨s1, r1, k1, k2, k4⟩ := zX (e + 2) M mm H L s (wF r 53 0) [] (by omega) D o T (lx0 r) (Nat.zero_le _)
      have k4' : vcall (e + 2) m_Lw_readSum [.ref M, .ref 1, .int 0] (lQ M mm H L s (wF r 53 0)) = some (.inl (some (.int 0)), lQ M mm H L s1 r1) := k4
      refine ⟨s1, r1, k1, k2, (lQ_v o rfl).trans ((B_Lw_read_0 _ _ _ _).trans ?_)⟩
      rw [lQ_pF o, obs, k4', kC1_v, if_neg (by decide)]
    · obtain ⟨e, rfl⟩ : ∃ e, d = e + 2 := ⟨d - 2, by omega⟩
      obtain ⟨t1, k1, k2, k5⟩ := zR (e + 2) b τ [] (by omega) T h5 h7 (lr0 τ h31) (Nat.zero_le _)
      have k5' : vcall (e + 2) m_R_readSum [.ref 30] (mS b τ) = some (.inl none, mS b t1) := k5
      refine ⟨t1, k1, k2, ?_⟩
      rw [k5', kC0_v]
      unfold lwT
      rw [R_fine0 (e + 1) b (FR_b k2 hp), kC1_v, if_pos rfl]
theorem R_lw_no (d : Nat) (b : pS) (τ : rT) {tk : Nat} {x : Int32} (ht : τ.1 2 = Int32.ofNat tk) (h : ¬ (0 ≤ x ∧ x ≤ Int32.ofNat tk ∧ x ≤ Int32.ofNat 150)) : vcall (d + 2) m_R_law [.ref 30, .int x] (mS b τ) = some (.inl (some (.int 0)), mS b (rN τ 1 1)) := by
  refine (vR rfl).trans ((B_R_law_0 _ _ _ _).trans ?_)
  have e : den (d + 1) m_R_law 30 [.ref 30, .int x, mk0] [.int 0, .ref 30] (mS b (wF τ 0 0)) = some (.inl (some (.int 0)), mS b (rN τ 1 1)) := by
    rw [B_R_law_30, rm_n1 d (by decide), kC1_v, if_neg (by decide)]
  have ht' : (wF τ 0 0).1 2 = Int32.ofNat tk := ht
  simp only [m_pF, m_gF, obs, e, ht']
  by_cases g1 : x < 0
  · rw [if_pos g1]
  · rw [if_neg g1]
    by_cases g2 : Int32.ofNat tk < x
    · rw [if_pos g2]
    · rw [if_neg g2, if_pos]
      rcases Int32.lt_or_le (Int32.ofNat 150) x with g3 | g3
      · exact g3
      · exact absurd ⟨Int32.not_lt.mp g1, Int32.not_lt.mp g2, g3⟩ h
theorem R_lw_yes (d : Nat) (b : pS) (τ : rT) {tk n : Nat} (ht : τ.1 2 = Int32.ofNat tk) (h6 : tk ≤ 600) (h1 : n ≤ tk) (h2 : n ≤ 150) : vcall (d + 2) m_R_law [.ref 30, .int (Int32.ofNat n)] (mS b τ) = kC0 (vcall (d + 1) m_R_readSum [.ref 30] (mS b (wF (oR (wF τ 0 0) (Int32.ofNat n)) 31 0))) (fun s5 => lwT (Int32.ofNat n) (d + 1) s5) xp := by
  refine (vR rfl).trans ((B_R_law_0 _ _ _ _).trans ?_)
  have ht' : (wF τ 0 0).1 2 = Int32.ofNat tk := ht
  simp only [m_pF, m_gF, obs, ht']
  rw [if_neg (by rw [ii_nn (by omega)]; exact id), if_neg (by rw [ii_lt (by omega) (by omega)]; omega), if_neg (by show ¬ (Int32.ofNat 150 < Int32.ofNat n); rw [ii_lt (by omega) (by omega)]; omega), B_R_law_30, rm_ok d, kC1_v, if_pos (by decide), R_begins d, kC0_v]
  simp only [m_pF, obs]
  rfl
/-- the reference's law, taken over -/
def lwE (τ : rT) (n : Nat) : rT := wR (wR (wF (wF τ 8 (-1)) 32 (Int32.ofNat n)) 42 (fun i => if i < n then τ.2 40 i else τ.2 42 i)) 43 (fun i => if i < n then τ.2 41 i else τ.2 43 i)
theorem R_lw77 (d : Nat) (b : pS) {τ : rT} {cl : List Nat} (h5 : τ.1 5 = -1) (hl : LR τ cl) (h150 : cl.length ≤ 150) (l1 : Int32) : den (d + 2) m_R_law 77 [.ref 30, .int l1, mk0] [] (mS b τ) = some (.inl (some (.int 1)), mS b (lwE τ cl.length)) := by
  have g31 : ∀ τ : rT, gFi (mS b τ) 30 11 31 = some (τ.1 31) := fun τ => gFi_at mS_30 rfl
  have g5 : ∀ τ : rT, gFi (mS b τ) 30 11 5 = some (τ.1 5) := fun τ => gFi_at mS_30 rfl
  have g26 : ∀ τ : rT, gFr (mS b τ) 30 11 26 = some 40 := fun τ => gFr_at mS_30 rfl
  have g27 : ∀ τ : rT, gFr (mS b τ) 30 11 27 = some 41 := fun τ => gFr_at mS_30 rfl
  have g28 : ∀ τ : rT, gFr (mS b τ) 30 11 28 = some 42 := fun τ => gFr_at mS_30 rfl
  have g29 : ∀ τ : rT, gFr (mS b τ) 30 11 29 = some 43 := fun τ => gFr_at mS_30 rfl
  have e1 : (wF τ 8 (-1)).1 31 = Int32.ofNat cl.length := hl.1
  have e2 : (wF (wF τ 8 (-1)) 32 (Int32.ofNat cl.length)).1 31 = Int32.ofNat cl.length := hl.1
  have e3 : (wR (wF (wF τ 8 (-1)) 32 (Int32.ofNat cl.length)) 42 (fun i => if i < cl.length then τ.2 40 i else τ.2 42 i)).1 31 = Int32.ofNat cl.length := hl.1
  have c1 : vcall (d + 2) m_R_copies [.ref 30, .ref 40, .ref 42, .int (Int32.ofNat cl.length)] (mS b (wF (wF τ 8 (-1)) 32 (Int32.ofNat cl.length))) = some (.inl none, mS b (wR (wF (wF τ 8 (-1)) 32 (Int32.ofNat cl.length)) 42 (fun i => if i < cl.length then τ.2 40 i else τ.2 42 i))) := c_R_copies (d + 1) b _ 40 42 cl.length (by decide) (by decide) (by decide) (by decide) h150 h150 (by omega) (by decide) (by decide)
  have c2 : vcall (d + 2) m_R_copies [.ref 30, .ref 41, .ref 43, .int (Int32.ofNat cl.length)] (mS b (wR (wF (wF τ 8 (-1)) 32 (Int32.ofNat cl.length)) 42 (fun i => if i < cl.length then τ.2 40 i else τ.2 42 i))) = some (.inl none, mS b (lwE τ cl.length)) := c_R_copies (d + 1) b _ 41 43 cl.length (by decide) (by decide) (by decide) (by decide) h150 h150 (by omega) (by decide) (by decide)
  have h5' : (wF τ 8 (-1)).1 5 = -1 := h5
  rw [B_R_law_77, R_res_y d b h5, kC1_v, g5, obs, if_pos h5', g31, obs, e1]
  simp only [m_pF, obs]
  rw [g26, obs, g28, obs, g31, obs, e2, c1, kC0_v, g27, obs, g29, obs, g31, obs, e3, c2, kC0_v]
theorem R_lw77n (d : Nat) (b : pS) {τ : rT} {k p : Nat} (h : FR τ k p) (hp : p ≤ 600) (l1 : Int32) : den (d + 2) m_R_law 77 [.ref 30, .int l1, mk0] [] (mS b τ) = some (.inl (some (.int (Int32.ofNat k - 10))), mS b (wF τ 8 (Int32.ofNat p))) := by
  have h' : (wF τ 8 (Int32.ofNat p)).1 5 ≠ -1 := FR_b h hp
  have g5 : ∀ τ : rT, gFi (mS b τ) 30 11 5 = some (τ.1 5) := fun τ => gFi_at mS_30 rfl
  rw [B_R_law_77, R_res_n d b h hp, kC1_v, g5, obs, if_neg h']
def sW (L : xA) (k : Nat) : xA := (L.1, k, L.2.2)
/-- what a new law changes -/
def nLw (s r : rT) : rT := wR (wR (wR (wF s 53 (r.1 53)) 21 (r.2 21)) 22 (r.2 22)) 23 (r.2 23)
theorem x0_f4 {b : pS} {L : xA} {s : rT} (D : Dj L) (k : Nat) : pF (xS b L s) 0 10 4 (.ref k) = some (pSet (xS b L s) 0 (cO 10 [.ref 1, .ref 3, .ref 6, .ref (aU L), .ref k, .ref (aK L), .ref (aP L), .ref (aQ L), va_rf (aZ L), .int (s.1 9), .int (s.1 10), .int (s.1 11), .int (s.1 12), .int (s.1 13)])) := by
  rw [pF_at (x0_0 D) (by show 4 < 14; decide)]
  rfl
theorem lw_fix {M mm : Nat} {H : pH} {L : xA} {s r : rT} (D : Dj L) (o : ∀ j, M ≤ j → Ot L j) (h7 : 7 ≤ M) : pSet (lQ M mm H L s r) 0 (cO 10 [.ref 1, .ref 3, .ref 6, .ref (aU L), .ref M, .ref (aK L), .ref (aP L), .ref (aQ L), va_rf (aZ L), .int (s.1 9), .int (s.1 10), .int (s.1 11), .int (s.1 12), .int (s.1 13)]) = xS (pSet (lQ M mm H L s r) 0 (cO 10 [.ref 1, .ref 3, .ref 6, .ref (aU L), .ref M, .ref (aK L), .ref (aP L), .ref (aQ L), va_rf (aZ L), .int (s.1 9), .int (s.1 10), .int (s.1 11), .int (s.1 12), .int (s.1 13)])) (sW L M) (nLw s r) := by
  have D' := D
  obtain ⟨⟨d1, d2, d3, d4, d5⟩, -⟩ := D'
  have ne : ∀ (c : pC) (j : Nat), j ≠ 0 → (pSet (lQ M mm H L s r) 0 c).2.2 j = (lQ M mm H L s r).2.2 j := fun c j hj => if_neg hj
  refine xS_fix (fun i hi => ?_) (fun i hi => ?_) (fun i hi => ?_) (fun i hi => ?_) (fun i hi => ?_) (fun i hi => ?_)
  · exact (ne _ _ (by show aP L + i ≠ 0; omega)).trans (sn_at (SN_p D) hi)
  · exact (ne _ _ (by show aQ L + i ≠ 0; omega)).trans (sn_at (SN_q D) hi)
  · refine (ne _ _ (by show M + i ≠ 0; omega)).trans ?_
    have : i = 0 ∨ i = 1 ∨ i = 2 ∨ i = 3 := by omega
    rcases this with rfl | rfl | rfl | rfl
    · exact lQ_0 o
    · exact lQ_i (i := 1) o rfl
    · exact lQ_i (i := 2) o rfl
    · exact lQ_i (i := 3) o rfl
  · refine (ne _ _ (by show aU L + i ≠ 0; omega)).trans ((yS_u D hi).trans ?_)
    have : i = 0 ∨ i = 1 ∨ i = 2 ∨ i = 3 ∨ i = 4 := by omega
    rcases this with rfl | rfl | rfl | rfl | rfl <;> rfl
  · refine (ne _ _ (by show aK L + i ≠ 0; omega)).trans ((yS_k D hi).trans ?_)
    have : i = 0 ∨ i = 1 := by omega
    rcases this with rfl | rfl <;> rfl
  · by_cases h0 : i = 0
    · subst h0; exact (pSet_e _ _ _).trans rfl
    · refine (ne _ _ h0).trans ((yS_f D hi).trans ?_)
      have : i = 1 ∨ i = 2 ∨ i = 3 ∨ i = 4 ∨ i = 5 ∨ i = 6 := by omega
      rcases this with rfl | rfl | rfl | rfl | rfl | rfl <;> rfl
theorem sW_D {S : pS} {L : xA} (D : Dj L) (A : AB S L) : Dj (sW L S.1) := by
  have e1 : aU (sW L S.1) = aU L := rfl
  have e2 : aW (sW L S.1) = S.1 := rfl
  have e3 : aK (sW L S.1) = aK L := rfl
  have e4 : aP (sW L S.1) = aP L := rfl
  have e5 : aQ (sW L S.1) = aQ L := rfl
  unfold Dj dj at D ⊢
  unfold AB at A
  rw [e1, e2, e3, e4, e5]
  omega
theorem sW_O {S : pS} {L : xA} {j : Nat} (h : j < S.1) (o : Ot L j) : Ot (sW L S.1) j := by
  obtain ⟨o1, o2, o3, o4, o5, o6⟩ := o
  exact ⟨o1, o2, o3, by show ¬ (S.1 ≤ j ∧ j < S.1 + 4); omega, o5, o6⟩
theorem P_law {S : pS} {L : xA} {s τ : rT} {m n q : Nat} {l : List Nat} (I : Iv S L s τ m n q l) (hd : RD s τ) (x : Int32) : Pr m_L_law m_R_law [.int x] S := by
  have I' := I; obtain ⟨D, A, hx, hr, ho, ⟨C, Cr, ⟨q1, q2, q3⟩, hy, hdy, hdk, xl, rl, hb1, hb2⟩, ⟨⟨tk, k1, k2, k3⟩, tb, tf, tr⟩, ⟨e48, hsc⟩, rc⟩ := I'; have C' := C; have Cr' := Cr; obtain ⟨hm, h8, hn, h6⟩ := C'; obtain ⟨hm', -, hn', -⟩ := Cr'
  have hL := (cR (d := 199) (M := m_L_law) (as := [.ref 0, .int x, .ref 58]) (s := S)).trans (B_L_law_0 _ _ _ _ _)
  by_cases hr0 : 0 ≤ x ∧ x ≤ Int32.ofNat tk ∧ x ≤ Int32.ofNat 150
  · have xl6 : x < Int32.ofNat 601 := Int32.lt_of_le_of_lt hr0.2.1 (by rw [ii_lt (by omega) (by omega)]; omega)
    obtain ⟨N, hN6, rfl⟩ := ii_ex (by decide) hr0.1 xl6
    have n1 : N ≤ tk := by have := hr0.2.1; rwa [ii_le (by omega) (by omega)] at this
    have n2 : N ≤ 150 := by have := hr0.2.2; rwa [ii_le (by omega) (by omega)] at this
    obtain ⟨hB, tB1, tB2⟩ := tB_lt tb
    have hN : N ≤ 600 := by omega
    have o : ∀ j, S.1 ≤ j → Ot L j := fun j hj => Ot_lt A hj
    have TX0 : TX (tB τ) N 0 (oX s (Int32.ofNat N)) := ⟨rfl, rfl, tB2⟩
    have TR0 : TR (tB τ) N 0 (wF (oR (wF τ 0 0) (Int32.ofNat N)) 31 0) := ⟨rfl, rfl, tB1⟩
    have k0 := oX_k s (Int32.ofNat N)
    have r0 : Kf [0, 2, 3, 4, 5, 7, 8, 31] [] τ (wF (oR (wF τ 0 0) (Int32.ofNat N)) 31 0) := (((Kf.rf _ _ τ).wF (by decide) _).tr ((oR_k (wF τ 0 0) (Int32.ofNat N)).up (by decide) (by decide))).wF (by decide) _
    have op : vcall 198 m_Y_openText [.ref 0, .int (Int32.ofNat N), .int 150] (xS S L s) = some (.inl none, xS S L (oX s (Int32.ofNat N))) := Y_open_y 195 (c := 150) D k2 k1 (by decide) n1 n2
    have nw : vcall 198 m_Lw_init [.ref S.1] (pNew (xS S L (oX s (Int32.ofNat N))) (cO 1 [.null, .null, .null, .int 0]) 4) = some (.inl none, lQ S.1 (S.2.1 + 226) S.2.2 L (oX s (Int32.ofNat N)) lw0) := by
      rw [aL_0]
      refine (c_Lw_new 197).trans ?_
      exact congrArg (fun z => some (Sum.inl none, z)) (xS_aL o _ _)
    have hx0 : vcall 199 m_Y_law [.ref 0, .int (Int32.ofNat N)] (xS S L s) = _ := (vY D rfl).trans (B_Y_law_0 _ _ _ _)
    have g0 : ∀ (mm : Nat) (s r : rT), gFr (lQ S.1 mm S.2.2 L s r) 0 10 0 = some 1 := fun mm s r => (x0_gF D).1
    have e1 : (xS S L (oX s (Int32.ofNat N))).1 = S.1 := rfl
    rw [op, kC0_v, e1, nw, kC0_v, g0, obs] at hx0
    rcases LAWR hB hN n2 with ⟨cl, c1, c2, c3, zX, zR⟩ | ⟨k, p, hk, hp, zX, zR⟩
    · obtain ⟨s1, r', y1, y2, y3⟩ := zX 198 S.1 (S.2.1 + 226) S.2.2 L (oX s (Int32.ofNat N)) lw0 (by decide) D o TX0
      have ks : Kf [21, 22, 23, 24, 25, 26] [] s s1 := k0.tr (y1.up (by decide) (by decide))
      have f4 : pF (lQ S.1 (S.2.1 + 226) S.2.2 L s1 r') 0 10 4 (.ref S.1) = some (pSet (lQ S.1 (S.2.1 + 226) S.2.2 L s1 r') 0 (cO 10 [.ref 1, .ref 3, .ref 6, .ref (aU L), .ref S.1, .ref (aK L), .ref (aP L), .ref (aQ L), va_rf (aZ L), .int (s1.1 9), .int (s1.1 10), .int (s1.1 11), .int (s1.1 12), .int (s1.1 13)])) := x0_f4 (b := aL S.1 (S.2.1 + 226) (lwL S.1 r') S.2.2) (s := s1) D S.1
      have fx := lw_fix (M := S.1) (mm := S.2.1 + 226) (H := S.2.2) (s := s1) (r := r') D o (by have := A.1; omega)
      have D2 := sW_D D A
      rw [y3, kC1_v, if_pos (by decide), f4, obs, ← hx] at hx0
      obtain ⟨f, hf⟩ := ho
      have h59 := A.1
      have eo : ∀ (c : pC) j, j ≠ 0 → j < S.1 → Ot L j → (pSet (lQ S.1 (S.2.1 + 226) S.2.2 L s1 r') 0 c).2.2 j = S.2.2 j := fun c j h0 hj oj => (if_neg h0).trans ((xS_o oj).trans (aL_o (Or.inl hj)))
      refine Pr_n hr hf h59 hL hx0 (fun j h1 h2 => eo _ j (by omega) (by omega) (Ot_ref D h1 h2)) (fun j hj => ?_) ?_ ?_ ?_ (fun b => ?_)
      · have hj : S.1 + 4 ≤ j := hj
        exact (if_neg (by omega)).trans ((xS_o (Ot_lt A (by omega))).trans (aL_o (Or.inr hj)))
      · show S.1 ≤ S.1 + 4; omega
      · show S.1 + 4 ≤ _; omega
      · show S.2.1 + 226 ≤ _; omega
      · obtain ⟨t1, v1, v2, v3⟩ := zR 199 b _ (Int32.ofNat N) (by decide) TR0 rfl rfl rfl
        have h5t : t1.1 5 = -1 := (v1.1 5 (by decide)).trans rfl
        have kt : Kf [0, 2, 3, 4, 5, 7, 8, 31, 32] [40, 41, 42, 43] τ (lwE t1 cl.length) := (((((r0.up (by decide) (by decide)).tr (v1.up (by decide) (by decide))).wF (by decide) _).wF (by decide) _).wR (by decide) _).wR (by decide) _
        have ks2 : Kf [21, 22, 23, 24, 25, 26, 53] [21, 22, 23] s (nLw s1 r') := ((((ks.up (by decide) (by decide)).wF (by decide) _).wR (by decide) _).wR (by decide) _).wR (by decide) _
        have e77 : den 199 m_R_law 77 [.ref 30, .int (Int32.ofNat N), mk0] [] (mS b t1) = _ := R_lw77 197 b h5t v2 c2 (Int32.ofNat N)
        refine ⟨_, ?_, (R_lw_yes 198 b τ k3 k1 n1 n2).trans (v3.trans e77), fun S2 ag hm2 ho2 => ?_⟩
        · exact (v1.1 0 (by decide)).trans rfl
        · have s21 : S2.1 = S.1 + 4 := ag.1
          have cm : ∀ l z, Ch S L z l → Ch S2 (sW L S.1) z l := Ch_mono rfl (fun j hj oj => sW_O hj oj) (by omega) (fun j h1 h2 oj => (ag.2.2 j (Or.inr h1)).trans (eo _ j (by omega) h2 oj))
          obtain ⟨a0, a1, a2, a3, a4, a5⟩ := A
          have el : lx cl = cl := if_neg c1
          refine ⟨sW L S.1, nLw s1 r', _, m, n, q, cl, ⟨D2, ⟨by omega, ?_, ?_, ?_, ?_, ?_⟩, xS_in fx (fun j oj => ag.2.2 j ?_), hm2, ho2, ⟨ks2.xcn C, kt.cn Cr, ?_, ?_, ?_, ?_, ?_, ?_, ?_, ?_⟩, ⟨⟨0, by decide, ?_, ?_⟩, ?_, ?_, ?_⟩, ⟨?_, ?_⟩, ?_⟩, ?_, ?_⟩
          · show aP L + 6 ≤ S2.1; omega
          · show aQ L + 6 ≤ S2.1; omega
          · show S.1 + 4 ≤ S2.1; omega
          · show aU L + 5 ≤ S2.1; omega
          · show aK L + 2 ≤ S2.1; omega
          · by_cases h : j < 30 ∨ 59 ≤ j
            · exact h
            · exact absurd (Ot_ref D2 (by omega) (by omega)) oj
          · rw [ks2.1 46 (by decide), kt.1 24 (by decide)]; exact ⟨q1, q2, q3⟩
          · rw [ks2.1 47 (by decide), kt.1 25 (by decide)]; exact hy
          · rw [ks2.2 14 (by decide), kt.2 39 (by decide)]; exact hdy
          · rw [ks2.2 12 (by decide), ks2.2 13 (by decide), kt.2 37 (by decide), kt.2 38 (by decide)]; exact hdk
          · unfold xLaw
            rw [el]
            exact ⟨y2.1, c2, c3, y2.2⟩
          · refine ⟨rfl, c2, fun _ => c3, fun i hi => ⟨?_, ?_⟩⟩
            · exact (if_pos hi).trans (v2.2 i hi).1
            · exact (if_pos hi).trans (v2.2 i hi).2
          · rw [ks2.1 62 (by decide), kt.1 48 (by decide)]; exact hb1
          · rw [ks2.1 61 (by decide), ks2.2 31 (by decide), kt.2 53 (by decide)]; exact hb2
          · exact (y1.1 21 (by decide)).trans rfl
          · exact (v1.1 2 (by decide)).trans rfl
          · rw [ks2.2 2 (by decide), kt.2 32 (by decide)]; exact tb
          · exact (y1.1 22 (by decide)).trans rfl
          · rw [ks2.1 11 (by decide), kt.1 38 (by decide)]; exact tr
          · rw [ks2.2 0 (by decide), kt.2 48 (by decide)]; exact e48
          · rw [ks2.2 0 (by decide)]; exact hsc
          · obtain ⟨⟨ws, w1, w2, w3, w4, w5, w6⟩, g, b1, b2, b3, b4⟩ := rc
            refine ⟨⟨ws, ?_, ?_, w3, cm _ _ w4, w5, ?_⟩, g, b1, ?_, ?_, fun j hj => ?_⟩
            · rw [ks2.1 9 (by decide)]; exact w1
            · rw [kt.1 37 (by decide)]; exact w2
            · rw [kt.2 50 (by decide)]; exact w6
            · rw [ks2.1 10 (by decide)]; exact b2
            · rw [kt.1 54 (by decide)]; exact b3
            · obtain ⟨v', ws', c1, c2, c3, c4, c5, c6⟩ := b4 j hj
              refine ⟨v', ws', cm _ _ c1, c2, c3, ?_, ?_, ?_⟩ <;> rw [kt.2 57 (by decide)] <;> assumption
          · rw [ks2.1 12 (by decide), kt.2 31 (by decide)]; exact hd.1
          · rw [ks2.1 13 (by decide), kt.2 31 (by decide)]; exact hd.2
    · obtain ⟨s1, r1, w1, w2, w3⟩ := zX 198 S.1 (S.2.1 + 226) S.2.2 L (oX s (Int32.ofNat N)) lw0 (by decide) D o TX0
      have an : vcall 198 m_Tp_faultAnswer [.ref 1] (lQ S.1 (S.2.1 + 226) S.2.2 L s1 r1) = some (.inl (some (.int (Int32.ofNat k - 10))), lQ S.1 (S.2.1 + 226) S.2.2 L s1 r1) := T_ans 197 D w2
      rw [w3, kC1_v, if_neg (by decide), g0, obs, an, kC1_v, ← hx] at hx0
      refine P_bad I hd hL hx0 (k0.tr (w1.up (by decide) (by decide))) ((w1.1 21 (by decide)).trans rfl) w2.2 (by show 4 ≤ 90; decide) (by omega) (fun b => ?_)
      obtain ⟨t1, v1, v2, v3⟩ := zR 199 b _ (Int32.ofNat N) (by decide) TR0 rfl rfl rfl
      refine ⟨wF t1 8 (Int32.ofNat p), ((r0.up (by decide) (by decide)).tr (v1.up (by decide) (by decide))).wF (by decide) _, (v1.1 0 (by decide)).trans rfl, (v1.1 2 (by decide)).trans rfl, rfl, ?_⟩
      have e77 : den 199 m_R_law 77 [.ref 30, .int (Int32.ofNat N), mk0] [] (mS b t1) = _ := R_lw77n 197 b v2 hp (Int32.ofNat N)
      exact (R_lw_yes 198 b τ k3 k1 n1 n2).trans (v3.trans e77)
  · have ya : ∀ d, vcall (d + 4) m_Y_law [.ref 0, .int x] (xS S L s) = xA0 S L s := fun d => by
      refine (vY D rfl).trans ((B_Y_law_0 _ _ _ _).trans ?_)
      have := Y_open_n d (b := S) D k2 k1 (c := 150) (by decide) hr0
      have this' : vcall (d + 3) m_Y_openText [.ref 0, .int x, .int 150] (xS S L s) = xA0 S L s := this
      rw [this']
      rfl
    exact P_a (k := 1) I hd hL (fun _ _ => rfl) (by decide) (ya 195) (fun b => R_lw_no 198 b τ k3 hr0)
