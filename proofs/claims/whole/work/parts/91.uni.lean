/-! A UNIT of a law, by both, by program (guni.py) -/
noncomputable abbrev fxU (op : Nat) : Nat → Nat → pS → pR := fun d M S => vcall d m_Lw_readUnit [.ref M, .ref 1, .int (Int32.ofNat op)] S
noncomputable abbrev frU : Nat → pS → pR := fun d S => vcall d m_R_readUnit [.ref 30] S
noncomputable abbrev fxS (op : Nat) : Nat → Nat → pS → pR := fun d M S => vcall d m_Lw_readSum [.ref M, .ref 1, .int (Int32.ofNat op)] S
noncomputable abbrev frS : Nat → pS → pR := fun d S => vcall d m_R_readSum [.ref 30] S
noncomputable abbrev fxP (op : Nat) : Nat → Nat → pS → pR := fun d M S => vcall d m_Lw_readProduct [.ref M, .ref 1, .int (Int32.ofNat op)] S
noncomputable abbrev frP : Nat → pS → pR := fun d S => vcall d m_R_readProduct [.ref 30] S
theorem NB_S : NB 4 frS := fun d b τ hd h5 => by
  obtain ⟨e, rfl⟩ : ∃ e, d = e + 4 := ⟨d - 4, by omega⟩
  exact ⟨τ, Kf.rf _ _ τ, R_sum_b e b h5⟩
theorem NB_sg (c : Int32) : NB 3 (fun d S => vcall d m_R_sign [.ref 30, .int c] S) := fun d b τ hd h5 => by
  obtain ⟨e, rfl⟩ : ∃ e, d = e + 2 := ⟨d - 2, by omega⟩
  exact ⟨τ, Kf.rf _ _ τ, R_sign_b e b h5 c⟩
theorem NB_up {dx dx' : Nat} {fR : Nat → pS → pR} (h : NB dx fR) (hd : dx ≤ dx') : NB dx' fR := fun d b τ g h5 => h d b τ (by omega) h5
theorem pkX_ne {B : Nat → Nat} {N : Nat} (hB : ∀ i, B i < 256) (hN : N ≤ 600) {e c : Nat} {x : Int32} (hx : x = Int32.ofNat c) (hc : c < 256) (h : ¬ (e < N ∧ B e = c)) : ¬ pkX B N e = x := by
  rw [hx, pkX_c hB hN hc]; exact h
theorem pkR_ne {B : Nat → Nat} {N : Nat} (hB : ∀ i, B i < 256) (hN : N ≤ 600) {e c : Nat} {x : Int32} (hx : x = Int32.ofNat c) (hc : c < 256) (h0 : 0 < c) (h : ¬ (e < N ∧ B e = c)) : ¬ pkR B N e = x := by
  rw [hx, pkR_c hB hN hc h0]; exact h
theorem isDx {B : Nat → Nat} {N : Nat} (hB : ∀ i, B i < 256) (hN : N ≤ 600) {e : Nat} (h : ¬ (e < N ∧ isD (B e) = true)) : (∀ d S, call (d + 1) m_Tp_isDigit [.int (pkX B N e)] S = some (.inl (some (.int 0)), S)) ∧ (∀ d S, call (d + 1) m_R_isDigit [.int (pkR B N e)] S = some (.inl (some (.int 0)), S)) := by
  have hb := hB e
  by_cases g : e < N
  · have hd : ¬ isD (B e) = true := fun h2 => h ⟨g, h2⟩
    have px : pkX B N e = Int32.ofNat (B e) := if_pos g
    have pr : pkR B N e = Int32.ofNat (B e) := if_pos g
    refine ⟨fun d S => ?_, fun d S => ?_⟩
    · rw [px, (isDig d S (x := Int32.ofNat (B e)) (n := B e) (Or.inl ⟨rfl, hb⟩)).1, if_neg hd]
    · rw [pr, (isDig d S (x := Int32.ofNat (B e)) (n := B e) (Or.inl ⟨rfl, hb⟩)).2, if_neg hd]
  · have px : pkX B N e = -1 := if_neg g
    have pr : pkR B N e = Int32.ofNat 0 := if_neg g
    refine ⟨fun d S => ?_, fun d S => ?_⟩
    · rw [px, (isDig d S (x := -1) (n := 0) (Or.inr ⟨rfl, rfl⟩)).1, if_neg (by decide)]
    · rw [pr, (isDig d S (x := Int32.ofNat 0) (n := 0) (Or.inl ⟨rfl, by decide⟩)).2, if_neg (by decide)]
theorem LR_t {τ : rT} {cl : List Nat} (h : LR τ cl) (x y : Int32) : LR (wF (wF τ 4 x) 7 y) cl := h
/-- a figure -/
theorem U_num {B : Nat → Nat} {N : Nat} (hB : ∀ i, B i < 256) (hN : N ≤ 600) (h150 : N ≤ 150) {k op a : Nat} (ha : a ≤ N) (hg : sk B N a < N) (hd : isD (B (sk B N a)) = true) : OUT B N a op op 1 (4 * k + 6) (Pu (3 * k + 1)) (fxU op) frU := by
  have hs := sk_le (B := B) ha
  have hsg := sk_ge (B := B) ha
  have hb := hB (sk B N a)
  have hdd := isD_t.mp hd
  have ess := sk_sk (B := B) ha
  have px : pkX B N (sk B N a) = Int32.ofNat (B (sk B N a)) := if_pos hg
  have pr : pkR B N (sk B N a) = Int32.ofNat (B (sk B N a)) := if_pos hg
  have dx : ∀ d S, call (d + 1) m_Tp_isDigit [.int (pkX B N (sk B N a))] S = some (.inl (some (.int 1)), S) := fun d S => by rw [px, (isDig d S (x := Int32.ofNat (B (sk B N a))) (n := B (sk B N a)) (Or.inl ⟨rfl, hb⟩)).1, if_pos hd]
  have dr : ∀ d S, call (d + 1) m_R_isDigit [.int (pkR B N (sk B N a))] S = some (.inl (some (.int 1)), S) := fun d S => by rw [pr, (isDig d S (x := Int32.ofNat (B (sk B N a))) (n := B (sk B N a)) (Or.inl ⟨rfl, hb⟩)).2, if_pos hd]
  have n40 : ¬ pkR B N (sk B N a) = 40 := by rw [pr]; show ¬ Int32.ofNat _ = Int32.ofNat 40; rw [ii_eq (by omega) (by omega)]; omega
  have hX0 : ∀ e M mm H L s r, Dj L → (∀ j, M ≤ j → Ot L j) → TX B N a s → ∃ s1, Kf [25] [] s s1 ∧ TX B N (sk B N a) s1 ∧ vcall (e + 6) m_Lw_readUnit [.ref M, .ref 1, .int (Int32.ofNat op)] (lQ M mm H L s r) = kC1 (vcall (e + 5) m_Tp_readNumber [.ref 1, .int 0, .int 999] (lQ M mm H L s1 r)) (fun v24 s23 => (if (v24 : Int32) = (-1) then some (.inl (some (.int 0)), s23) else kC1 (vcall (e + 5) m_Lw_add [.ref M, .int v24] s23) (fun v26 s25 => (if (v26 : Int32) = 0 then some (.inl (some (.int 0)), s25) else some (.inl (some (.int 1)), s25))) xp)) xp := fun e M mm H L s r D o T => by
    obtain ⟨s1, k1, k2, k3⟩ := T_peek hB hN (e + 3) (b := aL M mm (lwL M r) H) D ha T
    have k3' : vcall (e + 5) m_Tp_peek [.ref 1] (lQ M mm H L s r) = some (.inl (some (.int (pkX B N (sk B N a)))), lQ M mm H L s1 r) := k3
    refine ⟨s1, k1, k2, (lQ_v o rfl).trans ((B_Lw_readUnit_0 _ _ _ _ _).trans ?_)⟩
    rw [k3', kC1_v, dx (e + 4), kC1_v, if_neg (by decide)]
  have hR0 : ∀ e b τ, TR B N a τ → τ.1 5 = -1 → ∃ t2, Kf [4] [] τ t2 ∧ TR B N (sk B N a) t2 ∧ vcall (e + 6) m_R_readUnit [.ref 30] (mS b τ) = kC1 (vcall (e + 5) m_R_readNumber [.ref 30, .int 0, .int 999] (mS b t2)) (fun v24 s23 => kC0 (vcall (e + 5) m_R_emit [.ref 30, .int 0, .int v24] s23) (fun s25 => some (.inl none, s25)) xp) xp := fun e b τ T h5 => by
    obtain ⟨t1, k1, k2, k3⟩ := R_here hB hN (e + 4) b ha T
    obtain ⟨t2, j1, j2, j3⟩ := R_here hB hN (e + 4) b hs k2
    rw [ess] at j2 j3
    refine ⟨t2, k1.tr j1, j2, (vR rfl).trans ((B_R_readUnit_0 _ _ _).trans ?_)⟩
    rw [R_fine1 (e + 4) b h5, kC1_v, if_pos (by decide), k3, kC1_v, if_pos n40, j3, kC1_v, dr (e + 4), kC1_v, if_neg (by decide)]
  rcases NUM hB hN hs (lo := 0) (hi := 999) (by decide) with ⟨n1, n2⟩ | ⟨κ, p, hκ, hp, hX, hR⟩
  · have bd := nv_b hB hN (lo := 0) (hi := 999) hs (by decide) n2 (by decide)
    have n1' := n1
    unfold nK at n1'
    rw [ess] at n1'
    have a2 : de B N (sk B N (sk B N a)) ≤ N := rn_le (sk_le hs)
    refine Or.inl ⟨de B N (sk B N (sk B N a)), [nv B N (sk B N a)], by rw [ess]; omega, a2, by rw [ess]; show 1 + a ≤ _; omega, Pu_1 (by omega) (by omega), fun d M mm H L s r cl hdx D o T hl hc => ?_, fun d b τ cl hdx T h5 h7 hl hc => ?_⟩
    · obtain ⟨e, rfl⟩ : ∃ e, d = e + 6 := ⟨d - 6, by omega⟩
      obtain ⟨s1, k1, k2, k3⟩ := hX0 e M mm H L s r D o T
      obtain ⟨s2, j1, j2, j3, j4⟩ := T_num_y hB hN (e + 2) (b := aL M mm (lwL M r) H) D hs k2 n1 n2.1 n2.2
      have j4' : vcall (e + 5) m_Tp_readNumber [.ref 1, .int 0, .int 999] (lQ M mm H L s1 r) = some (.inl (some (.int (Int32.ofNat (nv B N (sk B N a))))), lQ M mm H L s2 r) := j4
      obtain ⟨r2, l1, l2⟩ := X_add (e + 4) (M := M) (mm := mm) (H := H) (L := L) (s := s2) (r := r) o hl (by omega) (nv B N (sk B N a))
      refine ⟨s2, r2, (k1.up (by decide) (by decide)).tr j1, j2, l1, k3.trans ?_⟩
      rw [j4', kC1_v, if_neg (by rw [ii_n1 (by omega)]; exact id), l2, kC1_v, if_neg (by decide)]
    · obtain ⟨e, rfl⟩ : ∃ e, d = e + 6 := ⟨d - 6, by omega⟩
      obtain ⟨t1, k1, k2, k3⟩ := hR0 e b τ T h5
      have h5' : t1.1 5 = -1 := (k1.1 5 (by decide)).trans h5
      obtain ⟨t2, j1, j2, j3⟩ := R_num_y hB hN (e + 2) b hs k2 h5' n1 (by decide) n2.1 n2.2
      have j3' : vcall (e + 5) m_R_readNumber [.ref 30, .int 0, .int 999] (mS b t1) = some (.inl (some (.int (Int32.ofNat (nv B N (sk B N a))))), mS b t2) := j3
      obtain ⟨t3, l1, l2, l3⟩ := R_emit (e + 3) b (τ := t2) (cl := cl) ((j1.1 5 (by decide)).trans h5') (LR_k (LR_k hl k1) j1) (by omega) (nv B N (sk B N a)) (x := 0) (y := Int32.ofNat (nv B N (sk B N a))) (by unfold rWhat; rw [if_pos (by omega)]; rfl) (by unfold rOf; rw [if_pos (by omega)])
      refine ⟨t3, ((k1.tr j1).up (by decide) (by decide)).tr (l1.up (by decide) (by decide)), ⟨(l1.1 3 (by decide)).trans j2.1, (l1.1 4 (by decide)).trans j2.2.1, by rw [l1.2 32 (by decide)]; exact j2.2.2⟩, ?_, l2, k3.trans ?_⟩
      · rw [l1.1 7 (by decide), j1.1 7 (by decide), k1.1 7 (by decide)]; exact h7
      · rw [j3', kC1_v, l3, kC0_v]
  · refine Or.inr ⟨κ, p, hκ, hp, fun d M mm H L s r cl hdx D o T hl hc => ?_, fun d b τ cl hdx T h5 h7 hl hc => ?_⟩
    · obtain ⟨e, rfl⟩ : ∃ e, d = e + 6 := ⟨d - 6, by omega⟩
      obtain ⟨s1, k1, k2, k3⟩ := hX0 e M mm H L s r D o T
      obtain ⟨s2, j1, j2, j3⟩ := hX (e + 2) (aL M mm (lwL M r) H) L s1 D k2
      have j3' : vcall (e + 5) m_Tp_readNumber [.ref 1, .int 0, .int 999] (lQ M mm H L s1 r) = some (.inl (some (.int (-1))), lQ M mm H L s2 r) := j3
      refine ⟨s2, r, (k1.up (by decide) (by decide)).tr j1, j2, k3.trans ?_⟩
      rw [j3', kC1_v, if_pos rfl]
    · obtain ⟨e, rfl⟩ : ∃ e, d = e + 6 := ⟨d - 6, by omega⟩
      obtain ⟨t1, k1, k2, k3⟩ := hR0 e b τ T h5
      obtain ⟨t2, j1, j2, j3⟩ := hR (e + 2) b t1 k2 ((k1.1 5 (by decide)).trans h5)
      have j3' : vcall (e + 5) m_R_readNumber [.ref 30, .int 0, .int 999] (mS b t1) = some (.inl (some (.int 0)), mS b t2) := j3
      refine ⟨t2, (k1.up (by decide) (by decide)).tr (j1.up (by decide) (by decide)), j2, k3.trans ?_⟩
      rw [j3', kC1_v, R_emit_b (e + 3) b (FR_b j2 hp), kC0_v]
/-- a bracket: how both begin -/
theorem U_br0 {B : Nat → Nat} {N : Nat} (hB : ∀ i, B i < 256) (hN : N ≤ 600) {op a : Nat} (ha : a ≤ N) (hg : sk B N a < N) (h40 : B (sk B N a) = 40) : (∀ e M mm H L s r, Dj L → (∀ j, M ≤ j → Ot L j) → TX B N a s → ∃ s1, Kf [25] [] s s1 ∧ TX B N (sk B N a) s1 ∧ vcall (e + 6) m_Lw_readUnit [.ref M, .ref 1, .int (Int32.ofNat op)] (lQ M mm H L s r) = kC1 (vcall (e + 5) m_Lw_readBracket [.ref M, .ref 1, .int (Int32.ofNat op)] (lQ M mm H L s1 r)) (fun v22 s21 => (if v22 &&& 1 = v22 then some (.inl (some (.int v22)), s21) else none)) xp) ∧ (∀ e b τ, TR B N a τ → τ.1 5 = -1 → ∃ t1, Kf [4] [] τ t1 ∧ TR B N (sk B N a) t1 ∧ vcall (e + 6) m_R_readUnit [.ref 30] (mS b τ) = kC0 (vcall (e + 5) m_R_opensOne [.ref 30, .int 1] (mS b t1)) (fun s26 => sqR frS (clR 41) (e + 5) s26) xp) := by
  have hs := sk_le (B := B) ha
  have px : pkX B N (sk B N a) = 40 := by unfold pkX; rw [if_pos hg, h40]; rfl
  have pr : pkR B N (sk B N a) = 40 := by unfold pkR; rw [if_pos hg, h40]; rfl
  have dg := isDx hB hN (e := sk B N a) (fun h => by have := isD_t.mp h.2; omega)
  refine ⟨fun e M mm H L s r D o T => ?_, fun e b τ T h5 => ?_⟩
  · obtain ⟨s1, k1, k2, k3⟩ := T_peek hB hN (e + 3) (b := aL M mm (lwL M r) H) D ha T
    have k3' : vcall (e + 5) m_Tp_peek [.ref 1] (lQ M mm H L s r) = some (.inl (some (.int (pkX B N (sk B N a)))), lQ M mm H L s1 r) := k3
    refine ⟨s1, k1, k2, (lQ_v o rfl).trans ((B_Lw_readUnit_0 _ _ _ _ _).trans ?_)⟩
    rw [k3', kC1_v, dg.1 (e + 4), kC1_v, if_pos rfl, if_neg (fun h => h px)]
  · obtain ⟨t1, k1, k2, k3⟩ := R_here hB hN (e + 4) b ha T
    refine ⟨t1, k1, k2, (vR rfl).trans ((B_R_readUnit_0 _ _ _).trans ?_)⟩
    rw [R_fine1 (e + 4) b h5, kC1_v, if_pos (by decide), k3, kC1_v, if_neg (fun h => h pr)]
    rfl
theorem U_bra {B : Nat → Nat} {N : Nat} (hB : ∀ i, B i < 256) (hN : N ≤ 600) {k op a : Nat} (hk : op + (k + 1) = 6) (ha : a ≤ N) (hg : sk B N a < N) (h40 : B (sk B N a) = 40) (hS : ∀ a, a ≤ N → OUT B N a (op + 1) (op + 1) 1 (4 * k + 8) (Pu (3 * k + 3)) (fxS (op + 1)) frS) : OUT B N a op op 1 (4 * (k + 1) + 6) (Pu (3 * (k + 1) + 1)) (fxU op) frU := by
  have hs := sk_le (B := B) ha
  have hsg := sk_ge (B := B) ha
  obtain ⟨hX0, hR0⟩ := U_br0 hB hN (op := op) ha hg h40
  have l6 : Int32.ofNat op < 6 := by show Int32.ofNat op < Int32.ofNat 6; rw [ii_lt (by omega) (by omega)]; omega
  have seq := SEQ (hS (sk B N a + 1) hg) (fun a1 _ h => OUT_up (CLOSE hB hN (op := op) (c := 41) h (by decide) (by decide)) (show 3 ≤ 4 * k + 8 by omega) (fun _ h => h)) (NB_up (NB_cl (Int32.ofNat 41)) (by omega))
  rcases seq with ⟨a', nc, z1, z2, z3, ⟨x, y, z4, z5, z6⟩, zX, zR⟩ | ⟨κ, p, hκ, hp, zX, zR⟩
  · have z6 : y = [] := z6
    subst z6
    rw [List.append_nil] at z4
    subst z4
    refine Or.inl ⟨a', nc, by omega, z2, by omega, Pu_up z5 (by omega), fun d M mm H L s r cl hdx D o T hl hc => ?_, fun d b τ cl hdx T h5 h7 hl hc => ?_⟩
    · obtain ⟨e, rfl⟩ : ∃ e, d = e + 6 := ⟨d - 6, by omega⟩
      obtain ⟨s1, k1, k2, k3⟩ := hX0 e M mm H L s r D o T
      have sp : vcall (e + 4) m_Tp_skip [.ref 1] (lQ M mm H L s1 r) = some (.inl none, lQ M mm H L (wF s1 25 (Int32.ofNat (sk B N a + 1))) r) := T_skip (e + 3) D k2.2.1
      obtain ⟨s2, r2, j1, j2, j3, j4⟩ := zX (e + 4) M mm H L (wF s1 25 (Int32.ofNat (sk B N a + 1))) r cl (by omega) D o (TX_w k2) hl (by omega)
      have br : vcall (e + 5) m_Lw_readBracket [.ref M, .ref 1, .int (Int32.ofNat op)] (lQ M mm H L s1 r) = some (.inl (some (.int 1)), lQ M mm H L s2 r2) := by
        refine (lQ_v o rfl).trans ((B_Lw_readBracket_0 _ _ _ _ _).trans ?_)
        rw [if_pos l6, sp, kC0_v, ii_1]
        exact j4
      refine ⟨s2, r2, ((k1.up (by decide) (by decide)).wF (by decide) _).tr j1, j2, j3, k3.trans ?_⟩
      rw [br, kC1_v, if_pos (by decide)]
    · obtain ⟨e, rfl⟩ : ∃ e, d = e + 6 := ⟨d - 6, by omega⟩
      obtain ⟨t1, k1, k2, k3⟩ := hR0 e b τ T h5
      have h5' : t1.1 5 = -1 := (k1.1 5 (by decide)).trans h5
      have op1 : vcall (e + 5) m_R_opensOne [.ref 30, .int 1] (mS b t1) = some (.inl none, mS b (wF (wF t1 4 (Int32.ofNat (sk B N a + 1))) 7 (Int32.ofNat (op + 1)))) := R_open (e + 3) b (k := 1) h5' k2.2.1 ((k1.1 7 (by decide)).trans h7) (by omega)
      obtain ⟨t2, j1, j2, j3, j4, j5⟩ := zR (e + 5) b (wF (wF t1 4 (Int32.ofNat (sk B N a + 1))) 7 (Int32.ofNat (op + 1))) cl (by omega) ⟨k2.1, rfl, k2.2.2⟩ h5' rfl (LR_t (LR_k hl k1) _ _) (by omega)
      refine ⟨t2, (((k1.up (by decide) (by decide)).wF (by decide) _).wF (by decide) _).tr j1, j2, j3, j4, k3.trans ?_⟩
      rw [op1, kC0_v]
      exact j5
  · refine Or.inr ⟨κ, p, hκ, hp, fun d M mm H L s r cl hdx D o T hl hc => ?_, fun d b τ cl hdx T h5 h7 hl hc => ?_⟩
    · obtain ⟨e, rfl⟩ : ∃ e, d = e + 6 := ⟨d - 6, by omega⟩
      obtain ⟨s1, k1, k2, k3⟩ := hX0 e M mm H L s r D o T
      have sp : vcall (e + 4) m_Tp_skip [.ref 1] (lQ M mm H L s1 r) = some (.inl none, lQ M mm H L (wF s1 25 (Int32.ofNat (sk B N a + 1))) r) := T_skip (e + 3) D k2.2.1
      obtain ⟨s2, r2, j1, j2, j4⟩ := zX (e + 4) M mm H L (wF s1 25 (Int32.ofNat (sk B N a + 1))) r cl (by omega) D o (TX_w k2) hl (by omega)
      have br : vcall (e + 5) m_Lw_readBracket [.ref M, .ref 1, .int (Int32.ofNat op)] (lQ M mm H L s1 r) = some (.inl (some (.int 0)), lQ M mm H L s2 r2) := by
        refine (lQ_v o rfl).trans ((B_Lw_readBracket_0 _ _ _ _ _).trans ?_)
        rw [if_pos l6, sp, kC0_v, ii_1]
        exact j4
      refine ⟨s2, r2, ((k1.up (by decide) (by decide)).wF (by decide) _).tr j1, j2, k3.trans ?_⟩
      rw [br, kC1_v, if_pos (by decide)]
    · obtain ⟨e, rfl⟩ : ∃ e, d = e + 6 := ⟨d - 6, by omega⟩
      obtain ⟨t1, k1, k2, k3⟩ := hR0 e b τ T h5
      have h5' : t1.1 5 = -1 := (k1.1 5 (by decide)).trans h5
      have op1 : vcall (e + 5) m_R_opensOne [.ref 30, .int 1] (mS b t1) = some (.inl none, mS b (wF (wF t1 4 (Int32.ofNat (sk B N a + 1))) 7 (Int32.ofNat (op + 1)))) := R_open (e + 3) b (k := 1) h5' k2.2.1 ((k1.1 7 (by decide)).trans h7) (by omega)
      obtain ⟨t2, j1, j2, j5⟩ := zR (e + 5) b (wF (wF t1 4 (Int32.ofNat (sk B N a + 1))) 7 (Int32.ofNat (op + 1))) cl (by omega) ⟨k2.1, rfl, k2.2.2⟩ h5' rfl (LR_t (LR_k hl k1) _ _) (by omega)
      refine ⟨t2, (((k1.up (by decide) (by decide)).wF (by decide) _).wF (by decide) _).tr j1, j2, k3.trans ?_⟩
      rw [op1, kC0_v]
      exact j5
theorem U_bra6 {B : Nat → Nat} {N : Nat} (hB : ∀ i, B i < 256) (hN : N ≤ 600) {a : Nat} {Q : List Nat → Prop} (ha : a ≤ N) (hg : sk B N a < N) (h40 : B (sk B N a) = 40) : OUT B N a 6 6 1 6 Q (fxU 6) frU := by
  have hs := sk_le (B := B) ha
  obtain ⟨hX0, hR0⟩ := U_br0 hB hN (op := 6) ha hg h40
  refine Or.inr ⟨3, sk B N a, by decide, by omega, fun d M mm H L s r cl hdx D o T hl hc => ?_, fun d b τ cl hdx T h5 h7 hl hc => ?_⟩
  · obtain ⟨e, rfl⟩ : ∃ e, d = e + 6 := ⟨d - 6, by omega⟩
    obtain ⟨s1, k1, k2, k3⟩ := hX0 e M mm H L s r D o T
    have sh : vcall (e + 4) m_Tp_startHere [.ref 1] (lQ M mm H L s1 r) = some (.inl none, lQ M mm H L (wF s1 26 (s1.1 25)) r) := T_startHere (e + 3) D
    have fa : vcall (e + 4) m_Tp_failAtStart [.ref 1, .int 3] (lQ M mm H L (wF s1 26 (s1.1 25)) r) = some (.inl (some (.int 0)), lQ M mm H L (wF (wF (wF s1 26 (s1.1 25)) 23 3) 22 (s1.1 25)) r) := T_failAt (e + 3) D 3
    have br : vcall (e + 5) m_Lw_readBracket [.ref M, .ref 1, .int (Int32.ofNat 6)] (lQ M mm H L s1 r) = some (.inl (some (.int 0)), lQ M mm H L (wF (wF (wF s1 26 (s1.1 25)) 23 3) 22 (s1.1 25)) r) := by
      refine (lQ_v o rfl).trans ((B_Lw_readBracket_0 _ _ _ _ _).trans ?_)
      rw [if_neg (by decide), sh, kC0_v, fa, kC1_v, if_pos (by decide)]
    refine ⟨wF (wF (wF s1 26 (s1.1 25)) 23 3) 22 (s1.1 25), r, (((k1.up (by decide) (by decide)).wF (by decide) _).wF (by decide) _).wF (by decide) _, ⟨rfl, k2.2.1⟩, k3.trans ?_⟩
    rw [br, kC1_v, if_pos (by decide)]
  · obtain ⟨e, rfl⟩ : ∃ e, d = e + 6 := ⟨d - 6, by omega⟩
    obtain ⟨t1, k1, k2, k3⟩ := hR0 e b τ T h5
    have h5' : t1.1 5 = -1 := (k1.1 5 (by decide)).trans h5
    have op1 : vcall (e + 5) m_R_opensOne [.ref 30, .int 1] (mS b t1) = some (.inl none, mS b (wF (wF (wF t1 5 (Int32.ofNat (sk B N a))) 6 3) 7 (Int32.ofNat 7))) := R_open6 (e + 3) b h5' k2.2.1 (by omega) ((k1.1 7 (by decide)).trans h7) 1
    have f1 : FR (wF (wF (wF t1 5 (Int32.ofNat (sk B N a))) 6 3) 7 (Int32.ofNat 7)) 3 (sk B N a) := ⟨rfl, rfl⟩
    obtain ⟨t2, j1, j2⟩ := NB_sq (NB_S) (NB_up (NB_cl 41) (show 3 ≤ 4 by omega)) (e + 5) b (wF (wF (wF t1 5 (Int32.ofNat (sk B N a))) 6 3) 7 (Int32.ofNat 7)) (by omega) (FR_b f1 (by omega))
    refine ⟨t2, ((((k1.up (by decide) (by decide)).wF (by decide) _).wF (by decide) _).wF (by decide) _).tr (j1.up (by decide) (by decide)), ⟨(j1.1 6 (by decide)).trans f1.1, (j1.1 5 (by decide)).trans f1.2⟩, k3.trans ?_⟩
    rw [op1, kC0_v]
    exact j2
/-- a pair, behind its word -/
noncomputable def paX (op : Nat) (cx : Int32) : Nat → Nat → pS → pR := sqX (fun d _ S => vcall d m_Tp_sign [.ref 1, .int (Int32.ofNat 91)] S) (sqX (fxS (op + 1)) (sqX (fun d _ S => vcall d m_Tp_sign [.ref 1, .int (Int32.ofNat 44)] S) (sqX (fxS (op + 1)) (caX (Int32.ofNat 93) cx))))
noncomputable def paR (cr : Int32) : Nat → pS → pR := sqR (fun d S => vcall d m_R_sign [.ref 30, .int (Int32.ofNat 91)] S) (sqR frS (sqR (fun d S => vcall d m_R_sign [.ref 30, .int (Int32.ofNat 44)] S) (sqR frS (caR (Int32.ofNat 93) cr))))
theorem NB_pa (cr : Int32) : NB 4 (paR cr) := NB_sq (NB_up (NB_sg _) (by omega)) (NB_sq NB_S (NB_sq (NB_up (NB_sg _) (by omega)) (NB_sq NB_S (NB_up (NB_ca _ _) (by omega)))))
theorem PAIR {B : Nat → Nat} {N : Nat} (hB : ∀ i, B i < 256) (hN : N ≤ 600) (h150 : N ≤ 150) {k op a cx : Nat} {cr : Int32} (ha : a ≤ N) (h1 : 1008 ≤ cx) (h2 : cx < 1015) (hr : cr = Int32.ofNat (rWhat cx)) (hS : ∀ a, a ≤ N → OUT B N a (op + 1) (op + 1) 1 (4 * k + 8) (Pu (3 * k + 3)) (fxS (op + 1)) frS) : OUT B N a (op + 1) op 5 (4 * k + 8) (Pu (3 * k + 4)) (paX op (Int32.ofNat cx)) (paR cr) := by
  have hz : rOf cx = 0 := by unfold rOf; rw [if_neg (by omega), if_neg (by omega)]
  have s0 : ∀ a, a ≤ N → OUT B N a (op + 1) op 1 (4 * k + 8) (fun nc => nc = [cx]) (caX (Int32.ofNat 93) (Int32.ofNat cx)) (caR (Int32.ofNat 93) cr) := fun a ha => OUT_up (CLOSA hB hN h150 (op := op) (c := 93) ha (by decide) (by decide) hr hz) (by omega) (fun _ h => h)
  have n0 : NB (4 * k + 8) (caR (Int32.ofNat 93) cr) := NB_up (NB_ca _ _) (by omega)
  have s1 := fun a ha => SEQ (hS a ha) (fun a1 _ h => s0 a1 h) n0
  have n1 : NB (4 * k + 8) (sqR frS (caR (Int32.ofNat 93) cr)) := NB_sq (NB_up NB_S (by omega)) n0
  have s2 := fun a (ha : a ≤ N) => SEQ (OUT_up (SIGN hB hN (op := op + 1) (c := 44) ha (by decide) (by decide)) (show 3 ≤ 4 * k + 8 by omega) (fun _ h => h)) (fun a1 _ h => s1 a1 h) n1
  have n2 : NB (4 * k + 8) (sqR (fun d S => vcall d m_R_sign [.ref 30, .int (Int32.ofNat 44)] S) (sqR frS (caR (Int32.ofNat 93) cr))) := NB_sq (NB_up (NB_sg _) (by omega)) n1
  have s3 := fun a ha => SEQ (hS a ha) (fun a1 _ h => s2 a1 h) n2
  have n3 : NB (4 * k + 8) (sqR frS (sqR (fun d S => vcall d m_R_sign [.ref 30, .int (Int32.ofNat 44)] S) (sqR frS (caR (Int32.ofNat 93) cr)))) := NB_sq (NB_up NB_S (by omega)) n2
  have s4 := SEQ (OUT_up (SIGN hB hN (op := op + 1) (c := 91) ha (by decide) (by decide)) (show 3 ≤ 4 * k + 8 by omega) (fun _ h => h)) (fun a1 _ h => s3 a1 h) n3
  refine OUT_up s4 (Nat.le_refl _) (fun nc h => ?_)
  obtain ⟨x1, y1, e1, g1, x2, y2, e2, g2, x3, y3, e3, g3, x4, y4, e4, g4, g5⟩ := h
  have g1 : x1 = [] := g1
  have g3 : x3 = [] := g3
  have g5 : y4 = [cx] := g5
  subst g1 g3 g5 e4 e3 e2 e1
  exact Pu_j g2 g4 h1 h2
/-- words: how both begin -/
theorem X_unW {B : Nat → Nat} {N : Nat} (hB : ∀ i, B i < 256) (hN : N ≤ 600) (e : Nat) {M mm : Nat} {H : pH} {L : xA} {s r : rT} {a op : Nat} (D : Dj L) (o : ∀ j, M ≤ j → Ot L j) (ha : a ≤ N) (T : TX B N a s) (nd : ¬ (sk B N a < N ∧ isD (B (sk B N a)) = true)) (n40 : ¬ (sk B N a < N ∧ B (sk B N a) = 40)) (hw : sk B N a < we B N (sk B N a)) : ∃ s2, Kf [25, 26] [] s s2 ∧ TX B N (we B N (sk B N a)) s2 ∧ s2.1 26 = Int32.ofNat (sk B N a) ∧ vcall (e + 6) m_Lw_readUnit [.ref M, .ref 1, .int (Int32.ofNat op)] (lQ M mm H L s r) = kC1 (vcall (e + 5) m_Tp_wordIs [.ref 1, .ref (pSB + 5)] (lQ M mm H L s2 r)) (fun v8 s7 => (if (v8 : Int32) = 0 then kC1 (vcall (e + 5) m_Tp_wordIs [.ref 1, .ref (pSB + 6)] s7) (fun v10 s9 => (if (v10 : Int32) = 0 then kC1 (call (e + 5) m_Lw_variableNamed [.ref 1] s9) (fun v12 s11 => (if ¬ (v12 : Int32) = (-1) then kC1 (vcall (e + 5) m_Lw_add [.ref M, .int (1000 + v12)] s11) (fun v14 s13 => (if v14 &&& 1 = v14 then some (.inl (some (.int v14)), s13) else none)) xp else kC1 (vcall (e + 5) m_Tp_failAtStart [.ref 1, .int 1] s11) (fun v16 s15 => (if v16 &&& 1 = v16 then some (.inl (some (.int v16)), s15) else none)) xp)) nX else kC1 (vcall (e + 5) m_Lw_readPair [.ref M, .ref 1, .int (Int32.ofNat op), .int 1014] s9) (fun v18 s17 => (if v18 &&& 1 = v18 then some (.inl (some (.int v18)), s17) else none)) xp)) xp else kC1 (vcall (e + 5) m_Lw_readPair [.ref M, .ref 1, .int (Int32.ofNat op), .int 1013] s7) (fun v20 s19 => (if v20 &&& 1 = v20 then some (.inl (some (.int v20)), s19) else none)) xp)) xp := by
  have hs := sk_le (B := B) ha
  obtain ⟨s1, k1, k2, k3⟩ := T_peek hB hN (e + 3) (b := aL M mm (lwL M r) H) D ha T
  have k3' : vcall (e + 5) m_Tp_peek [.ref 1] (lQ M mm H L s r) = some (.inl (some (.int (pkX B N (sk B N a)))), lQ M mm H L s1 r) := k3
  obtain ⟨s2, j1, j2, j3, j4⟩ := T_word_y hB hN (e + 2) (b := aL M mm (lwL M r) H) D hs k2 (by rw [sk_sk ha]; exact hw)
  rw [sk_sk ha] at j2 j3
  have j4' : vcall (e + 5) m_Tp_readWord [.ref 1] (lQ M mm H L s1 r) = some (.inl (some (.int 1)), lQ M mm H L s2 r) := j4
  refine ⟨s2, (k1.up (by decide) (by decide)).tr j1, j2, j3, (lQ_v o rfl).trans ((B_Lw_readUnit_0 _ _ _ _ _).trans ?_)⟩
  rw [k3', kC1_v, (isDx hB hN nd).1 (e + 4), kC1_v, if_pos rfl, if_pos (show ¬ pkX B N (sk B N a) = 40 from pkX_ne hB hN (c := 40) rfl (by decide) n40), j4', kC1_v, if_pos (by decide)]
theorem R_unW {B : Nat → Nat} {N : Nat} (hB : ∀ i, B i < 256) (hN : N ≤ 600) (e : Nat) (b : pS) {τ : rT} {a : Nat} (ha : a ≤ N) (T : TR B N a τ) (h5 : τ.1 5 = -1) (nd : ¬ (sk B N a < N ∧ isD (B (sk B N a)) = true)) (n40 : ¬ (sk B N a < N ∧ B (sk B N a) = 40)) : ∃ t3, Kf [4] [] τ t3 ∧ TR B N (sk B N a) t3 ∧ vcall (e + 6) m_R_readUnit [.ref 30] (mS b τ) = (if ¬ Int32.ofNat (wv B (sk B N a) (we B N (sk B N a) - sk B N a)) = Int32.ofNat (hw (rl w_least 0 5)) then kC1 (vcall (e + 5) m_R_word [.ref 30] (mS b t3)) (fun v14 s13 => kC1 (call (e + 5) m_R_of [.ref (pSB + 27)] s13) (fun v16 s15 => (if ¬ (v14 : Int32) = v16 then kC1 (vcall (e + 5) m_R_factHere [.ref 30] s15) (fun v18 s17 => (if ¬ (v18 : Int32) = (-1) then den (e + 5) m_R_readUnit 136 [.ref 30, .int v18] [] s17 else ((gFi s17 30 11 4).bind fun v19 => kC0 (vcall (e + 5) m_R_wrong [.ref 30, .int 1, .int v19] s17) (fun s20 => den (e + 5) m_R_readUnit 136 [.ref 30, .int v18] [] s20) xp))) xp else kC0 (vcall (e + 5) m_R_readTwo [.ref 30, .int 4, .int 7] s15) (fun s21 => some (.inl none, s21)) xp)) nX) xp else kC0 (vcall (e + 5) m_R_readTwo [.ref 30, .int 5, .int 6] (mS b t3)) (fun s22 => some (.inl none, s22)) xp) := by
  have hs := sk_le (B := B) ha
  have ess := sk_sk (B := B) ha
  obtain ⟨t1, k1, k2, k3⟩ := R_here hB hN (e + 4) b ha T
  obtain ⟨t2, j1, j2, j3⟩ := R_here hB hN (e + 4) b hs k2
  rw [ess] at j2 j3
  obtain ⟨t3, i1, i2, i3⟩ := R_word hB hN (e + 3) b hs j2
  rw [ess] at i2 i3
  refine ⟨t3, (k1.tr j1).tr i1, i2, (vR rfl).trans ((B_R_readUnit_0 _ _ _).trans ?_)⟩
  rw [R_fine1 (e + 4) b h5, kC1_v, if_pos (by decide), k3, kC1_v, if_pos (show ¬ pkR B N (sk B N a) = 40 from pkR_ne hB hN (c := 40) rfl (by decide) (by decide) n40), j3, kC1_v, (isDx hB hN nd).2 (e + 4), kC1_v, if_pos rfl, i3, kC1_v, R_of (e + 4) _ HW_26 (by decide), kC1_v]
theorem U_least {B : Nat → Nat} {N : Nat} (hB : ∀ i, B i < 256) (hN : N ≤ 600) (h150 : N ≤ 150) {k op a : Nat} (hk : op + (k + 1) = 6) (ha : a ≤ N) (nd : ¬ (sk B N a < N ∧ isD (B (sk B N a)) = true)) (n40 : ¬ (sk B N a < N ∧ B (sk B N a) = 40)) (h0 : wq B (sk B N a) (we B N (sk B N a) - sk B N a) w_least 5) (hS : ∀ a, a ≤ N → OUT B N a (op + 1) (op + 1) 1 (4 * k + 8) (Pu (3 * k + 3)) (fxS (op + 1)) frS) : OUT B N a op op 1 (4 * (k + 1) + 6) (Pu (3 * (k + 1) + 1)) (fxU op) frU := by
  have hs := sk_le (B := B) ha
  have hsg := sk_ge (B := B) ha
  have ess := sk_sk (B := B) ha
  have he : we B N (sk B N a) ≤ N := rn_le hs
  have hge : sk B N a ≤ we B N (sk B N a) := rn_ge hs
  have hlen := h0.1
  have hw : sk B N a < we B N (sk B N a) := by omega
  have hwe : sk B N a + 5 = we B N (sk B N a) := by omega
  have l6 : Int32.ofNat op < 6 := by show Int32.ofNat op < Int32.ofNat 6; rw [ii_lt (by omega) (by omega)]; omega
  rcases PAIR hB hN h150 (cx := 1013) (cr := 6) he (by decide) (by decide) (by decide) hS with ⟨a', nc, z1, z2, z3, z4, zX, zR⟩ | ⟨κ, p, hκ, hp, zX, zR⟩
  · refine Or.inl ⟨a', nc, by omega, z2, by omega, z4, fun d M mm H L s r cl hdx D o T hl hc => ?_, fun d b τ cl hdx T h5 h7 hl hc => ?_⟩
    · obtain ⟨e, rfl⟩ : ∃ e, d = e + 6 := ⟨d - 6, by omega⟩
      obtain ⟨s1, k1, k2, k3, k4⟩ := X_unW hB hN e (M := M) (mm := mm) (H := H) (s := s) (r := r) (op := op) D o ha T nd n40 hw
      obtain ⟨x0, y0, z0, e0⟩ := T_is hB hN (e + 3) (b := aL M mm (lwL M r) H) D k2 k3 he (by omega) HW_5
      have e0' : vcall (e + 5) m_Tp_wordIs [.ref 1, .ref (pSB + 5)] (lQ M mm H L s1 r) = some (.inl (some (.int x0)), lQ M mm H L s1 r) := e0
      rw [y0 h0] at e0'
      obtain ⟨s2, r2, j1, j2, j3, j4⟩ := zX (e + 4) M mm H L s1 r cl (by omega) D o k2 hl (by omega)
      have br : vcall (e + 5) m_Lw_readPair [.ref M, .ref 1, .int (Int32.ofNat op), .int 1013] (lQ M mm H L s1 r) = some (.inl (some (.int 1)), lQ M mm H L s2 r2) := by
        refine (lQ_v o rfl).trans ((B_Lw_readPair_0 _ _ _ _ _ _).trans ?_)
        rw [if_pos l6, ii_1]
        exact j4
      refine ⟨s2, r2, k1.tr j1, j2, j3, k4.trans ?_⟩
      rw [e0', kC1_v, if_neg (by decide), br, kC1_v, if_pos (by decide)]
    · obtain ⟨e, rfl⟩ : ∃ e, d = e + 6 := ⟨d - 6, by omega⟩
      obtain ⟨t1, k1, k2, k3⟩ := R_unW hB hN e b ha T h5 nd n40
      rw [if_neg (by rw [word_eq hB hN hs HW_26 (by decide) (by decide)]; exact fun h => h h0)] at k3
      have h5' : t1.1 5 = -1 := (k1.1 5 (by decide)).trans h5
      have op1 : vcall (e + 4) m_R_opensOne [.ref 30, .int 5] (mS b t1) = some (.inl none, mS b (wF (wF t1 4 (Int32.ofNat (sk B N a + 5))) 7 (Int32.ofNat (op + 1)))) := R_open (e + 2) b (k := 5) h5' k2.2.1 ((k1.1 7 (by decide)).trans h7) (by omega)
      obtain ⟨t2, j1, j2, j3, j4, j5⟩ := zR (e + 4) b (wF (wF t1 4 (Int32.ofNat (sk B N a + 5))) 7 (Int32.ofNat (op + 1))) cl (by omega) ⟨k2.1, by rw [← hwe]; rfl, k2.2.2⟩ h5' rfl (LR_t (LR_k hl k1) _ _) (by omega)
      have two : vcall (e + 5) m_R_readTwo [.ref 30, .int 5, .int 6] (mS b t1) = some (.inl none, mS b t2) := by
        refine (vR rfl).trans ((B_R_readTwo_0 _ _ _ _ _).trans ?_)
        rw [op1, kC0_v]
        exact j5
      refine ⟨t2, (((k1.up (by decide) (by decide)).wF (by decide) _).wF (by decide) _).tr j1, j2, j3, j4, k3.trans ?_⟩
      rw [two, kC0_v]
  · refine Or.inr ⟨κ, p, hκ, hp, fun d M mm H L s r cl hdx D o T hl hc => ?_, fun d b τ cl hdx T h5 h7 hl hc => ?_⟩
    · obtain ⟨e, rfl⟩ : ∃ e, d = e + 6 := ⟨d - 6, by omega⟩
      obtain ⟨s1, k1, k2, k3, k4⟩ := X_unW hB hN e (M := M) (mm := mm) (H := H) (s := s) (r := r) (op := op) D o ha T nd n40 hw
      obtain ⟨x0, y0, z0, e0⟩ := T_is hB hN (e + 3) (b := aL M mm (lwL M r) H) D k2 k3 he (by omega) HW_5
      have e0' : vcall (e + 5) m_Tp_wordIs [.ref 1, .ref (pSB + 5)] (lQ M mm H L s1 r) = some (.inl (some (.int x0)), lQ M mm H L s1 r) := e0
      rw [y0 h0] at e0'
      obtain ⟨s2, r2, j1, j2, j4⟩ := zX (e + 4) M mm H L s1 r cl (by omega) D o k2 hl (by omega)
      have br : vcall (e + 5) m_Lw_readPair [.ref M, .ref 1, .int (Int32.ofNat op), .int 1013] (lQ M mm H L s1 r) = some (.inl (some (.int 0)), lQ M mm H L s2 r2) := by
        refine (lQ_v o rfl).trans ((B_Lw_readPair_0 _ _ _ _ _ _).trans ?_)
        rw [if_pos l6, ii_1]
        exact j4
      refine ⟨s2, r2, (k1.up (by decide) (by decide)).tr j1, j2, k4.trans ?_⟩
      rw [e0', kC1_v, if_neg (by decide), br, kC1_v, if_pos (by decide)]
    · obtain ⟨e, rfl⟩ : ∃ e, d = e + 6 := ⟨d - 6, by omega⟩
      obtain ⟨t1, k1, k2, k3⟩ := R_unW hB hN e b ha T h5 nd n40
      rw [if_neg (by rw [word_eq hB hN hs HW_26 (by decide) (by decide)]; exact fun h => h h0)] at k3
      have h5' : t1.1 5 = -1 := (k1.1 5 (by decide)).trans h5
      have op1 : vcall (e + 4) m_R_opensOne [.ref 30, .int 5] (mS b t1) = some (.inl none, mS b (wF (wF t1 4 (Int32.ofNat (sk B N a + 5))) 7 (Int32.ofNat (op + 1)))) := R_open (e + 2) b (k := 5) h5' k2.2.1 ((k1.1 7 (by decide)).trans h7) (by omega)
      obtain ⟨t2, j1, j2, j5⟩ := zR (e + 4) b (wF (wF t1 4 (Int32.ofNat (sk B N a + 5))) 7 (Int32.ofNat (op + 1))) cl (by omega) ⟨k2.1, by rw [← hwe]; rfl, k2.2.2⟩ h5' rfl (LR_t (LR_k hl k1) _ _) (by omega)
      have two : vcall (e + 5) m_R_readTwo [.ref 30, .int 5, .int 6] (mS b t1) = some (.inl none, mS b t2) := by
        refine (vR rfl).trans ((B_R_readTwo_0 _ _ _ _ _).trans ?_)
        rw [op1, kC0_v]
        exact j5
      refine ⟨t2, (((k1.up (by decide) (by decide)).wF (by decide) _).wF (by decide) _).tr j1, j2, k3.trans ?_⟩
      rw [two, kC0_v]
theorem U_least6 {B : Nat → Nat} {N : Nat} (hB : ∀ i, B i < 256) (hN : N ≤ 600) {a : Nat} {Q : List Nat → Prop} (ha : a ≤ N) (nd : ¬ (sk B N a < N ∧ isD (B (sk B N a)) = true)) (n40 : ¬ (sk B N a < N ∧ B (sk B N a) = 40)) (h0 : wq B (sk B N a) (we B N (sk B N a) - sk B N a) w_least 5) : OUT B N a 6 6 1 6 Q (fxU 6) frU := by
  have hs := sk_le (B := B) ha
  have ess := sk_sk (B := B) ha
  have he : we B N (sk B N a) ≤ N := rn_le hs
  have hge : sk B N a ≤ we B N (sk B N a) := rn_ge hs
  have hlen := h0.1
  have hw : sk B N a < we B N (sk B N a) := by omega
  refine Or.inr ⟨3, sk B N a, by decide, by omega, fun d M mm H L s r cl hdx D o T hl hc => ?_, fun d b τ cl hdx T h5 h7 hl hc => ?_⟩
  · obtain ⟨e, rfl⟩ : ∃ e, d = e + 6 := ⟨d - 6, by omega⟩
    obtain ⟨s1, k1, k2, k3, k4⟩ := X_unW hB hN e (M := M) (mm := mm) (H := H) (s := s) (r := r) (op := 6) D o ha T nd n40 hw
    obtain ⟨x0, y0, z0, e0⟩ := T_is hB hN (e + 3) (b := aL M mm (lwL M r) H) D k2 k3 he (by omega) HW_5
    have e0' : vcall (e + 5) m_Tp_wordIs [.ref 1, .ref (pSB + 5)] (lQ M mm H L s1 r) = some (.inl (some (.int x0)), lQ M mm H L s1 r) := e0
    rw [y0 h0] at e0'
    have fa : vcall (e + 4) m_Tp_failAtStart [.ref 1, .int 3] (lQ M mm H L s1 r) = some (.inl (some (.int 0)), lQ M mm H L (wF (wF s1 23 3) 22 (s1.1 26)) r) := T_failAt (e + 3) D 3
    have br : vcall (e + 5) m_Lw_readPair [.ref M, .ref 1, .int (Int32.ofNat 6), .int 1013] (lQ M mm H L s1 r) = some (.inl (some (.int 0)), lQ M mm H L (wF (wF s1 23 3) 22 (s1.1 26)) r) := by
      refine (lQ_v o rfl).trans ((B_Lw_readPair_0 _ _ _ _ _ _).trans ?_)
      rw [if_neg (by decide), fa, kC1_v, if_pos (by decide)]
    refine ⟨wF (wF s1 23 3) 22 (s1.1 26), r, ((k1.up (by decide) (by decide)).wF (by decide) _).wF (by decide) _, ⟨rfl, k3⟩, k4.trans ?_⟩
    rw [e0', kC1_v, if_neg (by decide), br, kC1_v, if_pos (by decide)]
  · obtain ⟨e, rfl⟩ : ∃ e, d = e + 6 := ⟨d - 6, by omega⟩
    obtain ⟨t1, k1, k2, k3⟩ := R_unW hB hN e b ha T h5 nd n40
    rw [if_neg (by rw [word_eq hB hN hs HW_26 (by decide) (by decide)]; exact fun h => h h0)] at k3
    have h5' : t1.1 5 = -1 := (k1.1 5 (by decide)).trans h5
    have op1 : vcall (e + 4) m_R_opensOne [.ref 30, .int 5] (mS b t1) = some (.inl none, mS b (wF (wF (wF t1 5 (Int32.ofNat (sk B N a))) 6 3) 7 (Int32.ofNat 7))) := R_open6 (e + 2) b h5' k2.2.1 (by omega) ((k1.1 7 (by decide)).trans h7) 5
    have f1 : FR (wF (wF (wF t1 5 (Int32.ofNat (sk B N a))) 6 3) 7 (Int32.ofNat 7)) 3 (sk B N a) := ⟨rfl, rfl⟩
    obtain ⟨t2, j1, j2⟩ := NB_pa 6 (e + 4) b (wF (wF (wF t1 5 (Int32.ofNat (sk B N a))) 6 3) 7 (Int32.ofNat 7)) (by omega) (FR_b f1 (by omega))
    have two : vcall (e + 5) m_R_readTwo [.ref 30, .int 5, .int 6] (mS b t1) = some (.inl none, mS b t2) := by
      refine (vR rfl).trans ((B_R_readTwo_0 _ _ _ _ _).trans ?_)
      rw [op1, kC0_v]
      exact j2
    refine ⟨t2, ((((k1.up (by decide) (by decide)).wF (by decide) _).wF (by decide) _).wF (by decide) _).tr (j1.up (by decide) (by decide)), ⟨(j1.1 6 (by decide)).trans f1.1, (j1.1 5 (by decide)).trans f1.2⟩, k3.trans ?_⟩
    rw [two, kC0_v]
theorem U_most {B : Nat → Nat} {N : Nat} (hB : ∀ i, B i < 256) (hN : N ≤ 600) (h150 : N ≤ 150) {k op a : Nat} (hk : op + (k + 1) = 6) (ha : a ≤ N) (nd : ¬ (sk B N a < N ∧ isD (B (sk B N a)) = true)) (n40 : ¬ (sk B N a < N ∧ B (sk B N a) = 40)) (h0 : ¬ wq B (sk B N a) (we B N (sk B N a) - sk B N a) w_least 5) (h1 : wq B (sk B N a) (we B N (sk B N a) - sk B N a) w_most 4) (hS : ∀ a, a ≤ N → OUT B N a (op + 1) (op + 1) 1 (4 * k + 8) (Pu (3 * k + 3)) (fxS (op + 1)) frS) : OUT B N a op op 1 (4 * (k + 1) + 6) (Pu (3 * (k + 1) + 1)) (fxU op) frU := by
  have hs := sk_le (B := B) ha
  have hsg := sk_ge (B := B) ha
  have ess := sk_sk (B := B) ha
  have he : we B N (sk B N a) ≤ N := rn_le hs
  have hge : sk B N a ≤ we B N (sk B N a) := rn_ge hs
  have hlen := h1.1
  have hw : sk B N a < we B N (sk B N a) := by omega
  have hwe : sk B N a + 4 = we B N (sk B N a) := by omega
  have l6 : Int32.ofNat op < 6 := by show Int32.ofNat op < Int32.ofNat 6; rw [ii_lt (by omega) (by omega)]; omega
  rcases PAIR hB hN h150 (cx := 1014) (cr := 7) he (by decide) (by decide) (by decide) hS with ⟨a', nc, z1, z2, z3, z4, zX, zR⟩ | ⟨κ, p, hκ, hp, zX, zR⟩
  · refine Or.inl ⟨a', nc, by omega, z2, by omega, z4, fun d M mm H L s r cl hdx D o T hl hc => ?_, fun d b τ cl hdx T h5 h7 hl hc => ?_⟩
    · obtain ⟨e, rfl⟩ : ∃ e, d = e + 6 := ⟨d - 6, by omega⟩
      obtain ⟨s1, k1, k2, k3, k4⟩ := X_unW hB hN e (M := M) (mm := mm) (H := H) (s := s) (r := r) (op := op) D o ha T nd n40 hw
      obtain ⟨x0, y0, z0, e0⟩ := T_is hB hN (e + 3) (b := aL M mm (lwL M r) H) D k2 k3 he (by omega) HW_5
      have e0' : vcall (e + 5) m_Tp_wordIs [.ref 1, .ref (pSB + 5)] (lQ M mm H L s1 r) = some (.inl (some (.int x0)), lQ M mm H L s1 r) := e0
      rw [z0 h0] at e0'
      obtain ⟨x1, y1, z1, e1⟩ := T_is hB hN (e + 3) (b := aL M mm (lwL M r) H) D k2 k3 he (by omega) HW_6
      have e1' : vcall (e + 5) m_Tp_wordIs [.ref 1, .ref (pSB + 6)] (lQ M mm H L s1 r) = some (.inl (some (.int x1)), lQ M mm H L s1 r) := e1
      rw [y1 h1] at e1'
      obtain ⟨s2, r2, j1, j2, j3, j4⟩ := zX (e + 4) M mm H L s1 r cl (by omega) D o k2 hl (by omega)
      have br : vcall (e + 5) m_Lw_readPair [.ref M, .ref 1, .int (Int32.ofNat op), .int 1014] (lQ M mm H L s1 r) = some (.inl (some (.int 1)), lQ M mm H L s2 r2) := by
        refine (lQ_v o rfl).trans ((B_Lw_readPair_0 _ _ _ _ _ _).trans ?_)
        rw [if_pos l6, ii_1]
        exact j4
      refine ⟨s2, r2, k1.tr j1, j2, j3, k4.trans ?_⟩
      rw [e0', kC1_v, if_pos rfl, e1', kC1_v, if_neg (by decide), br, kC1_v, if_pos (by decide)]
    · obtain ⟨e, rfl⟩ : ∃ e, d = e + 6 := ⟨d - 6, by omega⟩
      obtain ⟨t1, k1, k2, k3⟩ := R_unW hB hN e b ha T h5 nd n40
      obtain ⟨t9, m1, m2, m3⟩ := R_word hB hN (e + 3) b hs k2
      rw [ess] at m2 m3
      have m3' : vcall (e + 5) m_R_word [.ref 30] (mS b t1) = _ := m3
      rw [if_pos (by rw [word_eq hB hN hs HW_26 (by decide) (by decide)]; exact h0), m3', kC1_v, R_of (e + 4) _ HW_27 (by decide), kC1_v, if_neg (by rw [word_eq hB hN hs HW_27 (by decide) (by decide)]; exact fun h => h h1)] at k3
      have h5' : t9.1 5 = -1 := ((k1.tr m1).1 5 (by decide)).trans h5
      have op1 : vcall (e + 4) m_R_opensOne [.ref 30, .int 4] (mS b t9) = some (.inl none, mS b (wF (wF t9 4 (Int32.ofNat (sk B N a + 4))) 7 (Int32.ofNat (op + 1)))) := R_open (e + 2) b (k := 4) h5' m2.2.1 (((k1.tr m1).1 7 (by decide)).trans h7) (by omega)
      obtain ⟨t2, j1, j2, j3, j4, j5⟩ := zR (e + 4) b (wF (wF t9 4 (Int32.ofNat (sk B N a + 4))) 7 (Int32.ofNat (op + 1))) cl (by omega) ⟨m2.1, by rw [← hwe]; rfl, m2.2.2⟩ h5' rfl (LR_t (LR_k hl (k1.tr m1)) _ _) (by omega)
      have two : vcall (e + 5) m_R_readTwo [.ref 30, .int 4, .int 7] (mS b t9) = some (.inl none, mS b t2) := by
        refine (vR rfl).trans ((B_R_readTwo_0 _ _ _ _ _).trans ?_)
        rw [op1, kC0_v]
        exact j5
      refine ⟨t2, ((((k1.tr m1).up (by decide) (by decide)).wF (by decide) _).wF (by decide) _).tr j1, j2, j3, j4, k3.trans ?_⟩
      rw [two, kC0_v]
  · refine Or.inr ⟨κ, p, hκ, hp, fun d M mm H L s r cl hdx D o T hl hc => ?_, fun d b τ cl hdx T h5 h7 hl hc => ?_⟩
    · obtain ⟨e, rfl⟩ : ∃ e, d = e + 6 := ⟨d - 6, by omega⟩
      obtain ⟨s1, k1, k2, k3, k4⟩ := X_unW hB hN e (M := M) (mm := mm) (H := H) (s := s) (r := r) (op := op) D o ha T nd n40 hw
      obtain ⟨x0, y0, z0, e0⟩ := T_is hB hN (e + 3) (b := aL M mm (lwL M r) H) D k2 k3 he (by omega) HW_5
      have e0' : vcall (e + 5) m_Tp_wordIs [.ref 1, .ref (pSB + 5)] (lQ M mm H L s1 r) = some (.inl (some (.int x0)), lQ M mm H L s1 r) := e0
      rw [z0 h0] at e0'
      obtain ⟨x1, y1, z1, e1⟩ := T_is hB hN (e + 3) (b := aL M mm (lwL M r) H) D k2 k3 he (by omega) HW_6
      have e1' : vcall (e + 5) m_Tp_wordIs [.ref 1, .ref (pSB + 6)] (lQ M mm H L s1 r) = some (.inl (some (.int x1)), lQ M mm H L s1 r) := e1
      rw [y1 h1] at e1'
      obtain ⟨s2, r2, j1, j2, j4⟩ := zX (e + 4) M mm H L s1 r cl (by omega) D o k2 hl (by omega)
      have br : vcall (e + 5) m_Lw_readPair [.ref M, .ref 1, .int (Int32.ofNat op), .int 1014] (lQ M mm H L s1 r) = some (.inl (some (.int 0)), lQ M mm H L s2 r2) := by
        refine (lQ_v o rfl).trans ((B_Lw_readPair_0 _ _ _ _ _ _).trans ?_)
        rw [if_pos l6, ii_1]
        exact j4
      refine ⟨s2, r2, (k1.up (by decide) (by decide)).tr j1, j2, k4.trans ?_⟩
      rw [e0', kC1_v, if_pos rfl, e1', kC1_v, if_neg (by decide), br, kC1_v, if_pos (by decide)]
    · obtain ⟨e, rfl⟩ : ∃ e, d = e + 6 := ⟨d - 6, by omega⟩
      obtain ⟨t1, k1, k2, k3⟩ := R_unW hB hN e b ha T h5 nd n40
      obtain ⟨t9, m1, m2, m3⟩ := R_word hB hN (e + 3) b hs k2
      rw [ess] at m2 m3
      have m3' : vcall (e + 5) m_R_word [.ref 30] (mS b t1) = _ := m3
      rw [if_pos (by rw [word_eq hB hN hs HW_26 (by decide) (by decide)]; exact h0), m3', kC1_v, R_of (e + 4) _ HW_27 (by decide), kC1_v, if_neg (by rw [word_eq hB hN hs HW_27 (by decide) (by decide)]; exact fun h => h h1)] at k3
      have h5' : t9.1 5 = -1 := ((k1.tr m1).1 5 (by decide)).trans h5
      have op1 : vcall (e + 4) m_R_opensOne [.ref 30, .int 4] (mS b t9) = some (.inl none, mS b (wF (wF t9 4 (Int32.ofNat (sk B N a + 4))) 7 (Int32.ofNat (op + 1)))) := R_open (e + 2) b (k := 4) h5' m2.2.1 (((k1.tr m1).1 7 (by decide)).trans h7) (by omega)
      obtain ⟨t2, j1, j2, j5⟩ := zR (e + 4) b (wF (wF t9 4 (Int32.ofNat (sk B N a + 4))) 7 (Int32.ofNat (op + 1))) cl (by omega) ⟨m2.1, by rw [← hwe]; rfl, m2.2.2⟩ h5' rfl (LR_t (LR_k hl (k1.tr m1)) _ _) (by omega)
      have two : vcall (e + 5) m_R_readTwo [.ref 30, .int 4, .int 7] (mS b t9) = some (.inl none, mS b t2) := by
        refine (vR rfl).trans ((B_R_readTwo_0 _ _ _ _ _).trans ?_)
        rw [op1, kC0_v]
        exact j5
      refine ⟨t2, ((((k1.tr m1).up (by decide) (by decide)).wF (by decide) _).wF (by decide) _).tr j1, j2, k3.trans ?_⟩
      rw [two, kC0_v]
theorem U_most6 {B : Nat → Nat} {N : Nat} (hB : ∀ i, B i < 256) (hN : N ≤ 600) {a : Nat} {Q : List Nat → Prop} (ha : a ≤ N) (nd : ¬ (sk B N a < N ∧ isD (B (sk B N a)) = true)) (n40 : ¬ (sk B N a < N ∧ B (sk B N a) = 40)) (h0 : ¬ wq B (sk B N a) (we B N (sk B N a) - sk B N a) w_least 5) (h1 : wq B (sk B N a) (we B N (sk B N a) - sk B N a) w_most 4) : OUT B N a 6 6 1 6 Q (fxU 6) frU := by
  have hs := sk_le (B := B) ha
  have ess := sk_sk (B := B) ha
  have he : we B N (sk B N a) ≤ N := rn_le hs
  have hge : sk B N a ≤ we B N (sk B N a) := rn_ge hs
  have hlen := h1.1
  have hw : sk B N a < we B N (sk B N a) := by omega
  refine Or.inr ⟨3, sk B N a, by decide, by omega, fun d M mm H L s r cl hdx D o T hl hc => ?_, fun d b τ cl hdx T h5 h7 hl hc => ?_⟩
  · obtain ⟨e, rfl⟩ : ∃ e, d = e + 6 := ⟨d - 6, by omega⟩
    obtain ⟨s1, k1, k2, k3, k4⟩ := X_unW hB hN e (M := M) (mm := mm) (H := H) (s := s) (r := r) (op := 6) D o ha T nd n40 hw
    obtain ⟨x0, y0, z0, e0⟩ := T_is hB hN (e + 3) (b := aL M mm (lwL M r) H) D k2 k3 he (by omega) HW_5
    have e0' : vcall (e + 5) m_Tp_wordIs [.ref 1, .ref (pSB + 5)] (lQ M mm H L s1 r) = some (.inl (some (.int x0)), lQ M mm H L s1 r) := e0
    rw [z0 h0] at e0'
    obtain ⟨x1, y1, z1, e1⟩ := T_is hB hN (e + 3) (b := aL M mm (lwL M r) H) D k2 k3 he (by omega) HW_6
    have e1' : vcall (e + 5) m_Tp_wordIs [.ref 1, .ref (pSB + 6)] (lQ M mm H L s1 r) = some (.inl (some (.int x1)), lQ M mm H L s1 r) := e1
    rw [y1 h1] at e1'
    have fa : vcall (e + 4) m_Tp_failAtStart [.ref 1, .int 3] (lQ M mm H L s1 r) = some (.inl (some (.int 0)), lQ M mm H L (wF (wF s1 23 3) 22 (s1.1 26)) r) := T_failAt (e + 3) D 3
    have br : vcall (e + 5) m_Lw_readPair [.ref M, .ref 1, .int (Int32.ofNat 6), .int 1014] (lQ M mm H L s1 r) = some (.inl (some (.int 0)), lQ M mm H L (wF (wF s1 23 3) 22 (s1.1 26)) r) := by
      refine (lQ_v o rfl).trans ((B_Lw_readPair_0 _ _ _ _ _ _).trans ?_)
      rw [if_neg (by decide), fa, kC1_v, if_pos (by decide)]
    refine ⟨wF (wF s1 23 3) 22 (s1.1 26), r, ((k1.up (by decide) (by decide)).wF (by decide) _).wF (by decide) _, ⟨rfl, k3⟩, k4.trans ?_⟩
    rw [e0', kC1_v, if_pos rfl, e1', kC1_v, if_neg (by decide), br, kC1_v, if_pos (by decide)]
  · obtain ⟨e, rfl⟩ : ∃ e, d = e + 6 := ⟨d - 6, by omega⟩
    obtain ⟨t1, k1, k2, k3⟩ := R_unW hB hN e b ha T h5 nd n40
    obtain ⟨t9, m1, m2, m3⟩ := R_word hB hN (e + 3) b hs k2
    rw [ess] at m2 m3
    have m3' : vcall (e + 5) m_R_word [.ref 30] (mS b t1) = _ := m3
    rw [if_pos (by rw [word_eq hB hN hs HW_26 (by decide) (by decide)]; exact h0), m3', kC1_v, R_of (e + 4) _ HW_27 (by decide), kC1_v, if_neg (by rw [word_eq hB hN hs HW_27 (by decide) (by decide)]; exact fun h => h h1)] at k3
    have h5' : t9.1 5 = -1 := ((k1.tr m1).1 5 (by decide)).trans h5
    have op1 : vcall (e + 4) m_R_opensOne [.ref 30, .int 4] (mS b t9) = some (.inl none, mS b (wF (wF (wF t9 5 (Int32.ofNat (sk B N a))) 6 3) 7 (Int32.ofNat 7))) := R_open6 (e + 2) b h5' m2.2.1 (by omega) (((k1.tr m1).1 7 (by decide)).trans h7) 4
    have f1 : FR (wF (wF (wF t9 5 (Int32.ofNat (sk B N a))) 6 3) 7 (Int32.ofNat 7)) 3 (sk B N a) := ⟨rfl, rfl⟩
    obtain ⟨t2, j1, j2⟩ := NB_pa 7 (e + 4) b (wF (wF (wF t9 5 (Int32.ofNat (sk B N a))) 6 3) 7 (Int32.ofNat 7)) (by omega) (FR_b f1 (by omega))
    have two : vcall (e + 5) m_R_readTwo [.ref 30, .int 4, .int 7] (mS b t9) = some (.inl none, mS b t2) := by
      refine (vR rfl).trans ((B_R_readTwo_0 _ _ _ _ _).trans ?_)
      rw [op1, kC0_v]
      exact j2
    refine ⟨t2, (((((k1.tr m1).up (by decide) (by decide)).wF (by decide) _).wF (by decide) _).wF (by decide) _).tr (j1.up (by decide) (by decide)), ⟨(j1.1 6 (by decide)).trans f1.1, (j1.1 5 (by decide)).trans f1.2⟩, k3.trans ?_⟩
    rw [two, kC0_v]
/-- a fact, or no word that counts -/
theorem U_var {B : Nat → Nat} {N : Nat} (hB : ∀ i, B i < 256) (hN : N ≤ 600) (h150 : N ≤ 150) {k op a : Nat} (ha : a ≤ N) (nd : ¬ (sk B N a < N ∧ isD (B (sk B N a)) = true)) (n40 : ¬ (sk B N a < N ∧ B (sk B N a) = 40)) (h0 : ¬ wq B (sk B N a) (we B N (sk B N a) - sk B N a) w_least 5) (h1 : ¬ wq B (sk B N a) (we B N (sk B N a) - sk B N a) w_most 4) : OUT B N a op op 1 (4 * k + 6) (Pu (3 * k + 1)) (fxU op) frU := by
  have hs := sk_le (B := B) ha
  have hsg := sk_ge (B := B) ha
  have ess := sk_sk (B := B) ha
  have he : we B N (sk B N a) ≤ N := rn_le hs
  have hge : sk B N a ≤ we B N (sk B N a) := rn_ge hs
  obtain ⟨v, v0, v1, vX, vR'⟩ := VAR hB hN hs ess
  have hX0 : ∀ e M mm H L s r, Dj L → (∀ j, M ≤ j → Ot L j) → TX B N a s → sk B N a < we B N (sk B N a) → ∃ s1, Kf [25, 26] [] s s1 ∧ TX B N (we B N (sk B N a)) s1 ∧ s1.1 26 = Int32.ofNat (sk B N a) ∧ vcall (e + 6) m_Lw_readUnit [.ref M, .ref 1, .int (Int32.ofNat op)] (lQ M mm H L s r) = (if ¬ (v : Int32) = (-1) then kC1 (vcall (e + 5) m_Lw_add [.ref M, .int (1000 + v)] (lQ M mm H L s1 r)) (fun v14 s13 => (if v14 &&& 1 = v14 then some (.inl (some (.int v14)), s13) else none)) xp else kC1 (vcall (e + 5) m_Tp_failAtStart [.ref 1, .int 1] (lQ M mm H L s1 r)) (fun v16 s15 => (if v16 &&& 1 = v16 then some (.inl (some (.int v16)), s15) else none)) xp) := fun e M mm H L s r D o T hw => by
    obtain ⟨s1, k1, k2, k3, k4⟩ := X_unW hB hN e (M := M) (mm := mm) (H := H) (s := s) (r := r) (op := op) D o ha T nd n40 hw
    obtain ⟨x0, y0, z0, e0⟩ := T_is hB hN (e + 3) (b := aL M mm (lwL M r) H) D k2 k3 he (by omega) HW_5
    have e0' : vcall (e + 5) m_Tp_wordIs [.ref 1, .ref (pSB + 5)] (lQ M mm H L s1 r) = some (.inl (some (.int x0)), lQ M mm H L s1 r) := e0
    rw [z0 h0] at e0'
    obtain ⟨x1, y1, z1, e1⟩ := T_is hB hN (e + 3) (b := aL M mm (lwL M r) H) D k2 k3 he (by omega) HW_6
    have e1' : vcall (e + 5) m_Tp_wordIs [.ref 1, .ref (pSB + 6)] (lQ M mm H L s1 r) = some (.inl (some (.int x1)), lQ M mm H L s1 r) := e1
    rw [z1 h1] at e1'
    have e2 : call (e + 5) m_Lw_variableNamed [.ref 1] (lQ M mm H L s1 r) = some (.inl (some (.int v)), lQ M mm H L s1 r) := vX (e + 2) (aL M mm (lwL M r) H) L s1 D k2 k3
    refine ⟨s1, k1, k2, k3, k4.trans ?_⟩
    rw [e0', kC1_v, if_pos rfl, e1', kC1_v, if_pos rfl, e2, kC1_v]
  have hR0 : ∀ e b τ, TR B N a τ → τ.1 5 = -1 → ∃ t1, Kf [4] [] τ t1 ∧ TR B N (sk B N a) t1 ∧ vcall (e + 6) m_R_readUnit [.ref 30] (mS b τ) = (if ¬ (v : Int32) = (-1) then den (e + 5) m_R_readUnit 136 [.ref 30, .int v] [] (mS b t1) else ((gFi (mS b t1) 30 11 4).bind fun v19 => kC0 (vcall (e + 5) m_R_wrong [.ref 30, .int 1, .int v19] (mS b t1)) (fun s20 => den (e + 5) m_R_readUnit 136 [.ref 30, .int v] [] s20) xp)) := fun e b τ T h5 => by
    obtain ⟨t1, k1, k2, k3⟩ := R_unW hB hN e b ha T h5 nd n40
    obtain ⟨t2, j1, j2, j3⟩ := R_word hB hN (e + 3) b hs k2
    rw [ess] at j2 j3
    have j3' : vcall (e + 5) m_R_word [.ref 30] (mS b t1) = _ := j3
    obtain ⟨t3, i1, i2, i3⟩ := vR' (e + 2) b t2 j2
    have i3' : vcall (e + 5) m_R_factHere [.ref 30] (mS b t2) = _ := i3
    refine ⟨t3, (k1.tr j1).tr i1, i2, k3.trans ?_⟩
    rw [if_pos (by rw [word_eq hB hN hs HW_26 (by decide) (by decide)]; exact h0), j3', kC1_v, R_of (e + 4) _ HW_27 (by decide), kC1_v, if_pos (by rw [word_eq hB hN hs HW_27 (by decide) (by decide)]; exact h1), i3', kC1_v]
  rcases v0 with rfl | ⟨c, hc8, rfl⟩
  · refine Or.inr ⟨1, sk B N a, by decide, by omega, fun d M mm H L s r cl hdx D o T hl hc => ?_, fun d b τ cl hdx T h5 h7 hl hc => ?_⟩
    · obtain ⟨e, rfl⟩ : ∃ e, d = e + 6 := ⟨d - 6, by omega⟩
      by_cases hw : sk B N a < we B N (sk B N a)
      · obtain ⟨s1, k1, k2, k3, k4⟩ := hX0 e M mm H L s r D o T hw
        have fa : vcall (e + 5) m_Tp_failAtStart [.ref 1, .int 1] (lQ M mm H L s1 r) = some (.inl (some (.int 0)), lQ M mm H L (wF (wF s1 23 1) 22 (s1.1 26)) r) := T_failAt (e + 4) D 1
        refine ⟨wF (wF s1 23 1) 22 (s1.1 26), r, ((k1.up (by decide) (by decide)).wF (by decide) _).wF (by decide) _, ⟨rfl, k3⟩, k4.trans ?_⟩
        rw [if_neg (fun h => h rfl), fa, kC1_v, if_pos (by decide)]
      · obtain ⟨s1, k1, k2, k3⟩ := T_peek hB hN (e + 3) (b := aL M mm (lwL M r) H) D ha T
        have k3' : vcall (e + 5) m_Tp_peek [.ref 1] (lQ M mm H L s r) = some (.inl (some (.int (pkX B N (sk B N a)))), lQ M mm H L s1 r) := k3
        obtain ⟨s2, j1, j2, j3⟩ := T_word_n hB hN (e + 2) (b := aL M mm (lwL M r) H) D hs k2 (by rw [ess]; exact hw)
        rw [ess] at j2
        have j3' : vcall (e + 5) m_Tp_readWord [.ref 1] (lQ M mm H L s1 r) = some (.inl (some (.int 0)), lQ M mm H L s2 r) := j3
        refine ⟨s2, r, (k1.up (by decide) (by decide)).tr j1, j2, (lQ_v o rfl).trans ((B_Lw_readUnit_0 _ _ _ _ _).trans ?_)⟩
        rw [k3', kC1_v, (isDx hB hN nd).1 (e + 4), kC1_v, if_pos rfl, if_pos (show ¬ pkX B N (sk B N a) = 40 from pkX_ne hB hN (c := 40) rfl (by decide) n40), j3', kC1_v, if_neg (by decide)]
    · obtain ⟨e, rfl⟩ : ∃ e, d = e + 6 := ⟨d - 6, by omega⟩
      obtain ⟨t1, k1, k2, k3⟩ := hR0 e b τ T h5
      have h5' : t1.1 5 = -1 := (k1.1 5 (by decide)).trans h5
      have g4 : gFi (mS b t1) 30 11 4 = some (Int32.ofNat (sk B N a)) := (gFi_at mS_30 rfl).trans (congrArg some k2.2.1)
      have f1 : FR (wF (wF t1 5 (Int32.ofNat (sk B N a))) 6 1) 1 (sk B N a) := ⟨rfl, rfl⟩
      refine ⟨wF (wF t1 5 (Int32.ofNat (sk B N a))) 6 1, ((k1.up (by decide) (by decide)).wF (by decide) _).wF (by decide) _, f1, k3.trans ?_⟩
      rw [if_neg (fun h => h rfl), g4, obs, R_wrong (e + 4) b h5', kC0_v, B_R_readUnit_136, R_fine0 (e + 4) b (FR_b f1 (by omega)), kC1_v, if_neg (by decide)]
  · have nv : ¬ Int32.ofNat c = -1 := by rw [ii_n1 (by omega)]; exact id
    have hw : sk B N a < we B N (sk B N a) := by
      by_cases g : sk B N a < we B N (sk B N a)
      · exact g
      · exact absurd (v1 g) nv
    have e1000 : (1000 : Int32) + Int32.ofNat c = Int32.ofNat (1000 + c) := ii_add 1000 c
    refine Or.inl ⟨we B N (sk B N a), [1000 + c], by omega, he, by show 1 + a ≤ _; omega, Pu_1 (by omega) (by omega), fun d M mm H L s r cl hdx D o T hl hc => ?_, fun d b τ cl hdx T h5 h7 hl hc => ?_⟩
    · obtain ⟨e, rfl⟩ : ∃ e, d = e + 6 := ⟨d - 6, by omega⟩
      obtain ⟨s1, k1, k2, k3, k4⟩ := hX0 e M mm H L s r D o T hw
      obtain ⟨r2, l1, l2⟩ := X_add (e + 4) (M := M) (mm := mm) (H := H) (L := L) (s := s1) (r := r) o hl (by omega) (1000 + c)
      refine ⟨s1, r2, k1, k2, l1, k4.trans ?_⟩
      rw [if_pos nv, e1000, l2, kC1_v, if_pos (by decide)]
    · obtain ⟨e, rfl⟩ : ∃ e, d = e + 6 := ⟨d - 6, by omega⟩
      obtain ⟨t1, k1, k2, k3⟩ := hR0 e b τ T h5
      have h5' : t1.1 5 = -1 := (k1.1 5 (by decide)).trans h5
      obtain ⟨t2, j1, j2, j3⟩ := R_pass hB hN (e + 3) b hs k2
      have j3' : vcall (e + 5) m_R_pass [.ref 30] (mS b t1) = some (.inl none, mS b t2) := j3
      obtain ⟨t3, l1, l2, l3⟩ := R_emit (e + 3) b (τ := t2) (cl := cl) ((j1.1 5 (by decide)).trans h5') (LR_k (LR_k hl k1) j1) (by omega) (1000 + c) (x := 1) (y := Int32.ofNat c) (by unfold rWhat; rw [if_neg (by omega), if_pos (by omega)]; rfl) (by unfold rOf; rw [if_neg (by omega), if_pos (by omega), Nat.add_sub_cancel_left])
      refine ⟨t3, ((k1.tr j1).up (by decide) (by decide)).tr (l1.up (by decide) (by decide)), ⟨(l1.1 3 (by decide)).trans j2.1, (l1.1 4 (by decide)).trans j2.2.1, by rw [l1.2 32 (by decide)]; exact j2.2.2⟩, ?_, l2, k3.trans ?_⟩
      · rw [l1.1 7 (by decide), j1.1 7 (by decide), k1.1 7 (by decide)]; exact h7
      · rw [if_pos nv, B_R_readUnit_136, R_fine1 (e + 4) b h5', kC1_v, if_pos (by decide), j3', kC0_v, l3, kC0_v]
theorem UNIT {B : Nat → Nat} {N : Nat} (hB : ∀ i, B i < 256) (hN : N ≤ 600) (h150 : N ≤ 150) {k op : Nat} (hk : op + k = 6) (hS : ∀ k', k = k' + 1 → ∀ a, a ≤ N → OUT B N a (op + 1) (op + 1) 1 (4 * k' + 8) (Pu (3 * k' + 3)) (fxS (op + 1)) frS) {a : Nat} (ha : a ≤ N) : OUT B N a op op 1 (4 * k + 6) (Pu (3 * k + 1)) (fxU op) frU := by
  by_cases hd : sk B N a < N ∧ isD (B (sk B N a)) = true
  · exact U_num hB hN h150 ha hd.1 hd.2
  by_cases h40 : sk B N a < N ∧ B (sk B N a) = 40
  · cases k with
    | zero =>
      have : op = 6 := by omega
      subst this
      exact U_bra6 hB hN ha h40.1 h40.2
    | succ k => exact U_bra hB hN hk ha h40.1 h40.2 (hS k rfl)
  by_cases h0 : wq B (sk B N a) (we B N (sk B N a) - sk B N a) w_least 5
  · cases k with
    | zero =>
      have : op = 6 := by omega
      subst this
      exact U_least6 hB hN ha hd h40 h0
    | succ k => exact U_least hB hN h150 hk ha hd h40 h0 (hS k rfl)
  by_cases h1 : wq B (sk B N a) (we B N (sk B N a) - sk B N a) w_most 4
  · cases k with
    | zero =>
      have : op = 6 := by omega
      subst this
      exact U_most6 hB hN ha hd h40 h0 h1
    | succ k => exact U_most hB hN h150 hk ha hd h40 h0 h1 (hS k rfl)
  exact U_var hB hN h150 ha hd h40 h0 h1
