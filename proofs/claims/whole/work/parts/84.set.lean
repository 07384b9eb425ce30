/-! THE REFERENCE sets a studio: its rows -/
theorem R_set101 (d : Nat) (b : pS) (τ : rT) : ∀ (j i : Nat), i + j = 8 → ∀ g, den d m_R_sets 101 [.ref 30, .int (Int32.ofNat i)] [] (mS b (wR τ 53 g)) = den d m_R_sets 122 [.ref 30, .int 0] [] (mS b (wR τ 53 (fun x => if i ≤ x ∧ x < 8 then -1 else g x))) := by
  intro j
  induction j with
  | zero =>
    intro i hi g
    have : i = 8 := by omega
    subst this
    rw [B_R_sets_101, if_pos (by decide)]
    refine congrArg (fun z => den d m_R_sets 122 [.ref 30, .int 0] [] (mS b (wR τ 53 z))) (funext fun x => ?_)
    rw [if_neg (by omega)]
  | succ j ih =>
    intro i hi g
    have g47 : ∀ τ : rT, gFr (mS b τ) 30 11 47 = some 53 := fun τ => gFr_at mS_30 rfl
    rw [B_R_sets_101, if_neg (by show ¬ (Int32.ofNat 8 ≤ Int32.ofNat i); rw [ii_le (by omega) (by omega)]; omega), g47, obs, m_pI0 (n := 8) (by decide) (by decide) rfl (by decide) i _ (by omega), obs, ii_1, wA_wR, ih (i + 1) (by omega)]
    refine congrArg (fun z => den d m_R_sets 122 [.ref 30, .int 0] [] (mS b (wR τ 53 z))) (funext fun x => ?_)
    by_cases e : x = i
    · subst e; rw [if_neg (by omega), if_pos (by omega), upd_s]
    · by_cases h : i + 1 ≤ x ∧ x < 8
      · rw [if_pos h, if_pos (by omega)]
      · rw [if_neg h, if_neg (by omega), upd_n _ _ e]
theorem R_set122 (d : Nat) (b : pS) (τ : rT) : ∀ (j i : Nat), i + j = 76 → ∀ g, den d m_R_sets 122 [.ref 30, .int (Int32.ofNat i)] [] (mS b (wR τ 48 g)) = den d m_R_sets 143 [.ref 30, .int 0] [] (mS b (wR τ 48 (fun x => if i ≤ x ∧ x < 76 then 0 else g x))) := by
  intro j
  induction j with
  | zero =>
    intro i hi g
    have : i = 76 := by omega
    subst this
    rw [B_R_sets_122, if_pos (by decide)]
    refine congrArg (fun z => den d m_R_sets 143 [.ref 30, .int 0] [] (mS b (wR τ 48 z))) (funext fun x => ?_)
    rw [if_neg (by omega)]
  | succ j ih =>
    intro i hi g
    have g42 : ∀ τ : rT, gFr (mS b τ) 30 11 42 = some 48 := fun τ => gFr_at mS_30 rfl
    rw [B_R_sets_122, if_neg (by show ¬ (Int32.ofNat 76 ≤ Int32.ofNat i); rw [ii_le (by omega) (by omega)]; omega), g42, obs, m_pI0 (n := 76) (by decide) (by decide) rfl (by decide) i _ (by omega), obs, ii_1, wA_wR, ih (i + 1) (by omega)]
    refine congrArg (fun z => den d m_R_sets 143 [.ref 30, .int 0] [] (mS b (wR τ 48 z))) (funext fun x => ?_)
    by_cases e : x = i
    · subst e; rw [if_neg (by omega), if_pos (by omega), upd_s]
    · by_cases h : i + 1 ≤ x ∧ x < 76
      · rw [if_pos h, if_pos (by omega)]
      · rw [if_neg h, if_neg (by omega), upd_n _ _ e]
theorem R_set143 (d : Nat) (b : pS) (τ : rT) {m : Nat} (hm : τ.1 22 = Int32.ofNat m) (h8 : m ≤ 8) : ∀ (j i : Nat), i + j = m → ∀ g, den d m_R_sets 143 [.ref 30, .int (Int32.ofNat i)] [] (mS b (wR τ 48 g)) = den d m_R_sets 173 [.ref 30, .int 0] [] (mS b (wR τ 48 (fun x => if i ≤ x ∧ x < m then τ.2 33 x else g x))) := by
  intro j
  have g22 : ∀ g, gFi (mS b (wR τ 48 g)) 30 11 22 = some (Int32.ofNat m) := fun g => (gFi_at mS_30 rfl).trans (congrArg some hm)
  induction j with
  | zero =>
    intro i hi g
    rw [B_R_sets_143, g22, obs, if_pos (by rw [ii_le (by omega) (by omega)]; omega)]
    refine congrArg (fun z => den d m_R_sets 173 [.ref 30, .int 0] [] (mS b (wR τ 48 z))) (funext fun x => ?_)
    rw [if_neg (by omega)]
  | succ j ih =>
    intro i hi g
    have g42 : ∀ τ : rT, gFr (mS b τ) 30 11 42 = some 48 := fun τ => gFr_at mS_30 rfl
    have g10 : ∀ τ : rT, gFr (mS b τ) 30 11 10 = some 33 := fun τ => gFr_at mS_30 rfl
    have e0 : (0 : Int32) + Int32.ofNat i = Int32.ofNat i := Int32.zero_add _
    rw [B_R_sets_143, g22, obs, if_neg (by rw [ii_le (by omega) (by omega)]; omega), g42, obs, g10, obs, m_gI0 (n := 8) (by decide) (by decide) rfl (by decide) i (by omega), obs, e0, m_pI0 (n := 76) (by decide) (by decide) rfl (by decide) i _ (by omega), obs, ii_1, wA_wR, ih (i + 1) (by omega)]
    refine congrArg (fun z => den d m_R_sets 173 [.ref 30, .int 0] [] (mS b (wR τ 48 z))) (funext fun x => ?_)
    by_cases e : x = i
    · subst e; rw [if_neg (by omega), if_pos (by omega), upd_s]; rfl
    · by_cases h : i + 1 ≤ x ∧ x < m
      · rw [if_pos h, if_pos (by omega)]
      · rw [if_neg h, if_neg (by omega), upd_n _ _ e]
theorem R_set173 (d : Nat) (b : pS) (τ : rT) : ∀ (j i : Nat), i + j = 6 → ∀ g, den d m_R_sets 173 [.ref 30, .int (Int32.ofNat i)] [] (mS b (wR τ 48 g)) = some (.inl none, mS b (wR τ 48 (upd (fun x => if 8 + i ≤ x ∧ x < 14 then -1 else g x) 74 (τ.1 21)))) := by
  intro j
  have g42 : ∀ τ : rT, gFr (mS b τ) 30 11 42 = some 48 := fun τ => gFr_at mS_30 rfl
  have g21 : ∀ τ : rT, gFi (mS b τ) 30 11 21 = some (τ.1 21) := fun τ => gFi_at mS_30 rfl
  induction j with
  | zero =>
    intro i hi g
    have : i = 6 := by omega
    subst this
    have p := m_pI0 (b := b) (τ := wR τ 48 g) (a := 48) (n := 76) (by decide) (by decide) rfl (by decide) 74 (τ.1 21) (by decide)
    have p' : pI (mS b (wR τ 48 g)) 48 74 ((wR τ 48 g).1 21) = _ := p
    rw [B_R_sets_173, if_pos (by decide), g42, obs, g21, obs, p', obs, wA_wR]
    refine congrArg (fun z => some (Sum.inl none, mS b (wR τ 48 (upd z 74 (τ.1 21))))) (funext fun x => ?_)
    rw [if_neg (by omega)]
  | succ j ih =>
    intro i hi g
    have e0 : (8 : Int32) + Int32.ofNat i = Int32.ofNat (8 + i) := ii_add 8 i
    rw [B_R_sets_173, if_neg (by show ¬ (Int32.ofNat 6 ≤ Int32.ofNat i); rw [ii_le (by omega) (by omega)]; omega), g42, obs, e0, m_pI0 (n := 76) (by decide) (by decide) rfl (by decide) (8 + i) _ (by omega), obs, ii_1, wA_wR, ih (i + 1) (by omega)]
    refine congrArg (fun z => some (Sum.inl none, mS b (wR τ 48 (upd z 74 (τ.1 21))))) (funext fun x => ?_)
    by_cases e : x = 8 + i
    · subst e; rw [if_neg (by omega), if_pos (by omega), upd_s]
    · by_cases h : 8 + (i + 1) ≤ x ∧ x < 14
      · rw [if_pos h, if_pos (by omega)]
      · rw [if_neg h, if_neg (by omega), upd_n _ _ e]
