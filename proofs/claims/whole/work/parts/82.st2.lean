/-! A STUDIO: how the reference begins and ends -/
theorem R_st_no (d : Nat) (b : pS) (τ : rT) {tk : Nat} {x : Int32} (h6 : tk ≤ 600) (ht : τ.1 2 = Int32.ofNat tk) (h : ¬ (0 ≤ x ∧ x ≤ Int32.ofNat tk ∧ x ≤ Int32.ofNat 600)) : vcall (d + 2) m_R_studio [.ref 30, .int x] (mS b τ) = some (.inl (some (.int 0)), mS b (rN τ 1 1)) := by
  refine (vR rfl).trans ((B_R_studio_0 _ _ _ _).trans ?_)
  have e : den (d + 1) m_R_studio 23 [.ref 30, .int x, mk0, mk0, mk0] [.int 0, .ref 30] (mS b (wF τ 0 0)) = some (.inl (some (.int 0)), mS b (rN τ 1 1)) := by
    rw [B_R_studio_23, rm_n1 d (by decide), kC1_v, if_neg (by decide)]
  have ht' : (wF τ 0 0).1 2 = Int32.ofNat tk := ht
  simp only [m_pF, m_gF, obs, e, ht']
  by_cases g1 : x < 0
  · rw [if_pos g1]
  · rw [if_neg g1, if_pos]
    rcases Int32.lt_or_le (Int32.ofNat tk) x with g3 | g3
    · exact g3
    · exact absurd ⟨Int32.not_lt.mp g1, g3, Int32.le_trans g3 (by rw [ii_le (by omega) (by omega)]; omega)⟩ h
/-- the reference's new studio, empty -/
def cR0 (τ : rT) : rT := wF (wF (wF (wF (wF τ 17 0) 18 0) 19 0) 20 365) 21 20
theorem cR0_k (τ : rT) : Kf [17, 18, 19, 20, 21] [] τ (cR0 τ) := (((((Kf.rf _ _ τ).wF (by decide) _).wF (by decide) _).wF (by decide) _).wF (by decide) _).wF (by decide) _
theorem R_clears (d : Nat) (b : pS) (τ : rT) : vcall (d + 1) m_R_clears [.ref 30] (mS b τ) = some (.inl none, mS b (cR0 τ)) := by
  refine (vR rfl).trans ((B_R_clears_0 _ _ _).trans ?_)
  simp only [m_pF, obs]
  rfl
theorem cR0_SR (τ : rT) : SR (wF (wF ((fun _ => 0), fun _ _ => 0) 47 365) 48 20) (cR0 τ) 0 0 0 := ⟨⟨rfl, rfl, by decide⟩, ⟨rfl, rfl, by decide⟩, ⟨rfl, rfl, by decide⟩, ⟨365, by decide, by decide, rfl, rfl⟩, ⟨20, by decide, rfl, rfl⟩, fun t ht => by omega, fun t _ _ => rfl, fun p hp => by omega, fun i hi => by omega⟩
theorem R_st_yes (d : Nat) (b : pS) (τ : rT) {tk n : Nat} (ht : τ.1 2 = Int32.ofNat tk) (h6 : tk ≤ 600) (h1 : n ≤ tk) : vcall (d + 2) m_R_studio [.ref 30, .int (Int32.ofNat n)] (mS b τ) = den (d + 1) m_R_studio 44 [.ref 30, .int (Int32.ofNat n), .int 0, mk0, mk0] [] (mS b (cR0 (oR (wF τ 0 0) (Int32.ofNat n)))) := by
  refine (vR rfl).trans ((B_R_studio_0 _ _ _ _).trans ?_)
  have ht' : (wF τ 0 0).1 2 = Int32.ofNat tk := ht
  simp only [m_pF, m_gF, obs, ht']
  rw [if_neg (by rw [ii_nn (by omega)]; exact id), if_neg (by rw [ii_lt (by omega) (by omega)]; omega), B_R_studio_23, rm_ok d, kC1_v, if_pos (by decide), R_begins d, kC0_v, R_clears d, kC0_v]
theorem R_st153n (d : Nat) (b : pS) {τ : rT} {k p : Nat} (h : FR τ k p) (hp : p ≤ 600) (l1 v : Int32) (l3 l4 : Value) : den (d + 2) m_R_studio 153 [.ref 30, .int l1, .int v, l3, l4] [] (mS b τ) = some (.inl (some (.int (Int32.ofNat k - 10))), mS b (wF τ 8 (Int32.ofNat p))) := by
  have h' : (wF τ 8 (Int32.ofNat p)).1 5 ≠ -1 := FR_b h hp
  rw [B_R_studio_153]
  simp only [m_gF, obs]
  rw [R_res_n d b h hp, kC1_v]
  simp only [m_gF, obs]
  rw [if_pos h']
