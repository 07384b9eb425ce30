/-! THE REFERENCE sets a studio: what comes of it -/
def stE (τ : rT) (m : Nat) : rT := wR (wR (st3 τ) 53 (fun x => if 0 ≤ x ∧ x < 8 then -1 else τ.2 53 x)) 48 (upd (fun x => if 8 + 0 ≤ x ∧ x < 14 then -1 else if 0 ≤ x ∧ x < m then τ.2 33 x else if 0 ≤ x ∧ x < 76 then 0 else τ.2 48 x) 74 (τ.1 21))
theorem R_sets (d : Nat) (b : pS) (τ : rT) {m : Nat} (hm : τ.1 17 = Int32.ofNat m) (h8 : m ≤ 8) : vcall (d + 2) m_R_sets [.ref 30] (mS b τ) = some (.inl none, mS b (stE τ m)) := by
  refine (R_sets0 d b τ).trans ?_
  have e0 := R_set101 (d + 1) b (st3 τ) 8 0 (by omega) ((st3 τ).2 53)
  rw [wR_id] at e0
  refine e0.trans ?_
  have e1 := R_set122 (d + 1) b (wR (st3 τ) 53 (fun x => if 0 ≤ x ∧ x < 8 then -1 else τ.2 53 x)) 76 0 (by omega) ((wR (st3 τ) 53 (fun x => if 0 ≤ x ∧ x < 8 then -1 else τ.2 53 x)).2 48)
  rw [wR_id] at e1
  refine e1.trans ?_
  have e2 := R_set143 (d + 1) b (wR (st3 τ) 53 (fun x => if 0 ≤ x ∧ x < 8 then -1 else τ.2 53 x)) (m := m) hm h8 m 0 (by omega) (fun x => if 0 ≤ x ∧ x < 76 then 0 else τ.2 48 x)
  refine e2.trans ?_
  exact R_set173 (d + 1) b (wR (st3 τ) 53 (fun x => if 0 ≤ x ∧ x < 8 then -1 else τ.2 53 x)) 6 0 (by omega) (fun x => if 0 ≤ x ∧ x < m then τ.2 33 x else if 0 ≤ x ∧ x < 76 then 0 else τ.2 48 x)
