/-! THE REFERENCE sets a studio: all of it -/
def st1 (τ : rT) : rT := wF (wF (wF (wF τ 22 (τ.1 17)) 23 (τ.1 18)) 24 (τ.1 19)) 25 (τ.1 20)
def st2 (τ : rT) : rT := wR (wR (wR (st1 τ) 37 (fun i => if i < 6 then τ.2 34 i else τ.2 37 i)) 38 (fun i => if i < 6 then τ.2 35 i else τ.2 38 i)) 39 (fun i => if i < 8 then τ.2 36 i else τ.2 39 i)
def st3 (τ : rT) : rT := wF (wF (wF (wF (wF (st2 τ) 32 0) 48 0) 37 0) 54 0) 38 0
theorem R_sets0 (d : Nat) (b : pS) (τ : rT) : vcall (d + 2) m_R_sets [.ref 30] (mS b τ) = den (d + 1) m_R_sets 101 [.ref 30, .int (Int32.ofNat 0)] [] (mS b (st3 τ)) := by
  refine (vR rfl).trans ((B_R_sets_0 _ _ _).trans ?_)
  have c1 : vcall (d + 1) m_R_copies [.ref 30, .ref 34, .ref 37, .int 6] (mS b (st1 τ)) = some (.inl none, mS b (wR (st1 τ) 37 (fun i => if i < 6 then τ.2 34 i else τ.2 37 i))) := c_R_copies d b (st1 τ) 34 37 6 (by decide) (by decide) (by decide) (by decide) (by decide) (by decide) (by decide) (by decide) (by decide)
  have c2 : vcall (d + 1) m_R_copies [.ref 30, .ref 35, .ref 38, .int 6] (mS b (wR (st1 τ) 37 (fun i => if i < 6 then τ.2 34 i else τ.2 37 i))) = some (.inl none, mS b (wR (wR (st1 τ) 37 (fun i => if i < 6 then τ.2 34 i else τ.2 37 i)) 38 (fun i => if i < 6 then τ.2 35 i else τ.2 38 i))) := c_R_copies d b _ 35 38 6 (by decide) (by decide) (by decide) (by decide) (by decide) (by decide) (by decide) (by decide) (by decide)
  have c3 : vcall (d + 1) m_R_copies [.ref 30, .ref 36, .ref 39, .int 8] (mS b (wR (wR (st1 τ) 37 (fun i => if i < 6 then τ.2 34 i else τ.2 37 i)) 38 (fun i => if i < 6 then τ.2 35 i else τ.2 38 i))) = some (.inl none, mS b (st2 τ)) := c_R_copies d b _ 36 39 8 (by decide) (by decide) (by decide) (by decide) (by decide) (by decide) (by decide) (by decide) (by decide)
  have e1 : wF (wF (wF (wF τ 22 (τ.1 17)) 23 (τ.1 18)) 24 (τ.1 19)) 25 (τ.1 20) = st1 τ := rfl
  simp only [m_gF, m_pF, obs, wF_1, Nat.reduceEqDiff, if_false, e1, c1, c2, c3, kC0_v]
  rfl
