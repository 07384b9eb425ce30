theorem pTb_ok {M pc : Nat} {e : pE} (hM : M < 312) (h : pTb M pc = some e) : okE M pc e = true := by
  have hk := ok_all M hM
  unfold okM mTab at hk
  unfold pTb at h
  cases hg : pMs[M / 16]? with
  | none => rw [hg] at h; cases h
  | some g =>
    rw [hg] at h
    rw [List.getD_eq_getElem?_getD, List.getD_eq_getElem?_getD, hg] at hk
    dsimp only [Option.getD_some] at h hk
    cases hc : g[M % 16]? with
    | none => rw [hc] at h; cases h
    | some c =>
      rw [hc] at h hk
      dsimp only [Option.getD_some] at h hk
      cases hr : c[pc / 16]? with
      | none => rw [hr] at h; cases h
      | some r =>
        rw [hr] at h
        have h1 := List.all_eq_true.mp hk r (List.mem_of_getElem? hr)
        have h2 := List.all_eq_true.mp h1 (pc, e) (lkE_in r pc e h)
        exact h2
