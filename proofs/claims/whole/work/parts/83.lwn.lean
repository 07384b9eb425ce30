/-! A NEW LAW -/
def lwL (M : Nat) (r : rT) : List pC := [cO 1 [.ref (M + 1), .ref (M + 2), .ref (M + 3), .int (r.1 53)], cI 150 (cut 150 (r.2 21)), cI 64 (cut 64 (r.2 22)), cI 8 (cut 8 (r.2 23))]
/-- a law's numbers at its beginning: light times dark -/
def lw0 : rT := wF (wA (wA (wA ((fun _ => 0), fun _ _ => 0) 21 0 1000) 21 1 1001) 21 2 1010) 53 3
theorem c_Lw_new (d : Nat) {N m : Nat} {H : pH} : vcall (d + 1) m_Lw_init [.ref N] (aL N m [cO 1 [.null, .null, .null, .int 0]] H) = some (.inl none, aL N (m + 222) (lwL N lw0) H) := by
  refine (aL_v (c := 1) (N := N) rfl).trans ((B_Lw_init_0 _ _ _).trans ?_)
  have n0 : ∀ m q l cs, gFr (aL N m (cO 1 (.ref q :: l) :: cs) H) N 1 0 = some q := fun m q l cs => aL_g rfl
  have p0 : ∀ m o f cs v, pI (aL N m (o :: cI 150 f :: cs) H) (N + 1) 0 v = some (aL N m (o :: cI 150 (upd f 0 v) :: cs) H) := fun m o f cs v => aL_I1 (k := 0) (by decide) (by decide) v
  have p1 : ∀ m o f cs v, pI (aL N m (o :: cI 150 f :: cs) H) (N + 1) 1 v = some (aL N m (o :: cI 150 (upd f 1 v) :: cs) H) := fun m o f cs v => aL_I1 (k := 1) (by decide) (by decide) v
  have p2 : ∀ m o f cs v, pI (aL N m (o :: cI 150 f :: cs) H) (N + 1) 2 v = some (aL N m (o :: cI 150 (upd f 2 v) :: cs) H) := fun m o f cs v => aL_I1 (k := 2) (by decide) (by decide) v
  simp (disch := simp) only [aL_new, aL_F, aL_g, aL_1, obs, List.cons_append, List.nil_append, List.length_cons, List.length_nil, Nat.zero_add, Nat.reduceAdd, List.set_cons_zero, List.set_cons_succ, Nat.add_zero, Nat.add_assoc, n0, p0, p1, p2]
  refine congrArg (fun z => some (Sum.inl none, aL N (m + 222) z H)) ?_
  have e64 : (cut 64 fun _ => (0 : Int32)) = fun _ => 0 := cut_0
  have e8 : (cut 8 fun _ => (0 : Int32)) = fun _ => 0 := cut_0
  have e150 : cut 150 (lw0.2 21) = upd (upd (upd (fun _ => 0) 0 1000) 1 1001) 2 1010 := by
    have e : lw0.2 21 = upd (upd (upd (fun _ => 0) 0 1000) 1 1001) 2 1010 := rfl
    rw [e, ← cut_upd _ _ (by decide), ← cut_upd _ _ (by decide), ← cut_upd _ _ (by decide), cut_0]
  unfold lwL
  rw [e150]
  show _ = [_, _, cI 64 (cut 64 fun _ => 0), cI 8 (cut 8 fun _ => 0)]
  rw [e64, e8]
  rfl
