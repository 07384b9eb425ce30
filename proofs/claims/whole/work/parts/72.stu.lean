/-! A NEW STUDIO, being read -/
def suL (M : Nat) (r : rT) : List pC := [cO 7 [.ref (M + 1), .ref (M + 2), .ref (M + 3), .ref (M + 4), .int (r.1 44), .int (r.1 45), .int (r.1 46), .int (r.1 47), .int (r.1 48)], cI 8 (cut 8 (r.2 11)), cI 6 (cut 6 (r.2 12)), cI 6 (cut 6 (r.2 13)), cI 8 (cut 8 (r.2 14))]
def uQ (M mm : Nat) (H : pH) (L : xA) (s r : rT) : pS := xS (aL M mm (suL M r) H) L s
section
variable {M mm : Nat} {H : pH} {L : xA} {s r : rT}
theorem uQ_i (o : ∀ j, M ≤ j → Ot L j) {i : Nat} {c : pC} (h : (suL M r)[i]? = some c) : (uQ M mm H L s r).2.2 (M + i) = some c := (xS_o (o _ (by omega))).trans (aL_i h)
theorem uQ_0 (o : ∀ j, M ≤ j → Ot L j) : (uQ M mm H L s r).2.2 M = some (cO 7 [.ref (M + 1), .ref (M + 2), .ref (M + 3), .ref (M + 4), .int (r.1 44), .int (r.1 45), .int (r.1 46), .int (r.1 47), .int (r.1 48)]) := uQ_i (i := 0) o rfl
theorem uQ_g (o : ∀ j, M ≤ j → Ot L j) : gFr (uQ M mm H L s r) M 7 0 = some (M + 1) ∧ gFr (uQ M mm H L s r) M 7 1 = some (M + 2) ∧ gFr (uQ M mm H L s r) M 7 2 = some (M + 3) ∧ gFr (uQ M mm H L s r) M 7 3 = some (M + 4) ∧ gFi (uQ M mm H L s r) M 7 4 = some (r.1 44) ∧ gFi (uQ M mm H L s r) M 7 5 = some (r.1 45) ∧ gFi (uQ M mm H L s r) M 7 6 = some (r.1 46) ∧ gFi (uQ M mm H L s r) M 7 7 = some (r.1 47) ∧ gFi (uQ M mm H L s r) M 7 8 = some (r.1 48) := ⟨gFr_at (uQ_0 o) rfl, gFr_at (uQ_0 o) rfl, gFr_at (uQ_0 o) rfl, gFr_at (uQ_0 o) rfl, gFi_at (uQ_0 o) rfl, gFi_at (uQ_0 o) rfl, gFi_at (uQ_0 o) rfl, gFi_at (uQ_0 o) rfl, gFi_at (uQ_0 o) rfl⟩
theorem uQ_v {d K : Nat} {as : List Value} (o : ∀ j, M ≤ j → Ot L j) (h : mO K = 7) : vcall (d + 1) K (.ref M :: as) (uQ M mm H L s r) = den d K 0 (ent K (.ref M :: as)) [] (uQ M mm H L s r) := by
  have h1 : rcv K (.ref M :: as) (uQ M mm H L s r) = true := by
    show isO _ M (mO K) = true
    rw [h]; exact isO_at (uQ_0 o)
  unfold vcall
  rw [h1]
  rfl
theorem uQ_pF (o : ∀ j, M ≤ j → Ot L j) (v : Int32) : pF (uQ M mm H L s r) M 7 4 (.int v) = some (uQ M mm H L s (wF r 44 v)) ∧ pF (uQ M mm H L s r) M 7 5 (.int v) = some (uQ M mm H L s (wF r 45 v)) ∧ pF (uQ M mm H L s r) M 7 6 (.int v) = some (uQ M mm H L s (wF r 46 v)) ∧ pF (uQ M mm H L s r) M 7 7 (.int v) = some (uQ M mm H L s (wF r 47 v)) ∧ pF (uQ M mm H L s r) M 7 8 (.int v) = some (uQ M mm H L s (wF r 48 v)) := by
  have e : ∀ k, k < 9 → pF (uQ M mm H L s r) M 7 k (.int v) = some (xS (aL M mm ((suL M r).set 0 (cO 7 ([.ref (M + 1), .ref (M + 2), .ref (M + 3), .ref (M + 4), .int (r.1 44), .int (r.1 45), .int (r.1 46), .int (r.1 47), .int (r.1 48)].set k (.int v)))) H) L s) := fun k hk => by
    rw [pF_at (uQ_0 o) hk]
    exact congrArg some (bQ_s (i := 0) o _ (by show 0 < 5; decide) _)
  exact ⟨e 4 (by decide), e 5 (by decide), e 6 (by decide), e 7 (by decide), e 8 (by decide)⟩
theorem uQ_pI (o : ∀ j, M ≤ j → Ot L j) (v : Int32) {k : Nat} : (k < 8 → pI (uQ M mm H L s r) (M + 1) (Int32.ofNat k) v = some (uQ M mm H L s (wA r 11 k v))) ∧ (k < 6 → pI (uQ M mm H L s r) (M + 2) (Int32.ofNat k) v = some (uQ M mm H L s (wA r 12 k v))) ∧ (k < 6 → pI (uQ M mm H L s r) (M + 3) (Int32.ofNat k) v = some (uQ M mm H L s (wA r 13 k v))) ∧ (k < 8 → pI (uQ M mm H L s r) (M + 4) (Int32.ofNat k) v = some (uQ M mm H L s (wA r 14 k v))) := by
  refine ⟨fun hk => ?_, fun hk => ?_, fun hk => ?_, fun hk => ?_⟩
  · rw [pI_at (uQ_i (i := 1) o rfl) hk (by decide), cut_upd _ _ hk]
    exact congrArg some (bQ_s (i := 1) o _ (by show 1 < 5; decide) _)
  · rw [pI_at (uQ_i (i := 2) o rfl) hk (by decide), cut_upd _ _ hk]
    exact congrArg some (bQ_s (i := 2) o _ (by show 2 < 5; decide) _)
  · rw [pI_at (uQ_i (i := 3) o rfl) hk (by decide), cut_upd _ _ hk]
    exact congrArg some (bQ_s (i := 3) o _ (by show 3 < 5; decide) _)
  · rw [pI_at (uQ_i (i := 4) o rfl) hk (by decide), cut_upd _ _ hk]
    exact congrArg some (bQ_s (i := 4) o _ (by show 4 < 5; decide) _)
end
/-- what the two have read of a studio -/
def SR (r τ : rT) (m n q : Nat) : Prop := (r.1 44 = Int32.ofNat m ∧ τ.1 17 = Int32.ofNat m ∧ m ≤ 8) ∧ (r.1 45 = Int32.ofNat n ∧ τ.1 18 = Int32.ofNat n ∧ n ≤ 6) ∧ (r.1 46 = Int32.ofNat q ∧ τ.1 19 = Int32.ofNat q ∧ q ≤ 8) ∧ (∃ y, 1 ≤ y ∧ y ≤ 400 ∧ r.1 47 = Int32.ofNat y ∧ τ.1 20 = Int32.ofNat y) ∧ (∃ f, f ≤ 99 ∧ r.1 48 = Int32.ofNat f ∧ τ.1 21 = Int32.ofNat f) ∧ (∀ t, t < m → ∃ j, j ≤ 9 ∧ r.2 11 t = Int32.ofNat j ∧ τ.2 33 t = Int32.ofNat j) ∧ (∀ t, m ≤ t → t < 8 → r.2 11 t = 0) ∧ (∀ p, p < n → r.2 12 p = τ.2 34 p ∧ ∃ j, 1 ≤ j ∧ j ≤ 60 ∧ r.2 13 p = Int32.ofNat j ∧ τ.2 35 p = Int32.ofNat j) ∧ (∀ i, i < q → ∃ j, 1 ≤ j ∧ j ≤ 400 ∧ r.2 14 i = Int32.ofNat j ∧ τ.2 36 i = Int32.ofNat j)
theorem SR_k {r τ τ' : rT} {m n q : Nat} {F A : List Nat} (h : SR r τ m n q) (k : Kf F A τ τ') (e : ∀ i ∈ [17, 18, 19, 20, 21], i ∉ F := by decide) (e2 : ∀ i ∈ [33, 34, 35, 36], i ∉ A := by decide) : SR r τ' m n q := by
  unfold SR
  rw [k.1 17 (e 17 (by decide)), k.1 18 (e 18 (by decide)), k.1 19 (e 19 (by decide)), k.1 20 (e 20 (by decide)), k.1 21 (e 21 (by decide)), k.2 33 (e2 33 (by decide)), k.2 34 (e2 34 (by decide)), k.2 35 (e2 35 (by decide)), k.2 36 (e2 36 (by decide))]
  exact h
theorem c_Su_new (d : Nat) {b : pS} {L : xA} {s : rT} (o : ∀ j, b.1 ≤ j → Ot L j) : vcall (d + 1) m_Su_init [.ref b.1] (pNew (xS b L s) (cO 7 [.null, .null, .null, .null, .int 0, .int 0, .int 0, .int 0, .int 0]) 9) = some (.inl none, uQ b.1 (b.2.1 + 37) b.2.2 L s (wF (wF ((fun _ => 0), fun _ _ => 0) 47 365) 48 20)) := by
  rw [aL_0]
  refine (aL_v (c := 7) (N := b.1) rfl).trans ((B_Su_init_0 _ _ _).trans ?_)
  simp (disch := simp) only [aL_new, aL_F, aL_g, aL_1, obs, List.cons_append, List.nil_append, List.length_cons, List.length_nil, Nat.zero_add, Nat.reduceAdd, List.set_cons_zero, List.set_cons_succ, Nat.add_zero, Nat.add_assoc]
  rw [xS_aL o]
  refine congrArg (fun z => some (Sum.inl none, xS (aL b.1 (b.2.1 + 37) z b.2.2) L s)) ?_
  have e8 : (cut 8 fun _ => (0 : Int32)) = fun _ => 0 := cut_0
  have e6 : (cut 6 fun _ => (0 : Int32)) = fun _ => 0 := cut_0
  unfold suL
  show _ = [_, cI 8 (cut 8 fun _ => 0), cI 6 (cut 6 fun _ => 0), cI 6 (cut 6 fun _ => 0), cI 8 (cut 8 fun _ => 0)]
  rw [e8, e6]
  rfl
