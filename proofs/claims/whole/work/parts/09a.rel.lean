/-! HOW A PURE STATE LIES IN THE MACHINE'S HEAP -/
def rv (as : Nat → Nat) : Value → Value
  | .ref r => .ref (as r)
  | v => v
def okR (n r : Nat) : Prop := r < n ∨ pSB ≤ r
def okV (n : Nat) : Value → Prop
  | .ref r => okR n r
  | .double _ => False
  | _ => True
def rlE (as : Nat → Nat) (n : Nat) (tys : List (ClassId × FieldType)) (c : pC) (e : va_E) : Prop := match c with
  | .inl (k, f) => ∃ cA, (cA, FieldType.int) ∈ tys ∧ e = .inl (cA, k, .inl f)
  | .inr (.inl (k, f)) => ∃ cA, (cA, FieldType.long) ∈ tys ∧ e = .inl (cA, k, .inr (.inl f))
  | .inr (.inr (.inl (k, g))) => (∃ cA, (cA, FieldType.object RX2) ∈ tys ∧ e = .inl (cA, k, .inr (.inr (.inr (.inr fun j => (g j).map as))))) ∧ ∀ j r, g j = some r → okR n r
  | .inr (.inr (.inr (.inl (ci, fs)))) => e = .inr (ci, fs.map (rv as)) ∧ ∀ v ∈ fs, okV n v
  | .inr (.inr (.inr (.inr _))) => False
/-- what the run's surroundings are: where the strings lie, their bytes, the script -/
abbrev pEnv : Type := (Nat → Nat) × (Nat → Nat) × Nat × Nat × (Nat → Int32)
/-- a cell of the world: no script -/
def nsc (o : Option pC) : Prop := ∃ c, o = some c ∧ ¬ ∃ k f, c = cT k f
def HR (as : Nat → Nat) (S : pS) (tys : List (ClassId × FieldType)) (ws : va_W) : Prop :=
  (∀ i c, S.2.2 i = some c → (∃ k f, c = cT k f) ∨ (i < S.1 ∧ ∃ e, (as i, e) ∈ ws ∧ rlE as S.1 tys c e)) ∧
  (∀ i j, nsc (S.2.2 i) → nsc (S.2.2 j) → as i = as j → i = j)
def AsE (E : pEnv) (as : Nat → Nat) (S : pS) : Prop := (∀ i, i < 39 → as (pSB + i) = E.1 i) ∧ as (pSB + 1000) = E.2.2.1 ∧ ∀ i k f, S.2.2 i = some (cT k f) → i = pSB + 1000 ∧ k = E.2.2.2.1 ∧ f = E.2.2.2.2
theorem rv_ext {as as' : Nat → Nat} {n : Nat} (h : ∀ r, okR n r → as' r = as r) {v : Value} (hv : okV n v) : rv as' v = rv as v := by
  cases v <;> first | rfl | exact congrArg Value.ref (h _ hv)
theorem okV_up {n n' : Nat} (h : n ≤ n') {v : Value} (hv : okV n v) : okV n' v := by
  cases v <;> first | trivial | exact hv.elim | (rcases hv with hv | hv; exact Or.inl (Nat.lt_of_lt_of_le hv h); exact Or.inr hv)
theorem okR_up {n n' : Nat} (h : n ≤ n') {r : Nat} (hv : okR n r) : okR n' r := by
  rcases hv with hv | hv
  · exact Or.inl (Nat.lt_of_lt_of_le hv h)
  · exact Or.inr hv
theorem rlE_up {as as' : Nat → Nat} {n n' : Nat} {tys tys' : List (ClassId × FieldType)} (h : ∀ r, okR n r → as' r = as r) (hn : n ≤ n') (ht : ∀ x ∈ tys, x ∈ tys') {c : pC} {e : va_E} (hc : rlE as n tys c e) : rlE as' n' tys' c e := by
  rcases c with ⟨k, f⟩ | ⟨k, f⟩ | ⟨k, g⟩ | ⟨ci, fs⟩ | _
  · obtain ⟨cA, h1, h2⟩ := hc
    exact ⟨cA, ht _ h1, h2⟩
  · obtain ⟨cA, h1, h2⟩ := hc
    exact ⟨cA, ht _ h1, h2⟩
  · obtain ⟨⟨cA, h1, h2⟩, h3⟩ := hc
    refine ⟨⟨cA, ht _ h1, ?_⟩, fun j r hj => okR_up hn (h3 j r hj)⟩
    have e1 : (fun j => (g j).map as) = fun j => (g j).map as' := by
      funext j
      cases hj : g j with
      | none => rfl
      | some r => exact congrArg some (h r (h3 j r hj)).symm
    rw [h2, e1]
  · obtain ⟨h1, h2⟩ := hc
    refine ⟨?_, fun v hv => okV_up hn (h2 v hv)⟩
    rw [h1]
    congr 2
    exact List.map_congr_left fun v hv => (rv_ext h (h2 v hv)).symm
  · exact hc.elim
theorem mem_ix {α : Type} {l : List α} {x : α} (h : x ∈ l) : ∃ k : Nat, l[k]? = some x := by
  obtain ⟨k, hk, e⟩ := List.getElem_of_mem h
  exact ⟨k, by rw [List.getElem?_eq_getElem hk, e]⟩
/-- a cell is written -/
theorem HR_set {A : Nat → Prop} {as : Nat → Nat} {S : pS} {tys : List (ClassId × FieldType)} {ws : va_W} {q k : Nat} {c c' : pC} {e e' : va_E} (h : HR as S tys ws) (hq : S.2.2 q = some c) (hc : ¬ ∃ k f, c = cT k f) (hk : ws[k]? = some (as q, e)) (hr : rlE as S.1 tys c' e') : HR as (pSet S q c') tys (ws.set k (as q, e')) := by
  have hqn : q < S.1 := by
    rcases h.1 q c hq with h1 | h1
    · exact absurd h1 hc
    · exact h1.1
  have hkl : k < ws.length := (List.getElem?_eq_some_iff.mp hk).1
  have hns : nsc (S.2.2 q) := ⟨c, hq, hc⟩
  have hne : ∀ i, nsc ((pSet S q c').2.2 i) → nsc (S.2.2 i) := by
    intro i hi
    by_cases e1 : i = q
    · subst e1; exact hns
    · simpa [pSet, e1] using hi
  refine ⟨fun i x hi => ?_, fun i j h3 h4 h5 => h.2 i j (hne i h3) (hne j h4) h5⟩
  by_cases e1 : i = q
  · subst e1
    have e2 : c' = x := by simpa [pSet] using hi
    subst e2
    exact Or.inr ⟨hqn, e', List.mem_of_getElem? (i := k) (by rw [List.getElem?_set_self hkl]), hr⟩
  · have hi' : S.2.2 i = some x := by simpa [pSet, e1] using hi
    by_cases hx0 : ∃ k f, x = cT k f
    · exact Or.inl hx0
    · rcases h.1 i x hi' with h1 | ⟨hin, ex, hm, hx⟩
      · exact Or.inl h1
      · obtain ⟨k2, hk2⟩ := mem_ix hm
        refine Or.inr ⟨hin, ex, ?_, hx⟩
        have hkk : k ≠ k2 := by
          intro ek
          subst ek
          rw [hk] at hk2
          have e3 : as q = as i := congrArg Prod.fst (Option.some.inj hk2)
          exact e1 (h.2 i q ⟨x, hi', hx0⟩ hns e3.symm)
        exact List.mem_of_getElem? (i := k2) (by rw [List.getElem?_set_ne hkk]; exact hk2)
def asN (as : Nat → Nat) (n q : Nat) : Nat → Nat := fun j => if j = n then q else as j
theorem asN_old {as : Nat → Nat} {n q : Nat} (hn : n < pSB) : ∀ r, okR n r → asN as n q r = as r := by
  intro r hr
  have : r ≠ n := by rcases hr with h | h <;> omega
  simp [asN, this]
theorem asN_new (as : Nat → Nat) (n q : Nat) : asN as n q n = q := by simp [asN]
/-- a cell is made -/
theorem HR_new {A : Nat → Prop} {as : Nat → Nat} {S : pS} {tys tys' : List (ClassId × FieldType)} {ws : va_W} {q sl : Nat} {c : pC} {e : va_E} (h : HR as S tys ws) (hn : S.1 < pSB) (hD : va_D A (ws ++ [(q, e)])) (ht : ∀ x ∈ tys, x ∈ tys') (hr : rlE (asN as S.1 q) (S.1 + 1) tys' c e) : HR (asN as S.1 q) (pNew S c sl) tys' (ws ++ [(q, e)]) := by
  have old := asN_old (as := as) (q := q) hn
  have key : ∀ i x, S.2.2 i = some x → ¬ (∃ k f, x = cT k f) → i < S.1 ∧ asN as S.1 q i = as i ∧ as i ≠ q := by
    intro i x hi hx
    rcases h.1 i x hi with h1 | ⟨hin, ex, hm, hx'⟩
    · exact absurd h1 hx
    · refine ⟨hin, old i (Or.inl hin), fun e1 => ?_⟩
      obtain ⟨k, hk⟩ := mem_ix hm
      have hkl : k < ws.length := (List.getElem?_eq_some_iff.mp hk).1
      have := hD.1 k ws.length (as i, ex) (q, e) (by rw [List.getElem?_append_left hkl]; exact hk) (by simp) e1
      omega
  refine ⟨fun i x hi => ?_, fun i j h3 h4 h5 => ?_⟩
  · by_cases e1 : i = S.1
    · subst e1
      have e2 : c = x := by simpa [pNew] using hi
      subst e2
      refine Or.inr ⟨Nat.lt_succ_self _, e, ?_, hr⟩
      rw [asN_new]
      simp
    · have hi' : S.2.2 i = some x := by simpa [pNew, e1] using hi
      rcases h.1 i x hi' with h1 | ⟨hin, ex, hm, hx⟩
      · exact Or.inl h1
      · refine Or.inr ⟨Nat.lt_succ_of_lt hin, ex, ?_, rlE_up old (Nat.le_succ _) ht hx⟩
        rw [old i (Or.inl hin)]
        exact List.mem_append_left _ hm
  · have tr : ∀ i, i ≠ S.1 → nsc ((pNew S c sl).2.2 i) → asN as S.1 q i = as i ∧ as i ≠ q ∧ nsc (S.2.2 i) := by
      intro i hne h3
      have h3' : nsc (S.2.2 i) := by simpa [pNew, hne] using h3
      obtain ⟨x, hx, hx'⟩ := h3'
      obtain ⟨k1, k2, k3⟩ := key i x hx hx'
      exact ⟨k2, k3, x, hx, hx'⟩
    by_cases e1 : i = S.1
    · by_cases e2 : j = S.1
      · omega
      · obtain ⟨hj, hjq, -⟩ := tr j e2 h4
        rw [e1, asN_new, hj] at h5
        exact absurd h5.symm hjq
    · obtain ⟨hi, hiq, hin⟩ := tr i e1 h3
      by_cases e2 : j = S.1
      · rw [e2, asN_new, hi] at h5
        exact absurd h5 hiq
      · obtain ⟨hj, hjq, hjn⟩ := tr j e2 h4
        rw [hi, hj] at h5
        exact h.2 i j hin hjn h5
/-- a cell of the world by its kind -/
theorem HR_at {as : Nat → Nat} {S : pS} {tys : List (ClassId × FieldType)} {ws : va_W} {q : Nat} {c : pC} (h : HR as S tys ws) (hq : S.2.2 q = some c) (hc : ¬ ∃ k f, c = cT k f) : ∃ (k : Nat) (e : va_E), ws[k]? = some (as q, e) ∧ rlE as S.1 tys c e ∧ q < S.1 := by
  rcases h.1 q c hq with h1 | ⟨h1, e, h2, h3⟩
  · exact absurd h1 hc
  · obtain ⟨k, hk⟩ := mem_ix h2
    exact ⟨k, e, hk, h3, h1⟩
theorem HR_obj {as : Nat → Nat} {S : pS} {tys : List (ClassId × FieldType)} {ws : va_W} {q ci : Nat} {fs : List Value} (h : HR as S tys ws) (hq : gO S q ci = some fs) : S.2.2 q = some (cO ci fs) ∧ (∃ k : Nat, ws[k]? = some (as q, .inr (ci, fs.map (rv as)))) ∧ (∀ v ∈ fs, okV S.1 v) ∧ q < S.1 := by
  unfold gO at hq
  split at hq
  · next c fs' hs =>
    split at hq
    · next hc =>
      subst hc
      cases hq
      obtain ⟨k, e, h1, ⟨h2, h3⟩, h4⟩ := HR_at h hs (by rintro ⟨k, f, h⟩; cases h)
      exact ⟨hs, ⟨k, by rw [h1, h2]⟩, h3, h4⟩
    · cases hq
  · cases hq
theorem HR_int {as : Nat → Nat} {S : pS} {tys : List (ClassId × FieldType)} {ws : va_W} {q n : Nat} {f : Nat → Int32} (h : HR as S tys ws) (hq : S.2.2 q = some (cI n f)) : ∃ (k t : Nat) (cA : ClassId), ws[k]? = some (as q, .inl (cA, n, .inl f)) ∧ tys[t]? = some (cA, .int) := by
  obtain ⟨k, e, h1, ⟨cA, h2, h3⟩, -⟩ := HR_at h hq (by rintro ⟨k, f, h⟩; cases h)
  obtain ⟨t, ht⟩ := mem_ix h2
  exact ⟨k, t, cA, by rw [h1, h3], ht⟩
theorem HR_long {as : Nat → Nat} {S : pS} {tys : List (ClassId × FieldType)} {ws : va_W} {q n : Nat} {f : Nat → Int64} (h : HR as S tys ws) (hq : S.2.2 q = some (cL n f)) : ∃ (k t : Nat) (cA : ClassId), ws[k]? = some (as q, .inl (cA, n, .inr (.inl f))) ∧ tys[t]? = some (cA, .long) := by
  obtain ⟨k, e, h1, ⟨cA, h2, h3⟩, -⟩ := HR_at h hq (by rintro ⟨k, f, h⟩; cases h)
  obtain ⟨t, ht⟩ := mem_ix h2
  exact ⟨k, t, cA, by rw [h1, h3], ht⟩
theorem HR_ref {as : Nat → Nat} {S : pS} {tys : List (ClassId × FieldType)} {ws : va_W} {q n : Nat} {g : Nat → Option Nat} (h : HR as S tys ws) (hq : S.2.2 q = some (cQ n g)) : (∃ (k t : Nat) (cA : ClassId), ws[k]? = some (as q, .inl (cA, n, .inr (.inr (.inr (.inr fun j => (g j).map as))))) ∧ tys[t]? = some (cA, .object RX2)) ∧ ∀ j r, g j = some r → okR S.1 r := by
  obtain ⟨k, e, h1, ⟨⟨cA, h2, h3⟩, h4⟩, -⟩ := HR_at h hq (by rintro ⟨k, f, h⟩; cases h)
  obtain ⟨t, ht⟩ := mem_ix h2
  exact ⟨⟨k, t, cA, by rw [h1, h3], ht⟩, h4⟩
