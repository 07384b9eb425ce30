/-! what an instruction has taken -/
def okL (n : Nat) (l : List Value) : Prop := ∀ v ∈ l, okV n v
theorem okL_c {n : Nat} {v : Value} {l : List Value} : okL n (v :: l) ↔ okV n v ∧ okL n l := List.forall_mem_cons
theorem okL_n {n : Nat} : okL n [] := fun _ h => nomatch h
theorem okL_up {n n' : Nat} (h : n ≤ n') {l : List Value} (hl : okL n l) : okL n' l := fun v hv => okV_up h (hl v hv)
theorem okL_get {n : Nat} {l : List Value} (hl : okL n l) {i : Nat} {v : Value} (h : l[i]? = some v) : okV n v := hl v (List.mem_of_getElem? h)
theorem okL_set {n : Nat} {l : List Value} (hl : okL n l) {i : Nat} {v : Value} (hv : okV n v) : okL n (l.set i v) := fun w hw => (List.mem_or_eq_of_mem_set hw).elim (hl w) (fun e => by rw [e]; exact hv)
theorem okL_clr {n : Nat} {l : List Value} (hl : okL n l) (i : Nat) : okL n (pClr l i) := fun w hw => (pClr_mem hw).elim (hl w) (fun e => by rw [e]; trivial)
theorem okL_st {n b : Nat} {l : List Value} (hl : okL n l) {i : Nat} {v : Value} (hv : okV n v) : okL n (pSt b l i v) := by
  unfold pSt
  split
  · exact okL_set hl hv
  · exact okL_set (okL_clr hl i) hv
theorem okL_st2 {n : Nat} {l : List Value} (hl : okL n l) {i : Nat} {v : Value} (hv : okV n v) : okL n (pSt2 l i v) := okL_set (okL_set (okL_clr hl i) hv) trivial
theorem okL_map {n : Nat} {l : List Value} (hl : okL n l) {as as' : Nat → Nat} (h : ∀ r, okR n r → as' r = as r) : l.map (rv as') = l.map (rv as) := List.map_congr_left fun v hv => rv_ext h (hl v hv)
theorem okL_take {n k : Nat} {l : List Value} (hl : okL n l) : okL n (l.take k) := fun v hv => hl v (List.mem_of_mem_take hv)
theorem okL_drop {n k : Nat} {l : List Value} (hl : okL n l) : okL n (l.drop k) := fun v hv => hl v (List.mem_of_mem_drop hv)
theorem okL_rev {n : Nat} {l : List Value} (hl : okL n l) : okL n l.reverse := fun v hv => hl v (List.mem_reverse.mp hv)
section
variable {z : pO × pS} {st : List Value} {o : Option Value}
theorem tI_i {K : Int32 → pR} (h : tI o K = some z) : ∃ v, o = some (.int v) ∧ K v = some z := by
  unfold tI at h; split at h
  · exact ⟨_, rfl, h⟩
  · cases h
theorem tJ_i {K : Int64 → pR} (h : tJ o K = some z) : ∃ v, o = some (.long v) ∧ K v = some z := by
  unfold tJ at h; split at h
  · exact ⟨_, rfl, h⟩
  · cases h
theorem tA_i {K : Option Nat → pR} (h : tA o K = some z) : ∃ v, o = some (va_rf v) ∧ K v = some z := by
  unfold tA at h; split at h
  · exact ⟨some _, rfl, h⟩
  · exact ⟨none, rfl, h⟩
  · cases h
theorem kI_i {K : Int32 → List Value → pR} (h : kI st K = some z) : ∃ v r, st = .int v :: r ∧ K v r = some z := by
  unfold kI at h; split at h
  · exact ⟨_, _, rfl, h⟩
  · cases h
theorem kII_i {K : Int32 → Int32 → List Value → pR} (h : kII st K = some z) : ∃ x y r, st = .int y :: .int x :: r ∧ K x y r = some z := by
  unfold kII at h; split at h
  · exact ⟨_, _, _, rfl, h⟩
  · cases h
theorem kJ_i {K : Int64 → List Value → pR} (h : kJ st K = some z) : ∃ v r, st = .long v :: r ∧ K v r = some z := by
  unfold kJ at h; split at h
  · exact ⟨_, _, rfl, h⟩
  · cases h
theorem kJJ_i {K : Int64 → Int64 → List Value → pR} (h : kJJ st K = some z) : ∃ x y r, st = .long y :: .long x :: r ∧ K x y r = some z := by
  unfold kJJ at h; split at h
  · exact ⟨_, _, _, rfl, h⟩
  · cases h
theorem kA_i {K : Nat → List Value → pR} (h : kA st K = some z) : ∃ v r, st = .ref v :: r ∧ K v r = some z := by
  unfold kA at h; split at h
  · exact ⟨_, _, rfl, h⟩
  · cases h
theorem kAn_i {K : Option Nat → List Value → pR} (h : kAn st K = some z) : ∃ v r, st = va_rf v :: r ∧ K v r = some z := by
  unfold kAn at h; split at h
  · exact ⟨some _, _, rfl, h⟩
  · exact ⟨none, _, rfl, h⟩
  · cases h
theorem kIA_i {K : Nat → Int32 → List Value → pR} (h : kIA st K = some z) : ∃ q i r, st = .int i :: .ref q :: r ∧ K q i r = some z := by
  unfold kIA at h; split at h
  · exact ⟨_, _, _, rfl, h⟩
  · cases h
theorem kIIA_i {K : Nat → Int32 → Int32 → List Value → pR} (h : kIIA st K = some z) : ∃ q i x r, st = .int x :: .int i :: .ref q :: r ∧ K q i x r = some z := by
  unfold kIIA at h; split at h
  · exact ⟨_, _, _, _, rfl, h⟩
  · cases h
theorem kJIA_i {K : Nat → Int32 → Int64 → List Value → pR} (h : kJIA st K = some z) : ∃ q i x r, st = .long x :: .int i :: .ref q :: r ∧ K q i x r = some z := by
  unfold kJIA at h; split at h
  · exact ⟨_, _, _, _, rfl, h⟩
  · cases h
theorem kAIA_i {K : Nat → Int32 → Option Nat → List Value → pR} (h : kAIA st K = some z) : ∃ q i x r, st = va_rf x :: .int i :: .ref q :: r ∧ K q i x r = some z := by
  unfold kAIA at h; split at h
  · exact ⟨_, _, some _, _, rfl, h⟩
  · exact ⟨_, _, none, _, rfl, h⟩
  · cases h
theorem kV1_i {K : Value → List Value → pR} (h : kV1 st K = some z) : ∃ v r, st = v :: r ∧ ((∃ x, v = .int x) ∨ ∃ x, v = .ref x) ∧ K v r = some z := by
  unfold kV1 at h; split at h
  · exact ⟨_, _, rfl, Or.inl ⟨_, rfl⟩, h⟩
  · exact ⟨_, _, rfl, Or.inr ⟨_, rfl⟩, h⟩
  · cases h
theorem bd_i {α : Type} {p : Option α} {K : α → pR} (h : p.bind K = some z) : ∃ v, p = some v ∧ K v = some z := by
  cases p with
  | none => cases h
  | some v => exact ⟨v, rfl, h⟩
theorem if_i {c : Prop} [Decidable c] {K : pR} (h : (if c then none else K) = some z) : ¬ c ∧ K = some z := by
  by_cases hc : c
  · simp [hc] at h
  · exact ⟨hc, by simpa [hc] using h⟩
theorem bf_i {c : Bool} {K : pR} (h : (bif c then K else none) = some z) : c = true ∧ K = some z := by
  cases c
  · cases h
  · exact ⟨rfl, h⟩
theorem oN_i {v : Option Nat} {a : pR} {F : Nat → pR} (h : oN v a F = some z) : (v = none ∧ a = some z) ∨ ∃ w, v = some w ∧ F w = some z := by
  cases v with
  | none => exact Or.inl ⟨rfl, h⟩
  | some w => exact Or.inr ⟨w, rfl, h⟩
end
theorem gFi_i {s : pS} {q c k : Nat} {v : Int32} (h : gFi s q c k = some v) : ∃ fs, gO s q c = some fs ∧ fs[k]? = some (.int v) := by
  unfold gFi at h
  split at h
  · next fs e =>
    refine ⟨fs, e, ?_⟩
    split at h
    · next e2 => cases h; exact e2
    · cases h
  · cases h
theorem gFr_i {s : pS} {q c k v : Nat} (h : gFr s q c k = some v) : ∃ fs, gO s q c = some fs ∧ fs[k]? = some (.ref v) := by
  unfold gFr at h
  split at h
  · next fs e =>
    refine ⟨fs, e, ?_⟩
    split at h
    · next e2 => cases h; exact e2
    · cases h
  · cases h
theorem gFv_i {s : pS} {q c k : Nat} {v : Option Nat} (h : gFv s q c k = some v) : ∃ fs, gO s q c = some fs ∧ fs[k]? = some (va_rf v) := by
  unfold gFv at h
  split at h
  · next fs e =>
    refine ⟨fs, e, ?_⟩
    split at h
    · next e2 => cases h; exact e2
    · next e2 => cases h; exact e2
    · cases h
  · cases h
theorem pF_i {s s' : pS} {q c k : Nat} {v : Value} (h : pF s q c k v = some s') : ∃ fs, gO s q c = some fs ∧ k < fs.length ∧ s' = pSet s q (cO c (fs.set k v)) := by
  unfold pF at h
  split at h
  · next fs e =>
    split at h
    · next hk => cases h; exact ⟨fs, e, hk, rfl⟩
    · cases h
  · cases h
theorem gI_i {s : pS} {q : Nat} {i v : Int32} (h : gI s q i = some v) : ∃ n f, (s.2.2 q = some (cI n f) ∨ s.2.2 q = some (cT n f)) ∧ vp_in i n ∧ v = f i.toNatClampNeg := by
  unfold gI at h
  split at h
  · next n f e =>
    split at h
    · cases h
    · next hi => cases h; exact ⟨n, f, Or.inl e, hi, rfl⟩
  · next n f e =>
    split at h
    · cases h
    · next hi => cases h; exact ⟨n, f, Or.inr e, hi, rfl⟩
  · cases h
theorem pI_i {s s' : pS} {q : Nat} {i x : Int32} (h : pI s q i x = some s') : ∃ n f, s.2.2 q = some (cI n f) ∧ vp_in i n ∧ s' = pSet s q (cI n (upd f i.toNatClampNeg x)) := by
  unfold pI at h
  split at h
  · next n f e =>
    split at h
    · cases h
    · next hi => cases h; exact ⟨n, f, e, hi, rfl⟩
  · cases h
theorem gL_i {s : pS} {q : Nat} {i : Int32} {v : Int64} (h : gL s q i = some v) : ∃ n f, s.2.2 q = some (cL n f) ∧ vp_in i n ∧ v = f i.toNatClampNeg := by
  unfold gL at h
  split at h
  · next n f e =>
    split at h
    · cases h
    · next hi => cases h; exact ⟨n, f, e, hi, rfl⟩
  · cases h
theorem pL_i {s s' : pS} {q : Nat} {i : Int32} {x : Int64} (h : pL s q i x = some s') : ∃ n f, s.2.2 q = some (cL n f) ∧ vp_in i n ∧ s' = pSet s q (cL n (vp_updL f i.toNatClampNeg x)) := by
  unfold pL at h
  split at h
  · next n f e =>
    split at h
    · cases h
    · next hi => cases h; exact ⟨n, f, e, hi, rfl⟩
  · cases h
theorem gQ_i {s : pS} {q : Nat} {i : Int32} {v : Option Nat} (h : gQ s q i = some v) : ∃ n f, s.2.2 q = some (cQ n f) ∧ vp_in i n ∧ v = f i.toNatClampNeg := by
  unfold gQ at h
  split at h
  · next n f e =>
    split at h
    · cases h
    · next hi => cases h; exact ⟨n, f, e, hi, rfl⟩
  · cases h
theorem pQ_i {s s' : pS} {q : Nat} {i : Int32} {x : Option Nat} (h : pQ s q i x = some s') : ∃ n f, s.2.2 q = some (cQ n f) ∧ vp_in i n ∧ s' = pSet s q (cQ n (va_up f i.toNatClampNeg x)) ∧ (x = none ∨ ∃ v fs, x = some v ∧ gO s v 2 = some fs) := by
  unfold pQ at h
  split at h
  · next n f e =>
    split at h
    · cases h
    · next hi =>
      split at h
      · cases h; exact ⟨n, f, e, hi, rfl, Or.inl rfl⟩
      · split at h
        · next fs e2 => cases h; exact ⟨n, f, e, hi, rfl, Or.inr ⟨_, fs, rfl, e2⟩⟩
        · cases h
  · cases h
theorem pCp_i {s s' : pS} {q r : Nat} {sp dp n : Int32} (h : pCp s q sp r dp n = some s') : ∃ n0 f n1 g, s.2.2 q = some (cI n0 f) ∧ s.2.2 r = some (cI n1 g) ∧ ¬ sp < 0 ∧ ¬ dp < 0 ∧ ¬ n < 0 ∧ sp.toNatClampNeg + n.toNatClampNeg ≤ n0 ∧ dp.toNatClampNeg + n.toNatClampNeg ≤ n1 ∧ s' = pSet s r (cI n1 (va_cpy f g sp.toNatClampNeg dp.toNatClampNeg n.toNatClampNeg)) := by
  unfold pCp at h
  split at h
  · next n0 f n1 g e1 e2 =>
    split at h
    · cases h
    · next hn =>
      cases h
      simp only [not_or, Nat.not_lt] at hn
      exact ⟨n0, f, n1, g, e1, e2, hn.1, hn.2.1, hn.2.2.1, hn.2.2.2.1, hn.2.2.2.2, rfl⟩
  · cases h
theorem lkE_in : ∀ (l : List (Nat × pE)) (q : Nat) (e : pE), lkE l q = some e → (q, e) ∈ l := by
  intro l
  induction l with
  | nil => intro q e h; cases h
  | cons a l ih =>
    intro q e h
    obtain ⟨p, e'⟩ := a
    unfold lkE at h
    cases hp : Nat.beq p q with
    | true =>
      rw [hp] at h
      have := Nat.eq_of_beq_eq_true hp
      subst this
      cases h
      exact List.mem_cons_self
    | false =>
      rw [hp] at h
      exact List.mem_cons_of_mem _ (ih q e h)
