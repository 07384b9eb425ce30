/-! THE LOCALS -/
def LV (j : Bool) (as : Nat → Nat) (mls : Array Slot) (nL : Nat) (ls : List Value) : Prop :=
  mls.size = nL ∧ lv_wf mls ∧ ls.length = nL ∧ (∀ (i : Nat) (v : Value), ls[i]? = some v → v ≠ mk0 → mls[i]? = some (.val (rv as v))) ∧ (∀ v ∈ ls, ∀ x, v ≠ .double x) ∧ (j = false → ∀ v ∈ ls, ∀ x, v ≠ .long x)
def lvP (as : Nat → Nat) (ls : List Value) : List (Nat × Value) := (List.range ls.length).filterMap fun i => match ls[i]? with
  | some v => if v = mk0 then none else some (i, rv as v)
  | none => none
theorem lvP_mem {as : Nat → Nat} {ls : List Value} {i : Nat} {w : Value} : (i, w) ∈ lvP as ls ↔ ∃ v, ls[i]? = some v ∧ v ≠ mk0 ∧ w = rv as v := by
  unfold lvP
  rw [List.mem_filterMap]
  constructor
  · rintro ⟨k, hk, h⟩
    cases hv : ls[k]? with
    | none => rw [hv] at h; cases h
    | some v =>
      rw [hv] at h
      by_cases hm : v = mk0
      · simp [hm] at h
      · simp only [hm, if_false, Option.some.injEq, Prod.mk.injEq] at h
        obtain ⟨rfl, rfl⟩ := h
        exact ⟨v, hv, hm, rfl⟩
  · rintro ⟨v, hv, hm, rfl⟩
    refine ⟨i, ?_, ?_⟩
    · rw [List.mem_range]
      exact (List.getElem?_eq_some_iff.mp hv).1
    · rw [hv]
      simp [hm]
theorem LV.has {j : Bool} {as : Nat → Nat} {mls : Array Slot} {nL : Nat} {ls : List Value} (h : LV j as mls nL ls) : lv_has mls nL (lvP as ls) := by
  refine ⟨h.1, h.2.1, ?_⟩
  rintro ⟨i, w⟩ hq
  obtain ⟨v, h1, h2, rfl⟩ := lvP_mem.mp hq
  exact h.2.2.2.1 i v h1 h2
theorem LV.at {j : Bool} {as : Nat → Nat} {mls : Array Slot} {nL : Nat} {ls : List Value} (h : LV j as mls nL ls) {i : Nat} {v : Value} (hi : ls[i]? = some v) (hm : v ≠ mk0) : mls[i]? = some (.val (rv as v)) := h.2.2.2.1 i v hi hm
theorem rv_cat (as : Nat → Nat) (v : Value) : (rv as v).category = v.category := by cases v <;> rfl
theorem LV.ext {j : Bool} {as as' : Nat → Nat} {mls : Array Slot} {nL n : Nat} {ls : List Value} (h : LV j as mls nL ls) (ha : ∀ r, okR n r → as' r = as r) (ho : ∀ v ∈ ls, okV n v) : LV j as' mls nL ls := by
  refine ⟨h.1, h.2.1, h.2.2.1, fun i v h1 h2 => ?_, h.2.2.2.2⟩
  rw [rv_ext ha (ho v (List.mem_of_getElem? h1))]
  exact h.2.2.2.1 i v h1 h2
theorem pClr_get {ls : List Value} {i k : Nat} {w : Value} (h : (pClr ls i)[k]? = some w) (hm : w ≠ mk0) : ls[k]? = some w ∧ ¬ (k + 1 = i ∧ ∃ x, w = .long x) := by
  cases i with
  | zero => exact ⟨h, by rintro ⟨h1, -⟩; omega⟩
  | succ i =>
    unfold pClr at h
    dsimp only at h
    split at h
    · next x hx =>
      by_cases e : i = k
      · subst e
        rw [List.getElem?_set_self (List.getElem?_eq_some_iff.mp hx).1] at h
        exact absurd (Option.some.inj h).symm hm
      · rw [List.getElem?_set_ne e] at h
        exact ⟨h, by rintro ⟨h1, -⟩; omega⟩
    · next hx =>
      refine ⟨h, ?_⟩
      rintro ⟨h1, x, rfl⟩
      have : i = k := by omega
      subst this
      exact hx x h
theorem pClr_len (ls : List Value) (i : Nat) : (pClr ls i).length = ls.length := by
  unfold pClr
  split
  · rfl
  · split
    · simp
    · rfl
theorem pClr_mem {ls : List Value} {i : Nat} {w : Value} (h : w ∈ pClr ls i) : w ∈ ls ∨ w = mk0 := by
  unfold pClr at h
  split at h
  · exact Or.inl h
  · split at h
    · rcases List.mem_or_eq_of_mem_set h with h | h
      · exact Or.inl h
      · exact Or.inr h
    · exact Or.inl h
/-- behind the store of one word -/
theorem LV.st1 {j : Bool} {as : Nat → Nat} {mls mls' : Array Slot} {nL i b : Nat} {ls : List Value} {v : Value} (h : LV j as mls nL ls) (hb : j = (Nat.beq b 1)) (hb1 : b ≤ 1) (hi : i < nL) (hv : ∀ x, v ≠ .double x) (hv2 : ∀ x, v ≠ .long x) (hm : v ≠ mk0)
    (h' : lv_has mls' nL ((i, rv as v) :: (lvP as ls).filter (fun q => !(q.1 == i) && !(q.1 + 1 == i && q.2.category == 2)))) : LV j as mls' nL (pSt b ls i v) := by
  obtain ⟨h1, h2, h3, h4, h5, h6⟩ := h
  have step : ∀ (k : Nat) (w : Value), k ≠ i → ls[k]? = some w → w ≠ mk0 → ¬ (k + 1 = i ∧ ∃ x, w = .long x) → mls'[k]? = some (.val (rv as w)) := by
    intro k w hk hw hwm hl
    refine h'.2.2 (k, rv as w) (List.mem_cons_of_mem _ (List.mem_filter.mpr ⟨lvP_mem.mpr ⟨w, hw, hwm, rfl⟩, ?_⟩))
    have hc : ¬ (k + 1 = i ∧ (rv as w).category = 2) := by
      rintro ⟨e1, e2⟩
      rw [rv_cat] at e2
      have hd := h5 w (List.mem_of_getElem? hw)
      cases w <;> simp [Value.category] at e2
      · exact hl ⟨e1, _, rfl⟩
      · exact hd _ rfl
    simp only [Bool.and_eq_true, Bool.not_eq_true', beq_eq_false_iff_ne, ne_eq, Bool.and_eq_false_iff]
    refine ⟨hk, ?_⟩
    by_cases e1 : k + 1 = i
    · right
      intro e2
      exact hc ⟨e1, e2⟩
    · left
      exact e1
  have self : mls'[i]? = some (.val (rv as v)) := h'.2.2 (i, rv as v) List.mem_cons_self
  have hbs : b = 0 ∨ b = 1 := by omega
  rcases hbs with rfl | rfl
  · have hj : j = false := hb
    refine ⟨h'.1, h'.2.1, by simp [pSt, h3], ?_, ?_, ?_⟩
    · intro k w hw hwm
      by_cases e1 : i = k
      · subst e1
        simp only [pSt] at hw
        rw [List.getElem?_set_self (by omega)] at hw
        cases hw
        exact self
      · simp only [pSt] at hw
        rw [List.getElem?_set_ne e1] at hw
        exact step k w (fun e => e1 e.symm) hw hwm (by rintro ⟨-, x, rfl⟩; exact h6 hj _ (List.mem_of_getElem? hw) x rfl)
    · intro w hw x
      rcases List.mem_or_eq_of_mem_set hw with h | h
      · exact h5 w h x
      · rw [h]; exact hv x
    · intro _ w hw x
      rcases List.mem_or_eq_of_mem_set hw with h | h
      · exact h6 hj w h x
      · rw [h]; exact hv2 x
  · have hj : j = true := hb
    refine ⟨h'.1, h'.2.1, by simp [pSt, pSt1, pClr_len, h3], ?_, ?_, ?_⟩
    · intro k w hw hwm
      simp only [pSt, pSt1] at hw
      by_cases e1 : i = k
      · subst e1
        rw [List.getElem?_set_self (by rw [pClr_len]; omega)] at hw
        cases hw
        exact self
      · rw [List.getElem?_set_ne e1] at hw
        obtain ⟨g1, g2⟩ := pClr_get hw hwm
        exact step k w (fun e => e1 e.symm) g1 hwm g2
    · intro w hw x
      rcases List.mem_or_eq_of_mem_set hw with h | h
      · rcases pClr_mem h with h | h
        · exact h5 w h x
        · rw [h]; intro e; cases e
      · rw [h]; exact hv x
    · intro e; rw [hj] at e; cases e
/-- behind the store of a long -/
theorem LV.st2 {as : Nat → Nat} {mls mls' : Array Slot} {nL i : Nat} {ls : List Value} {y : Int64} (h : LV true as mls nL ls) (hi : i + 1 < nL)
    (h' : lv_has mls' nL ((i, Value.long y) :: (lvP as ls).filter (fun q => !(q.1 == i) && (!(q.1 == i + 1) && !(q.1 + 1 == i && q.2.category == 2))))) : LV true as mls' nL (pSt2 ls i (.long y)) := by
  obtain ⟨h1, h2, h3, h4, h5, h6⟩ := h
  refine ⟨h'.1, h'.2.1, by simp [pSt2, pClr_len, h3], ?_, ?_, fun e => by cases e⟩
  · intro k w hw hwm
    simp only [pSt2] at hw
    by_cases e0 : i + 1 = k
    · subst e0
      rw [List.getElem?_set_self (by simp [pClr_len]; omega)] at hw
      exact absurd (Option.some.inj hw).symm hwm
    · rw [List.getElem?_set_ne e0] at hw
      by_cases e1 : i = k
      · subst e1
        rw [List.getElem?_set_self (by rw [pClr_len]; omega)] at hw
        cases hw
        exact h'.2.2 (i, .long y) List.mem_cons_self
      · rw [List.getElem?_set_ne e1] at hw
        obtain ⟨g1, g2⟩ := pClr_get hw hwm
        refine h'.2.2 (k, rv as w) (List.mem_cons_of_mem _ (List.mem_filter.mpr ⟨lvP_mem.mpr ⟨w, g1, hwm, rfl⟩, ?_⟩))
        have hc : ¬ (k + 1 = i ∧ (rv as w).category = 2) := by
          rintro ⟨e1, e2⟩
          rw [rv_cat] at e2
          have hd := h5 w (List.mem_of_getElem? g1)
          cases w <;> simp [Value.category] at e2
          · exact g2 ⟨e1, _, rfl⟩
          · exact hd _ rfl
        simp only [Bool.and_eq_true, Bool.not_eq_true', beq_eq_false_iff_ne, ne_eq, Bool.and_eq_false_iff]
        refine ⟨fun e => e1 e.symm, fun e => e0 e.symm, ?_⟩
        by_cases e2 : k + 1 = i
        · right
          intro e3
          exact hc ⟨e2, e3⟩
        · left
          exact e2
  · intro w hw x
    rcases List.mem_or_eq_of_mem_set hw with h | h
    · rcases List.mem_or_eq_of_mem_set h with h | h
      · rcases pClr_mem h with h | h
        · exact h5 w h x
        · rw [h]; intro e; cases e
      · rw [h]; intro e; cases e
    · rw [h]; intro e; cases e
/-- at a method's entry -/
theorem ent_args : ∀ (vs : List Value) (k i : Nat) (v : Value), (entL vs)[i]? = some v → v ≠ mk0 → (∀ v ∈ vs, ∀ x, v ≠ .double x) → (k + i, v) ∈ lv_args k vs := by
  intro vs
  induction vs with
  | nil => intro k i v h; simp [entL] at h
  | cons a vs ih =>
    intro k i v h hm hd
    have hd' : ∀ v ∈ vs, ∀ x, v ≠ .double x := fun v hv => hd v (List.mem_cons_of_mem _ hv)
    have one : a.category = 1 → entL (a :: vs) = a :: entL vs → (k + i, v) ∈ lv_args k (a :: vs) := by
      intro hc he
      rw [he] at h
      cases i with
      | zero =>
        simp only [List.getElem?_cons_zero, Option.some.injEq] at h
        subst h
        simp [lv_args]
      | succ i =>
        simp only [List.getElem?_cons_succ] at h
        have := ih (k + 1) i v h hm hd'
        simp only [lv_args, hc, List.mem_cons]
        right
        have e : k + (i + 1) = k + 1 + i := by omega
        rw [e]
        exact this
    cases a with
    | long y =>
      simp only [entL] at h
      match i, h with
      | 0, h =>
        simp only [List.getElem?_cons_zero, Option.some.injEq] at h
        subst h
        simp [lv_args]
      | 1, h =>
        simp only [List.getElem?_cons_succ, List.getElem?_cons_zero, Option.some.injEq] at h
        exact absurd h.symm hm
      | i + 2, h =>
        simp only [List.getElem?_cons_succ] at h
        have := ih (k + 2) i v h hm hd'
        simp only [lv_args, List.mem_cons]
        right
        have e : k + (i + 2) = k + 2 + i := by omega
        rw [e]
        exact this
    | double y => exact absurd rfl (hd (.double y) List.mem_cons_self y)
    | _ => exact one rfl rfl
