/-! CELLS AND SLOTS only grow -/
def ge_ (n sl : Nat) (p : pR) : Prop := ∀ o S', p = some (o, S') → n ≤ S'.1 ∧ sl ≤ S'.2.1
theorem ge_n {n sl : Nat} : ge_ n sl none := fun _ _ h => by cases h
theorem ge_k {n sl : Nat} {o : pO} {S : pS} (h : n ≤ S.1) (h2 : sl ≤ S.2.1) : ge_ n sl (some (o, S)) := fun _ _ e => by cases e; exact ⟨h, h2⟩
theorem ge_if {n sl : Nat} {c : Prop} [Decidable c] {a b : pR} (ha : ge_ n sl a) (hb : ge_ n sl b) : ge_ n sl (if c then a else b) := by
  by_cases h : c
  · simpa [h] using ha
  · simpa [h] using hb
theorem ge_b {n sl : Nat} {c : Bool} {a b : pR} (ha : ge_ n sl a) (hb : ge_ n sl b) : ge_ n sl (bif c then a else b) := by
  cases c
  · exact hb
  · exact ha
theorem ge_o {n sl : Nat} {α : Type} (o : Option α) {K : α → pR} (h : ∀ x, o = some x → ge_ n sl (K x)) : ge_ n sl (o.bind K) := by
  cases o with
  | none => exact ge_n
  | some x => exact h x rfl
theorem ge_w {n sl n' sl' : Nat} {p : pR} (h : ge_ n' sl' p) (h1 : n ≤ n') (h2 : sl ≤ sl') : ge_ n sl p := fun o S e => ⟨Nat.le_trans h1 (h o S e).1, Nat.le_trans h2 (h o S e).2⟩
theorem pF_sz {s s' : pS} {q c k : Nat} {v : Value} (h : pF s q c k v = some s') : s'.1 = s.1 ∧ s'.2.1 = s.2.1 := by
  unfold pF at h
  split at h
  · split at h
    · cases h; exact ⟨rfl, rfl⟩
    · cases h
  · cases h
theorem pI_sz {s s' : pS} {q : Nat} {i x : Int32} (h : pI s q i x = some s') : s'.1 = s.1 ∧ s'.2.1 = s.2.1 := by
  unfold pI at h
  split at h
  · split at h
    · cases h
    · cases h; exact ⟨rfl, rfl⟩
  · cases h
theorem pL_sz {s s' : pS} {q : Nat} {i : Int32} {x : Int64} (h : pL s q i x = some s') : s'.1 = s.1 ∧ s'.2.1 = s.2.1 := by
  unfold pL at h
  split at h
  · split at h
    · cases h
    · cases h; exact ⟨rfl, rfl⟩
  · cases h
theorem pQ_sz {s s' : pS} {q : Nat} {i : Int32} {x : Option Nat} (h : pQ s q i x = some s') : s'.1 = s.1 ∧ s'.2.1 = s.2.1 := by
  unfold pQ at h
  split at h
  · split at h
    · cases h
    · split at h
      · cases h; exact ⟨rfl, rfl⟩
      · split at h
        · cases h; exact ⟨rfl, rfl⟩
        · cases h
  · cases h
theorem pCp_sz {s s' : pS} {q r : Nat} {i j k : Int32} (h : pCp s q i r j k = some s') : s'.1 = s.1 ∧ s'.2.1 = s.2.1 := by
  unfold pCp at h
  split at h
  · split at h
    · cases h
    · cases h; exact ⟨rfl, rfl⟩
  · cases h
theorem ge_kSw {n sl : Nat} (l : List (Int32 × Nat)) (d : Nat) (x : Int32) {F : Nat → pR} (h : ∀ x, ge_ n sl (F x)) : ge_ n sl (kSw l d x F) := by
  induction l with
  | nil => exact h _
  | cons a l ih => obtain ⟨c, t⟩ := a; exact ge_if (h _) ih
theorem ge_hX {n sl : Nat} (l : List (Nat × Nat × Nat × Nat)) (pc c : Nat) {D : pR} {F : Nat → pR} (hD : ge_ n sl D) (h : ∀ x, ge_ n sl (F x)) : ge_ n sl (hX l pc c F D) := by
  induction l with
  | nil => exact hD
  | cons a l ih =>
    obtain ⟨a, b, x, k⟩ := a
    exact ge_b (ge_if (h _) ih) ih
section
variable {C : Nat → List Value → pS → pR} {K : Nat → List Value → List Value → pS → pR}
theorem ge_X (M pc : Nat) (ls : List Value) (hK : ∀ pc ls st (s : pS), ge_ s.1 s.2.1 (K pc ls st s)) (c i : Nat) (s : pS) : ge_ s.1 s.2.1 (pX K M pc ls c i s) :=
  ge_hX _ _ _ (by split; exact ge_k (Nat.le_refl _) (Nat.le_refl _); exact ge_n) (fun _ => hK _ _ _ _)
theorem ge_call {X : Nat → Nat → pS → pR} (M pc len : Nat) (t : Int) (a b : Nat) (ls st : List Value) (s : pS) (hC : ∀ M a (s : pS), ge_ s.1 s.2.1 (C M a s)) (hK : ∀ pc ls st (s : pS), ge_ s.1 s.2.1 (K pc ls st s)) (hX : ∀ c i (s : pS), ge_ s.1 s.2.1 (X c i s)) : ge_ s.1 s.2.1 (pCall C K X M pc len t a b ls st s) := by
  unfold pCall
  refine ge_b ?_ ge_n
  have h1 := hC a (st.take b).reverse s
  split
  all_goals
    first | unfold kC0 | unfold kC1 | unfold kC2 | unfold kC3
    split
    · next e => exact ge_w (hK _ _ _ _) (h1 _ _ e).1 (h1 _ _ e).2
    · next e => exact ge_w (hX _ _ _) (h1 _ _ e).1 (h1 _ _ e).2
    · exact ge_n
set_option maxRecDepth 10000 in
set_option maxHeartbeats 4000000 in
theorem pStep_ge (M pc : Nat) (e : pE) (ls st : List Value) (s : pS) (hC : ∀ M a (s : pS), ge_ s.1 s.2.1 (C M a s)) (hK : ∀ pc ls st (s : pS), ge_ s.1 s.2.1 (K pc ls st s)) : ge_ s.1 s.2.1 (pStep C K M pc e ls st s) := by
  obtain ⟨len, op, x, a, b⟩ := e
  unfold pStep
  dsimp only
  split
  all_goals
    repeat' first
      | exact ge_n
      | exact hK _ _ _ _
      | exact ge_w (hK _ _ _ _) (Nat.le_succ _) (Nat.le_add_right _ _)
      | exact ge_k (Nat.le_refl _) (Nat.le_refl _)
      | exact ge_k (Nat.le_succ _) (Nat.le_add_right _ _)
      | exact ge_call M pc _ _ _ _ _ _ _ hC hK (fun _ _ _ => ge_n)
      | exact ge_call M pc _ _ _ _ _ _ _ (fun _ _ _ => ge_b (hC _ _ _) ge_n) hK (fun _ _ _ => ge_n)
      | exact ge_call M pc _ _ _ _ _ _ _ (fun _ _ _ => ge_b (hC _ _ _) ge_n) hK (fun _ _ _ => ge_X M pc _ hK _ _ _)
      | (refine ge_if ?_ ?_)
      | (refine ge_b ?_ ?_)
      | (refine ge_kSw _ _ _ (fun _ => ?_))
      | (refine ge_o _ (fun s' h => ?_); first | exact ge_w (hK _ _ _ _) (Nat.le_of_eq (pF_sz h).1.symm) (Nat.le_of_eq (pF_sz h).2.symm) | exact ge_w (hK _ _ _ _) (Nat.le_of_eq (pI_sz h).1.symm) (Nat.le_of_eq (pI_sz h).2.symm) | exact ge_w (hK _ _ _ _) (Nat.le_of_eq (pL_sz h).1.symm) (Nat.le_of_eq (pL_sz h).2.symm) | exact ge_w (hK _ _ _ _) (Nat.le_of_eq (pQ_sz h).1.symm) (Nat.le_of_eq (pQ_sz h).2.symm) | exact ge_w (hK _ _ _ _) (Nat.le_of_eq (pCp_sz h).1.symm) (Nat.le_of_eq (pCp_sz h).2.symm) | skip)
      | unfold tI
      | unfold tJ
      | unfold tA
      | unfold kI
      | unfold kII
      | unfold kJ
      | unfold kJJ
      | unfold kA
      | unfold kAn
      | unfold kIA
      | unfold kIIA
      | unfold kJIA
      | unfold kAIA
      | unfold kV1
      | unfold oN
      | dsimp only
      | split
end
theorem run_ge : ∀ (f d M pc : Nat) (ls st : List Value) (s : pS), ge_ s.1 s.2.1 (run f d M pc ls st s) := by
  intro f
  induction f with
  | zero => intro d M pc ls st s; exact ge_n
  | succ f ih =>
    intro d M pc ls st s
    unfold run
    split
    · exact ge_n
    · refine pStep_ge _ _ _ _ _ _ (fun M a s => ?_) (fun pc ls st s => ih _ _ _ _ _ _)
      cases d with
      | zero => exact ge_n
      | succ d => exact ih _ _ _ _ _ _
