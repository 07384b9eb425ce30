/-! THE REFERENCE's object (cell 30) and its rows (cells 31 to 57), laid over a heap -/
abbrev rT : Type := (Nat → Int32) × (Nat → Nat → Int32)
def rLen (a : Nat) : Nat := [2, 600, 8, 6, 6, 8, 6, 6, 8, 150, 150, 150, 150, 150, 8, 150, 150, 76, 76, 1216, 6, 8, 8, 1792, 8, 8, 3879].getD (a - 31) 0
def cut (n : Nat) (f : Nat → Int32) : Nat → Int32 := fun i => if i < n then f i else 0
def rF (τ : rT) : List Value := [.int (τ.1 0), .ref 31, .int (τ.1 2), .int (τ.1 3), .int (τ.1 4), .int (τ.1 5), .int (τ.1 6), .int (τ.1 7), .int (τ.1 8), .ref 32, .ref 33, .ref 34, .ref 35, .ref 36, .ref 37, .ref 38, .ref 39, .int (τ.1 17), .int (τ.1 18), .int (τ.1 19), .int (τ.1 20), .int (τ.1 21), .int (τ.1 22), .int (τ.1 23), .int (τ.1 24), .int (τ.1 25), .ref 40, .ref 41, .ref 42, .ref 43, .ref 44, .int (τ.1 31), .int (τ.1 32), .ref 45, .ref 46, .ref 47, .int (τ.1 36), .int (τ.1 37), .int (τ.1 38), .int (τ.1 39), .int (τ.1 40), .int (τ.1 41), .ref 48, .ref 49, .ref 50, .ref 51, .ref 52, .ref 53, .int (τ.1 48), .ref 54, .ref 55, .ref 56, .int (τ.1 52), .ref 57, .int (τ.1 54)]
def mS (b : pS) (τ : rT) : pS := (b.1, b.2.1, fun j => if j = 30 then some (cO 11 (rF τ)) else if 31 ≤ j ∧ j < 58 then some (cI (rLen j) (cut (rLen j) (τ.2 j))) else b.2.2 j)
def wF (τ : rT) (k : Nat) (v : Int32) : rT := (fun j => if j = k then v else τ.1 j, τ.2)
def wA (τ : rT) (a k : Nat) (v : Int32) : rT := (τ.1, fun c => if c = a then upd (τ.2 a) k v else τ.2 c)
/-- a whole row anew -/
def wR (τ : rT) (a : Nat) (f : Nat → Int32) : rT := (τ.1, fun c => if c = a then f else τ.2 c)
theorem wF_1 (τ : rT) (k : Nat) (v : Int32) (j : Nat) : (wF τ k v).1 j = if j = k then v else τ.1 j := id rfl
theorem wF_2 (τ : rT) (k : Nat) (v : Int32) : (wF τ k v).2 = τ.2 := id rfl
theorem wA_1 (τ : rT) (a k : Nat) (v : Int32) : (wA τ a k v).1 = τ.1 := id rfl
theorem wA_2 (τ : rT) (a k : Nat) (v : Int32) (c : Nat) : (wA τ a k v).2 c = if c = a then upd (τ.2 a) k v else τ.2 c := id rfl
theorem wR_1 (τ : rT) (a : Nat) (f : Nat → Int32) : (wR τ a f).1 = τ.1 := id rfl
theorem wR_2 (τ : rT) (a : Nat) (f : Nat → Int32) (c : Nat) : (wR τ a f).2 c = if c = a then f else τ.2 c := id rfl
theorem cut_lt {n i : Nat} (f : Nat → Int32) (h : i < n) : cut n f i = f i := if_pos h
theorem cut_upd {n k : Nat} (f : Nat → Int32) (v : Int32) (h : k < n) : upd (cut n f) k v = cut n (upd f k v) := by
  funext j; unfold upd cut; by_cases h1 : j = k
  · subst h1; simp [h]
  · simp [h1]
theorem cut_eq {n : Nat} {f g : Nat → Int32} (h : ∀ i, i < n → f i = g i) : cut n f = cut n g := by
  funext j; unfold cut; by_cases h1 : j < n
  · simp [h1, h j h1]
  · simp [h1]
theorem mS_at {b : pS} {τ : rT} {a : Nat} (h1 : 31 ≤ a) (h2 : a < 58) : (mS b τ).2.2 a = some (cI (rLen a) (cut (rLen a) (τ.2 a))) := by
  show (if a = 30 then _ else _) = _
  rw [if_neg (by omega), if_pos ⟨h1, h2⟩]
theorem mS_out {b : pS} {τ : rT} {a : Nat} (h : a < 30 ∨ 58 ≤ a) : (mS b τ).2.2 a = b.2.2 a := by
  show (if a = 30 then _ else _) = _
  rw [if_neg (by omega), if_neg (by omega)]
theorem mS_30 {b : pS} {τ : rT} : (mS b τ).2.2 30 = some (cO 11 (rF τ)) := rfl
/-- only what lies within the rows counts -/
theorem mS_eq {b : pS} {τ τ' : rT} (h1 : ∀ k, k < 55 → τ.1 k = τ'.1 k) (h2 : ∀ a, 31 ≤ a → a < 58 → ∀ i, i < rLen a → τ.2 a i = τ'.2 a i) : mS b τ = mS b τ' := by
  unfold mS
  refine congrArg (fun z => (b.1, b.2.1, z)) (funext fun j => ?_)
  by_cases e1 : j = 30
  · rw [if_pos e1, if_pos e1]; unfold rF; rw [h1 0 (by decide), h1 2 (by decide), h1 3 (by decide), h1 4 (by decide), h1 5 (by decide), h1 6 (by decide), h1 7 (by decide), h1 8 (by decide), h1 17 (by decide), h1 18 (by decide), h1 19 (by decide), h1 20 (by decide), h1 21 (by decide), h1 22 (by decide), h1 23 (by decide), h1 24 (by decide), h1 25 (by decide), h1 31 (by decide), h1 32 (by decide), h1 36 (by decide), h1 37 (by decide), h1 38 (by decide), h1 39 (by decide), h1 40 (by decide), h1 41 (by decide), h1 48 (by decide), h1 52 (by decide), h1 54 (by decide)]
  · rw [if_neg e1, if_neg e1]
    by_cases e2 : 31 ≤ j ∧ j < 58
    · rw [if_pos e2, if_pos e2, cut_eq (h2 j e2.1 e2.2)]
    · rw [if_neg e2, if_neg e2]
theorem mS_mS (b : pS) (τ τ' : rT) : mS (mS b τ) τ' = mS b τ' := by
  unfold mS
  refine congrArg (fun z => (b.1, b.2.1, z)) (funext fun j => ?_)
  by_cases e1 : j = 30
  · simp only [e1, if_true]
  · by_cases e2 : 31 ≤ j ∧ j < 58
    · simp only [e1, e2, if_false, if_true, and_self]
    · simp only [e1, e2, if_false]
theorem m_gF (b : pS) (τ : rT) : gFi (mS b τ) 30 11 0 = some (τ.1 0) ∧ gFi (mS b τ) 30 11 2 = some (τ.1 2) ∧ gFi (mS b τ) 30 11 3 = some (τ.1 3) ∧ gFi (mS b τ) 30 11 4 = some (τ.1 4) ∧ gFi (mS b τ) 30 11 5 = some (τ.1 5) ∧ gFi (mS b τ) 30 11 6 = some (τ.1 6) ∧ gFi (mS b τ) 30 11 7 = some (τ.1 7) ∧ gFi (mS b τ) 30 11 8 = some (τ.1 8) ∧ gFi (mS b τ) 30 11 17 = some (τ.1 17) ∧ gFi (mS b τ) 30 11 18 = some (τ.1 18) ∧ gFi (mS b τ) 30 11 19 = some (τ.1 19) ∧ gFi (mS b τ) 30 11 20 = some (τ.1 20) ∧ gFi (mS b τ) 30 11 21 = some (τ.1 21) ∧ gFi (mS b τ) 30 11 22 = some (τ.1 22) ∧ gFi (mS b τ) 30 11 23 = some (τ.1 23) ∧ gFi (mS b τ) 30 11 24 = some (τ.1 24) ∧ gFi (mS b τ) 30 11 25 = some (τ.1 25) ∧ gFi (mS b τ) 30 11 31 = some (τ.1 31) ∧ gFi (mS b τ) 30 11 32 = some (τ.1 32) ∧ gFi (mS b τ) 30 11 36 = some (τ.1 36) ∧ gFi (mS b τ) 30 11 37 = some (τ.1 37) ∧ gFi (mS b τ) 30 11 38 = some (τ.1 38) ∧ gFi (mS b τ) 30 11 39 = some (τ.1 39) ∧ gFi (mS b τ) 30 11 40 = some (τ.1 40) ∧ gFi (mS b τ) 30 11 41 = some (τ.1 41) ∧ gFi (mS b τ) 30 11 48 = some (τ.1 48) ∧ gFi (mS b τ) 30 11 52 = some (τ.1 52) ∧ gFi (mS b τ) 30 11 54 = some (τ.1 54) ∧ gFr (mS b τ) 30 11 1 = some 31 ∧ gFr (mS b τ) 30 11 9 = some 32 ∧ gFr (mS b τ) 30 11 10 = some 33 ∧ gFr (mS b τ) 30 11 11 = some 34 ∧ gFr (mS b τ) 30 11 12 = some 35 ∧ gFr (mS b τ) 30 11 13 = some 36 ∧ gFr (mS b τ) 30 11 14 = some 37 ∧ gFr (mS b τ) 30 11 15 = some 38 ∧ gFr (mS b τ) 30 11 16 = some 39 ∧ gFr (mS b τ) 30 11 26 = some 40 ∧ gFr (mS b τ) 30 11 27 = some 41 ∧ gFr (mS b τ) 30 11 28 = some 42 ∧ gFr (mS b τ) 30 11 29 = some 43 ∧ gFr (mS b τ) 30 11 30 = some 44 ∧ gFr (mS b τ) 30 11 33 = some 45 ∧ gFr (mS b τ) 30 11 34 = some 46 ∧ gFr (mS b τ) 30 11 35 = some 47 ∧ gFr (mS b τ) 30 11 42 = some 48 ∧ gFr (mS b τ) 30 11 43 = some 49 ∧ gFr (mS b τ) 30 11 44 = some 50 ∧ gFr (mS b τ) 30 11 45 = some 51 ∧ gFr (mS b τ) 30 11 46 = some 52 ∧ gFr (mS b τ) 30 11 47 = some 53 ∧ gFr (mS b τ) 30 11 49 = some 54 ∧ gFr (mS b τ) 30 11 50 = some 55 ∧ gFr (mS b τ) 30 11 51 = some 56 ∧ gFr (mS b τ) 30 11 53 = some 57 := by
  repeat' apply And.intro
  all_goals rfl
theorem m_gI0 {b : pS} {τ : rT} {a n : Nat} (h1 : 31 ≤ a) (h2 : a < 58) (hl : rLen a = n) (hn : n < 2147483648) (k : Nat) (hk : k < n) : gI (mS b τ) a (Int32.ofNat k) = some (τ.2 a k) := by
  subst hl
  rw [gI_at (mS_at h1 h2) hk hn, cut_lt _ hk]
theorem m_pI0 {b : pS} {τ : rT} {a n : Nat} (h1 : 31 ≤ a) (h2 : a < 58) (hl : rLen a = n) (hn : n < 2147483648) (k : Nat) (v : Int32) (hk : k < n) : pI (mS b τ) a (Int32.ofNat k) v = some (mS b (wA τ a k v)) := by
  subst hl
  rw [pI_at (mS_at h1 h2) hk hn, cut_upd _ _ hk]
  unfold pSet mS
  refine congrArg (fun z => some (b.1, b.2.1, z)) (funext fun j => ?_)
  by_cases e : j = a
  · subst e
    have e1 : ¬ j = 30 := by omega
    have e2 : 31 ≤ j ∧ j < 58 := ⟨h1, h2⟩
    simp only [if_true, e1, if_false, e2, and_self, wA_2]
  · simp only [e, if_false, wA_2]
    rfl
theorem m_gI (b : pS) (τ : rT) : (∀ k, k < 2 → gI (mS b τ) 31 (Int32.ofNat k) = some (τ.2 31 k)) ∧ (∀ k, k < 600 → gI (mS b τ) 32 (Int32.ofNat k) = some (τ.2 32 k)) ∧ (∀ k, k < 8 → gI (mS b τ) 33 (Int32.ofNat k) = some (τ.2 33 k)) ∧ (∀ k, k < 6 → gI (mS b τ) 34 (Int32.ofNat k) = some (τ.2 34 k)) ∧ (∀ k, k < 6 → gI (mS b τ) 35 (Int32.ofNat k) = some (τ.2 35 k)) ∧ (∀ k, k < 8 → gI (mS b τ) 36 (Int32.ofNat k) = some (τ.2 36 k)) ∧ (∀ k, k < 6 → gI (mS b τ) 37 (Int32.ofNat k) = some (τ.2 37 k)) ∧ (∀ k, k < 6 → gI (mS b τ) 38 (Int32.ofNat k) = some (τ.2 38 k)) ∧ (∀ k, k < 8 → gI (mS b τ) 39 (Int32.ofNat k) = some (τ.2 39 k)) ∧ (∀ k, k < 150 → gI (mS b τ) 40 (Int32.ofNat k) = some (τ.2 40 k)) ∧ (∀ k, k < 150 → gI (mS b τ) 41 (Int32.ofNat k) = some (τ.2 41 k)) ∧ (∀ k, k < 150 → gI (mS b τ) 42 (Int32.ofNat k) = some (τ.2 42 k)) ∧ (∀ k, k < 150 → gI (mS b τ) 43 (Int32.ofNat k) = some (τ.2 43 k)) ∧ (∀ k, k < 150 → gI (mS b τ) 44 (Int32.ofNat k) = some (τ.2 44 k)) ∧ (∀ k, k < 8 → gI (mS b τ) 45 (Int32.ofNat k) = some (τ.2 45 k)) ∧ (∀ k, k < 150 → gI (mS b τ) 46 (Int32.ofNat k) = some (τ.2 46 k)) ∧ (∀ k, k < 150 → gI (mS b τ) 47 (Int32.ofNat k) = some (τ.2 47 k)) ∧ (∀ k, k < 76 → gI (mS b τ) 48 (Int32.ofNat k) = some (τ.2 48 k)) ∧ (∀ k, k < 76 → gI (mS b τ) 49 (Int32.ofNat k) = some (τ.2 49 k)) ∧ (∀ k, k < 1216 → gI (mS b τ) 50 (Int32.ofNat k) = some (τ.2 50 k)) ∧ (∀ k, k < 6 → gI (mS b τ) 51 (Int32.ofNat k) = some (τ.2 51 k)) ∧ (∀ k, k < 8 → gI (mS b τ) 52 (Int32.ofNat k) = some (τ.2 52 k)) ∧ (∀ k, k < 8 → gI (mS b τ) 53 (Int32.ofNat k) = some (τ.2 53 k)) ∧ (∀ k, k < 1792 → gI (mS b τ) 54 (Int32.ofNat k) = some (τ.2 54 k)) ∧ (∀ k, k < 8 → gI (mS b τ) 55 (Int32.ofNat k) = some (τ.2 55 k)) ∧ (∀ k, k < 8 → gI (mS b τ) 56 (Int32.ofNat k) = some (τ.2 56 k)) ∧ (∀ k, k < 3879 → gI (mS b τ) 57 (Int32.ofNat k) = some (τ.2 57 k)) := by
  repeat' apply And.intro
  all_goals exact m_gI0 (by decide) (by decide) rfl (by decide)
theorem m_pI (b : pS) (τ : rT) : (∀ k v, k < 2 → pI (mS b τ) 31 (Int32.ofNat k) v = some (mS b (wA τ 31 k v))) ∧ (∀ k v, k < 600 → pI (mS b τ) 32 (Int32.ofNat k) v = some (mS b (wA τ 32 k v))) ∧ (∀ k v, k < 8 → pI (mS b τ) 33 (Int32.ofNat k) v = some (mS b (wA τ 33 k v))) ∧ (∀ k v, k < 6 → pI (mS b τ) 34 (Int32.ofNat k) v = some (mS b (wA τ 34 k v))) ∧ (∀ k v, k < 6 → pI (mS b τ) 35 (Int32.ofNat k) v = some (mS b (wA τ 35 k v))) ∧ (∀ k v, k < 8 → pI (mS b τ) 36 (Int32.ofNat k) v = some (mS b (wA τ 36 k v))) ∧ (∀ k v, k < 6 → pI (mS b τ) 37 (Int32.ofNat k) v = some (mS b (wA τ 37 k v))) ∧ (∀ k v, k < 6 → pI (mS b τ) 38 (Int32.ofNat k) v = some (mS b (wA τ 38 k v))) ∧ (∀ k v, k < 8 → pI (mS b τ) 39 (Int32.ofNat k) v = some (mS b (wA τ 39 k v))) ∧ (∀ k v, k < 150 → pI (mS b τ) 40 (Int32.ofNat k) v = some (mS b (wA τ 40 k v))) ∧ (∀ k v, k < 150 → pI (mS b τ) 41 (Int32.ofNat k) v = some (mS b (wA τ 41 k v))) ∧ (∀ k v, k < 150 → pI (mS b τ) 42 (Int32.ofNat k) v = some (mS b (wA τ 42 k v))) ∧ (∀ k v, k < 150 → pI (mS b τ) 43 (Int32.ofNat k) v = some (mS b (wA τ 43 k v))) ∧ (∀ k v, k < 150 → pI (mS b τ) 44 (Int32.ofNat k) v = some (mS b (wA τ 44 k v))) ∧ (∀ k v, k < 8 → pI (mS b τ) 45 (Int32.ofNat k) v = some (mS b (wA τ 45 k v))) ∧ (∀ k v, k < 150 → pI (mS b τ) 46 (Int32.ofNat k) v = some (mS b (wA τ 46 k v))) ∧ (∀ k v, k < 150 → pI (mS b τ) 47 (Int32.ofNat k) v = some (mS b (wA τ 47 k v))) ∧ (∀ k v, k < 76 → pI (mS b τ) 48 (Int32.ofNat k) v = some (mS b (wA τ 48 k v))) ∧ (∀ k v, k < 76 → pI (mS b τ) 49 (Int32.ofNat k) v = some (mS b (wA τ 49 k v))) ∧ (∀ k v, k < 1216 → pI (mS b τ) 50 (Int32.ofNat k) v = some (mS b (wA τ 50 k v))) ∧ (∀ k v, k < 6 → pI (mS b τ) 51 (Int32.ofNat k) v = some (mS b (wA τ 51 k v))) ∧ (∀ k v, k < 8 → pI (mS b τ) 52 (Int32.ofNat k) v = some (mS b (wA τ 52 k v))) ∧ (∀ k v, k < 8 → pI (mS b τ) 53 (Int32.ofNat k) v = some (mS b (wA τ 53 k v))) ∧ (∀ k v, k < 1792 → pI (mS b τ) 54 (Int32.ofNat k) v = some (mS b (wA τ 54 k v))) ∧ (∀ k v, k < 8 → pI (mS b τ) 55 (Int32.ofNat k) v = some (mS b (wA τ 55 k v))) ∧ (∀ k v, k < 8 → pI (mS b τ) 56 (Int32.ofNat k) v = some (mS b (wA τ 56 k v))) ∧ (∀ k v, k < 3879 → pI (mS b τ) 57 (Int32.ofNat k) v = some (mS b (wA τ 57 k v))) := by
  repeat' apply And.intro
  all_goals exact m_pI0 (by decide) (by decide) rfl (by decide)
theorem m_pF0 {b : pS} {τ : rT} {k : Nat} {v : Int32} (hk : k < 55) (h : (rF τ).set k (.int v) = rF (wF τ k v)) : pF (mS b τ) 30 11 k (.int v) = some (mS b (wF τ k v)) := by
  have hg : gO (mS b τ) 30 11 = some (rF τ) := rfl
  unfold pF
  rw [hg]
  dsimp only
  rw [if_pos (show k < (rF τ).length from hk), h]
  unfold pSet mS
  refine congrArg (fun z => some (b.1, b.2.1, z)) (funext fun j => ?_)
  by_cases e : j = 30
  · simp only [e, if_true]
  · simp only [e, if_false, wF_2]
theorem m_pF (b : pS) (τ : rT) : (∀ v, pF (mS b τ) 30 11 0 (.int v) = some (mS b (wF τ 0 v))) ∧ (∀ v, pF (mS b τ) 30 11 2 (.int v) = some (mS b (wF τ 2 v))) ∧ (∀ v, pF (mS b τ) 30 11 3 (.int v) = some (mS b (wF τ 3 v))) ∧ (∀ v, pF (mS b τ) 30 11 4 (.int v) = some (mS b (wF τ 4 v))) ∧ (∀ v, pF (mS b τ) 30 11 5 (.int v) = some (mS b (wF τ 5 v))) ∧ (∀ v, pF (mS b τ) 30 11 6 (.int v) = some (mS b (wF τ 6 v))) ∧ (∀ v, pF (mS b τ) 30 11 7 (.int v) = some (mS b (wF τ 7 v))) ∧ (∀ v, pF (mS b τ) 30 11 8 (.int v) = some (mS b (wF τ 8 v))) ∧ (∀ v, pF (mS b τ) 30 11 17 (.int v) = some (mS b (wF τ 17 v))) ∧ (∀ v, pF (mS b τ) 30 11 18 (.int v) = some (mS b (wF τ 18 v))) ∧ (∀ v, pF (mS b τ) 30 11 19 (.int v) = some (mS b (wF τ 19 v))) ∧ (∀ v, pF (mS b τ) 30 11 20 (.int v) = some (mS b (wF τ 20 v))) ∧ (∀ v, pF (mS b τ) 30 11 21 (.int v) = some (mS b (wF τ 21 v))) ∧ (∀ v, pF (mS b τ) 30 11 22 (.int v) = some (mS b (wF τ 22 v))) ∧ (∀ v, pF (mS b τ) 30 11 23 (.int v) = some (mS b (wF τ 23 v))) ∧ (∀ v, pF (mS b τ) 30 11 24 (.int v) = some (mS b (wF τ 24 v))) ∧ (∀ v, pF (mS b τ) 30 11 25 (.int v) = some (mS b (wF τ 25 v))) ∧ (∀ v, pF (mS b τ) 30 11 31 (.int v) = some (mS b (wF τ 31 v))) ∧ (∀ v, pF (mS b τ) 30 11 32 (.int v) = some (mS b (wF τ 32 v))) ∧ (∀ v, pF (mS b τ) 30 11 36 (.int v) = some (mS b (wF τ 36 v))) ∧ (∀ v, pF (mS b τ) 30 11 37 (.int v) = some (mS b (wF τ 37 v))) ∧ (∀ v, pF (mS b τ) 30 11 38 (.int v) = some (mS b (wF τ 38 v))) ∧ (∀ v, pF (mS b τ) 30 11 39 (.int v) = some (mS b (wF τ 39 v))) ∧ (∀ v, pF (mS b τ) 30 11 40 (.int v) = some (mS b (wF τ 40 v))) ∧ (∀ v, pF (mS b τ) 30 11 41 (.int v) = some (mS b (wF τ 41 v))) ∧ (∀ v, pF (mS b τ) 30 11 48 (.int v) = some (mS b (wF τ 48 v))) ∧ (∀ v, pF (mS b τ) 30 11 52 (.int v) = some (mS b (wF τ 52 v))) ∧ (∀ v, pF (mS b τ) 30 11 54 (.int v) = some (mS b (wF τ 54 v))) := by
  repeat' apply And.intro
  all_goals exact fun v => m_pF0 (by decide) rfl
theorem vR {d M : Nat} {as : List Value} {b : pS} {τ : rT} (h : mO M = 11) : vcall (d + 1) M (.ref 30 :: as) (mS b τ) = den d M 0 (ent M (.ref 30 :: as)) [] (mS b τ) := by
  have e : rcv M (.ref 30 :: as) (mS b τ) = true := by
    show isO (mS b τ) 30 (mO M) = true
    rw [h]; rfl
  unfold vcall
  rw [e]
  rfl
theorem cR {d M : Nat} {as : List Value} {s : pS} : call (d + 1) M as s = den d M 0 (ent M as) [] s := rfl
/-- at a literal -/
theorem m_gIl (b : pS) (τ : rT) : gI (mS b τ) 45 0 = some (τ.2 45 0) ∧ gI (mS b τ) 45 1 = some (τ.2 45 1) ∧ gI (mS b τ) 45 2 = some (τ.2 45 2) ∧ gI (mS b τ) 45 3 = some (τ.2 45 3) ∧ gI (mS b τ) 45 4 = some (τ.2 45 4) ∧ gI (mS b τ) 45 5 = some (τ.2 45 5) ∧ gI (mS b τ) 45 6 = some (τ.2 45 6) ∧ gI (mS b τ) 45 7 = some (τ.2 45 7) ∧ gI (mS b τ) 48 74 = some (τ.2 48 74) ∧ gI (mS b τ) 48 75 = some (τ.2 48 75) ∧ gI (mS b τ) 49 74 = some (τ.2 49 74) ∧ gI (mS b τ) 49 75 = some (τ.2 49 75) ∧ gI (mS b τ) 44 0 = some (τ.2 44 0) ∧ gI (mS b τ) 54 0 = some (τ.2 54 0) ∧ gI (mS b τ) 31 0 = some (τ.2 31 0) ∧ gI (mS b τ) 31 1 = some (τ.2 31 1) := ⟨m_gI0 (n := 8) (by decide) (by decide) rfl (by decide) 0 (by decide), m_gI0 (n := 8) (by decide) (by decide) rfl (by decide) 1 (by decide), m_gI0 (n := 8) (by decide) (by decide) rfl (by decide) 2 (by decide), m_gI0 (n := 8) (by decide) (by decide) rfl (by decide) 3 (by decide), m_gI0 (n := 8) (by decide) (by decide) rfl (by decide) 4 (by decide), m_gI0 (n := 8) (by decide) (by decide) rfl (by decide) 5 (by decide), m_gI0 (n := 8) (by decide) (by decide) rfl (by decide) 6 (by decide), m_gI0 (n := 8) (by decide) (by decide) rfl (by decide) 7 (by decide), m_gI0 (n := 76) (by decide) (by decide) rfl (by decide) 74 (by decide), m_gI0 (n := 76) (by decide) (by decide) rfl (by decide) 75 (by decide), m_gI0 (n := 76) (by decide) (by decide) rfl (by decide) 74 (by decide), m_gI0 (n := 76) (by decide) (by decide) rfl (by decide) 75 (by decide), m_gI0 (n := 150) (by decide) (by decide) rfl (by decide) 0 (by decide), m_gI0 (n := 1792) (by decide) (by decide) rfl (by decide) 0 (by decide), m_gI0 (n := 2) (by decide) (by decide) rfl (by decide) 0 (by decide), m_gI0 (n := 2) (by decide) (by decide) rfl (by decide) 1 (by decide)⟩
theorem m_pIl (b : pS) (τ : rT) (v : Int32) : pI (mS b τ) 45 0 v = some (mS b (wA τ 45 0 v)) ∧ pI (mS b τ) 45 1 v = some (mS b (wA τ 45 1 v)) ∧ pI (mS b τ) 45 2 v = some (mS b (wA τ 45 2 v)) ∧ pI (mS b τ) 45 3 v = some (mS b (wA τ 45 3 v)) ∧ pI (mS b τ) 45 4 v = some (mS b (wA τ 45 4 v)) ∧ pI (mS b τ) 45 5 v = some (mS b (wA τ 45 5 v)) ∧ pI (mS b τ) 45 6 v = some (mS b (wA τ 45 6 v)) ∧ pI (mS b τ) 45 7 v = some (mS b (wA τ 45 7 v)) ∧ pI (mS b τ) 48 74 v = some (mS b (wA τ 48 74 v)) ∧ pI (mS b τ) 48 75 v = some (mS b (wA τ 48 75 v)) ∧ pI (mS b τ) 49 74 v = some (mS b (wA τ 49 74 v)) ∧ pI (mS b τ) 49 75 v = some (mS b (wA τ 49 75 v)) ∧ pI (mS b τ) 44 0 v = some (mS b (wA τ 44 0 v)) ∧ pI (mS b τ) 54 0 v = some (mS b (wA τ 54 0 v)) ∧ pI (mS b τ) 31 0 v = some (mS b (wA τ 31 0 v)) ∧ pI (mS b τ) 31 1 v = some (mS b (wA τ 31 1 v)) := ⟨m_pI0 (n := 8) (by decide) (by decide) rfl (by decide) 0 v (by decide), m_pI0 (n := 8) (by decide) (by decide) rfl (by decide) 1 v (by decide), m_pI0 (n := 8) (by decide) (by decide) rfl (by decide) 2 v (by decide), m_pI0 (n := 8) (by decide) (by decide) rfl (by decide) 3 v (by decide), m_pI0 (n := 8) (by decide) (by decide) rfl (by decide) 4 v (by decide), m_pI0 (n := 8) (by decide) (by decide) rfl (by decide) 5 v (by decide), m_pI0 (n := 8) (by decide) (by decide) rfl (by decide) 6 v (by decide), m_pI0 (n := 8) (by decide) (by decide) rfl (by decide) 7 v (by decide), m_pI0 (n := 76) (by decide) (by decide) rfl (by decide) 74 v (by decide), m_pI0 (n := 76) (by decide) (by decide) rfl (by decide) 75 v (by decide), m_pI0 (n := 76) (by decide) (by decide) rfl (by decide) 74 v (by decide), m_pI0 (n := 76) (by decide) (by decide) rfl (by decide) 75 v (by decide), m_pI0 (n := 150) (by decide) (by decide) rfl (by decide) 0 v (by decide), m_pI0 (n := 1792) (by decide) (by decide) rfl (by decide) 0 v (by decide), m_pI0 (n := 2) (by decide) (by decide) rfl (by decide) 0 v (by decide), m_pI0 (n := 2) (by decide) (by decide) rfl (by decide) 1 v (by decide)⟩
