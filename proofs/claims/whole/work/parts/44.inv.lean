/-! WHAT HOLDS of program and reference between two calls -/
/-- the numbers of a scene after at most D days -/
def scI (D m n : Nat) (v : Nat → Int32) : Prop := Sok m n v ∧ Hok n v ∧ (∃ d, d ≤ D ∧ v 75 = Int32.ofNat d ∧ ∀ p, p < n → ∃ j, j ≤ d ∧ v (14 + p) = Int32.ofNat j) ∧ (∀ t p, t < 8 → p < 6 → ∃ j, j ≤ 9999 ∧ v (26 + 6 * t + p) = Int32.ofNat j) ∧ (∃ j, j ≤ 99 ∧ v 74 = Int32.ofNat j) ∧ (∀ t, t < 8 → ∃ j, j ≤ 9 ∧ v t = Int32.ofNat j)
theorem mkv_j (l : List Nat) (a0 a1 a2 a3 a4 a5 a6 a7 : Int32) : ∃ j, j ≤ 99 ∧ mkv l a0 a1 a2 a3 a4 a5 a6 a7 = Int32.ofNat j := by
  obtain ⟨h1, h2⟩ := mkv_ge l a0 a1 a2 a3 a4 a5 a6 a7
  obtain ⟨k, hk, e⟩ := ii_ex (n := 100) (by decide) h1 (Int32.lt_of_le_of_lt h2 (by decide))
  exact ⟨k, by omega, e⟩
theorem mkB_j (l : List Nat) (n : Nat) (dk v : Nat → Int32) (p : Nat) : ∃ j, j ≤ 99 ∧ mkB l n dk v p = Int32.ofNat j := by
  unfold mkB
  split
  · exact ⟨0, by decide, rfl⟩
  · exact mkv_j _ _ _ _ _ _ _ _ _
theorem hgr_j {x : Int32} {j : Nat} (hj : j < 100) (e : x = Int32.ofNat j) : ∃ i, i < 100 ∧ hgr x = Int32.ofNat i := by
  subst e
  unfold hgr
  by_cases h : j = 99
  · subst h; exact ⟨99, by decide, rfl⟩
  · rw [if_neg (by simp (disch := omega) only [ii_m1, ii_s1, obs, wF_1, wF_2, wA_1, wA_2, wR_1, wR_2, Nat.reduceEqDiff, Nat.reduceAdd, Nat.reduceMul, if_true, if_false, ite_true, ite_false, ii_la, ii_al, ii_lm, ii_ml, ii_add, ii_mul, ii_1, ii_le, ii_lt, ii_c1, ii_c2, ii_c3, ii_c4, ii_c5, ii_n1, ii_nn, kC0_v, kC1_v, kC2_v, kC3_v, kC0_x, kC1_x, kC2_x, not_true_eq_false, not_false_eq_true, ne_eq]; exact h)]
    exact ⟨j + 1, by omega, by simp only [ii_m1, ii_s1, obs, wF_1, wF_2, wA_1, wA_2, wR_1, wR_2, Nat.reduceEqDiff, Nat.reduceAdd, Nat.reduceMul, if_true, if_false, ite_true, ite_false, ii_la, ii_al, ii_lm, ii_ml, ii_add, ii_mul, ii_1, ii_le, ii_lt, ii_c1, ii_c2, ii_c3, ii_c4, ii_c5, ii_n1, ii_nn, kC0_v, kC1_v, kC2_v, kC3_v, kC0_x, kC1_x, kC2_x, not_true_eq_false, not_false_eq_true, ne_eq]⟩
theorem mnP_j {x y : Int32} {i j : Nat} (hi : i ≤ 9999) (hj : j ≤ 99) (e : x = Int32.ofNat i) (e2 : y = Int32.ofNat j) : ∃ k, k ≤ 9999 ∧ mnP (x + y) = Int32.ofNat k := by
  subst e e2
  unfold mnP
  rw [ii_add]
  by_cases h : i + j ≤ 9999
  · refine ⟨i + j, h, ?_⟩; rw [if_pos (by simp (disch := omega) only [ii_m1, ii_s1, obs, wF_1, wF_2, wA_1, wA_2, wR_1, wR_2, Nat.reduceEqDiff, Nat.reduceAdd, Nat.reduceMul, if_true, if_false, ite_true, ite_false, ii_la, ii_al, ii_lm, ii_ml, ii_add, ii_mul, ii_1, ii_le, ii_lt, ii_c1, ii_c2, ii_c3, ii_c4, ii_c5, ii_n1, ii_nn, kC0_v, kC1_v, kC2_v, kC3_v, kC0_x, kC1_x, kC2_x, not_true_eq_false, not_false_eq_true, ne_eq]; exact h)]
  · refine ⟨9999, by decide, ?_⟩; rw [if_neg (by simp (disch := omega) only [ii_m1, ii_s1, obs, wF_1, wF_2, wA_1, wA_2, wR_1, wR_2, Nat.reduceEqDiff, Nat.reduceAdd, Nat.reduceMul, if_true, if_false, ite_true, ite_false, ii_la, ii_al, ii_lm, ii_ml, ii_add, ii_mul, ii_1, ii_le, ii_lt, ii_c1, ii_c2, ii_c3, ii_c4, ii_c5, ii_n1, ii_nn, kC0_v, kC1_v, kC2_v, kC3_v, kC0_x, kC1_x, kC2_x, not_true_eq_false, not_false_eq_true, ne_eq]; exact h)]; rfl
theorem scI_up {D D' m n : Nat} {v : Nat → Int32} (h : scI D m n v) (hD : D ≤ D') : scI D' m n v := by
  obtain ⟨h1, h2, ⟨d, h3, h4⟩, h5⟩ := h
  exact ⟨h1, h2, ⟨d, by omega, h4⟩, h5⟩
theorem scI_pass {D m n : Nat} {v : Nat → Int32} (l : List Nat) (dk fs : Nat → Int32) (h6 : n ≤ 6) (h : scI D m n v) : scI (D + 1) m n (sPass l n dk fs v) := by
  obtain ⟨h1, h2, ⟨d, h3, h4, h5⟩, h7, h8, h9⟩ := h
  refine ⟨fun p hp => ?_, fun p hp => ?_, ⟨d + 1, by omega, ?_, fun p hp => ?_⟩, fun t p ht hp => ?_, ?_, fun t ht => ?_⟩
  · unfold sPass; rw [upd_n _ _ (by omega), cf_8 (by omega)]
    split
    · exact Or.inl rfl
    · exact h1 p hp
  · unfold sPass; rw [upd_n _ _ (by omega), cf_20 (by omega), if_pos hp]
    obtain ⟨j, hj, e⟩ := h2 p hp
    exact hgr_j hj e
  · unfold sPass; rw [upd_s, h4]; simp only [ii_m1, ii_s1, obs, wF_1, wF_2, wA_1, wA_2, wR_1, wR_2, Nat.reduceEqDiff, Nat.reduceAdd, Nat.reduceMul, if_true, if_false, ite_true, ite_false, ii_la, ii_al, ii_lm, ii_ml, ii_add, ii_mul, ii_1, ii_le, ii_lt, ii_c1, ii_c2, ii_c3, ii_c4, ii_c5, ii_n1, ii_nn, kC0_v, kC1_v, kC2_v, kC3_v, kC0_x, kC1_x, kC2_x, not_true_eq_false, not_false_eq_true, ne_eq]
  · unfold sPass; rw [upd_n _ _ (by omega), cf_14 (by omega)]
    obtain ⟨j, hj, e⟩ := h5 p hp
    split
    · exact ⟨0, by omega, rfl⟩
    · split
      · exact ⟨j + 1, by omega, by rw [e]; simp only [ii_m1, ii_s1, obs, wF_1, wF_2, wA_1, wA_2, wR_1, wR_2, Nat.reduceEqDiff, Nat.reduceAdd, Nat.reduceMul, if_true, if_false, ite_true, ite_false, ii_la, ii_al, ii_lm, ii_ml, ii_add, ii_mul, ii_1, ii_le, ii_lt, ii_c1, ii_c2, ii_c3, ii_c4, ii_c5, ii_n1, ii_nn, kC0_v, kC1_v, kC2_v, kC3_v, kC0_x, kC1_x, kC2_x, not_true_eq_false, not_false_eq_true, ne_eq]⟩
      · exact ⟨j, by omega, e⟩
  · unfold sPass; rw [upd_n _ _ (by omega), cf_26 ht hp]
    obtain ⟨j, hj, e⟩ := h7 t p ht hp
    split
    · obtain ⟨i, hi, e2⟩ := mkB_j l n dk v p
      exact mnP_j hj hi e e2
    · exact ⟨j, hj, e⟩
  · unfold sPass; rw [upd_n _ _ (by omega), cf_74 (by omega)]; exact h8
  · unfold sPass; rw [upd_n _ _ (by omega), cf_0 (by omega)]; exact h9 t ht
theorem scI_sit {D m n p t : Nat} {v : Nat → Int32} (hp : p < n) (h6 : n ≤ 6) (ht : t < m) (h8 : m ≤ 8) (h : scI D m n v) : scI D m n (sSit n p t v) := by
  unfold sSit
  split
  · obtain ⟨h1, h2, ⟨d, h3, h4, h5⟩, h7, h8, h9⟩ := h
    refine ⟨fun q hq => ?_, fun q hq => ?_, ⟨d, h3, ?_, fun q hq => ?_⟩, fun t q ht hq => ?_, ?_, fun t ht => ?_⟩
    · rw [upd_n _ _ (by omega)]
      by_cases e : q = p
      · subst e; rw [upd_s]; exact Or.inr ⟨t, ht, rfl⟩
      · rw [upd_n _ _ (by omega)]; exact h1 q hq
    · rw [upd_n _ _ (by omega), upd_n _ _ (by omega)]; exact h2 q hq
    · rw [upd_n _ _ (by omega), upd_n _ _ (by omega)]; exact h4
    · by_cases e : q = p
      · subst e; rw [upd_s]; exact ⟨0, by omega, rfl⟩
      · rw [upd_n _ _ (by omega), upd_n _ _ (by omega)]; exact h5 q hq
    · rw [upd_n _ _ (by omega), upd_n _ _ (by omega)]; exact h7 t q ht hq
    · rw [upd_n _ _ (by omega), upd_n _ _ (by omega)]; exact h8
    · rw [upd_n _ _ (by omega), upd_n _ _ (by omega)]; exact h9 t ht
  · exact h
theorem scI_rise {D m n p : Nat} {v : Nat → Int32} (hp : p < n) (h6 : n ≤ 6) (h : scI D m n v) : scI D m n (sRise p v) := by
  unfold sRise
  split
  · exact h
  · obtain ⟨h1, h2, ⟨d, h3, h4, h5⟩, h7, h8, h9⟩ := h
    refine ⟨fun q hq => ?_, fun q hq => ?_, ⟨d, h3, ?_, fun q hq => ?_⟩, fun t q ht hq => ?_, ?_, fun t ht => ?_⟩
    · rw [upd_n _ _ (by omega)]
      by_cases e : q = p
      · subst e; rw [upd_s]; exact Or.inl rfl
      · rw [upd_n _ _ (by omega)]; exact h1 q hq
    · rw [upd_n _ _ (by omega), upd_n _ _ (by omega)]; exact h2 q hq
    · rw [upd_n _ _ (by omega), upd_n _ _ (by omega)]; exact h4
    · by_cases e : q = p
      · subst e; rw [upd_s]; exact ⟨0, by omega, rfl⟩
      · rw [upd_n _ _ (by omega), upd_n _ _ (by omega)]; exact h5 q hq
    · rw [upd_n _ _ (by omega), upd_n _ _ (by omega)]; exact h7 t q ht hq
    · rw [upd_n _ _ (by omega), upd_n _ _ (by omega)]; exact h8
    · rw [upd_n _ _ (by omega), upd_n _ _ (by omega)]; exact h9 t ht
theorem scI_feed {D m n p : Nat} {v : Nat → Int32} (hp : p < n) (h6 : n ≤ 6) (h : scI D m n v) : scI D m n (sFeed p v) := by
  unfold sFeed
  split
  · exact h
  · split
    · exact h
    · next hm =>
      obtain ⟨h1, h2, ⟨d, h3, h4, h5⟩, h7, ⟨j, hj, e8⟩, h9⟩ := h
      refine ⟨fun q hq => ?_, fun q hq => ?_, ⟨d, h3, ?_, fun q hq => ?_⟩, fun t q ht hq => ?_, ?_, fun t ht => ?_⟩
      · rw [upd_n _ _ (by omega), upd_n _ _ (by omega)]; exact h1 q hq
      · rw [upd_n _ _ (by omega)]
        by_cases e : q = p
        · subst e; rw [upd_s]; exact ⟨0, by omega, rfl⟩
        · rw [upd_n _ _ (by omega)]; exact h2 q hq
      · rw [upd_n _ _ (by omega), upd_n _ _ (by omega)]; exact h4
      · rw [upd_n _ _ (by omega), upd_n _ _ (by omega)]; exact h5 q hq
      · rw [upd_n _ _ (by omega), upd_n _ _ (by omega)]; exact h7 t q ht hq
      · rw [upd_s, e8]
        have : j ≠ 0 := fun e => hm (by rw [e8, e]; rfl)
        obtain ⟨i, rfl⟩ : ∃ i, j = i + 1 := ⟨j - 1, by omega⟩
        exact ⟨i, by omega, ii_s1 i⟩
      · rw [upd_n _ _ (by omega), upd_n _ _ (by omega)]; exact h9 t ht
theorem scI_curt {D m n t c : Nat} {v : Nat → Int32} (ht : t < 8) (hc : c ≤ 9) (h6 : n ≤ 6) (h : scI D m n v) : scI D m n (sCurt t (Int32.ofNat c) v) := by
  unfold sCurt
  split
  · exact h
  · obtain ⟨h1, h2, ⟨d, h3, h4, h5⟩, h7, h8, h9⟩ := h
    refine ⟨fun q hq => ?_, fun q hq => ?_, ⟨d, h3, ?_, fun q hq => ?_⟩, fun t q ht hq => ?_, ?_, fun t' ht' => ?_⟩
    · rw [upd_n _ _ (by omega)]; exact h1 q hq
    · rw [upd_n _ _ (by omega)]; exact h2 q hq
    · rw [upd_n _ _ (by omega)]; exact h4
    · rw [upd_n _ _ (by omega)]; exact h5 q hq
    · rw [upd_n _ _ (by omega)]; exact h7 t q ht hq
    · rw [upd_n _ _ (by omega)]; exact h8
    · by_cases e : t' = 0 + t
      · subst e; rw [upd_s]; exact ⟨c, hc, rfl⟩
      · rw [upd_n _ _ e]; exact h9 t' ht'
theorem scI_go {m n k a c : Nat} {v : Nat → Int32} (l : List Nat) (dk fs : Nat → Int32) (h6 : n ≤ 6) (h8 : m ≤ 8) (ha : if k = 3 then a < m ∧ c ≤ 9 else if k = 4 then True else a < n ∧ (k = 0 → c < m)) (h : scI 800 m n v) : scI 800 m n (sGo l n dk fs k a c v) := by
  unfold sGo
  by_cases k0 : k = 0
  · subst k0; exact scI_sit ha.1 h6 (ha.2 rfl) h8 h
  · rw [if_neg k0]
    by_cases k1 : k = 1
    · subst k1; exact scI_rise ha.1 h6 h
    · rw [if_neg k1]
      by_cases k2 : k = 2
      · subst k2; exact scI_feed ha.1 h6 h
      · rw [if_neg k2]
        by_cases k3 : k = 3
        · subst k3
          have ha : a < m ∧ c ≤ 9 := ha
          exact scI_curt (by omega) ha.2 h6 h
        · rw [if_neg k3]
          by_cases hd : v 75 = 800
          · rw [if_pos hd]; exact h
          · rw [if_neg hd]
            obtain ⟨h1, h2, ⟨d, h3, h4, h5⟩, h7⟩ := h
            have : d ≠ 800 := fun e => hd (by rw [h4, e]; rfl)
            have h' : scI 799 m n v := ⟨h1, h2, ⟨d, by omega, h4, h5⟩, h7⟩
            exact scI_pass l dk fs h6 h'
/-- only what those who sit here ask counts -/
theorem sPass_c {l : List Nat} {n : Nat} {dk dk' fs fs' v : Nat → Int32} (h6 : n ≤ 6) (h1 : ∀ p, p < n → dk p = dk' p) (h2 : ∀ p, p < n → fs p = fs' p) : sPass l n dk fs v = sPass l n dk' fs' v := by
  have hm : ∀ p, p < n → mkB l n dk v p = mkB l n dk' v p := fun p hp => by unfold mkB; rw [h1 p hp]
  unfold sPass
  congr 1
  refine cf_ext (fun i hi => by rw [cf_0 hi, cf_0 hi]) (fun p hp => ?_) (fun p hp => ?_) (fun p hp => by rw [cf_20 hp, cf_20 hp]) (fun t p ht hp => ?_) (fun i hi => by rw [cf_74 hi, cf_74 hi])
  · rw [cf_8 hp, cf_8 hp]
    by_cases hn : p < n
    · rw [h2 p hn]
    · rw [if_neg (fun h => hn h.1), if_neg (fun h => hn h.1)]
  · rw [cf_14 hp, cf_14 hp]
    by_cases hn : p < n
    · rw [h2 p hn]
    · rw [if_neg (fun h => hn h.1), if_neg (c := p < n ∧ ¬ v (8 + p) = -1 ∧ fs' p < _) (fun h => hn h.1)]
  · rw [cf_26 ht hp, cf_26 ht hp]
    by_cases hn : p < n
    · rw [hm p hn]
    · rw [if_neg (fun h => hn h.1), if_neg (fun h => hn h.1)]
/-- a line of the book -/
def bkR (bits am bo : Int32) (t : Nat) : Prop := (bo = -1 ∧ am = 0 ∧ ((bits >>> (Int32.ofNat t &&& 31)) &&& 1) = 0) ∨ (∃ j, j ≤ 9999 ∧ bo = Int32.ofNat j ∧ am = Int32.ofNat j ∧ ((bits >>> (Int32.ofNat t &&& 31)) &&& 1) = 1)
/-- studio, law, book -/
def RA (s τ : rT) (m n q : Nat) (l : List Nat) : Prop := Cn s m n ∧ rCn τ m n ∧ (s.1 46 = Int32.ofNat q ∧ τ.1 24 = Int32.ofNat q ∧ q ≤ 8) ∧ (∃ y, 1 ≤ y ∧ y ≤ 400 ∧ s.1 47 = Int32.ofNat y ∧ τ.1 25 = Int32.ofNat y) ∧ (∀ i, i < q → ∃ j, 1 ≤ j ∧ j ≤ 400 ∧ s.2 14 i = Int32.ofNat j ∧ τ.2 39 i = Int32.ofNat j) ∧ (∀ p, p < n → s.2 12 p = τ.2 37 p ∧ ∃ j, 1 ≤ j ∧ j ≤ 60 ∧ s.2 13 p = Int32.ofNat j ∧ τ.2 38 p = Int32.ofNat j) ∧ xLaw s l ∧ rLaw τ l ∧ s.1 62 = τ.1 48 ∧ (∀ t, t < 8 → bkR (s.1 61) (s.2 31 t) (τ.2 53 t) t)
/-- tape, fault, refused steps -/
def RB (s τ : rT) : Prop := (∃ k, k ≤ 600 ∧ s.1 21 = Int32.ofNat k ∧ τ.1 2 = Int32.ofNat k) ∧ (∀ i, i < 600 → s.2 2 i = τ.2 32 i ∧ ∃ j, j < 256 ∧ τ.2 32 i = Int32.ofNat j) ∧ s.1 22 = τ.1 8 ∧ s.1 11 = τ.1 38
/-- what was refused -/
def RD (s τ : rT) : Prop := s.1 12 = τ.2 31 0 ∧ s.1 13 = τ.2 31 1
/-- the works that can be undone: moments, each with its scene -/
def Ch (S : pS) (L : xA) : Option Nat → List (Nat → Int32) → Prop
  | z, [] => z = none
  | z, v :: l => ∃ (a c : Nat) (z' : Option Nat), z = some a ∧ S.2.2 a = some (cO 2 [.ref c, va_rf z', .int (Int32.ofNat l.length)]) ∧ (∀ i, i < 6 → S.2.2 (c + i) = scC c (aU L) v i) ∧ Ot L a ∧ (∀ i, i < 6 → Ot L (c + i)) ∧ (59 ≤ a ∧ a < S.1 ∧ 59 ≤ c ∧ c + 6 ≤ S.1) ∧ Ch S L z' l
def imR (S : pS) (L : xA) (τ : rT) (m n j : Nat) : Prop := ∃ v ws, Ch S L (aI L j) (v :: ws) ∧ (∀ u ∈ v :: ws, scI 800 m n u) ∧ ws.length ≤ 16 ∧ (∀ i, i < 76 → τ.2 57 (1293 * j + i) = v i) ∧ (∀ k, k < ws.length → ∀ i, i < 76 → τ.2 57 (1293 * j + 76 + (76 * k + i)) = (ws.getD (ws.length - 1 - k) (fun _ => 0)) i) ∧ τ.2 57 (1293 * j + 1292) = Int32.ofNat ws.length
def RC (S : pS) (L : xA) (s τ : rT) (m n : Nat) : Prop := (∃ ws, s.1 9 = Int32.ofNat ws.length ∧ τ.1 37 = Int32.ofNat ws.length ∧ ws.length ≤ 16 ∧ Ch S L (aZ L) ws ∧ (∀ u ∈ ws, scI 800 m n u) ∧ (∀ k, k < ws.length → ∀ i, i < 76 → τ.2 50 (76 * k + i) = (ws.getD (ws.length - 1 - k) (fun _ => 0)) i)) ∧ ∃ g, g ≤ 3 ∧ s.1 10 = Int32.ofNat g ∧ τ.1 54 = Int32.ofNat g ∧ ∀ j, j < g → imR S L τ m n j
def AB (S : pS) (L : xA) : Prop := 59 ≤ S.1 ∧ aP L + 6 ≤ S.1 ∧ aQ L + 6 ≤ S.1 ∧ aW L + 4 ≤ S.1 ∧ aU L + 5 ≤ S.1 ∧ aK L + 2 ≤ S.1
/-- all of it, but for what was refused -/
def Iv (S : pS) (L : xA) (s τ : rT) (m n q : Nat) (l : List Nat) : Prop := Dj L ∧ AB S L ∧ S = xS S L s ∧ S = mS S τ ∧ (∃ f, S.2.2 58 = some (cL 1 f)) ∧ RA s τ m n q l ∧ RB s τ ∧ (s.2 0 = τ.2 48 ∧ scI 800 m n (s.2 0)) ∧ RC S L s τ m n
def Inv (S : pS) : Prop := ∃ L s τ m n q l, Iv S L s τ m n q l ∧ RD s τ
theorem Ch_mono {S S' : pS} {L L' : xA} (hU : aU L' = aU L) (hO : ∀ j, j < S.1 → Ot L j → Ot L' j) (h1 : S.1 ≤ S'.1) (hc : ∀ j, 59 ≤ j → j < S.1 → Ot L j → S'.2.2 j = S.2.2 j) : ∀ (l : List (Nat → Int32)) (z : Option Nat), Ch S L z l → Ch S' L' z l := by
  intro l
  induction l with
  | nil => intro z h; exact h
  | cons v l ih =>
    intro z h
    obtain ⟨a, c, z', e1, e2, e3, o1, o2, ⟨g1, g2, g3, g4⟩, h⟩ := h
    refine ⟨a, c, z', e1, (hc a g1 g2 o1).trans e2, fun i hi => ?_, hO a g2 o1, fun i hi => hO _ (by omega) (o2 i hi), ⟨g1, by omega, g3, by omega⟩, ih z' h⟩
    rw [hc _ (by omega) (by omega) (o2 i hi), hU]
    exact e3 i hi
/-- what counts is as it was: the program's, the reference's -/
def Ex (s s' : rT) : Prop := Kf [12, 13, 23, 24, 25, 26, 32, 33] [1, 4, 5, 22, 23] s s'
def Er (τ τ' : rT) : Prop := Kf [0, 3, 4, 5, 6, 7, 17, 18, 19, 20, 21, 31, 36, 39, 40, 41, 52] [31, 33, 34, 35, 36, 40, 41, 44, 45, 46, 47, 49, 51, 52, 54, 55, 56] τ τ'
theorem RA_q {s s' τ τ' : rT} {m n q : Nat} {l : List Nat} (hs : Ex s s') (ht : Er τ τ') (h : RA s τ m n q l) : RA s' τ' m n q l := by
  obtain ⟨h1, h2, h3, h4, h5, h6, h7, h8, h9, h10⟩ := h
  refine ⟨hs.xcn h1, ht.cn h2, ?_, ?_, ?_, ?_, hs.xlaw h7, ht.law h8, ?_, ?_⟩
  · rw [hs.1 46 (by decide), ht.1 24 (by decide)]; exact h3
  · rw [hs.1 47 (by decide), ht.1 25 (by decide)]; exact h4
  · rw [hs.2 14 (by decide), ht.2 39 (by decide)]; exact h5
  · rw [hs.2 12 (by decide), hs.2 13 (by decide), ht.2 37 (by decide), ht.2 38 (by decide)]; exact h6
  · rw [hs.1 62 (by decide), ht.1 48 (by decide)]; exact h9
  · rw [hs.1 61 (by decide), hs.2 31 (by decide), ht.2 53 (by decide)]; exact h10
theorem RB_q {s s' τ τ' : rT} (hs : Ex s s') (ht : Er τ τ') (h : RB s τ) : RB s' τ' := by
  obtain ⟨h1, h2, h3, h4⟩ := h
  refine ⟨?_, ?_, ?_, ?_⟩
  · rw [hs.1 21 (by decide), ht.1 2 (by decide)]; exact h1
  · rw [hs.2 2 (by decide), ht.2 32 (by decide)]; exact h2
  · rw [hs.1 22 (by decide), ht.1 8 (by decide)]; exact h3
  · rw [hs.1 11 (by decide), ht.1 38 (by decide)]; exact h4
theorem RC_q {S S' : pS} {L : xA} {s s' τ τ' : rT} {m n : Nat} (hs : Ex s s') (ht : Er τ τ') (h1 : S.1 ≤ S'.1) (hc : ∀ j, 59 ≤ j → j < S.1 → Ot L j → S'.2.2 j = S.2.2 j) (h : RC S L s τ m n) : RC S' L s' τ' m n := by
  obtain ⟨⟨ws, a1, a2, a3, a4, a5, a6⟩, g, b1, b2, b3, b4⟩ := h
  refine ⟨⟨ws, ?_, ?_, a3, Ch_mono rfl (fun _ _ h => h) h1 hc _ _ a4, a5, ?_⟩, g, b1, ?_, ?_, fun j hj => ?_⟩
  · rw [hs.1 9 (by decide)]; exact a1
  · rw [ht.1 37 (by decide)]; exact a2
  · rw [ht.2 50 (by decide)]; exact a6
  · rw [hs.1 10 (by decide)]; exact b2
  · rw [ht.1 54 (by decide)]; exact b3
  · obtain ⟨v, ws, c1, c2, c3, c4, c5, c6⟩ := b4 j hj
    refine ⟨v, ws, Ch_mono rfl (fun _ _ h => h) h1 hc _ _ c1, c2, c3, ?_, ?_, ?_⟩
    · rw [ht.2 57 (by decide)]; exact c4
    · rw [ht.2 57 (by decide)]; exact c5
    · rw [ht.2 57 (by decide)]; exact c6
theorem Iv_q {S S' : pS} {L : xA} {s s' τ τ' : rT} {m n q : Nat} {l : List Nat} (I : Iv S L s τ m n q l) (hs : Ex s s') (ht : Er τ τ') (hx : S' = xS S' L s') (hr : S' = mS S' τ') (ho : ∃ f, S'.2.2 58 = some (cL 1 f)) (h1 : S.1 ≤ S'.1) (hc : ∀ j, 59 ≤ j → j < S.1 → Ot L j → S'.2.2 j = S.2.2 j) : Iv S' L s' τ' m n q l := by
  obtain ⟨D, ⟨g0, g1, g2, g3, g4, g5⟩, -, -, -, i1, i2, ⟨i3, i4⟩, i5⟩ := I
  refine ⟨D, ⟨by omega, by omega, by omega, by omega, by omega, by omega⟩, hx, hr, ho, RA_q hs ht i1, RB_q hs ht i2, ⟨?_, ?_⟩, RC_q hs ht h1 hc i5⟩
  · rw [hs.2 0 (by decide), ht.2 48 (by decide)]; exact i3
  · rw [hs.2 0 (by decide)]; exact i4
theorem xS_xS (b : pS) (L : xA) (s s' : rT) : xS (xS b L s) L s' = xS b L s' := by
  unfold xS yS
  refine congrArg (fun z => (b.1, b.2.1, z)) (funext fun j => ?_)
  dsimp only
  by_cases h0 : aP L ≤ j ∧ j < aP L + 6
  · simp only [h0, and_self, if_true]
  by_cases h1 : aQ L ≤ j ∧ j < aQ L + 6
  · simp only [h0, h1, and_self, if_true, if_false]
  by_cases h2 : aW L ≤ j ∧ j < aW L + 4
  · simp only [h0, h1, h2, and_self, if_true, if_false]
  by_cases h3 : aU L ≤ j ∧ j < aU L + 5
  · simp only [h0, h1, h2, h3, and_self, if_true, if_false]
  by_cases h4 : aK L ≤ j ∧ j < aK L + 2
  · simp only [h0, h1, h2, h3, h4, and_self, if_true, if_false]
  by_cases h5 : j < 7
  · simp only [h0, h1, h2, h3, h4, h5, and_self, if_true, if_false]
  simp only [h0, h1, h2, h3, h4, h5, if_false]
/-- a state that has the program's objects: only the places that count -/
theorem xS_in {S S' : pS} {L : xA} {s : rT} (h : S = xS S L s) (hc : ∀ j, ¬ Ot L j → S'.2.2 j = S.2.2 j) : S' = xS S' L s := by
  refine congrArg (fun z => (S'.1, S'.2.1, z)) (funext fun j => ?_)
  by_cases o : Ot L j
  · exact (xS_o (b := S') (s := s) o).symm
  · have e : (xS S' L s).2.2 j = (xS S L s).2.2 j := by
      show (if _ then _ else _) = (if _ then _ else _)
      by_cases h0 : aP L ≤ j ∧ j < aP L + 6
      · rw [if_pos h0, if_pos h0]
      rw [if_neg h0, if_neg h0]
      by_cases h1 : aQ L ≤ j ∧ j < aQ L + 6
      · rw [if_pos h1, if_pos h1]
      rw [if_neg h1, if_neg h1]
      by_cases h2 : aW L ≤ j ∧ j < aW L + 4
      · rw [if_pos h2, if_pos h2]
      rw [if_neg h2, if_neg h2]
      by_cases h3 : aU L ≤ j ∧ j < aU L + 5
      · rw [if_pos h3, if_pos h3]
      rw [if_neg h3, if_neg h3]
      by_cases h4 : aK L ≤ j ∧ j < aK L + 2
      · rw [if_pos h4, if_pos h4]
      rw [if_neg h4, if_neg h4]
      by_cases h5 : j < 7
      · rw [if_pos h5, if_pos h5]
      exact absurd ⟨by omega, h0, h1, h2, h3, h4⟩ o
    refine Eq.trans ?_ e.symm; rw [← h]; exact hc j o
theorem mS_in {S S' : pS} {τ : rT} (h : S = mS S τ) (hc : ∀ j, 30 ≤ j → j < 58 → S'.2.2 j = S.2.2 j) : S' = mS S' τ := by
  refine congrArg (fun z => (S'.1, S'.2.1, z)) (funext fun j => ?_)
  by_cases o : j < 30 ∨ 58 ≤ j
  · exact (mS_out (b := S') (τ := τ) o).symm
  · have e : (mS S' τ).2.2 j = (mS S τ).2.2 j := by
      show (if _ then _ else _) = (if _ then _ else _)
      by_cases h0 : j = 30
      · rw [if_pos h0, if_pos h0]
      · rw [if_neg h0, if_neg h0, if_pos (by omega), if_pos (by omega)]
    refine Eq.trans ?_ e.symm; rw [← h]; exact hc j (by omega) (by omega)
