/-! THE TAPE is fed -/
def bt (x : Int32) (r : Nat) : Int32 := (x >>> (Int32.ofNat (24 - 8 * r) &&& 31)) &&& 255
theorem and_255 (y : Int32) : ∃ j, j < 256 ∧ y &&& 255 = Int32.ofNat j := by
  refine ⟨(y &&& 255).toBitVec.toNat, ?_, ?_⟩
  · rw [Int32.toBitVec_and, BitVec.toNat_and]
    exact Nat.lt_of_le_of_lt Nat.and_le_right (by decide)
  · apply Int32.toBitVec_inj.mp
    show _ = BitVec.ofNat 32 _
    rw [BitVec.ofNat_toNat, BitVec.setWidth_eq]
/-- bytes into a row, behind those that are there -/
def fd1 (f a k : Nat) (x : Int32) (τ : rT) : rT := wF (wA τ a k x) f (Int32.ofNat (k + 1))
def fd (f a : Nat) : List Int32 → Nat → rT → rT
  | [], _, τ => τ
  | x :: xs, k, τ => fd f a xs (k + 1) (fd1 f a k x τ)
theorem fd_k (f a : Nat) : ∀ (xs : List Int32) (k : Nat) (τ0 τ : rT), Kf [f] [a] τ0 τ → Kf [f] [a] τ0 (fd f a xs k τ) := by
  intro xs
  induction xs with
  | nil => intro k τ0 τ h; exact h
  | cons x xs ih => intro k τ0 τ h; exact ih (k + 1) τ0 _ ((h.wA (by simp) _ _).wF (by simp) _)
def RT (s τ : rT) (k : Nat) : Prop := (s.1 21 = Int32.ofNat k ∧ τ.1 2 = Int32.ofNat k) ∧ (∀ i, i < 600 → s.2 2 i = τ.2 32 i ∧ ∃ j, j < 256 ∧ τ.2 32 i = Int32.ofNat j)
theorem RT_fd : ∀ (xs : List Int32) (k : Nat) (s τ : rT), (∀ x ∈ xs, ∃ j, j < 256 ∧ x = Int32.ofNat j) → RT s τ k → RT (fd 21 2 xs k s) (fd 2 32 xs k τ) (k + xs.length) := by
  intro xs
  induction xs with
  | nil => intro k s τ _ h; exact h
  | cons x xs ih =>
    intro k s τ hx h
    have e : k + (x :: xs).length = k + 1 + xs.length := by simp; omega
    rw [e]
    refine ih (k + 1) _ _ (fun y hy => hx y (by simp [hy])) ⟨⟨rfl, rfl⟩, fun i hi => ?_⟩
    obtain ⟨h1, j, h2, h3⟩ := h.2 i hi
    have e1 : (fd1 21 2 k x s).2 2 i = if i = k then x else s.2 2 i := rfl
    have e2 : (fd1 2 32 k x τ).2 32 i = if i = k then x else τ.2 32 i := rfl
    rw [e1, e2]
    by_cases g : i = k
    · rw [if_pos g, if_pos g]; exact ⟨rfl, hx x (by simp)⟩
    · rw [if_neg g, if_neg g]; exact ⟨h1, j, h2, h3⟩
theorem T_put1 (d : Nat) {b : pS} {L : xA} {s : rT} (D : Dj L) {k : Nat} (hk : k < 600) (h : s.1 21 = Int32.ofNat k) (x : Int32) {r : Nat} (hr : r < 4) : den d m_Tp_put 3 [.ref 1, .int x, .int (Int32.ofNat (24 - 8 * r))] [] (xS b L s) = den d m_Tp_put 3 [.ref 1, .int x, .int (Int32.ofNat (24 - 8 * r) + (-8))] [] (xS b L (fd1 21 2 k (bt x r) s)) := by
  rw [B_Tp_put_3, if_neg (by rw [ii_nn (by omega)]; exact id)]
  simp (disch := omega) only [x1_gF D, xf_gN D, xf_pI D, x1_pF D, h, ii_m1, ii_s1, obs, wF_1, wF_2, wA_1, wA_2, wR_1, wR_2, Nat.reduceEqDiff, Nat.reduceAdd, Nat.reduceMul, if_true, if_false, ite_true, ite_false, ii_la, ii_al, ii_lm, ii_ml, ii_add, ii_mul, ii_1, ii_le, ii_lt, ii_c1, ii_c2, ii_c3, ii_c4, ii_c5, ii_n1, ii_nn, kC0_v, kC1_v, kC2_v, kC3_v, kC0_x, kC1_x, kC2_x, not_true_eq_false, not_false_eq_true, ne_eq]
  have g : ¬ ((600 : Int32) ≤ Int32.ofNat k) := by
    show ¬ (Int32.ofNat 600 ≤ Int32.ofNat k); rw [ii_le (by omega) (by omega)]; omega
  rw [if_neg (by first | exact g | omega)]
  rfl
theorem c_T_put (d : Nat) {b : pS} {L : xA} {s : rT} (D : Dj L) {k : Nat} (hk : k + 4 ≤ 600) (h : s.1 21 = Int32.ofNat k) (x : Int32) : vcall (d + 1) m_Tp_put [.ref 1, .int x] (xS b L s) = some (.inl none, xS b L (fd 21 2 [bt x 0, bt x 1, bt x 2, bt x 3] k s)) := by
  refine (vT D rfl).trans ((B_Tp_put_0 _ _ _ _).trans ?_)
  have e0 := T_put1 d (b := b) D (by omega) h x (r := 0) (by decide)
  have e1 := T_put1 d (b := b) (s := fd1 21 2 k (bt x 0) s) D (k := k + 1) (by omega) rfl x (r := 1) (by decide)
  have e2 := T_put1 d (b := b) (s := fd1 21 2 (k + 1) (bt x 1) (fd1 21 2 k (bt x 0) s)) D (k := k + 2) (by omega) rfl x (r := 2) (by decide)
  have e3 := T_put1 d (b := b) (s := fd1 21 2 (k + 2) (bt x 2) (fd1 21 2 (k + 1) (bt x 1) (fd1 21 2 k (bt x 0) s))) D (k := k + 3) (by omega) rfl x (r := 3) (by decide)
  refine e0.trans ((Eq.trans ?_ e1).trans ((Eq.trans ?_ e2).trans ((Eq.trans ?_ e3).trans ?_)))
  · rw [show Int32.ofNat (24 - 8 * 0) + (-8) = Int32.ofNat (24 - 8 * 1) by decide]
  · rw [show Int32.ofNat (24 - 8 * 1) + (-8) = Int32.ofNat (24 - 8 * 2) by decide]
  · rw [show Int32.ofNat (24 - 8 * 2) + (-8) = Int32.ofNat (24 - 8 * 3) by decide]
  · rw [B_Tp_put_3, if_pos (by decide)]
    rfl
def btL (x : Int32) : List Int32 := [bt x 0, bt x 1, bt x 2, bt x 3]
theorem fd_app (f a : Nat) : ∀ (xs ys : List Int32) (k : Nat) (τ : rT), fd f a (xs ++ ys) k τ = fd f a ys (k + xs.length) (fd f a xs k τ) := by
  intro xs
  induction xs with
  | nil => intro ys k τ; rfl
  | cons x xs ih =>
    intro ys k τ
    show fd f a (xs ++ ys) (k + 1) _ = _
    rw [ih]
    show _ = fd f a ys (k + (xs.length + 1)) _
    rw [show k + (xs.length + 1) = k + 1 + xs.length by omega]
    rfl
theorem fd_f {f a : Nat} : ∀ (xs : List Int32) (k : Nat) (τ : rT), τ.1 f = Int32.ofNat k → (fd f a xs k τ).1 f = Int32.ofNat (k + xs.length) := by
  intro xs
  induction xs with
  | nil => intro k τ h; exact h
  | cons x xs ih =>
    intro k τ h
    have e : k + (x :: xs).length = k + 1 + xs.length := by simp; omega
    rw [e]
    exact ih (k + 1) _ (if_pos rfl)
theorem c_Y_feed (d : Nat) {b : pS} {L : xA} {s : rT} (D : Dj L) {k : Nat} (hk : k + 20 ≤ 600) (h : s.1 21 = Int32.ofNat k) (a1 a2 a3 a4 a5 : Int32) : vcall (d + 2) m_Y_feed [.ref 0, .int a1, .int a2, .int a3, .int a4, .int a5] (xS b L s) = some (.inl (some (.int (Int32.ofNat (k + 20)))), xS b L (fd 21 2 (btL a1 ++ btL a2 ++ btL a3 ++ btL a4 ++ btL a5) k s)) := by
  refine (vY D rfl).trans ((B_Y_feed_0 _ _ _ _ _ _ _ _).trans ?_)
  have hr : vcall (d + 1) m_Tp_hasRoom [.ref 1] (xS b L s) = some (.inl (some (.int 1)), xS b L s) := by
    refine (vT D rfl).trans ((B_Tp_hasRoom_0 _ _ _).trans ?_)
    rw [(x1_gF D).2.1, obs, (x1_gF D).1, obs, (xf_gN D).1, obs, h]
    rw [if_neg (by show ¬ (Int32.ofNat 600 < Int32.ofNat k + Int32.ofNat 20); rw [ii_add, ii_lt (by omega) (by omega)]; omega)]
  have p : ∀ (s : rT) (j : Nat) (x : Int32), j + 4 ≤ 600 → s.1 21 = Int32.ofNat j → vcall (d + 1) m_Tp_put [.ref 1, .int x] (xS b L s) = some (.inl none, xS b L (fd 21 2 (btL x) j s)) := fun s j x hj hs => c_T_put d D hj hs x
  have l4 : ∀ x, (btL x).length = 4 := fun _ => rfl
  have f1 := fd_f (f := 21) (a := 2) (btL a1) k s h
  have f2 := fd_f (f := 21) (a := 2) (btL a2) (k + 4) _ f1
  have f3 := fd_f (f := 21) (a := 2) (btL a3) (k + 8) _ f2
  have f4 := fd_f (f := 21) (a := 2) (btL a4) (k + 12) _ f3
  have f5 := fd_f (f := 21) (a := 2) (btL a5) (k + 16) _ f4
  have g0 : ∀ s, gFr (xS b L s) 0 10 0 = some 1 := fun s => (x0_gF D).1
  rw [g0, obs, hr, kC1_v, if_pos (by decide), g0, obs, p s k a1 (by omega) h, kC0_v, g0, obs, p _ (k + 4) a2 (by omega) f1, kC0_v, g0, obs, p _ (k + 8) a3 (by omega) f2, kC0_v, g0, obs, p _ (k + 12) a4 (by omega) f3, kC0_v, g0, obs, p _ (k + 16) a5 (by omega) f4, kC0_v, g0, obs, (x1_gF D).2.1, obs, f5]
  rw [fd_app, fd_app, fd_app, fd_app]
  rfl
theorem c_Y_feed0 (d : Nat) {b : pS} {L : xA} {s : rT} (D : Dj L) {k : Nat} (hk : ¬ k + 20 ≤ 600) (h6 : k ≤ 600) (h : s.1 21 = Int32.ofNat k) (a1 a2 a3 a4 a5 : Int32) : vcall (d + 2) m_Y_feed [.ref 0, .int a1, .int a2, .int a3, .int a4, .int a5] (xS b L s) = some (.inl (some (.int (-1))), xS b L s) := by
  refine (vY D rfl).trans ((B_Y_feed_0 _ _ _ _ _ _ _ _).trans ?_)
  have hr : vcall (d + 1) m_Tp_hasRoom [.ref 1] (xS b L s) = some (.inl (some (.int 0)), xS b L s) := by
    refine (vT D rfl).trans ((B_Tp_hasRoom_0 _ _ _).trans ?_)
    rw [(x1_gF D).2.1, obs, (x1_gF D).1, obs, (xf_gN D).1, obs, h]
    rw [if_pos (by show (Int32.ofNat 600 < Int32.ofNat k + Int32.ofNat 20); rw [ii_add, ii_lt (by omega) (by omega)]; omega)]
  rw [(x0_gF D).1, obs, hr, kC1_v, if_neg (by decide)]
def fsel (a1 a2 a3 a4 a5 : Int32) (i : Nat) : Int32 := if i < 4 then a1 else if i < 8 then a2 else if i < 12 then a3 else if i < 16 then a4 else a5
theorem R_fd1 (d : Nat) (b : pS) (τ : rT) {k i : Nat} (hi : i < 20) (hk : k < 600) (h : τ.1 2 = Int32.ofNat k) (a1 a2 a3 a4 a5 : Int32) (l7 : Value) : den d m_R_feed 23 [.ref 30, .int a1, .int a2, .int a3, .int a4, .int a5, .int (Int32.ofNat i), l7] [] (mS b τ) = den d m_R_feed 23 [.ref 30, .int a1, .int a2, .int a3, .int a4, .int a5, .int (Int32.ofNat (i + 1)), .int (fsel a1 a2 a3 a4 a5 i)] [] (mS b (fd1 2 32 k (bt (fsel a1 a2 a3 a4 a5 i) (i % 4)) τ)) := by
  have st : ∀ t0, den d m_R_feed 76 [.ref 30, .int a1, .int a2, .int a3, .int a4, .int a5, .int (Int32.ofNat i), l7] [.int t0] (mS b τ) = den d m_R_feed 23 [.ref 30, .int a1, .int a2, .int a3, .int a4, .int a5, .int (Int32.ofNat (i + 1)), .int t0] [] (mS b (fd1 2 32 k (bt t0 (i % 4)) τ)) := fun t0 => by
    rw [B_R_feed_76]
    have e : ((24 : Int32) - (8 * (Int32.ofNat i - Int32.ofNat i / 4 * 4))) = Int32.ofNat (24 - 8 * (i % 4)) := by
      have e1 : Int32.ofNat i - Int32.ofNat i / 4 * 4 = Int32.ofNat (i % 4) := ii_mod (c := 4) (by omega) (by omega)
      rw [e1]
      have : i % 4 = 0 ∨ i % 4 = 1 ∨ i % 4 = 2 ∨ i % 4 = 3 := by omega
      rcases this with e | e | e | e <;> rw [e] <;> decide
    rw [e]
    simp (disch := omega) only [m_gF, m_gI, m_pI, m_gIl, m_pIl, ii_m1, ii_s1, m_pF, obs, wF_1, wF_2, wA_1, wA_2, wR_1, wR_2, Nat.reduceEqDiff, Nat.reduceAdd, Nat.reduceMul, if_true, if_false, ite_true, ite_false, ii_la, ii_al, ii_lm, ii_ml, ii_add, ii_mul, ii_1, ii_le, ii_lt, ii_c1, ii_c2, ii_c3, ii_c4, ii_c5, ii_n1, ii_nn, kC0_v, kC1_v, kC2_v, kC3_v, kC0_x, kC1_x, kC2_x, not_true_eq_false, not_false_eq_true, ne_eq, h]
    rfl
  have le : ∀ c, c < 100 → (Int32.ofNat c ≤ Int32.ofNat i) = (c ≤ i) := fun c hc => ii_le (by omega) (by omega)
  have e4 : ((4 : Int32) ≤ Int32.ofNat i) = (4 ≤ i) := le 4 (by decide)
  have e8 : ((8 : Int32) ≤ Int32.ofNat i) = (8 ≤ i) := le 8 (by decide)
  have e12 : ((12 : Int32) ≤ Int32.ofNat i) = (12 ≤ i) := le 12 (by decide)
  have e16 : ((16 : Int32) ≤ Int32.ofNat i) = (16 ≤ i) := le 16 (by decide)
  have e20 : ((20 : Int32) ≤ Int32.ofNat i) = (20 ≤ i) := le 20 (by decide)
  rw [B_R_feed_23]
  simp only [e4, e8, e12, e16, e20, st]
  unfold fsel
  rw [if_neg (by omega)]
  by_cases h4 : 4 ≤ i
  · rw [if_pos h4]
    by_cases h8 : 8 ≤ i
    · rw [if_pos h8]
      by_cases h12 : 12 ≤ i
      · rw [if_pos h12]
        by_cases h16 : 16 ≤ i
        · rw [if_pos h16, if_neg (by omega), if_neg (by omega), if_neg (by omega), if_neg (by omega)]
        · rw [if_neg h16, if_neg (by omega), if_neg (by omega), if_neg (by omega), if_pos (by omega)]
      · rw [if_neg h12, if_neg (by omega), if_neg (by omega), if_pos (by omega)]
    · rw [if_neg h8, if_neg (by omega), if_pos (by omega)]
  · rw [if_neg h4, if_pos (by omega)]
def fdL (a1 a2 a3 a4 a5 : Int32) : Nat → Nat → List Int32
  | _, 0 => []
  | i, j + 1 => bt (fsel a1 a2 a3 a4 a5 i) (i % 4) :: fdL a1 a2 a3 a4 a5 (i + 1) j
theorem R_fdL (d : Nat) (b : pS) (a1 a2 a3 a4 a5 : Int32) : ∀ (j i k : Nat) (τ : rT) (l7 : Value), i + j = 20 → k + j ≤ 600 → τ.1 2 = Int32.ofNat k → den d m_R_feed 23 [.ref 30, .int a1, .int a2, .int a3, .int a4, .int a5, .int (Int32.ofNat i), l7] [] (mS b τ) = some (.inl (some (.int (Int32.ofNat (k + j)))), mS b (fd 2 32 (fdL a1 a2 a3 a4 a5 i j) k τ)) := by
  intro j
  induction j with
  | zero =>
    intro i k τ l7 hi hk h
    have : i = 20 := by omega
    subst this
    rw [B_R_feed_23, if_pos (by decide), (m_gF b τ).2.1, obs, h]
    rfl
  | succ j ih =>
    intro i k τ l7 hi hk h
    rw [R_fd1 d b τ (by omega) (by omega) h, ih (i + 1) (k + 1) _ _ (by omega) (by omega) rfl, show k + 1 + j = k + (j + 1) by omega]
    rfl
theorem R_feed (d : Nat) (b : pS) (τ : rT) {k : Nat} (hk : k + 20 ≤ 600) (h : τ.1 2 = Int32.ofNat k) (a1 a2 a3 a4 a5 : Int32) : vcall (d + 1) m_R_feed [.ref 30, .int a1, .int a2, .int a3, .int a4, .int a5] (mS b τ) = some (.inl (some (.int (Int32.ofNat (k + 20)))), mS b (fd 2 32 (btL a1 ++ btL a2 ++ btL a3 ++ btL a4 ++ btL a5) k (wF τ 0 0))) := by
  refine (vR rfl).trans ((B_R_feed_0 _ _ _ _ _ _ _ _).trans ?_)
  have g2 : ∀ τ : rT, gFi (mS b τ) 30 11 2 = some (τ.1 2) := fun τ => (m_gF b τ).2.1
  have h' : (wF τ 0 0).1 2 = Int32.ofNat k := h
  rw [(m_pF b τ).1, obs, g2, obs, h', if_pos (by show Int32.ofNat k + Int32.ofNat 20 ≤ Int32.ofNat 600; rw [ii_add, ii_le (by omega) (by omega)]; omega)]
  exact R_fdL d b a1 a2 a3 a4 a5 20 0 k (wF τ 0 0) _ (by omega) hk h'
theorem R_feed0 (d : Nat) (b : pS) (τ : rT) {k : Nat} (hk : ¬ k + 20 ≤ 600) (h6 : k ≤ 600) (h : τ.1 2 = Int32.ofNat k) (a1 a2 a3 a4 a5 : Int32) : vcall (d + 1) m_R_feed [.ref 30, .int a1, .int a2, .int a3, .int a4, .int a5] (mS b τ) = some (.inl (some (.int (-1))), mS b (wF τ 0 0)) := by
  refine (vR rfl).trans ((B_R_feed_0 _ _ _ _ _ _ _ _).trans ?_)
  have g2 : ∀ τ : rT, gFi (mS b τ) 30 11 2 = some (τ.1 2) := fun τ => (m_gF b τ).2.1
  have h' : (wF τ 0 0).1 2 = Int32.ofNat k := h
  rw [(m_pF b τ).1, obs, g2, obs, h', if_neg (by show ¬ (Int32.ofNat k + Int32.ofNat 20 ≤ Int32.ofNat 600); rw [ii_add, ii_le (by omega) (by omega)]; omega)]
theorem Er_a {τ τ' : rT} {F A : List Nat} (h : Kf F A τ τ') (e : 31 ∉ A := by decide) : τ'.2 31 = τ.2 31 := h.2 31 e
theorem P_feed {S : pS} {L : xA} {s τ : rT} {m n q : Nat} {l : List Nat} (I : Iv S L s τ m n q l) (hd : RD s τ) (a1 a2 a3 a4 a5 : Int32) : Pd m_Y_feed m_R_feed [.int a1, .int a2, .int a3, .int a4, .int a5] S := by
  have I' := I; obtain ⟨D, A, hx, hr, ho, ⟨C, Cr, ⟨q1, q2, q3⟩, hy, hdy, hdk, xl, rl, hb1, hb2⟩, ⟨⟨tk, k1, k2, k3⟩, tb, tf, tr⟩, ⟨e48, hsc⟩, rc⟩ := I'; have C' := C; have Cr' := Cr; obtain ⟨hm, h8, hn, h6⟩ := C'; obtain ⟨hm', -, hn', -⟩ := Cr'
  by_cases hk : tk + 20 ≤ 600
  · have hX : vcall 200 m_Y_feed [.ref 0, .int a1, .int a2, .int a3, .int a4, .int a5] (xS S L s) = _ := c_Y_feed 198 (b := S) D hk k2 a1 a2 a3 a4 a5
    rw [← hx] at hX
    have hB : ∀ x ∈ btL a1 ++ btL a2 ++ btL a3 ++ btL a4 ++ btL a5, ∃ j, j < 256 ∧ x = Int32.ofNat j := by
      intro x hx
      simp only [btL, List.cons_append, List.nil_append, List.mem_cons, List.not_mem_nil, or_false] at hx
      rcases hx with rfl | rfl | rfl | rfl | rfl | rfl | rfl | rfl | rfl | rfl | rfl | rfl | rfl | rfl | rfl | rfl | rfl | rfl | rfl | rfl <;> exact and_255 _
    have rt := RT_fd (btL a1 ++ btL a2 ++ btL a3 ++ btL a4 ++ btL a5) tk s (wF τ 0 0) hB ⟨⟨k2, k3⟩, tb⟩
    have hs := fd_k 21 2 (btL a1 ++ btL a2 ++ btL a3 ++ btL a4 ++ btL a5) tk s s (Kf.rf _ _ s)
    have ht0 := fd_k 2 32 (btL a1 ++ btL a2 ++ btL a3 ++ btL a4 ++ btL a5) tk (wF τ 0 0) (wF τ 0 0) (Kf.rf _ _ _)
    have ht : Kf [0, 2] [32] τ (fd 2 32 (btL a1 ++ btL a2 ++ btL a3 ++ btL a4 ++ btL a5) tk (wF τ 0 0)) := ((Kf.rf _ _ τ).wF (by decide) _).tr (ht0.up (by decide) (by decide))
    have G := Go.q (S := S) (L := L) (s := s) A (fd 21 2 (btL a1 ++ btL a2 ++ btL a3 ++ btL a4 ++ btL a5) tk s)
    have hd' : RD (fd 21 2 (btL a1 ++ btL a2 ++ btL a3 ++ btL a4 ++ btL a5) tk s) (fd 2 32 (btL a1 ++ btL a2 ++ btL a3 ++ btL a4 ++ btL a5) tk (wF τ 0 0)) := ⟨by rw [hs.1 12 (by decide), ht.2 31 (by decide)]; exact hd.1, by rw [hs.1 13 (by decide), ht.2 31 (by decide)]; exact hd.2⟩
    refine Pd_n (z := aZ L) (im := aI L) I hX G (hs.up (by decide) (by decide)) (ht.up (by decide) (by decide)) hd' ⟨⟨tk + 20, hk, rt.1.1, rt.1.2⟩, rt.2, ?_, ?_⟩ ⟨?_, ?_⟩ ?_ (fun b => R_feed 199 b τ hk k3 a1 a2 a3 a4 a5)
    · rw [hs.1 22 (by decide), ht.1 8 (by decide)]; exact tf
    · rw [hs.1 11 (by decide), ht.1 38 (by decide)]; exact tr
    · rw [hs.2 0 (by decide), ht.2 48 (by decide)]; exact e48
    · rw [hs.2 0 (by decide)]; exact hsc
    · obtain ⟨⟨ws, w1, w2, w3, w4, w5, w6⟩, g, im1, im2, im3, im4⟩ := rc
      have cm : ∀ l z, Ch S L z l → Ch (xS S L (fd 21 2 (btL a1 ++ btL a2 ++ btL a3 ++ btL a4 ++ btL a5) tk s)) (sL L (aZ L) (aI L)) z l := Ch_mono rfl (fun _ _ h => h) (Nat.le_refl _) (fun j _ _ o => xS_o o)
      refine ⟨⟨ws, ?_, ?_, w3, cm _ _ w4, w5, ?_⟩, g, im1, ?_, ?_, fun j hj => ?_⟩
      · rw [hs.1 9 (by decide)]; exact w1
      · rw [ht.1 37 (by decide)]; exact w2
      · rw [ht.2 50 (by decide)]; exact w6
      · rw [hs.1 10 (by decide)]; exact im2
      · rw [ht.1 54 (by decide)]; exact im3
      · obtain ⟨v', ws', c1, c2, c3, c4, c5, c6⟩ := im4 j hj
        refine ⟨v', ws', cm _ _ c1, c2, c3, ?_, ?_, ?_⟩ <;> rw [ht.2 57 (by decide)] <;> assumption
  · exact P_dq I hd ⟨s, Kf.rf _ _ s, c_Y_feed0 198 D hk k1 k2 a1 a2 a3 a4 a5⟩ (fun b => ⟨wF τ 0 0, (Kf.rf _ _ τ).wF (by decide) _, R_feed0 199 b τ hk k1 k3 a1 a2 a3 a4 a5⟩)
