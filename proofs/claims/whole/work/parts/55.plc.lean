/-! CALLS that ask: places, placed -/
def pcN (x : Nat) : Nat := fo (fun k a => if x.testBit k then a + 1 else a) 8 0
theorem bc_256 : ∀ x : Fin 256, bcI (Int32.ofNat x.val) = Int32.ofNat (pcN x.val) ∧ pcN x.val ≤ 8 := by decide +kernel
theorem pc_s : ∀ x : Fin 256, ∀ t : Fin 8, x.val.testBit t.val = false → pcN (x.val ||| 2 ^ t.val) = pcN x.val + 1 := by decide +kernel
theorem bt_s : ∀ x : Fin 256, ∀ t : Fin 8, (((Int32.ofNat x.val >>> (Int32.ofNat t.val &&& 31)) &&& 1 = 1) ↔ x.val.testBit t.val = true) ∧ (Int32.ofNat x.val ||| (1 <<< (Int32.ofNat t.val &&& 31))) = Int32.ofNat (x.val ||| 2 ^ t.val) := by decide +kernel
theorem ix_s : ∀ p : Fin 7, ∀ x : Fin 256, ((Int32.ofNat p.val <<< ((8 : Int32) &&& 31)) ||| Int32.ofNat x.val) = Int32.ofNat (256 * p.val + x.val) := by decide +kernel
theorem or_lt : ∀ m : Fin 9, ∀ x : Fin 256, ∀ t : Fin 8, x.val < 2 ^ m.val → t.val < m.val → (x.val ||| 2 ^ t.val) < 2 ^ m.val := by decide +kernel
theorem or_gt : ∀ x : Fin 256, ∀ t : Fin 8, x.val.testBit t.val = false → x.val < (x.val ||| 2 ^ t.val) := by decide +kernel
theorem pc_f : ∀ m : Fin 9, ∀ x : Fin 256, x.val < 2 ^ m.val → pcN x.val < m.val → ∃ t : Fin 8, t.val < m.val ∧ x.val.testBit t.val = false := by decide +kernel
theorem pc_m : ∀ m : Fin 9, ∀ x : Fin 256, x.val < 2 ^ m.val → pcN x.val ≤ m.val := by decide +kernel
theorem sh_9 : ∀ m : Fin 9, ((1 : Int32) <<< (Int32.ofNat m.val &&& 31)) = Int32.ofNat (2 ^ m.val) ∧ 2 ^ m.val ≤ 256 ∧ 1 ≤ 2 ^ m.val := by decide +kernel
section
variable {x t : Nat} (hx : x < 256) (ht : t < 8)
theorem bt_1 (hx : x < 256) (ht : t < 8) : ((Int32.ofNat x >>> (Int32.ofNat t &&& 31)) &&& 1 = 1) = (x.testBit t = true) := propext (bt_s ⟨x, hx⟩ ⟨t, ht⟩).1
theorem bt_2 (hx : x < 256) (ht : t < 8) : (Int32.ofNat x ||| (1 <<< (Int32.ofNat t &&& 31))) = Int32.ofNat (x ||| 2 ^ t) := (bt_s ⟨x, hx⟩ ⟨t, ht⟩).2
theorem bt_3 {m : Nat} (hm : m ≤ 8) (hx : x < 2 ^ m) (ht : t < m) : (x ||| 2 ^ t) < 2 ^ m := or_lt ⟨m, by omega⟩ ⟨x, by have := (sh_9 ⟨m, by omega⟩).2.1; dsimp only at this; omega⟩ ⟨t, by omega⟩ hx ht
end
/-- the most of those that aren't left out -/
def mxF (P : Nat → Bool) (y : Nat → Int32) (a : Int32) (m : Nat) : Int32 := fo (fun t a => if P t = true then a else if y t ≤ a then a else y t) m a
theorem mx_0 {P : Nat → Bool} {y : Nat → Int32} (m : Nat) (hy : ∀ t, t < m → P t = false → 0 ≤ y t) : ((∀ t, t < m → P t = true) ∧ mxF P y (-1) m = -1 ∧ mxF P y 0 m = 0) ∨ ((∃ t, t < m ∧ P t = false ∧ mxF P y (-1) m = y t) ∧ mxF P y (-1) m = mxF P y 0 m ∧ 0 ≤ mxF P y (-1) m) := by
  induction m with
  | zero => exact Or.inl ⟨fun t ht => absurd ht (Nat.not_lt_zero t), rfl, rfl⟩
  | succ m ih =>
    have e1 : ∀ a, mxF P y a (m + 1) = if P m = true then mxF P y a m else if y m ≤ mxF P y a m then mxF P y a m else y m := fun a => rfl
    rw [e1, e1]
    have ih := ih (fun t ht => hy t (by omega))
    cases hP : P m with
    | true =>
      simp only [if_true]
      rcases ih with ⟨h1, h2, h3⟩ | ⟨⟨t, h1, h2⟩, h3⟩
      · refine Or.inl ⟨fun t ht => ?_, h2, h3⟩
        by_cases e : t = m
        · rw [e]; exact hP
        · exact h1 t (by omega)
      · exact Or.inr ⟨⟨t, by omega, h2⟩, h3⟩
    | false =>
      simp only [Bool.false_eq_true, if_false]
      have h0 := hy m (by omega) hP
      right
      rcases ih with ⟨h1, h2, h3⟩ | ⟨⟨t, h1, h2, h4⟩, h3, h5⟩
      · rw [h2, h3]
        have g : ¬ y m ≤ -1 := fun g => by
          have a1 := Int32.le_iff_toInt_le.mp h0
          have a2 := Int32.le_iff_toInt_le.mp g
          have z : (0 : Int32).toInt = 0 := by decide
          have z1 : (-1 : Int32).toInt = -1 := by decide
          omega
        rw [if_neg g]
        refine ⟨⟨m, by omega, hP, rfl⟩, ?_, h0⟩
        by_cases g2 : y m ≤ 0
        · rw [if_pos g2]; exact Int32.le_antisymm g2 h0
        · rw [if_neg g2]
      · rw [← h3]
        by_cases g : y m ≤ mxF P y (-1) m
        · rw [if_pos g]; exact ⟨⟨t, by omega, h2, h4⟩, rfl, h5⟩
        · rw [if_neg g]; exact ⟨⟨m, by omega, hP, rfl⟩, rfl, h0⟩
/-- the most that r more can leave, these seats being taken -/
def bst (mk : Nat → Nat → Nat) (m n : Nat) : Nat → Nat → Int32
  | 0, _ => 0
  | r + 1, x => mxF (fun t => x.testBit t || decide (bst mk m n r (x ||| 2 ^ t) = -1)) (fun t => Int32.ofNat (mk (n - (r + 1)) t) + bst mk m n r (x ||| 2 ^ t)) (-1) m
theorem bst_s (mk : Nat → Nat → Nat) (m n r x : Nat) : bst mk m n (r + 1) x = mxF (fun t => x.testBit t || decide (bst mk m n r (x ||| 2 ^ t) = -1)) (fun t => Int32.ofNat (mk (n - (r + 1)) t) + bst mk m n r (x ||| 2 ^ t)) (-1) m := rfl
theorem bst_n {mk : Nat → Nat → Nat} {m n : Nat} (h8 : m ≤ 8) (hk : ∀ p t, mk p t ≤ 99) : ∀ r x, x < 2 ^ m → r ≤ 6 → (m < pcN x + r ∧ bst mk m n r x = -1) ∨ (pcN x + r ≤ m ∧ ∃ k, k ≤ 99 * r ∧ bst mk m n r x = Int32.ofNat k) := by
  intro r
  have h256 := (sh_9 ⟨m, by omega⟩).2.1
  dsimp only at h256
  induction r with
  | zero => intro x hx _; exact Or.inr ⟨by have := pc_m ⟨m, by omega⟩ ⟨x, by omega⟩ hx; dsimp only at this; omega, 0, by omega, rfl⟩
  | succ r ih =>
    intro x hx hr
    have hc : ∀ t, t < m → x.testBit t = false → ((m < pcN x + 1 + r ∧ bst mk m n r (x ||| 2 ^ t) = -1) ∨ (pcN x + 1 + r ≤ m ∧ ∃ k, k ≤ 99 * r ∧ bst mk m n r (x ||| 2 ^ t) = Int32.ofNat k)) := fun t ht hb => by
      have := ih (x ||| 2 ^ t) (bt_3 h8 hx ht) (by omega)
      have e := pc_s ⟨x, by omega⟩ ⟨t, by omega⟩ hb
      dsimp only at e
      rw [e] at this
      exact this
    have hy : ∀ t, t < m → (x.testBit t || decide (bst mk m n r (x ||| 2 ^ t) = -1)) = false → ∃ k, k ≤ 99 * (r + 1) ∧ Int32.ofNat (mk (n - (r + 1)) t) + bst mk m n r (x ||| 2 ^ t) = Int32.ofNat k ∧ x.testBit t = false := fun t ht h => by
      rw [Bool.or_eq_false_iff, decide_eq_false_iff_not] at h
      rcases hc t ht h.1 with g | ⟨g, k, g2, g3⟩
      · exact absurd g.2 h.2
      · have := hk (n - (r + 1)) t
        exact ⟨mk (n - (r + 1)) t + k, by omega, by rw [g3, ii_add], h.1⟩
    rw [bst_s]
    rcases mx_0 m (P := fun t => x.testBit t || decide (bst mk m n r (x ||| 2 ^ t) = -1)) (y := fun t => Int32.ofNat (mk (n - (r + 1)) t) + bst mk m n r (x ||| 2 ^ t)) (fun t ht h => by obtain ⟨k, k1, k2, -⟩ := hy t ht h; exact ge_nn (j := k) (by omega) k2) with ⟨h1, h2, -⟩ | ⟨⟨t, h1, h2, h3⟩, -, -⟩
    · left
      refine ⟨?_, h2⟩
      rcases Nat.lt_or_ge (pcN x) m with g | g
      · obtain ⟨t, t1, t2⟩ := pc_f ⟨m, by omega⟩ ⟨x, by omega⟩ hx g
        have := h1 t.val t1
        dsimp only at this t2
        rw [t2, Bool.false_or, decide_eq_true_eq] at this
        rcases hc t.val t1 t2 with g2 | ⟨-, k, k1, k2⟩
        · omega
        · rw [k2, ii_n1 (by omega)] at this; exact this.elim
      · omega
    · right
      obtain ⟨k, k1, k2, k3⟩ := hy t h1 h2
      refine ⟨?_, k, k1, h3.trans k2⟩
      rcases hc t h1 k3 with g2 | ⟨g, -⟩
      · rw [Bool.or_eq_false_iff, decide_eq_false_iff_not] at h2; exact absurd g2.2 h2.2
      · omega
theorem c_R_layPlaces (d : Nat) (b : pS) (τ : rT) {l : List Nat} {m n : Nat} (hl : rLaw τ l) (C : rCn τ m n) (mk : Nat → Nat → Nat) (hk : ∀ p t, p < n → t < m → mk p t ≤ 99 ∧ fMk l (τ.2 37) (τ.2 48) p t = Int32.ofNat (mk p t)) : ∃ τ', Kf [] [44, 45, 54] τ τ' ∧ (∀ p x, p ≤ n → x < 2 ^ m → τ'.2 54 (256 * p + x) = bst mk m n (n - p) x) ∧ vcall (d + 6) m_R_layPlaces [.ref 30] (mS b τ) = some (.inl none, mS b τ') := by
  have C' := C
  obtain ⟨hm, h8, hn, h6⟩ := C'
  obtain ⟨s9, h256, h1p⟩ := sh_9 ⟨m, by omega⟩
  dsimp only at s9 h256 h1p
  have ix : ∀ p x, p < 7 → x < 256 → ((Int32.ofNat p <<< ((8 : Int32) &&& 31)) ||| Int32.ofNat x) = Int32.ofNat (256 * p + x) := fun p x hp hx => ix_s ⟨p, hp⟩ ⟨x, hx⟩
  obtain ⟨τ1, e1, k1, i1⟩ := ex_loop (F := fun j (y : rT) => den (d + 5) m_R_layPlaces 2 [.ref 30, .int (Int32.ofNat j), mk0, mk0, mk0, mk0] [] (mS b y)) (I := fun j y => Kf [] [44, 45, 54] τ y ∧ ∀ x, x < j → y.2 54 (256 * n + x) = 0) 256 τ ⟨Kf.rf _ _ τ, fun x hx => absurd hx (Nat.not_lt_zero x)⟩ (fun j y hj hy => by
    obtain ⟨k1, i1⟩ := hy
    have hn1 := (k1.1 23 (by decide)).trans hn
    refine ⟨wA y 54 (256 * n + j) 0, ?_, k1.wA (by decide) _ _, fun x hx => ?_⟩
    · rw [B_R_layPlaces_2]
      simp (disch := omega) only [m_gF, m_gI, m_pI, m_gIl, m_pIl, ii_m1, ii_s1, m_pF, obs, wF_1, wF_2, wA_1, wA_2, wR_1, wR_2, Nat.reduceEqDiff, Nat.reduceAdd, Nat.reduceMul, if_true, if_false, ite_true, ite_false, ii_la, ii_al, ii_lm, ii_ml, ii_add, ii_mul, ii_1, ii_le, ii_lt, ii_c1, ii_c2, ii_c3, ii_c4, ii_c5, ii_n1, ii_nn, kC0_v, kC1_v, kC2_v, kC3_v, kC0_x, kC1_x, kC2_x, not_true_eq_false, not_false_eq_true, ne_eq, hn1, ix n j (show n < 7 by omega) (show j < 256 by omega)]
      rw [if_neg (by omega)]
    · rw [wA_2, if_pos rfl]
      by_cases h : x = j
      · subst h; rw [upd_s]
      · rw [upd_n _ _ (by omega)]; exact i1 x (by omega))
  have hn1 := (k1.1 23 (by decide)).trans hn
  -- the rows below, from the last sitter to the first
  obtain ⟨⟨τ2, w2, w3, w4, w5⟩, e2, k2, i2⟩ := ex_loop (F := fun j (y : rT × Value × Value × Value × Value) => den (d + 5) m_R_layPlaces 37 [.ref 30, .int (Int32.ofNat (n - j) - 1), y.2.1, y.2.2.1, y.2.2.2.1, y.2.2.2.2] [] (mS b y.1)) (I := fun j y => Kf [] [44, 45, 54] τ y.1 ∧ ∀ p x, n - j ≤ p → p ≤ n → x < 2 ^ m → y.1.2 54 (256 * p + x) = bst mk m n (n - p) x) n (τ1, mk0, mk0, mk0, mk0) ⟨k1, fun p x h1 h2 h3 => by
      dsimp only
      rw [show p = n by omega, Nat.sub_self]; exact i1 x (by omega)⟩ (fun j y hj hy => by
    obtain ⟨τ1, w2, w3, w4, w5⟩ := y
    obtain ⟨k1, i1⟩ := hy
    dsimp only at k1 i1 ⊢
    obtain ⟨p, hp⟩ : ∃ p, n - j = p + 1 := ⟨n - j - 1, by omega⟩
    have hp2 : n - (j + 1) = p := by omega
    have hp3 : p < n := by omega
    rw [hp] at i1
    obtain ⟨⟨τ2, w3, w4, w5⟩, e2, k2, i2, i3⟩ := ex_loop (F := fun x (y : rT × Value × Value × Value) => den (d + 5) m_R_layPlaces 43 [.ref 30, .int (Int32.ofNat p), .int (Int32.ofNat x), y.2.1, y.2.2.1, y.2.2.2] [] (mS b y.1)) (I := fun z y => Kf [] [44, 45, 54] τ y.1 ∧ (∀ p' x, p + 1 ≤ p' → p' ≤ n → x < 2 ^ m → y.1.2 54 (256 * p' + x) = bst mk m n (n - p') x) ∧ ∀ x, x < z → y.1.2 54 (256 * p + x) = bst mk m n (n - p) x) (2 ^ m) (τ1, w3, w4, w5) ⟨k1, i1, fun x hx => absurd hx (Nat.not_lt_zero x)⟩ (fun x y hx hy => by
      obtain ⟨τ1, w3, w4, w5⟩ := y
      obtain ⟨k1, i1, i4⟩ := hy
      dsimp only at k1 i1 i4 ⊢
      have hm1 := (k1.1 22 (by decide)).trans hm
      obtain ⟨⟨τ2, a, w⟩, e2, k2, i2, i3⟩ := ex_loop (F := fun t (y : rT × Int32 × Value) => den (d + 5) m_R_layPlaces 58 [.ref 30, .int (Int32.ofNat p), .int (Int32.ofNat x), .int y.2.1, .int (Int32.ofNat t), y.2.2] [] (mS b y.1)) (I := fun t y => Kf [] [44, 45] τ1 y.1 ∧ y.2.1 = mxF (fun t => x.testBit t || decide (bst mk m n (n - (p + 1)) (x ||| 2 ^ t) = -1)) (fun t => Int32.ofNat (mk p t) + bst mk m n (n - (p + 1)) (x ||| 2 ^ t)) (-1) t ∧ True) m (τ1, -1, w5) ⟨Kf.rf _ _ _, rfl, trivial⟩ (fun t y ht hy => by
        obtain ⟨τ2, a, w⟩ := y
        obtain ⟨k2, i2, -⟩ := hy
        dsimp only at k2 i2 ⊢
        have hm2 := (k2.1 22 (by decide)).trans hm1
        have hx3 := bt_3 h8 hx ht
        have ev : τ2.2 54 (256 * (p + 1) + (x ||| 2 ^ t)) = bst mk m n (n - (p + 1)) (x ||| 2 ^ t) := by rw [k2.2 54 (by decide)]; exact i1 (p + 1) _ (Nat.le_refl _) (by omega) hx3
        have eix : ((((Int32.ofNat p + 1) <<< ((8 : Int32) &&& 31)) ||| Int32.ofNat x) ||| (1 <<< (Int32.ofNat t &&& 31))) = Int32.ofNat (256 * (p + 1) + (x ||| 2 ^ t)) := by
          rw [ii_1, Int32.or_assoc, bt_2 (by omega) (by omega), ix (p + 1) _ (by omega) (by omega)]
        have g22 : gFi (mS b τ2) 30 11 22 = some (Int32.ofNat m) := by simp only [m_gF, hm2]
        have g49 : ∀ z : rT, gFr (mS b z) 30 11 49 = some 54 := fun z => by simp only [m_gF]
        have g54 : ∀ z : rT, gI (mS b z) 54 (Int32.ofNat (256 * (p + 1) + (x ||| 2 ^ t))) = some (z.2 54 (256 * (p + 1) + (x ||| 2 ^ t))) := fun z => by simp (disch := omega) only [m_gI]
        have mxs : ∀ (P : Nat → Bool) (y : Nat → Int32) (a : Int32), mxF P y a (t + 1) = if P t = true then mxF P y a t else if y t ≤ mxF P y a t then mxF P y a t else y t := fun _ _ _ => rfl
        have hbt := bt_1 (x := x) (t := t) (by omega) (by omega)
        by_cases hb : x.testBit t = true
        · refine ⟨(τ2, a, w), ?_, k2, ?_, trivial⟩
          · rw [B_R_layPlaces_58, g22, obs, if_neg (by rw [ii_le (by omega) (by omega)]; omega), if_pos (by rw [hbt]; exact hb), ii_1]
          · dsimp only; rw [mxs, ← i2, if_pos (by rw [hb]; rfl)]
        · have hb' : x.testBit t = false := by cases h : x.testBit t with
            | true => exact absurd h hb
            | false => rfl
          by_cases hv : bst mk m n (n - (p + 1)) (x ||| 2 ^ t) = -1
          · refine ⟨(τ2, a, w), ?_, k2, ?_, trivial⟩
            · rw [B_R_layPlaces_58, g22, obs, if_neg (by rw [ii_le (by omega) (by omega)]; omega), if_neg (by rw [hbt]; exact hb), g49, obs, eix, g54, obs, ev, if_neg (fun g => g hv), ii_1]
            · dsimp only; rw [mxs, ← i2, if_pos (by rw [hv]; simp)]
          · obtain ⟨m1, m2⟩ := hk p t hp3 ht
            obtain ⟨τ3, k3, e3⟩ := c_R_firstMark d b τ2 (k2.law (k1.law hl)) p t (by omega) (by omega)
            rw [(k1.tr (k2.up (by decide) (by decide))).2 37 (by decide), (k1.tr (k2.up (by decide) (by decide))).2 48 (by decide), m2] at e3
            refine ⟨(τ3, if Int32.ofNat (mk p t) + bst mk m n (n - (p + 1)) (x ||| 2 ^ t) ≤ a then a else Int32.ofNat (mk p t) + bst mk m n (n - (p + 1)) (x ||| 2 ^ t), .int (Int32.ofNat (mk p t) + bst mk m n (n - (p + 1)) (x ||| 2 ^ t))), ?_, k2.tr k3, ?_, trivial⟩
            · dsimp only
              rw [B_R_layPlaces_58, g22, obs, if_neg (by rw [ii_le (by omega) (by omega)]; omega), if_neg (by rw [hbt]; exact hb), g49, obs, eix, g54, obs, ev, if_pos hv, e3, kC1_v, g49, obs, g54, obs, k3.2 54 (by decide), ev, ii_1]
              split <;> rfl
            · dsimp only
              have hnn : ¬ (x.testBit t || decide (bst mk m n (n - (p + 1)) (x ||| 2 ^ t) = -1)) = true := by rw [hb', Bool.false_or, decide_eq_true_eq]; exact hv
              rw [mxs, ← i2, if_neg hnn])
      dsimp only at e2 k2 i2
      have hm2 := (k2.1 22 (by decide)).trans hm1
      refine ⟨(wA τ2 54 (256 * p + x) a, .int a, .int (Int32.ofNat m), w), ?_, (k1.tr (k2.up (by decide) (by decide))).wA (by decide) _ _, fun p' x' g1 g2 g3 => ?_, fun x' hx' => ?_⟩
      · rw [B_R_layPlaces_43]
        simp (disch := omega) only [m_gF, m_gI, m_pI, m_gIl, m_pIl, ii_m1, ii_s1, m_pF, obs, wF_1, wF_2, wA_1, wA_2, wR_1, wR_2, Nat.reduceEqDiff, Nat.reduceAdd, Nat.reduceMul, if_true, if_false, ite_true, ite_false, ii_la, ii_al, ii_lm, ii_ml, ii_add, ii_mul, ii_1, ii_le, ii_lt, ii_c1, ii_c2, ii_c3, ii_c4, ii_c5, ii_n1, ii_nn, kC0_v, kC1_v, kC2_v, kC3_v, kC0_x, kC1_x, kC2_x, not_true_eq_false, not_false_eq_true, ne_eq, hm1, s9]
        rw [if_neg (by omega)]
        refine e2.trans ?_
        rw [B_R_layPlaces_58]
        simp (disch := omega) only [m_gF, m_pI, obs, hm2, ii_le, ix p x (show p < 7 by omega) (show x < 256 by omega), ii_1]
        rw [if_pos (Nat.le_refl m)]
      · dsimp only
        rw [wA_2, if_pos rfl, upd_n _ _ (by omega), k2.2 54 (by decide)]; exact i1 p' x' g1 g2 g3
      · dsimp only
        rw [wA_2, if_pos rfl]
        by_cases h : x' = x
        · subst h
          rw [upd_s, i2, show n - p = n - (p + 1) + 1 by omega, bst_s, show n - (n - (p + 1) + 1) = p by omega]
        · rw [upd_n _ _ (by omega), k2.2 54 (by decide)]; exact i4 x' (by omega))
    dsimp only at e2 k2 i2 i3
    have hm2 := (k2.1 22 (by decide)).trans hm
    refine ⟨(τ2, .int (Int32.ofNat (2 ^ m)), w3, w4, w5), ?_, k2, fun p' x g1 g2 g3 => ?_⟩
    · dsimp only
      rw [hp, ii_s1, hp2, B_R_layPlaces_37, if_neg (by rw [ii_nn (by omega)]; simp)]
      refine e2.trans ?_
      rw [B_R_layPlaces_43]
      simp (disch := omega) only [m_gF, m_gI, m_pI, m_gIl, m_pIl, ii_m1, ii_s1, m_pF, obs, wF_1, wF_2, wA_1, wA_2, wR_1, wR_2, Nat.reduceEqDiff, Nat.reduceAdd, Nat.reduceMul, if_true, if_false, ite_true, ite_false, ii_la, ii_al, ii_lm, ii_ml, ii_add, ii_mul, ii_1, ii_le, ii_lt, ii_c1, ii_c2, ii_c3, ii_c4, ii_c5, ii_n1, ii_nn, kC0_v, kC1_v, kC2_v, kC3_v, kC0_x, kC1_x, kC2_x, not_true_eq_false, not_false_eq_true, ne_eq, hm2, s9]
      rw [if_pos (Nat.le_refl _), Int32.sub_eq_add_neg]
    · dsimp only
      by_cases h : p' = p
      · subst h; exact i3 x g3
      · exact i2 p' x (by omega) g2 g3)
  dsimp only at e2 k2 i2
  refine ⟨τ2, k2, fun p x h1 h2 => i2 p x (by omega) h1 h2, (vR rfl).trans ((B_R_layPlaces_0 _ _ _).trans (e1.trans ?_))⟩
  rw [B_R_layPlaces_2]
  simp (disch := omega) only [m_gF, obs, hn1]
  rw [if_pos (by decide)]
  refine e2.trans ?_
  rw [B_R_layPlaces_37, Nat.sub_self, if_pos (by decide)]
theorem c_L_togetherBy (d : Nat) {b : pS} {L : xA} {s : rT} (D : Dj L) (p t x : Nat) (hp : p < 6) (ht : t < 8) (hx : x < 256) (hx2 : (x ||| 2 ^ t) < 256) : vcall (d + 1) m_Pl_togetherBy [.ref 3, .int (Int32.ofNat p), .int (Int32.ofNat t), .int (Int32.ofNat x)] (xS b L s) = some (.inl (some (.int (s.2 4 (8 * p + t) + s.2 5 (x ||| 2 ^ t)))), xS b L s) := by
  refine (vL D rfl).trans ((B_Pl_togetherBy_0 _ _ _ _ _ _).trans ?_)
  simp (disch := omega) only [x3_gF D, xf_gI D, ii_m1, ii_s1, obs, wF_1, wF_2, wA_1, wA_2, wR_1, wR_2, Nat.reduceEqDiff, Nat.reduceAdd, Nat.reduceMul, if_true, if_false, ite_true, ite_false, ii_la, ii_al, ii_lm, ii_ml, ii_add, ii_mul, ii_1, ii_le, ii_lt, ii_c1, ii_c2, ii_c3, ii_c4, ii_c5, ii_n1, ii_nn, kC0_v, kC1_v, kC2_v, kC3_v, kC0_x, kC1_x, kC2_x, not_true_eq_false, not_false_eq_true, ne_eq, bt_2 hx ht]
  rw [show p * 8 + t = 8 * p + t by omega]
theorem c_L_mostFrom (d : Nat) {b : pS} {L : xA} {s : rT} {m : Nat} (D : Dj L) (hm : s.1 32 = Int32.ofNat m) (h8 : m ≤ 8) (p x : Nat) (hp : p < 6) (hx : x < 2 ^ m) : vcall (d + 2) m_Pl_mostFrom [.ref 3, .int (Int32.ofNat p), .int (Int32.ofNat x)] (xS b L s) = some (.inl (some (.int (mxF (fun t => x.testBit t) (fun t => s.2 4 (8 * p + t) + s.2 5 (x ||| 2 ^ t)) 0 m))), xS b L s) := by
  have h256 := (sh_9 ⟨m, by omega⟩).2.1
  dsimp only at h256
  refine (vL D rfl).trans ((B_Pl_mostFrom_0 _ _ _ _ _).trans ?_)
  refine (fo_loop (F := fun j a => den (d + 1) m_Pl_mostFrom 5 [.ref 3, .int (Int32.ofNat p), .int (Int32.ofNat x), .int a, .int (Int32.ofNat j)] [] (xS b L s)) (f := fun t a => if x.testBit t = true then a else if s.2 4 (8 * p + t) + s.2 5 (x ||| 2 ^ t) ≤ a then a else s.2 4 (8 * p + t) + s.2 5 (x ||| 2 ^ t)) m (fun j a hj => ?_) 0).trans ?_
  · have h3 := bt_3 h8 hx hj
    rw [B_Pl_mostFrom_5]
    simp (disch := omega) only [x3_gF D, hm, ii_m1, ii_s1, obs, wF_1, wF_2, wA_1, wA_2, wR_1, wR_2, Nat.reduceEqDiff, Nat.reduceAdd, Nat.reduceMul, if_true, if_false, ite_true, ite_false, ii_la, ii_al, ii_lm, ii_ml, ii_add, ii_mul, ii_1, ii_le, ii_lt, ii_c1, ii_c2, ii_c3, ii_c4, ii_c5, ii_n1, ii_nn, kC0_v, kC1_v, kC2_v, kC3_v, kC0_x, kC1_x, kC2_x, not_true_eq_false, not_false_eq_true, ne_eq, c_Y_hasBit d, bt_1 (x := x) (t := j) (by omega) (by omega), c_L_togetherBy d D p j x hp (by omega) (by omega) (by omega)]
    rw [if_neg (by omega)]
    by_cases hb : x.testBit j = true
    · simp only [hb, if_true, i10, eq_self, if_false, not_false_eq_true]
    · simp only [hb, Bool.false_eq_true, if_false, not_true_eq_false]
      by_cases h : s.2 4 (8 * p + j) + s.2 5 (x ||| 2 ^ j) ≤ a
      · rw [if_neg (Int32.not_lt.mpr h), if_pos h]
      · rw [if_pos (Int32.not_le.mp h), if_neg h]
  · rw [B_Pl_mostFrom_5]
    simp (disch := omega) only [x3_gF D, hm, ii_m1, ii_s1, obs, wF_1, wF_2, wA_1, wA_2, wR_1, wR_2, Nat.reduceEqDiff, Nat.reduceAdd, Nat.reduceMul, if_true, if_false, ite_true, ite_false, ii_la, ii_al, ii_lm, ii_ml, ii_add, ii_mul, ii_1, ii_le, ii_lt, ii_c1, ii_c2, ii_c3, ii_c4, ii_c5, ii_n1, ii_nn, kC0_v, kC1_v, kC2_v, kC3_v, kC0_x, kC1_x, kC2_x, not_true_eq_false, not_false_eq_true, ne_eq]
    rw [if_pos (Nat.le_refl m)]; rfl
theorem c_J_bc (d : Nat) (s : pS) (x : Nat) (hx : x < 256) : call (d + 1) m_J_bitCount [.int (Int32.ofNat x)] s = some (.inl (some (.int (Int32.ofNat (pcN x)))), s) :=
  cR.trans ((B_J_bitCount_0 _ _ _).trans (congrArg (fun z => some (Sum.inl (some (Value.int z)), s)) (bc_256 ⟨x, hx⟩).1))
theorem c_L_weigh (d : Nat) {b : pS} {L : xA} {s : rT} {l : List Nat} {m n : Nat} (D : Dj L) (xl : xLaw s l) (C : Cn s m n) (hnm : n ≤ m) (mk : Nat → Nat → Nat) (hk : ∀ p t, mk p t ≤ 99) (hk2 : ∀ p t, p < n → t < m → fMk l (s.2 12) (s.2 0) p t = Int32.ofNat (mk p t)) : ∃ s', Kf [32, 33] [4, 5, 22, 23] s s' ∧ s'.1 32 = Int32.ofNat m ∧ s'.1 33 = Int32.ofNat n ∧ (∀ p t, p < n → t < m → s'.2 4 (8 * p + t) = Int32.ofNat (mk p t)) ∧ (∀ x, x < 2 ^ m → pcN x ≤ n → s'.2 5 x = bst mk m n (n - pcN x) x) ∧ vcall (d + 4) m_Pl_weigh [.ref 3, .ref (aP L), .ref (aW L)] (xS b L s) = some (.inl none, xS b L s') := by
  have C' := C
  obtain ⟨hm, h8, hn, h6⟩ := C'
  obtain ⟨s9, h256, h1p⟩ := sh_9 ⟨m, by omega⟩
  dsimp only at s9 h256 h1p
  have H := SN_p D
  obtain ⟨⟨s1, w⟩, e1, k1, a1, a2, i1⟩ := ex_loop (F := fun j (y : rT × Value) => den (d + 3) m_Pl_weigh 24 [.ref 3, .ref (aP L), .ref (aW L), .int (Int32.ofNat j), y.2] [] (xS b L y.1)) (I := fun j y => Kf [32, 33] [4, 5, 22, 23] s y.1 ∧ y.1.1 32 = Int32.ofNat m ∧ y.1.1 33 = Int32.ofNat n ∧ ∀ p t, p < j → t < m → y.1.2 4 (8 * p + t) = Int32.ofNat (mk p t)) n (wF (wF s 32 (Int32.ofNat m)) 33 (Int32.ofNat n), mk0) ⟨((Kf.rf _ _ s).wF (by decide) _).wF (by decide) _, rfl, rfl, fun p t hp => absurd hp (Nat.not_lt_zero p)⟩ (fun p y hp hy => by
    obtain ⟨s1, w⟩ := y
    obtain ⟨k1, a1, a2, i1⟩ := hy
    dsimp only at k1 a1 a2 i1 ⊢
    obtain ⟨s2, e2, k2, a3, a4, i2, i3⟩ := ex_loop (F := fun t (y : rT) => den (d + 3) m_Pl_weigh 35 [.ref 3, .ref (aP L), .ref (aW L), .int (Int32.ofNat p), .int (Int32.ofNat t)] [] (xS b L y)) (I := fun z y => Kf [32, 33] [4, 5, 22, 23] s y ∧ y.1 32 = Int32.ofNat m ∧ y.1 33 = Int32.ofNat n ∧ (∀ p' t, p' < p → t < m → y.2 4 (8 * p' + t) = Int32.ofNat (mk p' t)) ∧ ∀ t, t < z → y.2 4 (8 * p + t) = Int32.ofNat (mk p t)) m s1 ⟨k1, a1, a2, i1, fun t ht => absurd ht (Nat.not_lt_zero t)⟩ (fun t y ht hy => by
      obtain ⟨k2, a3, a4, i2, i3⟩ := hy
      obtain ⟨s3, k3, e3⟩ := c_S_firstMark d (b := b) H (k2.xlaw xl) p t (by omega) (by omega)
      rw [k2.2 12 (by decide), k2.2 0 (by decide), hk2 p t hp ht] at e3
      have f4 : s3.2 4 = y.2 4 := k3.2 4 (by decide)
      refine ⟨wA s3 4 (8 * p + t) (Int32.ofNat (mk p t)), ?_, (k2.tr (k3.up (by decide) (by decide))).wA (by decide) _ _, (k3.1 32 (by decide)).trans a3, (k3.1 33 (by decide)).trans a4, fun p' t' g1 g2 => ?_, fun t' g1 => ?_⟩
      · rw [B_Pl_weigh_35]
        simp (disch := omega) only [x3_gF D, xf_pI D, a3, e3, ii_m1, ii_s1, obs, wF_1, wF_2, wA_1, wA_2, wR_1, wR_2, Nat.reduceEqDiff, Nat.reduceAdd, Nat.reduceMul, if_true, if_false, ite_true, ite_false, ii_la, ii_al, ii_lm, ii_ml, ii_add, ii_mul, ii_1, ii_le, ii_lt, ii_c1, ii_c2, ii_c3, ii_c4, ii_c5, ii_n1, ii_nn, kC0_v, kC1_v, kC2_v, kC3_v, kC0_x, kC1_x, kC2_x, not_true_eq_false, not_false_eq_true, ne_eq]
        rw [if_neg (by omega), show p * 8 + t = 8 * p + t by omega]
      · rw [wA_2, if_pos rfl, upd_n _ _ (by omega), f4]; exact i2 p' t' g1 g2
      · rw [wA_2, if_pos rfl]
        by_cases h : t' = t
        · subst h; rw [upd_s]
        · rw [upd_n _ _ (by omega), f4]; exact i3 t' (by omega))
    refine ⟨(s2, .int (Int32.ofNat m)), ?_, k2, a3, a4, fun p' t g1 g2 => ?_⟩
    · dsimp only
      rw [B_Pl_weigh_24]
      simp (disch := omega) only [x3_gF D, a2, ii_m1, ii_s1, obs, wF_1, wF_2, wA_1, wA_2, wR_1, wR_2, Nat.reduceEqDiff, Nat.reduceAdd, Nat.reduceMul, if_true, if_false, ite_true, ite_false, ii_la, ii_al, ii_lm, ii_ml, ii_add, ii_mul, ii_1, ii_le, ii_lt, ii_c1, ii_c2, ii_c3, ii_c4, ii_c5, ii_n1, ii_nn, kC0_v, kC1_v, kC2_v, kC3_v, kC0_x, kC1_x, kC2_x, not_true_eq_false, not_false_eq_true, ne_eq]
      rw [if_neg (by omega)]
      refine e2.trans ?_
      rw [B_Pl_weigh_35]
      simp (disch := omega) only [x3_gF D, a3, ii_m1, ii_s1, obs, wF_1, wF_2, wA_1, wA_2, wR_1, wR_2, Nat.reduceEqDiff, Nat.reduceAdd, Nat.reduceMul, if_true, if_false, ite_true, ite_false, ii_la, ii_al, ii_lm, ii_ml, ii_add, ii_mul, ii_1, ii_le, ii_lt, ii_c1, ii_c2, ii_c3, ii_c4, ii_c5, ii_n1, ii_nn, kC0_v, kC1_v, kC2_v, kC3_v, kC0_x, kC1_x, kC2_x, not_true_eq_false, not_false_eq_true, ne_eq]
      rw [if_pos (Nat.le_refl m)]
    · dsimp only
      by_cases h : p' = p
      · subst h; exact i3 t g2
      · exact i2 p' t (by omega) g2)
  dsimp only at e1 k1 a1 a2 i1
  -- the sets of seats, from all of them down
  obtain ⟨⟨s2, w2⟩, e2, k2, i2⟩ := ex_loop (F := fun j (y : rT × Value) => den (d + 3) m_Pl_weigh 85 [.ref 3, .ref (aP L), .ref (aW L), .int (Int32.ofNat (2 ^ m - j) - 1), y.2] [] (xS b L y.1)) (I := fun j y => Kf [] [5] s1 y.1 ∧ ∀ x, 2 ^ m - j ≤ x → x < 2 ^ m → pcN x ≤ n → y.1.2 5 x = bst mk m n (n - pcN x) x) (2 ^ m) (s1, w) ⟨Kf.rf _ _ _, fun x g1 g2 => by omega⟩ (fun j y hj hy => by
    obtain ⟨s2, w2⟩ := y
    obtain ⟨k2, i2⟩ := hy
    dsimp only at k2 i2 ⊢
    obtain ⟨x, hx⟩ : ∃ x, 2 ^ m - j = x + 1 := ⟨2 ^ m - j - 1, by omega⟩
    have hx2 : 2 ^ m - (j + 1) = x := by omega
    have hxm : x < 2 ^ m := by omega
    rw [hx] at i2
    have a3 := (k2.1 32 (by decide)).trans a1
    have a4 := (k2.1 33 (by decide)).trans a2
    have i4 : ∀ p t, p < n → t < m → s2.2 4 (8 * p + t) = Int32.ofNat (mk p t) := by rw [k2.2 4 (by decide)]; exact i1
    have h9 := (bc_256 ⟨x, by omega⟩).2
    dsimp only at h9
    have hen : ∀ v : Int32, (∀ q : pcN x ≤ n, v = bst mk m n (n - pcN x) x) → ∀ x', x ≤ x' → x' < 2 ^ m → pcN x' ≤ n → (wA s2 5 x v).2 5 x' = bst mk m n (n - pcN x') x' := fun v hv x' g1 g2 g3 => by
      rw [wA_2, if_pos rfl]
      by_cases h : x' = x
      · subst h; rw [upd_s]; exact hv g3
      · rw [upd_n _ _ h]; exact i2 x' (by omega) g2 g3
    by_cases hp : pcN x < n
    · have em := c_L_mostFrom (d + 1) (b := b) (s := s2) D a3 h8 (pcN x) x (by omega) hxm
      have ev : mxF (fun t => x.testBit t) (fun t => s2.2 4 (8 * pcN x + t) + s2.2 5 (x ||| 2 ^ t)) 0 m = bst mk m n (n - pcN x) x := by
        have hr : n - pcN x = n - (pcN x + 1) + 1 := by omega
        have hc : ∀ t, t < m → x.testBit t = false → (s2.2 5 (x ||| 2 ^ t) = bst mk m n (n - (pcN x + 1)) (x ||| 2 ^ t) ∧ ∃ k, k ≤ 600 ∧ bst mk m n (n - (pcN x + 1)) (x ||| 2 ^ t) = Int32.ofNat k) := fun t ht hb => by
          have b3 := bt_3 h8 hxm ht
          have e := pc_s ⟨x, by omega⟩ ⟨t, by omega⟩ hb
          have gt := or_gt ⟨x, by omega⟩ ⟨t, by omega⟩ hb
          dsimp only at e gt
          refine ⟨?_, ?_⟩
          · have := i2 (x ||| 2 ^ t) (by omega) b3 (by omega)
            rw [e] at this; exact this
          · rcases bst_n (n := n) h8 hk (n - (pcN x + 1)) (x ||| 2 ^ t) b3 (by omega) with g | ⟨-, k, k1, k2⟩
            · omega
            · exact ⟨k, by omega, k2⟩
        have hcong : ∀ a, mxF (fun t => x.testBit t) (fun t => s2.2 4 (8 * pcN x + t) + s2.2 5 (x ||| 2 ^ t)) a m = mxF (fun t => x.testBit t || decide (bst mk m n (n - (pcN x + 1)) (x ||| 2 ^ t) = -1)) (fun t => Int32.ofNat (mk (pcN x) t) + bst mk m n (n - (pcN x + 1)) (x ||| 2 ^ t)) a m := fun a => fo_congr m a (fun t a ht => by
          dsimp only
          by_cases hb : x.testBit t = true
          · simp only [hb, Bool.true_or, if_true]
          · have hb : x.testBit t = false := by cases h : x.testBit t with
              | true => exact absurd h hb
              | false => rfl
            obtain ⟨c1, k, k1, c2⟩ := hc t ht hb
            have : decide (bst mk m n (n - (pcN x + 1)) (x ||| 2 ^ t) = -1) = false := by rw [c2, decide_eq_false_iff_not, ii_n1 (by omega)]; simp
            simp only [this, c1, i4 (pcN x) t hp ht, hb, Bool.or_self])
        rw [hcong, hr, bst_s, show n - (n - (pcN x + 1) + 1) = pcN x by omega]
        rcases mx_0 m (P := fun t => x.testBit t || decide (bst mk m n (n - (pcN x + 1)) (x ||| 2 ^ t) = -1)) (y := fun t => Int32.ofNat (mk (pcN x) t) + bst mk m n (n - (pcN x + 1)) (x ||| 2 ^ t)) (fun t ht h => by
          rw [Bool.or_eq_false_iff] at h
          obtain ⟨-, k, k1, c2⟩ := hc t ht h.1
          have := hk (pcN x) t
          exact ge_nn (j := mk (pcN x) t + k) (by omega) (by rw [c2, ii_add])) with ⟨g1, -, -⟩ | ⟨-, g2, -⟩
        · obtain ⟨t, t1, t2⟩ := pc_f ⟨m, by omega⟩ ⟨x, by omega⟩ hxm (by show pcN x < m; omega)
          obtain ⟨-, k, k1, c2⟩ := hc t.val t1 t2
          have := g1 t.val t1
          dsimp only at t2 this
          rw [t2, Bool.false_or, decide_eq_true_eq, c2, ii_n1 (by omega)] at this
          exact this.elim
        · exact g2.symm
      refine ⟨(wA s2 5 x (bst mk m n (n - pcN x) x), .int (Int32.ofNat (pcN x))), ?_, k2.wA (by decide) _ _, fun x' g1 g2 g3 => hen _ (fun _ => rfl) x' (by omega) g2 g3⟩
      dsimp only
      rw [hx, ii_s1, hx2, B_Pl_weigh_85, if_neg (by rw [ii_nn (by omega)]; simp), c_J_bc (d + 2) _ x (by omega), kC1_v]
      rw [ev] at em
      simp (disch := omega) only [x3_gF D, xf_pI D, a4, em, ii_m1, ii_s1, obs, wF_1, wF_2, wA_1, wA_2, wR_1, wR_2, Nat.reduceEqDiff, Nat.reduceAdd, Nat.reduceMul, if_true, if_false, ite_true, ite_false, ii_la, ii_al, ii_lm, ii_ml, ii_add, ii_mul, ii_1, ii_le, ii_lt, ii_c1, ii_c2, ii_c3, ii_c4, ii_c5, ii_n1, ii_nn, kC0_v, kC1_v, kC2_v, kC3_v, kC0_x, kC1_x, kC2_x, not_true_eq_false, not_false_eq_true, ne_eq]
      rw [if_neg (by omega), Int32.sub_eq_add_neg]
    · refine ⟨(wA s2 5 x 0, .int (Int32.ofNat (pcN x))), ?_, k2.wA (by decide) _ _, fun x' g1 g2 g3 => hen 0 (fun q => by rw [show n - pcN x = 0 by omega]; rfl) x' (by omega) g2 g3⟩
      dsimp only
      rw [hx, ii_s1, hx2, B_Pl_weigh_85, if_neg (by rw [ii_nn (by omega)]; simp), c_J_bc (d + 2) _ x (by omega), kC1_v]
      simp (disch := omega) only [x3_gF D, xf_pI D, a4, ii_m1, ii_s1, obs, wF_1, wF_2, wA_1, wA_2, wR_1, wR_2, Nat.reduceEqDiff, Nat.reduceAdd, Nat.reduceMul, if_true, if_false, ite_true, ite_false, ii_la, ii_al, ii_lm, ii_ml, ii_add, ii_mul, ii_1, ii_le, ii_lt, ii_c1, ii_c2, ii_c3, ii_c4, ii_c5, ii_n1, ii_nn, kC0_v, kC1_v, kC2_v, kC3_v, kC0_x, kC1_x, kC2_x, not_true_eq_false, not_false_eq_true, ne_eq]
      rw [if_pos (by omega), Int32.sub_eq_add_neg])
  dsimp only at e2 k2 i2
  refine ⟨s2, k1.tr (k2.up (by decide) (by decide)), (k2.1 32 (by decide)).trans a1, (k2.1 33 (by decide)).trans a2, by rw [k2.2 4 (by decide)]; exact i1, fun x g1 g2 => i2 x (by omega) g1 g2, (vL D rfl).trans ((B_Pl_weigh_0 _ _ _ _ _).trans ?_)⟩
  simp only [sn_gF H, xu_gF D, x3_pF D, obs, hm, hn, show (wF s 32 (Int32.ofNat m)).1 45 = Int32.ofNat n from hn]
  refine e1.trans ?_
  rw [B_Pl_weigh_24]
  simp (disch := omega) only [x3_gF D, a1, a2, s9, ii_m1, ii_s1, obs, wF_1, wF_2, wA_1, wA_2, wR_1, wR_2, Nat.reduceEqDiff, Nat.reduceAdd, Nat.reduceMul, if_true, if_false, ite_true, ite_false, ii_la, ii_al, ii_lm, ii_ml, ii_add, ii_mul, ii_1, ii_le, ii_lt, ii_c1, ii_c2, ii_c3, ii_c4, ii_c5, ii_n1, ii_nn, kC0_v, kC1_v, kC2_v, kC3_v, kC0_x, kC1_x, kC2_x, not_true_eq_false, not_false_eq_true, ne_eq]
  rw [if_pos (Nat.le_refl n)]
  refine e2.trans ?_
  rw [B_Pl_weigh_85, Nat.sub_self, if_pos (by decide)]
theorem R_places (d : Nat) (b : pS) (τ : rT) {m n : Nat} {l : List Nat} (C : rCn τ m n) (rl : rLaw τ l) (mk : Nat → Nat → Nat) (hk : ∀ p t, p < n → t < m → mk p t ≤ 99 ∧ fMk l (τ.2 37) (τ.2 48) p t = Int32.ofNat (mk p t)) : ∃ τ', Er0 τ τ' ∧ vcall (d + 7) m_R_places [.ref 30] (mS b τ) = some (.inl (some (.int (bst mk m n n 0))), mS b τ') := by
  obtain ⟨s9, h256, h1p⟩ := sh_9 ⟨m, by have := C.2.1; omega⟩
  dsimp only at h1p
  obtain ⟨τ1, k1, i1, e1⟩ := c_R_layPlaces d b (wF τ 0 0) (l := l) (m := m) (n := n) ((e_T0 τ).law rl) ((e_T0 τ).cn C) mk hk
  have i0 : τ1.2 54 0 = bst mk m n n 0 := i1 0 0 (Nat.zero_le n) (by omega)
  refine ⟨τ1, (e_T0 τ).tr (k1.up (by decide) (by decide)), (vR rfl).trans ((B_R_places_0 _ _ _).trans ?_)⟩
  simp only [m_pF, obs, e1, kC0_v, m_gF, m_gIl, i0]
theorem Y_places (d : Nat) {b : pS} {L : xA} {s : rT} {m n : Nat} {l : List Nat} (D : Dj L) (C : Cn s m n) (xl : xLaw s l) (mk : Nat → Nat → Nat) (hk : ∀ p t, mk p t ≤ 99) (hk2 : ∀ p t, p < n → t < m → fMk l (s.2 12) (s.2 0) p t = Int32.ofNat (mk p t)) : ∃ s', Ex0 s s' ∧ vcall (d + 6) m_Y_places [.ref 0] (xS b L s) = some (.inl (some (.int (bst mk m n n 0))), xS b L s') := by
  have C' := C
  obtain ⟨hm, h8, hn, h6⟩ := C'
  obtain ⟨s9, h256, h1p⟩ := sh_9 ⟨m, by omega⟩
  dsimp only at h1p
  by_cases h : n ≤ m
  · obtain ⟨s1, k1, a1, a2, i1, i2, e1⟩ := c_L_weigh (d + 1) (b := b) D xl C h mk hk hk2
    have i0 := i2 0 (by omega) (Nat.zero_le n)
    refine ⟨s1, k1.up (by decide) (by decide), (vY D rfl).trans ((B_Y_places_0 _ _ _).trans ?_)⟩
    have et : vcall (d + 5) m_Pl_together [.ref 3] (xS b L s1) = some (.inl (some (.int (s1.2 5 0))), xS b L s1) := by
      refine (vL D rfl).trans ((B_Pl_together_0 _ _ _).trans ?_)
      simp only [x3_gF D, x5_g0 D, obs]
    simp (disch := omega) only [x0_gF D, xu_gF D, obs, hm, hn, ii_le, e1, kC0_v, et, kC1_v]
    rw [if_pos h, i0]
    rfl
  · refine ⟨s, Kf.rf _ _ s, (vY D rfl).trans ((B_Y_places_0 _ _ _).trans ?_)⟩
    simp (disch := omega) only [x0_gF D, xu_gF D, obs, hm, hn, ii_le]
    rw [if_neg h]
    rcases bst_n (mk := mk) (n := n) h8 hk n 0 (by omega) h6 with ⟨-, g⟩ | ⟨g, -⟩
    · rw [g]
    · have : pcN 0 = 0 := by decide
      omega
/-- the least seat by which the most is reached -/
def lsS (mk : Nat → Nat → Nat) (m n p x : Nat) : Int32 := fsA (fun t => !x.testBit t && decide (Int32.ofNat (mk p t) + bst mk m n (n - (p + 1)) (x ||| 2 ^ t) = bst mk m n (n - p) x)) m 0
theorem lsS_t {mk : Nat → Nat → Nat} {m n p x : Nat} (h8 : m ≤ 8) (hk : ∀ p t, mk p t ≤ 99) (hx : x < 2 ^ m) (hp : p < n) (h6 : n ≤ 6) (hc : pcN x = p) (hnm : n ≤ m) : ∃ t, t < m ∧ lsS mk m n p x = Int32.ofNat t ∧ x.testBit t = false := by
  have h256 := (sh_9 ⟨m, by omega⟩).2.1
  dsimp only at h256
  have hr : n - p = n - (p + 1) + 1 := by omega
  have hy : ∀ t, t < m → x.testBit t = false → ∃ k, k ≤ 600 ∧ bst mk m n (n - (p + 1)) (x ||| 2 ^ t) = Int32.ofNat k := fun t ht hb => by
    have b3 := bt_3 h8 hx ht
    have e := pc_s ⟨x, by omega⟩ ⟨t, by omega⟩ hb
    dsimp only at e
    rcases bst_n (n := n) h8 hk (n - (p + 1)) (x ||| 2 ^ t) b3 (by omega) with g | ⟨-, k, k1, k2⟩
    · omega
    · exact ⟨k, by omega, k2⟩
  have hex : ∃ t, t < m ∧ x.testBit t = false ∧ Int32.ofNat (mk p t) + bst mk m n (n - (p + 1)) (x ||| 2 ^ t) = bst mk m n (n - p) x := by
    rw [hr, bst_s, show n - (n - (p + 1) + 1) = p by omega]
    rcases mx_0 m (P := fun t => x.testBit t || decide (bst mk m n (n - (p + 1)) (x ||| 2 ^ t) = -1)) (y := fun t => Int32.ofNat (mk p t) + bst mk m n (n - (p + 1)) (x ||| 2 ^ t)) (fun t ht h => by
      rw [Bool.or_eq_false_iff] at h
      obtain ⟨k, k1, c2⟩ := hy t ht h.1
      have := hk p t
      exact ge_nn (j := mk p t + k) (by omega) (by rw [c2, ii_add])) with ⟨g1, -, -⟩ | ⟨⟨t, g1, g2, g3⟩, -, -⟩
    · obtain ⟨t, t1, t2⟩ := pc_f ⟨m, by omega⟩ ⟨x, by omega⟩ hx (by show pcN x < m; omega)
      obtain ⟨k, k1, c2⟩ := hy t.val t1 t2
      have := g1 t.val t1
      dsimp only at t2 this
      rw [t2, Bool.false_or, decide_eq_true_eq, c2, ii_n1 (by omega)] at this
      exact this.elim
    · rw [Bool.or_eq_false_iff] at g2
      exact ⟨t, g1, g2.1, g3.symm⟩
  obtain ⟨t0, g1, g2, g3⟩ := hex
  rcases fsA_at (fun t => !x.testBit t && decide (Int32.ofNat (mk p t) + bst mk m n (n - (p + 1)) (x ||| 2 ^ t) = bst mk m n (n - p) x)) m 0 with h | ⟨j, -, j1, j2, j3⟩
  · exfalso
    have key : ∀ (P : Nat → Bool) (f k t : Nat), k ≤ t → t < k + f → P t = true → ¬ t ≥ 2147483648 → fsA P f k ≠ -1 := by
      intro P f
      induction f with
      | zero => intro k t a1 a2; omega
      | succ f ih =>
        intro k t a1 a2 a3 a4
        unfold fsA
        cases hP : P k with
        | true => show Int32.ofNat k ≠ -1; intro h; have := ii_n1 (a := k) (by omega); rw [h] at this; simp at this
        | false =>
          have : t ≠ k := fun e => by rw [e, hP] at a3; cases a3
          exact ih (k + 1) t (by omega) (by omega) a3 a4
    exact key _ m 0 t0 (Nat.zero_le _) (by omega) (by rw [g2, g3]; simp) (by omega) h
  · refine ⟨j, by omega, j2, ?_⟩
    rw [Bool.and_eq_true, Bool.not_eq_true'] at j3
    exact j3.1
/-- who sits where, step by step: seats taken -/
def tkS (mk : Nat → Nat → Nat) (m n : Nat) : Nat → Nat
  | 0 => 0
  | p + 1 => tkS mk m n p ||| 2 ^ (lsS mk m n p (tkS mk m n p)).toNatClampNeg
theorem tkS_ok {mk : Nat → Nat → Nat} {m n : Nat} (h8 : m ≤ 8) (hk : ∀ p t, mk p t ≤ 99) (h6 : n ≤ 6) (hnm : n ≤ m) : ∀ p, p ≤ n → tkS mk m n p < 2 ^ m ∧ pcN (tkS mk m n p) = p := by
  have h256 := (sh_9 ⟨m, by omega⟩).2
  dsimp only at h256
  intro p
  induction p with
  | zero => intro _; exact ⟨by show 0 < 2 ^ m; omega, by show pcN 0 = 0; decide⟩
  | succ p ih =>
    intro hp
    obtain ⟨i1, i2⟩ := ih (by omega)
    obtain ⟨t, t1, t2, t3⟩ := lsS_t h8 hk i1 (by omega) h6 i2 hnm
    have e := pc_s ⟨tkS mk m n p, by omega⟩ ⟨t, by omega⟩ t3
    dsimp only at e
    show (tkS mk m n p ||| 2 ^ (lsS mk m n p (tkS mk m n p)).toNatClampNeg) < 2 ^ m ∧ pcN (tkS mk m n p ||| 2 ^ (lsS mk m n p (tkS mk m n p)).toNatClampNeg) = p + 1
    rw [t2, ii_tn (by omega)]
    exact ⟨bt_3 h8 i1 t1, by rw [e, i2]⟩
theorem c_L_leastSeat (d : Nat) {b : pS} {L : xA} {s : rT} {m n : Nat} (D : Dj L) (hm : s.1 32 = Int32.ofNat m) (h8 : m ≤ 8) (h6 : n ≤ 6) (mk : Nat → Nat → Nat) (i1 : ∀ p t, p < n → t < m → s.2 4 (8 * p + t) = Int32.ofNat (mk p t)) (i2 : ∀ x, x < 2 ^ m → pcN x ≤ n → s.2 5 x = bst mk m n (n - pcN x) x) (p x : Nat) (hp : p < n) (hx : x < 2 ^ m) (hc : pcN x = p) : vcall (d + 2) m_Pl_leastSeat [.ref 3, .int (Int32.ofNat p), .int (Int32.ofNat x)] (xS b L s) = some (.inl (some (.int (lsS mk m n p x))), xS b L s) := by
  have h256 := (sh_9 ⟨m, by omega⟩).2.1
  dsimp only at h256
  refine (vL D rfl).trans ((B_Pl_leastSeat_0 _ _ _ _ _).trans ?_)
  refine fs_loop (F := fun k => den (d + 1) m_Pl_leastSeat 2 [.ref 3, .int (Int32.ofNat p), .int (Int32.ofNat x), .int (Int32.ofNat k)] [] (xS b L s)) (R := fun z => some (.inl (some (.int z)), xS b L s)) m (fun t ht => ?_) ?_
  · have h3 := bt_3 h8 hx ht
    rw [B_Pl_leastSeat_2]
    simp (disch := omega) only [x3_gF D, xf_gI D, hm, ii_m1, ii_s1, obs, wF_1, wF_2, wA_1, wA_2, wR_1, wR_2, Nat.reduceEqDiff, Nat.reduceAdd, Nat.reduceMul, if_true, if_false, ite_true, ite_false, ii_la, ii_al, ii_lm, ii_ml, ii_add, ii_mul, ii_1, ii_le, ii_lt, ii_c1, ii_c2, ii_c3, ii_c4, ii_c5, ii_n1, ii_nn, kC0_v, kC1_v, kC2_v, kC3_v, kC0_x, kC1_x, kC2_x, not_true_eq_false, not_false_eq_true, ne_eq, c_Y_hasBit d, bt_1 (x := x) (t := t) (by omega) (by omega), c_L_togetherBy d D p t x (by omega) (by omega) (by omega) (by omega)]
    rw [if_neg (by omega)]
    cases hb : x.testBit t with
    | true => simp only [if_true, i10, eq_self, if_false, not_false_eq_true, Bool.not_true, Bool.false_and, cond_false]
    | false =>
      have e := pc_s ⟨x, by omega⟩ ⟨t, by omega⟩ hb
      dsimp only at e
      have j1 := i2 x hx (by omega)
      have j2 := i2 (x ||| 2 ^ t) h3 (by omega)
      rw [hc] at j1 e
      rw [e] at j2
      simp only [Bool.false_eq_true, if_false, not_true_eq_false, j1, j2, i1 p t hp ht, Bool.not_false, Bool.true_and]
      by_cases h : Int32.ofNat (mk p t) + bst mk m n (n - (p + 1)) (x ||| 2 ^ t) = bst mk m n (n - p) x <;> simp [h]
  · rw [B_Pl_leastSeat_2]
    simp (disch := omega) only [x3_gF D, hm, ii_m1, ii_s1, obs, wF_1, wF_2, wA_1, wA_2, wR_1, wR_2, Nat.reduceEqDiff, Nat.reduceAdd, Nat.reduceMul, if_true, if_false, ite_true, ite_false, ii_la, ii_al, ii_lm, ii_ml, ii_add, ii_mul, ii_1, ii_le, ii_lt, ii_c1, ii_c2, ii_c3, ii_c4, ii_c5, ii_n1, ii_nn, kC0_v, kC1_v, kC2_v, kC3_v, kC0_x, kC1_x, kC2_x, not_true_eq_false, not_false_eq_true, ne_eq]
    rw [if_pos (Nat.le_refl m)]
theorem c_L_seatOf (d : Nat) {b : pS} {L : xA} {s : rT} {m n : Nat} (D : Dj L) (hm : s.1 32 = Int32.ofNat m) (hn : s.1 33 = Int32.ofNat n) (h8 : m ≤ 8) (h6 : n ≤ 6) (hnm : n ≤ m) (mk : Nat → Nat → Nat) (hk : ∀ p t, mk p t ≤ 99) (i1 : ∀ p t, p < n → t < m → s.2 4 (8 * p + t) = Int32.ofNat (mk p t)) (i2 : ∀ x, x < 2 ^ m → pcN x ≤ n → s.2 5 x = bst mk m n (n - pcN x) x) (q : Nat) (hq : q < n) : vcall (d + 3) m_Pl_seatOf [.ref 3, .int (Int32.ofNat q)] (xS b L s) = some (.inl (some (.int (lsS mk m n q (tkS mk m n q)))), xS b L s) := by
  have h256 := (sh_9 ⟨m, by omega⟩).2.1
  dsimp only at h256
  refine (vL D rfl).trans ((B_Pl_seatOf_0 _ _ _ _).trans ?_)
  obtain ⟨y, e, i⟩ := ex_loop (F := fun k (y : Int32) => den (d + 2) m_Pl_seatOf 7 [.ref 3, .int (Int32.ofNat q), .int (Int32.ofNat (tkS mk m n k)), .int y, .int (Int32.ofNat k)] [] (xS b L s)) (I := fun k y => k = 0 ∨ ∃ k', k = k' + 1 ∧ y = lsS mk m n k' (tkS mk m n k')) (q + 1) (-1) (Or.inl rfl) (fun k y hkq hy => by
    obtain ⟨j1, j2⟩ := tkS_ok h8 hk h6 hnm k (by omega)
    obtain ⟨t, t1, t2, t3⟩ := lsS_t h8 hk j1 (by omega) h6 j2 hnm
    refine ⟨lsS mk m n k (tkS mk m n k), ?_, Or.inr ⟨k, rfl, rfl⟩⟩
    have e2 : tkS mk m n (k + 1) = tkS mk m n k ||| 2 ^ t := by
      show tkS mk m n k ||| 2 ^ (lsS mk m n k (tkS mk m n k)).toNatClampNeg = _
      rw [t2, ii_tn (by omega)]
    rw [B_Pl_seatOf_7]
    simp (disch := omega) only [x3_gF D, hn, ii_m1, ii_s1, obs, wF_1, wF_2, wA_1, wA_2, wR_1, wR_2, Nat.reduceEqDiff, Nat.reduceAdd, Nat.reduceMul, if_true, if_false, ite_true, ite_false, ii_la, ii_al, ii_lm, ii_ml, ii_add, ii_mul, ii_1, ii_le, ii_lt, ii_c1, ii_c2, ii_c3, ii_c4, ii_c5, ii_n1, ii_nn, kC0_v, kC1_v, kC2_v, kC3_v, kC0_x, kC1_x, kC2_x, not_true_eq_false, not_false_eq_true, ne_eq, c_L_leastSeat d D hm h8 h6 mk i1 i2 k (tkS mk m n k) (show k < n by omega) j1 j2]
    rw [if_neg (by omega), if_neg (by omega), t2, if_pos (by rw [ii_n1 (by omega)]; simp), bt_2 (by omega) (by omega), e2])
  refine e.trans ?_
  rcases i with i | ⟨k', i, rfl⟩
  · omega
  · rw [B_Pl_seatOf_7]
    simp (disch := omega) only [ii_m1, ii_s1, obs, wF_1, wF_2, wA_1, wA_2, wR_1, wR_2, Nat.reduceEqDiff, Nat.reduceAdd, Nat.reduceMul, if_true, if_false, ite_true, ite_false, ii_la, ii_al, ii_lm, ii_ml, ii_add, ii_mul, ii_1, ii_le, ii_lt, ii_c1, ii_c2, ii_c3, ii_c4, ii_c5, ii_n1, ii_nn, kC0_v, kC1_v, kC2_v, kC3_v, kC0_x, kC1_x, kC2_x, not_true_eq_false, not_false_eq_true, ne_eq]
    rw [if_pos (by omega), show k' = q by omega]
theorem R_placed (d : Nat) (b : pS) (τ : rT) {m n : Nat} {l : List Nat} (C : rCn τ m n) (rl : rLaw τ l) (mk : Nat → Nat → Nat) (hk9 : ∀ p t, mk p t ≤ 99) (hk : ∀ p t, p < n → t < m → mk p t ≤ 99 ∧ fMk l (τ.2 37) (τ.2 48) p t = Int32.ofNat (mk p t)) (q : Nat) (hq : q < n) : ∃ τ', Er0 τ τ' ∧ τ'.1 0 = 0 ∧ vcall (d + 7) m_R_placed [.ref 30, .int (Int32.ofNat q)] (mS b τ) = some (.inl (some (.int (if n ≤ m then lsS mk m n q (tkS mk m n q) else -1))), mS b τ') := by
  have C0 : rCn (wF τ 0 0) m n := C
  obtain ⟨hm, h8, hn, h6⟩ := C
  obtain ⟨s9, h256, h1p⟩ := sh_9 ⟨m, by omega⟩
  dsimp only at h1p h256
  have rl0 : rLaw (wF τ 0 0) l := rl
  obtain ⟨τ1, k1, i1, e1⟩ := c_R_layPlaces d b (wF τ 0 0) (l := l) (m := m) (n := n) rl0 C0 mk hk
  have i0 : τ1.2 54 0 = bst mk m n n 0 := i1 0 0 (Nat.zero_le n) (by omega)
  have ix : ∀ p x, p < 7 → x < 256 → ((Int32.ofNat p <<< ((8 : Int32) &&& 31)) ||| Int32.ofNat x) = Int32.ofNat (256 * p + x) := fun p x hp hx => ix_s ⟨p, hp⟩ ⟨x, hx⟩
  have start : ∀ X, (∃ τ', Kf [] [44, 45, 54] (wF τ 0 0) τ' ∧ (if ¬ bst mk m n n 0 = -1 then den (d + 6) m_R_placed 36 [.ref 30, .int (Int32.ofNat q), .int 0, .int 0, mk0] [] (mS b τ1) else some (.inl (some (.int (-1))), mS b τ1)) = some (.inl (some (.int X)), mS b τ')) → ∃ τ', Er0 τ τ' ∧ τ'.1 0 = 0 ∧ vcall (d + 7) m_R_placed [.ref 30, .int (Int32.ofNat q)] (mS b τ) = some (.inl (some (.int X)), mS b τ') := by
    rintro X ⟨τ', k', e'⟩
    refine ⟨τ', (e_T0 τ).tr (k'.up (by decide) (by decide)), k'.1 0 (by decide), (vR rfl).trans ((B_R_placed_0 _ _ _ _).trans ?_)⟩
    simp only [m_pF, obs, iP_ok (d + 4) hn (show n ≤ 8 by omega) hq, kC1_v, kC0_v, i10, eq_self, if_false, if_true, not_false_eq_true, e1, m_gF, m_gIl, i0]
    exact e'
  apply start
  have h0 : pcN 0 = 0 := by decide
  by_cases hnm : n ≤ m
  · rw [if_pos hnm]
    have hb0 : ¬ bst mk m n n 0 = -1 := by
      rcases bst_n (mk := mk) (n := n) h8 hk9 n 0 (by omega) h6 with ⟨g, -⟩ | ⟨-, k, k1, k2⟩
      · omega
      · rw [k2, ii_n1 (by omega)]; simp
    rw [if_pos hb0]
    have key : ∀ f p (x : rT) (v : Value), p + f = q → Kf [] [44, 45] τ1 x → ∃ τ', Kf [] [44, 45] τ1 τ' ∧ den (d + 6) m_R_placed 36 [.ref 30, .int (Int32.ofNat q), .int (Int32.ofNat (tkS mk m n p)), .int (Int32.ofNat p), v] [] (mS b x) = some (.inl (some (.int (lsS mk m n q (tkS mk m n q)))), mS b τ') := by
      have inner : ∀ p, p < n → ∀ (x : rT), Kf [] [44, 45] τ1 x → ∃ x', Kf [] [44, 45] τ1 x' ∧ ∃ t, t < m ∧ lsS mk m n p (tkS mk m n p) = Int32.ofNat t ∧ den (d + 6) m_R_placed 39 [.ref 30, .int (Int32.ofNat q), .int (Int32.ofNat (tkS mk m n p)), .int (Int32.ofNat p), .int 0] [] (mS b x) = (if ¬ Int32.ofNat p = Int32.ofNat q then den (d + 6) m_R_placed 36 [.ref 30, .int (Int32.ofNat q), .int (Int32.ofNat (tkS mk m n p ||| 2 ^ t)), .int (Int32.ofNat (p + 1)), .int (Int32.ofNat t)] [] (mS b x') else some (.inl (some (.int (Int32.ofNat t))), mS b x')) := by
        intro p hp x kx
        obtain ⟨j1, j2⟩ := tkS_ok h8 hk9 h6 hnm p (by omega)
        obtain ⟨t, t1, t2, t3⟩ := lsS_t h8 hk9 j1 hp h6 j2 hnm
        have go : ∀ f k (x : rT), k + f = m → Kf [] [44, 45] τ1 x → fsA (fun t => !(tkS mk m n p).testBit t && decide (Int32.ofNat (mk p t) + bst mk m n (n - (p + 1)) (tkS mk m n p ||| 2 ^ t) = bst mk m n (n - p) (tkS mk m n p))) f k = Int32.ofNat t → ∃ x', Kf [] [44, 45] τ1 x' ∧ den (d + 6) m_R_placed 39 [.ref 30, .int (Int32.ofNat q), .int (Int32.ofNat (tkS mk m n p)), .int (Int32.ofNat p), .int (Int32.ofNat k)] [] (mS b x) = (if ¬ Int32.ofNat p = Int32.ofNat q then den (d + 6) m_R_placed 36 [.ref 30, .int (Int32.ofNat q), .int (Int32.ofNat (tkS mk m n p ||| 2 ^ t)), .int (Int32.ofNat (p + 1)), .int (Int32.ofNat t)] [] (mS b x') else some (.inl (some (.int (Int32.ofNat t))), mS b x')) := by
          intro f
          induction f with
          | zero =>
            intro k x _ _ h
            exfalso
            have : (-1 : Int32) = Int32.ofNat t := h
            have e := ii_n1 (a := t) (by omega)
            rw [← this] at e; simp at e
          | succ f ih =>
            intro k x hkf kx h
            have hkm : k < m := by omega
            have hx3 := bt_3 h8 j1 hkm
            generalize hX : tkS mk m n p = X at *
            have hbt := bt_1 (x := X) (t := k) (by omega) (by omega)
            have x54 : x.2 54 = τ1.2 54 := kx.2 54 (by decide)
            have ev : x.2 54 (256 * (p + 1) + (X ||| 2 ^ k)) = bst mk m n (n - (p + 1)) (X ||| 2 ^ k) := by rw [x54]; exact i1 (p + 1) _ (by omega) hx3
            have eix : ((((Int32.ofNat p + 1) <<< ((8 : Int32) &&& 31)) ||| Int32.ofNat X) ||| (1 <<< (Int32.ofNat k &&& 31))) = Int32.ofNat (256 * (p + 1) + (X ||| 2 ^ k)) := by
              rw [ii_1, Int32.or_assoc, bt_2 (by omega) (by omega), ix (p + 1) _ (by omega) (by omega)]
            have g49 : ∀ z : rT, gFr (mS b z) 30 11 49 = some 54 := fun z => by simp only [m_gF]
            have g54 : ∀ (z : rT) (i : Nat), i < 1792 → gI (mS b z) 54 (Int32.ofNat i) = some (z.2 54 i) := fun z i hi => by simp (disch := omega) only [m_gI]
            unfold fsA at h
            cases hb : X.testBit k with
            | true =>
              rw [hb, Bool.not_true, Bool.false_and, cond_false] at h
              obtain ⟨x', k', e'⟩ := ih (k + 1) x (by omega) kx h
              refine ⟨x', k', ?_⟩
              rw [B_R_placed_39, if_pos (by rw [hbt]; exact hb), ii_1]
              exact e'
            | false =>
              have e := pc_s ⟨X, by omega⟩ ⟨k, by omega⟩ hb
              dsimp only at e
              have hv : ¬ bst mk m n (n - (p + 1)) (X ||| 2 ^ k) = -1 := by
                rcases bst_n (n := n) h8 hk9 (n - (p + 1)) (X ||| 2 ^ k) hx3 (by omega) with g | ⟨-, i, i1, i2⟩
                · omega
                · rw [i2, ii_n1 (by omega)]; simp
              obtain ⟨τ3, k3, e3⟩ := c_R_firstMark (d + 1) b x (kx.law (k1.law rl0)) p k (by omega) (by omega)
              rw [(k1.tr (kx.up (by decide) (by decide))).2 37 (by decide), (k1.tr (kx.up (by decide) (by decide))).2 48 (by decide)] at e3
              have m2 := (hk p k hp hkm).2
              rw [show (wF τ 0 0).2 37 = τ.2 37 from rfl, show (wF τ 0 0).2 48 = τ.2 48 from rfl, m2] at e3
              have y54 : τ3.2 54 = x.2 54 := k3.2 54 (by decide)
              have ev2 : τ3.2 54 (256 * p + X) = bst mk m n (n - p) X := by rw [y54, x54]; exact i1 p X (by omega) j1
              rw [hb, Bool.not_false, Bool.true_and] at h
              by_cases hq2 : Int32.ofNat (mk p k) + bst mk m n (n - (p + 1)) (X ||| 2 ^ k) = bst mk m n (n - p) X
              · rw [decide_eq_true hq2, cond_true, ii_eq (by omega) (by omega)] at h
                refine ⟨τ3, kx.tr k3, ?_⟩
                rw [B_R_placed_39, if_neg (by rw [hbt, hb]; simp), g49, obs, eix, g54 _ _ (by omega), obs, ev, if_neg hv, e3, kC1_v, g49, obs, g54 _ _ (by omega), obs, y54, ev, obs, ix p X (by omega) (by omega), g54 _ _ (by omega), obs, ev2, if_pos hq2, bt_2 (by omega) (by omega), ii_1, h]
              · rw [decide_eq_false hq2, cond_false] at h
                obtain ⟨x', k', e'⟩ := ih (k + 1) τ3 (by omega) (kx.tr k3) h
                refine ⟨x', k', ?_⟩
                rw [B_R_placed_39, if_neg (by rw [hbt, hb]; simp), g49, obs, eix, g54 _ _ (by omega), obs, ev, if_neg hv, e3, kC1_v, g49, obs, g54 _ _ (by omega), obs, y54, ev, obs, ix p X (by omega) (by omega), g54 _ _ (by omega), obs, ev2, if_neg hq2, ii_1]
                exact e'
        obtain ⟨x', k', e'⟩ := go m 0 x (by omega) kx t2
        exact ⟨x', k', t, t1, t2, e'⟩
      intro f
      induction f with
      | zero =>
        intro p x v hpf kx
        obtain ⟨x', k', t, t1, t2, e'⟩ := inner p (by omega) x kx
        refine ⟨x', k', ?_⟩
        rw [B_R_placed_36, e', if_neg (fun g => g (by rw [show p = q by omega])), ← t2, show p = q by omega]
      | succ f ih =>
        intro p x v hpf kx
        obtain ⟨x', k', t, t1, t2, e'⟩ := inner p (by omega) x kx
        obtain ⟨x2, k2, e2⟩ := ih (p + 1) x' (.int (Int32.ofNat t)) (by omega) k'
        refine ⟨x2, k2, ?_⟩
        have e3 : tkS mk m n (p + 1) = tkS mk m n p ||| 2 ^ t := by
          show tkS mk m n p ||| 2 ^ (lsS mk m n p (tkS mk m n p)).toNatClampNeg = _
          rw [t2, ii_tn (by omega)]
        rw [e3] at e2
        rw [B_R_placed_36, e', if_pos (by rw [ii_eq (by omega) (by omega)]; omega)]
        exact e2
    obtain ⟨τ', k', e'⟩ := key q 0 τ1 mk0 (by omega) (Kf.rf _ _ _)
    exact ⟨τ', k1.tr (k'.up (by decide) (by decide)), e'⟩
  · rw [if_neg hnm]
    have hb0 : bst mk m n n 0 = -1 := by
      rcases bst_n (mk := mk) (n := n) h8 hk9 n 0 (by omega) h6 with ⟨-, g⟩ | ⟨g, -⟩
      · exact g
      · omega
    refine ⟨τ1, k1, ?_⟩
    rw [if_neg (fun g => g hb0)]
theorem Y_placed (d : Nat) {b : pS} {L : xA} {s : rT} {m n : Nat} {l : List Nat} (D : Dj L) (C : Cn s m n) (xl : xLaw s l) (mk : Nat → Nat → Nat) (hk : ∀ p t, mk p t ≤ 99) (hk2 : ∀ p t, p < n → t < m → fMk l (s.2 12) (s.2 0) p t = Int32.ofNat (mk p t)) (q : Nat) (hq : q < n) : ∃ s', Ex0 s s' ∧ vcall (d + 6) m_Y_placed [.ref 0, .int (Int32.ofNat q)] (xS b L s) = some (.inl (some (.int (if n ≤ m then lsS mk m n q (tkS mk m n q) else -1))), xS b L s') := by
  have C' := C
  obtain ⟨hm, h8, hn, h6⟩ := C'
  by_cases h : n ≤ m
  · obtain ⟨s1, k1, a1, a2, i1, i2, e1⟩ := c_L_weigh (d + 1) (b := b) D xl C h mk hk hk2
    refine ⟨s1, k1.up (by decide) (by decide), (vY D rfl).trans ((B_Y_placed_0 _ _ _ _).trans ?_)⟩
    simp (disch := omega) only [nP_ok (d + 3) D hn (show n ≤ 8 by omega) hq, x0_gF D, xu_gF D, obs, hm, hn, ii_le, e1, kC0_v, c_L_seatOf (d + 2) D a1 a2 h8 h6 h mk hk i1 i2 q hq, kC1_v]
    rw [if_pos h, if_pos h]
  · refine ⟨s, Kf.rf _ _ s, (vY D rfl).trans ((B_Y_placed_0 _ _ _ _).trans ?_)⟩
    simp (disch := omega) only [nP_ok (d + 3) D hn (show n ≤ 8 by omega) hq, x0_gF D, xu_gF D, obs, hm, hn, ii_le, kC0_v]
    rw [if_neg h, if_neg h]
theorem P_places {S : pS} {L : xA} {s τ : rT} {m n q : Nat} {l : List Nat} (I : Iv S L s τ m n q l) (hd : RD s τ) : Pd m_Y_places m_R_places [] S := by
  have I' := I; obtain ⟨D, A, hx, hr, ho, ⟨C, Cr, ⟨q1, q2, q3⟩, hy, hdy, hdk, xl, rl, hb1, hb2⟩, ⟨⟨tk, k1, k2, k3⟩, tb, tf, tr⟩, ⟨e48, hsc⟩, rc⟩ := I'; have C' := C; have Cr' := Cr; obtain ⟨hm, h8, hn, h6⟩ := C'; obtain ⟨hm', -, hn', -⟩ := Cr'
  have hM : ∀ p t, (fMk l (s.2 12) (s.2 0) p t).toNatClampNeg ≤ 99 ∧ fMk l (s.2 12) (s.2 0) p t = Int32.ofNat (fMk l (s.2 12) (s.2 0) p t).toNatClampNeg := fun p t => by
    obtain ⟨j, j1, j2⟩ := mkv_j l (s.2 0 t) (s.2 12 p) 0 0 (Int32.ofNat t) (Int32.ofNat p) 0 0
    have j3 : fMk l (s.2 12) (s.2 0) p t = Int32.ofNat j := j2
    rw [j3, ii_tn (by omega)]; exact ⟨j1, rfl⟩
  have hR : ∀ p t, p < n → t < m → (fMk l (s.2 12) (s.2 0) p t).toNatClampNeg ≤ 99 ∧ fMk l (τ.2 37) (τ.2 48) p t = Int32.ofNat (fMk l (s.2 12) (s.2 0) p t).toNatClampNeg := fun p t hp _ => by rw [← fMk_c (hdk p hp).1, ← e48]; exact hM p t
  exact P_dq I hd (Y_places 194 D C xl (fun p t => (fMk l (s.2 12) (s.2 0) p t).toNatClampNeg) (fun p t => (hM p t).1) (fun p t _ _ => (hM p t).2)) (fun b => R_places 193 b τ Cr rl _ hR)
theorem P_placed {S : pS} {L : xA} {s τ : rT} {m n q : Nat} {l : List Nat} (I : Iv S L s τ m n q l) (hd : RD s τ) (p : Int32) : Pr m_L_placed m_R_placed [.int p] S := by
  have I' := I; obtain ⟨D, A, hx, hr, ho, ⟨C, Cr, ⟨q1, q2, q3⟩, hy, hdy, hdk, xl, rl, hb1, hb2⟩, ⟨⟨tk, k1, k2, k3⟩, tb, tf, tr⟩, ⟨e48, hsc⟩, rc⟩ := I'; have C' := C; have Cr' := Cr; obtain ⟨hm, h8, hn, h6⟩ := C'; obtain ⟨hm', -, hn', -⟩ := Cr'
  have hL := (cR (d := 199) (M := m_L_placed) (as := [.ref 0, .int p, .ref 58]) (s := S)).trans (B_L_placed_0 _ _ _ _ _)
  by_cases h0_ : 0 ≤ p ∧ p < Int32.ofNat n
  · obtain ⟨p, lp, rfl⟩ := ii_ex (by omega) h0_.1 h0_.2
    have hM : ∀ p t, (fMk l (s.2 12) (s.2 0) p t).toNatClampNeg ≤ 99 ∧ fMk l (s.2 12) (s.2 0) p t = Int32.ofNat (fMk l (s.2 12) (s.2 0) p t).toNatClampNeg := fun p t => by
      obtain ⟨j, j1, j2⟩ := mkv_j l (s.2 0 t) (s.2 12 p) 0 0 (Int32.ofNat t) (Int32.ofNat p) 0 0
      have j3 : fMk l (s.2 12) (s.2 0) p t = Int32.ofNat j := j2
      rw [j3, ii_tn (by omega)]; exact ⟨j1, rfl⟩
    have hR : ∀ p t, p < n → t < m → (fMk l (s.2 12) (s.2 0) p t).toNatClampNeg ≤ 99 ∧ fMk l (τ.2 37) (τ.2 48) p t = Int32.ofNat (fMk l (s.2 12) (s.2 0) p t).toNatClampNeg := fun p t hp _ => by rw [← fMk_c (hdk p hp).1, ← e48]; exact hM p t
    exact P_q I hd hL (Y_placed 193 D C xl (fun p t => (fMk l (s.2 12) (s.2 0) p t).toNatClampNeg) (fun p t => (hM p t).1) (fun p t _ _ => (hM p t).2) p lp) (fun b => R_placed 193 b τ Cr rl _ (fun p t => (hM p t).1) hR p lp)
  · have ya : ∀ d, vcall (d + 4) m_Y_placed [.ref 0, .int p] (xS S L s) = xE0 S L s := fun d => by
      refine (vY D rfl).trans ((B_Y_placed_0 _ _ _ _).trans ?_)
      rw [nP_no (d + 1) D (by rw [hn]; exact h0_)]
      rfl
    have ra : ∀ d b, vcall (d + 3) m_R_placed [.ref 30, .int p] (mS b τ) = some (.inl (some (.int 0)), mS b (rN τ 1 0)) := fun d b => by
      refine (vR rfl).trans ((B_R_placed_0 _ _ _ _).trans ?_)
      simp only [m_pF, obs, iP_no d hn' (show n ≤ 8 by omega) h0_ (show (1 : Int32) ≠ 0 by decide), kC1_v, i10, eq_self, if_true, if_false, not_true_eq_false, not_false_eq_true]
    exact P_e (k := 1) I hd hL (fun _ _ => rfl) (by decide) (ya 195) (ra 197)
