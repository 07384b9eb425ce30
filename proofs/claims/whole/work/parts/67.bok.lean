/-! THE BOOK, read -/
/-- a new book, being read -/
def bQ (M mm : Nat) (H : pH) (L : xA) (s : rT) (x y : Int32) (am : Nat → Int32) : pS := xS (aL M mm [cO 0 [.ref (M + 1), .int x, .int y], cI 8 (cut 8 am)] H) L s
section
variable {M mm : Nat} {H : pH} {L : xA} {s : rT} {x y : Int32} {am : Nat → Int32}
theorem bQ_0 (o : ∀ j, M ≤ j → Ot L j) : (bQ M mm H L s x y am).2.2 M = some (cO 0 [.ref (M + 1), .int x, .int y]) := (xS_o (o M (Nat.le_refl _))).trans (aL_i (i := 0) rfl)
theorem bQ_1 (o : ∀ j, M ≤ j → Ot L j) : (bQ M mm H L s x y am).2.2 (M + 1) = some (cI 8 (cut 8 am)) := (xS_o (o _ (by omega))).trans (aL_i (i := 1) rfl)
theorem bQ_g (o : ∀ j, M ≤ j → Ot L j) : gFr (bQ M mm H L s x y am) M 0 0 = some (M + 1) ∧ gFi (bQ M mm H L s x y am) M 0 1 = some x ∧ gFi (bQ M mm H L s x y am) M 0 2 = some y := ⟨gFr_at (bQ_0 o) rfl, gFi_at (bQ_0 o) rfl, gFi_at (bQ_0 o) rfl⟩
theorem bQ_v {d K : Nat} {as : List Value} (o : ∀ j, M ≤ j → Ot L j) (h : mO K = 0) : vcall (d + 1) K (.ref M :: as) (bQ M mm H L s x y am) = den d K 0 (ent K (.ref M :: as)) [] (bQ M mm H L s x y am) := by
  have h1 : rcv K (.ref M :: as) (bQ M mm H L s x y am) = true := by
    show isO _ M (mO K) = true
    rw [h]; exact isO_at (bQ_0 o)
  unfold vcall
  rw [h1]
  rfl
theorem bQ_s {i : Nat} (o : ∀ j, M ≤ j → Ot L j) (cs : List pC) (hi : i < cs.length) (c : pC) : pSet (xS (aL M mm cs H) L s) (M + i) c = xS (aL M mm (cs.set i c) H) L s := by
  rw [xS_so (o _ (by omega)), aL_set hi]
theorem bQ_p (o : ∀ j, M ≤ j → Ot L j) (v : Int32) : pF (bQ M mm H L s x y am) M 0 1 (.int v) = some (bQ M mm H L s v y am) ∧ pF (bQ M mm H L s x y am) M 0 2 (.int v) = some (bQ M mm H L s x v am) := by
  refine ⟨?_, ?_⟩
  · rw [pF_at (bQ_0 o) (by show 1 < 3; decide)]
    exact congrArg some (bQ_s (i := 0) o _ (by show 0 < 2; decide) _)
  · rw [pF_at (bQ_0 o) (by show 2 < 3; decide)]
    exact congrArg some (bQ_s (i := 0) o _ (by show 0 < 2; decide) _)
theorem bQ_i (o : ∀ j, M ≤ j → Ot L j) {t : Nat} (ht : t < 8) (v : Int32) : pI (bQ M mm H L s x y am) (M + 1) (Int32.ofNat t) v = some (bQ M mm H L s x y (upd am t v)) := by
  rw [pI_at (bQ_1 o) ht (by decide), cut_upd _ _ ht]
  exact congrArg some (bQ_s (i := 1) o _ (by show 1 < 2; decide) _)
end
theorem bits8 : ∀ (k : Fin 256) (t u : Fin 8), (Int32.ofNat k.val ||| (1 <<< (Int32.ofNat t.val &&& 31))) = Int32.ofNat (k.val ||| 2 ^ t.val) ∧ k.val ||| 2 ^ t.val < 256 ∧ (Int32.ofNat (k.val ||| 2 ^ t.val) >>> (Int32.ofNat u.val &&& 31)) &&& 1 = if u = t then 1 else (Int32.ofNat k.val >>> (Int32.ofNat u.val &&& 31)) &&& 1 := by decide +kernel
theorem bkR_up {k t w : Nat} {am bo : Nat → Int32} (hk : k < 256) (ht : t < 8) (hw : w ≤ 9999) (h : ∀ u, u < 8 → bkR (Int32.ofNat k) (am u) (bo u) u) : (Int32.ofNat k ||| (1 <<< (Int32.ofNat t &&& 31))) = Int32.ofNat (k ||| 2 ^ t) ∧ k ||| 2 ^ t < 256 ∧ ∀ u, u < 8 → bkR (Int32.ofNat (k ||| 2 ^ t)) (upd am t (Int32.ofNat w) u) (upd bo t (Int32.ofNat w) u) u := by
  have e := bits8 ⟨k, hk⟩ ⟨t, ht⟩
  refine ⟨(e 0).1, (e 0).2.1, fun u hu => ?_⟩
  have eu := (e ⟨u, hu⟩).2.2
  dsimp only at eu
  by_cases g : u = t
  · subst g
    rw [if_pos rfl] at eu
    rw [upd_s, upd_s]
    exact Or.inr ⟨w, hw, rfl, rfl, eu⟩
  · rw [if_neg (fun h => g (congrArg Fin.val h))] at eu
    rw [upd_n _ _ g, upd_n _ _ g]
    unfold bkR
    rw [eu]
    exact h u hu
theorem m_1 {m : Nat} (h : m ≤ 8) : Int32.ofNat m - 1 ≤ 9999 := by
  have : m = 0 ∨ m = 1 ∨ m = 2 ∨ m = 3 ∨ m = 4 ∨ m = 5 ∨ m = 6 ∨ m = 7 ∨ m = 8 := by omega
  rcases this with rfl | rfl | rfl | rfl | rfl | rfl | rfl | rfl | rfl <;> decide
theorem nv_lt {B : Nat → Nat} {N : Nat} (hB : ∀ i, B i < 256) (hN : N ≤ 600) {a m : Nat} (ha : a ≤ N) (h : m ≤ 8) (g : (0 : Int32) ≤ Int32.ofNat (nv B N a) ∧ Int32.ofNat (nv B N a) ≤ Int32.ofNat m - 1) : nv B N a < m := by
  have e := (nr_iff hB hN ha (lo := 0) (hi := Int32.ofNat m - 1) (m_1 h)).1
  rw [rg_m (by omega), ii_lt e (by omega)] at g
  exact g.2
theorem R_isMore {B : Nat → Nat} {N : Nat} (hB : ∀ i, B i < 256) (hN : N ≤ 600) (d : Nat) (b : pS) {τ : rT} {a : Nat} (ha : a ≤ N) (T : TR B N a τ) : ∃ τ', Kf [4] [] τ τ' ∧ TR B N (sk B N a) τ' ∧ vcall (d + 2) m_R_isMore [.ref 30] (mS b τ) = some (.inl (some (.int (if sk B N a < N then 1 else 0))), mS b τ') := by
  obtain ⟨s1, k1, k2, k3⟩ := R_here hB hN d b ha T
  have hs := sk_le (B := B) ha
  refine ⟨s1, k1, k2, (vR rfl).trans ((B_R_isMore_0 _ _ _).trans ?_)⟩
  rw [k3, kC1_v]
  simp only [m_gF, k2.1, k2.2.1, obs]
  by_cases g : sk B N a < N
  · rw [if_neg (by rw [ii_le (by omega) (by omega)]; omega), if_pos g]
  · rw [if_pos (by rw [ii_le (by omega) (by omega)]; omega), if_neg g]
theorem X_hasLine (d : Nat) {M mm : Nat} {H : pH} {L : xA} {s : rT} {x y : Int32} {am : Nat → Int32} (o : ∀ j, M ≤ j → Ot L j) (t : Int32) : vcall (d + 2) m_Bk_hasLine [.ref M, .int t] (bQ M mm H L s x y am) = some (.inl (some (.int (if (x >>> (t &&& 31)) &&& 1 = 1 then 1 else 0))), bQ M mm H L s x y am) := by
  refine (bQ_v o rfl).trans ((B_Bk_hasLine_0 _ _ _ _).trans ?_)
  rw [(bQ_g o).2.1, obs, c_Y_hasBit, kC1_v]
  by_cases h : (x >>> (t &&& 31)) &&& 1 = 1
  · rw [if_pos h, if_pos (by decide)]
  · rw [if_neg h, if_pos (by decide)]
/-- when there is a fault: how the reference's reading of the book ends -/
theorem R_bk_b (d : Nat) (b : pS) {τ : rT} (h5 : τ.1 5 ≠ -1) (l1 l2 l3 l4 : Int32) (l5 : Value) : den (d + 3) m_R_book 128 [.ref 30, .int l1, .int l2, .int l3, .int l4, l5] [] (mS b τ) = den (d + 3) m_R_book 188 [.ref 30, .int l1, .int l2, .int l3, .int l4, .int 0] [] (mS b τ) := by
  rw [B_R_book_128, R_fine0 (d + 2) b h5, kC1_v, if_pos rfl, B_R_book_147, R_num_b (d + 1) b h5, kC1_v, R_sign_b (d + 1) b h5, kC0_v, R_fine0 (d + 2) b h5, kC1_v, if_neg (by decide)]
