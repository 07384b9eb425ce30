/-! WORK, being read: its cells, its tokens -/
def wkL (M : Nat) (r : rT) : List pC := [cO 9 [.ref (M + 1), .ref (M + 2), .ref (M + 3), .ref (M + 4), .ref (M + 5), .int (r.1 5), .int (r.1 6), .int (r.1 7), .int (r.1 8)], cI 64 (cut 64 (r.2 1)), cI 64 (cut 64 (r.2 2)), cI 64 (cut 64 (r.2 3)), cI 64 (cut 64 (r.2 4)), cI 6 (cut 6 (r.2 5))]
def kQ (M mm : Nat) (H : pH) (L : xA) (s r : rT) (ex : List pC) : pS := xS (aL M mm (wkL M r ++ ex) H) L s
section
variable {M mm : Nat} {H : pH} {L : xA} {s r : rT} {ex : List pC}
theorem kQ_i (o : ∀ j, M ≤ j → Ot L j) {i : Nat} {c : pC} (h : (wkL M r ++ ex)[i]? = some c) : (kQ M mm H L s r ex).2.2 (M + i) = some c := (xS_o (o _ (by omega))).trans (aL_i h)
theorem kQ_0 (o : ∀ j, M ≤ j → Ot L j) : (kQ M mm H L s r ex).2.2 M = some (cO 9 [.ref (M + 1), .ref (M + 2), .ref (M + 3), .ref (M + 4), .ref (M + 5), .int (r.1 5), .int (r.1 6), .int (r.1 7), .int (r.1 8)]) := kQ_i (i := 0) o rfl
theorem kQ_gR (o : ∀ j, M ≤ j → Ot L j) : gFr (kQ M mm H L s r ex) M 9 0 = some (M + 1) ∧ gFr (kQ M mm H L s r ex) M 9 1 = some (M + 2) ∧ gFr (kQ M mm H L s r ex) M 9 2 = some (M + 3) ∧ gFr (kQ M mm H L s r ex) M 9 3 = some (M + 4) ∧ gFr (kQ M mm H L s r ex) M 9 4 = some (M + 5) := ⟨gFr_at (kQ_0 o) rfl, gFr_at (kQ_0 o) rfl, gFr_at (kQ_0 o) rfl, gFr_at (kQ_0 o) rfl, gFr_at (kQ_0 o) rfl⟩
theorem kQ_gF (o : ∀ j, M ≤ j → Ot L j) : gFi (kQ M mm H L s r ex) M 9 5 = some (r.1 5) ∧ gFi (kQ M mm H L s r ex) M 9 6 = some (r.1 6) ∧ gFi (kQ M mm H L s r ex) M 9 7 = some (r.1 7) ∧ gFi (kQ M mm H L s r ex) M 9 8 = some (r.1 8) := ⟨gFi_at (kQ_0 o) rfl, gFi_at (kQ_0 o) rfl, gFi_at (kQ_0 o) rfl, gFi_at (kQ_0 o) rfl⟩
theorem kQ_gN (o : ∀ j, M ≤ j → Ot L j) : gN (kQ M mm H L s r ex) (M + 1) = some 64 ∧ gN (kQ M mm H L s r ex) (M + 2) = some 64 ∧ gN (kQ M mm H L s r ex) (M + 3) = some 64 ∧ gN (kQ M mm H L s r ex) (M + 4) = some 64 ∧ gN (kQ M mm H L s r ex) (M + 5) = some 6 := ⟨gN_at (kQ_i (i := 1) o rfl), gN_at (kQ_i (i := 2) o rfl), gN_at (kQ_i (i := 3) o rfl), gN_at (kQ_i (i := 4) o rfl), gN_at (kQ_i (i := 5) o rfl)⟩
theorem kQ_v {d K : Nat} {as : List Value} (o : ∀ j, M ≤ j → Ot L j) (h : mO K = 9) : vcall (d + 1) K (.ref M :: as) (kQ M mm H L s r ex) = den d K 0 (ent K (.ref M :: as)) [] (kQ M mm H L s r ex) := by
  have h1 : rcv K (.ref M :: as) (kQ M mm H L s r ex) = true := by
    show isO _ M (mO K) = true
    rw [h]; exact isO_at (kQ_0 o)
  unfold vcall
  rw [h1]
  rfl
theorem kQ_l (i : Nat) (hi : i < 6) : i < (wkL M r ++ ex).length := by rw [List.length_append]; show i < 6 + _; omega
theorem kQ_pF (o : ∀ j, M ≤ j → Ot L j) (v : Int32) : pF (kQ M mm H L s r ex) M 9 5 (.int v) = some (kQ M mm H L s (wF r 5 v) ex) ∧ pF (kQ M mm H L s r ex) M 9 6 (.int v) = some (kQ M mm H L s (wF r 6 v) ex) ∧ pF (kQ M mm H L s r ex) M 9 7 (.int v) = some (kQ M mm H L s (wF r 7 v) ex) ∧ pF (kQ M mm H L s r ex) M 9 8 (.int v) = some (kQ M mm H L s (wF r 8 v) ex) := by
  have e : ∀ k, k < 9 → pF (kQ M mm H L s r ex) M 9 k (.int v) = some (xS (aL M mm ((wkL M r ++ ex).set 0 (cO 9 ([.ref (M + 1), .ref (M + 2), .ref (M + 3), .ref (M + 4), .ref (M + 5), .int (r.1 5), .int (r.1 6), .int (r.1 7), .int (r.1 8)].set k (.int v)))) H) L s) := fun k hk => by
    rw [pF_at (kQ_0 o) hk]
    exact congrArg some (bQ_s (i := 0) o _ (kQ_l 0 (by decide)) _)
  exact ⟨e 5 (by decide), e 6 (by decide), e 7 (by decide), e 8 (by decide)⟩
theorem kQ_gI (o : ∀ j, M ≤ j → Ot L j) {k : Nat} : (k < 64 → gI (kQ M mm H L s r ex) (M + 1) (Int32.ofNat k) = some (r.2 1 k)) ∧ (k < 64 → gI (kQ M mm H L s r ex) (M + 2) (Int32.ofNat k) = some (r.2 2 k)) ∧ (k < 64 → gI (kQ M mm H L s r ex) (M + 3) (Int32.ofNat k) = some (r.2 3 k)) ∧ (k < 64 → gI (kQ M mm H L s r ex) (M + 4) (Int32.ofNat k) = some (r.2 4 k)) ∧ (k < 6 → gI (kQ M mm H L s r ex) (M + 5) (Int32.ofNat k) = some (r.2 5 k)) := by
  refine ⟨fun hk => ?_, fun hk => ?_, fun hk => ?_, fun hk => ?_, fun hk => ?_⟩
  · rw [gI_at (kQ_i (i := 1) o rfl) hk (by decide), cut_lt _ hk]
  · rw [gI_at (kQ_i (i := 2) o rfl) hk (by decide), cut_lt _ hk]
  · rw [gI_at (kQ_i (i := 3) o rfl) hk (by decide), cut_lt _ hk]
  · rw [gI_at (kQ_i (i := 4) o rfl) hk (by decide), cut_lt _ hk]
  · rw [gI_at (kQ_i (i := 5) o rfl) hk (by decide), cut_lt _ hk]
theorem kQ_pI (o : ∀ j, M ≤ j → Ot L j) (v : Int32) {k : Nat} : (k < 64 → pI (kQ M mm H L s r ex) (M + 1) (Int32.ofNat k) v = some (kQ M mm H L s (wA r 1 k v) ex)) ∧ (k < 64 → pI (kQ M mm H L s r ex) (M + 2) (Int32.ofNat k) v = some (kQ M mm H L s (wA r 2 k v) ex)) ∧ (k < 64 → pI (kQ M mm H L s r ex) (M + 3) (Int32.ofNat k) v = some (kQ M mm H L s (wA r 3 k v) ex)) ∧ (k < 64 → pI (kQ M mm H L s r ex) (M + 4) (Int32.ofNat k) v = some (kQ M mm H L s (wA r 4 k v) ex)) ∧ (k < 6 → pI (kQ M mm H L s r ex) (M + 5) (Int32.ofNat k) v = some (kQ M mm H L s (wA r 5 k v) ex)) := by
  refine ⟨fun hk => ?_, fun hk => ?_, fun hk => ?_, fun hk => ?_, fun hk => ?_⟩
  · rw [pI_at (kQ_i (i := 1) o rfl) hk (by decide), cut_upd _ _ hk]
    exact congrArg some (bQ_s (i := 1) o _ (kQ_l 1 (by decide)) _)
  · rw [pI_at (kQ_i (i := 2) o rfl) hk (by decide), cut_upd _ _ hk]
    exact congrArg some (bQ_s (i := 2) o _ (kQ_l 2 (by decide)) _)
  · rw [pI_at (kQ_i (i := 3) o rfl) hk (by decide), cut_upd _ _ hk]
    exact congrArg some (bQ_s (i := 3) o _ (kQ_l 3 (by decide)) _)
  · rw [pI_at (kQ_i (i := 4) o rfl) hk (by decide), cut_upd _ _ hk]
    exact congrArg some (bQ_s (i := 4) o _ (kQ_l 4 (by decide)) _)
  · rw [pI_at (kQ_i (i := 5) o rfl) hk (by decide), cut_upd _ _ hk]
    exact congrArg some (bQ_s (i := 5) o _ (kQ_l 5 (by decide)) _)
/-- a token more -/
def wkA (r : rT) (i : Nat) (x y z : Int32) : rT := wF (wA (wA (wA r 1 i x) 2 i y) 3 i z) 6 (Int32.ofNat (i + 1))
theorem X_wadd (d : Nat) (o : ∀ j, M ≤ j → Ot L j) {i : Nat} (h : r.1 6 = Int32.ofNat i) (hi : i < 64) (x y z : Int32) : vcall (d + 1) m_Wk_add [.ref M, .int x, .int y, .int z] (kQ M mm H L s r ex) = some (.inl (some (.int 1)), kQ M mm H L s (wkA r i x y z) ex) := by
  have e1 : (wA r 1 i x).1 6 = Int32.ofNat i := h
  have e2 : (wA (wA r 1 i x) 2 i y).1 6 = Int32.ofNat i := h
  have e3 : (wA (wA (wA r 1 i x) 2 i y) 3 i z).1 6 = Int32.ofNat i := h
  refine (kQ_v o rfl).trans ((B_Wk_add_0 _ _ _ _ _ _).trans ?_)
  rw [(kQ_gF o).2.1, obs, (kQ_gR o).1, obs, (kQ_gN o).1, obs, h, if_neg (by show ¬ (Int32.ofNat 64 ≤ Int32.ofNat i); rw [ii_le (by omega) (by omega)]; omega), obs, obs, (kQ_pI o _).1 hi, obs, (kQ_gR o).2.1, obs, (kQ_gF o).2.1, obs, e1, (kQ_pI o _).2.1 hi, obs, (kQ_gR o).2.2.1, obs, (kQ_gF o).2.1, obs, e2, (kQ_pI o _).2.2.1 hi, obs, (kQ_gF o).2.1, obs, e3, (kQ_pF o _).2.1, obs, ii_1]
  rfl
end
/-- the reference's token -/
def rkA (τ : rT) (u : Nat) (x y z : Int32) : rT := wF (wA (wA (wA τ 46 (3 * u) x) 46 (3 * u + 1) y) 46 (3 * u + 2) z) 36 (Int32.ofNat (3 * (u + 1)))
theorem rkA_k (τ : rT) (u : Nat) (x y z : Int32) : Kf [36] [46] τ (rkA τ u x y z) := ((((Kf.rf _ _ τ).wA (by decide) _ _).wA (by decide) _ _).wA (by decide) _ _).wF (by decide) _
theorem R_tells (d : Nat) (b : pS) {τ : rT} {u : Nat} (h5 : τ.1 5 = -1) (h : τ.1 36 = Int32.ofNat (3 * u)) (hu : 3 * u + 2 < 150) (x y z : Int32) : vcall (d + 2) m_R_tellsStep [.ref 30, .int x, .int y, .int z] (mS b τ) = some (.inl none, mS b (rkA τ u x y z)) := by
  have g36 : ∀ τ : rT, gFi (mS b τ) 30 11 36 = some (τ.1 36) := fun τ => gFi_at mS_30 rfl
  have g34 : ∀ τ : rT, gFr (mS b τ) 30 11 34 = some 46 := fun τ => gFr_at mS_30 rfl
  have e1 : (wA τ 46 (3 * u) x).1 36 = Int32.ofNat (3 * u) := h
  have e2 : (wA (wA τ 46 (3 * u) x) 46 (3 * u + 1) y).1 36 = Int32.ofNat (3 * u) := h
  have e3 : (wA (wA (wA τ 46 (3 * u) x) 46 (3 * u + 1) y) 46 (3 * u + 2) z).1 36 = Int32.ofNat (3 * u) := h
  have a1 : Int32.ofNat (3 * u) + 1 = Int32.ofNat (3 * u + 1) := ii_1 _
  have a2 : Int32.ofNat (3 * u) + 2 = Int32.ofNat (3 * u + 2) := ii_add (3 * u) 2
  have a3 : Int32.ofNat (3 * u) + 3 = Int32.ofNat (3 * (u + 1)) := ii_add (3 * u) 3
  refine (vR rfl).trans ((B_R_tellsStep_0 _ _ _ _ _ _).trans ?_)
  rw [R_fine1 d b h5, kC1_v, if_pos (by decide), g34, obs, g36, obs, h, m_pI0 (n := 150) (by decide) (by decide) rfl (by decide) _ _ (by omega), obs, g34, obs, g36, obs, e1, a1, m_pI0 (n := 150) (by decide) (by decide) rfl (by decide) _ _ (by omega), obs, g34, obs, g36, obs, e2, a2, m_pI0 (n := 150) (by decide) (by decide) rfl (by decide) _ _ (by omega), obs, g36, obs, e3, a3]
  simp only [m_pF, obs]
  rfl
theorem R_tells_b (d : Nat) (b : pS) {τ : rT} (h5 : τ.1 5 ≠ -1) (x y z : Int32) : vcall (d + 2) m_R_tellsStep [.ref 30, .int x, .int y, .int z] (mS b τ) = some (.inl none, mS b τ) := by
  refine (vR rfl).trans ((B_R_tellsStep_0 _ _ _ _ _ _).trans ?_)
  rw [R_fine0 d b h5, kC1_v, if_neg (by decide)]
/-- a step that is no again; rows of tokens, with the program's ends of agains -/
def wkS (m n k a c : Nat) : Prop := k ≤ 4 ∧ (k = 4 → a = 0) ∧ (if k = 3 then a < m ∧ c ≤ 9 else if k = 4 then True else a < n ∧ (k = 0 → c < m))
def Blk (m n : Nat) (K F Q Z : Nat → Nat) : Nat → Nat → Nat → Nat → Nat → Prop
  | 0, i, j, u, v => i = j ∧ u = v
  | f + 1, i, j, u, v => (i = j ∧ u = v) ∨ (i < j ∧ wkS m n (K i) (F i) (Q i) ∧ Z (3 * u) = K i ∧ Z (3 * u + 1) = F i ∧ Z (3 * u + 2) = Q i ∧ Blk m n K F Q Z f (i + 1) j (u + 1) v) ∨ (∃ e w, i < e ∧ e < j ∧ K i = 5 ∧ F i ≤ 60 ∧ Q i = e ∧ K e = 6 ∧ F e = i ∧ Z (3 * u) = 5 ∧ Z (3 * u + 1) = F i ∧ Z (3 * u + 2) = 3 * w ∧ Blk m n K F Q Z f (i + 1) e (u + 1) w ∧ Blk m n K F Q Z f (e + 1) j w v)
section
variable {m n : Nat} {K F Q Z : Nat → Nat}
theorem Blk_0 (f i u : Nat) : Blk m n K F Q Z f i i u u := by
  cases f with
  | zero => exact ⟨rfl, rfl⟩
  | succ f => exact Or.inl ⟨rfl, rfl⟩
theorem Blk_le : ∀ (f i j u v : Nat), Blk m n K F Q Z f i j u v → i ≤ j ∧ u ≤ v := by
  intro f
  induction f with
  | zero => intro i j u v h; obtain ⟨h1, h2⟩ := h; omega
  | succ f ih =>
    intro i j u v h
    rcases h with ⟨h1, h2⟩ | ⟨h1, -, -, -, -, h2⟩ | ⟨e, w, h1, h2, -, -, -, -, -, -, -, -, h3, h4⟩
    · omega
    · have := ih _ _ _ _ h2; omega
    · have := ih _ _ _ _ h3; have := ih _ _ _ _ h4; omega
theorem Blk_s : ∀ (f i j u v : Nat), Blk m n K F Q Z f i j u v → Blk m n K F Q Z (f + 1) i j u v := by
  intro f
  induction f with
  | zero => intro i j u v h; exact Or.inl h
  | succ f ih =>
    intro i j u v h
    rcases h with h | ⟨h1, h2, h3, h4, h5, h6⟩ | ⟨e, w, h1, h2, h3, h4, h5, h6, h7, h8, h9, h10, h11, h12⟩
    · exact Or.inl h
    · exact Or.inr (Or.inl ⟨h1, h2, h3, h4, h5, ih _ _ _ _ h6⟩)
    · exact Or.inr (Or.inr ⟨e, w, h1, h2, h3, h4, h5, h6, h7, h8, h9, h10, ih _ _ _ _ h11, ih _ _ _ _ h12⟩)
theorem Blk_up {f f' i j u v : Nat} (h : Blk m n K F Q Z f i j u v) (hf : f ≤ f') : Blk m n K F Q Z f' i j u v := by
  obtain ⟨k, rfl⟩ : ∃ k, f' = f + k := ⟨f' - f, by omega⟩
  induction k with
  | zero => exact h
  | succ k ih => exact Blk_s _ _ _ _ _ (ih (by omega))
theorem Blk_app : ∀ (f f2 i j u v k w : Nat), Blk m n K F Q Z f i j u v → Blk m n K F Q Z f2 j k v w → Blk m n K F Q Z (f + f2) i k u w := by
  intro f
  induction f with
  | zero =>
    intro f2 i j u v k w h g
    obtain ⟨h1, h2⟩ := h
    subst h1 h2
    rw [Nat.zero_add]; exact g
  | succ f ih =>
    intro f2 i j u v k w h g
    have hk := Blk_le _ _ _ _ _ g
    rw [show f + 1 + f2 = (f + f2) + 1 by omega]
    rcases h with ⟨h1, h2⟩ | ⟨h1, h2, h3, h4, h5, h6⟩ | ⟨e, w', h1, h2, h3, h4, h5, h6, h7, h8, h9, h10, h11, h12⟩
    · subst h1 h2; exact Blk_up g (by omega)
    · exact Or.inr (Or.inl ⟨by omega, h2, h3, h4, h5, ih _ _ _ _ _ _ _ h6 g⟩)
    · exact Or.inr (Or.inr ⟨e, w', h1, by omega, h3, h4, h5, h6, h7, h8, h9, h10, Blk_up h11 (by omega), ih _ _ _ _ _ _ _ h12 g⟩)
theorem Blk_c {K' F' Q' Z' : Nat → Nat} : ∀ (f i j u v : Nat), (∀ x, i ≤ x → x < j → K x = K' x ∧ F x = F' x ∧ Q x = Q' x) → (∀ x, 3 * u ≤ x → x < 3 * v → Z x = Z' x) → Blk m n K F Q Z f i j u v → Blk m n K' F' Q' Z' f i j u v := by
  intro f
  induction f with
  | zero => intro i j u v _ _ h; exact h
  | succ f ih =>
    intro i j u v hX hZ h
    rcases h with h | ⟨h1, h2, h3, h4, h5, h6⟩ | ⟨e, w, h1, h2, h3, h4, h5, h6, h7, h8, h9, h10, h11, h12⟩
    · exact Or.inl h
    · have hl := Blk_le _ _ _ _ _ h6
      obtain ⟨e1, e2, e3⟩ := hX i (Nat.le_refl _) h1
      rw [e1, e2, e3] at h2
      rw [hZ _ (by omega) (by omega), e1] at h3
      rw [hZ _ (by omega) (by omega), e2] at h4
      rw [hZ _ (by omega) (by omega), e3] at h5
      exact Or.inr (Or.inl ⟨h1, h2, h3, h4, h5, ih _ _ _ _ (fun x g1 g2 => hX x (by omega) g2) (fun x g1 g2 => hZ x (by omega) g2) h6⟩)
    · have hl := Blk_le _ _ _ _ _ h11
      have hl2 := Blk_le _ _ _ _ _ h12
      obtain ⟨e1, e2, e3⟩ := hX i (Nat.le_refl _) (by omega)
      obtain ⟨e4, e5, e6⟩ := hX e (by omega) h2
      rw [e1] at h3
      rw [e3] at h5
      rw [e4] at h6
      rw [e5] at h7
      rw [hZ _ (by omega) (by omega)] at h8
      rw [hZ _ (by omega) (by omega), e2] at h9
      rw [hZ _ (by omega) (by omega)] at h10
      rw [e2] at h4
      exact Or.inr (Or.inr ⟨e, w, h1, h2, h3, h4, h5, h6, h7, h8, h9, h10, ih _ _ _ _ (fun x g1 g2 => hX x (by omega) (by omega)) (fun x g1 g2 => hZ x (by omega) (by omega)) h11, ih _ _ _ _ (fun x g1 g2 => hX x (by omega) g2) (fun x g1 g2 => hZ x (by omega) g2) h12⟩)
end
