/-! A LAW, being read by both -/
def lQ (M mm : Nat) (H : pH) (L : xA) (s r : rT) : pS := xS (aL M mm (lwL M r) H) L s
section
variable {M mm : Nat} {H : pH} {L : xA} {s r : rT}
theorem lQ_i (o : ∀ j, M ≤ j → Ot L j) {i : Nat} {c : pC} (h : (lwL M r)[i]? = some c) : (lQ M mm H L s r).2.2 (M + i) = some c := (xS_o (o _ (by omega))).trans (aL_i h)
theorem lQ_0 (o : ∀ j, M ≤ j → Ot L j) : (lQ M mm H L s r).2.2 M = some (cO 1 [.ref (M + 1), .ref (M + 2), .ref (M + 3), .int (r.1 53)]) := lQ_i (i := 0) o rfl
theorem lQ_g (o : ∀ j, M ≤ j → Ot L j) : gFr (lQ M mm H L s r) M 1 0 = some (M + 1) ∧ gFi (lQ M mm H L s r) M 1 3 = some (r.1 53) ∧ gN (lQ M mm H L s r) (M + 1) = some 150 := ⟨gFr_at (lQ_0 o) rfl, gFi_at (lQ_0 o) rfl, gN_at (lQ_i (i := 1) o rfl)⟩
theorem lQ_v {d K : Nat} {as : List Value} (o : ∀ j, M ≤ j → Ot L j) (h : mO K = 1) : vcall (d + 1) K (.ref M :: as) (lQ M mm H L s r) = den d K 0 (ent K (.ref M :: as)) [] (lQ M mm H L s r) := by
  have h1 : rcv K (.ref M :: as) (lQ M mm H L s r) = true := by
    show isO _ M (mO K) = true
    rw [h]; exact isO_at (lQ_0 o)
  unfold vcall
  rw [h1]
  rfl
theorem lQ_pF (o : ∀ j, M ≤ j → Ot L j) (v : Int32) : pF (lQ M mm H L s r) M 1 3 (.int v) = some (lQ M mm H L s (wF r 53 v)) := by
  rw [pF_at (lQ_0 o) (by show 3 < 4; decide)]
  exact congrArg some (bQ_s (i := 0) o _ (by show 0 < 4; decide) _)
theorem lQ_pI (o : ∀ j, M ≤ j → Ot L j) (v : Int32) {k : Nat} (hk : k < 150) : pI (lQ M mm H L s r) (M + 1) (Int32.ofNat k) v = some (lQ M mm H L s (wA r 21 k v)) := by
  rw [pI_at (lQ_i (i := 1) o rfl) hk (by decide), cut_upd _ _ hk]
  exact congrArg some (bQ_s (i := 1) o _ (by show 1 < 4; decide) _)
end
/-- the codes so far -/
def LX (r : rT) (cl : List Nat) : Prop := r.1 53 = Int32.ofNat cl.length ∧ ∀ i, i < cl.length → r.2 21 i = Int32.ofNat (cl.getD i 0)
def LR (τ : rT) (cl : List Nat) : Prop := τ.1 31 = Int32.ofNat cl.length ∧ ∀ i, i < cl.length → τ.2 40 i = Int32.ofNat (rWhat (cl.getD i 0)) ∧ τ.2 41 i = Int32.ofNat (rOf (cl.getD i 0))
theorem gD_a {cl : List Nat} {c i : Nat} (h : i < cl.length) : (cl ++ [c]).getD i 0 = cl.getD i 0 := by
  rw [List.getD_eq_getElem?_getD, List.getD_eq_getElem?_getD, List.getElem?_append_left h]
theorem gD_l (cl : List Nat) (c : Nat) : (cl ++ [c]).getD cl.length 0 = c := by
  rw [List.getD_eq_getElem?_getD, List.getElem?_append_right (Nat.le_refl _), Nat.sub_self]; rfl
theorem LR_k {τ τ' : rT} {cl : List Nat} {F A : List Nat} (h : LR τ cl) (k : Kf F A τ τ') (e1 : 31 ∉ F := by decide) (e2 : 40 ∉ A := by decide) (e3 : 41 ∉ A := by decide) : LR τ' cl := by
  unfold LR; rw [k.1 31 e1, k.2 40 e2, k.2 41 e3]; exact h
theorem X_add (d : Nat) {M mm : Nat} {H : pH} {L : xA} {s r : rT} {cl : List Nat} (o : ∀ j, M ≤ j → Ot L j) (h : LX r cl) (hl : cl.length < 150) (c : Nat) : ∃ r', LX r' (cl ++ [c]) ∧ vcall (d + 1) m_Lw_add [.ref M, .int (Int32.ofNat c)] (lQ M mm H L s r) = some (.inl (some (.int 1)), lQ M mm H L s r') := by
  have e2 : (wA r 21 cl.length (Int32.ofNat c)).1 53 = Int32.ofNat cl.length := h.1
  refine ⟨wF (wA r 21 cl.length (Int32.ofNat c)) 53 (Int32.ofNat (cl.length + 1)), ⟨?_, fun i hi => ?_⟩, (lQ_v o rfl).trans ((B_Lw_add_0 _ _ _ _).trans ?_)⟩
  · show Int32.ofNat (cl.length + 1) = _
    rw [List.length_append]; rfl
  · rw [List.length_append] at hi
    have hi : i < cl.length + 1 := hi
    show upd (r.2 21) cl.length (Int32.ofNat c) i = _
    by_cases e : i = cl.length
    · subst e; rw [upd_s, gD_l]
    · rw [upd_n _ _ e, gD_a (by omega)]; exact h.2 i (by omega)
  · rw [(lQ_g o).2.1, obs, (lQ_g o).1, obs, (lQ_g o).2.2, obs, h.1, if_neg (by show ¬ (Int32.ofNat 150 ≤ Int32.ofNat cl.length); rw [ii_le (by omega) (by omega)]; omega), obs, obs, lQ_pI o _ hl, obs, (lQ_g o).2.1, obs, lQ_pF o, obs, e2, ii_1]
theorem R_emit (d : Nat) (b : pS) {τ : rT} {cl : List Nat} (h5 : τ.1 5 = -1) (h : LR τ cl) (hl : cl.length < 150) (c : Nat) {x y : Int32} (hx : x = Int32.ofNat (rWhat c)) (hy : y = Int32.ofNat (rOf c)) : ∃ τ', Kf [31] [40, 41] τ τ' ∧ LR τ' (cl ++ [c]) ∧ vcall (d + 2) m_R_emit [.ref 30, .int x, .int y] (mS b τ) = some (.inl none, mS b τ') := by
  subst hx hy
  refine ⟨wF (wA (wA τ 40 cl.length (Int32.ofNat (rWhat c))) 41 cl.length (Int32.ofNat (rOf c))) 31 (Int32.ofNat (cl.length + 1)), (((Kf.rf _ _ τ).wA (by decide) _ _).wA (by decide) _ _).wF (by decide) _, ⟨?_, fun i hi => ?_⟩, (vR rfl).trans ((B_R_emit_0 _ _ _ _ _).trans ?_)⟩
  · show Int32.ofNat (cl.length + 1) = _
    rw [List.length_append]; rfl
  · rw [List.length_append] at hi
    have hi : i < cl.length + 1 := hi
    show upd (τ.2 40) cl.length (Int32.ofNat (rWhat c)) i = _ ∧ upd (τ.2 41) cl.length (Int32.ofNat (rOf c)) i = _
    by_cases e : i = cl.length
    · subst e; rw [upd_s, upd_s, gD_l]; exact ⟨rfl, rfl⟩
    · rw [upd_n _ _ e, upd_n _ _ e, gD_a (by omega)]; exact h.2 i (by omega)
  · have g31 : ∀ τ : rT, gFi (mS b τ) 30 11 31 = some (τ.1 31) := fun τ => gFi_at mS_30 rfl
    have g26 : ∀ τ : rT, gFr (mS b τ) 30 11 26 = some 40 := fun τ => gFr_at mS_30 rfl
    have g27 : ∀ τ : rT, gFr (mS b τ) 30 11 27 = some 41 := fun τ => gFr_at mS_30 rfl
    have e1 : (wA τ 40 cl.length (Int32.ofNat (rWhat c))).1 31 = Int32.ofNat cl.length := h.1
    have e2 : (wA (wA τ 40 cl.length (Int32.ofNat (rWhat c))) 41 cl.length (Int32.ofNat (rOf c))).1 31 = Int32.ofNat cl.length := h.1
    rw [R_fine1 d b h5, kC1_v, if_pos (by decide), g26, obs, g31, obs, h.1, m_pI0 (n := 150) (by decide) (by decide) rfl (by decide) _ _ hl, obs, g27, obs, g31, obs, e1, m_pI0 (n := 150) (by decide) (by decide) rfl (by decide) _ _ hl, obs, g31, obs, e2]
    simp only [m_pF, obs, ii_1]
theorem R_emit_b (d : Nat) (b : pS) {τ : rT} (h5 : τ.1 5 ≠ -1) (x y : Int32) : vcall (d + 2) m_R_emit [.ref 30, .int x, .int y] (mS b τ) = some (.inl none, mS b τ) := by
  refine (vR rfl).trans ((B_R_emit_0 _ _ _ _ _).trans ?_)
  rw [R_fine0 d b h5, kC1_v, if_neg (by decide)]
theorem R_unit_b (d : Nat) (b : pS) {τ : rT} (h5 : τ.1 5 ≠ -1) : vcall (d + 2) m_R_readUnit [.ref 30] (mS b τ) = some (.inl none, mS b τ) := by
  refine (vR rfl).trans ((B_R_readUnit_0 _ _ _).trans ?_)
  rw [R_fine0 d b h5, kC1_v, if_neg (by decide)]
theorem R_prod_b (d : Nat) (b : pS) {τ : rT} (h5 : τ.1 5 ≠ -1) : vcall (d + 3) m_R_readProduct [.ref 30] (mS b τ) = some (.inl none, mS b τ) := by
  refine (vR rfl).trans ((B_R_readProduct_0 _ _ _).trans ?_)
  rw [R_unit_b d b h5, kC0_v, B_R_readProduct_4, R_fine0 (d + 1) b h5, kC1_v, if_pos rfl]
theorem R_sum_b (d : Nat) (b : pS) {τ : rT} (h5 : τ.1 5 ≠ -1) : vcall (d + 4) m_R_readSum [.ref 30] (mS b τ) = some (.inl none, mS b τ) := by
  refine (vR rfl).trans ((B_R_readSum_0 _ _ _).trans ?_)
  rw [R_prod_b d b h5, kC0_v, B_R_readSum_4, R_fine0 (d + 2) b h5, kC1_v, if_pos rfl]
theorem R_open (d : Nat) (b : pS) {τ : rT} {e op k : Nat} (h5 : τ.1 5 = -1) (h4 : τ.1 4 = Int32.ofNat e) (h7 : τ.1 7 = Int32.ofNat op) (ho : op < 6) : vcall (d + 2) m_R_opensOne [.ref 30, .int (Int32.ofNat k)] (mS b τ) = some (.inl none, mS b (wF (wF τ 4 (Int32.ofNat (e + k))) 7 (Int32.ofNat (op + 1)))) := by
  have g7 : ∀ τ : rT, gFi (mS b τ) 30 11 7 = some (τ.1 7) := fun τ => gFi_at mS_30 rfl
  have g4 : ∀ τ : rT, gFi (mS b τ) 30 11 4 = some (τ.1 4) := fun τ => gFi_at mS_30 rfl
  have e7 : (wF τ 4 (Int32.ofNat (e + k))).1 7 = Int32.ofNat op := h7
  refine (vR rfl).trans ((B_R_opensOne_0 _ _ _ _).trans ?_)
  rw [R_fine1 d b h5, kC1_v, if_neg (by decide), g7, obs, h7, if_pos (by show ¬ Int32.ofNat op = Int32.ofNat 6; rw [ii_eq (by omega) (by omega)]; omega), B_R_opensOne_25, R_fine1 d b h5, kC1_v, if_neg (by decide), g4, obs, h4, ii_add]
  simp only [m_pF, obs]
  rw [g7, obs, e7, ii_1]
theorem R_open6 (d : Nat) (b : pS) {τ : rT} {e : Nat} (h5 : τ.1 5 = -1) (h4 : τ.1 4 = Int32.ofNat e) (he : e ≤ 600) (h7 : τ.1 7 = Int32.ofNat 6) (k : Int32) : vcall (d + 2) m_R_opensOne [.ref 30, .int k] (mS b τ) = some (.inl none, mS b (wF (wF (wF τ 5 (Int32.ofNat e)) 6 3) 7 (Int32.ofNat 7))) := by
  have g7 : ∀ τ : rT, gFi (mS b τ) 30 11 7 = some (τ.1 7) := fun τ => gFi_at mS_30 rfl
  have g4 : ∀ τ : rT, gFi (mS b τ) 30 11 4 = some (τ.1 4) := fun τ => gFi_at mS_30 rfl
  have e7 : (wF (wF τ 5 (Int32.ofNat e)) 6 3).1 7 = Int32.ofNat 6 := h7
  have hb : (wF (wF τ 5 (Int32.ofNat e)) 6 3).1 5 ≠ -1 := FR_b (k := 3) (p := e) ⟨rfl, rfl⟩ he
  refine (vR rfl).trans ((B_R_opensOne_0 _ _ _ _).trans ?_)
  rw [R_fine1 d b h5, kC1_v, if_neg (by decide), g7, obs, h7, if_neg (fun h => h rfl), g4, obs, h4, R_wrong d b h5, kC0_v, B_R_opensOne_25, R_fine0 d b hb, kC1_v, if_pos rfl, g7, obs, e7, ii_1]
  simp only [m_pF, obs]
/-- good, on to another place with more codes, or the same fault -/
def OUT (B : Nat → Nat) (N a op op' m dx : Nat) (Q : List Nat → Prop) (fX : Nat → Nat → pS → pR) (fR : Nat → pS → pR) : Prop :=
  (∃ a' nc, a + m ≤ a' ∧ a' ≤ N ∧ nc.length + a ≤ a' ∧ Q nc ∧ (∀ d M mm H L s r cl, dx ≤ d → Dj L → (∀ j, M ≤ j → Ot L j) → TX B N a s → LX r cl → cl.length ≤ a → ∃ s' r', Kf [25, 26] [] s s' ∧ TX B N a' s' ∧ LX r' (cl ++ nc) ∧ fX d M (lQ M mm H L s r) = some (.inl (some (.int 1)), lQ M mm H L s' r')) ∧ (∀ d b τ cl, dx ≤ d → TR B N a τ → τ.1 5 = -1 → τ.1 7 = Int32.ofNat op → LR τ cl → cl.length ≤ a → ∃ τ', Kf [4, 7, 31] [40, 41] τ τ' ∧ TR B N a' τ' ∧ τ'.1 7 = Int32.ofNat op' ∧ LR τ' (cl ++ nc) ∧ fR d (mS b τ) = some (.inl none, mS b τ')))
  ∨ (∃ k p, k ≤ 3 ∧ p ≤ 600 ∧ (∀ d M mm H L s r cl, dx ≤ d → Dj L → (∀ j, M ≤ j → Ot L j) → TX B N a s → LX r cl → cl.length ≤ a → ∃ s' r', Kf [22, 23, 25, 26] [] s s' ∧ FX s' k p ∧ fX d M (lQ M mm H L s r) = some (.inl (some (.int 0)), lQ M mm H L s' r')) ∧ (∀ d b τ cl, dx ≤ d → TR B N a τ → τ.1 5 = -1 → τ.1 7 = Int32.ofNat op → LR τ cl → cl.length ≤ a → ∃ τ', Kf [4, 5, 6, 7, 31] [40, 41] τ τ' ∧ FR τ' k p ∧ fR d (mS b τ) = some (.inl none, mS b τ')))
/-- nothing more is done once there is a fault -/
def NB (dx : Nat) (fR : Nat → pS → pR) : Prop := ∀ d b τ, dx ≤ d → τ.1 5 ≠ -1 → ∃ τ', Kf [7] [] τ τ' ∧ fR d (mS b τ) = some (.inl none, mS b τ')
noncomputable def sqX (fX gX : Nat → Nat → pS → pR) : Nat → Nat → pS → pR := fun d M S => kC1 (fX d M S) (fun v s' => if (v : Int32) = 0 then some (.inl (some (.int 0)), s') else gX d M s') xp
noncomputable def sqR (fR gR : Nat → pS → pR) : Nat → pS → pR := fun d S => kC0 (fR d S) (fun s' => gR d s') xp
def sqQ (Q1 Q2 : List Nat → Prop) : List Nat → Prop := fun nc => ∃ x y, nc = x ++ y ∧ Q1 x ∧ Q2 y
theorem NB_sq {dx : Nat} {fR gR : Nat → pS → pR} (h1 : NB dx fR) (h2 : NB dx gR) : NB dx (sqR fR gR) := fun d b τ hd h5 => by
  obtain ⟨t1, k1, e1⟩ := h1 d b τ hd h5
  obtain ⟨t2, k2, e2⟩ := h2 d b t1 hd (by rw [k1.1 5 (by decide)]; exact h5)
  refine ⟨t2, k1.tr k2, ?_⟩
  unfold sqR
  rw [e1, kC0_v, e2]
theorem SEQ {B : Nat → Nat} {N a op op1 op2 m1 m2 dx : Nat} {Q1 Q2 : List Nat → Prop} {fX gX : Nat → Nat → pS → pR} {fR gR : Nat → pS → pR} (h1 : OUT B N a op op1 m1 dx Q1 fX fR) (h2 : ∀ a1, a + m1 ≤ a1 → a1 ≤ N → OUT B N a1 op1 op2 m2 dx Q2 gX gR) (nb : NB dx gR) : OUT B N a op op2 (m1 + m2) dx (sqQ Q1 Q2) (sqX fX gX) (sqR fR gR) := by
  rcases h1 with ⟨a1, x, z1, z2, z3, z4, zX, zR⟩ | ⟨k, p, hk, hp, zX, zR⟩
  · rcases h2 a1 z1 z2 with ⟨a2, y, y1, y2, y3, y4, yX, yR⟩ | ⟨k, p, hk, hp, yX, yR⟩
    · refine Or.inl ⟨a2, x ++ y, by omega, y2, by rw [List.length_append]; omega, ⟨x, y, rfl, z4, y4⟩, fun d M mm H L s r cl hd D o T hl hc => ?_, fun d b τ cl hd T h5 h7 hl hc => ?_⟩
      · obtain ⟨s1, r1, k1, k2, k3, k4⟩ := zX d M mm H L s r cl hd D o T hl hc
        obtain ⟨s2, r2, j1, j2, j3, j4⟩ := yX d M mm H L s1 r1 (cl ++ x) hd D o k2 k3 (by rw [List.length_append]; omega)
        refine ⟨s2, r2, k1.tr j1, j2, by rw [← List.append_assoc]; exact j3, ?_⟩
        unfold sqX
        rw [k4, kC1_v, if_neg (by decide), j4]
      · obtain ⟨t1, k1, k2, k3, k4, k5⟩ := zR d b τ cl hd T h5 h7 hl hc
        obtain ⟨t2, j1, j2, j3, j4, j5⟩ := yR d b t1 (cl ++ x) hd k2 ((k1.1 5 (by decide)).trans h5) k3 k4 (by rw [List.length_append]; omega)
        refine ⟨t2, k1.tr j1, j2, j3, by rw [← List.append_assoc]; exact j4, ?_⟩
        unfold sqR
        rw [k5, kC0_v, j5]
    · refine Or.inr ⟨k, p, hk, hp, fun d M mm H L s r cl hd D o T hl hc => ?_, fun d b τ cl hd T h5 h7 hl hc => ?_⟩
      · obtain ⟨s1, r1, k1, k2, k3, k4⟩ := zX d M mm H L s r cl hd D o T hl hc
        obtain ⟨s2, r2, j1, j2, j3⟩ := yX d M mm H L s1 r1 (cl ++ x) hd D o k2 k3 (by rw [List.length_append]; omega)
        refine ⟨s2, r2, (k1.up (by decide) (by decide)).tr j1, j2, ?_⟩
        unfold sqX
        rw [k4, kC1_v, if_neg (by decide), j3]
      · obtain ⟨t1, k1, k2, k3, k4, k5⟩ := zR d b τ cl hd T h5 h7 hl hc
        obtain ⟨t2, j1, j2, j3⟩ := yR d b t1 (cl ++ x) hd k2 ((k1.1 5 (by decide)).trans h5) k3 k4 (by rw [List.length_append]; omega)
        refine ⟨t2, (k1.up (by decide) (by decide)).tr j1, j2, ?_⟩
        unfold sqR
        rw [k5, kC0_v, j3]
  · refine Or.inr ⟨k, p, hk, hp, fun d M mm H L s r cl hd D o T hl hc => ?_, fun d b τ cl hd T h5 h7 hl hc => ?_⟩
    · obtain ⟨s1, r1, k1, k2, k3⟩ := zX d M mm H L s r cl hd D o T hl hc
      refine ⟨s1, r1, k1, k2, ?_⟩
      unfold sqX
      rw [k3, kC1_v, if_pos rfl]
    · obtain ⟨t1, k1, k2, k3⟩ := zR d b τ cl hd T h5 h7 hl hc
      obtain ⟨t2, j1, j2⟩ := nb d b t1 hd (FR_b k2 hp)
      refine ⟨t2, k1.tr (j1.up (by decide) (by decide)), ⟨(j1.1 6 (by decide)).trans k2.1, (j1.1 5 (by decide)).trans k2.2⟩, ?_⟩
      unfold sqR
      rw [k3, kC0_v, j2]
/-- a sign -/
theorem SIGN {B : Nat → Nat} {N : Nat} (hB : ∀ i, B i < 256) (hN : N ≤ 600) {a op c : Nat} (ha : a ≤ N) (hc : c < 256) (h0 : 0 < c) : OUT B N a op op 1 3 (fun nc => nc = []) (fun d _ S => vcall d m_Tp_sign [.ref 1, .int (Int32.ofNat c)] S) (fun d S => vcall d m_R_sign [.ref 30, .int (Int32.ofNat c)] S) := by
  have hsg := sk_ge (B := B) ha
  rcases SGN hB hN ha hc h0 with h | ⟨k, p, hk, hp, hX, hR⟩
  · refine Or.inl ⟨sk B N a + 1, [], by omega, h.1, by show 0 + a ≤ _; omega, rfl, fun d M mm H L s r cl hd D o T hl hcl => ?_, fun d b τ cl hd T h5 h7 hl hcl => ?_⟩
    · obtain ⟨e, rfl⟩ : ∃ e, d = e + 3 := ⟨d - 3, by omega⟩
      obtain ⟨s1, k1, k2, k3⟩ := T_sign_y hB hN e (b := aL M mm (lwL M r) H) D ha T hc h
      exact ⟨s1, r, k1.up (by decide) (by decide), k2, by rw [List.append_nil]; exact hl, k3⟩
    · obtain ⟨e, rfl⟩ : ∃ e, d = e + 2 := ⟨d - 2, by omega⟩
      obtain ⟨t1, k1, k2, k3⟩ := R_sign_y hB hN e b ha T h5 hc h0 h
      exact ⟨t1, k1.up (by decide) (by decide), k2, (k1.1 7 (by decide)).trans h7, by rw [List.append_nil]; exact LR_k hl k1, k3⟩
  · refine Or.inr ⟨k, p, hk, hp, fun d M mm H L s r cl hd D o T hl hcl => ?_, fun d b τ cl hd T h5 h7 hl hcl => ?_⟩
    · obtain ⟨e, rfl⟩ : ∃ e, d = e + 3 := ⟨d - 3, by omega⟩
      obtain ⟨s1, k1, k2, k3⟩ := hX e (aL M mm (lwL M r) H) L s D T
      exact ⟨s1, r, k1.up (by decide) (by decide), k2, k3⟩
    · obtain ⟨e, rfl⟩ : ∃ e, d = e + 2 := ⟨d - 2, by omega⟩
      obtain ⟨t1, k1, k2, k3⟩ := hR e b τ T h5
      exact ⟨t1, k1.up (by decide) (by decide), k2, k3⟩
theorem OUT_up {B : Nat → Nat} {N a op op' m dx dx' : Nat} {Q Q' : List Nat → Prop} {fX : Nat → Nat → pS → pR} {fR : Nat → pS → pR} (h : OUT B N a op op' m dx Q fX fR) (hd : dx ≤ dx') (hQ : ∀ nc, Q nc → Q' nc) : OUT B N a op op' m dx' Q' fX fR := by
  rcases h with ⟨a1, x, z1, z2, z3, z4, zX, zR⟩ | ⟨k, p, hk, hp, zX, zR⟩
  · exact Or.inl ⟨a1, x, z1, z2, z3, hQ _ z4, fun d M mm H L s r cl h => zX d M mm H L s r cl (by omega), fun d b τ cl h => zR d b τ cl (by omega)⟩
  · exact Or.inr ⟨k, p, hk, hp, fun d M mm H L s r cl h => zX d M mm H L s r cl (by omega), fun d b τ cl h => zR d b τ cl (by omega)⟩
/-- the sign that closes: one less is open -/
noncomputable def clX (c : Int32) : Nat → Nat → pS → pR := fun d _ S => kC1 (vcall d m_Tp_sign [.ref 1, .int c] S) (fun v s' => if (v : Int32) = 0 then some (.inl (some (.int 0)), s') else some (.inl (some (.int 1)), s')) xp
noncomputable def clR (c : Int32) : Nat → pS → pR := fun d S => kC0 (vcall d m_R_sign [.ref 30, .int c] S) (fun s1 => ((gFi s1 30 11 7).bind fun v => ((pF s1 30 11 7 (.int (v - 1))).bind fun s2 => some (.inl none, s2)))) xp
theorem NB_cl (c : Int32) : NB 3 (clR c) := fun d b τ hd h5 => by
  obtain ⟨e, rfl⟩ : ∃ e, d = e + 2 := ⟨d - 2, by omega⟩
  have g7 : ∀ τ : rT, gFi (mS b τ) 30 11 7 = some (τ.1 7) := fun τ => gFi_at mS_30 rfl
  refine ⟨wF τ 7 (τ.1 7 - 1), (Kf.rf _ _ τ).wF (by decide) _, ?_⟩
  unfold clR
  rw [R_sign_b e b h5, kC0_v, g7, obs]
  simp only [m_pF, obs]
theorem CLOSE {B : Nat → Nat} {N : Nat} (hB : ∀ i, B i < 256) (hN : N ≤ 600) {a op c : Nat} (ha : a ≤ N) (hc : c < 256) (h0 : 0 < c) : OUT B N a (op + 1) op 1 3 (fun nc => nc = []) (clX (Int32.ofNat c)) (clR (Int32.ofNat c)) := by
  have g7 : ∀ (b : pS) (τ : rT), gFi (mS b τ) 30 11 7 = some (τ.1 7) := fun b τ => gFi_at mS_30 rfl
  rcases SIGN hB hN (op := op + 1) ha hc h0 with ⟨a1, x, z1, z2, z3, z4, zX, zR⟩ | ⟨k, p, hk, hp, zX, zR⟩
  · refine Or.inl ⟨a1, x, z1, z2, z3, z4, fun d M mm H L s r cl hd D o T hl hcl => ?_, fun d b τ cl hd T h5 h7 hl hcl => ?_⟩
    · obtain ⟨s1, r1, k1, k2, k3, k4⟩ := zX d M mm H L s r cl hd D o T hl hcl
      dsimp only at k4
      refine ⟨s1, r1, k1, k2, k3, ?_⟩
      unfold clX
      rw [k4, kC1_v, if_neg (by decide)]
    · obtain ⟨t1, k1, k2, k3, k4, k5⟩ := zR d b τ cl hd T h5 h7 hl hcl
      dsimp only at k5
      refine ⟨wF t1 7 (Int32.ofNat op), k1.wF (by decide) _, ⟨k2.1, k2.2.1, k2.2.2⟩, rfl, k4, ?_⟩
      unfold clR
      rw [k5, kC0_v, g7, obs, k3, ii_s1]
      simp only [m_pF, obs]
  · refine Or.inr ⟨k, p, hk, hp, fun d M mm H L s r cl hd D o T hl hcl => ?_, fun d b τ cl hd T h5 h7 hl hcl => ?_⟩
    · obtain ⟨s1, r1, k1, k2, k3⟩ := zX d M mm H L s r cl hd D o T hl hcl
      dsimp only at k3
      refine ⟨s1, r1, k1, k2, ?_⟩
      unfold clX
      rw [k3, kC1_v, if_pos rfl]
    · obtain ⟨t1, k1, k2, k3⟩ := zR d b τ cl hd T h5 h7 hl hcl
      dsimp only at k3
      refine ⟨wF t1 7 (t1.1 7 - 1), k1.wF (by decide) _, k2, ?_⟩
      unfold clR
      rw [k3, kC0_v, g7, obs]
      simp only [m_pF, obs]
/-- the sign that closes a pair, and its code -/
noncomputable def caX (c : Int32) (cx : Int32) : Nat → Nat → pS → pR := fun d M S => kC1 (vcall d m_Tp_sign [.ref 1, .int c] S) (fun v s' => if (v : Int32) = 0 then some (.inl (some (.int 0)), s') else kC1 (vcall d m_Lw_add [.ref M, .int cx] s') (fun w s2 => if (w : Int32) = 0 then some (.inl (some (.int 0)), s2) else some (.inl (some (.int 1)), s2)) xp) xp
noncomputable def caR (c cr : Int32) : Nat → pS → pR := fun d S => kC0 (vcall d m_R_sign [.ref 30, .int c] S) (fun s1 => ((gFi s1 30 11 7).bind fun v => ((pF s1 30 11 7 (.int (v - 1))).bind fun s2 => kC0 (vcall d m_R_emit [.ref 30, .int cr, .int 0] s2) (fun s9 => some (.inl none, s9)) xp))) xp
theorem NB_ca (c cr : Int32) : NB 3 (caR c cr) := fun d b τ hd h5 => by
  obtain ⟨e, rfl⟩ : ∃ e, d = e + 2 := ⟨d - 2, by omega⟩
  have g7 : ∀ τ : rT, gFi (mS b τ) 30 11 7 = some (τ.1 7) := fun τ => gFi_at mS_30 rfl
  have h5' : (wF τ 7 (τ.1 7 - 1)).1 5 ≠ -1 := h5
  refine ⟨wF τ 7 (τ.1 7 - 1), (Kf.rf _ _ τ).wF (by decide) _, ?_⟩
  unfold caR
  rw [R_sign_b e b h5, kC0_v, g7, obs]
  simp only [m_pF, obs]
  rw [R_emit_b e b h5', kC0_v]
theorem CLOSA {B : Nat → Nat} {N : Nat} (hB : ∀ i, B i < 256) (hN : N ≤ 600) (h150 : N ≤ 150) {a op c cx : Nat} {cr : Int32} (ha : a ≤ N) (hc : c < 256) (h0 : 0 < c) (hr : cr = Int32.ofNat (rWhat cx)) (hz : rOf cx = 0) : OUT B N a (op + 1) op 1 3 (fun nc => nc = [cx]) (caX (Int32.ofNat c) (Int32.ofNat cx)) (caR (Int32.ofNat c) cr) := by
  have g7 : ∀ (b : pS) (τ : rT), gFi (mS b τ) 30 11 7 = some (τ.1 7) := fun b τ => gFi_at mS_30 rfl
  rcases SIGN hB hN (op := op + 1) ha hc h0 with ⟨a1, x, z1, z2, z3, z4, zX, zR⟩ | ⟨k, p, hk, hp, zX, zR⟩
  · have z4 : x = [] := z4
    subst z4
    refine Or.inl ⟨a1, [cx], z1, z2, by show 1 + a ≤ _; omega, rfl, fun d M mm H L s r cl hd D o T hl hcl => ?_, fun d b τ cl hd T h5 h7 hl hcl => ?_⟩
    · obtain ⟨s1, r1, k1, k2, k3, k4⟩ := zX d M mm H L s r cl hd D o T hl hcl
      dsimp only at k4
      rw [List.append_nil] at k3
      obtain ⟨e, rfl⟩ : ∃ e, d = e + 1 := ⟨d - 1, by omega⟩
      obtain ⟨r2, j1, j2⟩ := X_add e (M := M) (mm := mm) (H := H) (L := L) (s := s1) (r := r1) o k3 (by omega) cx
      refine ⟨s1, r2, k1, k2, j1, ?_⟩
      unfold caX
      rw [k4, kC1_v, if_neg (by decide), j2, kC1_v, if_neg (by decide)]
    · obtain ⟨t1, k1, k2, k3, k4, k5⟩ := zR d b τ cl hd T h5 h7 hl hcl
      dsimp only at k5
      rw [List.append_nil] at k4
      obtain ⟨e, rfl⟩ : ∃ e, d = e + 2 := ⟨d - 2, by omega⟩
      have h5' : (wF t1 7 (Int32.ofNat op)).1 5 = -1 := (k1.1 5 (by decide)).trans h5
      have k4' : LR (wF t1 7 (Int32.ofNat op)) cl := k4
      obtain ⟨t2, j1, j2, j3⟩ := R_emit e b h5' k4' (by omega) cx hr (y := 0) (by rw [hz]; rfl)
      refine ⟨t2, (k1.wF (by decide) _).tr (j1.up (by decide) (by decide)), ?_, (j1.1 7 (by decide)).trans rfl, j2, ?_⟩
      · exact ⟨(j1.1 3 (by decide)).trans k2.1, (j1.1 4 (by decide)).trans k2.2.1, by rw [j1.2 32 (by decide)]; exact k2.2.2⟩
      · unfold caR
        rw [k5, kC0_v, g7, obs, k3, ii_s1]
        simp only [m_pF, obs]
        rw [j3, kC0_v]
  · refine Or.inr ⟨k, p, hk, hp, fun d M mm H L s r cl hd D o T hl hcl => ?_, fun d b τ cl hd T h5 h7 hl hcl => ?_⟩
    · obtain ⟨s1, r1, k1, k2, k3⟩ := zX d M mm H L s r cl hd D o T hl hcl
      dsimp only at k3
      refine ⟨s1, r1, k1, k2, ?_⟩
      unfold caX
      rw [k3, kC1_v, if_pos rfl]
    · obtain ⟨t1, k1, k2, k3⟩ := zR d b τ cl hd T h5 h7 hl hcl
      dsimp only at k3
      obtain ⟨e, rfl⟩ : ∃ e, d = e + 2 := ⟨d - 2, by omega⟩
      have h5' : (wF t1 7 (t1.1 7 - 1)).1 5 ≠ -1 := FR_b k2 hp
      refine ⟨wF t1 7 (t1.1 7 - 1), k1.wF (by decide) _, k2, ?_⟩
      unfold caR
      rw [k3, kC0_v, g7, obs]
      simp only [m_pF, obs]
      rw [R_emit_b e b h5', kC0_v]
/-- codes that leave one value more, never too high -/
def Pu (b : Nat) (nc : List Nat) : Prop := ∀ rest h, h + b ≤ 64 → hgt (nc ++ rest) h = hgt rest (h + 1)
theorem Pu_up {b b' : Nat} {nc : List Nat} (h : Pu b nc) (hb : b ≤ b') : Pu b' nc := fun rest k hk => h rest k (by omega)
theorem Pu_1 {c b : Nat} (h : c < 1008) (hb : 1 ≤ b) : Pu b [c] := fun rest k hk => by
  show (decide (c < 1015) && (if c < 1008 then decide (k < 64) && hgt rest (k + 1) else decide (2 ≤ k) && hgt rest (k - 1))) = _
  rw [if_pos h, decide_eq_true (show c < 1015 by omega), decide_eq_true (show k < 64 by omega)]
  rfl
theorem hgt_j {c k : Nat} {rest : List Nat} (h1 : 1008 ≤ c) (h2 : c < 1015) : hgt (c :: rest) (k + 2) = hgt rest (k + 1) := by
  show (decide (c < 1015) && (if c < 1008 then decide (k + 2 < 64) && hgt rest (k + 2 + 1) else decide (2 ≤ k + 2) && hgt rest (k + 2 - 1))) = _
  rw [if_neg (by omega), decide_eq_true h2, decide_eq_true (show 2 ≤ k + 2 by omega)]
  rfl
theorem Pu_j {x y : List Nat} {c b : Nat} (hx : Pu b x) (hy : Pu b y) (h1 : 1008 ≤ c) (h2 : c < 1015) : Pu (b + 1) (x ++ (y ++ [c])) := fun rest k hk => by
  rw [List.append_assoc, List.append_assoc, hx _ k (by omega), hy _ (k + 1) (by omega)]
  exact hgt_j h1 h2
