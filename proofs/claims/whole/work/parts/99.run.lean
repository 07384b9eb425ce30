/-! WORK, run by both: a step -/
def WX (m n : Nat) (l : List Nat) (dk fs : Nat → Int32) (K F Q : Nat → Nat) (len : Nat) (s r : rT) (v : Nat → Int32) (dn rf : Int32) : Prop := Cn s m n ∧ xLaw s l ∧ s.2 0 = v ∧ s.2 12 = dk ∧ s.2 13 = fs ∧ r.1 6 = Int32.ofNat len ∧ PX r K F Q 0 len ∧ r.1 7 = dn ∧ r.1 8 = rf
def RX (m n : Nat) (l : List Nat) (dk fs : Nat → Int32) (Z : Nat → Nat) (ul : Nat) (τ : rT) (v : Nat → Int32) (g : Nat) (dn rf : Int32) : Prop := rCn τ m n ∧ rLaw τ l ∧ τ.2 49 = v ∧ (∀ p, p < n → dk p = τ.2 37 p) ∧ (∀ p, p < n → fs p = τ.2 38 p) ∧ (∀ j, j < 3 * ul → τ.2 47 j = Int32.ofNat (Z j)) ∧ τ.1 39 = Int32.ofNat g ∧ τ.1 40 = dn ∧ τ.1 41 = rf
theorem sGo_c {l : List Nat} {n : Nat} {dk dk' fs fs' : Nat → Int32} (h6 : n ≤ 6) (h1 : ∀ p, p < n → dk p = dk' p) (h2 : ∀ p, p < n → fs p = fs' p) (k a c : Nat) (v : Nat → Int32) : sGo l n dk fs k a c v = sGo l n dk' fs' k a c v := by
  unfold sGo
  rw [sPass_c (l := l) (v := v) h6 h1 h2]
theorem bGo_b (n k a c : Nat) (v : Nat → Int32) : bGo n k a c v &&& 1 = bGo n k a c v ∧ (bGo n k a c v = 0 ∨ bGo n k a c v = 1) := by
  unfold bGo bSit bRise bFeed bCurt
  constructor
  · repeat' split
    all_goals decide
  · repeat' split
    all_goals first | exact Or.inl rfl | exact Or.inr rfl
theorem Kf_0 {s s' : rT} {z : Nat} {f : Nat → Int32} (h : s' = wR s z f) (hz : z = 0) : Kf [] [0, 22, 23] s s' := by
  subst h hz
  exact (Kf.rf _ _ s).wR (by decide) _
theorem X_try (d : Nat) {M mm : Nat} {H : pH} {L : xA} {s r : rT} {ex : List pC} {m n : Nat} {l : List Nat} (D : Dj L) (o : ∀ j, M ≤ j → Ot L j) (C : Cn s m n) (xl : xLaw s l) (hv : scI 800 m n (s.2 0)) {p k a c : Nat} (hp : p < 64) (e1 : r.2 1 p = Int32.ofNat k) (e2 : r.2 2 p = Int32.ofNat a) (e3 : r.2 3 p = Int32.ofNat c) (hk : wkS m n k a c) : ∃ s', Kf [] [0, 22, 23] s s' ∧ s'.2 0 = sGo l n (s.2 12) (s.2 13) k a c (s.2 0) ∧ vcall (d + 6) m_Wk_tryStep [.ref M, .int (Int32.ofNat p), .ref (aP L), .ref (aW L)] (kQ M mm H L s r ex) = some (.inl (some (.int (bGo n k a c (s.2 0)))), kQ M mm H L s' r ex) := by
  obtain ⟨h1, h2, h3⟩ := hk
  have h8 := C.2.1
  have h6 := C.2.2.2
  have hX : vcall (d + 6) m_Wk_tryStep [.ref M, .int (Int32.ofNat p), .ref (aP L), .ref (aW L)] (kQ M mm H L s r ex) = _ := (kQ_v o rfl).trans (B_Wk_tryStep_0 _ _ _ _ _ _)
  rw [(kQ_gR o).1, obs, (kQ_gI o).1 hp, obs, e1] at hX
  have bb := fun k => (bGo_b n k a c (s.2 0)).1
  have : k = 0 ∨ k = 1 ∨ k = 2 ∨ k = 3 ∨ k = 4 := by omega
  rcases this with rfl | rfl | rfl | rfl | rfl
  · rw [if_neg (by decide), if_neg (by decide)] at h3
    have c1 : vcall (d + 5) m_Sc_letSit [.ref (aP L), .int (Int32.ofNat a), .int (Int32.ofNat c)] (kQ M mm H L s r ex) = _ := c_S_letSit (d + 3) (b := aL M mm (wkL M r ++ ex) H) (s := s) (SN_p D) C a c (by omega)
    refine ⟨wR s 0 (sSit n a c (s.2 0)), Kf_0 rfl rfl, wR_g _ _ _, hX.trans ?_⟩
    rw [if_pos (by decide), (kQ_gR o).2.1, obs, (kQ_gI o).2.1 hp, obs, e2, (kQ_gR o).2.2.1, obs, (kQ_gI o).2.2.1 hp, obs, e3, c1, kC1_v]
    exact if_pos (bb 0)
  · rw [if_neg (by decide), if_neg (by decide)] at h3
    have c1 : vcall (d + 5) m_Sc_letRise [.ref (aP L), .int (Int32.ofNat a)] (kQ M mm H L s r ex) = _ := c_S_letRise (d + 3) (b := aL M mm (wkL M r ++ ex) H) (s := s) (SN_p D) a (by omega)
    refine ⟨wR s 0 (sRise a (s.2 0)), Kf_0 rfl rfl, wR_g _ _ _, hX.trans ?_⟩
    rw [if_neg (by decide), if_pos (by decide), (kQ_gR o).2.1, obs, (kQ_gI o).2.1 hp, obs, e2, c1, kC1_v]
    exact if_pos (bb 1)
  · rw [if_neg (by decide), if_neg (by decide)] at h3
    have c1 : vcall (d + 5) m_Sc_giveMeal [.ref (aP L), .int (Int32.ofNat a)] (kQ M mm H L s r ex) = _ := c_S_giveMeal (d + 4) (b := aL M mm (wkL M r ++ ex) H) (s := s) (SN_p D) a (by omega)
    refine ⟨wR s 0 (sFeed a (s.2 0)), Kf_0 rfl rfl, wR_g _ _ _, hX.trans ?_⟩
    rw [if_neg (by decide), if_neg (by decide), if_pos (by decide), (kQ_gR o).2.1, obs, (kQ_gI o).2.1 hp, obs, e2, c1, kC1_v]
    exact if_pos (bb 2)
  · rw [if_pos rfl] at h3
    have c1 : vcall (d + 5) m_Sc_drawCurtain [.ref (aP L), .int (Int32.ofNat a), .int (Int32.ofNat c)] (kQ M mm H L s r ex) = _ := c_S_drawCurtain (d + 4) (b := aL M mm (wkL M r ++ ex) H) (s := s) (SN_p D) a (by omega) (Int32.ofNat c)
    refine ⟨wR s 0 (sCurt a (Int32.ofNat c) (s.2 0)), Kf_0 rfl rfl, wR_g _ _ _, hX.trans ?_⟩
    rw [if_neg (by decide), if_neg (by decide), if_neg (by decide), if_pos (by decide), (kQ_gR o).2.1, obs, (kQ_gI o).2.1 hp, obs, e2, (kQ_gR o).2.2.1, obs, (kQ_gI o).2.2.1 hp, obs, e3, c1, kC1_v]
    exact if_pos (bb 3)
  · have g6 : gFi (kQ M mm H L s r ex) (aP L) 5 6 = some (s.2 0 75) := gFi_at (sn_0 (SN_p D)) rfl
    obtain ⟨v1, v2, ⟨dd, d1, d2, -⟩, -⟩ := hv
    rw [if_neg (by decide), if_neg (by decide), if_neg (by decide), if_neg (by decide), g6, obs, d2] at hX
    have el : (Int32.ofNat dd < 800) = (dd < 800) := ii_lt (b := 800) (by omega) (by omega)
    have ee : (Int32.ofNat dd = 800) = (dd = 800) := ii_eq (b := 800) (by omega) (by omega)
    by_cases h : dd = 800
    · refine ⟨s, Kf.rf _ _ s, ?_, hX.trans ?_⟩
      · unfold sGo; simp [d2, ee, h]
      · rw [if_neg (by rw [el]; omega)]
        unfold bGo; simp [d2, ee, h]
    · obtain ⟨s', k1, k2, k3⟩ := c_S_passDay (d + 1) (b := aL M mm (wkL M r ++ ex) H) (s := s) (SN_p D) xl C v1 v2
      have k3' : vcall (d + 5) m_Sc_passDay [.ref (aP L), .ref (aW L)] (kQ M mm H L s r ex) = some (.inl none, kQ M mm H L s' r ex) := k3
      refine ⟨s', k1.up (by decide) (by decide), ?_, hX.trans ?_⟩
      · rw [k2]; unfold sGo; simp [d2, ee, h]
      · rw [if_pos (by rw [el]; omega), k3', kC0_v]
        unfold bGo; simp [d2, ee, h]
/-- nothing more is done: two hundred steps have begun -/
theorem X_dead {M mm : Nat} {H : pH} {L : xA} {s : rT} {ex : List pC} {len : Nat} (d : Nat) (o : ∀ j, M ≤ j → Ot L j) (hl : len ≤ 64) (p1 p2 : Nat) : ∀ (f t : Nat), t + f = 100000 → ∀ (x : Int32) (l6 : Value) (r : rT), r.1 6 = Int32.ofNat len → ∃ r', r'.1 = r.1 ∧ den (d + 1) m_Wk_run 8 [.ref M, .ref p1, .ref p2, .int x, .int (Int32.ofNat 200), .int (Int32.ofNat t), l6] [] (kQ M mm H L s r ex) = some (.inl none, kQ M mm H L s r' ex) := by
  intro f
  induction f with
  | zero =>
    intro t ht x l6 r h6
    refine ⟨r, rfl, ?_⟩
    rw [B_Wk_run_8, if_pos (by show Int32.ofNat 100000 ≤ Int32.ofNat t; rw [ii_le (by omega) (by omega)]; omega)]
  | succ f ih =>
    intro t ht x l6 r h6
    have h0 := B_Wk_run_8 (d + 1) M p1 p2 x (Int32.ofNat 200) (Int32.ofNat t) l6 (kQ M mm H L s r ex)
    rw [if_neg (by show ¬ (Int32.ofNat 100000 ≤ Int32.ofNat t); rw [ii_le (by omega) (by omega)]; omega)] at h0
    by_cases hx : x < 0
    · rw [if_pos hx] at h0
      exact ⟨r, rfl, h0⟩
    rw [if_neg hx, (kQ_gF o).2.1, obs, h6] at h0
    by_cases hx2 : Int32.ofNat len ≤ x
    · rw [if_pos hx2] at h0
      exact ⟨r, rfl, h0⟩
    obtain ⟨p, hp, rfl⟩ := ii_ex (by omega) (Int32.not_lt.mp hx) (Int32.not_le.mp hx2)
    rw [if_neg hx2, (kQ_gR o).1, obs, (kQ_gI o).1 (by omega), obs] at h0
    by_cases hk : r.2 1 p = 6
    · rw [if_neg (fun h => h hk), ii_1] at h0
      have bh : ∃ (y : Int32) (r1 : rT), r1.1 = r.1 ∧ vcall (d + 1) m_Wk_behindRound [.ref M, .int (Int32.ofNat p)] (kQ M mm H L s r ex) = some (.inl (some (.int y)), kQ M mm H L s r1 ex) := by
        have hb : vcall (d + 1) m_Wk_behindRound [.ref M, .int (Int32.ofNat p)] (kQ M mm H L s r ex) = _ := (kQ_v o rfl).trans (B_Wk_behindRound_0 _ _ _ _)
        rw [(kQ_gR o).2.1, obs, (kQ_gI o).2.1 (by omega), obs] at hb
        by_cases c1 : r.2 2 p < 0
        · rw [if_pos c1] at hb
          exact ⟨_, r, rfl, hb⟩
        rw [if_neg c1, (kQ_gR o).2.2.2.1, obs, (kQ_gN o).2.2.2.1, obs] at hb
        by_cases c2 : r.2 2 p < 64
        · obtain ⟨q, hq, eq⟩ := ii_ex (n := 64) (by decide) (Int32.not_lt.mp c1) c2
          rw [if_pos c2, obs, eq, (kQ_gI o).2.2.2.1 hq, obs, (kQ_pI o _).2.2.2.1 hq, obs, (kQ_gR o).2.2.2.1, obs, (kQ_gI o).2.2.2.1 hq, obs] at hb
          by_cases c3 : (wA r 4 q (r.2 4 q - 1)).2 4 q ≤ 0
          · rw [if_pos c3] at hb
            exact ⟨_, wA r 4 q (r.2 4 q - 1), rfl, hb⟩
          · rw [if_neg c3] at hb
            exact ⟨_, wA r 4 q (r.2 4 q - 1), rfl, hb⟩
        · rw [if_neg c2] at hb
          exact ⟨_, r, rfl, hb⟩
      obtain ⟨y, r1, y1, y2⟩ := bh
      rw [y2, kC1_v] at h0
      obtain ⟨r2, z1, z2⟩ := ih (t + 1) (by omega) y l6 r1 (by rw [y1]; exact h6)
      exact ⟨r2, z1.trans y1, h0.trans z2⟩
    · rw [if_pos hk, if_neg (by decide)] at h0
      exact ⟨r, rfl, h0⟩
theorem R_dead (d : Nat) (b : pS) {τ : rT} (h : τ.1 39 = Int32.ofNat 200) (l1 to k : Int32) (l4 l5 : Value) : den d m_R_goesSteps 2 [.ref 30, .int l1, .int to, .int k, l4, l5] [] (mS b τ) = some (.inl none, mS b τ) := by
  have g39 : gFi (mS b τ) 30 11 39 = some (Int32.ofNat 200) := (gFi_at mS_30 rfl).trans (congrArg some h)
  rw [B_R_goesSteps_2]
  by_cases c : to ≤ k
  · rw [if_pos c]
  · rw [if_neg c, g39, obs, if_pos (by decide)]
