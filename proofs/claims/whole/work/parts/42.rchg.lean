/-! SCENES that change, as functions; how the reference changes them -/
theorem wA_def (τ : rT) (a k : Nat) (v : Int32) : wA τ a k v = wR τ a (upd (τ.2 a) k v) := id rfl
theorem wR_wR (τ : rT) (a : Nat) (f g : Nat → Int32) : wR (wR τ a f) a g = wR τ a g := by
  unfold wR
  refine congrArg (fun z => (τ.1, z)) (funext fun c => ?_)
  dsimp only
  by_cases h : c = a <;> simp [h]
theorem wR_g (τ : rT) (a : Nat) (f : Nat → Int32) : (wR τ a f).2 a = f := by unfold wR; simp
theorem upd_s (f : Nat → Int32) (k : Nat) (v : Int32) : upd f k v k = v := by unfold upd; simp
theorem upd_n (f : Nat → Int32) {k j : Nat} (v : Int32) (h : j ≠ k) : upd f k v j = f j := by unfold upd; simp [h]
theorem upd_c (f : Nat → Int32) {j k : Nat} (x y : Int32) (h : j ≠ k) : upd (upd f j x) k y = upd (upd f k y) j x := by
  funext i; unfold upd
  by_cases h1 : i = k
  · subst h1; simp [Ne.symm h]
  · simp [h1]
def sSit (n p t : Nat) (v : Nat → Int32) : Nat → Int32 := if sOn n v (Int32.ofNat t) = -1 then upd (upd v (8 + p) (Int32.ofNat t)) (14 + p) 0 else v
def bSit (n t : Nat) (v : Nat → Int32) : Int32 := if sOn n v (Int32.ofNat t) = -1 then 1 else 0
def sRise (p : Nat) (v : Nat → Int32) : Nat → Int32 := if v (8 + p) = -1 then v else upd (upd v (8 + p) (-1)) (14 + p) 0
def bRise (p : Nat) (v : Nat → Int32) : Int32 := if v (8 + p) = -1 then 0 else 1
def sFeed (p : Nat) (v : Nat → Int32) : Nat → Int32 := if v (20 + p) = 0 then v else if v 74 = 0 then v else upd (upd v (20 + p) 0) 74 (v 74 - 1)
def bFeed (p : Nat) (v : Nat → Int32) : Int32 := if v (20 + p) = 0 then 0 else if v 74 = 0 then 0 else 1
def sCurt (t : Nat) (c : Int32) (v : Nat → Int32) : Nat → Int32 := if v (0 + t) = c then v else upd v (0 + t) c
def bCurt (t : Nat) (c : Int32) (v : Nat → Int32) : Int32 := if v (0 + t) = c then 0 else 1
def hgr (x : Int32) : Int32 := if x = 99 then 99 else x + 1
def mnP (x : Int32) : Int32 := if x ≤ 9999 then x else 9999
/-- a day that passes: of the first k1 plate and stillness, of the first k2 hunger and rising are done -/
def cfS (μ fs v : Nat → Int32) (k1 k2 : Nat) : Nat → Int32 := fun i =>
  if i < 8 then v i
  else if i < 14 then (if i - 8 < k2 ∧ ¬ v (8 + (i - 8)) = -1 ∧ fs (i - 8) < hgr (v (20 + (i - 8))) then -1 else v i)
  else if i < 20 then (if i - 14 < k2 ∧ ¬ v (8 + (i - 14)) = -1 ∧ fs (i - 14) < hgr (v (20 + (i - 14))) then 0 else if i - 14 < k1 ∧ ¬ v (8 + (i - 14)) = -1 then v i + 1 else v i)
  else if i < 26 then (if i - 20 < k2 then hgr (v i) else v i)
  else if i < 74 then (if (i - 26) % 6 < k1 ∧ v (8 + (i - 26) % 6) = Int32.ofNat ((i - 26) / 6) then mnP (v i + μ ((i - 26) % 6)) else v i)
  else v i
section
variable {μ fs v : Nat → Int32} {k1 k2 : Nat}
theorem cf_0 {i : Nat} (h : i < 8) : cfS μ fs v k1 k2 i = v i := by unfold cfS; rw [if_pos h]
theorem cf_8 {p : Nat} (h : p < 6) : cfS μ fs v k1 k2 (8 + p) = if p < k2 ∧ ¬ v (8 + p) = -1 ∧ fs p < hgr (v (20 + p)) then -1 else v (8 + p) := by
  unfold cfS; rw [if_neg (by omega), if_pos (by omega), Nat.add_sub_cancel_left]
theorem cf_14 {p : Nat} (h : p < 6) : cfS μ fs v k1 k2 (14 + p) = if p < k2 ∧ ¬ v (8 + p) = -1 ∧ fs p < hgr (v (20 + p)) then 0 else if p < k1 ∧ ¬ v (8 + p) = -1 then v (14 + p) + 1 else v (14 + p) := by
  unfold cfS; rw [if_neg (by omega), if_neg (by omega), if_pos (by omega), Nat.add_sub_cancel_left]
theorem cf_20 {p : Nat} (h : p < 6) : cfS μ fs v k1 k2 (20 + p) = if p < k2 then hgr (v (20 + p)) else v (20 + p) := by
  unfold cfS; rw [if_neg (by omega), if_neg (by omega), if_neg (by omega), if_pos (by omega), Nat.add_sub_cancel_left]
theorem cf_26 {t p : Nat} (ht : t < 8) (h : p < 6) : cfS μ fs v k1 k2 (26 + 6 * t + p) = if p < k1 ∧ v (8 + p) = Int32.ofNat t then mnP (v (26 + 6 * t + p) + μ p) else v (26 + 6 * t + p) := by
  unfold cfS
  rw [if_neg (by omega), if_neg (by omega), if_neg (by omega), if_neg (by omega), if_pos (by omega), show (26 + 6 * t + p - 26) % 6 = p by omega, show (26 + 6 * t + p - 26) / 6 = t by omega]
theorem cf_74 {i : Nat} (h : 74 ≤ i) : cfS μ fs v k1 k2 i = v i := by
  unfold cfS; rw [if_neg (by omega), if_neg (by omega), if_neg (by omega), if_neg (by omega), if_neg (by omega)]
theorem cf_ext {g h : Nat → Int32} (h0 : ∀ i, i < 8 → g i = h i) (h1 : ∀ p, p < 6 → g (8 + p) = h (8 + p)) (h2 : ∀ p, p < 6 → g (14 + p) = h (14 + p)) (h3 : ∀ p, p < 6 → g (20 + p) = h (20 + p)) (h4 : ∀ t p, t < 8 → p < 6 → g (26 + 6 * t + p) = h (26 + 6 * t + p)) (h5 : ∀ i, 74 ≤ i → g i = h i) : g = h := by
  funext i
  by_cases c0 : i < 8
  · exact h0 i c0
  by_cases c1 : i < 14
  · have := h1 (i - 8) (by omega); rwa [show 8 + (i - 8) = i by omega] at this
  by_cases c2 : i < 20
  · have := h2 (i - 14) (by omega); rwa [show 14 + (i - 14) = i by omega] at this
  by_cases c3 : i < 26
  · have := h3 (i - 20) (by omega); rwa [show 20 + (i - 20) = i by omega] at this
  by_cases c4 : i < 74
  · have := h4 ((i - 26) / 6) ((i - 26) % 6) (by omega) (by omega); rwa [show 26 + 6 * ((i - 26) / 6) + (i - 26) % 6 = i by omega] at this
  exact h5 i (by omega)
theorem cf_00 : cfS μ fs v 0 0 = v := by
  refine cf_ext (fun i hi => cf_0 hi) (fun p hp => ?_) (fun p hp => ?_) (fun p hp => ?_) (fun t p ht hp => ?_) (fun i hi => cf_74 hi)
  · rw [cf_8 hp]; simp
  · rw [cf_14 hp]; simp
  · rw [cf_20 hp]; simp
  · rw [cf_26 ht hp]; simp
end
theorem lt_s1 {p k : Nat} (h : p ≠ k) : (p < k + 1) = (p < k) := propext (by omega)
/-- of one who sits nowhere: both, or hunger alone -/
theorem cf_n {μ fs v : Nat → Int32} {k : Nat} (hk : k < 6) (h : v (8 + k) = -1) : upd (cfS μ fs v k k) (20 + k) (hgr (v (20 + k))) = cfS μ fs v (k + 1) (k + 1) := by
  refine cf_ext (fun i hi => ?_) (fun p hp => ?_) (fun p hp => ?_) (fun p hp => ?_) (fun t p ht hp => ?_) (fun i hi => ?_)
  · simp (disch := omega) only [upd_n, upd_s, cf_0, cf_8, cf_14, cf_20, cf_26, cf_74]
  · by_cases e : p = k
    · subst e; simp (disch := omega) only [upd_n, upd_s, cf_0, cf_8, cf_14, cf_20, cf_26, cf_74]; simp [h]
    · simp (disch := omega) only [upd_n, upd_s, cf_0, cf_8, cf_14, cf_20, cf_26, cf_74, lt_s1 e]
  · by_cases e : p = k
    · subst e; simp (disch := omega) only [upd_n, upd_s, cf_0, cf_8, cf_14, cf_20, cf_26, cf_74]; simp [h]
    · simp (disch := omega) only [upd_n, upd_s, cf_0, cf_8, cf_14, cf_20, cf_26, cf_74, lt_s1 e]
  · by_cases e : p = k
    · subst e; simp (disch := omega) only [upd_n, upd_s, cf_0, cf_8, cf_14, cf_20, cf_26, cf_74]; simp
    · simp (disch := omega) only [upd_n, upd_s, cf_0, cf_8, cf_14, cf_20, cf_26, cf_74, lt_s1 e]
  · by_cases e : p = k
    · subst e; simp (disch := omega) only [upd_n, upd_s, cf_0, cf_8, cf_14, cf_20, cf_26, cf_74, h]; rw [if_neg (by simp), if_neg (fun h2 => by have := ii_n1 (a := t) (by omega); rw [h2.2.symm] at this; simp at this)]
    · simp (disch := omega) only [upd_n, upd_s, cf_0, cf_8, cf_14, cf_20, cf_26, cf_74, lt_s1 e]
  · simp (disch := omega) only [upd_n, upd_s, cf_0, cf_8, cf_14, cf_20, cf_26, cf_74]
/-- plate and stillness of one who sits on t -/
theorem cf_m {μ fs v : Nat → Int32} {k k2 t : Nat} (hk : k < 6) (hk2 : k2 ≤ k) (ht : t < 8) (h : v (8 + k) = Int32.ofNat t) : upd (upd (cfS μ fs v k k2) (26 + 6 * t + k) (mnP (v (26 + 6 * t + k) + μ k))) (14 + k) (v (14 + k) + 1) = cfS μ fs v (k + 1) k2 := by
  have h1 : ¬ v (8 + k) = -1 := by rw [h]; simp [ii_n1 (a := t) (by omega)]
  refine cf_ext (fun i hi => ?_) (fun p hp => ?_) (fun p hp => ?_) (fun p hp => ?_) (fun t' p ht' hp => ?_) (fun i hi => ?_)
  · simp (disch := omega) only [upd_n, upd_s, cf_0, cf_8, cf_14, cf_20, cf_26, cf_74]
  · simp (disch := omega) only [upd_n, upd_s, cf_0, cf_8, cf_14, cf_20, cf_26, cf_74]
  · by_cases e : p = k
    · subst e; simp (disch := omega) only [upd_n, upd_s, cf_0, cf_8, cf_14, cf_20, cf_26, cf_74]; rw [if_neg (by omega), if_pos ⟨by omega, h1⟩]
    · simp (disch := omega) only [upd_n, upd_s, cf_0, cf_8, cf_14, cf_20, cf_26, cf_74, lt_s1 e]
  · simp (disch := omega) only [upd_n, upd_s, cf_0, cf_8, cf_14, cf_20, cf_26, cf_74]
  · by_cases e : p = k
    · subst e
      by_cases e2 : t' = t
      · subst e2; simp (disch := omega) only [upd_n, upd_s, cf_0, cf_8, cf_14, cf_20, cf_26, cf_74]; rw [if_pos ⟨by omega, h⟩]
      · simp (disch := omega) only [upd_n, upd_s, cf_0, cf_8, cf_14, cf_20, cf_26, cf_74]; rw [if_neg (by omega), if_neg (fun h2 => e2 (by have := h2.2.symm.trans h; rwa [ii_eq (by omega) (by omega)] at this))]
    · simp (disch := omega) only [upd_n, upd_s, cf_0, cf_8, cf_14, cf_20, cf_26, cf_74, lt_s1 e]
  · simp (disch := omega) only [upd_n, upd_s, cf_0, cf_8, cf_14, cf_20, cf_26, cf_74]
/-- hunger of one who keeps his seat, or has none -/
theorem cf_h {μ fs v : Nat → Int32} {k1 k : Nat} (hk : k < 6) (h : v (8 + k) = -1 ∨ ¬ fs k < hgr (v (20 + k))) : upd (cfS μ fs v k1 k) (20 + k) (hgr (v (20 + k))) = cfS μ fs v k1 (k + 1) := by
  have h1 : ¬ (¬ v (8 + k) = -1 ∧ fs k < hgr (v (20 + k))) := fun g => h.elim g.1 (fun g2 => g2 g.2)
  refine cf_ext (fun i hi => ?_) (fun p hp => ?_) (fun p hp => ?_) (fun p hp => ?_) (fun t p ht hp => ?_) (fun i hi => ?_)
  · simp (disch := omega) only [upd_n, upd_s, cf_0, cf_8, cf_14, cf_20, cf_26, cf_74]
  · by_cases e : p = k
    · subst e; simp (disch := omega) only [upd_n, upd_s, cf_0, cf_8, cf_14, cf_20, cf_26, cf_74]; rw [if_neg (by omega), if_neg (fun g => h1 g.2)]
    · simp (disch := omega) only [upd_n, upd_s, cf_0, cf_8, cf_14, cf_20, cf_26, cf_74, lt_s1 e]
  · by_cases e : p = k
    · subst e; simp (disch := omega) only [upd_n, upd_s, cf_0, cf_8, cf_14, cf_20, cf_26, cf_74]; rw [if_neg (by omega), if_neg (c := p < p + 1 ∧ _) (fun g => h1 g.2)]
    · simp (disch := omega) only [upd_n, upd_s, cf_0, cf_8, cf_14, cf_20, cf_26, cf_74, lt_s1 e]
  · by_cases e : p = k
    · subst e; simp (disch := omega) only [upd_n, upd_s, cf_0, cf_8, cf_14, cf_20, cf_26, cf_74]; simp
    · simp (disch := omega) only [upd_n, upd_s, cf_0, cf_8, cf_14, cf_20, cf_26, cf_74, lt_s1 e]
  · simp (disch := omega) only [upd_n, upd_s, cf_0, cf_8, cf_14, cf_20, cf_26, cf_74]
  · simp (disch := omega) only [upd_n, upd_s, cf_0, cf_8, cf_14, cf_20, cf_26, cf_74]
/-- hunger of one who gets up -/
theorem cf_u {μ fs v : Nat → Int32} {k1 k : Nat} (hk : k < 6) (h1 : ¬ v (8 + k) = -1) (h2 : fs k < hgr (v (20 + k))) : upd (upd (upd (cfS μ fs v k1 k) (20 + k) (hgr (v (20 + k)))) (8 + k) (-1)) (14 + k) 0 = cfS μ fs v k1 (k + 1) := by
  refine cf_ext (fun i hi => ?_) (fun p hp => ?_) (fun p hp => ?_) (fun p hp => ?_) (fun t p ht hp => ?_) (fun i hi => ?_)
  · simp (disch := omega) only [upd_n, upd_s, cf_0, cf_8, cf_14, cf_20, cf_26, cf_74]
  · by_cases e : p = k
    · subst e; simp (disch := omega) only [upd_n, upd_s, cf_0, cf_8, cf_14, cf_20, cf_26, cf_74]; rw [if_pos ⟨by omega, h1, h2⟩]
    · simp (disch := omega) only [upd_n, upd_s, cf_0, cf_8, cf_14, cf_20, cf_26, cf_74, lt_s1 e]
  · by_cases e : p = k
    · subst e; simp (disch := omega) only [upd_n, upd_s, cf_0, cf_8, cf_14, cf_20, cf_26, cf_74]; rw [if_pos ⟨by omega, h1, h2⟩]
    · simp (disch := omega) only [upd_n, upd_s, cf_0, cf_8, cf_14, cf_20, cf_26, cf_74, lt_s1 e]
  · by_cases e : p = k
    · subst e; simp (disch := omega) only [upd_n, upd_s, cf_0, cf_8, cf_14, cf_20, cf_26, cf_74]; simp
    · simp (disch := omega) only [upd_n, upd_s, cf_0, cf_8, cf_14, cf_20, cf_26, cf_74, lt_s1 e]
  · simp (disch := omega) only [upd_n, upd_s, cf_0, cf_8, cf_14, cf_20, cf_26, cf_74]
  · simp (disch := omega) only [upd_n, upd_s, cf_0, cf_8, cf_14, cf_20, cf_26, cf_74]
def mkB (l : List Nat) (n : Nat) (dk v : Nat → Int32) (p : Nat) : Int32 := if v (8 + p) = -1 then 0 else mkv l (v (v (8 + p)).toNatClampNeg) (dk p) (v (14 + p)) (v (20 + p)) (v (8 + p)) (Int32.ofNat p) (onesI (sSits n v) - 1) (v 75)
theorem mkB_t {l : List Nat} {n : Nat} {dk v : Nat → Int32} {p t : Nat} (ht : t < 8) (h : v (8 + p) = Int32.ofNat t) : mkB l n dk v p = mkv l (v t) (dk p) (v (14 + p)) (v (20 + p)) (Int32.ofNat t) (Int32.ofNat p) (onesI (sSits n v) - 1) (v 75) := by
  unfold mkB
  rw [if_neg (by rw [h]; simp [ii_n1 (a := t) (by omega)]), h, ii_tn (by omega)]
def sPass (l : List Nat) (n : Nat) (dk fs v : Nat → Int32) : Nat → Int32 := upd (cfS (mkB l n dk v) fs v n n) 75 (v 75 + 1)
/-- the places of those who sit -/
def Sok (m n : Nat) (v : Nat → Int32) : Prop := ∀ p, p < n → v (8 + p) = -1 ∨ ∃ t, t < m ∧ v (8 + p) = Int32.ofNat t
def rCn (τ : rT) (m n : Nat) : Prop := τ.1 22 = Int32.ofNat m ∧ m ≤ 8 ∧ τ.1 23 = Int32.ofNat n ∧ n ≤ 6
theorem Kf.cn {F A : List Nat} {τ τ' : rT} {m n : Nat} (h : Kf F A τ τ') (C : rCn τ m n) (e1 : 22 ∉ F := by decide) (e2 : 23 ∉ F := by decide) : rCn τ' m n := ⟨(h.1 _ e1).trans C.1, C.2.1, (h.1 _ e2).trans C.2.2.1, C.2.2.2⟩
theorem c_R_markBy (d : Nat) (b : pS) (τ : rT) {l : List Nat} {m n : Nat} (hl : rLaw τ l) (C : rCn τ m n) (K : Sok m n (τ.2 49)) (p : Nat) (hp : p < n) : ∃ τ', Kf [] [44, 45] τ τ' ∧ vcall (d + 5) m_R_markBy [.ref 30, .int (Int32.ofNat p)] (mS b τ) = some (.inl (some (.int (mkB l n (τ.2 37) (τ.2 49) p))), mS b τ') := by
  obtain ⟨hm, h8, hn, h6⟩ := C
  rcases K p hp with h | ⟨t, ht, h⟩
  · refine ⟨τ, Kf.rf _ _ τ, (vR rfl).trans ((B_R_markBy_0 _ _ _ _).trans ?_)⟩
    simp (disch := omega) only [m_gF, m_gI, m_pI, m_gIl, m_pIl, ii_m1, ii_s1, m_pF, obs, wF_1, wF_2, wA_1, wA_2, wR_1, wR_2, Nat.reduceEqDiff, Nat.reduceAdd, Nat.reduceMul, if_true, if_false, ite_true, ite_false, ii_la, ii_al, ii_lm, ii_ml, ii_add, ii_mul, ii_1, ii_le, ii_lt, ii_c1, ii_c2, ii_c3, ii_c4, ii_c5, ii_n1, ii_nn, kC0_v, kC1_v, kC2_v, kC3_v, kC0_x, kC1_x, kC2_x, not_true_eq_false, not_false_eq_true, ne_eq, h]
    unfold mkB
    rw [if_pos h]
  · obtain ⟨τ', k, e⟩ := c_R_markOf d b τ l hl (τ.2 49 t) (τ.2 37 p) (τ.2 49 (14 + p)) (τ.2 49 (20 + p)) (Int32.ofNat t) (Int32.ofNat p) (onesI (sSits n (τ.2 49)) - 1) (τ.2 49 75)
    refine ⟨τ', k, (vR rfl).trans ((B_R_markBy_0 _ _ _ _).trans ?_)⟩
    simp (disch := omega) only [m_gF, m_gI, m_pI, m_gIl, m_pIl, ii_m1, ii_s1, m_pF, obs, wF_1, wF_2, wA_1, wA_2, wR_1, wR_2, Nat.reduceEqDiff, Nat.reduceAdd, Nat.reduceMul, if_true, if_false, ite_true, ite_false, ii_la, ii_al, ii_lm, ii_ml, ii_add, ii_mul, ii_1, ii_le, ii_lt, ii_c1, ii_c2, ii_c3, ii_c4, ii_c5, ii_n1, ii_nn, kC0_v, kC1_v, kC2_v, kC3_v, kC0_x, kC1_x, kC2_x, not_true_eq_false, not_false_eq_true, ne_eq, h, c_R_sitsAll (d + 3) b τ n hn h6, c_R_ones (d + 3), Nat.zero_add, e]
    rw [mkB_t (by omega) h]
theorem c_R_rises (d : Nat) (b : pS) (τ : rT) (p : Nat) (hp : p < 6) : vcall (d + 1) m_R_rises [.ref 30, .int (Int32.ofNat p)] (mS b τ) = some (.inl none, mS b (wR τ 49 (upd (upd (τ.2 49) (8 + p) (-1)) (14 + p) 0))) := by
  refine (vR rfl).trans ((B_R_rises_0 _ _ _ _).trans ?_)
  simp (disch := omega) only [m_gF, m_gI, m_pI, m_gIl, m_pIl, ii_m1, ii_s1, m_pF, obs, wF_1, wF_2, wA_1, wA_2, wR_1, wR_2, Nat.reduceEqDiff, Nat.reduceAdd, Nat.reduceMul, if_true, if_false, ite_true, ite_false, ii_la, ii_al, ii_lm, ii_ml, ii_add, ii_mul, ii_1, ii_le, ii_lt, ii_c1, ii_c2, ii_c3, ii_c4, ii_c5, ii_n1, ii_nn, kC0_v, kC1_v, kC2_v, kC3_v, kC0_x, kC1_x, kC2_x, not_true_eq_false, not_false_eq_true, ne_eq]
  rw [wA_def, wA_def, wR_wR, wR_g]
theorem c_R_sits (d : Nat) (b : pS) (τ : rT) {m n : Nat} (C : rCn τ m n) (p t : Nat) (hp : p < 6) : vcall (d + 2) m_R_sits [.ref 30, .int (Int32.ofNat p), .int (Int32.ofNat t)] (mS b τ) = some (.inl (some (.int (bSit n t (τ.2 49)))), mS b (wR τ 49 (sSit n p t (τ.2 49)))) := by
  obtain ⟨hm, h8, hn, h6⟩ := C
  refine (vR rfl).trans ((B_R_sits_0 _ _ _ _ _).trans ?_)
  simp (disch := omega) only [m_gF, m_gI, m_pI, m_gIl, m_pIl, ii_m1, ii_s1, m_pF, obs, wF_1, wF_2, wA_1, wA_2, wR_1, wR_2, Nat.reduceEqDiff, Nat.reduceAdd, Nat.reduceMul, if_true, if_false, ite_true, ite_false, ii_la, ii_al, ii_lm, ii_ml, ii_add, ii_mul, ii_1, ii_le, ii_lt, ii_c1, ii_c2, ii_c3, ii_c4, ii_c5, ii_n1, ii_nn, kC0_v, kC1_v, kC2_v, kC3_v, kC0_x, kC1_x, kC2_x, not_true_eq_false, not_false_eq_true, ne_eq, c_R_onSeat d b τ n hn h6]
  unfold bSit sSit
  by_cases h : sOn n (τ.2 49) (Int32.ofNat t) = -1
  · simp only [h, if_true, wA_def, wR_wR, wR_g]
  · simp only [h, if_false, wR_s]
theorem c_R_feeds (d : Nat) (b : pS) (τ : rT) (p : Nat) (hp : p < 6) : vcall (d + 1) m_R_feeds [.ref 30, .int (Int32.ofNat p)] (mS b τ) = some (.inl (some (.int (bFeed p (τ.2 49)))), mS b (wR τ 49 (sFeed p (τ.2 49)))) := by
  refine (vR rfl).trans ((B_R_feeds_0 _ _ _ _).trans ?_)
  simp (disch := omega) only [m_gF, m_gI, m_pI, m_gIl, m_pIl, ii_m1, ii_s1, m_pF, obs, wF_1, wF_2, wA_1, wA_2, wR_1, wR_2, Nat.reduceEqDiff, Nat.reduceAdd, Nat.reduceMul, if_true, if_false, ite_true, ite_false, ii_la, ii_al, ii_lm, ii_ml, ii_add, ii_mul, ii_1, ii_le, ii_lt, ii_c1, ii_c2, ii_c3, ii_c4, ii_c5, ii_n1, ii_nn, kC0_v, kC1_v, kC2_v, kC3_v, kC0_x, kC1_x, kC2_x, not_true_eq_false, not_false_eq_true, ne_eq]
  unfold bFeed sFeed
  by_cases h : τ.2 49 (20 + p) = 0
  · simp only [h, if_true, wR_s]
  · by_cases h2 : τ.2 49 74 = 0
    · simp only [h, h2, if_true, if_false, wR_s, not_true_eq_false]
    · simp (disch := omega) only [h, h2, if_true, if_false, not_false_eq_true, wA_def, wR_wR, wR_g, upd_n]
theorem c_R_passes (d : Nat) (b : pS) (τ : rT) {l : List Nat} {m n : Nat} (hl : rLaw τ l) (C : rCn τ m n) (K : Sok m n (τ.2 49)) : ∃ τ', Kf [] [44, 45, 49, 51] τ τ' ∧ τ'.2 49 = sPass l n (τ.2 37) (τ.2 38) (τ.2 49) ∧ vcall (d + 6) m_R_passes [.ref 30] (mS b τ) = some (.inl none, mS b τ') := by
  have C' := C
  obtain ⟨hm, h8, hn, h6⟩ := C
  obtain ⟨τ1, e1, k1, i1⟩ := ex_loop (F := fun k (x : rT) => den (d + 5) m_R_passes 2 [.ref 30, .int (Int32.ofNat k), mk0, mk0] [] (mS b x)) (I := fun k x => Kf [] [44, 45, 51] τ x ∧ ∀ p, p < k → x.2 51 p = mkB l n (τ.2 37) (τ.2 49) p) n τ ⟨Kf.rf _ _ τ, fun p hp => absurd hp (Nat.not_lt_zero p)⟩ (fun k x hk hx => by
    obtain ⟨k1, i1⟩ := hx
    have hn1 := (k1.1 23 (by decide)).trans hn
    have e49 := k1.2 49 (by decide)
    have e37 := k1.2 37 (by decide)
    obtain ⟨τ2, k2, e2⟩ := c_R_markBy d b x (k1.law hl) (k1.cn C') (by rw [e49]; exact K) k hk
    refine ⟨wA τ2 51 k (mkB l n (τ.2 37) (τ.2 49) k), ?_, (k1.tr (k2.up (by decide) (by decide))).wA (by decide) _ _, fun p hp => ?_⟩
    · rw [B_R_passes_2]
      simp (disch := omega) only [m_gF, m_gI, m_pI, m_gIl, m_pIl, ii_m1, ii_s1, m_pF, obs, wF_1, wF_2, wA_1, wA_2, wR_1, wR_2, Nat.reduceEqDiff, Nat.reduceAdd, Nat.reduceMul, if_true, if_false, ite_true, ite_false, ii_la, ii_al, ii_lm, ii_ml, ii_add, ii_mul, ii_1, ii_le, ii_lt, ii_c1, ii_c2, ii_c3, ii_c4, ii_c5, ii_n1, ii_nn, kC0_v, kC1_v, kC2_v, kC3_v, kC0_x, kC1_x, kC2_x, not_true_eq_false, not_false_eq_true, ne_eq, hn1, e2, e37, e49]
      rw [if_neg (by omega)]
    · rw [wA_2, if_pos rfl]
      by_cases h : p = k
      · subst h; rw [upd_s]
      · rw [upd_n _ _ h, k2.2 51 (by decide)]; exact i1 p (by omega))
  have hn1 := (k1.1 23 (by decide)).trans hn
  have e49 := k1.2 49 (by decide)
  have e37 := k1.2 37 (by decide)
  have e38 := k1.2 38 (by decide)
  obtain ⟨w, e2, -⟩ := ex_loop (F := fun k (x : Value × Value) => den (d + 5) m_R_passes 29 [.ref 30, .int (Int32.ofNat k), x.1, x.2] [] (mS b (wR τ1 49 (cfS (mkB l n (τ.2 37) (τ.2 49)) (τ.2 38) (τ.2 49) k k)))) (I := fun _ _ => True) n (mk0, mk0) trivial (fun k x hk _ => by
    have i2 := i1 k hk
    have eh : (if τ.2 49 (20 + k) = 99 then (99 : Int32) else τ.2 49 (20 + k) + 1) = hgr (τ.2 49 (20 + k)) := rfl
    have key : ∀ (w1 : Value), den (d + 5) m_R_passes 29 [.ref 30, .int (Int32.ofNat k), w1, x.2] [] (mS b (wR τ1 49 (cfS (mkB l n (τ.2 37) (τ.2 49)) (τ.2 38) (τ.2 49) k k))) = den (d + 5) m_R_passes 85 [.ref 30, .int (Int32.ofNat k), .int (τ.2 49 (8 + k)), x.2] [.int (hgr (τ.2 49 (20 + k))), .int (Int32.ofNat (20 + k)), .ref 49] (mS b (wR τ1 49 (cfS (mkB l n (τ.2 37) (τ.2 49)) (τ.2 38) (τ.2 49) k k))) := by
      intro w1
      rw [B_R_passes_29]
      simp (disch := omega) only [m_gF, m_gI, m_pI, m_gIl, m_pIl, ii_m1, ii_s1, m_pF, obs, wF_1, wF_2, wA_1, wA_2, wR_1, wR_2, Nat.reduceEqDiff, Nat.reduceAdd, Nat.reduceMul, if_true, if_false, ite_true, ite_false, ii_la, ii_al, ii_lm, ii_ml, ii_add, ii_mul, ii_1, ii_le, ii_lt, ii_c1, ii_c2, ii_c3, ii_c4, ii_c5, ii_n1, ii_nn, kC0_v, kC1_v, kC2_v, kC3_v, kC0_x, kC1_x, kC2_x, not_true_eq_false, not_false_eq_true, ne_eq, hn1, cf_8, cf_20, Nat.lt_irrefl, false_and]
      rw [if_neg (by omega), ← eh]
      by_cases h : τ.2 49 (20 + k) = 99 <;> simp [h]
    rcases K k hk with h | ⟨t, ht, h⟩
    · refine ⟨(.int (-1), x.2), ?_, trivial⟩
      dsimp only
      rw [key, B_R_passes_85]
      simp (disch := omega) only [m_gF, m_gI, m_pI, m_gIl, m_pIl, ii_m1, ii_s1, m_pF, obs, wF_1, wF_2, wA_1, wA_2, wR_1, wR_2, Nat.reduceEqDiff, Nat.reduceAdd, Nat.reduceMul, if_true, if_false, ite_true, ite_false, ii_la, ii_al, ii_lm, ii_ml, ii_add, ii_mul, ii_1, ii_le, ii_lt, ii_c1, ii_c2, ii_c3, ii_c4, ii_c5, ii_n1, ii_nn, kC0_v, kC1_v, kC2_v, kC3_v, kC0_x, kC1_x, kC2_x, not_true_eq_false, not_false_eq_true, ne_eq, h, wA_wR]
      rw [cf_n (by omega) h]
    · have hne : ¬ τ.2 49 (8 + k) = -1 := by rw [h]; simp [ii_n1 (a := t) (by omega)]
      have k147 : den (d + 5) m_R_passes 147 [.ref 30, .int (Int32.ofNat k), .int (Int32.ofNat t), .int (Int32.ofNat (26 + 6 * t + k))] [.int (mnP (τ.2 49 (26 + 6 * t + k) + mkB l n (τ.2 37) (τ.2 49) k)), .int (Int32.ofNat (26 + 6 * t + k)), .ref 49] (mS b (wR τ1 49 (upd (cfS (mkB l n (τ.2 37) (τ.2 49)) (τ.2 38) (τ.2 49) k k) (20 + k) (hgr (τ.2 49 (20 + k)))))) = den (d + 5) m_R_passes 29 [.ref 30, .int (Int32.ofNat (k + 1)), .int (Int32.ofNat t), .int (Int32.ofNat (26 + 6 * t + k))] [] (mS b (wR τ1 49 (cfS (mkB l n (τ.2 37) (τ.2 49)) (τ.2 38) (τ.2 49) (k + 1) (k + 1)))) := by
        rw [B_R_passes_147]
        simp (disch := omega) only [m_gF, m_gI, m_pI, m_gIl, m_pIl, ii_m1, ii_s1, m_pF, obs, wF_1, wF_2, wA_1, wA_2, wR_1, wR_2, Nat.reduceEqDiff, Nat.reduceAdd, Nat.reduceMul, if_true, if_false, ite_true, ite_false, ii_la, ii_al, ii_lm, ii_ml, ii_add, ii_mul, ii_1, ii_le, ii_lt, ii_c1, ii_c2, ii_c3, ii_c4, ii_c5, ii_n1, ii_nn, kC0_v, kC1_v, kC2_v, kC3_v, kC0_x, kC1_x, kC2_x, not_true_eq_false, not_false_eq_true, ne_eq, wA_wR, upd_n, upd_s, cf_14, cf_20, e38, Nat.lt_irrefl, false_and, c_R_rises (d + 4)]
        have hc : upd (upd (upd (cfS (mkB l n (τ.2 37) (τ.2 49)) (τ.2 38) (τ.2 49) k k) (20 + k) (hgr (τ.2 49 (20 + k)))) (26 + 6 * t + k) (mnP (τ.2 49 (26 + 6 * t + k) + mkB l n (τ.2 37) (τ.2 49) k))) (14 + k) (τ.2 49 (14 + k) + 1) = upd (cfS (mkB l n (τ.2 37) (τ.2 49)) (τ.2 38) (τ.2 49) (k + 1) k) (20 + k) (hgr (τ.2 49 (20 + k))) := by
          rw [upd_c _ _ _ (show 20 + k ≠ 26 + 6 * t + k by omega), upd_c _ _ _ (show 20 + k ≠ 14 + k by omega), cf_m (by omega) (Nat.le_refl k) (by omega) h]
        rw [hc]
        by_cases hu : τ.2 38 k < hgr (τ.2 49 (20 + k))
        · rw [if_neg (Int32.not_le.mpr hu), wR_wR, cf_u (by omega) hne hu]
        · rw [if_pos (Int32.not_lt.mp hu), cf_h (by omega) (Or.inr hu)]
      refine ⟨(.int (Int32.ofNat t), .int (Int32.ofNat (26 + 6 * t + k))), ?_, trivial⟩
      dsimp only
      rw [key, B_R_passes_85]
      simp (disch := omega) only [m_gF, m_gI, m_pI, m_gIl, m_pIl, ii_m1, ii_s1, m_pF, obs, wF_1, wF_2, wA_1, wA_2, wR_1, wR_2, Nat.reduceEqDiff, Nat.reduceAdd, Nat.reduceMul, if_true, if_false, ite_true, ite_false, ii_la, ii_al, ii_lm, ii_ml, ii_add, ii_mul, ii_1, ii_le, ii_lt, ii_c1, ii_c2, ii_c3, ii_c4, ii_c5, ii_n1, ii_nn, kC0_v, kC1_v, kC2_v, kC3_v, kC0_x, kC1_x, kC2_x, not_true_eq_false, not_false_eq_true, ne_eq, h, wA_wR, upd_n, cf_26, i2, Nat.lt_irrefl, false_and]
      unfold mnP at k147
      by_cases h9 : τ.2 49 (26 + 6 * t + k) + mkB l n (τ.2 37) (τ.2 49) k ≤ 9999
      · rw [if_pos h9] at k147 ⊢; exact k147
      · rw [if_neg h9] at k147 ⊢; exact k147)
  refine ⟨wR τ1 49 (sPass l n (τ.2 37) (τ.2 38) (τ.2 49)), (k1.up (by decide) (by decide)).wR (by decide) _, wR_g _ _ _, (vR rfl).trans ((B_R_passes_0 _ _ _).trans (e1.trans ?_))⟩
  rw [B_R_passes_2]
  simp (disch := omega) only [m_gF, m_gI, m_pI, m_gIl, m_pIl, ii_m1, ii_s1, m_pF, obs, wF_1, wF_2, wA_1, wA_2, wR_1, wR_2, Nat.reduceEqDiff, Nat.reduceAdd, Nat.reduceMul, if_true, if_false, ite_true, ite_false, ii_la, ii_al, ii_lm, ii_ml, ii_add, ii_mul, ii_1, ii_le, ii_lt, ii_c1, ii_c2, ii_c3, ii_c4, ii_c5, ii_n1, ii_nn, kC0_v, kC1_v, kC2_v, kC3_v, kC0_x, kC1_x, kC2_x, not_true_eq_false, not_false_eq_true, ne_eq, hn1]
  rw [if_pos (Nat.le_refl n)]
  have e3 : mS b τ1 = mS b (wR τ1 49 (cfS (mkB l n (τ.2 37) (τ.2 49)) (τ.2 38) (τ.2 49) 0 0)) := by rw [cf_00, ← e49, wR_s]
  rw [e3]
  refine e2.trans ?_
  rw [B_R_passes_29]
  simp (disch := omega) only [m_gF, m_gI, m_pI, m_gIl, m_pIl, ii_m1, ii_s1, m_pF, obs, wF_1, wF_2, wA_1, wA_2, wR_1, wR_2, Nat.reduceEqDiff, Nat.reduceAdd, Nat.reduceMul, if_true, if_false, ite_true, ite_false, ii_la, ii_al, ii_lm, ii_ml, ii_add, ii_mul, ii_1, ii_le, ii_lt, ii_c1, ii_c2, ii_c3, ii_c4, ii_c5, ii_n1, ii_nn, kC0_v, kC1_v, kC2_v, kC3_v, kC0_x, kC1_x, kC2_x, not_true_eq_false, not_false_eq_true, ne_eq, hn1, cf_74, wA_wR]
  rw [if_pos (Nat.le_refl n)]
  rfl
theorem bit01 (c : Prop) [Decidable c] : ((if c then (1 : Int32) else 0) &&& 1) = if c then 1 else 0 := by split <;> decide
theorem bit10 (c : Prop) [Decidable c] : ((if c then (0 : Int32) else 1) &&& 1) = if c then 0 else 1 := by split <;> decide
theorem bSit_b (n t : Nat) (v : Nat → Int32) : bSit n t v &&& 1 = bSit n t v := bit01 _
theorem bFeed_b (p : Nat) (v : Nat → Int32) : bFeed p v &&& 1 = bFeed p v := by unfold bFeed; split; decide; split <;> decide
/-- one step of a work: what it comes to, and whether it was done -/
def sGo (l : List Nat) (n : Nat) (dk fs : Nat → Int32) (k a c : Nat) (v : Nat → Int32) : Nat → Int32 := if k = 0 then sSit n a c v else if k = 1 then sRise a v else if k = 2 then sFeed a v else if k = 3 then sCurt a (Int32.ofNat c) v else if v 75 = 800 then v else sPass l n dk fs v
def bGo (n k a c : Nat) (v : Nat → Int32) : Int32 := if k = 0 then bSit n c v else if k = 1 then bRise a v else if k = 2 then bFeed a v else if k = 3 then bCurt a (Int32.ofNat c) v else if v 75 = 800 then 0 else 1
theorem c_R_goes (d : Nat) (b : pS) (τ : rT) {l : List Nat} {m n : Nat} (hl : rLaw τ l) (C : rCn τ m n) (K : Sok m n (τ.2 49)) (k a c : Nat) (hk : k < 5) (ha : if k = 3 then a < 8 else a < 6) : ∃ τ', Kf [] [44, 45, 49, 51] τ τ' ∧ τ'.2 49 = sGo l n (τ.2 37) (τ.2 38) k a c (τ.2 49) ∧ vcall (d + 7) m_R_goes [.ref 30, .int (Int32.ofNat k), .int (Int32.ofNat a), .int (Int32.ofNat c)] (mS b τ) = some (.inl (some (.int (bGo n k a c (τ.2 49)))), mS b τ') := by
  have hk : k = 0 ∨ k = 1 ∨ k = 2 ∨ k = 3 ∨ k = 4 := by omega
  rcases hk with rfl | rfl | rfl | rfl | rfl
  · have ha : a < 6 := ha
    refine ⟨wR τ 49 (sSit n a c (τ.2 49)), (Kf.rf _ _ τ).wR (by decide) _, wR_g _ _ _, (vR rfl).trans ((B_R_goes_0 _ _ _ _ _ _).trans ?_)⟩
    rw [c_R_sits (d + 4) b τ C a c ha]
    show (if bSit n c (τ.2 49) &&& 1 = bSit n c (τ.2 49) then _ else _) = _
    rw [if_pos (bSit_b _ _ _)]
    rfl
  · have ha : a < 6 := ha
    refine ⟨wR τ 49 (sRise a (τ.2 49)), (Kf.rf _ _ τ).wR (by decide) _, wR_g _ _ _, (vR rfl).trans ((B_R_goes_0 _ _ _ _ _ _).trans ?_)⟩
    simp (disch := omega) only [m_gF, m_gI, m_pI, m_gIl, m_pIl, ii_m1, ii_s1, m_pF, obs, wF_1, wF_2, wA_1, wA_2, wR_1, wR_2, Nat.reduceEqDiff, Nat.reduceAdd, Nat.reduceMul, if_true, if_false, ite_true, ite_false, ii_la, ii_al, ii_lm, ii_ml, ii_add, ii_mul, ii_1, ii_le, ii_lt, ii_c1, ii_c2, ii_c3, ii_c4, ii_c5, ii_n1, ii_nn, kC0_v, kC1_v, kC2_v, kC3_v, kC0_x, kC1_x, kC2_x, not_true_eq_false, not_false_eq_true, ne_eq, c_R_rises (d + 5)]
    unfold bGo sRise bRise
    by_cases h : τ.2 49 (8 + a) = -1 <;> simp [h, wR_s]
  · have ha : a < 6 := ha
    refine ⟨wR τ 49 (sFeed a (τ.2 49)), (Kf.rf _ _ τ).wR (by decide) _, wR_g _ _ _, (vR rfl).trans ((B_R_goes_0 _ _ _ _ _ _).trans ?_)⟩
    rw [c_R_feeds (d + 5) b τ a ha]
    show (if bFeed a (τ.2 49) &&& 1 = bFeed a (τ.2 49) then _ else _) = _
    rw [if_pos (bFeed_b _ _)]
    rfl
  · have ha : a < 8 := ha
    refine ⟨wR τ 49 (sCurt a (Int32.ofNat c) (τ.2 49)), (Kf.rf _ _ τ).wR (by decide) _, wR_g _ _ _, (vR rfl).trans ((B_R_goes_0 _ _ _ _ _ _).trans ?_)⟩
    simp (disch := omega) only [m_gF, m_gI, m_pI, m_gIl, m_pIl, ii_m1, ii_s1, m_pF, obs, wF_1, wF_2, wA_1, wA_2, wR_1, wR_2, Nat.reduceEqDiff, Nat.reduceAdd, Nat.reduceMul, if_true, if_false, ite_true, ite_false, ii_la, ii_al, ii_lm, ii_ml, ii_add, ii_mul, ii_1, ii_le, ii_lt, ii_c1, ii_c2, ii_c3, ii_c4, ii_c5, ii_n1, ii_nn, kC0_v, kC1_v, kC2_v, kC3_v, kC0_x, kC1_x, kC2_x, not_true_eq_false, not_false_eq_true, ne_eq]
    unfold bGo sCurt bCurt
    by_cases h : τ.2 49 a = Int32.ofNat c
    · simp [h, wR_s]
    · simp [h, wA_def]
  · by_cases h : τ.2 49 75 = 800
    · refine ⟨τ, Kf.rf _ _ τ, ?_, (vR rfl).trans ((B_R_goes_0 _ _ _ _ _ _).trans ?_)⟩
      · unfold sGo; simp [h]
      · simp (disch := omega) only [m_gF, m_gI, m_pI, m_gIl, m_pIl, ii_m1, ii_s1, m_pF, obs, wF_1, wF_2, wA_1, wA_2, wR_1, wR_2, Nat.reduceEqDiff, Nat.reduceAdd, Nat.reduceMul, if_true, if_false, ite_true, ite_false, ii_la, ii_al, ii_lm, ii_ml, ii_add, ii_mul, ii_1, ii_le, ii_lt, ii_c1, ii_c2, ii_c3, ii_c4, ii_c5, ii_n1, ii_nn, kC0_v, kC1_v, kC2_v, kC3_v, kC0_x, kC1_x, kC2_x, not_true_eq_false, not_false_eq_true, ne_eq, h]
        unfold bGo; simp [h]
    · obtain ⟨τ', k1, k2, k3⟩ := c_R_passes d b τ hl C K
      refine ⟨τ', k1, ?_, (vR rfl).trans ((B_R_goes_0 _ _ _ _ _ _).trans ?_)⟩
      · rw [k2]; unfold sGo; simp [h]
      · simp (disch := omega) only [m_gF, m_gI, m_pI, m_gIl, m_pIl, ii_m1, ii_s1, m_pF, obs, wF_1, wF_2, wA_1, wA_2, wR_1, wR_2, Nat.reduceEqDiff, Nat.reduceAdd, Nat.reduceMul, if_true, if_false, ite_true, ite_false, ii_la, ii_al, ii_lm, ii_ml, ii_add, ii_mul, ii_1, ii_le, ii_lt, ii_c1, ii_c2, ii_c3, ii_c4, ii_c5, ii_n1, ii_nn, kC0_v, kC1_v, kC2_v, kC3_v, kC0_x, kC1_x, kC2_x, not_true_eq_false, not_false_eq_true, ne_eq, h, k3]
        unfold bGo; simp [h]
