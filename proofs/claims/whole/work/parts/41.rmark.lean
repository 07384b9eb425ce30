/-! A MARK by the law: reference and program -/
theorem ii_sub {a c : Nat} (h : c ≤ a) : Int32.ofNat a - Int32.ofNat c = Int32.ofNat (a - c) := by
  have e : Int32.ofNat a = Int32.ofNat (a - c) + Int32.ofNat c := by rw [ii_add, Nat.sub_add_cancel h]
  rw [e, Int32.add_sub_cancel]
theorem ii_sn {a c : Nat} (h : a < c) (hc : c < 2147483648) : Int32.ofNat a - Int32.ofNat c < 0 := by
  rw [Int32.lt_iff_toInt_lt, Int32.toInt_sub, ii_ti (by omega), ii_ti hc]
  show ((a : Int) - (c : Int)).bmod (2 ^ 32) < 0
  rw [Int.bmod_eq_of_le (by omega) (by omega)]
  omega
theorem evS_congr {fa fb : Nat → Int32} (h : ∀ i, i < 8 → fa i = fb i) (l : List Nat) (st : List Int32) : evS fa l st = evS fb l st := by
  induction l generalizing st with
  | nil => rfl
  | cons c r ih =>
    unfold evS
    by_cases h1 : c < 1000
    · rw [if_pos h1, if_pos h1, ih]
    · rw [if_neg h1, if_neg h1]
      by_cases h2 : c < 1008
      · rw [if_pos h2, if_pos h2, h _ (by omega), ih]
      · rw [if_neg h2, if_neg h2]
        rcases st with _ | ⟨y, _ | ⟨x, st⟩⟩
        · rfl
        · rfl
        · exact ih _
/-- the law that the reference holds -/
def rLaw (τ : rT) (l : List Nat) : Prop := τ.1 32 = Int32.ofNat l.length ∧ l.length ≤ 150 ∧ (l ≠ [] → hgt l 0 = true) ∧ ∀ i, i < l.length → τ.2 42 i = Int32.ofNat (rWhat (l.getD i 0)) ∧ τ.2 43 i = Int32.ofNat (rOf (l.getD i 0))
/-- only these fields and these rows have changed -/
def Kf (F A : List Nat) (τ τ' : rT) : Prop := (∀ k, k ∉ F → τ'.1 k = τ.1 k) ∧ ∀ a, a ∉ A → τ'.2 a = τ.2 a
theorem Kf.rf (F A : List Nat) (τ : rT) : Kf F A τ τ := ⟨fun _ _ => rfl, fun _ _ => rfl⟩
theorem Kf.tr {F A : List Nat} {τ τ' τ'' : rT} (h : Kf F A τ τ') (h' : Kf F A τ' τ'') : Kf F A τ τ'' := ⟨fun a h1 => (h'.1 a h1).trans (h.1 a h1), fun a h1 => (h'.2 a h1).trans (h.2 a h1)⟩
theorem Kf.up {F A F' A' : List Nat} {τ τ' : rT} (h : Kf F A τ τ') (hF : ∀ k ∈ F, k ∈ F') (hA : ∀ k ∈ A, k ∈ A') : Kf F' A' τ τ' := ⟨fun k hk => h.1 k (fun h2 => hk (hF k h2)), fun k hk => h.2 k (fun h2 => hk (hA k h2))⟩
theorem Kf.wA {F A : List Nat} {τ τ' : rT} (h : Kf F A τ τ') {a : Nat} (ha : a ∈ A) (k : Nat) (v : Int32) : Kf F A τ (wA τ' a k v) := ⟨h.1, fun c h1 => by
  rw [wA_2, if_neg (fun e : c = a => h1 (by rw [e]; exact ha))]; exact h.2 c h1⟩
theorem Kf.wR {F A : List Nat} {τ τ' : rT} (h : Kf F A τ τ') {a : Nat} (ha : a ∈ A) (f : Nat → Int32) : Kf F A τ (wR τ' a f) := ⟨h.1, fun c h1 => by
  rw [wR_2, if_neg (fun e : c = a => h1 (by rw [e]; exact ha))]; exact h.2 c h1⟩
theorem Kf.wF {F A : List Nat} {τ τ' : rT} (h : Kf F A τ τ') {k : Nat} (hk : k ∈ F) (v : Int32) : Kf F A τ (wF τ' k v) := ⟨fun c h1 => by
  rw [wF_1, if_neg (fun e : c = k => h1 (by rw [e]; exact hk))]; exact h.1 c h1, h.2⟩
theorem Kf.law {F A : List Nat} {τ τ' : rT} {l : List Nat} (h : Kf F A τ τ') (hl : rLaw τ l) (e1 : 32 ∉ F := by decide) (e2 : 42 ∉ A := by decide) (e3 : 43 ∉ A := by decide) : rLaw τ' l := by
  obtain ⟨h1, h2, h3, h4⟩ := hl
  refine ⟨by rw [h.1 _ e1]; exact h1, h2, h3, fun i hi => ?_⟩
  rw [h.2 42 e2, h.2 43 e3]
  exact h4 i hi
theorem wA_wR (τ : rT) (a k : Nat) (f : Nat → Int32) (v : Int32) : wA (wR τ a f) a k v = wR τ a (upd f k v) := by
  unfold wA wR
  refine congrArg (fun z => (τ.1, z)) (funext fun c => ?_)
  dsimp only
  by_cases h : c = a
  · subst h; simp
  · simp [h]
theorem wR_s (τ : rT) (a : Nat) : wR τ a (τ.2 a) = τ := by
  unfold wR
  refine congrArg (fun z => (τ.1, z)) (funext fun c => ?_)
  by_cases h : c = a
  · subst h; simp
  · simp [h]
theorem c_R_both (d : Nat) (s : pS) (c : Nat) (h1 : 1008 ≤ c) (h2 : c < 1015) (x y : Int32) : call (d + 1) m_R_both [.int (Int32.ofNat (rWhat c)), .int x, .int y] s = some (.inl (some (.int (opI c x y))), s) := by
  refine cR.trans ((B_R_both_0 _ _ _ _ _).trans ?_)
  have hc : c = 1008 ∨ c = 1009 ∨ c = 1010 ∨ c = 1011 ∨ c = 1012 ∨ c = 1013 ∨ c = 1014 := by omega
  rcases hc with rfl | rfl | rfl | rfl | rfl | rfl | rfl
  · rfl
  · rfl
  · rfl
  · show den d m_R_both 38 [.int 5, .int x, .int y] [] s = _
    rw [B_R_both_38]
    by_cases h : y = 0 <;> simp [h, opI]
  · show den d m_R_both 38 [.int 8, .int x, .int y] [] s = _
    rw [B_R_both_38]
    by_cases h : y = 0 <;> simp [h, opI]
  · show (if y ≤ x then den d m_R_both 71 [.int 6, .int x, .int y] [.int 0] s else den d m_R_both 71 [.int 6, .int x, .int y] [.int 1] s) = _
    rw [B_R_both_71, B_R_both_71]
    by_cases h : y ≤ x
    · have : ¬ x < y := Int32.not_lt.mpr h
      simp [h, opI, this]
    · have : x < y := Int32.not_le.mp h
      simp [h, opI, this]
  · show (if y ≤ x then den d m_R_both 71 [.int 7, .int x, .int y] [.int 0] s else den d m_R_both 71 [.int 7, .int x, .int y] [.int 1] s) = _
    rw [B_R_both_71, B_R_both_71]
    by_cases h : y ≤ x
    · have : ¬ x < y := Int32.not_lt.mpr h
      simp [h, opI, this]
    · have : x < y := Int32.not_le.mp h
      simp [h, opI, this]
theorem rWhat_0 {c : Nat} (h : c < 1000) : rWhat c = 0 := if_pos h
theorem rWhat_1 {c : Nat} (h : ¬ c < 1000) (h2 : c < 1008) : rWhat c = 1 := by unfold rWhat; rw [if_neg h, if_pos h2]
theorem rWhat_2 {c : Nat} (h : 1008 ≤ c) (h2 : c < 1015) : 2 ≤ rWhat c ∧ rWhat c < 9 := by
  have hc : c = 1008 ∨ c = 1009 ∨ c = 1010 ∨ c = 1011 ∨ c = 1012 ∨ c = 1013 ∨ c = 1014 := by omega
  rcases hc with rfl | rfl | rfl | rfl | rfl | rfl | rfl <;> decide
theorem drop_c {l : List Nat} {k : Nat} (h : k < l.length) : l.drop k = l.getD k 0 :: l.drop (k + 1) := by
  rw [List.drop_eq_getElem_cons h]; simp [h]
/-- one step of a law's row -/
theorem ev_st {fa : Nat → Int32} {c : Nat} {r : List Nat} {st : List Int32} (h : hgt (c :: r) st.length = true) : (c < 1000 ∧ st.length < 64 ∧ hgt r (st.length + 1) = true ∧ evS fa (c :: r) st = evS fa r (Int32.ofNat c :: st)) ∨ (1000 ≤ c ∧ c < 1008 ∧ st.length < 64 ∧ hgt r (st.length + 1) = true ∧ evS fa (c :: r) st = evS fa r (fa (c - 1000) :: st)) ∨ (1008 ≤ c ∧ c < 1015 ∧ ∃ x y st', st = y :: x :: st' ∧ hgt r (st'.length + 1) = true ∧ evS fa (c :: r) st = evS fa r (opI c x y :: st')) := by
  unfold hgt at h
  rw [Bool.and_eq_true, decide_eq_true_eq] at h
  obtain ⟨h1, h2⟩ := h
  by_cases c1 : c < 1000
  · left
    rw [if_pos (by omega), Bool.and_eq_true, decide_eq_true_eq] at h2
    exact ⟨c1, h2.1, h2.2, if_pos c1⟩
  · right
    by_cases c2 : c < 1008
    · left
      rw [if_pos c2, Bool.and_eq_true, decide_eq_true_eq] at h2
      refine ⟨by omega, c2, h2.1, h2.2, ?_⟩
      conv => lhs; unfold evS
      rw [if_neg c1, if_pos c2]
    · right
      rw [if_neg c2, Bool.and_eq_true, decide_eq_true_eq] at h2
      obtain ⟨h3, h4⟩ := h2
      rcases st with _ | ⟨y, _ | ⟨x, st⟩⟩
      · simp at h3
      · simp at h3
      · refine ⟨by omega, h1, x, y, st, rfl, ?_, ?_⟩
        · simpa using h4
        · conv => lhs; unfold evS
          rw [if_neg c1, if_neg c2]
theorem c_R_valueNow (d : Nat) (b : pS) (τ : rT) (l : List Nat) (hl : rLaw τ l) (hne : l ≠ []) : ∃ f, vcall (d + 2) m_R_valueNow [.ref 30] (mS b τ) = some (.inl (some (.int ((evS (τ.2 45) l []).headD 0))), mS b (wR τ 44 f)) := by
  obtain ⟨h1, h2, h3, h4⟩ := hl
  have hg := h3 hne
  obtain ⟨⟨st, f, w⟩, e, i1, i2, i3, -⟩ := ex_loop (F := fun k (x : List Int32 × (Nat → Int32) × Value) => den (d + 1) m_R_valueNow 4 [.ref 30, .int (Int32.ofNat x.1.length), .int (Int32.ofNat k), x.2.2] [] (mS b (wR τ 44 x.2.1))) (I := fun k x => stk x.2.1 x.1 ∧ evS (τ.2 45) (l.drop k) x.1 = evS (τ.2 45) l [] ∧ hgt (l.drop k) x.1.length = true ∧ x.1.length ≤ 64) l.length ([], τ.2 44, mk0) ⟨stk_nil _, rfl, hg, Nat.zero_le 64⟩ (fun k x hk hx => by
    obtain ⟨st, f, w⟩ := x
    obtain ⟨i1, i2, i3, i4⟩ := hx
    dsimp only at i1 i2 i3 i4
    obtain ⟨h5, h6⟩ := h4 k hk
    rw [drop_c hk] at i2 i3
    rcases ev_st (fa := τ.2 45) i3 with ⟨c1, c2, c3, c4⟩ | ⟨c1, c2, c3, c4, c5⟩ | ⟨c1, c2, x, y, st', rfl, c3, c4⟩
    · refine ⟨(Int32.ofNat (l.getD k 0) :: st, upd f st.length (Int32.ofNat (l.getD k 0)), .int 0), ?_, stk_push i1 _, c4.symm.trans i2, c3, c2⟩
      rw [rWhat_0 c1] at h5
      rw [show rOf (l.getD k 0) = l.getD k 0 from if_pos c1] at h6
      dsimp only
      rw [B_R_valueNow_4]
      simp (disch := omega) only [m_gF, m_gI, m_pI, m_gIl, m_pIl, ii_m1, ii_s1, m_pF, obs, wF_1, wF_2, wA_1, wA_2, wR_1, wR_2, Nat.reduceEqDiff, Nat.reduceAdd, Nat.reduceMul, if_true, if_false, ite_true, ite_false, ii_la, ii_al, ii_lm, ii_ml, ii_add, ii_mul, ii_1, ii_le, ii_lt, ii_c1, ii_c2, ii_c3, ii_c4, ii_c5, ii_n1, ii_nn, kC0_v, kC1_v, kC2_v, kC3_v, kC0_x, kC1_x, kC2_x, not_true_eq_false, not_false_eq_true, ne_eq, h1, h5, h6, List.length_cons, wA_wR]
      rw [if_neg (by omega)]
      rfl
    · refine ⟨(τ.2 45 (l.getD k 0 - 1000) :: st, upd f st.length (τ.2 45 (l.getD k 0 - 1000)), .int 1), ?_, stk_push i1 _, c5.symm.trans i2, c4, c3⟩
      rw [rWhat_1 (by omega) c2] at h5
      rw [show rOf (l.getD k 0) = l.getD k 0 - 1000 from by unfold rOf; rw [if_neg (by omega), if_pos c2]] at h6
      dsimp only
      rw [B_R_valueNow_4]
      simp (disch := omega) only [m_gF, m_gI, m_pI, m_gIl, m_pIl, ii_m1, ii_s1, m_pF, obs, wF_1, wF_2, wA_1, wA_2, wR_1, wR_2, Nat.reduceEqDiff, Nat.reduceAdd, Nat.reduceMul, if_true, if_false, ite_true, ite_false, ii_la, ii_al, ii_lm, ii_ml, ii_add, ii_mul, ii_1, ii_le, ii_lt, ii_c1, ii_c2, ii_c3, ii_c4, ii_c5, ii_n1, ii_nn, kC0_v, kC1_v, kC2_v, kC3_v, kC0_x, kC1_x, kC2_x, not_true_eq_false, not_false_eq_true, ne_eq, h1, h5, h6, List.length_cons, wA_wR]
      rw [if_neg (by omega)]
      rfl
    · obtain ⟨w1, w2⟩ := rWhat_2 c1 c2
      have t1 : f (st'.length + 1) = y := stk_top i1
      have t2 : f st'.length = x := stk_top (stk_pop i1)
      have t3 : (y :: x :: st').length = st'.length + 1 + 1 := rfl
      have t4 : st'.length + 1 + 1 ≤ 64 := i4
      refine ⟨(opI (l.getD k 0) x y :: st', upd f st'.length (opI (l.getD k 0) x y), .int (Int32.ofNat (rWhat (l.getD k 0)))), ?_, stk_push (stk_pop (stk_pop i1)) _, c4.symm.trans i2, c3, by simp; omega⟩
      dsimp only
      rw [B_R_valueNow_4]
      simp (disch := omega) only [m_gF, m_gI, m_pI, m_gIl, m_pIl, ii_m1, ii_s1, m_pF, obs, wF_1, wF_2, wA_1, wA_2, wR_1, wR_2, Nat.reduceEqDiff, Nat.reduceAdd, Nat.reduceMul, if_true, if_false, ite_true, ite_false, ii_la, ii_al, ii_lm, ii_ml, ii_add, ii_mul, ii_1, ii_le, ii_lt, ii_c1, ii_c2, ii_c3, ii_c4, ii_c5, ii_n1, ii_nn, kC0_v, kC1_v, kC2_v, kC3_v, kC0_x, kC1_x, kC2_x, not_true_eq_false, not_false_eq_true, ne_eq, h1, h5, h6, t1, t2, t3, List.length_cons, c_R_both d, wA_wR]
      rw [if_neg (by omega), if_pos (by omega)])
  dsimp only at e i1 i2 i3
  rw [List.drop_length] at i2 i3
  have hs : st.length = 1 := by unfold hgt at i3; simpa using i3
  refine ⟨f, (vR rfl).trans ((B_R_valueNow_0 _ _ _).trans ?_)⟩
  have e0 : mS b τ = mS b (wR τ 44 (τ.2 44)) := by rw [wR_s]
  rw [e0]
  refine e.trans ?_
  rw [B_R_valueNow_4]
  simp (disch := omega) only [m_gF, m_gI, m_pI, m_gIl, m_pIl, ii_m1, ii_s1, m_pF, obs, wF_1, wF_2, wA_1, wA_2, wR_1, wR_2, Nat.reduceEqDiff, Nat.reduceAdd, Nat.reduceMul, if_true, if_false, ite_true, ite_false, ii_la, ii_al, ii_lm, ii_ml, ii_add, ii_mul, ii_1, ii_le, ii_lt, ii_c1, ii_c2, ii_c3, ii_c4, ii_c5, ii_n1, ii_nn, kC0_v, kC1_v, kC2_v, kC3_v, kC0_x, kC1_x, kC2_x, not_true_eq_false, not_false_eq_true, ne_eq, h1]
  rw [if_pos (by omega), ← i2]
  obtain ⟨x, rfl⟩ : ∃ x, st = [x] := by
    rcases st with _ | ⟨x, _ | ⟨y, st⟩⟩
    · simp at hs
    · exact ⟨x, rfl⟩
    · simp at hs
  have : f 0 = x := stk_top i1
  rw [this]
  rfl
theorem clI_r (v : Int32) : (if 0 ≤ v then (if v ≤ 99 then v else 99) else 0) = clI v := by
  unfold clI
  by_cases h1 : v < 0
  · have : ¬ 0 ≤ v := Int32.not_le.mpr h1
    rw [if_neg this, if_pos h1]
  · have : 0 ≤ v := Int32.not_lt.mp h1
    rw [if_pos this, if_neg h1]
    by_cases h2 : 99 < v
    · have : ¬ v ≤ 99 := Int32.not_le.mpr h2
      rw [if_neg this, if_pos h2]
    · have : v ≤ 99 := Int32.not_lt.mp h2
      rw [if_pos this, if_neg h2]
theorem c_R_markNow (d : Nat) (b : pS) (τ : rT) (l : List Nat) (hl : rLaw τ l) : ∃ f, vcall (d + 3) m_R_markNow [.ref 30] (mS b τ) = some (.inl (some (.int (clI ((evS (τ.2 45) (lx l) []).headD 0)))), mS b (wR τ 44 f)) := by
  have key : ∀ (v : Int32) (s : pS), den (d + 2) m_R_markNow 27 [.ref 30, mk0] [.int v] s = some (.inl (some (.int (clI v))), s) := by
    intro v s
    rw [B_R_markNow_27, ← clI_r]
    split
    · split <;> rfl
    · rfl
  by_cases hne : l = []
  · subst hne
    refine ⟨τ.2 44, (vR rfl).trans ((B_R_markNow_0 _ _ _).trans ?_)⟩
    have h0 : τ.1 32 = 0 := hl.1
    simp (disch := omega) only [m_gF, m_gI, m_pI, m_gIl, m_pIl, ii_m1, ii_s1, m_pF, obs, wF_1, wF_2, wA_1, wA_2, wR_1, wR_2, Nat.reduceEqDiff, Nat.reduceAdd, Nat.reduceMul, if_true, if_false, ite_true, ite_false, ii_la, ii_al, ii_lm, ii_ml, ii_add, ii_mul, ii_1, ii_le, ii_lt, ii_c1, ii_c2, ii_c3, ii_c4, ii_c5, ii_n1, ii_nn, kC0_v, kC1_v, kC2_v, kC3_v, kC0_x, kC1_x, kC2_x, not_true_eq_false, not_false_eq_true, ne_eq, h0, wR_s]
    rw [key]
    rfl
  · obtain ⟨f, hf⟩ := c_R_valueNow d b τ l hl hne
    refine ⟨f, (vR rfl).trans ((B_R_markNow_0 _ _ _).trans ?_)⟩
    have h0 := hl.1
    have h2 := hl.2.1
    have h3 : l.length ≠ 0 := fun h => hne (List.length_eq_zero_iff.mp h)
    simp (disch := omega) only [m_gF, m_gI, m_pI, m_gIl, m_pIl, ii_m1, ii_s1, m_pF, obs, wF_1, wF_2, wA_1, wA_2, wR_1, wR_2, Nat.reduceEqDiff, Nat.reduceAdd, Nat.reduceMul, if_true, if_false, ite_true, ite_false, ii_la, ii_al, ii_lm, ii_ml, ii_add, ii_mul, ii_1, ii_le, ii_lt, ii_c1, ii_c2, ii_c3, ii_c4, ii_c5, ii_n1, ii_nn, kC0_v, kC1_v, kC2_v, kC3_v, kC0_x, kC1_x, kC2_x, not_true_eq_false, not_false_eq_true, ne_eq, h0]
    rw [if_pos (by simpa using h3), hf, kC1_v, key]
    unfold lx
    rw [if_neg hne]
theorem c_R_markOf (d : Nat) (b : pS) (τ : rT) (l : List Nat) (hl : rLaw τ l) (a0 a1 a2 a3 a4 a5 a6 a7 : Int32) : ∃ τ', Kf [] [44, 45] τ τ' ∧ vcall (d + 4) m_R_markOf [.ref 30, .int a0, .int a1, .int a2, .int a3, .int a4, .int a5, .int a6, .int a7] (mS b τ) = some (.inl (some (.int (mkv l a0 a1 a2 a3 a4 a5 a6 a7))), mS b τ') := by
  have hk : Kf [] [44, 45] τ (wA (wA (wA (wA (wA (wA (wA (wA τ 45 0 a0) 45 1 a1) 45 2 a2) 45 3 a3) 45 4 a4) 45 5 a5) 45 6 a6) 45 7 a7) := ((((((((Kf.rf _ _ τ).wA (by decide) _ _).wA (by decide) _ _).wA (by decide) _ _).wA (by decide) _ _).wA (by decide) _ _).wA (by decide) _ _).wA (by decide) _ _).wA (by decide) _ _
  obtain ⟨f, hf⟩ := c_R_markNow d b _ l (hk.law hl)
  refine ⟨_, hk.wR (a := 44) (by decide) f, (vR rfl).trans ((B_R_markOf_0 _ _ _ _ _ _ _ _ _ _ _).trans ?_)⟩
  simp only [m_gF, m_pIl, obs]
  rw [hf, kC1_v]
  unfold mkv
  rw [evS_congr (fb := fun i => [a0, a1, a2, a3, a4, a5, a6, a7].getD i 0)]
  intro i hi
  have : i = 0 ∨ i = 1 ∨ i = 2 ∨ i = 3 ∨ i = 4 ∨ i = 5 ∨ i = 6 ∨ i = 7 := by omega
  rcases this with rfl | rfl | rfl | rfl | rfl | rfl | rfl | rfl <;> rfl
