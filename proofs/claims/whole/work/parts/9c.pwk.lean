/-! WORK: all of the call -/
theorem aL_nil (S : pS) : aL S.1 S.2.1 [] S.2.2 = S := by
  refine congrArg (fun z => (S.1, S.2.1, z)) (funext fun j => ?_)
  by_cases h : S.1 ≤ j
  · rw [if_pos h]; rfl
  · rw [if_neg h]
/-- a work's numbers at its beginning -/
def wk0 : rT := ((fun _ => 0), fun _ _ => 0)
theorem c_Wk_new (d : Nat) {N m : Nat} {H : pH} : vcall (d + 1) m_Wk_init [.ref N] (aL N m [cO 9 [.null, .null, .null, .null, .null, .int 0, .int 0, .int 0, .int 0]] H) = some (.inl none, aL N (m + 262) (wkL N wk0) H) := by
  refine (aL_v (c := 9) (N := N) rfl).trans ((B_Wk_init_0 _ _ _).trans ?_)
  simp (disch := simp) only [aL_new, aL_F, aL_g, aL_1, obs, List.cons_append, List.nil_append, List.length_cons, List.length_nil, Nat.zero_add, Nat.reduceAdd, List.set_cons_zero, List.set_cons_succ, Nat.add_zero, Nat.add_assoc]
  refine congrArg (fun z => some (Sum.inl none, aL N (m + 262) z H)) ?_
  have e64 : (cut 64 fun _ => (0 : Int32)) = fun _ => 0 := cut_0
  have e6 : (cut 6 fun _ => (0 : Int32)) = fun _ => 0 := cut_0
  unfold wkL
  show _ = [_, cI 64 (cut 64 fun _ => 0), cI 64 (cut 64 fun _ => 0), cI 64 (cut 64 fun _ => 0), cI 64 (cut 64 fun _ => 0), cI 6 (cut 6 fun _ => 0)]
  rw [e64, e6]
  rfl
theorem R_wk_no (d : Nat) (b : pS) (τ : rT) {tk : Nat} {x : Int32} (ht : τ.1 2 = Int32.ofNat tk) (h : ¬ (0 ≤ x ∧ x ≤ Int32.ofNat tk ∧ x ≤ Int32.ofNat 150)) : vcall (d + 2) m_R_work [.ref 30, .int x] (mS b τ) = some (.inl (some (.int 0)), mS b (rN τ 1 1)) := by
  refine (vR rfl).trans ((B_R_work_0 _ _ _ _).trans ?_)
  have e : den (d + 1) m_R_work 30 [.ref 30, .int x, mk0, mk0] [.int 0, .ref 30] (mS b (wF τ 0 0)) = some (.inl (some (.int 0)), mS b (rN τ 1 1)) := by
    rw [B_R_work_30, rm_n1 d (by decide), kC1_v, if_neg (by decide)]
  have ht' : (wF τ 0 0).1 2 = Int32.ofNat tk := ht
  simp only [m_pF, m_gF, obs, e, ht']
  by_cases g1 : x < 0
  · rw [if_pos g1]
  · rw [if_neg g1]
    by_cases g2 : Int32.ofNat tk < x
    · rw [if_pos g2]
    · rw [if_neg g2, if_pos]
      rcases Int32.lt_or_le (Int32.ofNat 150) x with g3 | g3
      · exact g3
      · exact absurd ⟨Int32.not_lt.mp g1, Int32.not_lt.mp g2, g3⟩ h
theorem R_wk_yes (d : Nat) (b : pS) (τ : rT) {tk n c : Nat} (ht : τ.1 2 = Int32.ofNat tk) (h6 : tk ≤ 600) (h1 : n ≤ tk) (h2 : n ≤ 150) (hc : τ.1 37 = Int32.ofNat c) (hc6 : c < 16) : vcall (d + 2) m_R_work [.ref 30, .int (Int32.ofNat n)] (mS b τ) = den (d + 1) m_R_work 68 [.ref 30, .int (Int32.ofNat n), mk0, mk0] [] (mS b (wF (oR (wF τ 0 0) (Int32.ofNat n)) 36 0)) := by
  refine (vR rfl).trans ((B_R_work_0 _ _ _ _).trans ?_)
  have ht' : (wF τ 0 0).1 2 = Int32.ofNat tk := ht
  have hc' : (oR (wF τ 0 0) (Int32.ofNat n)).1 37 = Int32.ofNat c := hc
  simp only [m_pF, m_gF, obs, ht']
  rw [if_neg (by rw [ii_nn (by omega)]; exact id), if_neg (by rw [ii_lt (by omega) (by omega)]; omega), if_neg (by show ¬ (Int32.ofNat 150 < Int32.ofNat n); rw [ii_lt (by omega) (by omega)]; omega), B_R_work_30, rm_ok d, kC1_v, if_pos (by decide), R_begins d, kC0_v]
  simp only [m_gF, m_pF, obs, hc']
  rw [if_pos (by show ¬ Int32.ofNat c = Int32.ofNat 16; rw [ii_eq (by omega) (by omega)]; omega)]
theorem R_wk_full (d : Nat) (b : pS) (τ : rT) {tk n : Nat} (ht : τ.1 2 = Int32.ofNat tk) (h6 : tk ≤ 600) (h1 : n ≤ tk) (h2 : n ≤ 150) (hc : τ.1 37 = Int32.ofNat 16) : vcall (d + 3) m_R_work [.ref 30, .int (Int32.ofNat n)] (mS b τ) = some (.inl (some (.int (-20))), mS b (wF (oR (wF τ 0 0) (Int32.ofNat n)) 8 (-1))) := by
  refine (vR rfl).trans ((B_R_work_0 _ _ _ _).trans ?_)
  have ht' : (wF τ 0 0).1 2 = Int32.ofNat tk := ht
  have hc' : (oR (wF τ 0 0) (Int32.ofNat n)).1 37 = Int32.ofNat 16 := hc
  simp only [m_pF, m_gF, obs, ht']
  rw [if_neg (by rw [ii_nn (by omega)]; exact id), if_neg (by rw [ii_lt (by omega) (by omega)]; omega), if_neg (by show ¬ (Int32.ofNat 150 < Int32.ofNat n); rw [ii_lt (by omega) (by omega)]; omega), B_R_work_30, rm_ok (d + 1), kC1_v, if_pos (by decide), R_begins (d + 1), kC0_v]
  simp only [m_gF, m_pF, obs, hc']
  rw [if_neg (fun h => h rfl), R_res_y d b (τ := oR (wF τ 0 0) (Int32.ofNat n)) rfl 0, kC1_v]
theorem R_wk89n (d : Nat) (b : pS) {τ : rT} {k p : Nat} (h : FR τ k p) (hp : p ≤ 600) (l1 : Int32) : den (d + 2) m_R_work 89 [.ref 30, .int l1, mk0, mk0] [] (mS b τ) = some (.inl (some (.int (Int32.ofNat k - 10))), mS b (wF τ 8 (Int32.ofNat p))) := by
  have h' : (wF τ 8 (Int32.ofNat p)).1 5 ≠ -1 := FR_b h hp
  have g5 : ∀ τ : rT, gFi (mS b τ) 30 11 5 = some (τ.1 5) := fun τ => gFi_at mS_30 rfl
  rw [B_R_work_89, R_res_n d b h hp, kC1_v, g5, obs, if_neg h']
theorem R_wk123 (d : Nat) (b : pS) (τ : rT) {c : Nat} (hc : τ.1 37 = Int32.ofNat c) (hc6 : c < 16) (l1 l2 : Int32) : ∀ (j k : Nat), k + j = 76 → ∀ g, den d m_R_work 123 [.ref 30, .int l1, .int l2, .int (Int32.ofNat k)] [] (mS b (wR τ 50 g)) = den d m_R_work 123 [.ref 30, .int l1, .int l2, .int (Int32.ofNat 76)] [] (mS b (wR τ 50 (fun x => if 76 * c + k ≤ x ∧ x < 76 * c + 76 then τ.2 48 (x - 76 * c) else g x))) := by
  intro j
  induction j with
  | zero =>
    intro k hk g
    have : k = 76 := by omega
    subst this
    refine congrArg (fun z => den d m_R_work 123 [.ref 30, .int l1, .int l2, .int (Int32.ofNat 76)] [] (mS b (wR τ 50 z))) (funext fun x => ?_)
    rw [if_neg (by omega)]
  | succ j ih =>
    intro k hk g
    have g44 : ∀ τ : rT, gFr (mS b τ) 30 11 44 = some 50 := fun τ => gFr_at mS_30 rfl
    have g42 : ∀ τ : rT, gFr (mS b τ) 30 11 42 = some 48 := fun τ => gFr_at mS_30 rfl
    have g37 : gFi (mS b (wR τ 50 g)) 30 11 37 = some (Int32.ofNat c) := (gFi_at mS_30 rfl).trans (congrArg some hc)
    have em : (76 : Int32) * Int32.ofNat c + Int32.ofNat k = Int32.ofNat (76 * c + k) := by
      show Int32.ofNat 76 * Int32.ofNat c + Int32.ofNat k = _
      rw [ii_mul, ii_add]
    have e48 : (wR τ 50 g).2 48 k = τ.2 48 k := rfl
    rw [B_R_work_123, if_neg (by show ¬ (Int32.ofNat 76 ≤ Int32.ofNat k); rw [ii_le (by omega) (by omega)]; omega), g44, obs, g37, obs, g42, obs, m_gI0 (n := 76) (by decide) (by decide) rfl (by decide) k (by omega), obs, e48, em, m_pI0 (n := 1216) (by decide) (by decide) rfl (by decide) _ _ (by omega), obs, ii_1, wA_wR, ih (k + 1) (by omega)]
    refine congrArg (fun z => den d m_R_work 123 [.ref 30, .int l1, .int l2, .int (Int32.ofNat 76)] [] (mS b (wR τ 50 z))) (funext fun x => ?_)
    by_cases e : x = 76 * c + k
    · rw [if_neg (by omega), if_pos (by omega), e, upd_s, Nat.add_sub_cancel_left]
    · by_cases h : 76 * c + (k + 1) ≤ x ∧ x < 76 * c + 76
      · rw [if_pos h, if_pos (by omega)]
      · rw [if_neg h, if_neg (by omega), upd_n _ _ e]
/-- the reference's numbers when its work begins to run -/
def wkB (τ : rT) (u c : Nat) : rT := wR (wR (wF τ 8 (-1)) 47 (fun i => if i < 3 * u then τ.2 46 i else τ.2 47 i)) 50 (fun x => if 76 * c + 0 ≤ x ∧ x < 76 * c + 76 then τ.2 48 (x - 76 * c) else τ.2 50 x)
def wkC (τ : rT) (u c : Nat) : rT := wF (wF (wF (wR (wF (wkB τ u c) 37 (Int32.ofNat (c + 1))) 49 (τ.2 48)) 39 0) 40 0) 41 0
theorem R_wk89 (d : Nat) (b : pS) {τ : rT} {u c : Nat} (h5 : τ.1 5 = -1) (h36 : τ.1 36 = Int32.ofNat (3 * u)) (hu : 3 * u ≤ 150) (hc : τ.1 37 = Int32.ofNat c) (hc6 : c < 16) (l1 : Int32) {t1 : rT} {v : Nat → Int32} {dn rf : Int32} (hg : vcall (d + 3) m_R_goesSteps [.ref 30, .int 0, .int (Int32.ofNat (3 * u))] (mS b (wkC τ u c)) = some (.inl none, mS b t1)) (e49 : t1.2 49 = v) (e40 : t1.1 40 = dn) (e41 : t1.1 41 = rf) : den (d + 3) m_R_work 89 [.ref 30, .int l1, mk0, mk0] [] (mS b τ) = some (.inl (some (.int dn)), mS b (wF (wR t1 48 v) 38 rf)) := by
  have g5 : ∀ τ : rT, gFi (mS b τ) 30 11 5 = some (τ.1 5) := fun τ => gFi_at mS_30 rfl
  have g34 : ∀ τ : rT, gFr (mS b τ) 30 11 34 = some 46 := fun τ => gFr_at mS_30 rfl
  have g35 : ∀ τ : rT, gFr (mS b τ) 30 11 35 = some 47 := fun τ => gFr_at mS_30 rfl
  have g36 : ∀ τ : rT, gFi (mS b τ) 30 11 36 = some (τ.1 36) := fun τ => gFi_at mS_30 rfl
  have g37 : ∀ τ : rT, gFi (mS b τ) 30 11 37 = some (τ.1 37) := fun τ => gFi_at mS_30 rfl
  have g40 : ∀ τ : rT, gFi (mS b τ) 30 11 40 = some (τ.1 40) := fun τ => gFi_at mS_30 rfl
  have g41 : ∀ τ : rT, gFi (mS b τ) 30 11 41 = some (τ.1 41) := fun τ => gFi_at mS_30 rfl
  have g42 : ∀ τ : rT, gFr (mS b τ) 30 11 42 = some 48 := fun τ => gFr_at mS_30 rfl
  have g43 : ∀ τ : rT, gFr (mS b τ) 30 11 43 = some 49 := fun τ => gFr_at mS_30 rfl
  have p37 : ∀ (τ : rT) (x : Int32), pF (mS b τ) 30 11 37 (.int x) = some (mS b (wF τ 37 x)) := fun τ x => by simp only [m_pF]
  have p38 : ∀ (τ : rT) (x : Int32), pF (mS b τ) 30 11 38 (.int x) = some (mS b (wF τ 38 x)) := fun τ x => by simp only [m_pF]
  have p39 : ∀ (τ : rT) (x : Int32), pF (mS b τ) 30 11 39 (.int x) = some (mS b (wF τ 39 x)) := fun τ x => by simp only [m_pF]
  have p40 : ∀ (τ : rT) (x : Int32), pF (mS b τ) 30 11 40 (.int x) = some (mS b (wF τ 40 x)) := fun τ x => by simp only [m_pF]
  have p41 : ∀ (τ : rT) (x : Int32), pF (mS b τ) 30 11 41 (.int x) = some (mS b (wF τ 41 x)) := fun τ x => by simp only [m_pF]
  have h5' : (wF τ 8 (-1)).1 5 = -1 := h5
  have h36' : (wF τ 8 (-1)).1 36 = Int32.ofNat (3 * u) := h36
  have c1 : vcall (d + 3) m_R_copies [.ref 30, .ref 46, .ref 47, .int (Int32.ofNat (3 * u))] (mS b (wF τ 8 (-1))) = some (.inl none, mS b (wR (wF τ 8 (-1)) 47 (fun i => if i < 3 * u then τ.2 46 i else τ.2 47 i))) := c_R_copies (d + 2) b _ 46 47 (3 * u) (by decide) (by decide) (by decide) (by decide) hu hu (by omega) (by decide) (by decide)
  rw [B_R_work_89, R_res_y (d + 1) b h5, kC1_v, g5, obs, if_pos h5', g34, obs, g35, obs, g36, obs, h36', c1, kC0_v]
  have e := R_wk123 (d + 3) b (wR (wF τ 8 (-1)) 47 (fun i => if i < 3 * u then τ.2 46 i else τ.2 47 i)) (c := c) hc hc6 l1 0 76 0 (by omega) (τ.2 50)
  rw [show wR (wR (wF τ 8 (-1)) 47 (fun i => if i < 3 * u then τ.2 46 i else τ.2 47 i)) 50 (τ.2 50) = wR (wF τ 8 (-1)) 47 (fun i => if i < 3 * u then τ.2 46 i else τ.2 47 i) from wR_id (wR (wF τ 8 (-1)) 47 (fun i => if i < 3 * u then τ.2 46 i else τ.2 47 i)) 50] at e
  refine e.trans ?_
  have h37' : (wkB τ u c).1 37 = Int32.ofNat c := hc
  have tk : vcall (d + 3) m_R_take [.ref 30] (mS b (wF (wkB τ u c) 37 (Int32.ofNat (c + 1)))) = some (.inl none, mS b (wR (wF (wkB τ u c) 37 (Int32.ofNat (c + 1))) 49 (τ.2 48))) := c_R_take (d + 1) b _
  have h36'' : (wkC τ u c).1 36 = Int32.ofNat (3 * u) := h36
  have c2 : vcall (d + 3) m_R_copies [.ref 30, .ref 49, .ref 48, .int (Int32.ofNat 76)] (mS b t1) = some (.inl none, mS b (wR t1 48 (fun i => if i < 76 then t1.2 49 i else t1.2 48 i))) := c_R_copies (d + 2) b t1 49 48 76 (by decide) (by decide) (by decide) (by decide) (by decide) (by decide) (by decide) (by decide) (by decide)
  have c2' : vcall (d + 3) m_R_copies [.ref 30, .ref 49, .ref 48, .int 76] (mS b t1) = some (.inl none, mS b (wR t1 48 (fun i => if i < 76 then t1.2 49 i else t1.2 48 i))) := c2
  have e76 : mS b (wF (wR t1 48 (fun i => if i < 76 then t1.2 49 i else t1.2 48 i)) 38 rf) = mS b (wF (wR t1 48 v) 38 rf) := mS_eq (fun k _ => rfl) (fun a h1 h2 i hi => by
    rw [wF_2, wF_2, wR_2, wR_2]
    by_cases ea : a = 48
    · subst ea
      have hi : i < 76 := hi
      rw [if_pos rfl, if_pos rfl, if_pos hi, e49]
    · rw [if_neg ea, if_neg ea])
  show den (d + 3) m_R_work 123 [.ref 30, .int l1, .int 0, .int (Int32.ofNat 76)] [] (mS b (wkB τ u c)) = _
  have e40' : ∀ x, (wF (wR t1 48 (fun i => if i < 76 then t1.2 49 i else t1.2 48 i)) 38 x).1 40 = dn := fun x => e40
  have e41' : (wR t1 48 (fun i => if i < 76 then t1.2 49 i else t1.2 48 i)).1 41 = rf := e41
  rw [B_R_work_123, if_pos (by decide), g37, obs, h37', ii_1, p37, obs, tk, kC0_v, p39, obs, p40, obs, p41, obs]
  show (gFi (mS b (wkC τ u c)) 30 11 36).bind _ = _
  have hg' : vcall (d + 3) m_R_goesSteps [.ref 30, .int 0, .int (Int32.ofNat (3 * u))] (mS b (wF (wF (wF (wR (wF (wkB τ u c) 37 (Int32.ofNat (c + 1))) 49 (τ.2 48)) 39 0) 40 0) 41 0)) = some (.inl none, mS b t1) := hg
  rw [g36, obs, h36'', hg', kC0_v, g43, obs, g42, obs, c2', kC0_v, g41, obs, e41', p38, obs, g40, obs, e40', e76]
