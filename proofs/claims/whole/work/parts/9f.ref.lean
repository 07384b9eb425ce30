/-! THE BEGINNING: the reference's object, and all holds -/
def rt0 : rT := (fun k => if k = 8 then -1 else 0, fun _ _ => 0)
def rW0 : List pC := (List.range 27).map fun i => cI (rLen (31 + i)) (fun _ => 0)
theorem rW0_i {i : Nat} (hi : i < 27) : rW0[i]? = some (cI (rLen (31 + i)) (fun _ => 0)) := by
  unfold rW0
  rw [List.getElem?_map, List.getElem?_range hi]
  rfl
theorem rL_fixg (m : Nat) (H : pH) {W : List pC} (hl : W.length = 27) (hW : ∀ i, i < 27 → W[i]? = some (cI (rLen (31 + i)) (fun _ => 0))) : aL 30 m (cO 11 (rF rt0) :: W) H = mS (aL 30 m (cO 11 (rF rt0) :: W) H) rt0 := by
  refine Prod.ext rfl (Prod.ext rfl (funext fun j => ?_))
  by_cases g : 31 ≤ j ∧ j < 58
  · rw [mS_at g.1 g.2]
    obtain ⟨i, rfl⟩ : ∃ i, j = 30 + (i + 1) := ⟨j - 31, by omega⟩
    have h : (cO 11 (rF rt0) :: W)[i + 1]? = some (cI (rLen (31 + i)) (fun _ => 0)) := by
      rw [List.getElem?_cons_succ]; exact hW i (by omega)
    rw [aL_i h]
    show _ = some (cI (rLen (30 + (i + 1))) (cut (rLen (30 + (i + 1))) fun _ => 0))
    rw [cut_0, show 30 + (i + 1) = 31 + i by omega]
  · by_cases e : j = 30
    · subst e
      rw [mS_30]
      exact aL_i (i := 0) rfl
    · rw [mS_out (by omega)]
theorem rL_fix (m : Nat) (H : pH) : aL 30 m (cO 11 (rF rt0) :: rW0) H = mS (aL 30 m (cO 11 (rF rt0) :: rW0) H) rt0 := rL_fixg m H (by unfold rW0; rw [List.length_map, List.length_range]) (fun i hi => rW0_i hi)
def rt1 : rT := wR (stE (wF (cR0 rt0) 8 (-1)) 0) 48 (sc0 (su0.2 11) (su0.1 48))
set_option maxRecDepth 4000 in
theorem c_R_init (d : Nat) {m : Nat} {H : pH} : vcall (d + 3) m_R_init [.ref 30] (aL 30 m [cO 11 [.int 0, .null, .int 0, .int 0, .int 0, .int 0, .int 0, .int 0, .int 0, .null, .null, .null, .null, .null, .null, .null, .null, .int 0, .int 0, .int 0, .int 0, .int 0, .int 0, .int 0, .int 0, .int 0, .null, .null, .null, .null, .null, .int 0, .int 0, .null, .null, .null, .int 0, .int 0, .int 0, .int 0, .int 0, .int 0, .null, .null, .null, .null, .null, .null, .int 0, .null, .null, .null, .int 0, .null, .int 0]] H) = some (.inl none, mS (aL 30 (m + 8785) (cO 11 (rF rt0) :: rW0) H) rt1) := by
  refine (aL_v (c := 11) (N := 30) rfl).trans ((B_R_init_0 _ _ _).trans ?_)
  simp (disch := simp) only [aL_new, aL_F, aL_g, aL_1, obs, List.cons_append, List.nil_append, List.length_cons, List.length_nil, Nat.zero_add, Nat.reduceAdd, List.set_cons_zero, List.set_cons_succ, Nat.add_zero, Nat.add_assoc]
  have e : ∀ K X, kC0 (vcall (d + 2) m_R_clears [.ref 30] (aL 30 (m + 8785) (cO 11 (rF rt0) :: rW0) H)) K X = K (mS (aL 30 (m + 8785) (cO 11 (rF rt0) :: rW0) H) (cR0 rt0)) := fun K X => by
    rw [rL_fix, R_clears (d + 1), kC0_v, mS_mS]
  refine (e _ _).trans ?_
  have h8 : wF (cR0 rt0) 8 (-1) = cR0 rt0 := by
    refine Prod.ext (funext fun k => ?_) rfl
    show (if k = 8 then _ else _) = _
    split
    · next h => subst h; rfl
    · rfl
  rw [← h8, R_sets d _ _ (m := 0) rfl (by decide), kC0_v, stE_48 _ (cR0_SR rt0)]
  rfl
/-- the program's numbers at its beginning -/
def xt0 : rT := (fun k => if k = 22 then -1 else 0, fun _ _ => 0)
def Sb (H : pH) : pS := pNew (mS (aL 30 (1370 + 55 + 8785) (cO 11 (rF rt0) :: rW0) (aL 7 1370 (uCS 7 su0) (hY H)).2.2) rt1) (cL 1 fun _ => 0) 1
theorem rW0_l : (cO 11 (rF rt0) :: rW0).length = 28 := by
  rw [List.length_cons]; unfold rW0; rw [List.length_map, List.length_range]
theorem Sb_1 (H : pH) : (Sb H).1 = 59 := by
  show 30 + (cO 11 (rF rt0) :: rW0).length + 1 = 59
  rw [rW0_l]
theorem Sb_2 (H : pH) : (Sb H).2.1 = 10211 := rfl
theorem Sb_n {H : pH} {j : Nat} (h : j ≠ 58) : (Sb H).2.2 j = (mS (aL 30 (1370 + 55 + 8785) (cO 11 (rF rt0) :: rW0) (aL 7 1370 (uCS 7 su0) (hY H)).2.2) rt1).2.2 j := by
  show (if j = 30 + (cO 11 (rF rt0) :: rW0).length then _ else _) = _
  rw [rW0_l, if_neg h]
theorem pNew_s (s : pS) (c : pC) (k : Nat) : (pNew s c k).2.2 s.1 = some c := by unfold pNew; simp
theorem Sb_58 {H : pH} : (Sb H).2.2 58 = some (cL 1 fun _ => 0) := by
  have e : 58 = (mS (aL 30 (1370 + 55 + 8785) (cO 11 (rF rt0) :: rW0) (aL 7 1370 (uCS 7 su0) (hY H)).2.2) rt1).1 := by
    show 58 = 30 + (cO 11 (rF rt0) :: rW0).length
    rw [rW0_l]
  have h := pNew_s (mS (aL 30 (1370 + 55 + 8785) (cO 11 (rF rt0) :: rW0) (aL 7 1370 (uCS 7 su0) (hY H)).2.2) rt1) (cL 1 fun _ => 0) 1
  rw [← e] at h
  exact h
theorem Sb_lo {H : pH} {j : Nat} (h : j < 30) : (Sb H).2.2 j = (aL 7 1370 (uCS 7 su0) (hY H)).2.2 j := (Sb_n (by omega)).trans ((mS_out (Or.inl h)).trans (aL_o (Or.inl h)))
theorem Sb_hi {H : pH} {j : Nat} (h : 59 ≤ j) : (Sb H).2.2 j = H j := by
  refine (Sb_n (by omega)).trans ((mS_out (Or.inr (by omega))).trans ((aL_o (Or.inr (by rw [rW0_l]; omega))).trans ((aL_o (Or.inr ?_)).trans ((h0_n (by omega)).trans (aL_o (Or.inr ?_))))))
  · show 30 ≤ j; omega
  · show 7 ≤ j; omega
theorem Sb_Inv (H : pH) : Inv (Sb H) := by
  have fx : Sb H = xS (Sb H) (uL 7 fun _ => none) (nU xt0 su0) := by
    refine uL_fix (fun i hi => ?_) (fun i hi => ?_)
    · have hl : i < (uCS 7 su0).length := hi
      rw [Sb_lo (by omega), List.getElem?_eq_getElem hl]
      exact aL_i (List.getElem?_eq_getElem hl)
    · rw [Sb_lo (by omega)]
      refine (aL_o (Or.inl hi)).trans ?_
      have e1 : (cut 600 fun _ => (0 : Int32)) = fun _ => 0 := cut_0
      have e2 : (cut 48 fun _ => (0 : Int32)) = fun _ => 0 := cut_0
      have e3 : (cut 256 fun _ => (0 : Int32)) = fun _ => 0 := cut_0
      have : i = 0 ∨ i = 1 ∨ i = 2 ∨ i = 3 ∨ i = 4 ∨ i = 5 ∨ i = 6 := by omega
      rcases this with rfl | rfl | rfl | rfl | rfl | rfl | rfl
      · rfl
      · rfl
      · show _ = some (cI 600 (cut 600 fun _ => 0)); rw [e1]; rfl
      · rfl
      · show _ = some (cI 48 (cut 48 fun _ => 0)); rw [e2]; rfl
      · show _ = some (cI 256 (cut 256 fun _ => 0)); rw [e3]; rfl
      · rfl
  have fm : Sb H = mS (Sb H) rt1 := mS_in (S := mS (aL 30 (1370 + 55 + 8785) (cO 11 (rF rt0) :: rW0) (aL 7 1370 (uCS 7 su0) (hY H)).2.2) rt1) (mS_mS _ _ _).symm (fun j h1 h2 => Sb_n (by omega))
  refine Inv_u (M := 7) (im := fun _ => none) (s := xt0) (r := su0) (t := cR0 rt0) (τ := rt1) (m := 0) (n := 0) (q := 0) (by decide) (Or.inl (by decide)) (by rw [Sb_1]; decide) (by rw [Sb_1]; decide) fx fm ⟨_, Sb_58⟩ (cR0_SR rt0) rfl rfl rfl rfl (fun i hi => if_pos hi) (fun i hi => if_pos hi) (fun i hi => if_pos hi) rfl rfl rfl rfl rfl (fun i hi => ?_) rfl ⟨rfl, rfl⟩ (fun i hi => ⟨rfl, 0, by decide, rfl⟩) rfl ⟨rfl, rfl⟩
  show (if 0 ≤ i ∧ i < 8 then _ else _) = _
  rw [if_pos ⟨by omega, hi⟩]
set_option maxRecDepth 4000 in
theorem L_main_0 (H : pH) : den 200 m_L_main 0 (ent m_L_main [.ref (pSB + 1000)]) [] (0, 0, H) = den 200 m_L_main 23 [.ref (pSB + 1000), .ref 0, .ref 30, .ref 58, .int 0, mk0, mk0, mk0] [] (Sb H) := by
  refine (B_L_main_0 200 (pSB + 1000) (0, 0, H)).trans ?_
  have e1 : ∀ c k, pNew (0, 0, H) c k = aL 0 k [c] H := fun c k => (aL_0 _ _ _).trans (by rw [Nat.zero_add])
  have e2 : ∀ c k, pNew (aL 7 1370 (uCS 7 su0) (hY H)) c k = aL 30 (1370 + k) [c] (aL 7 1370 (uCS 7 su0) (hY H)).2.2 := fun c k => aL_0 _ _ _
  rw [e1]
  have y : vcall 200 m_Y_init [.ref ((0, 0, H) : pS).1] _ = _ := c_Y_init 197 (H := H)
  rw [y, kC0_v, e2]
  have r : vcall 200 m_R_init [.ref (aL 7 1370 (uCS 7 su0) (hY H)).1] _ = _ := c_R_init 197 (m := 1370 + 55) (H := (aL 7 1370 (uCS 7 su0) (hY H)).2.2)
  rw [r, kC0_v]
  have e3 : (mS (aL 30 (1370 + 55 + 8785) (cO 11 (rF rt0) :: rW0) (aL 7 1370 (uCS 7 su0) (hY H)).2.2) rt1).1 = 58 := by
    show 30 + (cO 11 (rF rt0) :: rW0).length = 58
    rw [rW0_l]
  have e4 : (aL 7 1370 (uCS 7 su0) (hY H)).1 = 30 := rfl
  rw [e3, e4]
  rfl
