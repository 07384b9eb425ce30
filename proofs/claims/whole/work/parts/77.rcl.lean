/-! A CLAUSE of a studio, as the reference reads it -/
theorem R_short (d : Nat) (S : pS) (v : Int32) : ((v = oSeat ∨ v = oSitter ∨ v = oYear ∨ v = oFood) → call (d + 2) m_R_isShort [.int v] S = some (.inl (some (.int 1)), S)) ∧ (¬ (v = oSeat ∨ v = oSitter ∨ v = oYear ∨ v = oFood) → call (d + 2) m_R_isShort [.int v] S = some (.inl (some (.int 0)), S)) := by
  have h0 : call (d + 2) m_R_isShort [.int v] S = _ := cR.trans (B_R_isShort_0 _ _ _)
  rw [of_22, kC1_v, of_23, kC1_v, of_24, kC1_v, of_25, kC1_v] at h0
  by_cases g1 : v = oSeat
  · rw [if_pos g1] at h0; exact ⟨fun _ => h0, fun n => absurd (Or.inl g1) n⟩
  rw [if_neg g1] at h0
  by_cases g2 : v = oSitter
  · rw [if_pos g2] at h0; exact ⟨fun _ => h0, fun n => absurd (Or.inr (Or.inl g2)) n⟩
  rw [if_neg g2] at h0
  by_cases g3 : v = oYear
  · rw [if_pos g3] at h0; exact ⟨fun _ => h0, fun n => absurd (Or.inr (Or.inr (Or.inl g3))) n⟩
  rw [if_neg g3] at h0
  by_cases g4 : v = oFood
  · rw [if_neg (fun h => h g4)] at h0; exact ⟨fun _ => h0, fun n => absurd (Or.inr (Or.inr (Or.inr g4))) n⟩
  · rw [if_pos g4] at h0
    exact ⟨fun n => by rcases n with n | n | n | n <;> contradiction, fun _ => h0⟩
theorem R_full (d : Nat) (b : pS) (τ : rT) (v : Int32) : vcall (d + 2) m_R_isFull [.ref 30, .int v, .int 1] (mS b τ) = some (.inl (some (.int (if τ.1 19 = 8 then 1 else 0))), mS b τ) ∧ (v = oSeat → vcall (d + 2) m_R_isFull [.ref 30, .int v, .int 0] (mS b τ) = some (.inl (some (.int (if τ.1 17 = 8 then 1 else 0))), mS b τ)) ∧ (v ≠ oSeat → v = oSitter → vcall (d + 2) m_R_isFull [.ref 30, .int v, .int 0] (mS b τ) = some (.inl (some (.int (if τ.1 18 = 6 then 1 else 0))), mS b τ)) ∧ (v ≠ oSeat → v ≠ oSitter → vcall (d + 2) m_R_isFull [.ref 30, .int v, .int 0] (mS b τ) = some (.inl (some (.int 0)), mS b τ)) := by
  have g17 : gFi (mS b τ) 30 11 17 = some (τ.1 17) := gFi_at mS_30 rfl
  have g18 : gFi (mS b τ) 30 11 18 = some (τ.1 18) := gFi_at mS_30 rfl
  have g19 : gFi (mS b τ) 30 11 19 = some (τ.1 19) := gFi_at mS_30 rfl
  refine ⟨?_, fun h => ?_, fun h h2 => ?_, fun h h2 => ?_⟩
  · refine (vR rfl).trans ((B_R_isFull_0 _ _ _ _ _).trans ?_)
    rw [if_neg (by decide), g19, obs]
    by_cases g : τ.1 19 = 8
    · rw [if_neg (fun h => h g), if_pos g]
    · rw [if_pos g, if_neg g]
  · refine (vR rfl).trans ((B_R_isFull_0 _ _ _ _ _).trans ?_)
    rw [if_pos rfl, of_22, kC1_v, if_neg (fun h' => h' h), g17, obs]
    by_cases g : τ.1 17 = 8
    · rw [if_neg (fun h => h g), if_pos g]
    · rw [if_pos g, if_neg g]
  · refine (vR rfl).trans ((B_R_isFull_0 _ _ _ _ _).trans ?_)
    rw [if_pos rfl, of_22, kC1_v, if_pos h, of_23, kC1_v, if_neg (fun h' => h' h2), g18, obs]
    by_cases g : τ.1 18 = 6
    · rw [if_neg (fun h => h g), if_pos g]
    · rw [if_pos g, if_neg g]
  · refine (vR rfl).trans ((B_R_isFull_0 _ _ _ _ _).trans ?_)
    rw [if_pos rfl, of_22, kC1_v, if_pos h, of_23, kC1_v, if_pos h2]
/-- up to the word -/
theorem R_cl_go {B : Nat → Nat} {N : Nat} (hB : ∀ i, B i < 256) (hN : N ≤ 600) (d : Nat) (b : pS) {τ : rT} {a : Nat} (ha : a ≤ N) (T : TR B N a τ) (h5 : τ.1 5 = -1) (hg : sk B N a < N) (l1 l2 : Int32) (l3 l4 : Value) : ∃ (t3 : rT) (x : Int32), Kf [4] [] τ t3 ∧ TR B N (sk B N a) t3 ∧ (wq B (sk B N a) (we B N (sk B N a) - sk B N a) w_sitting 7 → x = 1) ∧ (¬ wq B (sk B N a) (we B N (sk B N a) - sk B N a) w_sitting 7 → x = 0) ∧ den (d + 4) m_R_studio 44 [.ref 30, .int l1, .int l2, l3, l4] [] (mS b τ) = (if ¬ (x : Int32) = 0 then den (d + 4) m_R_studio 95 [.ref 30, .int l1, .int l2, .int x, .int (Int32.ofNat (wv B (sk B N a) (we B N (sk B N a) - sk B N a)))] [] (mS b t3) else kC1 (call (d + 4) m_R_isShort [.int (Int32.ofNat (wv B (sk B N a) (we B N (sk B N a) - sk B N a)))] (mS b t3)) (fun v10 s9 => (if ¬ (v10 : Int32) = 0 then den (d + 4) m_R_studio 95 [.ref 30, .int l1, .int l2, .int x, .int (Int32.ofNat (wv B (sk B N a) (we B N (sk B N a) - sk B N a)))] [] s9 else ((gFi s9 30 11 4).bind fun v11 => kC0 (vcall (d + 4) m_R_wrong [.ref 30, .int 1, .int v11] s9) (fun s12 => den (d + 4) m_R_studio 120 [.ref 30, .int l1, .int l2, .int x, .int (Int32.ofNat (wv B (sk B N a) (we B N (sk B N a) - sk B N a)))] [] s12) xp))) nX) := by
  have hs := sk_le (B := B) ha
  obtain ⟨t1, k1, k2, k3⟩ := R_isMore hB hN (d + 2) b ha T
  obtain ⟨t2, x, j1, j2, j3, j4, j5⟩ := R_stands hB hN (d + 2) b hs k2 HW_21
  rw [sk_sk ha] at j2 j3 j4
  obtain ⟨t3, i1, i2, i3⟩ := R_word hB hN (d + 2) b hs j2
  rw [sk_sk ha] at i2 i3
  refine ⟨t3, x, k1.tr (j1.tr i1), i2, j3, j4, ?_⟩
  rw [B_R_studio_44, R_fine1 (d + 3) b h5, kC1_v, if_neg (by decide), k3, kC1_v, if_pos hg, if_neg (by decide), j5, kC1_v, i3, kC1_v]
/-- when there is room, or none -/
theorem R_cl_95 (d : Nat) (b : pS) {τ : rT} {st c : Nat} (h4 : τ.1 4 = Int32.ofNat st) (hst : st ≤ 600) (h5 : τ.1 5 = -1) (hc : c ≤ 60) (l1 x v f : Int32) (hf : vcall (d + 4) m_R_isFull [.ref 30, .int v, .int x] (mS b τ) = some (.inl (some (.int f)), mS b τ)) : (c < 60 ∧ f = 0 → den (d + 4) m_R_studio 95 [.ref 30, .int l1, .int (Int32.ofNat c), .int x, .int v] [] (mS b τ) = den (d + 4) m_R_studio 120 [.ref 30, .int l1, .int (Int32.ofNat c), .int x, .int v] [] (mS b τ)) ∧ (¬ (c < 60 ∧ f = 0) → den (d + 4) m_R_studio 95 [.ref 30, .int l1, .int (Int32.ofNat c), .int x, .int v] [] (mS b τ) = den (d + 4) m_R_studio 153 [.ref 30, .int l1, .int (Int32.ofNat c), .int x, .int v] [] (mS b (wF (wF τ 5 (Int32.ofNat st)) 6 3))) := by
  have e60 : (Int32.ofNat c = 60) = (c = 60) := ii_eq (b := 60) (by omega) (by omega)
  have hb : (wF (wF τ 5 (Int32.ofNat st)) 6 3).1 5 ≠ -1 := FR_b (k := 3) (p := st) ⟨rfl, rfl⟩ hst
  have e111 : den (d + 4) m_R_studio 111 [.ref 30, .int l1, .int (Int32.ofNat c), .int x, .int v] [] (mS b τ) = den (d + 4) m_R_studio 153 [.ref 30, .int l1, .int (Int32.ofNat c), .int x, .int v] [] (mS b (wF (wF τ 5 (Int32.ofNat st)) 6 3)) := by
    rw [B_R_studio_111]
    simp only [m_gF, obs, h4]
    rw [R_wrong (d + 3) b h5, kC0_v, B_R_studio_120, R_fine0 (d + 3) b hb, kC1_v, if_neg (by decide)]
  rw [B_R_studio_95, hf, kC1_v, e111]
  simp only [e60]
  refine ⟨fun ⟨g1, g2⟩ => ?_, fun g => ?_⟩
  · rw [if_neg (by omega), if_pos g2]
  · by_cases g1 : c = 60
    · rw [if_pos g1]
    · rw [if_neg g1, if_neg (fun g2 => g ⟨by omega, g2⟩)]
