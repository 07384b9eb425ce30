/-! WORK, run by both: agains, all of it -/
section
variable {m n : Nat} {l : List Nat} {dk fs : Nat → Int32} {K F Q Z : Nat → Nat} {len ul : Nat}
theorem X_ent {i e g q : Nat} {vv : Nat → Int32} {dn rf : Int32} (hl : len ≤ 64) (hi : i < len) (he : e < len) (hg : g < 200) (k1 : K i = 5) (k2 : F i = q) (hq : q ≤ 60) (k3 : Q i = e) : stX m n l dk fs K F Q len i (if q = 0 then e + 1 else i + 1) i (i + 1) (fun _ => True) (fun r => r.2 4 i = Int32.ofNat q) g vv dn rf (g + 1) vv dn rf := fun d M mm H L s r ex t l6 hd D o W hA ht => by
  obtain ⟨d', rfl⟩ : ∃ d', d = d' + 1 := ⟨d - 1, by omega⟩
  obtain ⟨w1, w2, w3, w4, w5, w6, w7, w8, w9⟩ := W
  obtain ⟨p1, p2, p3⟩ := w7 i (Nat.zero_le _) hi
  rw [k1] at p1
  rw [k2] at p2
  rw [k3] at p3
  have n6 : ¬ Int32.ofNat 5 = 6 := by decide
  have g200 : Int32.ofNat g < 200 := by show Int32.ofNat g < Int32.ofNat 200; rw [ii_lt (by omega) (by omega)]; exact hg
  have h0 := B_Wk_run_8 (d' + 1) M (aP L) (aW L) (Int32.ofNat i) (Int32.ofNat g) (Int32.ofNat t) l6 (kQ M mm H L s r ex)
  rw [if_neg (by show ¬ (Int32.ofNat 100000 ≤ Int32.ofNat t); rw [ii_le (by omega) (by omega)]; omega), if_neg (by rw [ii_nn (by omega)]; exact id), (kQ_gF o).2.1, obs, w6, if_neg (by rw [ii_le (by omega) (by omega)]; omega), (kQ_gR o).1, obs, (kQ_gI o).1 (by omega), obs, p1, if_pos n6, if_pos g200, obs, (kQ_gI o).1 (by omega), obs, p1, if_neg (fun h => h rfl), ii_1, ii_1] at h0
  have ia : vcall (d' + 1) m_Wk_intoAgain [.ref M, .int (Int32.ofNat i)] (kQ M mm H L s r ex) = some (.inl (some (.int (Int32.ofNat (if q = 0 then e + 1 else i + 1)))), kQ M mm H L s (wA r 4 i (Int32.ofNat q)) ex) := by
    refine (kQ_v o rfl).trans ((B_Wk_intoAgain_0 _ _ _ _).trans ?_)
    have p2' : (wA r 4 i (Int32.ofNat q)).2 2 i = Int32.ofNat q := p2
    have p3' : (wA r 4 i (Int32.ofNat q)).2 3 i = Int32.ofNat e := p3
    rw [(kQ_gR o).2.2.2.1, obs, (kQ_gR o).2.1, obs, (kQ_gI o).2.1 (by omega), obs, p2, (kQ_pI o _).2.2.2.1 (by omega), obs, (kQ_gR o).2.1, obs, (kQ_gI o).2.1 (by omega), obs, p2']
    by_cases q0 : q = 0
    · rw [if_neg (fun h => h (by rw [q0]; rfl)), (kQ_gR o).2.2.1, obs, (kQ_gI o).2.2.1 (by omega), obs, p3', ii_1, if_pos q0]
    · rw [if_pos (by show ¬ Int32.ofNat q = Int32.ofNat 0; rw [ii_eq (by omega) (by omega)]; exact q0), ii_1, if_neg q0]
  rw [ia, kC1_v] at h0
  refine ⟨s, wA r 4 i (Int32.ofNat q), l6, Kf.rf _ _ s, ⟨w1, w2, w3, w4, w5, w6, w7, w8, w9⟩, fun x hx => ?_, ?_, h0⟩
  · show upd (r.2 4) i (Int32.ofNat q) x = _
    rw [upd_n _ _ (by omega)]
  · exact upd_s _ _ _
theorem X_end {i e g ρ : Nat} {vv : Nat → Int32} {dn rf : Int32} (hl : len ≤ 64) (hi : i < e) (he : e < len) (k1 : K e = 6) (k2 : F e = i) (hρ : ρ < 60) : stX m n l dk fs K F Q len e (if ρ = 0 then e + 1 else i + 1) i (e + 1) (fun r => r.2 4 i = Int32.ofNat (ρ + 1)) (fun r => r.2 4 i = Int32.ofNat ρ) g vv dn rf g vv dn rf := fun d M mm H L s r ex t l6 hd D o W hA ht => by
  obtain ⟨d', rfl⟩ : ∃ d', d = d' + 1 := ⟨d - 1, by omega⟩
  obtain ⟨w1, w2, w3, w4, w5, w6, w7, w8, w9⟩ := W
  obtain ⟨p1, p2, -⟩ := w7 e (Nat.zero_le _) he
  rw [k1] at p1
  rw [k2] at p2
  have h0 := B_Wk_run_8 (d' + 1) M (aP L) (aW L) (Int32.ofNat e) (Int32.ofNat g) (Int32.ofNat t) l6 (kQ M mm H L s r ex)
  rw [if_neg (by show ¬ (Int32.ofNat 100000 ≤ Int32.ofNat t); rw [ii_le (by omega) (by omega)]; omega), if_neg (by rw [ii_nn (by omega)]; exact id), (kQ_gF o).2.1, obs, w6, if_neg (by rw [ii_le (by omega) (by omega)]; omega), (kQ_gR o).1, obs, (kQ_gI o).1 (by omega), obs, p1, if_neg (fun h => h rfl), ii_1] at h0
  have hA : r.2 4 i = Int32.ofNat (ρ + 1) := hA
  have br : vcall (d' + 1) m_Wk_behindRound [.ref M, .int (Int32.ofNat e)] (kQ M mm H L s r ex) = some (.inl (some (.int (Int32.ofNat (if ρ = 0 then e + 1 else i + 1)))), kQ M mm H L s (wA r 4 i (Int32.ofNat ρ)) ex) := by
    refine (kQ_v o rfl).trans ((B_Wk_behindRound_0 _ _ _ _).trans ?_)
    have u4 : (wA r 4 i (Int32.ofNat ρ)).2 4 i = Int32.ofNat ρ := upd_s _ _ _
    rw [(kQ_gR o).2.1, obs, (kQ_gI o).2.1 (by omega), obs, p2, if_neg (by rw [ii_nn (by omega)]; exact id), (kQ_gR o).2.2.2.1, obs, (kQ_gN o).2.2.2.1, obs, if_pos (by show Int32.ofNat i < Int32.ofNat 64; rw [ii_lt (by omega) (by omega)]; omega), obs, (kQ_gI o).2.2.2.1 (by omega), obs, hA, ii_s1, (kQ_pI o _).2.2.2.1 (by omega), obs, (kQ_gR o).2.2.2.1, obs, (kQ_gI o).2.2.2.1 (by omega), obs, u4]
    by_cases r0 : ρ = 0
    · rw [if_pos (by rw [r0]; decide), ii_1, if_pos r0]
    · rw [if_neg (by show ¬ (Int32.ofNat ρ ≤ Int32.ofNat 0); rw [ii_le (by omega) (by omega)]; omega), ii_1, if_neg r0]
  rw [br, kC1_v] at h0
  refine ⟨s, wA r 4 i (Int32.ofNat ρ), l6, Kf.rf _ _ s, ⟨w1, w2, w3, w4, w5, w6, w7, w8, w9⟩, fun x hx => ?_, ?_, h0⟩
  · show upd (r.2 4) i (Int32.ofNat ρ) x = _
    rw [upd_n _ _ (by omega)]
  · exact upd_s _ _ _
/-- the reference's loop over the rounds, from its count on -/
def exL (m n : Nat) (l : List Nat) (dk fs : Nat → Int32) (Z : Nat → Nat) (ul : Nat) (f u w c : Nat) (g : Nat) (v0 : Nat → Int32) (dn rf : Int32) (g' : Nat) (v' : Nat → Int32) (dn' rf' : Int32) : Prop := ∀ d b τ l1 z, f + 9 ≤ d → RX m n l dk fs Z ul τ v0 g dn rf → ∃ τ' l4' l5', Kf [39, 40, 41] [44, 45, 49, 51] τ τ' ∧ RX m n l dk fs Z ul τ' v' g' dn' rf' ∧ den d m_R_goesSteps 50 [.ref 30, .int l1, .int (Int32.ofNat (3 * z)), .int (Int32.ofNat (3 * u)), .int (Int32.ofNat (3 * w)), .int (Int32.ofNat c)] [] (mS b τ) = rnR d l1 z w l4' l5' (mS b τ')
theorem L_all {f u w c q g : Nat} {vv : Nat → Int32} {dn rf : Int32} (hu : u < ul) (hul : 3 * ul ≤ 150) (z2 : Z (3 * u + 1) = q) (hq : q ≤ 60) (hc : q ≤ c) (hc2 : c ≤ 60) : exL m n l dk fs Z ul f u w c g vv dn rf g vv dn rf := fun d b τ l1 z hd R => by
  have r6 := R.2.2.2.2.2.1
  have g35 : gFr (mS b τ) 30 11 35 = some 47 := gFr_at mS_30 rfl
  have a1 : Int32.ofNat (3 * u) + 1 = Int32.ofNat (3 * u + 1) := ii_1 _
  have s1 : τ.2 47 (3 * u + 1) = Int32.ofNat q := (r6 _ (by omega)).trans (by rw [z2])
  refine ⟨τ, .int (Int32.ofNat (3 * w)), .int (Int32.ofNat c), Kf.rf _ _ τ, R, ?_⟩
  rw [B_R_goesSteps_50, g35, obs, a1, m_gI0 (n := 150) (by decide) (by decide) rfl (by decide) _ (by omega), obs, s1, if_pos (by rw [ii_le (by omega) (by omega)]; exact hc)]
  rfl
theorem L_200 {f u w c q : Nat} {vv : Nat → Int32} {dn rf : Int32} (hu : u < ul) (hul : 3 * ul ≤ 150) (z2 : Z (3 * u + 1) = q) (hq : q ≤ 60) (hc2 : c ≤ 60) : exL m n l dk fs Z ul f u w c 200 vv dn rf 200 vv dn rf := fun d b τ l1 z hd R => by
  have r6 := R.2.2.2.2.2.1
  have g35 : gFr (mS b τ) 30 11 35 = some 47 := gFr_at mS_30 rfl
  have g39 : gFi (mS b τ) 30 11 39 = some (Int32.ofNat 200) := (gFi_at mS_30 rfl).trans (congrArg some R.2.2.2.2.2.2.1)
  have a1 : Int32.ofNat (3 * u) + 1 = Int32.ofNat (3 * u + 1) := ii_1 _
  have s1 : τ.2 47 (3 * u + 1) = Int32.ofNat q := (r6 _ (by omega)).trans (by rw [z2])
  refine ⟨τ, .int (Int32.ofNat (3 * w)), .int (Int32.ofNat c), Kf.rf _ _ τ, R, ?_⟩
  rw [B_R_goesSteps_50, g35, obs, a1, m_gI0 (n := 150) (by decide) (by decide) rfl (by decide) _ (by omega), obs, s1, g39, obs, if_pos (show (200 : Int32) ≤ Int32.ofNat 200 by decide)]
  by_cases h : Int32.ofNat q ≤ Int32.ofNat c
  · rw [if_pos h]; rfl
  · rw [if_neg h]; rfl
/-- a round, then the others -/
theorem L_one {f u w c q g g1 g' : Nat} {vv v1 v' : Nat → Int32} {dn rf dn1 rf1 dn' rf' : Int32} (hu : u < ul) (hw : u + 1 ≤ w) (hwl : w ≤ ul) (hul : 3 * ul ≤ 150) (z2 : Z (3 * u + 1) = q) (hq : q ≤ 60) (hc : c < q) (hg : g < 200) (h1 : exR m n l dk fs Z ul f (u + 1) w g vv dn rf g1 v1 dn1 rf1) (h2 : exL m n l dk fs Z ul f u w (c + 1) g1 v1 dn1 rf1 g' v' dn' rf') : exL m n l dk fs Z ul f u w c g vv dn rf g' v' dn' rf' := fun d b τ l1 z hd R => by
  have r6 := R.2.2.2.2.2.1
  have g35 : gFr (mS b τ) 30 11 35 = some 47 := gFr_at mS_30 rfl
  have g39 : gFi (mS b τ) 30 11 39 = some (Int32.ofNat g) := (gFi_at mS_30 rfl).trans (congrArg some R.2.2.2.2.2.2.1)
  have a1 : Int32.ofNat (3 * u) + 1 = Int32.ofNat (3 * u + 1) := ii_1 _
  have a3 : Int32.ofNat (3 * u) + 3 = Int32.ofNat (3 * (u + 1)) := ii_add (3 * u) 3
  have s1 : τ.2 47 (3 * u + 1) = Int32.ofNat q := (r6 _ (by omega)).trans (by rw [z2])
  obtain ⟨e, rfl⟩ : ∃ e, d = e + 1 := ⟨d - 1, by omega⟩
  obtain ⟨t1, m4, m5, k1, k2, k3⟩ := h1 e b τ (Int32.ofNat (3 * (u + 1))) w mk0 mk0 (by omega) R (Nat.le_refl _) hwl
  have gs : vcall (e + 1) m_R_goesSteps [.ref 30, .int (Int32.ofNat (3 * (u + 1))), .int (Int32.ofNat (3 * w))] (mS b τ) = some (.inl none, mS b t1) := by
    refine (vR rfl).trans ((B_R_goesSteps_0 _ _ _ _ _).trans (k3.trans ?_))
    unfold rnR
    rw [B_R_goesSteps_2, if_pos (by rw [ii_le (by omega) (by omega)]; exact Nat.le_refl _)]
  obtain ⟨t2, n4, n5, j1, j2, j3⟩ := h2 (e + 1) b t1 l1 z hd k2
  refine ⟨t2, n4, n5, k1.tr j1, j2, ?_⟩
  rw [B_R_goesSteps_50, g35, obs, a1, m_gI0 (n := 150) (by decide) (by decide) rfl (by decide) _ (by omega), obs, s1, if_neg (by rw [ii_le (by omega) (by omega)]; omega), g39, obs, if_neg (by show ¬ (Int32.ofNat 200 ≤ Int32.ofNat g); rw [ii_le (by omega) (by omega)]; omega), a3, gs, kC0_v, ii_1]
  exact j3
theorem R_ent {f u w v g g1 g' : Nat} {vv v' : Nat → Int32} {dn rf dn' rf' : Int32} (hu : u < ul) (hw : w ≤ v) (huw : u < w) (hul : 3 * ul ≤ 150) (z1 : Z (3 * u) = 5) (z3 : Z (3 * u + 2) = 3 * w) (hg : g < 200) (h2 : exL m n l dk fs Z ul f u w 0 (g + 1) vv dn rf g' v' dn' rf') : exR m n l dk fs Z ul (f + 1) u w g vv dn rf g' v' dn' rf' := fun d b τ l1 z l4 l5 hd R hz hz2 => by
  obtain ⟨r1, r2, r3, r4, r5, r6, r7, r8, r9⟩ := R
  have g39 : ∀ τ : rT, gFi (mS b τ) 30 11 39 = some (τ.1 39) := fun τ => gFi_at mS_30 rfl
  have g35 : ∀ τ : rT, gFr (mS b τ) 30 11 35 = some 47 := fun τ => gFr_at mS_30 rfl
  have p39 : pF (mS b τ) 30 11 39 (.int (Int32.ofNat (g + 1))) = some (mS b (wF τ 39 (Int32.ofNat (g + 1)))) := by simp only [m_pF]
  have a2 : Int32.ofNat (3 * u) + 2 = Int32.ofNat (3 * u + 2) := ii_add (3 * u) 2
  have s0 : (wF τ 39 (Int32.ofNat (g + 1))).2 47 (3 * u) = Int32.ofNat 5 := (r6 _ (by omega)).trans (by rw [z1])
  have s2 : (wF τ 39 (Int32.ofNat (g + 1))).2 47 (3 * u + 2) = Int32.ofNat (3 * w) := (r6 _ (by omega)).trans (by rw [z3])
  have h0 := B_R_goesSteps_2 d 30 l1 (Int32.ofNat (3 * z)) (Int32.ofNat (3 * u)) l4 l5 (mS b τ)
  rw [if_neg (by rw [ii_le (by omega) (by omega)]; omega), g39, obs, r7, if_neg (by show ¬ (Int32.ofNat 200 ≤ Int32.ofNat g); rw [ii_le (by omega) (by omega)]; omega), obs, ii_1, p39, obs, g35, obs, m_gI0 (n := 150) (by decide) (by decide) rfl (by decide) _ (by omega), obs, s0, if_neg (fun h => h rfl), obs, a2, m_gI0 (n := 150) (by decide) (by decide) rfl (by decide) _ (by omega), obs, s2] at h0
  have kk : Kf [39, 40, 41] [44, 45, 49, 51] τ (wF τ 39 (Int32.ofNat (g + 1))) := (Kf.rf _ _ τ).wF (by decide) _
  obtain ⟨t2, n4, n5, j1, j2, j3⟩ := h2 d b (wF τ 39 (Int32.ofNat (g + 1))) l1 z (by omega) ⟨r1, kk.law r2, r3, r4, r5, r6, rfl, r8, r9⟩
  exact ⟨t2, n4, n5, kk.tr j1, j2, h0.trans j3⟩
/-- the rounds -/
theorem ROUNDS {f i e u w q : Nat} (hl : len ≤ 64) (hi : i < e) (he : e < len) (k1 : K e = 6) (k2 : F e = i) (hu : u < ul) (hw : u + 1 ≤ w) (hwl : w ≤ ul) (hul : 3 * ul ≤ 150) (z2 : Z (3 * u + 1) = q) (hq : q ≤ 60) (hb : ∀ g vv dn rf, g ≤ 200 → scI 800 m n vv → OUTE m n l dk fs K F Q len Z ul f (i + 1) e (u + 1) w g vv dn rf) : ∀ (ρ c : Nat), c + (ρ + 1) = q → ∀ g vv dn rf, g < 200 → scI 800 m n vv → ∃ g' v' dn' rf', g ≤ g' ∧ g' ≤ 200 ∧ scI 800 m n v' ∧ exX m n l dk fs K F Q len (i + 1) (e + 1) i (e + 1) (ρ + 1) (fun r => r.2 4 i = Int32.ofNat (ρ + 1)) g vv dn rf g' v' dn' rf' ∧ exL m n l dk fs Z ul f u w c g vv dn rf g' v' dn' rf' := by
  intro ρ
  induction ρ with
  | zero =>
    intro c hc g vv dn rf hg hv
    obtain ⟨g1, v1, dn1, rf1, a1, a2, a3, a4, a5⟩ := hb g vv dn rf (by omega) hv
    by_cases h1 : g1 < 200
    · refine ⟨g1, v1, dn1, rf1, a1, a2, a3, ?_, L_one hu hw hwl hul z2 hq (by omega) hg a5 (L_all hu hul z2 hq (by omega) (by omega))⟩
      have en : stX m n l dk fs K F Q len e (e + 1) i (e + 1) (fun r => r.2 4 i = Int32.ofNat 1) (fun r => r.2 4 i = Int32.ofNat 0) g1 v1 dn1 rf1 g1 v1 dn1 rf1 := X_end (i := i) (e := e) (g := g1) (ρ := 0) hl hi he k1 k2 (by omega)
      have id0 : exX m n l dk fs K F Q len (e + 1) (e + 1) i (e + 1) 0 (fun r => r.2 4 i = Int32.ofNat 0) g1 v1 dn1 rf1 g1 v1 dn1 rf1 := fun d M mm H L s r ex t l6 hd D o W hA ht => ⟨fun _ => ⟨s, r, t, l6, Kf.rf _ _ s, W, fun _ _ => rfl, by omega, rfl⟩, fun h => absurd h1 h⟩
      have e1 : exX m n l dk fs K F Q len e (e + 1) i (e + 1) 1 (fun r => r.2 4 i = Int32.ofNat 1) g1 v1 dn1 rf1 g1 v1 dn1 rf1 := stX_tr en id0 (by omega)
      have a4' : exX m n l dk fs K F Q len (i + 1) e (i + 1) e 0 (fun r => r.2 4 i = Int32.ofNat (0 + 1)) g vv dn rf g1 v1 dn1 rf1 := fun d M mm H L s r ex t l6 hd D o W hA ht => a4 d M mm H L s r ex t l6 hd D o W trivial ht
      have r := exX_tr (lo := i) (hi := e + 1) (ρ1 := 0) (ρ2 := 1) a4' h1 (by omega) (by omega) (fun r r' hA hf => (hf i (Or.inl (by omega))).trans hA) e1
      exact r
    · have g2 : g1 = 200 := by omega
      subst g2
      refine ⟨200, v1, dn1, rf1, a1, a2, a3, exX_dead a4 h1 (by omega) (fun _ _ => trivial), L_one hu hw hwl hul z2 hq (by omega) hg a5 (L_200 hu hul z2 hq (by omega))⟩
  | succ ρ ih =>
    intro c hc g vv dn rf hg hv
    obtain ⟨g1, v1, dn1, rf1, a1, a2, a3, a4, a5⟩ := hb g vv dn rf (by omega) hv
    by_cases h1 : g1 < 200
    · obtain ⟨g2, v2, dn2, rf2, b1, b2, b3, b4, b5⟩ := ih (c + 1) (by omega) g1 v1 dn1 rf1 h1 a3
      refine ⟨g2, v2, dn2, rf2, by omega, b2, b3, ?_, L_one hu hw hwl hul z2 hq (by omega) hg a5 b5⟩
      have en : stX m n l dk fs K F Q len e (if ρ + 1 = 0 then e + 1 else i + 1) i (e + 1) (fun r => r.2 4 i = Int32.ofNat (ρ + 1 + 1)) (fun r => r.2 4 i = Int32.ofNat (ρ + 1)) g1 v1 dn1 rf1 g1 v1 dn1 rf1 := X_end (i := i) (e := e) (g := g1) (ρ := ρ + 1) hl hi he k1 k2 (by omega)
      rw [if_neg (by omega)] at en
      have e1 : exX m n l dk fs K F Q len e (e + 1) i (e + 1) (ρ + 1 + 1) (fun r => r.2 4 i = Int32.ofNat (ρ + 1 + 1)) g1 v1 dn1 rf1 g2 v2 dn2 rf2 := stX_tr en b4 (by omega)
      have a4' : exX m n l dk fs K F Q len (i + 1) e (i + 1) e 0 (fun r => r.2 4 i = Int32.ofNat (ρ + 1 + 1)) g vv dn rf g1 v1 dn1 rf1 := fun d M mm H L s r ex t l6 hd D o W hA ht => a4 d M mm H L s r ex t l6 hd D o W trivial ht
      have r := exX_tr (lo := i) (hi := e + 1) (ρ1 := 0) (ρ2 := ρ + 1 + 1) a4' h1 (by omega) (by omega) (fun r r' hA hf => (hf i (Or.inl (by omega))).trans hA) e1
      rw [Nat.zero_add] at r
      exact r
    · have g2 : g1 = 200 := by omega
      subst g2
      refine ⟨200, v1, dn1, rf1, a1, a2, a3, exX_dead a4 h1 (by omega) (fun _ _ => trivial), L_one hu hw hwl hul z2 hq (by omega) hg a5 (L_200 hu hul z2 hq (by omega))⟩
theorem EXEC (h8 : m ≤ 8) (h6 : n ≤ 6) (hl : len ≤ 64) (hul : 3 * ul ≤ 150) : ∀ (f i j u v : Nat), Blk m n K F Q Z f i j u v → j ≤ len → v ≤ ul → ∀ g vv dn rf, g ≤ 200 → scI 800 m n vv → OUTE m n l dk fs K F Q len Z ul f i j u v g vv dn rf := by
  intro f
  induction f with
  | zero =>
    intro i j u v h hj hv g vv dn rf hg hvv
    obtain ⟨h1, h2⟩ := h
    subst h1 h2
    by_cases g2 : g = 200
    · subst g2; exact OUTE_200 hl hvv
    · exact OUTE_0 (by omega) hvv
  | succ f ih =>
    intro i j u v h hj hv g vv dn rf hg hvv
    by_cases g2 : g = 200
    · subst g2; exact OUTE_200 hl hvv
    have hg' : g < 200 := by omega
    rcases h with ⟨h1, h2⟩ | ⟨h1, h2, h3, h4, h5, h7⟩ | ⟨e, w, h1, h2, h3, h4, h5, h7, h9, h10, h11, h12, h13, h14⟩
    · subst h1 h2
      exact OUTE_0 hg' hvv
    · have hle := Blk_le _ _ _ _ _ h7
      have sc1 : scI 800 m n (sGo l n dk fs (K i) (F i) (Q i) vv) := scI_go l dk fs h6 h8 h2.2.2 hvv
      have st := X_one (l := l) (dk := dk) (fs := fs) (dn := dn) (rf := rf) hl (show i < len by omega) hg' hvv h2
      have rs : exR m n l dk fs Z ul (f + 1) u (u + 1) g vv dn rf (g + 1) (sGo l n dk fs (K i) (F i) (Q i) vv) (if bGo n (K i) (F i) (Q i) vv = 0 then dn else dn + 1) (if bGo n (K i) (F i) (Q i) vv = 0 then rf + 1 else rf) := R_one h6 (by omega) hul hg' hvv h2 h3 h4 h5
      obtain ⟨g1, v1, dn1, rf1, a1, a2, a3, a4, a5⟩ := ih (i + 1) j (u + 1) v h7 hj hv (g + 1) _ (if bGo n (K i) (F i) (Q i) vv = 0 then dn else dn + 1) (if bGo n (K i) (F i) (Q i) vv = 0 then rf + 1 else rf) (by omega) sc1
      refine ⟨g1, v1, dn1, rf1, by omega, a2, a3, ?_, exR_tr rs a5 (Nat.le_refl _) (by omega) (by omega)⟩
      have st' : stX m n l dk fs K F Q len i (i + 1) i j (fun _ => True) (fun _ => True) g vv dn rf (g + 1) (sGo l n dk fs (K i) (F i) (Q i) vv) (if bGo n (K i) (F i) (Q i) vv = 0 then dn else dn + 1) (if bGo n (K i) (F i) (Q i) vv = 0 then rf + 1 else rf) := fun d M mm H L s r ex t l6 hd D o W hA ht => by
        obtain ⟨s1, r1, l6', k1, k2, k3, k4, k5⟩ := st d M mm H L s r ex t l6 hd D o W hA ht
        exact ⟨s1, r1, l6', k1, k2, fun x hx => k3 x (by omega), k4, k5⟩
      exact stX_tr st' (exX_w a4 (by omega) (Nat.le_refl _)) (by omega)
    · have hle := Blk_le _ _ _ _ _ h13
      have hle2 := Blk_le _ _ _ _ _ h14
      have hb := fun g vv dn rf hg hv => ih (i + 1) e (u + 1) w h13 (by omega) (by omega) g vv dn rf hg hv
      have rest := fun g1 v1 dn1 rf1 (h : g1 < 200) hv' => ih (e + 1) j w v h14 hj hv g1 v1 dn1 rf1 (by omega) hv'
      have st := X_ent (m := m) (n := n) (l := l) (dk := dk) (fs := fs) (vv := vv) (dn := dn) (rf := rf) hl (show i < len by omega) (show e < len by omega) hg' h3 rfl h4 h5
      have head : OUTE m n l dk fs K F Q len Z ul (f + 1) i (e + 1) u w g vv dn rf := by
        by_cases q0 : F i = 0
        · rw [if_pos q0] at st
          by_cases g9 : g + 1 = 200
          · refine ⟨g + 1, vv, dn, rf, by omega, by omega, hvv, ?_, R_ent (g1 := 0) (v := v) (by omega) (by omega) (by omega) hul h10 h12 hg' (L_all (by omega) hul h11 h4 (by omega) (by omega))⟩
            have dd : exX m n l dk fs K F Q len (e + 1) (e + 1) i (e + 1) 0 (fun r => r.2 4 i = Int32.ofNat (F i)) (g + 1) vv dn rf (g + 1) vv dn rf := by
              rw [g9]
              intro d M mm H L s r ex t l6 hd D o W hA ht
              refine ⟨fun h => by omega, fun _ => ?_⟩
              obtain ⟨d', rfl⟩ : ∃ d', d = d' + 1 := ⟨d - 1, by omega⟩
              obtain ⟨w1, w2, w3, w4, w5, w6, w7, w8, w9⟩ := W
              obtain ⟨r', k1, k2⟩ := X_dead (M := M) (mm := mm) (H := H) (L := L) (s := s) (ex := ex) d' o hl (aP L) (aW L) (100000 - t) t (by omega) (Int32.ofNat (e + 1)) l6 r w6
              exact ⟨s, r', Kf.rf _ _ s, w3, by rw [k1]; exact w8, by rw [k1]; exact w9, k2⟩
            have st' : stX m n l dk fs K F Q len i (e + 1) i (e + 1) (fun _ => True) (fun r => r.2 4 i = Int32.ofNat (F i)) g vv dn rf (g + 1) vv dn rf := fun d M mm H L s r ex t l6 hd D o W hA ht => by
              obtain ⟨s1, r1, l6', k1, k2, k3, k4, k5⟩ := st d M mm H L s r ex t l6 hd D o W hA ht
              exact ⟨s1, r1, l6', k1, k2, fun x hx => k3 x (by omega), k4, k5⟩
            exact stX_tr st' dd (by omega)
          · refine ⟨g + 1, vv, dn, rf, by omega, by omega, hvv, ?_, R_ent (g1 := 0) (v := v) (by omega) (by omega) (by omega) hul h10 h12 hg' (L_all (by omega) hul h11 h4 (by omega) (by omega))⟩
            have id0 : exX m n l dk fs K F Q len (e + 1) (e + 1) i (e + 1) 0 (fun r => r.2 4 i = Int32.ofNat (F i)) (g + 1) vv dn rf (g + 1) vv dn rf := fun d M mm H L s r ex t l6 hd D o W hA ht => ⟨fun _ => ⟨s, r, t, l6, Kf.rf _ _ s, W, fun _ _ => rfl, by omega, rfl⟩, fun h => absurd (by omega) h⟩
            have st' : stX m n l dk fs K F Q len i (e + 1) i (e + 1) (fun _ => True) (fun r => r.2 4 i = Int32.ofNat (F i)) g vv dn rf (g + 1) vv dn rf := fun d M mm H L s r ex t l6 hd D o W hA ht => by
              obtain ⟨s1, r1, l6', k1, k2, k3, k4, k5⟩ := st d M mm H L s r ex t l6 hd D o W hA ht
              exact ⟨s1, r1, l6', k1, k2, fun x hx => k3 x (by omega), k4, k5⟩
            exact stX_tr st' id0 (by omega)
        · rw [if_neg q0] at st
          obtain ⟨ρ, hρ⟩ : ∃ ρ, F i = ρ + 1 := ⟨F i - 1, by omega⟩
          by_cases g9 : g + 1 = 200
          · refine ⟨g + 1, vv, dn, rf, by omega, by omega, hvv, ?_, R_ent (g1 := 0) (v := v) (by omega) (by omega) (by omega) hul h10 h12 hg' (by rw [g9]; exact L_200 (by omega) hul h11 h4 (by omega))⟩
            have dd : exX m n l dk fs K F Q len (i + 1) (e + 1) i (e + 1) 0 (fun r => r.2 4 i = Int32.ofNat (F i)) (g + 1) vv dn rf (g + 1) vv dn rf := by
              rw [g9]
              intro d M mm H L s r ex t l6 hd D o W hA ht
              refine ⟨fun h => by omega, fun _ => ?_⟩
              obtain ⟨d', rfl⟩ : ∃ d', d = d' + 1 := ⟨d - 1, by omega⟩
              obtain ⟨w1, w2, w3, w4, w5, w6, w7, w8, w9⟩ := W
              obtain ⟨r', k1, k2⟩ := X_dead (M := M) (mm := mm) (H := H) (L := L) (s := s) (ex := ex) d' o hl (aP L) (aW L) (100000 - t) t (by omega) (Int32.ofNat (i + 1)) l6 r w6
              exact ⟨s, r', Kf.rf _ _ s, w3, by rw [k1]; exact w8, by rw [k1]; exact w9, k2⟩
            have st' : stX m n l dk fs K F Q len i (i + 1) i (e + 1) (fun _ => True) (fun r => r.2 4 i = Int32.ofNat (F i)) g vv dn rf (g + 1) vv dn rf := fun d M mm H L s r ex t l6 hd D o W hA ht => by
              obtain ⟨s1, r1, l6', k1, k2, k3, k4, k5⟩ := st d M mm H L s r ex t l6 hd D o W hA ht
              exact ⟨s1, r1, l6', k1, k2, fun x hx => k3 x (by omega), k4, k5⟩
            exact stX_tr st' dd (by omega)
          · obtain ⟨g1, v1, dn1, rf1, a1, a2, a3, a4, a5⟩ := ROUNDS (l := l) (dk := dk) (fs := fs) hl h1 (by omega) h7 h9 (by omega) hle.2 (by omega) hul h11 h4 hb ρ 0 (by omega) (g + 1) vv dn rf (by omega) hvv
            refine ⟨g1, v1, dn1, rf1, by omega, a2, a3, ?_, R_ent (g1 := 0) (v := v) (by omega) (by omega) (by omega) hul h10 h12 hg' a5⟩
            have st' : stX m n l dk fs K F Q len i (i + 1) i (e + 1) (fun _ => True) (fun r => r.2 4 i = Int32.ofNat (ρ + 1)) g vv dn rf (g + 1) vv dn rf := fun d M mm H L s r ex t l6 hd D o W hA ht => by
              obtain ⟨s1, r1, l6', k1, k2, k3, k4, k5⟩ := st d M mm H L s r ex t l6 hd D o W hA ht
              exact ⟨s1, r1, l6', k1, k2, fun x hx => k3 x (by omega), by rw [← hρ]; exact k4, k5⟩
            exact stX_tr st' a4 (by omega)
      exact OUTE_tr (by omega) (by omega) hle2.2 (Nat.le_refl _) (by omega) head rest
/-- as deep as there are tokens -/
theorem Blk_sz : ∀ (f i j u v : Nat), Blk m n K F Q Z f i j u v → Blk m n K F Q Z (v - u) i j u v := by
  intro f
  induction f with
  | zero => intro i j u v h; obtain ⟨h1, h2⟩ := h; subst h1 h2; exact Blk_0 _ _ _
  | succ f ih =>
    intro i j u v h
    rcases h with ⟨h1, h2⟩ | ⟨h1, h2, h3, h4, h5, h7⟩ | ⟨e, w, h1, h2, h3, h4, h5, h7, h9, h10, h11, h12, h13, h14⟩
    · subst h1 h2; exact Blk_0 _ _ _
    · have hle := Blk_le _ _ _ _ _ h7
      rw [show v - u = (v - (u + 1)) + 1 by omega]
      exact Or.inr (Or.inl ⟨h1, h2, h3, h4, h5, ih _ _ _ _ h7⟩)
    · have hle := Blk_le _ _ _ _ _ h13
      have hle2 := Blk_le _ _ _ _ _ h14
      rw [show v - u = (v - (u + 1)) + 1 by omega]
      exact Or.inr (Or.inr ⟨e, w, h1, h2, h3, h4, h5, h7, h9, h10, h11, h12, Blk_up (ih _ _ _ _ h13) (by omega), Blk_up (ih _ _ _ _ h14) (by omega)⟩)
end
