/-! WORK, run by both: blocks -/
noncomputable def rnX (d M : Nat) (L : xA) (i g t : Nat) (l6 : Value) (S : pS) : pR := den d m_Wk_run 8 [.ref M, .ref (aP L), .ref (aW L), .int (Int32.ofNat i), .int (Int32.ofNat g), .int (Int32.ofNat t), l6] [] S
def exX (m n : Nat) (l : List Nat) (dk fs : Nat → Int32) (K F Q : Nat → Nat) (len : Nat) (i j lo hi ρ : Nat) (A : rT → Prop) (g : Nat) (v : Nat → Int32) (dn rf : Int32) (g' : Nat) (v' : Nat → Int32) (dn' rf' : Int32) : Prop := ∀ d M mm H L s r ex t l6, 12 ≤ d → Dj L → (∀ j, M ≤ j → Ot L j) → WX m n l dk fs K F Q len s r v dn rf → A r → t + 61 * (200 - g) + ρ ≤ 99999 → (g' < 200 → ∃ s' r' t' l6', Kf [] [0, 22, 23] s s' ∧ WX m n l dk fs K F Q len s' r' v' dn' rf' ∧ (∀ x, x < lo ∨ hi ≤ x → r'.2 4 x = r.2 4 x) ∧ t' + 61 * (200 - g') ≤ t + 61 * (200 - g) + ρ ∧ rnX d M L i g t l6 (kQ M mm H L s r ex) = rnX d M L j g' t' l6' (kQ M mm H L s' r' ex)) ∧ (¬ g' < 200 → ∃ s' r', Kf [] [0, 22, 23] s s' ∧ s'.2 0 = v' ∧ r'.1 7 = dn' ∧ r'.1 8 = rf' ∧ rnX d M L i g t l6 (kQ M mm H L s r ex) = some (.inl none, kQ M mm H L s' r' ex))
def stX (m n : Nat) (l : List Nat) (dk fs : Nat → Int32) (K F Q : Nat → Nat) (len : Nat) (i i1 lo hi : Nat) (A A1 : rT → Prop) (g : Nat) (v : Nat → Int32) (dn rf : Int32) (g1 : Nat) (v1 : Nat → Int32) (dn1 rf1 : Int32) : Prop := ∀ d M mm H L s r ex t l6, 12 ≤ d → Dj L → (∀ j, M ≤ j → Ot L j) → WX m n l dk fs K F Q len s r v dn rf → A r → t ≤ 99999 → ∃ s1 r1 l6', Kf [] [0, 22, 23] s s1 ∧ WX m n l dk fs K F Q len s1 r1 v1 dn1 rf1 ∧ (∀ x, x < lo ∨ hi ≤ x → r1.2 4 x = r.2 4 x) ∧ A1 r1 ∧ rnX d M L i g t l6 (kQ M mm H L s r ex) = rnX d M L i1 g1 (t + 1) l6' (kQ M mm H L s1 r1 ex)
noncomputable def rnR (d : Nat) (l1 : Int32) (w k : Nat) (l4 l5 : Value) (S : pS) : pR := den d m_R_goesSteps 2 [.ref 30, .int l1, .int (Int32.ofNat (3 * w)), .int (Int32.ofNat (3 * k)), l4, l5] [] S
def exR (m n : Nat) (l : List Nat) (dk fs : Nat → Int32) (Z : Nat → Nat) (ul : Nat) (f u v : Nat) (g : Nat) (v0 : Nat → Int32) (dn rf : Int32) (g' : Nat) (v' : Nat → Int32) (dn' rf' : Int32) : Prop := ∀ d b τ l1 w l4 l5, f + 8 ≤ d → RX m n l dk fs Z ul τ v0 g dn rf → v ≤ w → w ≤ ul → ∃ τ' l4' l5', Kf [39, 40, 41] [44, 45, 49, 51] τ τ' ∧ RX m n l dk fs Z ul τ' v' g' dn' rf' ∧ rnR d l1 w u l4 l5 (mS b τ) = rnR d l1 w v l4' l5' (mS b τ')
/-- how a block goes -/
def OUTE (m n : Nat) (l : List Nat) (dk fs : Nat → Int32) (K F Q : Nat → Nat) (len : Nat) (Z : Nat → Nat) (ul f i j u v g : Nat) (vv : Nat → Int32) (dn rf : Int32) : Prop := ∃ g' v' dn' rf', g ≤ g' ∧ g' ≤ 200 ∧ scI 800 m n v' ∧ exX m n l dk fs K F Q len i j i j 0 (fun _ => True) g vv dn rf g' v' dn' rf' ∧ exR m n l dk fs Z ul f u v g vv dn rf g' v' dn' rf'
section
variable {m n : Nat} {l : List Nat} {dk fs : Nat → Int32} {K F Q Z : Nat → Nat} {len ul : Nat}
theorem stX_tr {i i1 j lo hi ρ ρ1 g g1 g' : Nat} {A A1 : rT → Prop} {v v1 v' : Nat → Int32} {dn rf dn1 rf1 dn' rf' : Int32} (h1 : stX m n l dk fs K F Q len i i1 lo hi A A1 g v dn rf g1 v1 dn1 rf1) (h2 : exX m n l dk fs K F Q len i1 j lo hi ρ1 A1 g1 v1 dn1 rf1 g' v' dn' rf') (hc : 1 + 61 * (200 - g1) + ρ1 ≤ 61 * (200 - g) + ρ) : exX m n l dk fs K F Q len i j lo hi ρ A g v dn rf g' v' dn' rf' := fun d M mm H L s r ex t l6 hd D o W hA ht => by
  obtain ⟨s1, r1, l6', k1, k2, k3, k4, k5⟩ := h1 d M mm H L s r ex t l6 hd D o W hA (by omega)
  obtain ⟨e1, e2⟩ := h2 d M mm H L s1 r1 ex (t + 1) l6' hd D o k2 k4 (by omega)
  refine ⟨fun hg => ?_, fun hg => ?_⟩
  · obtain ⟨s2, r2, t2, m6, j1, j2, j3, j4, j5⟩ := e1 hg
    exact ⟨s2, r2, t2, m6, k1.tr j1, j2, fun x hx => (j3 x hx).trans (k3 x hx), by omega, k5.trans j5⟩
  · obtain ⟨s2, r2, j1, j2, j3, j4, j5⟩ := e2 hg
    exact ⟨s2, r2, k1.tr j1, j2, j3, j4, k5.trans j5⟩
theorem exX_tr {i j k lo1 hi1 lo hi ρ1 ρ2 g g1 g' : Nat} {A A2 : rT → Prop} {v v1 v' : Nat → Int32} {dn rf dn1 rf1 dn' rf' : Int32} (h1 : exX m n l dk fs K F Q len i j lo1 hi1 ρ1 A g v dn rf g1 v1 dn1 rf1) (hg1 : g1 < 200) (hlo : lo ≤ lo1) (hhi : hi1 ≤ hi) (hA : ∀ r r' : rT, A r → (∀ x, x < lo1 ∨ hi1 ≤ x → r'.2 4 x = r.2 4 x) → A2 r') (h2 : exX m n l dk fs K F Q len j k lo hi ρ2 A2 g1 v1 dn1 rf1 g' v' dn' rf') : exX m n l dk fs K F Q len i k lo hi (ρ1 + ρ2) A g v dn rf g' v' dn' rf' := fun d M mm H L s r ex t l6 hd D o W hAr ht => by
  obtain ⟨s1, r1, t1, l6', k1, k2, k3, k4, k5⟩ := (h1 d M mm H L s r ex t l6 hd D o W hAr (by omega)).1 hg1
  obtain ⟨e1, e2⟩ := h2 d M mm H L s1 r1 ex t1 l6' hd D o k2 (hA r r1 hAr k3) (by omega)
  refine ⟨fun hg => ?_, fun hg => ?_⟩
  · obtain ⟨s2, r2, t2, m6, j1, j2, j3, j4, j5⟩ := e1 hg
    exact ⟨s2, r2, t2, m6, k1.tr j1, j2, fun x hx => (j3 x hx).trans (k3 x (by omega)), by omega, k5.trans j5⟩
  · obtain ⟨s2, r2, j1, j2, j3, j4, j5⟩ := e2 hg
    exact ⟨s2, r2, k1.tr j1, j2, j3, j4, k5.trans j5⟩
theorem exX_dead {i j k lo1 hi1 lo hi ρ1 ρ2 g g1 : Nat} {A A2 : rT → Prop} {v v1 : Nat → Int32} {dn rf dn1 rf1 : Int32} (h1 : exX m n l dk fs K F Q len i j lo1 hi1 ρ1 A g v dn rf g1 v1 dn1 rf1) (hg1 : ¬ g1 < 200) (hρ : ρ1 ≤ ρ2) (hA : ∀ r, A2 r → A r) : exX m n l dk fs K F Q len i k lo hi ρ2 A2 g v dn rf g1 v1 dn1 rf1 := fun d M mm H L s r ex t l6 hd D o W hAr ht => ⟨fun h => absurd h hg1, fun _ => (h1 d M mm H L s r ex t l6 hd D o W (hA r hAr) (by omega)).2 hg1⟩
theorem exX_w {i j lo1 hi1 lo hi ρ g g' : Nat} {A : rT → Prop} {v v' : Nat → Int32} {dn rf dn' rf' : Int32} (h1 : exX m n l dk fs K F Q len i j lo1 hi1 ρ A g v dn rf g' v' dn' rf') (hlo : lo ≤ lo1) (hhi : hi1 ≤ hi) : exX m n l dk fs K F Q len i j lo hi ρ A g v dn rf g' v' dn' rf' := fun d M mm H L s r ex t l6 hd D o W hA ht => by
  obtain ⟨e1, e2⟩ := h1 d M mm H L s r ex t l6 hd D o W hA ht
  refine ⟨fun hg => ?_, e2⟩
  obtain ⟨s2, r2, t2, m6, j1, j2, j3, j4, j5⟩ := e1 hg
  exact ⟨s2, r2, t2, m6, j1, j2, fun x hx => j3 x (by omega), j4, j5⟩
theorem exR_tr {f1 f2 f u v w g g1 g' : Nat} {v0 v1 v' : Nat → Int32} {dn rf dn1 rf1 dn' rf' : Int32} (h1 : exR m n l dk fs Z ul f1 u v g v0 dn rf g1 v1 dn1 rf1) (h2 : exR m n l dk fs Z ul f2 v w g1 v1 dn1 rf1 g' v' dn' rf') (hf1 : f1 ≤ f) (hf2 : f2 ≤ f) (hvw : v ≤ w) : exR m n l dk fs Z ul f u w g v0 dn rf g' v' dn' rf' := fun d b τ l1 z l4 l5 hd R hz hz2 => by
  obtain ⟨t1, m4, m5, k1, k2, k3⟩ := h1 d b τ l1 z l4 l5 (by omega) R (by omega) hz2
  obtain ⟨t2, n4, n5, j1, j2, j3⟩ := h2 d b t1 l1 z m4 m5 (by omega) k2 hz hz2
  exact ⟨t2, n4, n5, k1.tr j1, j2, k3.trans j3⟩
theorem exR_dead {f1 f u v w g g1 : Nat} {v0 v1 : Nat → Int32} {dn rf dn1 rf1 : Int32} (h1 : exR m n l dk fs Z ul f1 u v g v0 dn rf g1 v1 dn1 rf1) (hg : g1 = 200) (hf1 : f1 ≤ f) (hvw : v ≤ w) : exR m n l dk fs Z ul f u w g v0 dn rf g1 v1 dn1 rf1 := fun d b τ l1 z l4 l5 hd R hz hz2 => by
  obtain ⟨t1, m4, m5, k1, k2, k3⟩ := h1 d b τ l1 z l4 l5 (by omega) R (by omega) hz2
  subst hg
  refine ⟨t1, m4, m5, k1, k2, k3.trans ?_⟩
  have e := k2.2.2.2.2.2.2.1
  exact (R_dead d b e _ _ _ _ _).trans (R_dead d b e _ _ _ _ _).symm
theorem OUTE_tr {f1 f2 f i j k u v w g : Nat} {vv : Nat → Int32} {dn rf : Int32} (hij : i ≤ j) (hjk : j ≤ k) (hvw : v ≤ w) (hf1 : f1 ≤ f) (hf2 : f2 ≤ f) (h1 : OUTE m n l dk fs K F Q len Z ul f1 i j u v g vv dn rf) (h2 : ∀ g1 v1 dn1 rf1, g1 < 200 → scI 800 m n v1 → OUTE m n l dk fs K F Q len Z ul f2 j k v w g1 v1 dn1 rf1) : OUTE m n l dk fs K F Q len Z ul f i k u w g vv dn rf := by
  obtain ⟨g1, v1, dn1, rf1, a1, a2, a3, a4, a5⟩ := h1
  by_cases hg : g1 < 200
  · obtain ⟨g2, v2, dn2, rf2, b1, b2, b3, b4, b5⟩ := h2 g1 v1 dn1 rf1 hg a3
    refine ⟨g2, v2, dn2, rf2, by omega, b2, b3, ?_, exR_tr a5 b5 hf1 hf2 hvw⟩
    exact exX_tr a4 hg (Nat.le_refl _) hjk (fun _ _ _ _ => trivial) (exX_w b4 hij (Nat.le_refl _))
  · exact ⟨g1, v1, dn1, rf1, a1, a2, a3, exX_dead a4 hg (Nat.le_refl _) (fun _ _ => trivial), exR_dead a5 (by omega) hf1 hvw⟩
theorem OUTE_200 {f i j u v : Nat} {vv : Nat → Int32} {dn rf : Int32} (hl : len ≤ 64) (hv : scI 800 m n vv) : OUTE m n l dk fs K F Q len Z ul f i j u v 200 vv dn rf := by
  refine ⟨200, vv, dn, rf, Nat.le_refl _, Nat.le_refl _, hv, fun d M mm H L s r ex t l6 hd D o W hA ht => ⟨fun h => by omega, fun _ => ?_⟩, fun d b τ l1 w l4 l5 hd R hz hz2 => ⟨τ, l4, l5, Kf.rf _ _ τ, R, ?_⟩⟩
  · obtain ⟨e, rfl⟩ : ∃ e, d = e + 1 := ⟨d - 1, by omega⟩
    obtain ⟨w1, w2, w3, w4, w5, w6, w7, w8, w9⟩ := W
    obtain ⟨r', k1, k2⟩ := X_dead (M := M) (mm := mm) (H := H) (L := L) (s := s) (ex := ex) e o hl (aP L) (aW L) (100000 - t) t (by omega) (Int32.ofNat i) l6 r w6
    exact ⟨s, r', Kf.rf _ _ s, w3, by rw [k1]; exact w8, by rw [k1]; exact w9, k2⟩
  · have e := R.2.2.2.2.2.2.1
    exact (R_dead d b e _ _ _ _ _).trans (R_dead d b e _ _ _ _ _).symm
theorem OUTE_0 {f i u g : Nat} {vv : Nat → Int32} {dn rf : Int32} (hg : g < 200) (hv : scI 800 m n vv) : OUTE m n l dk fs K F Q len Z ul f i i u u g vv dn rf := ⟨g, vv, dn, rf, Nat.le_refl _, by omega, hv, fun d M mm H L s r ex t l6 hd D o W hA ht => ⟨fun _ => ⟨s, r, t, l6, Kf.rf _ _ s, W, fun _ _ => rfl, by omega, rfl⟩, fun h => absurd hg h⟩, fun d b τ l1 w l4 l5 hd R hz hz2 => ⟨τ, l4, l5, Kf.rf _ _ τ, R, rfl⟩⟩
/-- a step that is no again -/
theorem X_one {i g : Nat} {vv : Nat → Int32} {dn rf : Int32} (hl : len ≤ 64) (hi : i < len) (hg : g < 200) (hv : scI 800 m n vv) (hk : wkS m n (K i) (F i) (Q i)) : stX m n l dk fs K F Q len i (i + 1) i (i + 1) (fun _ => True) (fun _ => True) g vv dn rf (g + 1) (sGo l n dk fs (K i) (F i) (Q i) vv) (if bGo n (K i) (F i) (Q i) vv = 0 then dn else dn + 1) (if bGo n (K i) (F i) (Q i) vv = 0 then rf + 1 else rf) := fun d M mm H L s r ex t l6 hd D o W hA ht => by
  obtain ⟨e, rfl⟩ : ∃ e, d = e + 6 := ⟨d - 6, by omega⟩
  obtain ⟨w1, w2, w3, w4, w5, w6, w7, w8, w9⟩ := W
  obtain ⟨p1, p2, p3⟩ := w7 i (Nat.zero_le _) hi
  subst w3 w4 w5
  obtain ⟨s1, k1, k2, k3⟩ := X_try e (M := M) (mm := mm) (H := H) (r := r) (ex := ex) D o w1 w2 hv (p := i) (by omega) p1 p2 p3 hk
  have hk4 := hk.1
  have n6 : ¬ Int32.ofNat (K i) = 6 := by show ¬ Int32.ofNat (K i) = Int32.ofNat 6; rw [ii_eq (by omega) (by omega)]; omega
  have n5 : ¬ Int32.ofNat (K i) = 5 := by show ¬ Int32.ofNat (K i) = Int32.ofNat 5; rw [ii_eq (by omega) (by omega)]; omega
  have g200 : Int32.ofNat g < 200 := by show Int32.ofNat g < Int32.ofNat 200; rw [ii_lt (by omega) (by omega)]; exact hg
  have h0 := B_Wk_run_8 (e + 6) M (aP L) (aW L) (Int32.ofNat i) (Int32.ofNat g) (Int32.ofNat t) l6 (kQ M mm H L s r ex)
  rw [if_neg (by show ¬ (Int32.ofNat 100000 ≤ Int32.ofNat t); rw [ii_le (by omega) (by omega)]; omega), if_neg (by rw [ii_nn (by omega)]; exact id), (kQ_gF o).2.1, obs, w6, if_neg (by rw [ii_le (by omega) (by omega)]; omega), (kQ_gR o).1, obs, (kQ_gI o).1 (by omega), obs, p1, if_pos n6, if_pos g200, obs, (kQ_gI o).1 (by omega), obs, p1, if_pos n5, k3, kC1_v, (kQ_gF o).2.2.1, obs, ii_1] at h0
  have kc : Cn s1 m n := k1.xcn w1
  have kl : xLaw s1 l := k1.xlaw w2
  by_cases hb : bGo n (K i) (F i) (Q i) (s.2 0) = 0
  · rw [if_pos hb, B_Wk_run_105, (kQ_pF o _).2.2.1, obs, (kQ_gF o).2.2.2, obs, if_pos hb, (kQ_pF o _).2.2.2, obs, ii_1, ii_1, Int32.add_zero] at h0
    rw [if_pos hb, if_pos hb]
    refine ⟨s1, wF (wF r 7 (r.1 7)) 8 ((wF r 7 (r.1 7)).1 8 + 1), _, k1, ⟨kc, kl, k2, k1.2 12 (by decide), k1.2 13 (by decide), w6, w7, w8, ?_⟩, fun _ _ => rfl, trivial, h0⟩
    show r.1 8 + 1 = rf + 1
    rw [w9]
  · rw [if_neg hb, B_Wk_run_105, (kQ_pF o _).2.2.1, obs, (kQ_gF o).2.2.2, obs, if_neg hb, (kQ_pF o _).2.2.2, obs, ii_1, ii_1, Int32.add_zero] at h0
    rw [if_neg hb, if_neg hb]
    refine ⟨s1, wF (wF r 7 (r.1 7 + 1)) 8 ((wF r 7 (r.1 7 + 1)).1 8), _, k1, ⟨kc, kl, k2, k1.2 12 (by decide), k1.2 13 (by decide), w6, w7, ?_, w9⟩, fun _ _ => rfl, trivial, h0⟩
    show r.1 7 + 1 = dn + 1
    rw [w8]
theorem R_one {f u g : Nat} {k a c : Nat} {vv : Nat → Int32} {dn rf : Int32} (h6 : n ≤ 6) (hu : u < ul) (hul : 3 * ul ≤ 150) (hg : g < 200) (hv : scI 800 m n vv) (hk : wkS m n k a c) (z1 : Z (3 * u) = k) (z2 : Z (3 * u + 1) = a) (z3 : Z (3 * u + 2) = c) : exR m n l dk fs Z ul f u (u + 1) g vv dn rf (g + 1) (sGo l n dk fs k a c vv) (if bGo n k a c vv = 0 then dn else dn + 1) (if bGo n k a c vv = 0 then rf + 1 else rf) := fun d b τ l1 w l4 l5 hd R hz hz2 => by
  obtain ⟨e, rfl⟩ : ∃ e, d = e + 7 := ⟨d - 7, by omega⟩
  obtain ⟨r1, r2, r3, r4, r5, r6, r7, r8, r9⟩ := R
  subst r3
  have hk4 := hk.1
  have h8 := r1.2.1
  have s0 : (wF τ 39 (Int32.ofNat (g + 1))).2 47 (3 * u) = Int32.ofNat k := (r6 _ (by omega)).trans (by rw [z1])
  have s1 : (wF τ 39 (Int32.ofNat (g + 1))).2 47 (3 * u + 1) = Int32.ofNat a := (r6 _ (by omega)).trans (by rw [z2])
  have s2 : (wF τ 39 (Int32.ofNat (g + 1))).2 47 (3 * u + 2) = Int32.ofNat c := (r6 _ (by omega)).trans (by rw [z3])
  have g39 : ∀ τ : rT, gFi (mS b τ) 30 11 39 = some (τ.1 39) := fun τ => gFi_at mS_30 rfl
  have g40 : ∀ τ : rT, gFi (mS b τ) 30 11 40 = some (τ.1 40) := fun τ => gFi_at mS_30 rfl
  have g41 : ∀ τ : rT, gFi (mS b τ) 30 11 41 = some (τ.1 41) := fun τ => gFi_at mS_30 rfl
  have g35 : ∀ τ : rT, gFr (mS b τ) 30 11 35 = some 47 := fun τ => gFr_at mS_30 rfl
  have p39 : pF (mS b τ) 30 11 39 (.int (Int32.ofNat (g + 1))) = some (mS b (wF τ 39 (Int32.ofNat (g + 1)))) := by simp only [m_pF]
  have a1 : Int32.ofNat (3 * u) + 1 = Int32.ofNat (3 * u + 1) := ii_1 _
  have a2 : Int32.ofNat (3 * u) + 2 = Int32.ofNat (3 * u + 2) := ii_add (3 * u) 2
  have a3 : Int32.ofNat (3 * u) + 3 = Int32.ofNat (3 * (u + 1)) := ii_add (3 * u) 3
  have n5 : ¬ Int32.ofNat k = 5 := by show ¬ Int32.ofNat k = Int32.ofNat 5; rw [ii_eq (by omega) (by omega)]; omega
  have ha : if k = 3 then a < 8 else a < 6 := by
    obtain ⟨-, q2, q3⟩ := hk
    by_cases e3 : k = 3
    · rw [if_pos e3] at q3 ⊢; omega
    · rw [if_neg e3] at q3 ⊢
      by_cases e4 : k = 4
      · have := q2 e4; omega
      · rw [if_neg e4] at q3; omega
  obtain ⟨t1, k1, k2, k3⟩ := c_R_goes e b (wF τ 39 (Int32.ofNat (g + 1))) (l := l) (m := m) (n := n) r2 r1 hv.1 k a c (by omega) ha
  have h0 := B_R_goesSteps_2 (e + 7) 30 l1 (Int32.ofNat (3 * w)) (Int32.ofNat (3 * u)) l4 l5 (mS b τ)
  rw [if_neg (by rw [ii_le (by omega) (by omega)]; omega), g39, obs, r7, if_neg (by show ¬ (Int32.ofNat 200 ≤ Int32.ofNat g); rw [ii_le (by omega) (by omega)]; omega), obs, ii_1, p39, obs, g35, obs, m_gI0 (n := 150) (by decide) (by decide) rfl (by decide) _ (by omega), obs, s0, if_pos n5, obs, m_gI0 (n := 150) (by decide) (by decide) rfl (by decide) _ (by omega), obs, s0, obs, a1, m_gI0 (n := 150) (by decide) (by decide) rfl (by decide) _ (by omega), obs, s1, obs, a2, m_gI0 (n := 150) (by decide) (by decide) rfl (by decide) _ (by omega), obs, s2, k3, kC1_v, a3] at h0
  have e1 : (wF τ 39 (Int32.ofNat (g + 1))).2 49 = τ.2 49 := rfl
  have kk : Kf [39, 40, 41] [44, 45, 49, 51] τ t1 := ((Kf.rf _ _ τ).wF (by decide) _).tr (k1.up (by decide) (by decide))
  have b1 : ∀ x y, RX m n l dk fs Z ul (wF t1 x y) (sGo l n dk fs k a c (τ.2 49)) (g + 1) ((wF t1 x y).1 40) ((wF t1 x y).1 41) ∨ ¬ (x = 40 ∨ x = 41) := fun x y => by
    by_cases hx : x = 40 ∨ x = 41
    · left
      refine ⟨?_, ?_, ?_, ?_, ?_, ?_, ?_, rfl, rfl⟩
      · have q : Kf [39, 40, 41] [44, 45, 49, 51] τ (wF t1 x y) := kk.wF (by rcases hx with rfl | rfl <;> decide) _
        exact q.cn r1
      · have q : Kf [39, 40, 41] [44, 45, 49, 51] τ (wF t1 x y) := kk.wF (by rcases hx with rfl | rfl <;> decide) _
        exact q.law r2
      · show t1.2 49 = _
        rw [k2]
        exact (sGo_c h6 r4 r5 k a c (τ.2 49)).symm
      · show ∀ p, p < n → dk p = t1.2 37 p
        rw [kk.2 37 (by decide)]; exact r4
      · show ∀ p, p < n → fs p = t1.2 38 p
        rw [kk.2 38 (by decide)]; exact r5
      · show ∀ j, j < 3 * ul → t1.2 47 j = Int32.ofNat (Z j)
        rw [kk.2 47 (by decide)]; exact r6
      · rw [wF_1, if_neg (by omega), k1.1 39 (by decide)]; rfl
    · exact Or.inr hx
  by_cases hb : bGo n k a c (τ.2 49) = 0
  · rw [if_pos (by rw [e1]; exact hb), g41, obs] at h0
    have p41 : pF (mS b t1) 30 11 41 (.int (t1.1 41 + 1)) = some (mS b (wF t1 41 (t1.1 41 + 1))) := by simp only [m_pF]
    rw [p41, obs] at h0
    rw [if_pos hb, if_pos hb]
    refine ⟨wF t1 41 (t1.1 41 + 1), l4, l5, kk.wF (by decide) _, ?_, h0⟩
    rcases b1 41 (t1.1 41 + 1) with q | q
    · obtain ⟨q1, q2, q3, q4, q5, q6, q7, -, -⟩ := q
      refine ⟨q1, q2, q3, q4, q5, q6, q7, ?_, ?_⟩
      · show t1.1 40 = _; rw [k1.1 40 (by decide)]; exact r8
      · show t1.1 41 + 1 = _; rw [k1.1 41 (by decide)]; exact congrArg (· + 1) r9
    · exact absurd (Or.inr rfl) q
  · rw [if_neg (by rw [e1]; exact hb), g40, obs] at h0
    have p40 : pF (mS b t1) 30 11 40 (.int (t1.1 40 + 1)) = some (mS b (wF t1 40 (t1.1 40 + 1))) := by simp only [m_pF]
    rw [p40, obs] at h0
    rw [if_neg hb, if_neg hb]
    refine ⟨wF t1 40 (t1.1 40 + 1), l4, l5, kk.wF (by decide) _, ?_, h0⟩
    rcases b1 40 (t1.1 40 + 1) with q | q
    · obtain ⟨q1, q2, q3, q4, q5, q6, q7, -, -⟩ := q
      refine ⟨q1, q2, q3, q4, q5, q6, q7, ?_, ?_⟩
      · show t1.1 40 + 1 = _; rw [k1.1 40 (by decide)]; exact congrArg (· + 1) r8
      · show t1.1 41 = _; rw [k1.1 41 (by decide)]; exact r9
    · exact absurd (Or.inl rfl) q
end
