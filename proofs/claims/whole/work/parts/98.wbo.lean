/-! BODIES of agains, all of a work, by both -/
theorem STO_up {B : Nat → Nat} {N m n dr dr' a g i u : Nat} (h : STO B N m n dr a g i u) (hd : dr ≤ dr') : STO B N m n dr' a g i u := by
  rcases h with ⟨a', i', u', K, F, Q, Z, f, z1, z2, z3, z4, z5, z6, zX, zR⟩ | ⟨k, p, hk, hp, zX, zR⟩
  · exact Or.inl ⟨a', i', u', K, F, Q, Z, f, z1, z2, z3, z4, z5, z6, zX, fun d b τ a0 h => zR d b τ a0 (by omega)⟩
  · exact Or.inr ⟨k, p, hk, hp, zX, fun d b τ a0 h => zR d b τ a0 (by omega)⟩
theorem STEP1 {B : Nat → Nat} {N : Nat} (hB : ∀ i, B i < 256) (hN : N ≤ 600) (h150 : N ≤ 150) {m n a g i u dr : Nat} (h8 : m ≤ 8) (h6 : n ≤ 6) (ha : a ≤ N) (hg : g ≤ 6) (pc1 : ¬ (sk B N a < N ∧ B (sk B N a) = 93 ∧ 0 < g)) (pc2 : ¬ (¬ sk B N a < N ∧ g = 0)) (hio : 4 * i + 3 * g ≤ a) (hu : u ≤ i) (h8r : 8 ≤ dr) (hBO : g < 6 → ∀ a i u, a ≤ N → 4 * i + 3 * (g + 1) ≤ a → u ≤ i → BOO B N m n dr a (g + 1) i u) : STO B N m n (dr + 1) a g i u := by
  by_cases h15 : wq B (sk B N a) (we B N (sk B N a) - sk B N a) w_sit 3
  · exact STO_up (ST_sit hB hN h150 h8 h6 ha hg pc1 pc2 hio hu h15) (by omega)
  by_cases h16 : wq B (sk B N a) (we B N (sk B N a) - sk B N a) w_rise 4
  · exact STO_up (ST_rise hB hN h150 h8 h6 ha hg pc1 pc2 hio hu h16) (by omega)
  by_cases h17 : wq B (sk B N a) (we B N (sk B N a) - sk B N a) w_feed 4
  · exact STO_up (ST_feed hB hN h150 h8 h6 ha hg pc1 pc2 hio hu h17) (by omega)
  by_cases h18 : wq B (sk B N a) (we B N (sk B N a) - sk B N a) w_curtain 7
  · exact STO_up (ST_curtain hB hN h150 h8 h6 ha hg pc1 pc2 hio hu h18) (by omega)
  by_cases h19 : wq B (sk B N a) (we B N (sk B N a) - sk B N a) w_day 3
  · exact STO_up (ST_day hB hN h150 h8 h6 ha hg pc1 pc2 hio hu h19) (by omega)
  by_cases h20 : wq B (sk B N a) (we B N (sk B N a) - sk B N a) w_again 5
  · by_cases g6 : g = 6
    · exact STO_up (ST_again6 hB hN h150 h8 h6 ha hg pc1 pc2 hio hu g6 h20) (by omega)
    · exact ST_again hB hN h150 h8 h6 ha hg pc1 pc2 hio hu h8r (by omega) h20 (hBO (by omega))
  exact STO_up (ST_none hB hN h150 h8 h6 ha hg pc1 pc2 hio hu h15 h16 h17 h18 h19 h20) (by omega)
theorem Fr_rf (i g : Nat) (r : rT) : Fr i g r r := ⟨fun _ _ => ⟨rfl, rfl, rfl⟩, fun _ _ => rfl, rfl, rfl⟩
theorem Fr_tr {i i1 g : Nat} {r r1 r2 : rT} (h : Fr i g r r1) (h2 : Fr i1 g r1 r2) (hi : i ≤ i1) : Fr i g r r2 := by
  refine ⟨fun j hj => ?_, fun j hj => ?_, h2.2.2.1.trans h.2.2.1, h2.2.2.2.trans h.2.2.2⟩
  · obtain ⟨a1, a2, a3⟩ := h.1 j hj
    obtain ⟨b1, b2, b3⟩ := h2.1 j (by omega)
    exact ⟨b1.trans a1, b2.trans a2, b3.trans a3⟩
  · exact (h2.2.1 j hj).trans (h.2.1 j hj)
theorem PX_tr {r1 r2 : rT} {K1 F1 Q1 K2 F2 Q2 : Nat → Nat} {i i1 i2 g : Nat} (h1 : PX r1 K1 F1 Q1 i i1) (h2 : PX r2 K2 F2 Q2 i1 i2) (f : Fr i1 g r1 r2) : PX r2 (fun j => if j < i1 then K1 j else K2 j) (fun j => if j < i1 then F1 j else F2 j) (fun j => if j < i1 then Q1 j else Q2 j) i i2 := fun j a b => by
  show r2.2 1 j = Int32.ofNat (if j < i1 then K1 j else K2 j) ∧ r2.2 2 j = Int32.ofNat (if j < i1 then F1 j else F2 j) ∧ r2.2 3 j = Int32.ofNat (if j < i1 then Q1 j else Q2 j)
  by_cases c : j < i1
  · rw [if_pos c, if_pos c, if_pos c]
    obtain ⟨x1, x2, x3⟩ := f.1 j c
    rw [x1, x2, x3]
    exact h1 j a c
  · rw [if_neg c, if_neg c, if_neg c]
    exact h2 j (by omega) b
theorem PZ_tr {t1 t2 : rT} {Z1 Z2 : Nat → Nat} {u u1 u2 : Nat} (h1 : PZ t1 Z1 (3 * u) (3 * u1)) (h2 : PZ t2 Z2 (3 * u1) (3 * u2)) (f : ∀ j, j < 3 * u1 → t2.2 46 j = t1.2 46 j) : PZ t2 (fun j => if j < 3 * u1 then Z1 j else Z2 j) (3 * u) (3 * u2) := fun j a b => by
  show t2.2 46 j = Int32.ofNat (if j < 3 * u1 then Z1 j else Z2 j)
  by_cases c : j < 3 * u1
  · rw [if_pos c, f j c]; exact h1 j a c
  · rw [if_neg c]; exact h2 j (by omega) b
theorem Blk_tr {m n f1 f2 i i1 i2 u u1 u2 : Nat} {K1 F1 Q1 Z1 K2 F2 Q2 Z2 : Nat → Nat} (h1 : Blk m n K1 F1 Q1 Z1 f1 i i1 u u1) (h2 : Blk m n K2 F2 Q2 Z2 f2 i1 i2 u1 u2) : Blk m n (fun j => if j < i1 then K1 j else K2 j) (fun j => if j < i1 then F1 j else F2 j) (fun j => if j < i1 then Q1 j else Q2 j) (fun j => if j < 3 * u1 then Z1 j else Z2 j) (f1 + f2) i i2 u u2 := by
  refine Blk_app _ _ _ _ _ _ _ _ (Blk_c _ _ _ _ _ (fun x a b => ⟨?_, ?_, ?_⟩) (fun x a b => ?_) h1) (Blk_c _ _ _ _ _ (fun x a b => ⟨?_, ?_, ?_⟩) (fun x a b => ?_) h2)
  · show _ = if _ then _ else _; rw [if_pos b]
  · show _ = if _ then _ else _; rw [if_pos b]
  · show _ = if _ then _ else _; rw [if_pos b]
  · show _ = if _ then _ else _; rw [if_pos b]
  · show _ = if _ then _ else _; rw [if_neg (by omega)]
  · show _ = if _ then _ else _; rw [if_neg (by omega)]
  · show _ = if _ then _ else _; rw [if_neg (by omega)]
  · show _ = if _ then _ else _; rw [if_neg (by omega)]
theorem gSX_tr {B : Nat → Nat} {N m n a g i a1 i1 a2 i2 : Nat} {K1 F1 Q1 K2 F2 Q2 : Nat → Nat} (hi : i ≤ i1) (h1 : gSX B N m n a g i a1 i1 K1 F1 Q1) (h2 : gSX B N m n a1 g i1 a2 i2 K2 F2 Q2) : gSX B N m n a g i a2 i2 (fun j => if j < i1 then K1 j else K2 j) (fun j => if j < i1 then F1 j else F2 j) (fun j => if j < i1 then Q1 j else Q2 j) := fun d M mm H L s r c l4 l5 hd D o T P hc => by
  obtain ⟨s1, r1, c1, m1, n1, k1, k2, k3, k4, k5, k6, k7⟩ := h1 d M mm H L s r c l4 l5 hd D o T P hc
  obtain ⟨s2, r2, c2, m2, n2, j1, j2, j3, j4, j5, j6, j7⟩ := h2 d M mm H L s1 r1 c1 m1 n1 hd D o k2 k3 k6
  exact ⟨s2, r2, c2, m2, n2, k1.tr j1, j2, j3, Fr_tr k4 j4 hi, PX_tr k5 j5 j4, j6, k7.trans j7⟩
theorem BODY {B : Nat → Nat} {N : Nat} (hB : ∀ i, B i < 256) (hN : N ≤ 600) {m n g dr : Nat} (h1r : 4 ≤ dr) (hg : 0 < g) (hST : ∀ a i u, a ≤ N → ¬ (sk B N a < N ∧ B (sk B N a) = 93 ∧ 0 < g) → ¬ (¬ sk B N a < N ∧ g = 0) → 4 * i + 3 * g ≤ a → u ≤ i → STO B N m n dr a g i u) : ∀ (f a i u : Nat), N - a = f → a ≤ N → 4 * i + 3 * g ≤ a → u ≤ i → BOO B N m n dr a g i u := by
  intro f
  induction f using Nat.strongRecOn with
  | _ f ih =>
    intro a i u hf ha hio hu
    have hs := sk_le (B := B) ha
    have ess := sk_sk (B := B) ha
    by_cases h93 : sk B N a < N ∧ B (sk B N a) = 93
    · have pr : pkR B N (sk B N a) = 93 := by unfold pkR; rw [if_pos h93.1, h93.2]; rfl
      refine Or.inl ⟨a, i, u, fun _ => 0, fun _ => 0, fun _ => 0, fun _ => 0, 0, Nat.le_refl _, ha, h93.1, h93.2, Nat.le_refl _, hio, hu, ⟨rfl, rfl⟩, fun d M mm H L s r c l4 l5 hd D o T P hc => ⟨s, r, c, l4, l5, Kf.rf _ _ s, T, P, Fr_rf _ _ _, fun j a b => by omega, hc, rfl⟩, fun d b τ a0 l1 l2 l3 hd h0 h0' T P => ?_⟩
      obtain ⟨e, rfl⟩ : ∃ e, d = e + 1 := ⟨d - 1, by omega⟩
      obtain ⟨t1, k1, k2, k3⟩ := R_here hB hN e b h0 T
      rw [h0'] at k2 k3
      refine ⟨t1, k1.up (by decide) (by decide), k2, RP_k P k1, fun j _ => by rw [k1.2 46 (by decide)], fun j a b => by omega, ?_⟩
      rw [B_R_readStep_216, R_fine1 e b P.1, kC1_v, if_neg (by decide), k3, kC1_v, if_pos pr]
    · have hR0 : ∀ d b τ a0 l1 l2 l3, 4 ≤ d → a0 ≤ N → sk B N a0 = sk B N a → TR B N a0 τ → RP m n g u τ → ∃ t1, Kf [4] [] τ t1 ∧ TR B N (sk B N a) t1 ∧ RP m n g u t1 ∧ den d m_R_readStep 216 [.ref 30, .int l1, .int l2, .int l3] [] (mS b τ) = kC0 (vcall d m_R_readStep [.ref 30] (mS b t1)) (fun s5 => den d m_R_readStep 216 [.ref 30, .int l1, .int l2, .int l3] [] s5) xp := fun d b τ a0 l1 l2 l3 hd h0 h0' T P => by
        obtain ⟨e, rfl⟩ : ∃ e, d = e + 1 := ⟨d - 1, by omega⟩
        obtain ⟨t1, k1, k2, k3⟩ := R_here hB hN e b h0 T
        rw [h0'] at k2 k3
        refine ⟨t1, k1, k2, RP_k P k1, ?_⟩
        rw [B_R_readStep_216, R_fine1 e b P.1, kC1_v, if_neg (by decide), k3, kC1_v, if_neg (show ¬ pkR B N (sk B N a) = 93 from pkR_ne hB hN (c := 93) rfl (by decide) (by decide) h93)]
      rcases hST a i u ha (fun h => h93 ⟨h.1, h.2.1⟩) (fun h => by omega) hio hu with ⟨a1, i1, u1, K1, F1, Q1, Z1, f1, z1, z2, z3, z4, z5, z6, zX, zR⟩ | ⟨k, p, hk, hp, zX, zR⟩
      · have ul := Blk_le _ _ _ _ _ z6
        rcases ih (N - a1) (by omega) a1 i1 u1 rfl z2 z4 z5 with ⟨a2, i2, u2, K2, F2, Q2, Z2, f2, y1, y2, y3, y4, y5, y6, y7, y8, yX, yR⟩ | ⟨k, p, hk, hp, yX, yR⟩
        · refine Or.inl ⟨a2, i2, u2, _, _, _, _, f1 + f2, by omega, y2, y3, y4, by omega, y6, y7, Blk_tr z6 y8, gSX_tr (by omega) zX yX, fun d b τ a0 l1 l2 l3 hd h0 h0' T P => ?_⟩
          obtain ⟨t0, k1, k2, k3, k4⟩ := hR0 d b τ a0 l1 l2 l3 (by omega) h0 h0' T P
          obtain ⟨t1, j1, j2, j3, j4, j5, j6⟩ := zR d b t0 (sk B N a) hd hs ess k2 k3
          obtain ⟨t2, i1', i2', i3', i4', i5', i6'⟩ := yR d b t1 a1 l1 l2 l3 hd z2 rfl j2 j3
          refine ⟨t2, ((k1.up (by decide) (by decide)).tr j1).tr i1', i2', i3', fun j hj => ?_, PZ_tr j5 i5' i4', ?_⟩
          · rw [i4' j (by omega), j4 j hj, k1.2 46 (by decide)]
          · rw [k4, j6, kC0_v, i6']
        · refine Or.inr ⟨k, p, hk, hp, fun d M mm H L s r c l4 l5 hd D o T P hc => ?_, fun d b τ a0 l1 l2 l3 hd h0 h0' T P => ?_⟩
          · obtain ⟨s1, r1, c1, m1, n1, k1, k2, k3, k4, k5, k6, k7⟩ := zX d M mm H L s r c l4 l5 hd D o T P hc
            obtain ⟨s2, r2, j1, j2, j3⟩ := yX d M mm H L s1 r1 c1 m1 n1 hd D o k2 k3 k6
            exact ⟨s2, r2, (k1.up (by decide) (by decide)).tr j1, j2, k7.trans j3⟩
          · obtain ⟨t0, k1, k2, k3, k4⟩ := hR0 d b τ a0 l1 l2 l3 (by omega) h0 h0' T P
            obtain ⟨t1, j1, j2, j3, j4, j5, j6⟩ := zR d b t0 (sk B N a) hd hs ess k2 k3
            obtain ⟨t2, i1', i2', i6'⟩ := yR d b t1 a1 l1 l2 l3 hd z2 rfl j2 j3
            refine ⟨t2, ((k1.up (by decide) (by decide)).tr (j1.up (by decide) (by decide))).tr i1', i2', ?_⟩
            rw [k4, j6, kC0_v, i6']
      · refine Or.inr ⟨k, p, hk, hp, zX, fun d b τ a0 l1 l2 l3 hd h0 h0' T P => ?_⟩
        obtain ⟨t0, k1, k2, k3, k4⟩ := hR0 d b τ a0 l1 l2 l3 (by omega) h0 h0' T P
        obtain ⟨t1, j1, j2, j6⟩ := zR d b t0 (sk B N a) hd hs ess k2 k3
        obtain ⟨e, rfl⟩ : ∃ e, d = e + 3 := ⟨d - 3, by omega⟩
        refine ⟨t1, (k1.up (by decide) (by decide)).tr j1, j2, ?_⟩
        rw [k4, j6, kC0_v, R_216b e b (FR_b j2 hp)]
theorem STEPS {B : Nat → Nat} {N : Nat} (hB : ∀ i, B i < 256) (hN : N ≤ 600) (h150 : N ≤ 150) {m n : Nat} (h8 : m ≤ 8) (h6 : n ≤ 6) : ∀ (k g : Nat), g + k = 6 → ∀ a i u, a ≤ N → ¬ (sk B N a < N ∧ B (sk B N a) = 93 ∧ 0 < g) → ¬ (¬ sk B N a < N ∧ g = 0) → 4 * i + 3 * g ≤ a → u ≤ i → STO B N m n (k + 9) a g i u := by
  intro k
  induction k with
  | zero =>
    intro g hk a i u ha pc1 pc2 hio hu
    exact STEP1 hB hN h150 h8 h6 ha (by omega) pc1 pc2 hio hu (by omega) (fun h => by omega)
  | succ k ih =>
    intro g hk a i u ha pc1 pc2 hio hu
    exact STEP1 hB hN h150 h8 h6 ha (by omega) pc1 pc2 hio hu (by omega) (fun _ a i u ha' h1 h2 => BODY hB hN (by omega) (by omega) (ih (g + 1) (by omega)) _ a i u rfl ha' h1 h2)
/-- all of a work -/
theorem WORKR {B : Nat → Nat} {N : Nat} (hB : ∀ i, B i < 256) (hN : N ≤ 600) (h150 : N ≤ 150) {m n : Nat} (h8 : m ≤ 8) (h6 : n ≤ 6) : ∀ (f a i u : Nat), N - a = f → a ≤ N → 4 * i ≤ a → u ≤ i → (∃ i' u' K F Q Z f', 4 * i' ≤ N ∧ u' ≤ i' ∧ Blk m n K F Q Z f' i i' u u' ∧ (∀ d M mm H L s r c l4 l5, 8 ≤ d → Dj L → (∀ j, M ≤ j → Ot L j) → TX B N a s → XP m n 0 i s r → c ≤ a → ∃ s' r', Kf [25, 26] [] s s' ∧ XP m n 0 i' s' r' ∧ Fr i 0 r r' ∧ PX r' K F Q i i' ∧ den d m_Wk_read 2 [.ref M, .ref 1, .ref (aU L), .int (Int32.ofNat c), l4, l5] [] (kQ M mm H L s r []) = some (.inl (some (.int 1)), kQ M mm H L s' r' [])) ∧ (∀ d b τ l1, 16 ≤ d → TR B N a τ → RP m n 0 u τ → ∃ τ', Kf [4, 7, 36] [46] τ τ' ∧ RP m n 0 u' τ' ∧ (∀ j, j < 3 * u → τ'.2 46 j = τ.2 46 j) ∧ PZ τ' Z (3 * u) (3 * u') ∧ den d m_R_work 68 [.ref 30, .int l1, mk0, mk0] [] (mS b τ) = den d m_R_work 89 [.ref 30, .int l1, mk0, mk0] [] (mS b τ'))) ∨ (∃ k p, k ≤ 3 ∧ p ≤ 600 ∧ bSX B N m n a 0 i k p ∧ (∀ d b τ l1, 16 ≤ d → TR B N a τ → RP m n 0 u τ → ∃ τ', Kf [4, 5, 6, 7, 36] [46] τ τ' ∧ FR τ' k p ∧ den d m_R_work 68 [.ref 30, .int l1, mk0, mk0] [] (mS b τ) = den d m_R_work 89 [.ref 30, .int l1, mk0, mk0] [] (mS b τ'))) := by
  intro f
  induction f using Nat.strongRecOn with
  | _ f ih =>
    intro a i u hf ha hio hu
    have hs := sk_le (B := B) ha
    have ess := sk_sk (B := B) ha
    have hR0 : ∀ d b τ l1, 16 ≤ d → TR B N a τ → RP m n 0 u τ → ∃ t1, Kf [4] [] τ t1 ∧ TR B N (sk B N a) t1 ∧ RP m n 0 u t1 ∧ den d m_R_work 68 [.ref 30, .int l1, mk0, mk0] [] (mS b τ) = (if sk B N a < N then kC0 (vcall d m_R_readStep [.ref 30] (mS b t1)) (fun s5 => den d m_R_work 68 [.ref 30, .int l1, mk0, mk0] [] s5) xp else den d m_R_work 89 [.ref 30, .int l1, mk0, mk0] [] (mS b t1)) := fun d b τ l1 hd T P => by
      obtain ⟨e, rfl⟩ : ∃ e, d = e + 2 := ⟨d - 2, by omega⟩
      obtain ⟨t1, k1, k2, k3⟩ := R_isMore hB hN e b ha T
      refine ⟨t1, k1, k2, RP_k P k1, ?_⟩
      rw [B_R_work_68, R_fine1 (e + 1) b P.1, kC1_v, if_neg (by decide), k3, kC1_v]
      by_cases g : sk B N a < N
      · rw [if_pos g, if_pos g, if_neg (by decide)]
      · rw [if_neg g, if_neg g, if_pos rfl]
    by_cases hg : sk B N a < N
    · rcases STEPS hB hN h150 h8 h6 6 0 rfl a i u ha (fun h => by omega) (fun h => h.1 hg) (by omega) hu with ⟨a1, i1, u1, K1, F1, Q1, Z1, f1, z1, z2, z3, z4, z5, z6, zX, zR⟩ | ⟨k, p, hk, hp, zX, zR⟩
      · have ul := Blk_le _ _ _ _ _ z6
        rcases ih (N - a1) (by omega) a1 i1 u1 rfl z2 (by omega) z5 with ⟨i2, u2, K2, F2, Q2, Z2, f2, y1, y2, y3, yX, yR⟩ | ⟨k, p, hk, hp, yX, yR⟩
        · refine Or.inl ⟨i2, u2, _, _, _, _, f1 + f2, y1, y2, Blk_tr z6 y3, fun d M mm H L s r c l4 l5 hd D o T P hc => ?_, fun d b τ l1 hd T P => ?_⟩
          · obtain ⟨s1, r1, c1, m1, n1, k1, k2, k3, k4, k5, k6, k7⟩ := zX d M mm H L s r c l4 l5 hd D o T P hc
            obtain ⟨s2, r2, j1, j3, j4, j5, j7⟩ := yX d M mm H L s1 r1 c1 m1 n1 hd D o k2 k3 k6
            exact ⟨s2, r2, k1.tr j1, j3, Fr_tr k4 j4 (by omega), PX_tr k5 j5 j4, k7.trans j7⟩
          · obtain ⟨t0, k1, k2, k3, k4⟩ := hR0 d b τ l1 hd T P
            rw [if_pos hg] at k4
            obtain ⟨t1, j1, j2, j3, j4, j5, j6⟩ := zR d b t0 (sk B N a) (by omega) hs ess k2 k3
            obtain ⟨t2, i1', i3', i4', i5', i6'⟩ := yR d b t1 l1 hd j2 j3
            refine ⟨t2, ((k1.up (by decide) (by decide)).tr j1).tr i1', i3', fun j hj => ?_, PZ_tr j5 i5' i4', ?_⟩
            · rw [i4' j (by omega), j4 j hj, k1.2 46 (by decide)]
            · rw [k4, j6, kC0_v, i6']
        · refine Or.inr ⟨k, p, hk, hp, fun d M mm H L s r c l4 l5 hd D o T P hc => ?_, fun d b τ l1 hd T P => ?_⟩
          · obtain ⟨s1, r1, c1, m1, n1, k1, k2, k3, k4, k5, k6, k7⟩ := zX d M mm H L s r c l4 l5 hd D o T P hc
            obtain ⟨s2, r2, j1, j2, j3⟩ := yX d M mm H L s1 r1 c1 m1 n1 hd D o k2 k3 k6
            exact ⟨s2, r2, (k1.up (by decide) (by decide)).tr j1, j2, k7.trans j3⟩
          · obtain ⟨t0, k1, k2, k3, k4⟩ := hR0 d b τ l1 hd T P
            rw [if_pos hg] at k4
            obtain ⟨t1, j1, j2, j3, j4, j5, j6⟩ := zR d b t0 (sk B N a) (by omega) hs ess k2 k3
            obtain ⟨t2, i1', i2', i6'⟩ := yR d b t1 l1 hd j2 j3
            refine ⟨t2, ((k1.up (by decide) (by decide)).tr (j1.up (by decide) (by decide))).tr i1', i2', ?_⟩
            rw [k4, j6, kC0_v, i6']
      · refine Or.inr ⟨k, p, hk, hp, zX, fun d b τ l1 hd T P => ?_⟩
        obtain ⟨t0, k1, k2, k3, k4⟩ := hR0 d b τ l1 hd T P
        rw [if_pos hg] at k4
        obtain ⟨t1, j1, j2, j6⟩ := zR d b t0 (sk B N a) (by omega) hs ess k2 k3
        obtain ⟨e, rfl⟩ : ∃ e, d = e + 1 := ⟨d - 1, by omega⟩
        refine ⟨t1, (k1.up (by decide) (by decide)).tr j1, j2, ?_⟩
        rw [k4, j6, kC0_v, B_R_work_68, R_fine0 e b (FR_b j2 hp), kC1_v, if_pos rfl]
    · refine Or.inl ⟨i, u, fun _ => 0, fun _ => 0, fun _ => 0, fun _ => 0, 0, by omega, hu, ⟨rfl, rfl⟩, fun d M mm H L s r c l4 l5 hd D o T P hc => ?_, fun d b τ l1 hd T P => ?_⟩
      · obtain ⟨e, rfl⟩ : ∃ e, d = e + 2 := ⟨d - 2, by omega⟩
        obtain ⟨s1, k1, k2, k3⟩ := T_peek hB hN e (b := aL M mm (wkL M r ++ []) H) D ha T
        have k3' : vcall (e + 2) m_Tp_peek [.ref 1] (kQ M mm H L s r []) = some (.inl (some (.int (pkX B N (sk B N a)))), kQ M mm H L s1 r []) := k3
        have g5 : gFi (kQ M mm H L s1 r []) M 9 5 = some (Int32.ofNat 0) := P.2.2.1 ▸ (kQ_gF o).1
        refine ⟨s1, r, k1.up (by decide) (by decide), XP_k P k1, Fr_rf _ _ _, fun j a b => by omega, ?_⟩
        rw [B_Wk_read_2, if_neg (by show ¬ (Int32.ofNat 150 < Int32.ofNat c); rw [ii_lt (by omega) (by omega)]; omega), k3', kC1_v, if_neg (fun h => h (by unfold pkX; rw [if_neg hg])), g5, obs, if_neg (fun h => h rfl)]
      · obtain ⟨t0, k1, k2, k3, k4⟩ := hR0 d b τ l1 hd T P
        rw [if_neg hg] at k4
        exact ⟨t0, k1.up (by decide) (by decide), k3, fun j _ => by rw [k1.2 46 (by decide)], fun j a b => by omega, k4⟩
