/-! SUMS AND PRODUCTS of a law: the loops, by program (gsum.py) -/
theorem NB_Product4 (l1 : Value) : NB 2 (fun d S => den d m_R_readProduct 4 [.ref 30, l1] [] S) := fun d b τ hd h5 => by
  obtain ⟨e, rfl⟩ : ∃ e, d = e + 1 := ⟨d - 1, by omega⟩
  refine ⟨τ, Kf.rf _ _ τ, ?_⟩
  show den (e + 1) m_R_readProduct 4 [.ref 30, l1] [] (mS b τ) = _
  rw [B_R_readProduct_4, R_fine0 e b h5, kC1_v, if_pos rfl]
theorem LOOP_Product {B : Nat → Nat} {N : Nat} (hB : ∀ i, B i < 256) (hN : N ≤ 600) (h150 : N ≤ 150) {op bp dx : Nat} (hdx : 6 ≤ dx) (hP : ∀ a, a ≤ N → OUT B N a op op 1 dx (Pu bp) (fxU op) frU) : ∀ (f a i : Nat) (l4 l1 : Value), N - a = f → a ≤ N → i + 1 ≤ a → OUT B N a op op 0 dx (Pc (bp + 1)) (fun d M S => den d m_Lw_readProduct 13 [.ref M, .ref 1, .int (Int32.ofNat op), .int (Int32.ofNat i), l4] [] S) (fun d S => den d m_R_readProduct 4 [.ref 30, l1] [] S) := by
  intro f
  induction f using Nat.strongRecOn with
  | _ f ih =>
    intro a i l4 l1 hf ha hi
    have hs := sk_le (B := B) ha
    have hsg := sk_ge (B := B) ha
    have ess := sk_sk (B := B) ha
    have i150 : ¬ ((150 : Int32) ≤ Int32.ofNat i) := by show ¬ (Int32.ofNat 150 ≤ Int32.ofNat i); rw [ii_le (by omega) (by omega)]; omega
    by_cases h0 : sk B N a < N ∧ B (sk B N a) = 42
    · have px : pkX B N (sk B N a) = 42 := by unfold pkX; rw [if_pos h0.1, h0.2]; rfl
      have pr : pkR B N (sk B N a) = 42 := by unfold pkR; rw [if_pos h0.1, h0.2]; rfl
      refine LSTEP hB hN h150 (cx := 1010) (cr := 4) (qX := fxU op) (qR := frU) (nX' := (fun d M S => den d m_Lw_readProduct 13 [.ref M, .ref 1, .int (Int32.ofNat op), .int (Int32.ofNat (i + 1)), .int (pkX B N (sk B N a))] [] S)) (nR := (fun d S => den d m_R_readProduct 4 [.ref 30, .int 4] [] S)) ha h0.1 (fun d M mm H L s r hd D o T => ?_) (fun d b τ hd T h5 => ?_) (hP _ h0.1) (by decide) (by decide) (by decide) (fun a1 g1 g2 => ih (N - a1) (by omega) a1 (i + 1) _ _ rfl g2 (by omega)) (NB_up (NB_Product4 _) (by omega)) hdx
      · obtain ⟨e, rfl⟩ : ∃ e, d = e + 2 := ⟨d - 2, by omega⟩
        obtain ⟨s1, k1, k2, k3⟩ := T_peek hB hN e (b := aL M mm (lwL M r) H) D ha T
        have k3' : vcall (e + 2) m_Tp_peek [.ref 1] (lQ M mm H L s r) = some (.inl (some (.int (pkX B N (sk B N a)))), lQ M mm H L s1 r) := k3
        refine ⟨s1, k1, k2, ?_⟩
        show den (e + 2) m_Lw_readProduct 13 [.ref M, .ref 1, .int (Int32.ofNat op), .int (Int32.ofNat i), l4] [] (lQ M mm H L s r) = _
        rw [B_Lw_readProduct_13, if_neg i150, k3', kC1_v, if_pos px, B_Lw_readProduct_49]
        refine congrArg (fun z => kC0 _ z xp) (funext fun s2 => congrArg (fun z => kC1 _ z xp) (funext fun v => funext fun s3 => ?_))
        by_cases hv : v = 0
        · rw [if_neg (fun h => h hv), if_neg (fun h => h hv)]
        · rw [if_pos hv, if_pos hv, if_neg (fun h => h px), B_Lw_readProduct_94, ii_1]
          rfl
      · obtain ⟨e, rfl⟩ : ∃ e, d = e + 1 := ⟨d - 1, by omega⟩
        obtain ⟨t0, a0, b0, c0⟩ := R_here hB hN e b ha T
        obtain ⟨t1, a1, b1, c1⟩ := R_here hB hN e b hs b0
        rw [ess] at b1 c1
        refine ⟨t1, (a0.tr a1), b1, ?_⟩
        show den (e + 1) m_R_readProduct 4 [.ref 30, l1] [] (mS b τ) = _
        rw [B_R_readProduct_4, R_fine1 e b h5, kC1_v, if_neg (by decide), c0, kC1_v, if_pos pr, B_R_readProduct_38, c1, kC1_v, if_neg (fun h => h pr), B_R_readProduct_66]
    by_cases h1 : sk B N a < N ∧ B (sk B N a) = 47
    · have px : pkX B N (sk B N a) = 47 := by unfold pkX; rw [if_pos h1.1, h1.2]; rfl
      have pr : pkR B N (sk B N a) = 47 := by unfold pkR; rw [if_pos h1.1, h1.2]; rfl
      refine LSTEP hB hN h150 (cx := 1011) (cr := 5) (qX := fxU op) (qR := frU) (nX' := (fun d M S => den d m_Lw_readProduct 13 [.ref M, .ref 1, .int (Int32.ofNat op), .int (Int32.ofNat (i + 1)), .int (pkX B N (sk B N a))] [] S)) (nR := (fun d S => den d m_R_readProduct 4 [.ref 30, .int 5] [] S)) ha h1.1 (fun d M mm H L s r hd D o T => ?_) (fun d b τ hd T h5 => ?_) (hP _ h1.1) (by decide) (by decide) (by decide) (fun a1 g1 g2 => ih (N - a1) (by omega) a1 (i + 1) _ _ rfl g2 (by omega)) (NB_up (NB_Product4 _) (by omega)) hdx
      · obtain ⟨e, rfl⟩ : ∃ e, d = e + 2 := ⟨d - 2, by omega⟩
        obtain ⟨s1, k1, k2, k3⟩ := T_peek hB hN e (b := aL M mm (lwL M r) H) D ha T
        have k3' : vcall (e + 2) m_Tp_peek [.ref 1] (lQ M mm H L s r) = some (.inl (some (.int (pkX B N (sk B N a)))), lQ M mm H L s1 r) := k3
        refine ⟨s1, k1, k2, ?_⟩
        show den (e + 2) m_Lw_readProduct 13 [.ref M, .ref 1, .int (Int32.ofNat op), .int (Int32.ofNat i), l4] [] (lQ M mm H L s r) = _
        rw [B_Lw_readProduct_13, if_neg i150, k3', kC1_v, if_neg (by rw [px]; decide), if_pos px, B_Lw_readProduct_49]
        refine congrArg (fun z => kC0 _ z xp) (funext fun s2 => congrArg (fun z => kC1 _ z xp) (funext fun v => funext fun s3 => ?_))
        by_cases hv : v = 0
        · rw [if_neg (fun h => h hv), if_neg (fun h => h hv)]
        · rw [if_pos hv, if_pos hv, if_pos (by rw [px]; decide), if_neg (fun h => h px), B_Lw_readProduct_94, ii_1]
          rfl
      · obtain ⟨e, rfl⟩ : ∃ e, d = e + 1 := ⟨d - 1, by omega⟩
        obtain ⟨t0, a0, b0, c0⟩ := R_here hB hN e b ha T
        obtain ⟨t1, a1, b1, c1⟩ := R_here hB hN e b hs b0
        rw [ess] at b1 c1
        obtain ⟨t2, a2, b2, c2⟩ := R_here hB hN e b hs b1
        rw [ess] at b2 c2
        obtain ⟨t3, a3, b3, c3⟩ := R_here hB hN e b hs b2
        rw [ess] at b3 c3
        refine ⟨t3, (((a0.tr a1).tr a2).tr a3), b3, ?_⟩
        show den (e + 1) m_R_readProduct 4 [.ref 30, l1] [] (mS b τ) = _
        rw [B_R_readProduct_4, R_fine1 e b h5, kC1_v, if_neg (by decide), c0, kC1_v, if_neg (by rw [pr]; decide), c1, kC1_v, if_pos pr, B_R_readProduct_38, c2, kC1_v, if_pos (by rw [pr]; decide), c3, kC1_v, if_neg (fun h => h pr), B_R_readProduct_66]
    by_cases h2 : sk B N a < N ∧ B (sk B N a) = 37
    · have px : pkX B N (sk B N a) = 37 := by unfold pkX; rw [if_pos h2.1, h2.2]; rfl
      have pr : pkR B N (sk B N a) = 37 := by unfold pkR; rw [if_pos h2.1, h2.2]; rfl
      refine LSTEP hB hN h150 (cx := 1012) (cr := 8) (qX := fxU op) (qR := frU) (nX' := (fun d M S => den d m_Lw_readProduct 13 [.ref M, .ref 1, .int (Int32.ofNat op), .int (Int32.ofNat (i + 1)), .int (pkX B N (sk B N a))] [] S)) (nR := (fun d S => den d m_R_readProduct 4 [.ref 30, .int 8] [] S)) ha h2.1 (fun d M mm H L s r hd D o T => ?_) (fun d b τ hd T h5 => ?_) (hP _ h2.1) (by decide) (by decide) (by decide) (fun a1 g1 g2 => ih (N - a1) (by omega) a1 (i + 1) _ _ rfl g2 (by omega)) (NB_up (NB_Product4 _) (by omega)) hdx
      · obtain ⟨e, rfl⟩ : ∃ e, d = e + 2 := ⟨d - 2, by omega⟩
        obtain ⟨s1, k1, k2, k3⟩ := T_peek hB hN e (b := aL M mm (lwL M r) H) D ha T
        have k3' : vcall (e + 2) m_Tp_peek [.ref 1] (lQ M mm H L s r) = some (.inl (some (.int (pkX B N (sk B N a)))), lQ M mm H L s1 r) := k3
        refine ⟨s1, k1, k2, ?_⟩
        show den (e + 2) m_Lw_readProduct 13 [.ref M, .ref 1, .int (Int32.ofNat op), .int (Int32.ofNat i), l4] [] (lQ M mm H L s r) = _
        rw [B_Lw_readProduct_13, if_neg i150, k3', kC1_v, if_neg (by rw [px]; decide), if_neg (by rw [px]; decide), if_pos px, B_Lw_readProduct_49]
        refine congrArg (fun z => kC0 _ z xp) (funext fun s2 => congrArg (fun z => kC1 _ z xp) (funext fun v => funext fun s3 => ?_))
        by_cases hv : v = 0
        · rw [if_neg (fun h => h hv), if_neg (fun h => h hv)]
        · rw [if_pos hv, if_pos hv, if_pos (by rw [px]; decide), if_pos (by rw [px]; decide), B_Lw_readProduct_94, ii_1]
          rfl
      · obtain ⟨e, rfl⟩ : ∃ e, d = e + 1 := ⟨d - 1, by omega⟩
        obtain ⟨t0, a0, b0, c0⟩ := R_here hB hN e b ha T
        obtain ⟨t1, a1, b1, c1⟩ := R_here hB hN e b hs b0
        rw [ess] at b1 c1
        obtain ⟨t2, a2, b2, c2⟩ := R_here hB hN e b hs b1
        rw [ess] at b2 c2
        obtain ⟨t3, a3, b3, c3⟩ := R_here hB hN e b hs b2
        rw [ess] at b3 c3
        obtain ⟨t4, a4, b4, c4⟩ := R_here hB hN e b hs b3
        rw [ess] at b4 c4
        refine ⟨t4, ((((a0.tr a1).tr a2).tr a3).tr a4), b4, ?_⟩
        show den (e + 1) m_R_readProduct 4 [.ref 30, l1] [] (mS b τ) = _
        rw [B_R_readProduct_4, R_fine1 e b h5, kC1_v, if_neg (by decide), c0, kC1_v, if_neg (by rw [pr]; decide), c1, kC1_v, if_neg (by rw [pr]; decide), c2, kC1_v, if_neg (fun h => h pr), B_R_readProduct_38, c3, kC1_v, if_pos (by rw [pr]; decide), c4, kC1_v, if_pos (by rw [pr]; decide), B_R_readProduct_66]
    refine Or.inl ⟨sk B N a, [], by omega, hs, by show 0 + a ≤ _; omega, Pc_0 _, fun d M mm H L s r cl hd D o T hl hc => ?_, fun d b τ cl hd T h5 h7 hl hc => ?_⟩
    · obtain ⟨e, rfl⟩ : ∃ e, d = e + 2 := ⟨d - 2, by omega⟩
      obtain ⟨s1, k1, k2, k3⟩ := T_peek hB hN e (b := aL M mm (lwL M r) H) D ha T
      have k3' : vcall (e + 2) m_Tp_peek [.ref 1] (lQ M mm H L s r) = some (.inl (some (.int (pkX B N (sk B N a)))), lQ M mm H L s1 r) := k3
      refine ⟨s1, r, k1.up (by decide) (by decide), k2, by rw [List.append_nil]; exact hl, ?_⟩
      show den (e + 2) m_Lw_readProduct 13 [.ref M, .ref 1, .int (Int32.ofNat op), .int (Int32.ofNat i), l4] [] (lQ M mm H L s r) = _
      rw [B_Lw_readProduct_13, if_neg i150, k3', kC1_v, if_neg (show ¬ pkX B N (sk B N a) = 42 from pkX_ne hB hN (c := 42) rfl (by decide) h0), if_neg (show ¬ pkX B N (sk B N a) = 47 from pkX_ne hB hN (c := 47) rfl (by decide) h1), if_neg (show ¬ pkX B N (sk B N a) = 37 from pkX_ne hB hN (c := 37) rfl (by decide) h2)]
    · obtain ⟨e, rfl⟩ : ∃ e, d = e + 1 := ⟨d - 1, by omega⟩
      obtain ⟨t0, a0, b0, c0⟩ := R_here hB hN e b ha T
      obtain ⟨t1, a1, b1, c1⟩ := R_here hB hN e b hs b0
      rw [ess] at b1 c1
      obtain ⟨t2, a2, b2, c2⟩ := R_here hB hN e b hs b1
      rw [ess] at b2 c2
      refine ⟨t2, ((a0.tr a1).tr a2).up (by decide) (by decide), b2, (((a0.tr a1).tr a2).1 7 (by decide)).trans h7, by rw [List.append_nil]; exact LR_k hl ((a0.tr a1).tr a2), ?_⟩
      show den (e + 1) m_R_readProduct 4 [.ref 30, l1] [] (mS b τ) = _
      rw [B_R_readProduct_4, R_fine1 e b h5, kC1_v, if_neg (by decide), c0, kC1_v, if_neg (show ¬ pkR B N (sk B N a) = 42 from pkR_ne hB hN (c := 42) rfl (by decide) (by decide) h0), c1, kC1_v, if_neg (show ¬ pkR B N (sk B N a) = 47 from pkR_ne hB hN (c := 47) rfl (by decide) (by decide) h1), c2, kC1_v, if_pos (show ¬ pkR B N (sk B N a) = 37 from pkR_ne hB hN (c := 37) rfl (by decide) (by decide) h2)]
theorem ALL_Product {B : Nat → Nat} {N : Nat} (hB : ∀ i, B i < 256) (hN : N ≤ 600) (h150 : N ≤ 150) {op bp dx : Nat} (hdx : 6 ≤ dx) (hP : ∀ a, a ≤ N → OUT B N a op op 1 dx (Pu bp) (fxU op) frU) {a : Nat} (ha : a ≤ N) : OUT B N a op op 1 (dx + 1) (Pu (bp + 1)) (fxP op) frP := by
  refine LHEAD (qX := fxU op) (qR := frU) (nX' := (fun d M S => den d m_Lw_readProduct 13 [.ref M, .ref 1, .int (Int32.ofNat op), .int (Int32.ofNat 0), mk0] [] S)) (nR := (fun d S => den d m_R_readProduct 4 [.ref 30, mk0] [] S)) (fun d M mm H L s r o => ?_) (fun d b τ => ?_) (hP a ha) (fun a1 g1 g2 => LOOP_Product hB hN h150 hdx hP _ a1 0 mk0 mk0 rfl g2 (by omega)) (NB_up (NB_Product4 _) (by omega))
  · exact (lQ_v o rfl).trans (B_Lw_readProduct_0 _ _ _ _ _)
  · exact (vR rfl).trans (B_R_readProduct_0 _ _ _)
theorem NB_Sum4 (l1 : Value) : NB 2 (fun d S => den d m_R_readSum 4 [.ref 30, l1] [] S) := fun d b τ hd h5 => by
  obtain ⟨e, rfl⟩ : ∃ e, d = e + 1 := ⟨d - 1, by omega⟩
  refine ⟨τ, Kf.rf _ _ τ, ?_⟩
  show den (e + 1) m_R_readSum 4 [.ref 30, l1] [] (mS b τ) = _
  rw [B_R_readSum_4, R_fine0 e b h5, kC1_v, if_pos rfl]
theorem LOOP_Sum {B : Nat → Nat} {N : Nat} (hB : ∀ i, B i < 256) (hN : N ≤ 600) (h150 : N ≤ 150) {op bp dx : Nat} (hdx : 6 ≤ dx) (hP : ∀ a, a ≤ N → OUT B N a op op 1 dx (Pu bp) (fxP op) frP) : ∀ (f a i : Nat) (l4 l1 : Value), N - a = f → a ≤ N → i + 1 ≤ a → OUT B N a op op 0 dx (Pc (bp + 1)) (fun d M S => den d m_Lw_readSum 13 [.ref M, .ref 1, .int (Int32.ofNat op), .int (Int32.ofNat i), l4] [] S) (fun d S => den d m_R_readSum 4 [.ref 30, l1] [] S) := by
  intro f
  induction f using Nat.strongRecOn with
  | _ f ih =>
    intro a i l4 l1 hf ha hi
    have hs := sk_le (B := B) ha
    have hsg := sk_ge (B := B) ha
    have ess := sk_sk (B := B) ha
    have i150 : ¬ ((150 : Int32) ≤ Int32.ofNat i) := by show ¬ (Int32.ofNat 150 ≤ Int32.ofNat i); rw [ii_le (by omega) (by omega)]; omega
    by_cases h0 : sk B N a < N ∧ B (sk B N a) = 43
    · have px : pkX B N (sk B N a) = 43 := by unfold pkX; rw [if_pos h0.1, h0.2]; rfl
      have pr : pkR B N (sk B N a) = 43 := by unfold pkR; rw [if_pos h0.1, h0.2]; rfl
      refine LSTEP hB hN h150 (cx := 1008) (cr := 2) (qX := fxP op) (qR := frP) (nX' := (fun d M S => den d m_Lw_readSum 13 [.ref M, .ref 1, .int (Int32.ofNat op), .int (Int32.ofNat (i + 1)), .int (pkX B N (sk B N a))] [] S)) (nR := (fun d S => den d m_R_readSum 4 [.ref 30, .int 2] [] S)) ha h0.1 (fun d M mm H L s r hd D o T => ?_) (fun d b τ hd T h5 => ?_) (hP _ h0.1) (by decide) (by decide) (by decide) (fun a1 g1 g2 => ih (N - a1) (by omega) a1 (i + 1) _ _ rfl g2 (by omega)) (NB_up (NB_Sum4 _) (by omega)) hdx
      · obtain ⟨e, rfl⟩ : ∃ e, d = e + 2 := ⟨d - 2, by omega⟩
        obtain ⟨s1, k1, k2, k3⟩ := T_peek hB hN e (b := aL M mm (lwL M r) H) D ha T
        have k3' : vcall (e + 2) m_Tp_peek [.ref 1] (lQ M mm H L s r) = some (.inl (some (.int (pkX B N (sk B N a)))), lQ M mm H L s1 r) := k3
        refine ⟨s1, k1, k2, ?_⟩
        show den (e + 2) m_Lw_readSum 13 [.ref M, .ref 1, .int (Int32.ofNat op), .int (Int32.ofNat i), l4] [] (lQ M mm H L s r) = _
        rw [B_Lw_readSum_13, if_neg i150, k3', kC1_v, if_pos px, B_Lw_readSum_42]
        refine congrArg (fun z => kC0 _ z xp) (funext fun s2 => congrArg (fun z => kC1 _ z xp) (funext fun v => funext fun s3 => ?_))
        by_cases hv : v = 0
        · rw [if_neg (fun h => h hv), if_neg (fun h => h hv)]
        · rw [if_pos hv, if_pos hv, if_neg (fun h => h px), B_Lw_readSum_74, ii_1]
          rfl
      · obtain ⟨e, rfl⟩ : ∃ e, d = e + 1 := ⟨d - 1, by omega⟩
        obtain ⟨t0, a0, b0, c0⟩ := R_here hB hN e b ha T
        obtain ⟨t1, a1, b1, c1⟩ := R_here hB hN e b hs b0
        rw [ess] at b1 c1
        refine ⟨t1, (a0.tr a1), b1, ?_⟩
        show den (e + 1) m_R_readSum 4 [.ref 30, l1] [] (mS b τ) = _
        rw [B_R_readSum_4, R_fine1 e b h5, kC1_v, if_neg (by decide), c0, kC1_v, if_pos pr, B_R_readSum_29, c1, kC1_v, if_neg (fun h => h pr), B_R_readSum_43]
    by_cases h1 : sk B N a < N ∧ B (sk B N a) = 45
    · have px : pkX B N (sk B N a) = 45 := by unfold pkX; rw [if_pos h1.1, h1.2]; rfl
      have pr : pkR B N (sk B N a) = 45 := by unfold pkR; rw [if_pos h1.1, h1.2]; rfl
      refine LSTEP hB hN h150 (cx := 1009) (cr := 3) (qX := fxP op) (qR := frP) (nX' := (fun d M S => den d m_Lw_readSum 13 [.ref M, .ref 1, .int (Int32.ofNat op), .int (Int32.ofNat (i + 1)), .int (pkX B N (sk B N a))] [] S)) (nR := (fun d S => den d m_R_readSum 4 [.ref 30, .int 3] [] S)) ha h1.1 (fun d M mm H L s r hd D o T => ?_) (fun d b τ hd T h5 => ?_) (hP _ h1.1) (by decide) (by decide) (by decide) (fun a1 g1 g2 => ih (N - a1) (by omega) a1 (i + 1) _ _ rfl g2 (by omega)) (NB_up (NB_Sum4 _) (by omega)) hdx
      · obtain ⟨e, rfl⟩ : ∃ e, d = e + 2 := ⟨d - 2, by omega⟩
        obtain ⟨s1, k1, k2, k3⟩ := T_peek hB hN e (b := aL M mm (lwL M r) H) D ha T
        have k3' : vcall (e + 2) m_Tp_peek [.ref 1] (lQ M mm H L s r) = some (.inl (some (.int (pkX B N (sk B N a)))), lQ M mm H L s1 r) := k3
        refine ⟨s1, k1, k2, ?_⟩
        show den (e + 2) m_Lw_readSum 13 [.ref M, .ref 1, .int (Int32.ofNat op), .int (Int32.ofNat i), l4] [] (lQ M mm H L s r) = _
        rw [B_Lw_readSum_13, if_neg i150, k3', kC1_v, if_neg (by rw [px]; decide), if_pos px, B_Lw_readSum_42]
        refine congrArg (fun z => kC0 _ z xp) (funext fun s2 => congrArg (fun z => kC1 _ z xp) (funext fun v => funext fun s3 => ?_))
        by_cases hv : v = 0
        · rw [if_neg (fun h => h hv), if_neg (fun h => h hv)]
        · rw [if_pos hv, if_pos hv, if_pos (by rw [px]; decide), B_Lw_readSum_74, ii_1]
          rfl
      · obtain ⟨e, rfl⟩ : ∃ e, d = e + 1 := ⟨d - 1, by omega⟩
        obtain ⟨t0, a0, b0, c0⟩ := R_here hB hN e b ha T
        obtain ⟨t1, a1, b1, c1⟩ := R_here hB hN e b hs b0
        rw [ess] at b1 c1
        obtain ⟨t2, a2, b2, c2⟩ := R_here hB hN e b hs b1
        rw [ess] at b2 c2
        refine ⟨t2, ((a0.tr a1).tr a2), b2, ?_⟩
        show den (e + 1) m_R_readSum 4 [.ref 30, l1] [] (mS b τ) = _
        rw [B_R_readSum_4, R_fine1 e b h5, kC1_v, if_neg (by decide), c0, kC1_v, if_neg (by rw [pr]; decide), c1, kC1_v, if_neg (fun h => h pr), B_R_readSum_29, c2, kC1_v, if_pos (by rw [pr]; decide), B_R_readSum_43]
    refine Or.inl ⟨sk B N a, [], by omega, hs, by show 0 + a ≤ _; omega, Pc_0 _, fun d M mm H L s r cl hd D o T hl hc => ?_, fun d b τ cl hd T h5 h7 hl hc => ?_⟩
    · obtain ⟨e, rfl⟩ : ∃ e, d = e + 2 := ⟨d - 2, by omega⟩
      obtain ⟨s1, k1, k2, k3⟩ := T_peek hB hN e (b := aL M mm (lwL M r) H) D ha T
      have k3' : vcall (e + 2) m_Tp_peek [.ref 1] (lQ M mm H L s r) = some (.inl (some (.int (pkX B N (sk B N a)))), lQ M mm H L s1 r) := k3
      refine ⟨s1, r, k1.up (by decide) (by decide), k2, by rw [List.append_nil]; exact hl, ?_⟩
      show den (e + 2) m_Lw_readSum 13 [.ref M, .ref 1, .int (Int32.ofNat op), .int (Int32.ofNat i), l4] [] (lQ M mm H L s r) = _
      rw [B_Lw_readSum_13, if_neg i150, k3', kC1_v, if_neg (show ¬ pkX B N (sk B N a) = 43 from pkX_ne hB hN (c := 43) rfl (by decide) h0), if_neg (show ¬ pkX B N (sk B N a) = 45 from pkX_ne hB hN (c := 45) rfl (by decide) h1)]
    · obtain ⟨e, rfl⟩ : ∃ e, d = e + 1 := ⟨d - 1, by omega⟩
      obtain ⟨t0, a0, b0, c0⟩ := R_here hB hN e b ha T
      obtain ⟨t1, a1, b1, c1⟩ := R_here hB hN e b hs b0
      rw [ess] at b1 c1
      refine ⟨t1, (a0.tr a1).up (by decide) (by decide), b1, ((a0.tr a1).1 7 (by decide)).trans h7, by rw [List.append_nil]; exact LR_k hl (a0.tr a1), ?_⟩
      show den (e + 1) m_R_readSum 4 [.ref 30, l1] [] (mS b τ) = _
      rw [B_R_readSum_4, R_fine1 e b h5, kC1_v, if_neg (by decide), c0, kC1_v, if_neg (show ¬ pkR B N (sk B N a) = 43 from pkR_ne hB hN (c := 43) rfl (by decide) (by decide) h0), c1, kC1_v, if_pos (show ¬ pkR B N (sk B N a) = 45 from pkR_ne hB hN (c := 45) rfl (by decide) (by decide) h1)]
theorem ALL_Sum {B : Nat → Nat} {N : Nat} (hB : ∀ i, B i < 256) (hN : N ≤ 600) (h150 : N ≤ 150) {op bp dx : Nat} (hdx : 6 ≤ dx) (hP : ∀ a, a ≤ N → OUT B N a op op 1 dx (Pu bp) (fxP op) frP) {a : Nat} (ha : a ≤ N) : OUT B N a op op 1 (dx + 1) (Pu (bp + 1)) (fxS op) frS := by
  refine LHEAD (qX := fxP op) (qR := frP) (nX' := (fun d M S => den d m_Lw_readSum 13 [.ref M, .ref 1, .int (Int32.ofNat op), .int (Int32.ofNat 0), mk0] [] S)) (nR := (fun d S => den d m_R_readSum 4 [.ref 30, mk0] [] S)) (fun d M mm H L s r o => ?_) (fun d b τ => ?_) (hP a ha) (fun a1 g1 g2 => LOOP_Sum hB hN h150 hdx hP _ a1 0 mk0 mk0 rfl g2 (by omega)) (NB_up (NB_Sum4 _) (by omega))
  · exact (lQ_v o rfl).trans (B_Lw_readSum_0 _ _ _ _ _)
  · exact (vR rfl).trans (B_R_readSum_0 _ _ _)
theorem SUMS {B : Nat → Nat} {N : Nat} (hB : ∀ i, B i < 256) (hN : N ≤ 600) (h150 : N ≤ 150) : ∀ (k op : Nat), op + k = 6 → ∀ a, a ≤ N → OUT B N a op op 1 (4 * k + 8) (Pu (3 * k + 3)) (fxS op) frS := by
  intro k
  induction k with
  | zero =>
    intro op hk a ha
    exact ALL_Sum hB hN h150 (by omega) (fun a ha => ALL_Product hB hN h150 (by omega) (fun a ha => UNIT hB hN h150 hk (fun k' e => by omega) ha) ha) ha
  | succ k ih =>
    intro op hk a ha
    exact ALL_Sum hB hN h150 (by omega) (fun a ha => ALL_Product hB hN h150 (by omega) (fun a ha => UNIT hB hN h150 hk (fun k' e => by
      have : k' = k := by omega
      subst this
      exact ih (op + 1) (by omega)) ha) ha) ha
