/-! STEPS of work, by both, by program (gwk.py) -/
def XP (m n g i : Nat) (s r : rT) : Prop := s.1 44 = Int32.ofNat m ∧ s.1 45 = Int32.ofNat n ∧ r.1 5 = Int32.ofNat g ∧ r.1 6 = Int32.ofNat i
def RP (m n g u : Nat) (τ : rT) : Prop := τ.1 5 = -1 ∧ τ.1 7 = Int32.ofNat g ∧ τ.1 36 = Int32.ofNat (3 * u) ∧ τ.1 22 = Int32.ofNat m ∧ τ.1 23 = Int32.ofNat n
/-- what lies before stays -/
def Fr (i g : Nat) (r r' : rT) : Prop := (∀ j, j < i → r'.2 1 j = r.2 1 j ∧ r'.2 2 j = r.2 2 j ∧ r'.2 3 j = r.2 3 j) ∧ (∀ j, j < g → r'.2 5 j = r.2 5 j) ∧ r'.1 7 = r.1 7 ∧ r'.1 8 = r.1 8
def PX (r : rT) (K F Q : Nat → Nat) (lo hi : Nat) : Prop := ∀ j, lo ≤ j → j < hi → r.2 1 j = Int32.ofNat (K j) ∧ r.2 2 j = Int32.ofNat (F j) ∧ r.2 3 j = Int32.ofNat (Q j)
def PZ (τ : rT) (Z : Nat → Nat) (lo hi : Nat) : Prop := ∀ j, lo ≤ j → j < hi → τ.2 46 j = Int32.ofNat (Z j)
def gSX (B : Nat → Nat) (N m n a g i a' i' : Nat) (K F Q : Nat → Nat) : Prop := ∀ d M mm H L s r c l4 l5, 8 ≤ d → Dj L → (∀ j, M ≤ j → Ot L j) → TX B N a s → XP m n g i s r → c ≤ a → ∃ s' r' c' l4' l5', Kf [25, 26] [] s s' ∧ TX B N a' s' ∧ XP m n g i' s' r' ∧ Fr i g r r' ∧ PX r' K F Q i i' ∧ c' ≤ a' ∧ den d m_Wk_read 2 [.ref M, .ref 1, .ref (aU L), .int (Int32.ofNat c), l4, l5] [] (kQ M mm H L s r []) = den d m_Wk_read 2 [.ref M, .ref 1, .ref (aU L), .int (Int32.ofNat c'), l4', l5'] [] (kQ M mm H L s' r' [])
def gSR (B : Nat → Nat) (N m n dr a g u a' u' : Nat) (Z : Nat → Nat) : Prop := ∀ d b τ a0, dr ≤ d → a0 ≤ N → sk B N a0 = sk B N a → TR B N a0 τ → RP m n g u τ → ∃ τ', Kf [4, 7, 36] [46] τ τ' ∧ TR B N a' τ' ∧ RP m n g u' τ' ∧ (∀ j, j < 3 * u → τ'.2 46 j = τ.2 46 j) ∧ PZ τ' Z (3 * u) (3 * u') ∧ vcall d m_R_readStep [.ref 30] (mS b τ) = some (.inl none, mS b τ')
def bSX (B : Nat → Nat) (N m n a g i k p : Nat) : Prop := ∀ d M mm H L s r c l4 l5, 8 ≤ d → Dj L → (∀ j, M ≤ j → Ot L j) → TX B N a s → XP m n g i s r → c ≤ a → ∃ s' r', Kf [22, 23, 25, 26] [] s s' ∧ FX s' k p ∧ den d m_Wk_read 2 [.ref M, .ref 1, .ref (aU L), .int (Int32.ofNat c), l4, l5] [] (kQ M mm H L s r []) = some (.inl (some (.int 0)), kQ M mm H L s' r' [])
def bSR (B : Nat → Nat) (N m n dr a g u k p : Nat) : Prop := ∀ d b τ a0, dr ≤ d → a0 ≤ N → sk B N a0 = sk B N a → TR B N a0 τ → RP m n g u τ → ∃ τ', Kf [4, 5, 6, 7, 36] [46] τ τ' ∧ FR τ' k p ∧ vcall d m_R_readStep [.ref 30] (mS b τ) = some (.inl none, mS b τ')
/-- a step: good, or the same fault -/
def STO (B : Nat → Nat) (N m n dr a g i u : Nat) : Prop := (∃ a' i' u' K F Q Z f, a < a' ∧ a' ≤ N ∧ i < i' ∧ 4 * i' + 3 * g ≤ a' ∧ u' ≤ i' ∧ Blk m n K F Q Z f i i' u u' ∧ gSX B N m n a g i a' i' K F Q ∧ gSR B N m n dr a g u a' u' Z) ∨ (∃ k p, k ≤ 3 ∧ p ≤ 600 ∧ bSX B N m n a g i k p ∧ bSR B N m n dr a g u k p)
theorem RP_k {m n g u : Nat} {τ τ' : rT} {F A : List Nat} (h : RP m n g u τ) (k : Kf F A τ τ') (e1 : 5 ∉ F := by decide) (e2 : 7 ∉ F := by decide) (e3 : 36 ∉ F := by decide) (e4 : 22 ∉ F := by decide) (e5 : 23 ∉ F := by decide) : RP m n g u τ' := by
  unfold RP; rw [k.1 5 e1, k.1 7 e2, k.1 36 e3, k.1 22 e4, k.1 23 e5]; exact h
theorem XP_k {m n g i : Nat} {s s' r : rT} {F A : List Nat} (h : XP m n g i s r) (k : Kf F A s s') (e1 : 44 ∉ F := by decide) (e2 : 45 ∉ F := by decide) : XP m n g i s' r := by
  unfold XP; rw [k.1 44 e1, k.1 45 e2]; exact h
theorem wq_x {B : Nat → Nat} {st n len len' : Nat} {w w' : Nat → Nat} (h : wq B st n w len) (h' : wq B st n w' len') : len = len' ∧ ∀ i, i < len → w i = w' i := by
  obtain ⟨h1, h2⟩ := h
  obtain ⟨g1, g2⟩ := h'
  exact ⟨by omega, fun i hi => (h2 i hi).symm.trans (g2 i (by omega))⟩
theorem X_wk52 {B : Nat → Nat} {N : Nat} (hB : ∀ i, B i < 256) (hN : N ≤ 600) (h150 : N ≤ 150) (e : Nat) {M mm : Nat} {H : pH} {L : xA} {s r : rT} {m n a g i c : Nat} (D : Dj L) (o : ∀ j, M ≤ j → Ot L j) (ha : a ≤ N) (T : TX B N a s) (P : XP m n g i s r) (hg : g ≤ 6) (hc : c ≤ a) (pc1 : ¬ (sk B N a < N ∧ B (sk B N a) = 93 ∧ 0 < g)) (pc2 : ¬ (¬ sk B N a < N ∧ g = 0)) (l4 l5 : Value) : ∃ s1, Kf [25] [] s s1 ∧ TX B N (sk B N a) s1 ∧ den (e + 2) m_Wk_read 2 [.ref M, .ref 1, .ref (aU L), .int (Int32.ofNat c), l4, l5] [] (kQ M mm H L s r []) = den (e + 2) m_Wk_read 52 [.ref M, .ref 1, .ref (aU L), .int (Int32.ofNat c), .int (pkX B N (sk B N a)), l5] [] (kQ M mm H L s1 r []) := by
  obtain ⟨s1, k1, k2, k3⟩ := T_peek hB hN e (b := aL M mm (wkL M r ++ []) H) D ha T
  have k3' : vcall (e + 2) m_Tp_peek [.ref 1] (kQ M mm H L s r []) = some (.inl (some (.int (pkX B N (sk B N a)))), kQ M mm H L s1 r []) := k3
  have hb := hB (sk B N a)
  have g5 : gFi (kQ M mm H L s1 r []) M 9 5 = some (Int32.ofNat g) := P.2.2.1 ▸ (kQ_gF o).1
  refine ⟨s1, k1, k2, ?_⟩
  rw [B_Wk_read_2, if_neg (by show ¬ (Int32.ofNat 150 < Int32.ofNat c); rw [ii_lt (by omega) (by omega)]; omega), k3', kC1_v]
  by_cases h : sk B N a < N
  · have px : pkX B N (sk B N a) = Int32.ofNat (B (sk B N a)) := if_pos h
    rw [if_pos (by rw [px, ii_n1 (by omega)]; exact id), B_Wk_read_30]
    by_cases h93 : B (sk B N a) = 93
    · have g0 : g = 0 := by
        by_cases g0 : g = 0
        · exact g0
        · exact absurd ⟨h, h93, by omega⟩ pc1
      subst g0
      rw [if_neg (fun h => h (by rw [px, h93]; rfl)), g5, obs, if_pos (by decide)]
    · rw [if_pos (by rw [px]; show ¬ Int32.ofNat _ = Int32.ofNat 93; rw [ii_eq (by omega) (by omega)]; exact h93)]
  · have px : pkX B N (sk B N a) = -1 := if_neg h
    have g0 : g ≠ 0 := fun g0 => pc2 ⟨h, g0⟩
    rw [if_neg (fun h => h px), g5, obs, if_pos (by show ¬ Int32.ofNat g = Int32.ofNat 0; rw [ii_eq (by omega) (by omega)]; exact g0), B_Wk_read_30, if_pos (by rw [px]; decide)]
theorem X_wkW {B : Nat → Nat} {N : Nat} (hB : ∀ i, B i < 256) (hN : N ≤ 600) (h150 : N ≤ 150) (e : Nat) {M mm : Nat} {H : pH} {L : xA} {s r : rT} {m n a g i c : Nat} (D : Dj L) (o : ∀ j, M ≤ j → Ot L j) (ha : a ≤ N) (T : TX B N a s) (P : XP m n g i s r) (hg : g ≤ 6) (hc : c ≤ a) (pc1 : ¬ (sk B N a < N ∧ B (sk B N a) = 93 ∧ 0 < g)) (pc2 : ¬ (¬ sk B N a < N ∧ g = 0)) (hw : sk B N a < we B N (sk B N a)) (l4 l5 : Value) : ∃ s2, Kf [25, 26] [] s s2 ∧ TX B N (we B N (sk B N a)) s2 ∧ s2.1 26 = Int32.ofNat (sk B N a) ∧ (∀ S', vcall (e + 8) m_Wk_readStep [.ref M, .ref 1, .ref (aU L)] (kQ M mm H L s2 r []) = some (.inl (some (.int 0)), S') → den (e + 8) m_Wk_read 2 [.ref M, .ref 1, .ref (aU L), .int (Int32.ofNat c), l4, l5] [] (kQ M mm H L s r []) = some (.inl (some (.int 0)), S')) ∧ (∀ S', vcall (e + 8) m_Wk_readStep [.ref M, .ref 1, .ref (aU L)] (kQ M mm H L s2 r []) = some (.inl (some (.int 1)), S') → den (e + 8) m_Wk_read 2 [.ref M, .ref 1, .ref (aU L), .int (Int32.ofNat c), l4, l5] [] (kQ M mm H L s r []) = den (e + 8) m_Wk_read 2 [.ref M, .ref 1, .ref (aU L), .int (Int32.ofNat (c + 1)), .int (pkX B N (sk B N a)), .int 1] [] S') := by
  have hs := sk_le (B := B) ha
  obtain ⟨s1, k1, k2, k3⟩ := X_wk52 hB hN h150 (e + 6) (M := M) (mm := mm) (H := H) (r := r) (i := i) D o ha T P hg hc pc1 pc2 l4 l5
  obtain ⟨s2, j1, j2, j3, j4⟩ := T_word_y hB hN (e + 5) (b := aL M mm (wkL M r ++ []) H) D hs k2 (by rw [sk_sk ha]; exact hw)
  rw [sk_sk ha] at j2 j3
  have j4' : vcall (e + 8) m_Tp_readWord [.ref 1] (kQ M mm H L s1 r []) = some (.inl (some (.int 1)), kQ M mm H L s2 r []) := j4
  have k3' : den (e + 8) m_Wk_read 2 [.ref M, .ref 1, .ref (aU L), .int (Int32.ofNat c), l4, l5] [] (kQ M mm H L s r []) = den (e + 8) m_Wk_read 52 [.ref M, .ref 1, .ref (aU L), .int (Int32.ofNat c), .int (pkX B N (sk B N a)), l5] [] (kQ M mm H L s1 r []) := k3
  refine ⟨s2, (k1.up (by decide) (by decide)).tr j1, j2, j3, fun S' hS => k3'.trans ?_, fun S' hS => k3'.trans ?_⟩
  · rw [B_Wk_read_52, j4', kC1_v, if_neg (by decide), hS, kC1_v, if_pos rfl, B_Wk_read_72, if_neg (fun h => h rfl)]
  · rw [B_Wk_read_52, j4', kC1_v, if_neg (by decide), hS, kC1_v, if_neg (by decide), if_pos (by decide), ii_1]
/-- a token is told, then its sign -/
theorem TL {B : Nat → Nat} {N : Nat} (hB : ∀ i, B i < 256) (hN : N ≤ 600) {m n a g i u : Nat} (ha : a ≤ N) (hi : i < 64) (hu : 3 * u + 2 < 150) (x y z : Int32) : (∃ a', a < a' ∧ a' ≤ N ∧ (∀ d M mm H L s r, 4 ≤ d → Dj L → (∀ j, M ≤ j → Ot L j) → TX B N a s → XP m n g i s r → ∃ s', Kf [25] [] s s' ∧ TX B N a' s' ∧ kC1 (vcall d m_Wk_add [.ref M, .int x, .int y, .int z] (kQ M mm H L s r [])) (fun v2 s1 => (if (v2 : Int32) = 0 then some (.inl (some (.int 0)), s1) else kC1 (vcall d m_Tp_sign [.ref 1, .int 59] s1) (fun v4 s3 => (if (v4 : Int32) = 0 then some (.inl (some (.int 0)), s3) else some (.inl (some (.int 1)), s3))) xp)) xp = some (.inl (some (.int 1)), kQ M mm H L s' (wkA r i x y z) [])) ∧ (∀ d b τ l1 l2 l3, 3 ≤ d → TR B N a τ → RP m n g u τ → ∃ τ', Kf [4, 36] [46] τ τ' ∧ TR B N a' τ' ∧ RP m n g (u + 1) τ' ∧ τ'.2 46 = (rkA τ u x y z).2 46 ∧ kC0 (vcall d m_R_tellsStep [.ref 30, .int x, .int y, .int z] (mS b τ)) (fun s30 => den d m_R_readStep 286 [.ref 30, .int l1, l2, l3] [] s30) xp = some (.inl none, mS b τ'))) ∨ (∃ k p, k ≤ 3 ∧ p ≤ 600 ∧ (∀ d M mm H L s r, 4 ≤ d → Dj L → (∀ j, M ≤ j → Ot L j) → TX B N a s → XP m n g i s r → ∃ s', Kf [22, 23, 25] [] s s' ∧ FX s' k p ∧ kC1 (vcall d m_Wk_add [.ref M, .int x, .int y, .int z] (kQ M mm H L s r [])) (fun v2 s1 => (if (v2 : Int32) = 0 then some (.inl (some (.int 0)), s1) else kC1 (vcall d m_Tp_sign [.ref 1, .int 59] s1) (fun v4 s3 => (if (v4 : Int32) = 0 then some (.inl (some (.int 0)), s3) else some (.inl (some (.int 1)), s3))) xp)) xp = some (.inl (some (.int 0)), kQ M mm H L s' (wkA r i x y z) [])) ∧ (∀ d b τ l1 l2 l3, 3 ≤ d → TR B N a τ → RP m n g u τ → ∃ τ', Kf [4, 5, 6, 36] [46] τ τ' ∧ FR τ' k p ∧ kC0 (vcall d m_R_tellsStep [.ref 30, .int x, .int y, .int z] (mS b τ)) (fun s30 => den d m_R_readStep 286 [.ref 30, .int l1, l2, l3] [] s30) xp = some (.inl none, mS b τ'))) := by
  have hsg := sk_ge (B := B) ha
  rcases SGN hB hN ha (c := 59) (by decide) (by decide) with h | ⟨k, p, hk, hp, hX, hR⟩
  · refine Or.inl ⟨sk B N a + 1, by omega, h.1, fun d M mm H L s r hd D o T P => ?_, fun d b τ l1 l2 l3 hd T P => ?_⟩
    · obtain ⟨e, rfl⟩ : ∃ e, d = e + 3 := ⟨d - 3, by omega⟩
      obtain ⟨s1, k1, k2, k3⟩ := T_sign_y hB hN e (b := aL M mm (wkL M (wkA r i x y z) ++ []) H) D ha T (by decide) h
      have k3' : vcall (e + 3) m_Tp_sign [.ref 1, .int 59] (kQ M mm H L s (wkA r i x y z) []) = some (.inl (some (.int 1)), kQ M mm H L s1 (wkA r i x y z) []) := k3
      refine ⟨s1, k1, k2, ?_⟩
      rw [X_wadd (e + 2) o P.2.2.2 hi, kC1_v, if_neg (by decide), k3', kC1_v, if_neg (by decide)]
    · obtain ⟨e, rfl⟩ : ∃ e, d = e + 2 := ⟨d - 2, by omega⟩
      have kk := rkA_k τ u x y z
      obtain ⟨t1, k1, k2, k3⟩ := R_sign_y hB hN e b ha (TR_k T kk) ((kk.1 5 (by decide)).trans P.1) (by decide) (by decide) h
      have k3' : vcall (e + 2) m_R_sign [.ref 30, .int 59] (mS b (rkA τ u x y z)) = some (.inl none, mS b t1) := k3
      refine ⟨t1, (kk.up (by decide) (by decide)).tr (k1.up (by decide) (by decide)), k2, ?_, k1.2 46 (by decide), ?_⟩
      · refine RP_k (τ := rkA τ u x y z) ⟨P.1, P.2.1, rfl, P.2.2.2.1, P.2.2.2.2⟩ k1
      · rw [R_tells e b P.1 P.2.2.1 hu, kC0_v, B_R_readStep_286, k3', kC0_v]
  · refine Or.inr ⟨k, p, hk, hp, fun d M mm H L s r hd D o T P => ?_, fun d b τ l1 l2 l3 hd T P => ?_⟩
    · obtain ⟨e, rfl⟩ : ∃ e, d = e + 3 := ⟨d - 3, by omega⟩
      obtain ⟨s1, k1, k2, k3⟩ := hX e (aL M mm (wkL M (wkA r i x y z) ++ []) H) L s D T
      have k3' : vcall (e + 3) m_Tp_sign [.ref 1, .int 59] (kQ M mm H L s (wkA r i x y z) []) = some (.inl (some (.int 0)), kQ M mm H L s1 (wkA r i x y z) []) := k3
      refine ⟨s1, k1, k2, ?_⟩
      rw [X_wadd (e + 2) o P.2.2.2 hi, kC1_v, if_neg (by decide), k3', kC1_v, if_pos rfl]
    · obtain ⟨e, rfl⟩ : ∃ e, d = e + 2 := ⟨d - 2, by omega⟩
      have kk := rkA_k τ u x y z
      obtain ⟨t1, k1, k2, k3⟩ := hR e b (rkA τ u x y z) (TR_k T kk) ((kk.1 5 (by decide)).trans P.1)
      have k3' : vcall (e + 2) m_R_sign [.ref 30, .int 59] (mS b (rkA τ u x y z)) = some (.inl none, mS b t1) := k3
      refine ⟨t1, (kk.up (by decide) (by decide)).tr (k1.up (by decide) (by decide)), k2, ?_⟩
      rw [R_tells e b P.1 P.2.2.1 hu, kC0_v, B_R_readStep_286, k3', kC0_v]
/-- one token, as the step's outcome tells it -/
theorem wkA_o {r : rT} {g i : Nat} {m n : Nat} {s : rT} (P : XP m n g i s r) (k x y : Nat) : XP m n g (i + 1) s (wkA r i (Int32.ofNat k) (Int32.ofNat x) (Int32.ofNat y)) ∧ Fr i g r (wkA r i (Int32.ofNat k) (Int32.ofNat x) (Int32.ofNat y)) ∧ PX (wkA r i (Int32.ofNat k) (Int32.ofNat x) (Int32.ofNat y)) (fun _ => k) (fun _ => x) (fun _ => y) i (i + 1) := by
  refine ⟨⟨P.1, P.2.1, P.2.2.1, rfl⟩, ⟨fun j hj => ?_, fun j hj => rfl, rfl, rfl⟩, fun j h1 h2 => ?_⟩
  · exact ⟨upd_n _ _ (by omega), upd_n _ _ (by omega), upd_n _ _ (by omega)⟩
  · have : j = i := by omega
    subst this
    exact ⟨upd_s _ _ _, upd_s _ _ _, upd_s _ _ _⟩
theorem rkA_o {τ τ' : rT} {u : Nat} (k x y : Nat) (h : τ'.2 46 = (rkA τ u (Int32.ofNat k) (Int32.ofNat x) (Int32.ofNat y)).2 46) : (∀ j, j < 3 * u → τ'.2 46 j = τ.2 46 j) ∧ PZ τ' (fun j => if j = 3 * u then k else if j = 3 * u + 1 then x else y) (3 * u) (3 * (u + 1)) := by
  have e : τ'.2 46 = upd (upd (upd (τ.2 46) (3 * u) (Int32.ofNat k)) (3 * u + 1) (Int32.ofNat x)) (3 * u + 2) (Int32.ofNat y) := h
  refine ⟨fun j hj => ?_, fun j h1 h2 => ?_⟩
  · rw [e, upd_n _ _ (by omega), upd_n _ _ (by omega), upd_n _ _ (by omega)]
  · rw [e]
    show _ = Int32.ofNat (if j = 3 * u then k else if j = 3 * u + 1 then x else y)
    have : j = 3 * u ∨ j = 3 * u + 1 ∨ j = 3 * u + 2 := by omega
    rcases this with rfl | rfl | rfl
    · rw [upd_n _ _ (by omega), upd_n _ _ (by omega), upd_s, if_pos rfl]
    · rw [upd_n _ _ (by omega), upd_s, if_neg (by omega), if_pos rfl]
    · rw [upd_s, if_neg (by omega), if_neg (by omega)]
theorem Blk_1 {m n k x y i u : Nat} (h : wkS m n k x y) : Blk m n (fun _ => k) (fun _ => x) (fun _ => y) (fun j => if j = 3 * u then k else if j = 3 * u + 1 then x else y) 1 i (i + 1) u (u + 1) := by
  refine Or.inr (Or.inl ⟨by omega, h, ?_, ?_, ?_, rfl, rfl⟩)
  · show (if _ then _ else _) = _; rw [if_pos rfl]
  · show (if _ then _ else _) = _; rw [if_neg (by omega), if_pos rfl]
  · show (if _ then _ else _) = _; rw [if_neg (by omega), if_neg (by omega)]
theorem ST_sit {B : Nat → Nat} {N : Nat} (hB : ∀ i, B i < 256) (hN : N ≤ 600) (h150 : N ≤ 150) {m n a g i u : Nat} (h8 : m ≤ 8) (h6 : n ≤ 6) (ha : a ≤ N) (hg : g ≤ 6) (pc1 : ¬ (sk B N a < N ∧ B (sk B N a) = 93 ∧ 0 < g)) (pc2 : ¬ (¬ sk B N a < N ∧ g = 0)) (hio : 4 * i + 3 * g ≤ a) (hu : u ≤ i) (hq : wq B (sk B N a) (we B N (sk B N a) - sk B N a) w_sit 3) : STO B N m n 8 a g i u := by
  have hs := sk_le (B := B) ha
  have hsg := sk_ge (B := B) ha
  have ess := sk_sk (B := B) ha
  have he : we B N (sk B N a) ≤ N := rn_le hs
  have hge : sk B N a ≤ we B N (sk B N a) := rn_ge hs
  have hlen := hq.1
  have hw : sk B N a < we B N (sk B N a) := by omega
  have b0_ : we B N (sk B N a) ≤ N := he
  rcases NUM hB hN b0_ (lo := 0) (hi := Int32.ofNat n - 1) (m_1 (show n ≤ 8 by omega)) with n0 | ⟨κ, p, hκ, hp, hX, hR⟩
  · have b1_ : de B N (sk B N (we B N (sk B N a))) ≤ N := rn_le (sk_le b0_)
    have g0_ : sk B N (we B N (sk B N a)) < de B N (sk B N (we B N (sk B N a))) := n0.1
    have h0_ := sk_ge (B := B) b0_
    have v0_ := nv_lt hB hN b0_ (show n ≤ 8 by omega) n0.2
    rcases NUM hB hN b1_ (lo := 0) (hi := Int32.ofNat m - 1) (m_1 h8) with n1 | ⟨κ, p, hκ, hp, hX, hR⟩
    · have b2_ : de B N (sk B N (de B N (sk B N (we B N (sk B N a))))) ≤ N := rn_le (sk_le b1_)
      have g1_ : sk B N (de B N (sk B N (we B N (sk B N a)))) < de B N (sk B N (de B N (sk B N (we B N (sk B N a))))) := n1.1
      have h1_ := sk_ge (B := B) b1_
      have v1_ := nv_lt hB hN b1_ (show m ≤ 8 by omega) n1.2
      rcases TL hB hN (m := m) (n := n) (a := de B N (sk B N (de B N (sk B N (we B N (sk B N a)))))) (g := g) (i := i) (u := u) b2_ (by omega) (by omega) (Int32.ofNat 0) (Int32.ofNat (nv B N (we B N (sk B N a)))) (Int32.ofNat (nv B N (de B N (sk B N (we B N (sk B N a)))))) with ⟨a', z1, z2, zX, zR⟩ | ⟨κ, p, hκ, hp, zX, zR⟩
      · refine Or.inl ⟨a', i + 1, u + 1, fun _ => 0, fun _ => (nv B N (we B N (sk B N a))), fun _ => (nv B N (de B N (sk B N (we B N (sk B N a))))), fun j => if j = 3 * u then 0 else if j = 3 * u + 1 then (nv B N (we B N (sk B N a))) else (nv B N (de B N (sk B N (we B N (sk B N a))))), 1, by omega, z2, by omega, by omega, by omega, Blk_1 ?_, fun d M mm H L s r c l4 l5 hd D o T P hc => ?_, fun d b τ a0 hd h0 h0' T P => ?_⟩
        · exact ⟨by decide, fun h => absurd h (by decide), by rw [if_neg (by decide), if_neg (by decide)]; exact ⟨v0_, fun _ => v1_⟩⟩
        · skip
          obtain ⟨e, rfl⟩ : ∃ e, d = e + 8 := ⟨d - 8, by omega⟩
          obtain ⟨s1, k1, k2, k3, k4, k5⟩ := X_wkW hB hN h150 e (M := M) (mm := mm) (H := H) (r := r) (i := i) D o ha T P hg hc pc1 pc2 hw l4 l5
          have P1 := XP_k P k1
          obtain ⟨x15, y15, z15, e15⟩ := T_is hB hN (e + 5) (b := aL M mm (wkL M r ++ []) H) D k2 k3 he (by omega) HW_15
          have e15' : vcall (e + 7) m_Tp_wordIs [.ref 1, .ref (pSB + 15)] (kQ M mm H L s1 r []) = some (.inl (some (.int x15)), kQ M mm H L s1 r []) := e15
          rw [y15 hq] at e15'
          have gu4 : gFi (kQ M mm H L s1 r []) (aU L) 7 4 = some (Int32.ofNat m) := P1.1 ▸ (xu_gF D).2.2.2.2.1
          have gu5 : gFi (kQ M mm H L s1 r []) (aU L) 7 5 = some (Int32.ofNat n) := P1.2.1 ▸ (xu_gF D).2.2.2.2.2.1
          obtain ⟨s2, p0, q0, r0, w0⟩ := T_num_y hB hN (e + 3) (b := aL M mm (wkL M r ++ []) H) D b0_ k2 n0.1 n0.2.1 n0.2.2
          have w0' : vcall (e + 6) m_Tp_readNumber [.ref 1, .int 0, .int (Int32.ofNat n - 1)] (kQ M mm H L s1 r []) = some (.inl (some (.int (Int32.ofNat (nv B N (we B N (sk B N a)))))), kQ M mm H L s2 r []) := w0
          obtain ⟨s3, p1, q1, r1, w1⟩ := T_num_y hB hN (e + 3) (b := aL M mm (wkL M r ++ []) H) D b1_ q0 n1.1 n1.2.1 n1.2.2
          have w1' : vcall (e + 6) m_Tp_readNumber [.ref 1, .int 0, .int (Int32.ofNat m - 1)] (kQ M mm H L s2 r []) = some (.inl (some (.int (Int32.ofNat (nv B N (de B N (sk B N (we B N (sk B N a)))))))), kQ M mm H L s3 r []) := w1
          have Q0 := XP_k P1 p0
          have Q1 := XP_k Q0 p1
          obtain ⟨s9, u1, u2, u3⟩ := zX (e + 6) M mm H L s3 r (by omega) D o q1 Q1
          have rn : vcall (e + 7) m_Wk_readNumbered [.ref M, .ref 1, .int 0, .int (Int32.ofNat n), .int (Int32.ofNat m)] (kQ M mm H L s1 r []) = some (.inl (some (.int 1)), kQ M mm H L s9 (wkA r i (Int32.ofNat 0) (Int32.ofNat (nv B N (we B N (sk B N a)))) (Int32.ofNat (nv B N (de B N (sk B N (we B N (sk B N a))))))) []) := by
            refine (kQ_v o rfl).trans ((B_Wk_readNumbered_0 _ _ _ _ _ _ _).trans ?_)
            rw [w0', kC1_v, if_pos (by rw [ii_n1 (by omega)]; exact id), if_pos rfl, B_Wk_readNumbered_30, w1', kC1_v, B_Wk_readNumbered_41, if_neg (by rw [ii_n1 (by omega)]; exact id)]
            exact u3
          obtain ⟨o1, o2, o3⟩ := wkA_o (XP_k Q1 u1) 0 (nv B N (we B N (sk B N a))) (nv B N (de B N (sk B N (we B N (sk B N a)))))
          refine ⟨s9, wkA r i (Int32.ofNat 0) (Int32.ofNat (nv B N (we B N (sk B N a)))) (Int32.ofNat (nv B N (de B N (sk B N (we B N (sk B N a)))))), c + 1, _, _, ((k1.tr p0).tr p1).tr (u1.up (by decide) (by decide)), u2, o1, o2, o3, by omega, k5 _ ((kQ_v o rfl).trans ((B_Wk_readStep_0 _ _ _ _ _).trans ?_))⟩
          rw [e15', kC1_v, if_neg (by decide), gu5, obs, gu4, obs, rn, kC1_v, if_pos (by decide)]
        · skip
          obtain ⟨e, rfl⟩ : ∃ e, d = e + 8 := ⟨d - 8, by omega⟩
          obtain ⟨t1, a1, b1, c1⟩ := R_word hB hN (e + 5) b h0 T
          rw [h0'] at b1 c1
          obtain ⟨t2, xc, a2, b2, yc, zc, c2⟩ := R_stands hB hN (e + 5) b hs b1 HW_34
          rw [ess] at b2 yc zc
          have P2 : RP m n g u t2 := RP_k (RP_k P a1) a2
          rw [zc (fun h => absurd (wq_x hq h) (by decide))] at c2
          obtain ⟨t3, a3, b3, c3⟩ := R_pass hB hN (e + 5) b hs b2
          have c3' : vcall (e + 7) m_R_pass [.ref 30] (mS b t2) = some (.inl none, mS b t3) := c3
          have P3 : RP m n g u t3 := RP_k P2 a3
          have g22 : ∀ t : rT, gFi (mS b t) 30 11 22 = some (t.1 22) := fun t => gFi_at mS_30 rfl
          have g23 : ∀ t : rT, gFi (mS b t) 30 11 23 = some (t.1 23) := fun t => gFi_at mS_30 rfl
          obtain ⟨t4, a4, b4, c4⟩ := R_num_y hB hN (e + 4) b b0_ b3 P3.1 n0.1 (m_1 (show n ≤ 8 by omega)) n0.2.1 n0.2.2
          have c4' : vcall (e + 7) m_R_readNumber [.ref 30, .int 0, .int (Int32.ofNat n - 1)] (mS b t3) = _ := c4
          have P4 : RP m n g u t4 := RP_k P3 a4
          obtain ⟨t5, a5, b5, c5⟩ := R_num_y hB hN (e + 4) b b1_ b4 P4.1 n1.1 (m_1 h8) n1.2.1 n1.2.2
          have c5' : vcall (e + 7) m_R_readNumber [.ref 30, .int 0, .int (Int32.ofNat m - 1)] (mS b t4) = _ := c5
          have P5 : RP m n g u t5 := RP_k P4 a5
          obtain ⟨t9, a9, b9, d9, f9, c9⟩ := zR (e + 7) b t5 (Int32.ofNat (wv B (sk B N a) (we B N (sk B N a) - sk B N a))) (.int (Int32.ofNat (nv B N (we B N (sk B N a))))) mk0 (by omega) b5 P5
          obtain ⟨o1, o2⟩ := rkA_o (τ := t5) (u := u) 0 (nv B N (we B N (sk B N a))) (nv B N (de B N (sk B N (we B N (sk B N a))))) f9
          refine ⟨t9, (((((a1.tr a2).tr a3).up (by decide) (by decide)).tr (a4.up (by decide) (by decide))).tr (a5.up (by decide) (by decide))).tr (a9.up (by decide) (by decide)), b9, d9, fun j hj => by rw [o1 j hj, a5.2 46 (by decide) , a4.2 46 (by decide) , a3.2 46 (by decide) , a2.2 46 (by decide) , a1.2 46 (by decide)], o2, (vR rfl).trans ((B_R_readStep_0 _ _ _).trans ?_)⟩
          rw [c1, kC1_v, c2, kC1_v, if_pos rfl, R_of (e + 6) _ HW_33 (by decide), kC1_v, if_pos (by rw [word_eq hB hN hs HW_33 (by decide) (by decide)]; exact fun h => absurd (wq_x hq h) (by decide)), R_of (e + 6) _ HW_35 (by decide), kC1_v, if_neg (by rw [word_eq hB hN hs HW_35 (by decide) (by decide)]; exact fun h => h hq), c3', kC0_v, g23, obs, P3.2.2.2.2, c4', kC1_v, g22, obs, P4.2.2.2.1, c5', kC1_v]
          exact c9
      · refine Or.inr ⟨κ, p, hκ, hp, fun d M mm H L s r c l4 l5 hd D o T P hc => ?_, fun d b τ a0 hd h0 h0' T P => ?_⟩
        · skip
          obtain ⟨e, rfl⟩ : ∃ e, d = e + 8 := ⟨d - 8, by omega⟩
          obtain ⟨s1, k1, k2, k3, k4, k5⟩ := X_wkW hB hN h150 e (M := M) (mm := mm) (H := H) (r := r) (i := i) D o ha T P hg hc pc1 pc2 hw l4 l5
          have P1 := XP_k P k1
          obtain ⟨x15, y15, z15, e15⟩ := T_is hB hN (e + 5) (b := aL M mm (wkL M r ++ []) H) D k2 k3 he (by omega) HW_15
          have e15' : vcall (e + 7) m_Tp_wordIs [.ref 1, .ref (pSB + 15)] (kQ M mm H L s1 r []) = some (.inl (some (.int x15)), kQ M mm H L s1 r []) := e15
          rw [y15 hq] at e15'
          have gu4 : gFi (kQ M mm H L s1 r []) (aU L) 7 4 = some (Int32.ofNat m) := P1.1 ▸ (xu_gF D).2.2.2.2.1
          have gu5 : gFi (kQ M mm H L s1 r []) (aU L) 7 5 = some (Int32.ofNat n) := P1.2.1 ▸ (xu_gF D).2.2.2.2.2.1
          obtain ⟨s2, p0, q0, r0, w0⟩ := T_num_y hB hN (e + 3) (b := aL M mm (wkL M r ++ []) H) D b0_ k2 n0.1 n0.2.1 n0.2.2
          have w0' : vcall (e + 6) m_Tp_readNumber [.ref 1, .int 0, .int (Int32.ofNat n - 1)] (kQ M mm H L s1 r []) = some (.inl (some (.int (Int32.ofNat (nv B N (we B N (sk B N a)))))), kQ M mm H L s2 r []) := w0
          obtain ⟨s3, p1, q1, r1, w1⟩ := T_num_y hB hN (e + 3) (b := aL M mm (wkL M r ++ []) H) D b1_ q0 n1.1 n1.2.1 n1.2.2
          have w1' : vcall (e + 6) m_Tp_readNumber [.ref 1, .int 0, .int (Int32.ofNat m - 1)] (kQ M mm H L s2 r []) = some (.inl (some (.int (Int32.ofNat (nv B N (de B N (sk B N (we B N (sk B N a)))))))), kQ M mm H L s3 r []) := w1
          have Q0 := XP_k P1 p0
          have Q1 := XP_k Q0 p1
          obtain ⟨s9, u1, u2, u3⟩ := zX (e + 6) M mm H L s3 r (by omega) D o q1 Q1
          have rn : vcall (e + 7) m_Wk_readNumbered [.ref M, .ref 1, .int 0, .int (Int32.ofNat n), .int (Int32.ofNat m)] (kQ M mm H L s1 r []) = some (.inl (some (.int 0)), kQ M mm H L s9 (wkA r i (Int32.ofNat 0) (Int32.ofNat (nv B N (we B N (sk B N a)))) (Int32.ofNat (nv B N (de B N (sk B N (we B N (sk B N a))))))) []) := by
            refine (kQ_v o rfl).trans ((B_Wk_readNumbered_0 _ _ _ _ _ _ _).trans ?_)
            rw [w0', kC1_v, if_pos (by rw [ii_n1 (by omega)]; exact id), if_pos rfl, B_Wk_readNumbered_30, w1', kC1_v, B_Wk_readNumbered_41, if_neg (by rw [ii_n1 (by omega)]; exact id)]
            exact u3
          refine ⟨s9, wkA r i (Int32.ofNat 0) (Int32.ofNat (nv B N (we B N (sk B N a)))) (Int32.ofNat (nv B N (de B N (sk B N (we B N (sk B N a)))))), (((k1.tr p0).tr p1).up (by decide) (by decide)).tr (u1.up (by decide) (by decide)), u2, k4 _ ((kQ_v o rfl).trans ((B_Wk_readStep_0 _ _ _ _ _).trans ?_))⟩
          rw [e15', kC1_v, if_neg (by decide), gu5, obs, gu4, obs, rn, kC1_v, if_pos (by decide)]
        · skip
          obtain ⟨e, rfl⟩ : ∃ e, d = e + 8 := ⟨d - 8, by omega⟩
          obtain ⟨t1, a1, b1, c1⟩ := R_word hB hN (e + 5) b h0 T
          rw [h0'] at b1 c1
          obtain ⟨t2, xc, a2, b2, yc, zc, c2⟩ := R_stands hB hN (e + 5) b hs b1 HW_34
          rw [ess] at b2 yc zc
          have P2 : RP m n g u t2 := RP_k (RP_k P a1) a2
          rw [zc (fun h => absurd (wq_x hq h) (by decide))] at c2
          obtain ⟨t3, a3, b3, c3⟩ := R_pass hB hN (e + 5) b hs b2
          have c3' : vcall (e + 7) m_R_pass [.ref 30] (mS b t2) = some (.inl none, mS b t3) := c3
          have P3 : RP m n g u t3 := RP_k P2 a3
          have g22 : ∀ t : rT, gFi (mS b t) 30 11 22 = some (t.1 22) := fun t => gFi_at mS_30 rfl
          have g23 : ∀ t : rT, gFi (mS b t) 30 11 23 = some (t.1 23) := fun t => gFi_at mS_30 rfl
          obtain ⟨t4, a4, b4, c4⟩ := R_num_y hB hN (e + 4) b b0_ b3 P3.1 n0.1 (m_1 (show n ≤ 8 by omega)) n0.2.1 n0.2.2
          have c4' : vcall (e + 7) m_R_readNumber [.ref 30, .int 0, .int (Int32.ofNat n - 1)] (mS b t3) = _ := c4
          have P4 : RP m n g u t4 := RP_k P3 a4
          obtain ⟨t5, a5, b5, c5⟩ := R_num_y hB hN (e + 4) b b1_ b4 P4.1 n1.1 (m_1 h8) n1.2.1 n1.2.2
          have c5' : vcall (e + 7) m_R_readNumber [.ref 30, .int 0, .int (Int32.ofNat m - 1)] (mS b t4) = _ := c5
          have P5 : RP m n g u t5 := RP_k P4 a5
          obtain ⟨t9, a9, b9, c9⟩ := zR (e + 7) b t5 (Int32.ofNat (wv B (sk B N a) (we B N (sk B N a) - sk B N a))) (.int (Int32.ofNat (nv B N (we B N (sk B N a))))) mk0 (by omega) b5 P5
          refine ⟨t9, (((((a1.tr a2).tr a3).up (by decide) (by decide)).tr (a4.up (by decide) (by decide))).tr (a5.up (by decide) (by decide))).tr (a9.up (by decide) (by decide)), b9, (vR rfl).trans ((B_R_readStep_0 _ _ _).trans ?_)⟩
          rw [c1, kC1_v, c2, kC1_v, if_pos rfl, R_of (e + 6) _ HW_33 (by decide), kC1_v, if_pos (by rw [word_eq hB hN hs HW_33 (by decide) (by decide)]; exact fun h => absurd (wq_x hq h) (by decide)), R_of (e + 6) _ HW_35 (by decide), kC1_v, if_neg (by rw [word_eq hB hN hs HW_35 (by decide) (by decide)]; exact fun h => h hq), c3', kC0_v, g23, obs, P3.2.2.2.2, c4', kC1_v, g22, obs, P4.2.2.2.1, c5', kC1_v]
          exact c9
    · refine Or.inr ⟨κ, p, hκ, hp, fun d M mm H L s r c l4 l5 hd D o T P hc => ?_, fun d b τ a0 hd h0 h0' T P => ?_⟩
      · skip
        obtain ⟨e, rfl⟩ : ∃ e, d = e + 8 := ⟨d - 8, by omega⟩
        obtain ⟨s1, k1, k2, k3, k4, k5⟩ := X_wkW hB hN h150 e (M := M) (mm := mm) (H := H) (r := r) (i := i) D o ha T P hg hc pc1 pc2 hw l4 l5
        have P1 := XP_k P k1
        obtain ⟨x15, y15, z15, e15⟩ := T_is hB hN (e + 5) (b := aL M mm (wkL M r ++ []) H) D k2 k3 he (by omega) HW_15
        have e15' : vcall (e + 7) m_Tp_wordIs [.ref 1, .ref (pSB + 15)] (kQ M mm H L s1 r []) = some (.inl (some (.int x15)), kQ M mm H L s1 r []) := e15
        rw [y15 hq] at e15'
        have gu4 : gFi (kQ M mm H L s1 r []) (aU L) 7 4 = some (Int32.ofNat m) := P1.1 ▸ (xu_gF D).2.2.2.2.1
        have gu5 : gFi (kQ M mm H L s1 r []) (aU L) 7 5 = some (Int32.ofNat n) := P1.2.1 ▸ (xu_gF D).2.2.2.2.2.1
        obtain ⟨s2, p0, q0, r0, w0⟩ := T_num_y hB hN (e + 3) (b := aL M mm (wkL M r ++ []) H) D b0_ k2 n0.1 n0.2.1 n0.2.2
        have w0' : vcall (e + 6) m_Tp_readNumber [.ref 1, .int 0, .int (Int32.ofNat n - 1)] (kQ M mm H L s1 r []) = some (.inl (some (.int (Int32.ofNat (nv B N (we B N (sk B N a)))))), kQ M mm H L s2 r []) := w0
        obtain ⟨s9, u1, u2, u3⟩ := hX (e + 3) (aL M mm (wkL M r ++ []) H) L s2 D q0
        have u3' : vcall (e + 6) m_Tp_readNumber [.ref 1, .int 0, .int (Int32.ofNat m - 1)] (kQ M mm H L s2 r []) = some (.inl (some (.int (-1))), kQ M mm H L s9 r []) := u3
        have rn : vcall (e + 7) m_Wk_readNumbered [.ref M, .ref 1, .int 0, .int (Int32.ofNat n), .int (Int32.ofNat m)] (kQ M mm H L s1 r []) = some (.inl (some (.int 0)), kQ M mm H L s9 r []) := by
          refine (kQ_v o rfl).trans ((B_Wk_readNumbered_0 _ _ _ _ _ _ _).trans ?_)
          rw [w0', kC1_v, if_pos (by rw [ii_n1 (by omega)]; exact id), if_pos rfl, B_Wk_readNumbered_30, u3', kC1_v, B_Wk_readNumbered_41, if_pos rfl]
        refine ⟨s9, r, ((k1.tr p0).up (by decide) (by decide)).tr (u1.up (by decide) (by decide)), u2, k4 _ ((kQ_v o rfl).trans ((B_Wk_readStep_0 _ _ _ _ _).trans ?_))⟩
        rw [e15', kC1_v, if_neg (by decide), gu5, obs, gu4, obs, rn, kC1_v, if_pos (by decide)]
      · skip
        obtain ⟨e, rfl⟩ : ∃ e, d = e + 8 := ⟨d - 8, by omega⟩
        obtain ⟨t1, a1, b1, c1⟩ := R_word hB hN (e + 5) b h0 T
        rw [h0'] at b1 c1
        obtain ⟨t2, xc, a2, b2, yc, zc, c2⟩ := R_stands hB hN (e + 5) b hs b1 HW_34
        rw [ess] at b2 yc zc
        have P2 : RP m n g u t2 := RP_k (RP_k P a1) a2
        rw [zc (fun h => absurd (wq_x hq h) (by decide))] at c2
        obtain ⟨t3, a3, b3, c3⟩ := R_pass hB hN (e + 5) b hs b2
        have c3' : vcall (e + 7) m_R_pass [.ref 30] (mS b t2) = some (.inl none, mS b t3) := c3
        have P3 : RP m n g u t3 := RP_k P2 a3
        have g22 : ∀ t : rT, gFi (mS b t) 30 11 22 = some (t.1 22) := fun t => gFi_at mS_30 rfl
        have g23 : ∀ t : rT, gFi (mS b t) 30 11 23 = some (t.1 23) := fun t => gFi_at mS_30 rfl
        obtain ⟨t4, a4, b4, c4⟩ := R_num_y hB hN (e + 4) b b0_ b3 P3.1 n0.1 (m_1 (show n ≤ 8 by omega)) n0.2.1 n0.2.2
        have c4' : vcall (e + 7) m_R_readNumber [.ref 30, .int 0, .int (Int32.ofNat n - 1)] (mS b t3) = _ := c4
        have P4 : RP m n g u t4 := RP_k P3 a4
        obtain ⟨t9, a9, b9, c9⟩ := hR (e + 4) b t4 b4 P4.1
        have c9' : vcall (e + 7) m_R_readNumber [.ref 30, .int 0, .int (Int32.ofNat m - 1)] (mS b t4) = _ := c9
        have hb9 := FR_b b9 hp
        refine ⟨t9, ((((a1.tr a2).tr a3).up (by decide) (by decide)).tr (a4.up (by decide) (by decide))).tr (a9.up (by decide) (by decide)), b9, (vR rfl).trans ((B_R_readStep_0 _ _ _).trans ?_)⟩
        rw [c1, kC1_v, c2, kC1_v, if_pos rfl, R_of (e + 6) _ HW_33 (by decide), kC1_v, if_pos (by rw [word_eq hB hN hs HW_33 (by decide) (by decide)]; exact fun h => absurd (wq_x hq h) (by decide)), R_of (e + 6) _ HW_35 (by decide), kC1_v, if_neg (by rw [word_eq hB hN hs HW_35 (by decide) (by decide)]; exact fun h => h hq), c3', kC0_v, g23, obs, P3.2.2.2.2, c4', kC1_v, g22, obs, P4.2.2.2.1, c9', kC1_v, R_tells_b (e + 5) b hb9, kC0_v, B_R_readStep_286, R_sign_b (e + 5) b hb9, kC0_v]
  · refine Or.inr ⟨κ, p, hκ, hp, fun d M mm H L s r c l4 l5 hd D o T P hc => ?_, fun d b τ a0 hd h0 h0' T P => ?_⟩
    · skip
      obtain ⟨e, rfl⟩ : ∃ e, d = e + 8 := ⟨d - 8, by omega⟩
      obtain ⟨s1, k1, k2, k3, k4, k5⟩ := X_wkW hB hN h150 e (M := M) (mm := mm) (H := H) (r := r) (i := i) D o ha T P hg hc pc1 pc2 hw l4 l5
      have P1 := XP_k P k1
      obtain ⟨x15, y15, z15, e15⟩ := T_is hB hN (e + 5) (b := aL M mm (wkL M r ++ []) H) D k2 k3 he (by omega) HW_15
      have e15' : vcall (e + 7) m_Tp_wordIs [.ref 1, .ref (pSB + 15)] (kQ M mm H L s1 r []) = some (.inl (some (.int x15)), kQ M mm H L s1 r []) := e15
      rw [y15 hq] at e15'
      have gu4 : gFi (kQ M mm H L s1 r []) (aU L) 7 4 = some (Int32.ofNat m) := P1.1 ▸ (xu_gF D).2.2.2.2.1
      have gu5 : gFi (kQ M mm H L s1 r []) (aU L) 7 5 = some (Int32.ofNat n) := P1.2.1 ▸ (xu_gF D).2.2.2.2.2.1
      obtain ⟨s9, u1, u2, u3⟩ := hX (e + 3) (aL M mm (wkL M r ++ []) H) L s1 D k2
      have u3' : vcall (e + 6) m_Tp_readNumber [.ref 1, .int 0, .int (Int32.ofNat n - 1)] (kQ M mm H L s1 r []) = some (.inl (some (.int (-1))), kQ M mm H L s9 r []) := u3
      have rn : vcall (e + 7) m_Wk_readNumbered [.ref M, .ref 1, .int 0, .int (Int32.ofNat n), .int (Int32.ofNat m)] (kQ M mm H L s1 r []) = some (.inl (some (.int 0)), kQ M mm H L s9 r []) := by
        refine (kQ_v o rfl).trans ((B_Wk_readNumbered_0 _ _ _ _ _ _ _).trans ?_)
        rw [u3', kC1_v, if_neg (fun h => h rfl)]
      refine ⟨s9, r, (k1.up (by decide) (by decide)).tr (u1.up (by decide) (by decide)), u2, k4 _ ((kQ_v o rfl).trans ((B_Wk_readStep_0 _ _ _ _ _).trans ?_))⟩
      rw [e15', kC1_v, if_neg (by decide), gu5, obs, gu4, obs, rn, kC1_v, if_pos (by decide)]
    · skip
      obtain ⟨e, rfl⟩ : ∃ e, d = e + 8 := ⟨d - 8, by omega⟩
      obtain ⟨t1, a1, b1, c1⟩ := R_word hB hN (e + 5) b h0 T
      rw [h0'] at b1 c1
      obtain ⟨t2, xc, a2, b2, yc, zc, c2⟩ := R_stands hB hN (e + 5) b hs b1 HW_34
      rw [ess] at b2 yc zc
      have P2 : RP m n g u t2 := RP_k (RP_k P a1) a2
      rw [zc (fun h => absurd (wq_x hq h) (by decide))] at c2
      obtain ⟨t3, a3, b3, c3⟩ := R_pass hB hN (e + 5) b hs b2
      have c3' : vcall (e + 7) m_R_pass [.ref 30] (mS b t2) = some (.inl none, mS b t3) := c3
      have P3 : RP m n g u t3 := RP_k P2 a3
      have g22 : ∀ t : rT, gFi (mS b t) 30 11 22 = some (t.1 22) := fun t => gFi_at mS_30 rfl
      have g23 : ∀ t : rT, gFi (mS b t) 30 11 23 = some (t.1 23) := fun t => gFi_at mS_30 rfl
      obtain ⟨t9, a9, b9, c9⟩ := hR (e + 4) b t3 b3 P3.1
      have c9' : vcall (e + 7) m_R_readNumber [.ref 30, .int 0, .int (Int32.ofNat n - 1)] (mS b t3) = _ := c9
      have hb9 := FR_b b9 hp
      refine ⟨t9, (((a1.tr a2).tr a3).up (by decide) (by decide)).tr (a9.up (by decide) (by decide)), b9, (vR rfl).trans ((B_R_readStep_0 _ _ _).trans ?_)⟩
      rw [c1, kC1_v, c2, kC1_v, if_pos rfl, R_of (e + 6) _ HW_33 (by decide), kC1_v, if_pos (by rw [word_eq hB hN hs HW_33 (by decide) (by decide)]; exact fun h => absurd (wq_x hq h) (by decide)), R_of (e + 6) _ HW_35 (by decide), kC1_v, if_neg (by rw [word_eq hB hN hs HW_35 (by decide) (by decide)]; exact fun h => h hq), c3', kC0_v, g23, obs, P3.2.2.2.2, c9', kC1_v, g22, obs, R_num_b (e + 5) b hb9, kC1_v, R_tells_b (e + 5) b hb9, kC0_v, B_R_readStep_286, R_sign_b (e + 5) b hb9, kC0_v]
theorem ST_rise {B : Nat → Nat} {N : Nat} (hB : ∀ i, B i < 256) (hN : N ≤ 600) (h150 : N ≤ 150) {m n a g i u : Nat} (h8 : m ≤ 8) (h6 : n ≤ 6) (ha : a ≤ N) (hg : g ≤ 6) (pc1 : ¬ (sk B N a < N ∧ B (sk B N a) = 93 ∧ 0 < g)) (pc2 : ¬ (¬ sk B N a < N ∧ g = 0)) (hio : 4 * i + 3 * g ≤ a) (hu : u ≤ i) (hq : wq B (sk B N a) (we B N (sk B N a) - sk B N a) w_rise 4) : STO B N m n 8 a g i u := by
  have hs := sk_le (B := B) ha
  have hsg := sk_ge (B := B) ha
  have ess := sk_sk (B := B) ha
  have he : we B N (sk B N a) ≤ N := rn_le hs
  have hge : sk B N a ≤ we B N (sk B N a) := rn_ge hs
  have hlen := hq.1
  have hw : sk B N a < we B N (sk B N a) := by omega
  have b0_ : we B N (sk B N a) ≤ N := he
  rcases NUM hB hN b0_ (lo := 0) (hi := Int32.ofNat n - 1) (m_1 (show n ≤ 8 by omega)) with n0 | ⟨κ, p, hκ, hp, hX, hR⟩
  · have b1_ : de B N (sk B N (we B N (sk B N a))) ≤ N := rn_le (sk_le b0_)
    have g0_ : sk B N (we B N (sk B N a)) < de B N (sk B N (we B N (sk B N a))) := n0.1
    have h0_ := sk_ge (B := B) b0_
    have v0_ := nv_lt hB hN b0_ (show n ≤ 8 by omega) n0.2
    rcases TL hB hN (m := m) (n := n) (a := de B N (sk B N (we B N (sk B N a)))) (g := g) (i := i) (u := u) b1_ (by omega) (by omega) (Int32.ofNat 1) (Int32.ofNat (nv B N (we B N (sk B N a)))) (Int32.ofNat 0) with ⟨a', z1, z2, zX, zR⟩ | ⟨κ, p, hκ, hp, zX, zR⟩
    · refine Or.inl ⟨a', i + 1, u + 1, fun _ => 1, fun _ => (nv B N (we B N (sk B N a))), fun _ => 0, fun j => if j = 3 * u then 1 else if j = 3 * u + 1 then (nv B N (we B N (sk B N a))) else 0, 1, by omega, z2, by omega, by omega, by omega, Blk_1 ?_, fun d M mm H L s r c l4 l5 hd D o T P hc => ?_, fun d b τ a0 hd h0 h0' T P => ?_⟩
      · exact ⟨by decide, fun h => absurd h (by decide), by rw [if_neg (by decide), if_neg (by decide)]; exact ⟨v0_, fun h => absurd h (by decide)⟩⟩
      · skip
        obtain ⟨e, rfl⟩ : ∃ e, d = e + 8 := ⟨d - 8, by omega⟩
        obtain ⟨s1, k1, k2, k3, k4, k5⟩ := X_wkW hB hN h150 e (M := M) (mm := mm) (H := H) (r := r) (i := i) D o ha T P hg hc pc1 pc2 hw l4 l5
        have P1 := XP_k P k1
        obtain ⟨x15, y15, z15, e15⟩ := T_is hB hN (e + 5) (b := aL M mm (wkL M r ++ []) H) D k2 k3 he (by omega) HW_15
        have e15' : vcall (e + 7) m_Tp_wordIs [.ref 1, .ref (pSB + 15)] (kQ M mm H L s1 r []) = some (.inl (some (.int x15)), kQ M mm H L s1 r []) := e15
        rw [z15 (fun h => absurd (wq_x hq h) (by decide))] at e15'
        obtain ⟨x16, y16, z16, e16⟩ := T_is hB hN (e + 5) (b := aL M mm (wkL M r ++ []) H) D k2 k3 he (by omega) HW_16
        have e16' : vcall (e + 7) m_Tp_wordIs [.ref 1, .ref (pSB + 16)] (kQ M mm H L s1 r []) = some (.inl (some (.int x16)), kQ M mm H L s1 r []) := e16
        rw [y16 hq] at e16'
        have gu4 : gFi (kQ M mm H L s1 r []) (aU L) 7 4 = some (Int32.ofNat m) := P1.1 ▸ (xu_gF D).2.2.2.2.1
        have gu5 : gFi (kQ M mm H L s1 r []) (aU L) 7 5 = some (Int32.ofNat n) := P1.2.1 ▸ (xu_gF D).2.2.2.2.2.1
        obtain ⟨s2, p0, q0, r0, w0⟩ := T_num_y hB hN (e + 3) (b := aL M mm (wkL M r ++ []) H) D b0_ k2 n0.1 n0.2.1 n0.2.2
        have w0' : vcall (e + 6) m_Tp_readNumber [.ref 1, .int 0, .int (Int32.ofNat n - 1)] (kQ M mm H L s1 r []) = some (.inl (some (.int (Int32.ofNat (nv B N (we B N (sk B N a)))))), kQ M mm H L s2 r []) := w0
        have Q0 := XP_k P1 p0
        obtain ⟨s9, u1, u2, u3⟩ := zX (e + 6) M mm H L s2 r (by omega) D o q0 Q0
        have rn : vcall (e + 7) m_Wk_readNumbered [.ref M, .ref 1, .int 1, .int (Int32.ofNat n), .int (0)] (kQ M mm H L s1 r []) = some (.inl (some (.int 1)), kQ M mm H L s9 (wkA r i (Int32.ofNat 1) (Int32.ofNat (nv B N (we B N (sk B N a)))) (Int32.ofNat 0)) []) := by
          refine (kQ_v o rfl).trans ((B_Wk_readNumbered_0 _ _ _ _ _ _ _).trans ?_)
          rw [w0', kC1_v, if_pos (by rw [ii_n1 (by omega)]; exact id), if_neg (by decide), if_pos (by decide), B_Wk_readNumbered_41, if_neg (by decide)]
          exact u3
        obtain ⟨o1, o2, o3⟩ := wkA_o (XP_k Q0 u1) 1 (nv B N (we B N (sk B N a))) 0
        refine ⟨s9, wkA r i (Int32.ofNat 1) (Int32.ofNat (nv B N (we B N (sk B N a)))) (Int32.ofNat 0), c + 1, _, _, (k1.tr p0).tr (u1.up (by decide) (by decide)), u2, o1, o2, o3, by omega, k5 _ ((kQ_v o rfl).trans ((B_Wk_readStep_0 _ _ _ _ _).trans ?_))⟩
        rw [e15', kC1_v, if_pos rfl, e16', kC1_v, if_neg (by decide), gu5, obs, rn, kC1_v, if_pos (by decide)]
      · skip
        obtain ⟨e, rfl⟩ : ∃ e, d = e + 8 := ⟨d - 8, by omega⟩
        obtain ⟨t1, a1, b1, c1⟩ := R_word hB hN (e + 5) b h0 T
        rw [h0'] at b1 c1
        obtain ⟨t2, xc, a2, b2, yc, zc, c2⟩ := R_stands hB hN (e + 5) b hs b1 HW_34
        rw [ess] at b2 yc zc
        have P2 : RP m n g u t2 := RP_k (RP_k P a1) a2
        rw [zc (fun h => absurd (wq_x hq h) (by decide))] at c2
        obtain ⟨t3, a3, b3, c3⟩ := R_pass hB hN (e + 5) b hs b2
        have c3' : vcall (e + 7) m_R_pass [.ref 30] (mS b t2) = some (.inl none, mS b t3) := c3
        have P3 : RP m n g u t3 := RP_k P2 a3
        have g22 : ∀ t : rT, gFi (mS b t) 30 11 22 = some (t.1 22) := fun t => gFi_at mS_30 rfl
        have g23 : ∀ t : rT, gFi (mS b t) 30 11 23 = some (t.1 23) := fun t => gFi_at mS_30 rfl
        obtain ⟨t4, a4, b4, c4⟩ := R_num_y hB hN (e + 4) b b0_ b3 P3.1 n0.1 (m_1 (show n ≤ 8 by omega)) n0.2.1 n0.2.2
        have c4' : vcall (e + 7) m_R_readNumber [.ref 30, .int 0, .int (Int32.ofNat n - 1)] (mS b t3) = _ := c4
        have P4 : RP m n g u t4 := RP_k P3 a4
        obtain ⟨t9, a9, b9, d9, f9, c9⟩ := zR (e + 7) b t4 (Int32.ofNat (wv B (sk B N a) (we B N (sk B N a) - sk B N a))) mk0 mk0 (by omega) b4 P4
        obtain ⟨o1, o2⟩ := rkA_o (τ := t4) (u := u) 1 (nv B N (we B N (sk B N a))) 0 f9
        refine ⟨t9, ((((a1.tr a2).tr a3).up (by decide) (by decide)).tr (a4.up (by decide) (by decide))).tr (a9.up (by decide) (by decide)), b9, d9, fun j hj => by rw [o1 j hj, a4.2 46 (by decide) , a3.2 46 (by decide) , a2.2 46 (by decide) , a1.2 46 (by decide)], o2, (vR rfl).trans ((B_R_readStep_0 _ _ _).trans ?_)⟩
        rw [c1, kC1_v, c2, kC1_v, if_pos rfl, R_of (e + 6) _ HW_33 (by decide), kC1_v, if_pos (by rw [word_eq hB hN hs HW_33 (by decide) (by decide)]; exact fun h => absurd (wq_x hq h) (by decide)), R_of (e + 6) _ HW_35 (by decide), kC1_v, if_pos (by rw [word_eq hB hN hs HW_35 (by decide) (by decide)]; exact fun h => absurd (wq_x hq h) (by decide)), R_of (e + 6) _ HW_36 (by decide), kC1_v, if_pos (by rw [word_eq hB hN hs HW_36 (by decide) (by decide)]; exact hq), B_R_readStep_137, c3', kC0_v, R_of (e + 6) _ HW_36 (by decide), kC1_v, if_neg (by rw [word_eq hB hN hs HW_36 (by decide) (by decide)]; exact fun h => h hq), B_R_readStep_157, g23, obs, P3.2.2.2.2, c4', kC1_v]
        exact c9
    · refine Or.inr ⟨κ, p, hκ, hp, fun d M mm H L s r c l4 l5 hd D o T P hc => ?_, fun d b τ a0 hd h0 h0' T P => ?_⟩
      · skip
        obtain ⟨e, rfl⟩ : ∃ e, d = e + 8 := ⟨d - 8, by omega⟩
        obtain ⟨s1, k1, k2, k3, k4, k5⟩ := X_wkW hB hN h150 e (M := M) (mm := mm) (H := H) (r := r) (i := i) D o ha T P hg hc pc1 pc2 hw l4 l5
        have P1 := XP_k P k1
        obtain ⟨x15, y15, z15, e15⟩ := T_is hB hN (e + 5) (b := aL M mm (wkL M r ++ []) H) D k2 k3 he (by omega) HW_15
        have e15' : vcall (e + 7) m_Tp_wordIs [.ref 1, .ref (pSB + 15)] (kQ M mm H L s1 r []) = some (.inl (some (.int x15)), kQ M mm H L s1 r []) := e15
        rw [z15 (fun h => absurd (wq_x hq h) (by decide))] at e15'
        obtain ⟨x16, y16, z16, e16⟩ := T_is hB hN (e + 5) (b := aL M mm (wkL M r ++ []) H) D k2 k3 he (by omega) HW_16
        have e16' : vcall (e + 7) m_Tp_wordIs [.ref 1, .ref (pSB + 16)] (kQ M mm H L s1 r []) = some (.inl (some (.int x16)), kQ M mm H L s1 r []) := e16
        rw [y16 hq] at e16'
        have gu4 : gFi (kQ M mm H L s1 r []) (aU L) 7 4 = some (Int32.ofNat m) := P1.1 ▸ (xu_gF D).2.2.2.2.1
        have gu5 : gFi (kQ M mm H L s1 r []) (aU L) 7 5 = some (Int32.ofNat n) := P1.2.1 ▸ (xu_gF D).2.2.2.2.2.1
        obtain ⟨s2, p0, q0, r0, w0⟩ := T_num_y hB hN (e + 3) (b := aL M mm (wkL M r ++ []) H) D b0_ k2 n0.1 n0.2.1 n0.2.2
        have w0' : vcall (e + 6) m_Tp_readNumber [.ref 1, .int 0, .int (Int32.ofNat n - 1)] (kQ M mm H L s1 r []) = some (.inl (some (.int (Int32.ofNat (nv B N (we B N (sk B N a)))))), kQ M mm H L s2 r []) := w0
        have Q0 := XP_k P1 p0
        obtain ⟨s9, u1, u2, u3⟩ := zX (e + 6) M mm H L s2 r (by omega) D o q0 Q0
        have rn : vcall (e + 7) m_Wk_readNumbered [.ref M, .ref 1, .int 1, .int (Int32.ofNat n), .int (0)] (kQ M mm H L s1 r []) = some (.inl (some (.int 0)), kQ M mm H L s9 (wkA r i (Int32.ofNat 1) (Int32.ofNat (nv B N (we B N (sk B N a)))) (Int32.ofNat 0)) []) := by
          refine (kQ_v o rfl).trans ((B_Wk_readNumbered_0 _ _ _ _ _ _ _).trans ?_)
          rw [w0', kC1_v, if_pos (by rw [ii_n1 (by omega)]; exact id), if_neg (by decide), if_pos (by decide), B_Wk_readNumbered_41, if_neg (by decide)]
          exact u3
        refine ⟨s9, wkA r i (Int32.ofNat 1) (Int32.ofNat (nv B N (we B N (sk B N a)))) (Int32.ofNat 0), ((k1.tr p0).up (by decide) (by decide)).tr (u1.up (by decide) (by decide)), u2, k4 _ ((kQ_v o rfl).trans ((B_Wk_readStep_0 _ _ _ _ _).trans ?_))⟩
        rw [e15', kC1_v, if_pos rfl, e16', kC1_v, if_neg (by decide), gu5, obs, rn, kC1_v, if_pos (by decide)]
      · skip
        obtain ⟨e, rfl⟩ : ∃ e, d = e + 8 := ⟨d - 8, by omega⟩
        obtain ⟨t1, a1, b1, c1⟩ := R_word hB hN (e + 5) b h0 T
        rw [h0'] at b1 c1
        obtain ⟨t2, xc, a2, b2, yc, zc, c2⟩ := R_stands hB hN (e + 5) b hs b1 HW_34
        rw [ess] at b2 yc zc
        have P2 : RP m n g u t2 := RP_k (RP_k P a1) a2
        rw [zc (fun h => absurd (wq_x hq h) (by decide))] at c2
        obtain ⟨t3, a3, b3, c3⟩ := R_pass hB hN (e + 5) b hs b2
        have c3' : vcall (e + 7) m_R_pass [.ref 30] (mS b t2) = some (.inl none, mS b t3) := c3
        have P3 : RP m n g u t3 := RP_k P2 a3
        have g22 : ∀ t : rT, gFi (mS b t) 30 11 22 = some (t.1 22) := fun t => gFi_at mS_30 rfl
        have g23 : ∀ t : rT, gFi (mS b t) 30 11 23 = some (t.1 23) := fun t => gFi_at mS_30 rfl
        obtain ⟨t4, a4, b4, c4⟩ := R_num_y hB hN (e + 4) b b0_ b3 P3.1 n0.1 (m_1 (show n ≤ 8 by omega)) n0.2.1 n0.2.2
        have c4' : vcall (e + 7) m_R_readNumber [.ref 30, .int 0, .int (Int32.ofNat n - 1)] (mS b t3) = _ := c4
        have P4 : RP m n g u t4 := RP_k P3 a4
        obtain ⟨t9, a9, b9, c9⟩ := zR (e + 7) b t4 (Int32.ofNat (wv B (sk B N a) (we B N (sk B N a) - sk B N a))) mk0 mk0 (by omega) b4 P4
        refine ⟨t9, ((((a1.tr a2).tr a3).up (by decide) (by decide)).tr (a4.up (by decide) (by decide))).tr (a9.up (by decide) (by decide)), b9, (vR rfl).trans ((B_R_readStep_0 _ _ _).trans ?_)⟩
        rw [c1, kC1_v, c2, kC1_v, if_pos rfl, R_of (e + 6) _ HW_33 (by decide), kC1_v, if_pos (by rw [word_eq hB hN hs HW_33 (by decide) (by decide)]; exact fun h => absurd (wq_x hq h) (by decide)), R_of (e + 6) _ HW_35 (by decide), kC1_v, if_pos (by rw [word_eq hB hN hs HW_35 (by decide) (by decide)]; exact fun h => absurd (wq_x hq h) (by decide)), R_of (e + 6) _ HW_36 (by decide), kC1_v, if_pos (by rw [word_eq hB hN hs HW_36 (by decide) (by decide)]; exact hq), B_R_readStep_137, c3', kC0_v, R_of (e + 6) _ HW_36 (by decide), kC1_v, if_neg (by rw [word_eq hB hN hs HW_36 (by decide) (by decide)]; exact fun h => h hq), B_R_readStep_157, g23, obs, P3.2.2.2.2, c4', kC1_v]
        exact c9
  · refine Or.inr ⟨κ, p, hκ, hp, fun d M mm H L s r c l4 l5 hd D o T P hc => ?_, fun d b τ a0 hd h0 h0' T P => ?_⟩
    · skip
      obtain ⟨e, rfl⟩ : ∃ e, d = e + 8 := ⟨d - 8, by omega⟩
      obtain ⟨s1, k1, k2, k3, k4, k5⟩ := X_wkW hB hN h150 e (M := M) (mm := mm) (H := H) (r := r) (i := i) D o ha T P hg hc pc1 pc2 hw l4 l5
      have P1 := XP_k P k1
      obtain ⟨x15, y15, z15, e15⟩ := T_is hB hN (e + 5) (b := aL M mm (wkL M r ++ []) H) D k2 k3 he (by omega) HW_15
      have e15' : vcall (e + 7) m_Tp_wordIs [.ref 1, .ref (pSB + 15)] (kQ M mm H L s1 r []) = some (.inl (some (.int x15)), kQ M mm H L s1 r []) := e15
      rw [z15 (fun h => absurd (wq_x hq h) (by decide))] at e15'
      obtain ⟨x16, y16, z16, e16⟩ := T_is hB hN (e + 5) (b := aL M mm (wkL M r ++ []) H) D k2 k3 he (by omega) HW_16
      have e16' : vcall (e + 7) m_Tp_wordIs [.ref 1, .ref (pSB + 16)] (kQ M mm H L s1 r []) = some (.inl (some (.int x16)), kQ M mm H L s1 r []) := e16
      rw [y16 hq] at e16'
      have gu4 : gFi (kQ M mm H L s1 r []) (aU L) 7 4 = some (Int32.ofNat m) := P1.1 ▸ (xu_gF D).2.2.2.2.1
      have gu5 : gFi (kQ M mm H L s1 r []) (aU L) 7 5 = some (Int32.ofNat n) := P1.2.1 ▸ (xu_gF D).2.2.2.2.2.1
      obtain ⟨s9, u1, u2, u3⟩ := hX (e + 3) (aL M mm (wkL M r ++ []) H) L s1 D k2
      have u3' : vcall (e + 6) m_Tp_readNumber [.ref 1, .int 0, .int (Int32.ofNat n - 1)] (kQ M mm H L s1 r []) = some (.inl (some (.int (-1))), kQ M mm H L s9 r []) := u3
      have rn : vcall (e + 7) m_Wk_readNumbered [.ref M, .ref 1, .int 1, .int (Int32.ofNat n), .int (0)] (kQ M mm H L s1 r []) = some (.inl (some (.int 0)), kQ M mm H L s9 r []) := by
        refine (kQ_v o rfl).trans ((B_Wk_readNumbered_0 _ _ _ _ _ _ _).trans ?_)
        rw [u3', kC1_v, if_neg (fun h => h rfl)]
      refine ⟨s9, r, (k1.up (by decide) (by decide)).tr (u1.up (by decide) (by decide)), u2, k4 _ ((kQ_v o rfl).trans ((B_Wk_readStep_0 _ _ _ _ _).trans ?_))⟩
      rw [e15', kC1_v, if_pos rfl, e16', kC1_v, if_neg (by decide), gu5, obs, rn, kC1_v, if_pos (by decide)]
    · skip
      obtain ⟨e, rfl⟩ : ∃ e, d = e + 8 := ⟨d - 8, by omega⟩
      obtain ⟨t1, a1, b1, c1⟩ := R_word hB hN (e + 5) b h0 T
      rw [h0'] at b1 c1
      obtain ⟨t2, xc, a2, b2, yc, zc, c2⟩ := R_stands hB hN (e + 5) b hs b1 HW_34
      rw [ess] at b2 yc zc
      have P2 : RP m n g u t2 := RP_k (RP_k P a1) a2
      rw [zc (fun h => absurd (wq_x hq h) (by decide))] at c2
      obtain ⟨t3, a3, b3, c3⟩ := R_pass hB hN (e + 5) b hs b2
      have c3' : vcall (e + 7) m_R_pass [.ref 30] (mS b t2) = some (.inl none, mS b t3) := c3
      have P3 : RP m n g u t3 := RP_k P2 a3
      have g22 : ∀ t : rT, gFi (mS b t) 30 11 22 = some (t.1 22) := fun t => gFi_at mS_30 rfl
      have g23 : ∀ t : rT, gFi (mS b t) 30 11 23 = some (t.1 23) := fun t => gFi_at mS_30 rfl
      obtain ⟨t9, a9, b9, c9⟩ := hR (e + 4) b t3 b3 P3.1
      have c9' : vcall (e + 7) m_R_readNumber [.ref 30, .int 0, .int (Int32.ofNat n - 1)] (mS b t3) = _ := c9
      have hb9 := FR_b b9 hp
      refine ⟨t9, (((a1.tr a2).tr a3).up (by decide) (by decide)).tr (a9.up (by decide) (by decide)), b9, (vR rfl).trans ((B_R_readStep_0 _ _ _).trans ?_)⟩
      rw [c1, kC1_v, c2, kC1_v, if_pos rfl, R_of (e + 6) _ HW_33 (by decide), kC1_v, if_pos (by rw [word_eq hB hN hs HW_33 (by decide) (by decide)]; exact fun h => absurd (wq_x hq h) (by decide)), R_of (e + 6) _ HW_35 (by decide), kC1_v, if_pos (by rw [word_eq hB hN hs HW_35 (by decide) (by decide)]; exact fun h => absurd (wq_x hq h) (by decide)), R_of (e + 6) _ HW_36 (by decide), kC1_v, if_pos (by rw [word_eq hB hN hs HW_36 (by decide) (by decide)]; exact hq), B_R_readStep_137, c3', kC0_v, R_of (e + 6) _ HW_36 (by decide), kC1_v, if_neg (by rw [word_eq hB hN hs HW_36 (by decide) (by decide)]; exact fun h => h hq), B_R_readStep_157, g23, obs, P3.2.2.2.2, c9', kC1_v, R_tells_b (e + 5) b hb9, kC0_v, B_R_readStep_286, R_sign_b (e + 5) b hb9, kC0_v]
theorem ST_feed {B : Nat → Nat} {N : Nat} (hB : ∀ i, B i < 256) (hN : N ≤ 600) (h150 : N ≤ 150) {m n a g i u : Nat} (h8 : m ≤ 8) (h6 : n ≤ 6) (ha : a ≤ N) (hg : g ≤ 6) (pc1 : ¬ (sk B N a < N ∧ B (sk B N a) = 93 ∧ 0 < g)) (pc2 : ¬ (¬ sk B N a < N ∧ g = 0)) (hio : 4 * i + 3 * g ≤ a) (hu : u ≤ i) (hq : wq B (sk B N a) (we B N (sk B N a) - sk B N a) w_feed 4) : STO B N m n 8 a g i u := by
  have hs := sk_le (B := B) ha
  have hsg := sk_ge (B := B) ha
  have ess := sk_sk (B := B) ha
  have he : we B N (sk B N a) ≤ N := rn_le hs
  have hge : sk B N a ≤ we B N (sk B N a) := rn_ge hs
  have hlen := hq.1
  have hw : sk B N a < we B N (sk B N a) := by omega
  have b0_ : we B N (sk B N a) ≤ N := he
  rcases NUM hB hN b0_ (lo := 0) (hi := Int32.ofNat n - 1) (m_1 (show n ≤ 8 by omega)) with n0 | ⟨κ, p, hκ, hp, hX, hR⟩
  · have b1_ : de B N (sk B N (we B N (sk B N a))) ≤ N := rn_le (sk_le b0_)
    have g0_ : sk B N (we B N (sk B N a)) < de B N (sk B N (we B N (sk B N a))) := n0.1
    have h0_ := sk_ge (B := B) b0_
    have v0_ := nv_lt hB hN b0_ (show n ≤ 8 by omega) n0.2
    rcases TL hB hN (m := m) (n := n) (a := de B N (sk B N (we B N (sk B N a)))) (g := g) (i := i) (u := u) b1_ (by omega) (by omega) (Int32.ofNat 2) (Int32.ofNat (nv B N (we B N (sk B N a)))) (Int32.ofNat 0) with ⟨a', z1, z2, zX, zR⟩ | ⟨κ, p, hκ, hp, zX, zR⟩
    · refine Or.inl ⟨a', i + 1, u + 1, fun _ => 2, fun _ => (nv B N (we B N (sk B N a))), fun _ => 0, fun j => if j = 3 * u then 2 else if j = 3 * u + 1 then (nv B N (we B N (sk B N a))) else 0, 1, by omega, z2, by omega, by omega, by omega, Blk_1 ?_, fun d M mm H L s r c l4 l5 hd D o T P hc => ?_, fun d b τ a0 hd h0 h0' T P => ?_⟩
      · exact ⟨by decide, fun h => absurd h (by decide), by rw [if_neg (by decide), if_neg (by decide)]; exact ⟨v0_, fun h => absurd h (by decide)⟩⟩
      · skip
        obtain ⟨e, rfl⟩ : ∃ e, d = e + 8 := ⟨d - 8, by omega⟩
        obtain ⟨s1, k1, k2, k3, k4, k5⟩ := X_wkW hB hN h150 e (M := M) (mm := mm) (H := H) (r := r) (i := i) D o ha T P hg hc pc1 pc2 hw l4 l5
        have P1 := XP_k P k1
        obtain ⟨x15, y15, z15, e15⟩ := T_is hB hN (e + 5) (b := aL M mm (wkL M r ++ []) H) D k2 k3 he (by omega) HW_15
        have e15' : vcall (e + 7) m_Tp_wordIs [.ref 1, .ref (pSB + 15)] (kQ M mm H L s1 r []) = some (.inl (some (.int x15)), kQ M mm H L s1 r []) := e15
        rw [z15 (fun h => absurd (wq_x hq h) (by decide))] at e15'
        obtain ⟨x16, y16, z16, e16⟩ := T_is hB hN (e + 5) (b := aL M mm (wkL M r ++ []) H) D k2 k3 he (by omega) HW_16
        have e16' : vcall (e + 7) m_Tp_wordIs [.ref 1, .ref (pSB + 16)] (kQ M mm H L s1 r []) = some (.inl (some (.int x16)), kQ M mm H L s1 r []) := e16
        rw [z16 (fun h => absurd (wq_x hq h) (by decide))] at e16'
        obtain ⟨x17, y17, z17, e17⟩ := T_is hB hN (e + 5) (b := aL M mm (wkL M r ++ []) H) D k2 k3 he (by omega) HW_17
        have e17' : vcall (e + 7) m_Tp_wordIs [.ref 1, .ref (pSB + 17)] (kQ M mm H L s1 r []) = some (.inl (some (.int x17)), kQ M mm H L s1 r []) := e17
        rw [y17 hq] at e17'
        have gu4 : gFi (kQ M mm H L s1 r []) (aU L) 7 4 = some (Int32.ofNat m) := P1.1 ▸ (xu_gF D).2.2.2.2.1
        have gu5 : gFi (kQ M mm H L s1 r []) (aU L) 7 5 = some (Int32.ofNat n) := P1.2.1 ▸ (xu_gF D).2.2.2.2.2.1
        obtain ⟨s2, p0, q0, r0, w0⟩ := T_num_y hB hN (e + 3) (b := aL M mm (wkL M r ++ []) H) D b0_ k2 n0.1 n0.2.1 n0.2.2
        have w0' : vcall (e + 6) m_Tp_readNumber [.ref 1, .int 0, .int (Int32.ofNat n - 1)] (kQ M mm H L s1 r []) = some (.inl (some (.int (Int32.ofNat (nv B N (we B N (sk B N a)))))), kQ M mm H L s2 r []) := w0
        have Q0 := XP_k P1 p0
        obtain ⟨s9, u1, u2, u3⟩ := zX (e + 6) M mm H L s2 r (by omega) D o q0 Q0
        have rn : vcall (e + 7) m_Wk_readNumbered [.ref M, .ref 1, .int 2, .int (Int32.ofNat n), .int (0)] (kQ M mm H L s1 r []) = some (.inl (some (.int 1)), kQ M mm H L s9 (wkA r i (Int32.ofNat 2) (Int32.ofNat (nv B N (we B N (sk B N a)))) (Int32.ofNat 0)) []) := by
          refine (kQ_v o rfl).trans ((B_Wk_readNumbered_0 _ _ _ _ _ _ _).trans ?_)
          rw [w0', kC1_v, if_pos (by rw [ii_n1 (by omega)]; exact id), if_neg (by decide), if_pos (by decide), B_Wk_readNumbered_41, if_neg (by decide)]
          exact u3
        obtain ⟨o1, o2, o3⟩ := wkA_o (XP_k Q0 u1) 2 (nv B N (we B N (sk B N a))) 0
        refine ⟨s9, wkA r i (Int32.ofNat 2) (Int32.ofNat (nv B N (we B N (sk B N a)))) (Int32.ofNat 0), c + 1, _, _, (k1.tr p0).tr (u1.up (by decide) (by decide)), u2, o1, o2, o3, by omega, k5 _ ((kQ_v o rfl).trans ((B_Wk_readStep_0 _ _ _ _ _).trans ?_))⟩
        rw [e15', kC1_v, if_pos rfl, e16', kC1_v, if_pos rfl, e17', kC1_v, if_neg (by decide), gu5, obs, rn, kC1_v, if_pos (by decide)]
      · skip
        obtain ⟨e, rfl⟩ : ∃ e, d = e + 8 := ⟨d - 8, by omega⟩
        obtain ⟨t1, a1, b1, c1⟩ := R_word hB hN (e + 5) b h0 T
        rw [h0'] at b1 c1
        obtain ⟨t2, xc, a2, b2, yc, zc, c2⟩ := R_stands hB hN (e + 5) b hs b1 HW_34
        rw [ess] at b2 yc zc
        have P2 : RP m n g u t2 := RP_k (RP_k P a1) a2
        rw [zc (fun h => absurd (wq_x hq h) (by decide))] at c2
        obtain ⟨t3, a3, b3, c3⟩ := R_pass hB hN (e + 5) b hs b2
        have c3' : vcall (e + 7) m_R_pass [.ref 30] (mS b t2) = some (.inl none, mS b t3) := c3
        have P3 : RP m n g u t3 := RP_k P2 a3
        have g22 : ∀ t : rT, gFi (mS b t) 30 11 22 = some (t.1 22) := fun t => gFi_at mS_30 rfl
        have g23 : ∀ t : rT, gFi (mS b t) 30 11 23 = some (t.1 23) := fun t => gFi_at mS_30 rfl
        obtain ⟨t4, a4, b4, c4⟩ := R_num_y hB hN (e + 4) b b0_ b3 P3.1 n0.1 (m_1 (show n ≤ 8 by omega)) n0.2.1 n0.2.2
        have c4' : vcall (e + 7) m_R_readNumber [.ref 30, .int 0, .int (Int32.ofNat n - 1)] (mS b t3) = _ := c4
        have P4 : RP m n g u t4 := RP_k P3 a4
        obtain ⟨t9, a9, b9, d9, f9, c9⟩ := zR (e + 7) b t4 (Int32.ofNat (wv B (sk B N a) (we B N (sk B N a) - sk B N a))) mk0 mk0 (by omega) b4 P4
        obtain ⟨o1, o2⟩ := rkA_o (τ := t4) (u := u) 2 (nv B N (we B N (sk B N a))) 0 f9
        refine ⟨t9, ((((a1.tr a2).tr a3).up (by decide) (by decide)).tr (a4.up (by decide) (by decide))).tr (a9.up (by decide) (by decide)), b9, d9, fun j hj => by rw [o1 j hj, a4.2 46 (by decide) , a3.2 46 (by decide) , a2.2 46 (by decide) , a1.2 46 (by decide)], o2, (vR rfl).trans ((B_R_readStep_0 _ _ _).trans ?_)⟩
        rw [c1, kC1_v, c2, kC1_v, if_pos rfl, R_of (e + 6) _ HW_33 (by decide), kC1_v, if_pos (by rw [word_eq hB hN hs HW_33 (by decide) (by decide)]; exact fun h => absurd (wq_x hq h) (by decide)), R_of (e + 6) _ HW_35 (by decide), kC1_v, if_pos (by rw [word_eq hB hN hs HW_35 (by decide) (by decide)]; exact fun h => absurd (wq_x hq h) (by decide)), R_of (e + 6) _ HW_36 (by decide), kC1_v, if_neg (by rw [word_eq hB hN hs HW_36 (by decide) (by decide)]; exact fun h => absurd (wq_x hq h) (by decide)), R_of (e + 6) _ HW_37 (by decide), kC1_v, if_neg (by rw [word_eq hB hN hs HW_37 (by decide) (by decide)]; exact fun h => h hq), B_R_readStep_137, c3', kC0_v, R_of (e + 6) _ HW_36 (by decide), kC1_v, if_pos (by rw [word_eq hB hN hs HW_36 (by decide) (by decide)]; exact fun h => absurd (wq_x hq h) (by decide)), B_R_readStep_157, g23, obs, P3.2.2.2.2, c4', kC1_v]
        exact c9
    · refine Or.inr ⟨κ, p, hκ, hp, fun d M mm H L s r c l4 l5 hd D o T P hc => ?_, fun d b τ a0 hd h0 h0' T P => ?_⟩
      · skip
        obtain ⟨e, rfl⟩ : ∃ e, d = e + 8 := ⟨d - 8, by omega⟩
        obtain ⟨s1, k1, k2, k3, k4, k5⟩ := X_wkW hB hN h150 e (M := M) (mm := mm) (H := H) (r := r) (i := i) D o ha T P hg hc pc1 pc2 hw l4 l5
        have P1 := XP_k P k1
        obtain ⟨x15, y15, z15, e15⟩ := T_is hB hN (e + 5) (b := aL M mm (wkL M r ++ []) H) D k2 k3 he (by omega) HW_15
        have e15' : vcall (e + 7) m_Tp_wordIs [.ref 1, .ref (pSB + 15)] (kQ M mm H L s1 r []) = some (.inl (some (.int x15)), kQ M mm H L s1 r []) := e15
        rw [z15 (fun h => absurd (wq_x hq h) (by decide))] at e15'
        obtain ⟨x16, y16, z16, e16⟩ := T_is hB hN (e + 5) (b := aL M mm (wkL M r ++ []) H) D k2 k3 he (by omega) HW_16
        have e16' : vcall (e + 7) m_Tp_wordIs [.ref 1, .ref (pSB + 16)] (kQ M mm H L s1 r []) = some (.inl (some (.int x16)), kQ M mm H L s1 r []) := e16
        rw [z16 (fun h => absurd (wq_x hq h) (by decide))] at e16'
        obtain ⟨x17, y17, z17, e17⟩ := T_is hB hN (e + 5) (b := aL M mm (wkL M r ++ []) H) D k2 k3 he (by omega) HW_17
        have e17' : vcall (e + 7) m_Tp_wordIs [.ref 1, .ref (pSB + 17)] (kQ M mm H L s1 r []) = some (.inl (some (.int x17)), kQ M mm H L s1 r []) := e17
        rw [y17 hq] at e17'
        have gu4 : gFi (kQ M mm H L s1 r []) (aU L) 7 4 = some (Int32.ofNat m) := P1.1 ▸ (xu_gF D).2.2.2.2.1
        have gu5 : gFi (kQ M mm H L s1 r []) (aU L) 7 5 = some (Int32.ofNat n) := P1.2.1 ▸ (xu_gF D).2.2.2.2.2.1
        obtain ⟨s2, p0, q0, r0, w0⟩ := T_num_y hB hN (e + 3) (b := aL M mm (wkL M r ++ []) H) D b0_ k2 n0.1 n0.2.1 n0.2.2
        have w0' : vcall (e + 6) m_Tp_readNumber [.ref 1, .int 0, .int (Int32.ofNat n - 1)] (kQ M mm H L s1 r []) = some (.inl (some (.int (Int32.ofNat (nv B N (we B N (sk B N a)))))), kQ M mm H L s2 r []) := w0
        have Q0 := XP_k P1 p0
        obtain ⟨s9, u1, u2, u3⟩ := zX (e + 6) M mm H L s2 r (by omega) D o q0 Q0
        have rn : vcall (e + 7) m_Wk_readNumbered [.ref M, .ref 1, .int 2, .int (Int32.ofNat n), .int (0)] (kQ M mm H L s1 r []) = some (.inl (some (.int 0)), kQ M mm H L s9 (wkA r i (Int32.ofNat 2) (Int32.ofNat (nv B N (we B N (sk B N a)))) (Int32.ofNat 0)) []) := by
          refine (kQ_v o rfl).trans ((B_Wk_readNumbered_0 _ _ _ _ _ _ _).trans ?_)
          rw [w0', kC1_v, if_pos (by rw [ii_n1 (by omega)]; exact id), if_neg (by decide), if_pos (by decide), B_Wk_readNumbered_41, if_neg (by decide)]
          exact u3
        refine ⟨s9, wkA r i (Int32.ofNat 2) (Int32.ofNat (nv B N (we B N (sk B N a)))) (Int32.ofNat 0), ((k1.tr p0).up (by decide) (by decide)).tr (u1.up (by decide) (by decide)), u2, k4 _ ((kQ_v o rfl).trans ((B_Wk_readStep_0 _ _ _ _ _).trans ?_))⟩
        rw [e15', kC1_v, if_pos rfl, e16', kC1_v, if_pos rfl, e17', kC1_v, if_neg (by decide), gu5, obs, rn, kC1_v, if_pos (by decide)]
      · skip
        obtain ⟨e, rfl⟩ : ∃ e, d = e + 8 := ⟨d - 8, by omega⟩
        obtain ⟨t1, a1, b1, c1⟩ := R_word hB hN (e + 5) b h0 T
        rw [h0'] at b1 c1
        obtain ⟨t2, xc, a2, b2, yc, zc, c2⟩ := R_stands hB hN (e + 5) b hs b1 HW_34
        rw [ess] at b2 yc zc
        have P2 : RP m n g u t2 := RP_k (RP_k P a1) a2
        rw [zc (fun h => absurd (wq_x hq h) (by decide))] at c2
        obtain ⟨t3, a3, b3, c3⟩ := R_pass hB hN (e + 5) b hs b2
        have c3' : vcall (e + 7) m_R_pass [.ref 30] (mS b t2) = some (.inl none, mS b t3) := c3
        have P3 : RP m n g u t3 := RP_k P2 a3
        have g22 : ∀ t : rT, gFi (mS b t) 30 11 22 = some (t.1 22) := fun t => gFi_at mS_30 rfl
        have g23 : ∀ t : rT, gFi (mS b t) 30 11 23 = some (t.1 23) := fun t => gFi_at mS_30 rfl
        obtain ⟨t4, a4, b4, c4⟩ := R_num_y hB hN (e + 4) b b0_ b3 P3.1 n0.1 (m_1 (show n ≤ 8 by omega)) n0.2.1 n0.2.2
        have c4' : vcall (e + 7) m_R_readNumber [.ref 30, .int 0, .int (Int32.ofNat n - 1)] (mS b t3) = _ := c4
        have P4 : RP m n g u t4 := RP_k P3 a4
        obtain ⟨t9, a9, b9, c9⟩ := zR (e + 7) b t4 (Int32.ofNat (wv B (sk B N a) (we B N (sk B N a) - sk B N a))) mk0 mk0 (by omega) b4 P4
        refine ⟨t9, ((((a1.tr a2).tr a3).up (by decide) (by decide)).tr (a4.up (by decide) (by decide))).tr (a9.up (by decide) (by decide)), b9, (vR rfl).trans ((B_R_readStep_0 _ _ _).trans ?_)⟩
        rw [c1, kC1_v, c2, kC1_v, if_pos rfl, R_of (e + 6) _ HW_33 (by decide), kC1_v, if_pos (by rw [word_eq hB hN hs HW_33 (by decide) (by decide)]; exact fun h => absurd (wq_x hq h) (by decide)), R_of (e + 6) _ HW_35 (by decide), kC1_v, if_pos (by rw [word_eq hB hN hs HW_35 (by decide) (by decide)]; exact fun h => absurd (wq_x hq h) (by decide)), R_of (e + 6) _ HW_36 (by decide), kC1_v, if_neg (by rw [word_eq hB hN hs HW_36 (by decide) (by decide)]; exact fun h => absurd (wq_x hq h) (by decide)), R_of (e + 6) _ HW_37 (by decide), kC1_v, if_neg (by rw [word_eq hB hN hs HW_37 (by decide) (by decide)]; exact fun h => h hq), B_R_readStep_137, c3', kC0_v, R_of (e + 6) _ HW_36 (by decide), kC1_v, if_pos (by rw [word_eq hB hN hs HW_36 (by decide) (by decide)]; exact fun h => absurd (wq_x hq h) (by decide)), B_R_readStep_157, g23, obs, P3.2.2.2.2, c4', kC1_v]
        exact c9
  · refine Or.inr ⟨κ, p, hκ, hp, fun d M mm H L s r c l4 l5 hd D o T P hc => ?_, fun d b τ a0 hd h0 h0' T P => ?_⟩
    · skip
      obtain ⟨e, rfl⟩ : ∃ e, d = e + 8 := ⟨d - 8, by omega⟩
      obtain ⟨s1, k1, k2, k3, k4, k5⟩ := X_wkW hB hN h150 e (M := M) (mm := mm) (H := H) (r := r) (i := i) D o ha T P hg hc pc1 pc2 hw l4 l5
      have P1 := XP_k P k1
      obtain ⟨x15, y15, z15, e15⟩ := T_is hB hN (e + 5) (b := aL M mm (wkL M r ++ []) H) D k2 k3 he (by omega) HW_15
      have e15' : vcall (e + 7) m_Tp_wordIs [.ref 1, .ref (pSB + 15)] (kQ M mm H L s1 r []) = some (.inl (some (.int x15)), kQ M mm H L s1 r []) := e15
      rw [z15 (fun h => absurd (wq_x hq h) (by decide))] at e15'
      obtain ⟨x16, y16, z16, e16⟩ := T_is hB hN (e + 5) (b := aL M mm (wkL M r ++ []) H) D k2 k3 he (by omega) HW_16
      have e16' : vcall (e + 7) m_Tp_wordIs [.ref 1, .ref (pSB + 16)] (kQ M mm H L s1 r []) = some (.inl (some (.int x16)), kQ M mm H L s1 r []) := e16
      rw [z16 (fun h => absurd (wq_x hq h) (by decide))] at e16'
      obtain ⟨x17, y17, z17, e17⟩ := T_is hB hN (e + 5) (b := aL M mm (wkL M r ++ []) H) D k2 k3 he (by omega) HW_17
      have e17' : vcall (e + 7) m_Tp_wordIs [.ref 1, .ref (pSB + 17)] (kQ M mm H L s1 r []) = some (.inl (some (.int x17)), kQ M mm H L s1 r []) := e17
      rw [y17 hq] at e17'
      have gu4 : gFi (kQ M mm H L s1 r []) (aU L) 7 4 = some (Int32.ofNat m) := P1.1 ▸ (xu_gF D).2.2.2.2.1
      have gu5 : gFi (kQ M mm H L s1 r []) (aU L) 7 5 = some (Int32.ofNat n) := P1.2.1 ▸ (xu_gF D).2.2.2.2.2.1
      obtain ⟨s9, u1, u2, u3⟩ := hX (e + 3) (aL M mm (wkL M r ++ []) H) L s1 D k2
      have u3' : vcall (e + 6) m_Tp_readNumber [.ref 1, .int 0, .int (Int32.ofNat n - 1)] (kQ M mm H L s1 r []) = some (.inl (some (.int (-1))), kQ M mm H L s9 r []) := u3
      have rn : vcall (e + 7) m_Wk_readNumbered [.ref M, .ref 1, .int 2, .int (Int32.ofNat n), .int (0)] (kQ M mm H L s1 r []) = some (.inl (some (.int 0)), kQ M mm H L s9 r []) := by
        refine (kQ_v o rfl).trans ((B_Wk_readNumbered_0 _ _ _ _ _ _ _).trans ?_)
        rw [u3', kC1_v, if_neg (fun h => h rfl)]
      refine ⟨s9, r, (k1.up (by decide) (by decide)).tr (u1.up (by decide) (by decide)), u2, k4 _ ((kQ_v o rfl).trans ((B_Wk_readStep_0 _ _ _ _ _).trans ?_))⟩
      rw [e15', kC1_v, if_pos rfl, e16', kC1_v, if_pos rfl, e17', kC1_v, if_neg (by decide), gu5, obs, rn, kC1_v, if_pos (by decide)]
    · skip
      obtain ⟨e, rfl⟩ : ∃ e, d = e + 8 := ⟨d - 8, by omega⟩
      obtain ⟨t1, a1, b1, c1⟩ := R_word hB hN (e + 5) b h0 T
      rw [h0'] at b1 c1
      obtain ⟨t2, xc, a2, b2, yc, zc, c2⟩ := R_stands hB hN (e + 5) b hs b1 HW_34
      rw [ess] at b2 yc zc
      have P2 : RP m n g u t2 := RP_k (RP_k P a1) a2
      rw [zc (fun h => absurd (wq_x hq h) (by decide))] at c2
      obtain ⟨t3, a3, b3, c3⟩ := R_pass hB hN (e + 5) b hs b2
      have c3' : vcall (e + 7) m_R_pass [.ref 30] (mS b t2) = some (.inl none, mS b t3) := c3
      have P3 : RP m n g u t3 := RP_k P2 a3
      have g22 : ∀ t : rT, gFi (mS b t) 30 11 22 = some (t.1 22) := fun t => gFi_at mS_30 rfl
      have g23 : ∀ t : rT, gFi (mS b t) 30 11 23 = some (t.1 23) := fun t => gFi_at mS_30 rfl
      obtain ⟨t9, a9, b9, c9⟩ := hR (e + 4) b t3 b3 P3.1
      have c9' : vcall (e + 7) m_R_readNumber [.ref 30, .int 0, .int (Int32.ofNat n - 1)] (mS b t3) = _ := c9
      have hb9 := FR_b b9 hp
      refine ⟨t9, (((a1.tr a2).tr a3).up (by decide) (by decide)).tr (a9.up (by decide) (by decide)), b9, (vR rfl).trans ((B_R_readStep_0 _ _ _).trans ?_)⟩
      rw [c1, kC1_v, c2, kC1_v, if_pos rfl, R_of (e + 6) _ HW_33 (by decide), kC1_v, if_pos (by rw [word_eq hB hN hs HW_33 (by decide) (by decide)]; exact fun h => absurd (wq_x hq h) (by decide)), R_of (e + 6) _ HW_35 (by decide), kC1_v, if_pos (by rw [word_eq hB hN hs HW_35 (by decide) (by decide)]; exact fun h => absurd (wq_x hq h) (by decide)), R_of (e + 6) _ HW_36 (by decide), kC1_v, if_neg (by rw [word_eq hB hN hs HW_36 (by decide) (by decide)]; exact fun h => absurd (wq_x hq h) (by decide)), R_of (e + 6) _ HW_37 (by decide), kC1_v, if_neg (by rw [word_eq hB hN hs HW_37 (by decide) (by decide)]; exact fun h => h hq), B_R_readStep_137, c3', kC0_v, R_of (e + 6) _ HW_36 (by decide), kC1_v, if_pos (by rw [word_eq hB hN hs HW_36 (by decide) (by decide)]; exact fun h => absurd (wq_x hq h) (by decide)), B_R_readStep_157, g23, obs, P3.2.2.2.2, c9', kC1_v, R_tells_b (e + 5) b hb9, kC0_v, B_R_readStep_286, R_sign_b (e + 5) b hb9, kC0_v]
theorem ST_curtain {B : Nat → Nat} {N : Nat} (hB : ∀ i, B i < 256) (hN : N ≤ 600) (h150 : N ≤ 150) {m n a g i u : Nat} (h8 : m ≤ 8) (h6 : n ≤ 6) (ha : a ≤ N) (hg : g ≤ 6) (pc1 : ¬ (sk B N a < N ∧ B (sk B N a) = 93 ∧ 0 < g)) (pc2 : ¬ (¬ sk B N a < N ∧ g = 0)) (hio : 4 * i + 3 * g ≤ a) (hu : u ≤ i) (hq : wq B (sk B N a) (we B N (sk B N a) - sk B N a) w_curtain 7) : STO B N m n 8 a g i u := by
  have hs := sk_le (B := B) ha
  have hsg := sk_ge (B := B) ha
  have ess := sk_sk (B := B) ha
  have he : we B N (sk B N a) ≤ N := rn_le hs
  have hge : sk B N a ≤ we B N (sk B N a) := rn_ge hs
  have hlen := hq.1
  have hw : sk B N a < we B N (sk B N a) := by omega
  have e10 : (10 : Int32) - 1 = 9 := by decide
  have b0_ : we B N (sk B N a) ≤ N := he
  rcases NUM hB hN b0_ (lo := 0) (hi := Int32.ofNat m - 1) (m_1 h8) with n0 | ⟨κ, p, hκ, hp, hX, hR⟩
  · have b1_ : de B N (sk B N (we B N (sk B N a))) ≤ N := rn_le (sk_le b0_)
    have g0_ : sk B N (we B N (sk B N a)) < de B N (sk B N (we B N (sk B N a))) := n0.1
    have h0_ := sk_ge (B := B) b0_
    have v0_ := nv_lt hB hN b0_ (show m ≤ 8 by omega) n0.2
    rcases NUM hB hN b1_ (lo := 0) (hi := 9) (by decide) with n1 | ⟨κ, p, hκ, hp, hX, hR⟩
    · have b2_ : de B N (sk B N (de B N (sk B N (we B N (sk B N a))))) ≤ N := rn_le (sk_le b1_)
      have g1_ : sk B N (de B N (sk B N (we B N (sk B N a)))) < de B N (sk B N (de B N (sk B N (we B N (sk B N a))))) := n1.1
      have h1_ := sk_ge (B := B) b1_
      have v1_ := (nv_b hB hN (lo := 0) (hi := 9) b1_ (by decide) n1.2 (by decide)).2
      rcases TL hB hN (m := m) (n := n) (a := de B N (sk B N (de B N (sk B N (we B N (sk B N a)))))) (g := g) (i := i) (u := u) b2_ (by omega) (by omega) (Int32.ofNat 3) (Int32.ofNat (nv B N (we B N (sk B N a)))) (Int32.ofNat (nv B N (de B N (sk B N (we B N (sk B N a)))))) with ⟨a', z1, z2, zX, zR⟩ | ⟨κ, p, hκ, hp, zX, zR⟩
      · refine Or.inl ⟨a', i + 1, u + 1, fun _ => 3, fun _ => (nv B N (we B N (sk B N a))), fun _ => (nv B N (de B N (sk B N (we B N (sk B N a))))), fun j => if j = 3 * u then 3 else if j = 3 * u + 1 then (nv B N (we B N (sk B N a))) else (nv B N (de B N (sk B N (we B N (sk B N a))))), 1, by omega, z2, by omega, by omega, by omega, Blk_1 ?_, fun d M mm H L s r c l4 l5 hd D o T P hc => ?_, fun d b τ a0 hd h0 h0' T P => ?_⟩
        · exact ⟨by decide, fun h => absurd h (by decide), by rw [if_pos rfl]; exact ⟨v0_, v1_⟩⟩
        · skip
          obtain ⟨e, rfl⟩ : ∃ e, d = e + 8 := ⟨d - 8, by omega⟩
          obtain ⟨s1, k1, k2, k3, k4, k5⟩ := X_wkW hB hN h150 e (M := M) (mm := mm) (H := H) (r := r) (i := i) D o ha T P hg hc pc1 pc2 hw l4 l5
          have P1 := XP_k P k1
          obtain ⟨x15, y15, z15, e15⟩ := T_is hB hN (e + 5) (b := aL M mm (wkL M r ++ []) H) D k2 k3 he (by omega) HW_15
          have e15' : vcall (e + 7) m_Tp_wordIs [.ref 1, .ref (pSB + 15)] (kQ M mm H L s1 r []) = some (.inl (some (.int x15)), kQ M mm H L s1 r []) := e15
          rw [z15 (fun h => absurd (wq_x hq h) (by decide))] at e15'
          obtain ⟨x16, y16, z16, e16⟩ := T_is hB hN (e + 5) (b := aL M mm (wkL M r ++ []) H) D k2 k3 he (by omega) HW_16
          have e16' : vcall (e + 7) m_Tp_wordIs [.ref 1, .ref (pSB + 16)] (kQ M mm H L s1 r []) = some (.inl (some (.int x16)), kQ M mm H L s1 r []) := e16
          rw [z16 (fun h => absurd (wq_x hq h) (by decide))] at e16'
          obtain ⟨x17, y17, z17, e17⟩ := T_is hB hN (e + 5) (b := aL M mm (wkL M r ++ []) H) D k2 k3 he (by omega) HW_17
          have e17' : vcall (e + 7) m_Tp_wordIs [.ref 1, .ref (pSB + 17)] (kQ M mm H L s1 r []) = some (.inl (some (.int x17)), kQ M mm H L s1 r []) := e17
          rw [z17 (fun h => absurd (wq_x hq h) (by decide))] at e17'
          obtain ⟨x18, y18, z18, e18⟩ := T_is hB hN (e + 5) (b := aL M mm (wkL M r ++ []) H) D k2 k3 he (by omega) HW_18
          have e18' : vcall (e + 7) m_Tp_wordIs [.ref 1, .ref (pSB + 18)] (kQ M mm H L s1 r []) = some (.inl (some (.int x18)), kQ M mm H L s1 r []) := e18
          rw [y18 hq] at e18'
          have gu4 : gFi (kQ M mm H L s1 r []) (aU L) 7 4 = some (Int32.ofNat m) := P1.1 ▸ (xu_gF D).2.2.2.2.1
          have gu5 : gFi (kQ M mm H L s1 r []) (aU L) 7 5 = some (Int32.ofNat n) := P1.2.1 ▸ (xu_gF D).2.2.2.2.2.1
          obtain ⟨s2, p0, q0, r0, w0⟩ := T_num_y hB hN (e + 3) (b := aL M mm (wkL M r ++ []) H) D b0_ k2 n0.1 n0.2.1 n0.2.2
          have w0' : vcall (e + 6) m_Tp_readNumber [.ref 1, .int 0, .int (Int32.ofNat m - 1)] (kQ M mm H L s1 r []) = some (.inl (some (.int (Int32.ofNat (nv B N (we B N (sk B N a)))))), kQ M mm H L s2 r []) := w0
          obtain ⟨s3, p1, q1, r1, w1⟩ := T_num_y hB hN (e + 3) (b := aL M mm (wkL M r ++ []) H) D b1_ q0 n1.1 n1.2.1 n1.2.2
          have w1' : vcall (e + 6) m_Tp_readNumber [.ref 1, .int 0, .int (9)] (kQ M mm H L s2 r []) = some (.inl (some (.int (Int32.ofNat (nv B N (de B N (sk B N (we B N (sk B N a)))))))), kQ M mm H L s3 r []) := w1
          have Q0 := XP_k P1 p0
          have Q1 := XP_k Q0 p1
          obtain ⟨s9, u1, u2, u3⟩ := zX (e + 6) M mm H L s3 r (by omega) D o q1 Q1
          have rn : vcall (e + 7) m_Wk_readNumbered [.ref M, .ref 1, .int 3, .int (Int32.ofNat m), .int (10)] (kQ M mm H L s1 r []) = some (.inl (some (.int 1)), kQ M mm H L s9 (wkA r i (Int32.ofNat 3) (Int32.ofNat (nv B N (we B N (sk B N a)))) (Int32.ofNat (nv B N (de B N (sk B N (we B N (sk B N a))))))) []) := by
            refine (kQ_v o rfl).trans ((B_Wk_readNumbered_0 _ _ _ _ _ _ _).trans ?_)
            rw [w0', kC1_v, if_pos (by rw [ii_n1 (by omega)]; exact id), if_neg (by decide), if_neg (fun h => h rfl), B_Wk_readNumbered_30, e10, w1', kC1_v, B_Wk_readNumbered_41, if_neg (by rw [ii_n1 (by omega)]; exact id)]
            exact u3
          obtain ⟨o1, o2, o3⟩ := wkA_o (XP_k Q1 u1) 3 (nv B N (we B N (sk B N a))) (nv B N (de B N (sk B N (we B N (sk B N a)))))
          refine ⟨s9, wkA r i (Int32.ofNat 3) (Int32.ofNat (nv B N (we B N (sk B N a)))) (Int32.ofNat (nv B N (de B N (sk B N (we B N (sk B N a)))))), c + 1, _, _, ((k1.tr p0).tr p1).tr (u1.up (by decide) (by decide)), u2, o1, o2, o3, by omega, k5 _ ((kQ_v o rfl).trans ((B_Wk_readStep_0 _ _ _ _ _).trans ?_))⟩
          rw [e15', kC1_v, if_pos rfl, e16', kC1_v, if_pos rfl, e17', kC1_v, if_pos rfl, e18', kC1_v, if_neg (by decide), gu4, obs, rn, kC1_v, if_pos (by decide)]
        · skip
          obtain ⟨e, rfl⟩ : ∃ e, d = e + 8 := ⟨d - 8, by omega⟩
          obtain ⟨t1, a1, b1, c1⟩ := R_word hB hN (e + 5) b h0 T
          rw [h0'] at b1 c1
          obtain ⟨t2, xc, a2, b2, yc, zc, c2⟩ := R_stands hB hN (e + 5) b hs b1 HW_34
          rw [ess] at b2 yc zc
          have P2 : RP m n g u t2 := RP_k (RP_k P a1) a2
          rw [yc hq] at c2
          obtain ⟨t3, a3, b3, c3⟩ := R_pass hB hN (e + 5) b hs b2
          have c3' : vcall (e + 7) m_R_pass [.ref 30] (mS b t2) = some (.inl none, mS b t3) := c3
          have P3 : RP m n g u t3 := RP_k P2 a3
          have g22 : ∀ t : rT, gFi (mS b t) 30 11 22 = some (t.1 22) := fun t => gFi_at mS_30 rfl
          have g23 : ∀ t : rT, gFi (mS b t) 30 11 23 = some (t.1 23) := fun t => gFi_at mS_30 rfl
          obtain ⟨t4, a4, b4, c4⟩ := R_num_y hB hN (e + 4) b b0_ b3 P3.1 n0.1 (m_1 h8) n0.2.1 n0.2.2
          have c4' : vcall (e + 7) m_R_readNumber [.ref 30, .int 0, .int (Int32.ofNat m - 1)] (mS b t3) = _ := c4
          have P4 : RP m n g u t4 := RP_k P3 a4
          obtain ⟨t5, a5, b5, c5⟩ := R_num_y hB hN (e + 4) b b1_ b4 P4.1 n1.1 (by decide) n1.2.1 n1.2.2
          have c5' : vcall (e + 7) m_R_readNumber [.ref 30, .int 0, .int (9)] (mS b t4) = _ := c5
          have P5 : RP m n g u t5 := RP_k P4 a5
          obtain ⟨t9, a9, b9, d9, f9, c9⟩ := zR (e + 7) b t5 (Int32.ofNat (wv B (sk B N a) (we B N (sk B N a) - sk B N a))) (.int (Int32.ofNat (nv B N (we B N (sk B N a))))) mk0 (by omega) b5 P5
          obtain ⟨o1, o2⟩ := rkA_o (τ := t5) (u := u) 3 (nv B N (we B N (sk B N a))) (nv B N (de B N (sk B N (we B N (sk B N a))))) f9
          refine ⟨t9, (((((a1.tr a2).tr a3).up (by decide) (by decide)).tr (a4.up (by decide) (by decide))).tr (a5.up (by decide) (by decide))).tr (a9.up (by decide) (by decide)), b9, d9, fun j hj => by rw [o1 j hj, a5.2 46 (by decide) , a4.2 46 (by decide) , a3.2 46 (by decide) , a2.2 46 (by decide) , a1.2 46 (by decide)], o2, (vR rfl).trans ((B_R_readStep_0 _ _ _).trans ?_)⟩
          rw [c1, kC1_v, c2, kC1_v, if_neg (by decide), c3', kC0_v, g22, obs, P3.2.2.2.1, c4', kC1_v, c5', kC1_v]
          exact c9
      · refine Or.inr ⟨κ, p, hκ, hp, fun d M mm H L s r c l4 l5 hd D o T P hc => ?_, fun d b τ a0 hd h0 h0' T P => ?_⟩
        · skip
          obtain ⟨e, rfl⟩ : ∃ e, d = e + 8 := ⟨d - 8, by omega⟩
          obtain ⟨s1, k1, k2, k3, k4, k5⟩ := X_wkW hB hN h150 e (M := M) (mm := mm) (H := H) (r := r) (i := i) D o ha T P hg hc pc1 pc2 hw l4 l5
          have P1 := XP_k P k1
          obtain ⟨x15, y15, z15, e15⟩ := T_is hB hN (e + 5) (b := aL M mm (wkL M r ++ []) H) D k2 k3 he (by omega) HW_15
          have e15' : vcall (e + 7) m_Tp_wordIs [.ref 1, .ref (pSB + 15)] (kQ M mm H L s1 r []) = some (.inl (some (.int x15)), kQ M mm H L s1 r []) := e15
          rw [z15 (fun h => absurd (wq_x hq h) (by decide))] at e15'
          obtain ⟨x16, y16, z16, e16⟩ := T_is hB hN (e + 5) (b := aL M mm (wkL M r ++ []) H) D k2 k3 he (by omega) HW_16
          have e16' : vcall (e + 7) m_Tp_wordIs [.ref 1, .ref (pSB + 16)] (kQ M mm H L s1 r []) = some (.inl (some (.int x16)), kQ M mm H L s1 r []) := e16
          rw [z16 (fun h => absurd (wq_x hq h) (by decide))] at e16'
          obtain ⟨x17, y17, z17, e17⟩ := T_is hB hN (e + 5) (b := aL M mm (wkL M r ++ []) H) D k2 k3 he (by omega) HW_17
          have e17' : vcall (e + 7) m_Tp_wordIs [.ref 1, .ref (pSB + 17)] (kQ M mm H L s1 r []) = some (.inl (some (.int x17)), kQ M mm H L s1 r []) := e17
          rw [z17 (fun h => absurd (wq_x hq h) (by decide))] at e17'
          obtain ⟨x18, y18, z18, e18⟩ := T_is hB hN (e + 5) (b := aL M mm (wkL M r ++ []) H) D k2 k3 he (by omega) HW_18
          have e18' : vcall (e + 7) m_Tp_wordIs [.ref 1, .ref (pSB + 18)] (kQ M mm H L s1 r []) = some (.inl (some (.int x18)), kQ M mm H L s1 r []) := e18
          rw [y18 hq] at e18'
          have gu4 : gFi (kQ M mm H L s1 r []) (aU L) 7 4 = some (Int32.ofNat m) := P1.1 ▸ (xu_gF D).2.2.2.2.1
          have gu5 : gFi (kQ M mm H L s1 r []) (aU L) 7 5 = some (Int32.ofNat n) := P1.2.1 ▸ (xu_gF D).2.2.2.2.2.1
          obtain ⟨s2, p0, q0, r0, w0⟩ := T_num_y hB hN (e + 3) (b := aL M mm (wkL M r ++ []) H) D b0_ k2 n0.1 n0.2.1 n0.2.2
          have w0' : vcall (e + 6) m_Tp_readNumber [.ref 1, .int 0, .int (Int32.ofNat m - 1)] (kQ M mm H L s1 r []) = some (.inl (some (.int (Int32.ofNat (nv B N (we B N (sk B N a)))))), kQ M mm H L s2 r []) := w0
          obtain ⟨s3, p1, q1, r1, w1⟩ := T_num_y hB hN (e + 3) (b := aL M mm (wkL M r ++ []) H) D b1_ q0 n1.1 n1.2.1 n1.2.2
          have w1' : vcall (e + 6) m_Tp_readNumber [.ref 1, .int 0, .int (9)] (kQ M mm H L s2 r []) = some (.inl (some (.int (Int32.ofNat (nv B N (de B N (sk B N (we B N (sk B N a)))))))), kQ M mm H L s3 r []) := w1
          have Q0 := XP_k P1 p0
          have Q1 := XP_k Q0 p1
          obtain ⟨s9, u1, u2, u3⟩ := zX (e + 6) M mm H L s3 r (by omega) D o q1 Q1
          have rn : vcall (e + 7) m_Wk_readNumbered [.ref M, .ref 1, .int 3, .int (Int32.ofNat m), .int (10)] (kQ M mm H L s1 r []) = some (.inl (some (.int 0)), kQ M mm H L s9 (wkA r i (Int32.ofNat 3) (Int32.ofNat (nv B N (we B N (sk B N a)))) (Int32.ofNat (nv B N (de B N (sk B N (we B N (sk B N a))))))) []) := by
            refine (kQ_v o rfl).trans ((B_Wk_readNumbered_0 _ _ _ _ _ _ _).trans ?_)
            rw [w0', kC1_v, if_pos (by rw [ii_n1 (by omega)]; exact id), if_neg (by decide), if_neg (fun h => h rfl), B_Wk_readNumbered_30, e10, w1', kC1_v, B_Wk_readNumbered_41, if_neg (by rw [ii_n1 (by omega)]; exact id)]
            exact u3
          refine ⟨s9, wkA r i (Int32.ofNat 3) (Int32.ofNat (nv B N (we B N (sk B N a)))) (Int32.ofNat (nv B N (de B N (sk B N (we B N (sk B N a)))))), (((k1.tr p0).tr p1).up (by decide) (by decide)).tr (u1.up (by decide) (by decide)), u2, k4 _ ((kQ_v o rfl).trans ((B_Wk_readStep_0 _ _ _ _ _).trans ?_))⟩
          rw [e15', kC1_v, if_pos rfl, e16', kC1_v, if_pos rfl, e17', kC1_v, if_pos rfl, e18', kC1_v, if_neg (by decide), gu4, obs, rn, kC1_v, if_pos (by decide)]
        · skip
          obtain ⟨e, rfl⟩ : ∃ e, d = e + 8 := ⟨d - 8, by omega⟩
          obtain ⟨t1, a1, b1, c1⟩ := R_word hB hN (e + 5) b h0 T
          rw [h0'] at b1 c1
          obtain ⟨t2, xc, a2, b2, yc, zc, c2⟩ := R_stands hB hN (e + 5) b hs b1 HW_34
          rw [ess] at b2 yc zc
          have P2 : RP m n g u t2 := RP_k (RP_k P a1) a2
          rw [yc hq] at c2
          obtain ⟨t3, a3, b3, c3⟩ := R_pass hB hN (e + 5) b hs b2
          have c3' : vcall (e + 7) m_R_pass [.ref 30] (mS b t2) = some (.inl none, mS b t3) := c3
          have P3 : RP m n g u t3 := RP_k P2 a3
          have g22 : ∀ t : rT, gFi (mS b t) 30 11 22 = some (t.1 22) := fun t => gFi_at mS_30 rfl
          have g23 : ∀ t : rT, gFi (mS b t) 30 11 23 = some (t.1 23) := fun t => gFi_at mS_30 rfl
          obtain ⟨t4, a4, b4, c4⟩ := R_num_y hB hN (e + 4) b b0_ b3 P3.1 n0.1 (m_1 h8) n0.2.1 n0.2.2
          have c4' : vcall (e + 7) m_R_readNumber [.ref 30, .int 0, .int (Int32.ofNat m - 1)] (mS b t3) = _ := c4
          have P4 : RP m n g u t4 := RP_k P3 a4
          obtain ⟨t5, a5, b5, c5⟩ := R_num_y hB hN (e + 4) b b1_ b4 P4.1 n1.1 (by decide) n1.2.1 n1.2.2
          have c5' : vcall (e + 7) m_R_readNumber [.ref 30, .int 0, .int (9)] (mS b t4) = _ := c5
          have P5 : RP m n g u t5 := RP_k P4 a5
          obtain ⟨t9, a9, b9, c9⟩ := zR (e + 7) b t5 (Int32.ofNat (wv B (sk B N a) (we B N (sk B N a) - sk B N a))) (.int (Int32.ofNat (nv B N (we B N (sk B N a))))) mk0 (by omega) b5 P5
          refine ⟨t9, (((((a1.tr a2).tr a3).up (by decide) (by decide)).tr (a4.up (by decide) (by decide))).tr (a5.up (by decide) (by decide))).tr (a9.up (by decide) (by decide)), b9, (vR rfl).trans ((B_R_readStep_0 _ _ _).trans ?_)⟩
          rw [c1, kC1_v, c2, kC1_v, if_neg (by decide), c3', kC0_v, g22, obs, P3.2.2.2.1, c4', kC1_v, c5', kC1_v]
          exact c9
    · refine Or.inr ⟨κ, p, hκ, hp, fun d M mm H L s r c l4 l5 hd D o T P hc => ?_, fun d b τ a0 hd h0 h0' T P => ?_⟩
      · skip
        obtain ⟨e, rfl⟩ : ∃ e, d = e + 8 := ⟨d - 8, by omega⟩
        obtain ⟨s1, k1, k2, k3, k4, k5⟩ := X_wkW hB hN h150 e (M := M) (mm := mm) (H := H) (r := r) (i := i) D o ha T P hg hc pc1 pc2 hw l4 l5
        have P1 := XP_k P k1
        obtain ⟨x15, y15, z15, e15⟩ := T_is hB hN (e + 5) (b := aL M mm (wkL M r ++ []) H) D k2 k3 he (by omega) HW_15
        have e15' : vcall (e + 7) m_Tp_wordIs [.ref 1, .ref (pSB + 15)] (kQ M mm H L s1 r []) = some (.inl (some (.int x15)), kQ M mm H L s1 r []) := e15
        rw [z15 (fun h => absurd (wq_x hq h) (by decide))] at e15'
        obtain ⟨x16, y16, z16, e16⟩ := T_is hB hN (e + 5) (b := aL M mm (wkL M r ++ []) H) D k2 k3 he (by omega) HW_16
        have e16' : vcall (e + 7) m_Tp_wordIs [.ref 1, .ref (pSB + 16)] (kQ M mm H L s1 r []) = some (.inl (some (.int x16)), kQ M mm H L s1 r []) := e16
        rw [z16 (fun h => absurd (wq_x hq h) (by decide))] at e16'
        obtain ⟨x17, y17, z17, e17⟩ := T_is hB hN (e + 5) (b := aL M mm (wkL M r ++ []) H) D k2 k3 he (by omega) HW_17
        have e17' : vcall (e + 7) m_Tp_wordIs [.ref 1, .ref (pSB + 17)] (kQ M mm H L s1 r []) = some (.inl (some (.int x17)), kQ M mm H L s1 r []) := e17
        rw [z17 (fun h => absurd (wq_x hq h) (by decide))] at e17'
        obtain ⟨x18, y18, z18, e18⟩ := T_is hB hN (e + 5) (b := aL M mm (wkL M r ++ []) H) D k2 k3 he (by omega) HW_18
        have e18' : vcall (e + 7) m_Tp_wordIs [.ref 1, .ref (pSB + 18)] (kQ M mm H L s1 r []) = some (.inl (some (.int x18)), kQ M mm H L s1 r []) := e18
        rw [y18 hq] at e18'
        have gu4 : gFi (kQ M mm H L s1 r []) (aU L) 7 4 = some (Int32.ofNat m) := P1.1 ▸ (xu_gF D).2.2.2.2.1
        have gu5 : gFi (kQ M mm H L s1 r []) (aU L) 7 5 = some (Int32.ofNat n) := P1.2.1 ▸ (xu_gF D).2.2.2.2.2.1
        obtain ⟨s2, p0, q0, r0, w0⟩ := T_num_y hB hN (e + 3) (b := aL M mm (wkL M r ++ []) H) D b0_ k2 n0.1 n0.2.1 n0.2.2
        have w0' : vcall (e + 6) m_Tp_readNumber [.ref 1, .int 0, .int (Int32.ofNat m - 1)] (kQ M mm H L s1 r []) = some (.inl (some (.int (Int32.ofNat (nv B N (we B N (sk B N a)))))), kQ M mm H L s2 r []) := w0
        obtain ⟨s9, u1, u2, u3⟩ := hX (e + 3) (aL M mm (wkL M r ++ []) H) L s2 D q0
        have u3' : vcall (e + 6) m_Tp_readNumber [.ref 1, .int 0, .int (9)] (kQ M mm H L s2 r []) = some (.inl (some (.int (-1))), kQ M mm H L s9 r []) := u3
        have rn : vcall (e + 7) m_Wk_readNumbered [.ref M, .ref 1, .int 3, .int (Int32.ofNat m), .int (10)] (kQ M mm H L s1 r []) = some (.inl (some (.int 0)), kQ M mm H L s9 r []) := by
          refine (kQ_v o rfl).trans ((B_Wk_readNumbered_0 _ _ _ _ _ _ _).trans ?_)
          rw [w0', kC1_v, if_pos (by rw [ii_n1 (by omega)]; exact id), if_neg (by decide), if_neg (fun h => h rfl), B_Wk_readNumbered_30, e10, u3', kC1_v, B_Wk_readNumbered_41, if_pos rfl]
        refine ⟨s9, r, ((k1.tr p0).up (by decide) (by decide)).tr (u1.up (by decide) (by decide)), u2, k4 _ ((kQ_v o rfl).trans ((B_Wk_readStep_0 _ _ _ _ _).trans ?_))⟩
        rw [e15', kC1_v, if_pos rfl, e16', kC1_v, if_pos rfl, e17', kC1_v, if_pos rfl, e18', kC1_v, if_neg (by decide), gu4, obs, rn, kC1_v, if_pos (by decide)]
      · skip
        obtain ⟨e, rfl⟩ : ∃ e, d = e + 8 := ⟨d - 8, by omega⟩
        obtain ⟨t1, a1, b1, c1⟩ := R_word hB hN (e + 5) b h0 T
        rw [h0'] at b1 c1
        obtain ⟨t2, xc, a2, b2, yc, zc, c2⟩ := R_stands hB hN (e + 5) b hs b1 HW_34
        rw [ess] at b2 yc zc
        have P2 : RP m n g u t2 := RP_k (RP_k P a1) a2
        rw [yc hq] at c2
        obtain ⟨t3, a3, b3, c3⟩ := R_pass hB hN (e + 5) b hs b2
        have c3' : vcall (e + 7) m_R_pass [.ref 30] (mS b t2) = some (.inl none, mS b t3) := c3
        have P3 : RP m n g u t3 := RP_k P2 a3
        have g22 : ∀ t : rT, gFi (mS b t) 30 11 22 = some (t.1 22) := fun t => gFi_at mS_30 rfl
        have g23 : ∀ t : rT, gFi (mS b t) 30 11 23 = some (t.1 23) := fun t => gFi_at mS_30 rfl
        obtain ⟨t4, a4, b4, c4⟩ := R_num_y hB hN (e + 4) b b0_ b3 P3.1 n0.1 (m_1 h8) n0.2.1 n0.2.2
        have c4' : vcall (e + 7) m_R_readNumber [.ref 30, .int 0, .int (Int32.ofNat m - 1)] (mS b t3) = _ := c4
        have P4 : RP m n g u t4 := RP_k P3 a4
        obtain ⟨t9, a9, b9, c9⟩ := hR (e + 4) b t4 b4 P4.1
        have c9' : vcall (e + 7) m_R_readNumber [.ref 30, .int 0, .int (9)] (mS b t4) = _ := c9
        have hb9 := FR_b b9 hp
        refine ⟨t9, ((((a1.tr a2).tr a3).up (by decide) (by decide)).tr (a4.up (by decide) (by decide))).tr (a9.up (by decide) (by decide)), b9, (vR rfl).trans ((B_R_readStep_0 _ _ _).trans ?_)⟩
        rw [c1, kC1_v, c2, kC1_v, if_neg (by decide), c3', kC0_v, g22, obs, P3.2.2.2.1, c4', kC1_v, c9', kC1_v, R_tells_b (e + 5) b hb9, kC0_v, B_R_readStep_286, R_sign_b (e + 5) b hb9, kC0_v]
  · refine Or.inr ⟨κ, p, hκ, hp, fun d M mm H L s r c l4 l5 hd D o T P hc => ?_, fun d b τ a0 hd h0 h0' T P => ?_⟩
    · skip
      obtain ⟨e, rfl⟩ : ∃ e, d = e + 8 := ⟨d - 8, by omega⟩
      obtain ⟨s1, k1, k2, k3, k4, k5⟩ := X_wkW hB hN h150 e (M := M) (mm := mm) (H := H) (r := r) (i := i) D o ha T P hg hc pc1 pc2 hw l4 l5
      have P1 := XP_k P k1
      obtain ⟨x15, y15, z15, e15⟩ := T_is hB hN (e + 5) (b := aL M mm (wkL M r ++ []) H) D k2 k3 he (by omega) HW_15
      have e15' : vcall (e + 7) m_Tp_wordIs [.ref 1, .ref (pSB + 15)] (kQ M mm H L s1 r []) = some (.inl (some (.int x15)), kQ M mm H L s1 r []) := e15
      rw [z15 (fun h => absurd (wq_x hq h) (by decide))] at e15'
      obtain ⟨x16, y16, z16, e16⟩ := T_is hB hN (e + 5) (b := aL M mm (wkL M r ++ []) H) D k2 k3 he (by omega) HW_16
      have e16' : vcall (e + 7) m_Tp_wordIs [.ref 1, .ref (pSB + 16)] (kQ M mm H L s1 r []) = some (.inl (some (.int x16)), kQ M mm H L s1 r []) := e16
      rw [z16 (fun h => absurd (wq_x hq h) (by decide))] at e16'
      obtain ⟨x17, y17, z17, e17⟩ := T_is hB hN (e + 5) (b := aL M mm (wkL M r ++ []) H) D k2 k3 he (by omega) HW_17
      have e17' : vcall (e + 7) m_Tp_wordIs [.ref 1, .ref (pSB + 17)] (kQ M mm H L s1 r []) = some (.inl (some (.int x17)), kQ M mm H L s1 r []) := e17
      rw [z17 (fun h => absurd (wq_x hq h) (by decide))] at e17'
      obtain ⟨x18, y18, z18, e18⟩ := T_is hB hN (e + 5) (b := aL M mm (wkL M r ++ []) H) D k2 k3 he (by omega) HW_18
      have e18' : vcall (e + 7) m_Tp_wordIs [.ref 1, .ref (pSB + 18)] (kQ M mm H L s1 r []) = some (.inl (some (.int x18)), kQ M mm H L s1 r []) := e18
      rw [y18 hq] at e18'
      have gu4 : gFi (kQ M mm H L s1 r []) (aU L) 7 4 = some (Int32.ofNat m) := P1.1 ▸ (xu_gF D).2.2.2.2.1
      have gu5 : gFi (kQ M mm H L s1 r []) (aU L) 7 5 = some (Int32.ofNat n) := P1.2.1 ▸ (xu_gF D).2.2.2.2.2.1
      obtain ⟨s9, u1, u2, u3⟩ := hX (e + 3) (aL M mm (wkL M r ++ []) H) L s1 D k2
      have u3' : vcall (e + 6) m_Tp_readNumber [.ref 1, .int 0, .int (Int32.ofNat m - 1)] (kQ M mm H L s1 r []) = some (.inl (some (.int (-1))), kQ M mm H L s9 r []) := u3
      have rn : vcall (e + 7) m_Wk_readNumbered [.ref M, .ref 1, .int 3, .int (Int32.ofNat m), .int (10)] (kQ M mm H L s1 r []) = some (.inl (some (.int 0)), kQ M mm H L s9 r []) := by
        refine (kQ_v o rfl).trans ((B_Wk_readNumbered_0 _ _ _ _ _ _ _).trans ?_)
        rw [u3', kC1_v, if_neg (fun h => h rfl)]
      refine ⟨s9, r, (k1.up (by decide) (by decide)).tr (u1.up (by decide) (by decide)), u2, k4 _ ((kQ_v o rfl).trans ((B_Wk_readStep_0 _ _ _ _ _).trans ?_))⟩
      rw [e15', kC1_v, if_pos rfl, e16', kC1_v, if_pos rfl, e17', kC1_v, if_pos rfl, e18', kC1_v, if_neg (by decide), gu4, obs, rn, kC1_v, if_pos (by decide)]
    · skip
      obtain ⟨e, rfl⟩ : ∃ e, d = e + 8 := ⟨d - 8, by omega⟩
      obtain ⟨t1, a1, b1, c1⟩ := R_word hB hN (e + 5) b h0 T
      rw [h0'] at b1 c1
      obtain ⟨t2, xc, a2, b2, yc, zc, c2⟩ := R_stands hB hN (e + 5) b hs b1 HW_34
      rw [ess] at b2 yc zc
      have P2 : RP m n g u t2 := RP_k (RP_k P a1) a2
      rw [yc hq] at c2
      obtain ⟨t3, a3, b3, c3⟩ := R_pass hB hN (e + 5) b hs b2
      have c3' : vcall (e + 7) m_R_pass [.ref 30] (mS b t2) = some (.inl none, mS b t3) := c3
      have P3 : RP m n g u t3 := RP_k P2 a3
      have g22 : ∀ t : rT, gFi (mS b t) 30 11 22 = some (t.1 22) := fun t => gFi_at mS_30 rfl
      have g23 : ∀ t : rT, gFi (mS b t) 30 11 23 = some (t.1 23) := fun t => gFi_at mS_30 rfl
      obtain ⟨t9, a9, b9, c9⟩ := hR (e + 4) b t3 b3 P3.1
      have c9' : vcall (e + 7) m_R_readNumber [.ref 30, .int 0, .int (Int32.ofNat m - 1)] (mS b t3) = _ := c9
      have hb9 := FR_b b9 hp
      refine ⟨t9, (((a1.tr a2).tr a3).up (by decide) (by decide)).tr (a9.up (by decide) (by decide)), b9, (vR rfl).trans ((B_R_readStep_0 _ _ _).trans ?_)⟩
      rw [c1, kC1_v, c2, kC1_v, if_neg (by decide), c3', kC0_v, g22, obs, P3.2.2.2.1, c9', kC1_v, R_num_b (e + 5) b hb9, kC1_v, R_tells_b (e + 5) b hb9, kC0_v, B_R_readStep_286, R_sign_b (e + 5) b hb9, kC0_v]
theorem ST_day {B : Nat → Nat} {N : Nat} (hB : ∀ i, B i < 256) (hN : N ≤ 600) (h150 : N ≤ 150) {m n a g i u : Nat} (h8 : m ≤ 8) (h6 : n ≤ 6) (ha : a ≤ N) (hg : g ≤ 6) (pc1 : ¬ (sk B N a < N ∧ B (sk B N a) = 93 ∧ 0 < g)) (pc2 : ¬ (¬ sk B N a < N ∧ g = 0)) (hio : 4 * i + 3 * g ≤ a) (hu : u ≤ i) (hq : wq B (sk B N a) (we B N (sk B N a) - sk B N a) w_day 3) : STO B N m n 8 a g i u := by
  have hs := sk_le (B := B) ha
  have hsg := sk_ge (B := B) ha
  have ess := sk_sk (B := B) ha
  have he : we B N (sk B N a) ≤ N := rn_le hs
  have hge : sk B N a ≤ we B N (sk B N a) := rn_ge hs
  have hlen := hq.1
  have hw : sk B N a < we B N (sk B N a) := by omega
  have b0_ : we B N (sk B N a) ≤ N := he
  rcases TL hB hN (m := m) (n := n) (a := we B N (sk B N a)) (g := g) (i := i) (u := u) b0_ (by omega) (by omega) (Int32.ofNat 4) (Int32.ofNat 0) (Int32.ofNat 0) with ⟨a', z1, z2, zX, zR⟩ | ⟨κ, p, hκ, hp, zX, zR⟩
  · refine Or.inl ⟨a', i + 1, u + 1, fun _ => 4, fun _ => 0, fun _ => 0, fun j => if j = 3 * u then 4 else if j = 3 * u + 1 then 0 else 0, 1, by omega, z2, by omega, by omega, by omega, Blk_1 ?_, fun d M mm H L s r c l4 l5 hd D o T P hc => ?_, fun d b τ a0 hd h0 h0' T P => ?_⟩
    · exact ⟨by decide, fun _ => rfl, by rw [if_neg (by decide), if_pos rfl]; exact trivial⟩
    · skip
      obtain ⟨e, rfl⟩ : ∃ e, d = e + 8 := ⟨d - 8, by omega⟩
      obtain ⟨s1, k1, k2, k3, k4, k5⟩ := X_wkW hB hN h150 e (M := M) (mm := mm) (H := H) (r := r) (i := i) D o ha T P hg hc pc1 pc2 hw l4 l5
      have P1 := XP_k P k1
      obtain ⟨x15, y15, z15, e15⟩ := T_is hB hN (e + 5) (b := aL M mm (wkL M r ++ []) H) D k2 k3 he (by omega) HW_15
      have e15' : vcall (e + 7) m_Tp_wordIs [.ref 1, .ref (pSB + 15)] (kQ M mm H L s1 r []) = some (.inl (some (.int x15)), kQ M mm H L s1 r []) := e15
      rw [z15 (fun h => absurd (wq_x hq h) (by decide))] at e15'
      obtain ⟨x16, y16, z16, e16⟩ := T_is hB hN (e + 5) (b := aL M mm (wkL M r ++ []) H) D k2 k3 he (by omega) HW_16
      have e16' : vcall (e + 7) m_Tp_wordIs [.ref 1, .ref (pSB + 16)] (kQ M mm H L s1 r []) = some (.inl (some (.int x16)), kQ M mm H L s1 r []) := e16
      rw [z16 (fun h => absurd (wq_x hq h) (by decide))] at e16'
      obtain ⟨x17, y17, z17, e17⟩ := T_is hB hN (e + 5) (b := aL M mm (wkL M r ++ []) H) D k2 k3 he (by omega) HW_17
      have e17' : vcall (e + 7) m_Tp_wordIs [.ref 1, .ref (pSB + 17)] (kQ M mm H L s1 r []) = some (.inl (some (.int x17)), kQ M mm H L s1 r []) := e17
      rw [z17 (fun h => absurd (wq_x hq h) (by decide))] at e17'
      obtain ⟨x18, y18, z18, e18⟩ := T_is hB hN (e + 5) (b := aL M mm (wkL M r ++ []) H) D k2 k3 he (by omega) HW_18
      have e18' : vcall (e + 7) m_Tp_wordIs [.ref 1, .ref (pSB + 18)] (kQ M mm H L s1 r []) = some (.inl (some (.int x18)), kQ M mm H L s1 r []) := e18
      rw [z18 (fun h => absurd (wq_x hq h) (by decide))] at e18'
      obtain ⟨x19, y19, z19, e19⟩ := T_is hB hN (e + 5) (b := aL M mm (wkL M r ++ []) H) D k2 k3 he (by omega) HW_19
      have e19' : vcall (e + 7) m_Tp_wordIs [.ref 1, .ref (pSB + 19)] (kQ M mm H L s1 r []) = some (.inl (some (.int x19)), kQ M mm H L s1 r []) := e19
      rw [y19 hq] at e19'
      have gu4 : gFi (kQ M mm H L s1 r []) (aU L) 7 4 = some (Int32.ofNat m) := P1.1 ▸ (xu_gF D).2.2.2.2.1
      have gu5 : gFi (kQ M mm H L s1 r []) (aU L) 7 5 = some (Int32.ofNat n) := P1.2.1 ▸ (xu_gF D).2.2.2.2.2.1
      obtain ⟨s9, u1, u2, u3⟩ := zX (e + 7) M mm H L s1 r (by omega) D o k2 P1
      obtain ⟨o1, o2, o3⟩ := wkA_o (XP_k P1 u1) 4 0 0
      refine ⟨s9, wkA r i (Int32.ofNat 4) (Int32.ofNat 0) (Int32.ofNat 0), c + 1, _, _, k1.tr (u1.up (by decide) (by decide)), u2, o1, o2, o3, by omega, k5 _ ((kQ_v o rfl).trans ((B_Wk_readStep_0 _ _ _ _ _).trans ?_))⟩
      rw [e15', kC1_v, if_pos rfl, e16', kC1_v, if_pos rfl, e17', kC1_v, if_pos rfl, e18', kC1_v, if_pos rfl, e19', kC1_v, if_neg (by decide)]
      exact u3
    · skip
      obtain ⟨e, rfl⟩ : ∃ e, d = e + 8 := ⟨d - 8, by omega⟩
      obtain ⟨t1, a1, b1, c1⟩ := R_word hB hN (e + 5) b h0 T
      rw [h0'] at b1 c1
      obtain ⟨t2, xc, a2, b2, yc, zc, c2⟩ := R_stands hB hN (e + 5) b hs b1 HW_34
      rw [ess] at b2 yc zc
      have P2 : RP m n g u t2 := RP_k (RP_k P a1) a2
      rw [zc (fun h => absurd (wq_x hq h) (by decide))] at c2
      obtain ⟨t3, a3, b3, c3⟩ := R_pass hB hN (e + 5) b hs b2
      have c3' : vcall (e + 7) m_R_pass [.ref 30] (mS b t2) = some (.inl none, mS b t3) := c3
      have P3 : RP m n g u t3 := RP_k P2 a3
      have g22 : ∀ t : rT, gFi (mS b t) 30 11 22 = some (t.1 22) := fun t => gFi_at mS_30 rfl
      have g23 : ∀ t : rT, gFi (mS b t) 30 11 23 = some (t.1 23) := fun t => gFi_at mS_30 rfl
      obtain ⟨t9, a9, b9, d9, f9, c9⟩ := zR (e + 7) b t3 (Int32.ofNat (wv B (sk B N a) (we B N (sk B N a) - sk B N a))) mk0 mk0 (by omega) b3 P3
      obtain ⟨o1, o2⟩ := rkA_o (τ := t3) (u := u) 4 0 0 f9
      refine ⟨t9, (((a1.tr a2).tr a3).up (by decide) (by decide)).tr (a9.up (by decide) (by decide)), b9, d9, fun j hj => by rw [o1 j hj, a3.2 46 (by decide) , a2.2 46 (by decide) , a1.2 46 (by decide)], o2, (vR rfl).trans ((B_R_readStep_0 _ _ _).trans ?_)⟩
      rw [c1, kC1_v, c2, kC1_v, if_pos rfl, R_of (e + 6) _ HW_33 (by decide), kC1_v, if_neg (by rw [word_eq hB hN hs HW_33 (by decide) (by decide)]; exact fun h => h hq), c3', kC0_v]
      exact c9
  · refine Or.inr ⟨κ, p, hκ, hp, fun d M mm H L s r c l4 l5 hd D o T P hc => ?_, fun d b τ a0 hd h0 h0' T P => ?_⟩
    · skip
      obtain ⟨e, rfl⟩ : ∃ e, d = e + 8 := ⟨d - 8, by omega⟩
      obtain ⟨s1, k1, k2, k3, k4, k5⟩ := X_wkW hB hN h150 e (M := M) (mm := mm) (H := H) (r := r) (i := i) D o ha T P hg hc pc1 pc2 hw l4 l5
      have P1 := XP_k P k1
      obtain ⟨x15, y15, z15, e15⟩ := T_is hB hN (e + 5) (b := aL M mm (wkL M r ++ []) H) D k2 k3 he (by omega) HW_15
      have e15' : vcall (e + 7) m_Tp_wordIs [.ref 1, .ref (pSB + 15)] (kQ M mm H L s1 r []) = some (.inl (some (.int x15)), kQ M mm H L s1 r []) := e15
      rw [z15 (fun h => absurd (wq_x hq h) (by decide))] at e15'
      obtain ⟨x16, y16, z16, e16⟩ := T_is hB hN (e + 5) (b := aL M mm (wkL M r ++ []) H) D k2 k3 he (by omega) HW_16
      have e16' : vcall (e + 7) m_Tp_wordIs [.ref 1, .ref (pSB + 16)] (kQ M mm H L s1 r []) = some (.inl (some (.int x16)), kQ M mm H L s1 r []) := e16
      rw [z16 (fun h => absurd (wq_x hq h) (by decide))] at e16'
      obtain ⟨x17, y17, z17, e17⟩ := T_is hB hN (e + 5) (b := aL M mm (wkL M r ++ []) H) D k2 k3 he (by omega) HW_17
      have e17' : vcall (e + 7) m_Tp_wordIs [.ref 1, .ref (pSB + 17)] (kQ M mm H L s1 r []) = some (.inl (some (.int x17)), kQ M mm H L s1 r []) := e17
      rw [z17 (fun h => absurd (wq_x hq h) (by decide))] at e17'
      obtain ⟨x18, y18, z18, e18⟩ := T_is hB hN (e + 5) (b := aL M mm (wkL M r ++ []) H) D k2 k3 he (by omega) HW_18
      have e18' : vcall (e + 7) m_Tp_wordIs [.ref 1, .ref (pSB + 18)] (kQ M mm H L s1 r []) = some (.inl (some (.int x18)), kQ M mm H L s1 r []) := e18
      rw [z18 (fun h => absurd (wq_x hq h) (by decide))] at e18'
      obtain ⟨x19, y19, z19, e19⟩ := T_is hB hN (e + 5) (b := aL M mm (wkL M r ++ []) H) D k2 k3 he (by omega) HW_19
      have e19' : vcall (e + 7) m_Tp_wordIs [.ref 1, .ref (pSB + 19)] (kQ M mm H L s1 r []) = some (.inl (some (.int x19)), kQ M mm H L s1 r []) := e19
      rw [y19 hq] at e19'
      have gu4 : gFi (kQ M mm H L s1 r []) (aU L) 7 4 = some (Int32.ofNat m) := P1.1 ▸ (xu_gF D).2.2.2.2.1
      have gu5 : gFi (kQ M mm H L s1 r []) (aU L) 7 5 = some (Int32.ofNat n) := P1.2.1 ▸ (xu_gF D).2.2.2.2.2.1
      obtain ⟨s9, u1, u2, u3⟩ := zX (e + 7) M mm H L s1 r (by omega) D o k2 P1
      refine ⟨s9, wkA r i (Int32.ofNat 4) (Int32.ofNat 0) (Int32.ofNat 0), (k1.up (by decide) (by decide)).tr (u1.up (by decide) (by decide)), u2, k4 _ ((kQ_v o rfl).trans ((B_Wk_readStep_0 _ _ _ _ _).trans ?_))⟩
      rw [e15', kC1_v, if_pos rfl, e16', kC1_v, if_pos rfl, e17', kC1_v, if_pos rfl, e18', kC1_v, if_pos rfl, e19', kC1_v, if_neg (by decide)]
      exact u3
    · skip
      obtain ⟨e, rfl⟩ : ∃ e, d = e + 8 := ⟨d - 8, by omega⟩
      obtain ⟨t1, a1, b1, c1⟩ := R_word hB hN (e + 5) b h0 T
      rw [h0'] at b1 c1
      obtain ⟨t2, xc, a2, b2, yc, zc, c2⟩ := R_stands hB hN (e + 5) b hs b1 HW_34
      rw [ess] at b2 yc zc
      have P2 : RP m n g u t2 := RP_k (RP_k P a1) a2
      rw [zc (fun h => absurd (wq_x hq h) (by decide))] at c2
      obtain ⟨t3, a3, b3, c3⟩ := R_pass hB hN (e + 5) b hs b2
      have c3' : vcall (e + 7) m_R_pass [.ref 30] (mS b t2) = some (.inl none, mS b t3) := c3
      have P3 : RP m n g u t3 := RP_k P2 a3
      have g22 : ∀ t : rT, gFi (mS b t) 30 11 22 = some (t.1 22) := fun t => gFi_at mS_30 rfl
      have g23 : ∀ t : rT, gFi (mS b t) 30 11 23 = some (t.1 23) := fun t => gFi_at mS_30 rfl
      obtain ⟨t9, a9, b9, c9⟩ := zR (e + 7) b t3 (Int32.ofNat (wv B (sk B N a) (we B N (sk B N a) - sk B N a))) mk0 mk0 (by omega) b3 P3
      refine ⟨t9, (((a1.tr a2).tr a3).up (by decide) (by decide)).tr (a9.up (by decide) (by decide)), b9, (vR rfl).trans ((B_R_readStep_0 _ _ _).trans ?_)⟩
      rw [c1, kC1_v, c2, kC1_v, if_pos rfl, R_of (e + 6) _ HW_33 (by decide), kC1_v, if_neg (by rw [word_eq hB hN hs HW_33 (by decide) (by decide)]; exact fun h => h hq), c3', kC0_v]
      exact c9
theorem ST_none {B : Nat → Nat} {N : Nat} (hB : ∀ i, B i < 256) (hN : N ≤ 600) (h150 : N ≤ 150) {m n a g i u : Nat} (h8 : m ≤ 8) (h6 : n ≤ 6) (ha : a ≤ N) (hg : g ≤ 6) (pc1 : ¬ (sk B N a < N ∧ B (sk B N a) = 93 ∧ 0 < g)) (pc2 : ¬ (¬ sk B N a < N ∧ g = 0)) (hio : 4 * i + 3 * g ≤ a) (hu : u ≤ i) (h15 : ¬ wq B (sk B N a) (we B N (sk B N a) - sk B N a) w_sit 3) (h16 : ¬ wq B (sk B N a) (we B N (sk B N a) - sk B N a) w_rise 4) (h17 : ¬ wq B (sk B N a) (we B N (sk B N a) - sk B N a) w_feed 4) (h18 : ¬ wq B (sk B N a) (we B N (sk B N a) - sk B N a) w_curtain 7) (h19 : ¬ wq B (sk B N a) (we B N (sk B N a) - sk B N a) w_day 3) (h20 : ¬ wq B (sk B N a) (we B N (sk B N a) - sk B N a) w_again 5) : STO B N m n 8 a g i u := by
  have hs := sk_le (B := B) ha
  have ess := sk_sk (B := B) ha
  have he : we B N (sk B N a) ≤ N := rn_le hs
  have hge : sk B N a ≤ we B N (sk B N a) := rn_ge hs
  refine Or.inr ⟨1, sk B N a, by decide, by omega, fun d M mm H L s r c l4 l5 hd D o T P hc => ?_, fun d b τ a0 hd h0 h0' T P => ?_⟩
  · obtain ⟨e, rfl⟩ : ∃ e, d = e + 8 := ⟨d - 8, by omega⟩
    by_cases hw : sk B N a < we B N (sk B N a)
    · obtain ⟨s1, k1, k2, k3, k4, k5⟩ := X_wkW hB hN h150 e (M := M) (mm := mm) (H := H) (r := r) (i := i) D o ha T P hg hc pc1 pc2 hw l4 l5
      obtain ⟨x15, y15, z15, e15⟩ := T_is hB hN (e + 5) (b := aL M mm (wkL M r ++ []) H) D k2 k3 he (by omega) HW_15
      have e15' : vcall (e + 7) m_Tp_wordIs [.ref 1, .ref (pSB + 15)] (kQ M mm H L s1 r []) = some (.inl (some (.int x15)), kQ M mm H L s1 r []) := e15
      rw [z15 h15] at e15'
      obtain ⟨x16, y16, z16, e16⟩ := T_is hB hN (e + 5) (b := aL M mm (wkL M r ++ []) H) D k2 k3 he (by omega) HW_16
      have e16' : vcall (e + 7) m_Tp_wordIs [.ref 1, .ref (pSB + 16)] (kQ M mm H L s1 r []) = some (.inl (some (.int x16)), kQ M mm H L s1 r []) := e16
      rw [z16 h16] at e16'
      obtain ⟨x17, y17, z17, e17⟩ := T_is hB hN (e + 5) (b := aL M mm (wkL M r ++ []) H) D k2 k3 he (by omega) HW_17
      have e17' : vcall (e + 7) m_Tp_wordIs [.ref 1, .ref (pSB + 17)] (kQ M mm H L s1 r []) = some (.inl (some (.int x17)), kQ M mm H L s1 r []) := e17
      rw [z17 h17] at e17'
      obtain ⟨x18, y18, z18, e18⟩ := T_is hB hN (e + 5) (b := aL M mm (wkL M r ++ []) H) D k2 k3 he (by omega) HW_18
      have e18' : vcall (e + 7) m_Tp_wordIs [.ref 1, .ref (pSB + 18)] (kQ M mm H L s1 r []) = some (.inl (some (.int x18)), kQ M mm H L s1 r []) := e18
      rw [z18 h18] at e18'
      obtain ⟨x19, y19, z19, e19⟩ := T_is hB hN (e + 5) (b := aL M mm (wkL M r ++ []) H) D k2 k3 he (by omega) HW_19
      have e19' : vcall (e + 7) m_Tp_wordIs [.ref 1, .ref (pSB + 19)] (kQ M mm H L s1 r []) = some (.inl (some (.int x19)), kQ M mm H L s1 r []) := e19
      rw [z19 h19] at e19'
      obtain ⟨x20, y20, z20, e20⟩ := T_is hB hN (e + 5) (b := aL M mm (wkL M r ++ []) H) D k2 k3 he (by omega) HW_20
      have e20' : vcall (e + 7) m_Tp_wordIs [.ref 1, .ref (pSB + 20)] (kQ M mm H L s1 r []) = some (.inl (some (.int x20)), kQ M mm H L s1 r []) := e20
      rw [z20 h20] at e20'
      have fa : vcall (e + 7) m_Tp_failAtStart [.ref 1, .int 1] (kQ M mm H L s1 r []) = some (.inl (some (.int 0)), kQ M mm H L (wF (wF s1 23 1) 22 (s1.1 26)) r []) := T_failAt (e + 6) D 1
      refine ⟨wF (wF s1 23 1) 22 (s1.1 26), r, ((k1.up (by decide) (by decide)).wF (by decide) _).wF (by decide) _, ⟨rfl, k3⟩, k4 _ ((kQ_v o rfl).trans ((B_Wk_readStep_0 _ _ _ _ _).trans ?_))⟩
      rw [e15', kC1_v, if_pos rfl, e16', kC1_v, if_pos rfl, e17', kC1_v, if_pos rfl, e18', kC1_v, if_pos rfl, e19', kC1_v, if_pos rfl, e20', kC1_v, if_pos rfl, fa, kC1_v, if_pos (by decide)]
    · obtain ⟨s1, k1, k2, k3⟩ := X_wk52 hB hN h150 (e + 6) (M := M) (mm := mm) (H := H) (r := r) (i := i) D o ha T P hg hc pc1 pc2 l4 l5
      obtain ⟨s2, j1, j2, j3⟩ := T_word_n hB hN (e + 5) (b := aL M mm (wkL M r ++ []) H) D hs k2 (by rw [ess]; exact hw)
      rw [ess] at j2
      have j3' : vcall (e + 8) m_Tp_readWord [.ref 1] (kQ M mm H L s1 r []) = some (.inl (some (.int 0)), kQ M mm H L s2 r []) := j3
      have k3' : den (e + 8) m_Wk_read 2 [.ref M, .ref 1, .ref (aU L), .int (Int32.ofNat c), l4, l5] [] (kQ M mm H L s r []) = den (e + 8) m_Wk_read 52 [.ref M, .ref 1, .ref (aU L), .int (Int32.ofNat c), .int (pkX B N (sk B N a)), l5] [] (kQ M mm H L s1 r []) := k3
      refine ⟨s2, r, (k1.up (by decide) (by decide)).tr j1, j2, k3'.trans ?_⟩
      rw [B_Wk_read_52, j3', kC1_v, if_pos rfl, B_Wk_read_72, if_neg (fun h => h rfl)]
  · obtain ⟨e, rfl⟩ : ∃ e, d = e + 8 := ⟨d - 8, by omega⟩
    obtain ⟨t1, a1, b1, c1⟩ := R_word hB hN (e + 5) b h0 T
    rw [h0'] at b1 c1
    obtain ⟨t2, xc, a2, b2, yc, zc, c2⟩ := R_stands hB hN (e + 5) b hs b1 HW_34
    rw [ess] at b2 yc zc
    rw [zc h18] at c2
    have P2 : RP m n g u t2 := RP_k (RP_k P a1) a2
    have g4 : gFi (mS b t2) 30 11 4 = some (Int32.ofNat (sk B N a)) := (gFi_at mS_30 rfl).trans (congrArg some b2.2.1)
    have f1 : FR (wF (wF t2 5 (Int32.ofNat (sk B N a))) 6 1) 1 (sk B N a) := ⟨rfl, rfl⟩
    refine ⟨wF (wF t2 5 (Int32.ofNat (sk B N a))) 6 1, (((a1.tr a2).up (by decide) (by decide)).wF (by decide) _).wF (by decide) _, f1, (vR rfl).trans ((B_R_readStep_0 _ _ _).trans ?_)⟩
    rw [c1, kC1_v, c2, kC1_v, if_pos rfl, R_of (e + 6) _ HW_33 (by decide), kC1_v, if_pos (by rw [word_eq hB hN hs HW_33 (by decide) (by decide)]; exact h19), R_of (e + 6) _ HW_35 (by decide), kC1_v, if_pos (by rw [word_eq hB hN hs HW_35 (by decide) (by decide)]; exact h15), R_of (e + 6) _ HW_36 (by decide), kC1_v, if_neg (by rw [word_eq hB hN hs HW_36 (by decide) (by decide)]; exact h16), R_of (e + 6) _ HW_37 (by decide), kC1_v, if_pos (by rw [word_eq hB hN hs HW_37 (by decide) (by decide)]; exact h17), R_of (e + 6) _ HW_38 (by decide), kC1_v, if_pos (by rw [word_eq hB hN hs HW_38 (by decide) (by decide)]; exact h20), g4, obs, R_wrong (e + 6) b P2.1, kC0_v, B_R_readStep_286, R_sign_b (e + 5) b (FR_b f1 (by omega)), kC0_v]
