/-! SUMS AND PRODUCTS of a law, by both -/
/-- codes behind a value that leave one value -/
def Pc (b : Nat) (nc : List Nat) : Prop := ∀ rest h, h + b ≤ 64 → hgt (nc ++ rest) (h + 1) = hgt rest (h + 1)
theorem Pc_0 (b : Nat) : Pc b [] := fun _ _ _ => rfl
theorem Pc_j {x y : List Nat} {b c : Nat} (hx : Pu b x) (hy : Pc (b + 1) y) (h1 : 1008 ≤ c) (h2 : c < 1015) : Pc (b + 1) (x ++ ([c] ++ y)) := fun rest h hh => by
  rw [List.append_assoc, hx _ (h + 1) (by omega), List.append_assoc]
  show hgt (c :: (y ++ rest)) (h + 2) = _
  rw [hgt_j h1 h2]
  exact hy rest h hh
theorem Pu_c {x y : List Nat} {b : Nat} (hx : Pu b x) (hy : Pc (b + 1) y) : Pu (b + 1) (x ++ y) := fun rest h hh => by
  rw [List.append_assoc, hx _ h (by omega)]
  exact hy rest h hh
theorem LSTEP {B : Nat → Nat} {N : Nat} (hB : ∀ i, B i < 256) (hN : N ≤ 600) (h150 : N ≤ 150) {op a cx bp dx : Nat} {cr : Int32} {fX qX nX' : Nat → Nat → pS → pR} {fR qR nR : Nat → pS → pR} (ha : a ≤ N) (hg : sk B N a < N) (hXc : ∀ d M mm H L s r, 3 ≤ d → Dj L → (∀ j, M ≤ j → Ot L j) → TX B N a s → ∃ s1, Kf [25] [] s s1 ∧ TX B N (sk B N a) s1 ∧ fX d M (lQ M mm H L s r) = kC0 (vcall d m_Tp_skip [.ref 1] (lQ M mm H L s1 r)) (fun s1 => kC1 (qX d M s1) (fun v3 s2 => (if ¬ (v3 : Int32) = 0 then kC1 (vcall d m_Lw_add [.ref M, .int (Int32.ofNat cx)] s2) (fun _ s3 => nX' d M s3) xp else some (.inl (some (.int 0)), s2))) xp) xp) (hRc : ∀ d b τ, 3 ≤ d → TR B N a τ → τ.1 5 = -1 → ∃ t1, Kf [4] [] τ t1 ∧ TR B N (sk B N a) t1 ∧ fR d (mS b τ) = ((gFi (mS b t1) 30 11 4).bind fun v1 => ((pF (mS b t1) 30 11 4 (.int (v1 + 1))).bind fun s2 => kC0 (qR d s2) (fun s3 => kC0 (vcall d m_R_emit [.ref 30, .int cr, .int 0] s3) (fun s4 => nR d s4) xp) xp))) (hP : OUT B N (sk B N a + 1) op op 1 dx (Pu bp) qX qR) (h1 : 1008 ≤ cx) (h2 : cx < 1015) (hr : cr = Int32.ofNat (rWhat cx)) (ih : ∀ a1, sk B N a + 2 ≤ a1 → a1 ≤ N → OUT B N a1 op op 0 dx (Pc (bp + 1)) nX' nR) (nb : NB dx nR) (hdx : 6 ≤ dx) : OUT B N a op op 0 dx (Pc (bp + 1)) fX fR := by
  have hsg := sk_ge (B := B) ha
  have hz : rOf cx = 0 := by unfold rOf; rw [if_neg (by omega), if_neg (by omega)]
  have g4 : ∀ (b : pS) (τ : rT), gFi (mS b τ) 30 11 4 = some (τ.1 4) := fun b τ => gFi_at mS_30 rfl
  -- how both go up to what comes behind the sign
  have hX0 : ∀ d M mm H L s r, 3 ≤ d → Dj L → (∀ j, M ≤ j → Ot L j) → TX B N a s → ∃ s1, Kf [25] [] s s1 ∧ TX B N (sk B N a + 1) s1 ∧ fX d M (lQ M mm H L s r) = kC1 (qX d M (lQ M mm H L s1 r)) (fun v3 s2 => (if ¬ (v3 : Int32) = 0 then kC1 (vcall d m_Lw_add [.ref M, .int (Int32.ofNat cx)] s2) (fun _ s3 => nX' d M s3) xp else some (.inl (some (.int 0)), s2))) xp := fun d M mm H L s r hd D o T => by
    obtain ⟨s1, k1, k2, k3⟩ := hXc d M mm H L s r hd D o T
    obtain ⟨e, rfl⟩ : ∃ e, d = e + 1 := ⟨d - 1, by omega⟩
    have sp : vcall (e + 1) m_Tp_skip [.ref 1] (lQ M mm H L s1 r) = some (.inl none, lQ M mm H L (wF s1 25 (Int32.ofNat (sk B N a + 1))) r) := T_skip e D k2.2.1
    refine ⟨wF s1 25 (Int32.ofNat (sk B N a + 1)), k1.wF (by decide) _, TX_w k2, k3.trans ?_⟩
    rw [sp, kC0_v]
  have hR0 : ∀ d b τ, 3 ≤ d → TR B N a τ → τ.1 5 = -1 → ∃ t1, Kf [4] [] τ t1 ∧ TR B N (sk B N a + 1) t1 ∧ fR d (mS b τ) = kC0 (qR d (mS b t1)) (fun s3 => kC0 (vcall d m_R_emit [.ref 30, .int cr, .int 0] s3) (fun s4 => nR d s4) xp) xp := fun d b τ hd T h5 => by
    obtain ⟨t1, k1, k2, k3⟩ := hRc d b τ hd T h5
    refine ⟨wF t1 4 (Int32.ofNat (sk B N a + 1)), k1.wF (by decide) _, TR_w k2, k3.trans ?_⟩
    rw [g4, obs, k2.2.1, ii_1]
    simp only [m_pF, obs]
  rcases hP with ⟨a1, x, z1, z2, z3, z4, zX, zR⟩ | ⟨k, p, hk, hp, zX, zR⟩
  · have hX1 : ∀ d M mm H L s r cl, dx ≤ d → Dj L → (∀ j, M ≤ j → Ot L j) → TX B N a s → LX r cl → cl.length ≤ a → ∃ s1 r1, Kf [25, 26] [] s s1 ∧ TX B N a1 s1 ∧ LX r1 (cl ++ x ++ [cx]) ∧ fX d M (lQ M mm H L s r) = nX' d M (lQ M mm H L s1 r1) := fun d M mm H L s r cl hd D o T hl hc => by
      obtain ⟨s1, k1, k2, k3⟩ := hX0 d M mm H L s r (by omega) D o T
      obtain ⟨s2, r2, j1, j2, j3, j4⟩ := zX d M mm H L s1 r cl hd D o k2 hl (by omega)
      obtain ⟨e, rfl⟩ : ∃ e, d = e + 1 := ⟨d - 1, by omega⟩
      obtain ⟨r3, l1, l2⟩ := X_add e (M := M) (mm := mm) (H := H) (L := L) (s := s2) (r := r2) o j3 (by rw [List.length_append]; omega) cx
      refine ⟨s2, r3, (k1.up (by decide) (by decide)).tr j1, j2, l1, k3.trans ?_⟩
      rw [j4, kC1_v, if_pos (by decide), l2, kC1_v]
    have hR1 : ∀ d b τ cl, dx ≤ d → TR B N a τ → τ.1 5 = -1 → τ.1 7 = Int32.ofNat op → LR τ cl → cl.length ≤ a → ∃ t1, Kf [4, 7, 31] [40, 41] τ t1 ∧ TR B N a1 t1 ∧ t1.1 7 = Int32.ofNat op ∧ LR t1 (cl ++ x ++ [cx]) ∧ fR d (mS b τ) = nR d (mS b t1) := fun d b τ cl hd T h5 h7 hl hc => by
      obtain ⟨t1, k1, k2, k3⟩ := hR0 d b τ (by omega) T h5
      have h5' : t1.1 5 = -1 := (k1.1 5 (by decide)).trans h5
      obtain ⟨t2, j1, j2, j3, j4, j5⟩ := zR d b t1 cl hd k2 h5' ((k1.1 7 (by decide)).trans h7) (LR_k hl k1) (by omega)
      obtain ⟨e, rfl⟩ : ∃ e, d = e + 2 := ⟨d - 2, by omega⟩
      obtain ⟨t3, l1, l2, l3⟩ := R_emit e b (τ := t2) (cl := cl ++ x) ((j1.1 5 (by decide)).trans h5') j4 (by rw [List.length_append]; omega) cx hr (y := 0) (by rw [hz]; rfl)
      refine ⟨t3, ((k1.up (by decide) (by decide)).tr j1).tr (l1.up (by decide) (by decide)), ⟨(l1.1 3 (by decide)).trans j2.1, (l1.1 4 (by decide)).trans j2.2.1, by rw [l1.2 32 (by decide)]; exact j2.2.2⟩, (l1.1 7 (by decide)).trans j3, l2, k3.trans ?_⟩
      rw [j5, kC0_v, l3, kC0_v]
    have ln : ∀ cl : List Nat, cl.length ≤ a → (cl ++ x ++ [cx]).length ≤ a1 := fun cl hc => by
      rw [List.length_append, List.length_append]; show cl.length + x.length + 1 ≤ a1; omega
    rcases ih a1 (by omega) z2 with ⟨a', y, y1, y2, y3, y4, yX, yR⟩ | ⟨k, p, hk, hp, yX, yR⟩
    · refine Or.inl ⟨a', x ++ ([cx] ++ y), by omega, y2, ?_, Pc_j z4 y4 h1 h2, fun d M mm H L s r cl hd D o T hl hc => ?_, fun d b τ cl hd T h5 h7 hl hc => ?_⟩
      · rw [List.length_append, List.length_append]; show x.length + (1 + y.length) + a ≤ a'; omega
      · obtain ⟨s1, r1, k1, k2, k3, k4⟩ := hX1 d M mm H L s r cl hd D o T hl hc
        obtain ⟨s2, r2, j1, j2, j3, j4⟩ := yX d M mm H L s1 r1 _ hd D o k2 k3 (ln cl hc)
        refine ⟨s2, r2, k1.tr j1, j2, ?_, k4.trans j4⟩
        rw [List.append_assoc, List.append_assoc] at j3
        exact j3
      · obtain ⟨t1, k1, k2, k3, k4, k5⟩ := hR1 d b τ cl hd T h5 h7 hl hc
        obtain ⟨t2, j1, j2, j3, j4, j5⟩ := yR d b t1 _ hd k2 ((k1.1 5 (by decide)).trans h5) k3 k4 (ln cl hc)
        refine ⟨t2, k1.tr j1, j2, j3, ?_, k5.trans j5⟩
        rw [List.append_assoc, List.append_assoc] at j4
        exact j4
    · refine Or.inr ⟨k, p, hk, hp, fun d M mm H L s r cl hd D o T hl hc => ?_, fun d b τ cl hd T h5 h7 hl hc => ?_⟩
      · obtain ⟨s1, r1, k1, k2, k3, k4⟩ := hX1 d M mm H L s r cl hd D o T hl hc
        obtain ⟨s2, r2, j1, j2, j4⟩ := yX d M mm H L s1 r1 _ hd D o k2 k3 (ln cl hc)
        exact ⟨s2, r2, (k1.up (by decide) (by decide)).tr j1, j2, k4.trans j4⟩
      · obtain ⟨t1, k1, k2, k3, k4, k5⟩ := hR1 d b τ cl hd T h5 h7 hl hc
        obtain ⟨t2, j1, j2, j5⟩ := yR d b t1 _ hd k2 ((k1.1 5 (by decide)).trans h5) k3 k4 (ln cl hc)
        exact ⟨t2, (k1.up (by decide) (by decide)).tr j1, j2, k5.trans j5⟩
  · refine Or.inr ⟨k, p, hk, hp, fun d M mm H L s r cl hd D o T hl hc => ?_, fun d b τ cl hd T h5 h7 hl hc => ?_⟩
    · obtain ⟨s1, k1, k2, k3⟩ := hX0 d M mm H L s r (by omega) D o T
      obtain ⟨s2, r2, j1, j2, j4⟩ := zX d M mm H L s1 r cl hd D o k2 hl (by omega)
      refine ⟨s2, r2, (k1.up (by decide) (by decide)).tr j1, j2, k3.trans ?_⟩
      rw [j4, kC1_v, if_neg (fun h => h rfl)]
    · obtain ⟨t1, k1, k2, k3⟩ := hR0 d b τ (by omega) T h5
      obtain ⟨t2, j1, j2, j5⟩ := zR d b t1 cl hd k2 ((k1.1 5 (by decide)).trans h5) ((k1.1 7 (by decide)).trans h7) (LR_k hl k1) (by omega)
      obtain ⟨e, rfl⟩ : ∃ e, d = e + 2 := ⟨d - 2, by omega⟩
      obtain ⟨t3, l1, l2⟩ := nb (e + 2) b t2 hd (FR_b j2 hp)
      refine ⟨t3, ((k1.up (by decide) (by decide)).tr j1).tr (l1.up (by decide) (by decide)), ⟨(l1.1 6 (by decide)).trans j2.1, (l1.1 5 (by decide)).trans j2.2⟩, k3.trans ?_⟩
      rw [j5, kC0_v, R_emit_b e b (FR_b j2 hp), kC0_v, l2]
theorem LHEAD {B : Nat → Nat} {N a op bp dx : Nat} {fX qX nX' : Nat → Nat → pS → pR} {fR qR nR : Nat → pS → pR} (hXc : ∀ d M mm H L s r, (∀ j, M ≤ j → Ot L j) → fX (d + 1) M (lQ M mm H L s r) = kC1 (qX d M (lQ M mm H L s r)) (fun v3 s2 => (if ¬ (v3 : Int32) = 0 then nX' d M s2 else some (.inl (some (.int 0)), s2))) xp) (hRc : ∀ d b τ, fR (d + 1) (mS b τ) = kC0 (qR d (mS b τ)) (fun s3 => nR d s3) xp) (hP : OUT B N a op op 1 dx (Pu bp) qX qR) (ih : ∀ a1, a + 1 ≤ a1 → a1 ≤ N → OUT B N a1 op op 0 dx (Pc (bp + 1)) nX' nR) (nb : NB dx nR) : OUT B N a op op 1 (dx + 1) (Pu (bp + 1)) fX fR := by
  rcases hP with ⟨a1, x, z1, z2, z3, z4, zX, zR⟩ | ⟨k, p, hk, hp, zX, zR⟩
  · rcases ih a1 z1 z2 with ⟨a', y, y1, y2, y3, y4, yX, yR⟩ | ⟨k, p, hk, hp, yX, yR⟩
    · refine Or.inl ⟨a', x ++ y, by omega, y2, by rw [List.length_append]; omega, Pu_c z4 y4, fun d M mm H L s r cl hd D o T hl hc => ?_, fun d b τ cl hd T h5 h7 hl hc => ?_⟩
      · obtain ⟨e, rfl⟩ : ∃ e, d = e + 1 := ⟨d - 1, by omega⟩
        obtain ⟨s1, r1, k1, k2, k3, k4⟩ := zX e M mm H L s r cl (by omega) D o T hl hc
        obtain ⟨s2, r2, j1, j2, j3, j4⟩ := yX e M mm H L s1 r1 (cl ++ x) (by omega) D o k2 k3 (by rw [List.length_append]; omega)
        refine ⟨s2, r2, k1.tr j1, j2, by rw [← List.append_assoc]; exact j3, ?_⟩
        rw [hXc e M mm H L s r o, k4, kC1_v, if_pos (by decide), j4]
      · obtain ⟨e, rfl⟩ : ∃ e, d = e + 1 := ⟨d - 1, by omega⟩
        obtain ⟨t1, k1, k2, k3, k4, k5⟩ := zR e b τ cl (by omega) T h5 h7 hl hc
        obtain ⟨t2, j1, j2, j3, j4, j5⟩ := yR e b t1 (cl ++ x) (by omega) k2 ((k1.1 5 (by decide)).trans h5) k3 k4 (by rw [List.length_append]; omega)
        refine ⟨t2, k1.tr j1, j2, j3, by rw [← List.append_assoc]; exact j4, ?_⟩
        rw [hRc e b τ, k5, kC0_v, j5]
    · refine Or.inr ⟨k, p, hk, hp, fun d M mm H L s r cl hd D o T hl hc => ?_, fun d b τ cl hd T h5 h7 hl hc => ?_⟩
      · obtain ⟨e, rfl⟩ : ∃ e, d = e + 1 := ⟨d - 1, by omega⟩
        obtain ⟨s1, r1, k1, k2, k3, k4⟩ := zX e M mm H L s r cl (by omega) D o T hl hc
        obtain ⟨s2, r2, j1, j2, j4⟩ := yX e M mm H L s1 r1 (cl ++ x) (by omega) D o k2 k3 (by rw [List.length_append]; omega)
        refine ⟨s2, r2, (k1.up (by decide) (by decide)).tr j1, j2, ?_⟩
        rw [hXc e M mm H L s r o, k4, kC1_v, if_pos (by decide), j4]
      · obtain ⟨e, rfl⟩ : ∃ e, d = e + 1 := ⟨d - 1, by omega⟩
        obtain ⟨t1, k1, k2, k3, k4, k5⟩ := zR e b τ cl (by omega) T h5 h7 hl hc
        obtain ⟨t2, j1, j2, j5⟩ := yR e b t1 (cl ++ x) (by omega) k2 ((k1.1 5 (by decide)).trans h5) k3 k4 (by rw [List.length_append]; omega)
        refine ⟨t2, (k1.up (by decide) (by decide)).tr j1, j2, ?_⟩
        rw [hRc e b τ, k5, kC0_v, j5]
  · refine Or.inr ⟨k, p, hk, hp, fun d M mm H L s r cl hd D o T hl hc => ?_, fun d b τ cl hd T h5 h7 hl hc => ?_⟩
    · obtain ⟨e, rfl⟩ : ∃ e, d = e + 1 := ⟨d - 1, by omega⟩
      obtain ⟨s1, r1, k1, k2, k3⟩ := zX e M mm H L s r cl (by omega) D o T hl hc
      refine ⟨s1, r1, k1, k2, ?_⟩
      rw [hXc e M mm H L s r o, k3, kC1_v, if_neg (fun h => h rfl)]
    · obtain ⟨e, rfl⟩ : ∃ e, d = e + 1 := ⟨d - 1, by omega⟩
      obtain ⟨t1, k1, k2, k3⟩ := zR e b τ cl (by omega) T h5 h7 hl hc
      obtain ⟨t2, j1, j2⟩ := nb e b t1 (by omega) (FR_b k2 hp)
      refine ⟨t2, k1.tr (j1.up (by decide) (by decide)), ⟨(j1.1 6 (by decide)).trans k2.1, (j1.1 5 (by decide)).trans k2.2⟩, ?_⟩
      rw [hRc e b τ, k3, kC0_v, j2]
