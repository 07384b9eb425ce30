/-! WORK: the call, closed -/
theorem P_work {S : pS} {L : xA} {s τ : rT} {m n q : Nat} {l : List Nat} (I : Iv S L s τ m n q l) (hd : RD s τ) (x : Int32) : Pr m_L_work m_R_work [.int x] S := by
  have I' := I; obtain ⟨D, A, hx, hr, ho, ⟨C, Cr, ⟨q1, q2, q3⟩, hy, hdy, hdk, xl, rl, hb1, hb2⟩, ⟨⟨tk, k1, k2, k3⟩, tb, tf, tr⟩, ⟨e48, hsc⟩, rc⟩ := I'; have C' := C; have Cr' := Cr; obtain ⟨hm, h8, hn, h6⟩ := C'; obtain ⟨hm', -, hn', -⟩ := Cr'
  have hL := (cR (d := 199) (M := m_L_work) (as := [.ref 0, .int x, .ref 58]) (s := S)).trans (B_L_work_0 _ _ _ _ _)
  by_cases hr0 : 0 ≤ x ∧ x ≤ Int32.ofNat tk ∧ x ≤ Int32.ofNat 150
  · have xl6 : x < Int32.ofNat 601 := Int32.lt_of_le_of_lt hr0.2.1 (by rw [ii_lt (by omega) (by omega)]; omega)
    obtain ⟨N, hN6, rfl⟩ := ii_ex (by decide) hr0.1 xl6
    have n1 : N ≤ tk := by have := hr0.2.1; rwa [ii_le (by omega) (by omega)] at this
    have n2 : N ≤ 150 := by have := hr0.2.2; rwa [ii_le (by omega) (by omega)] at this
    obtain ⟨hB, tB1, tB2⟩ := tB_lt tb
    have hN : N ≤ 600 := by omega
    have o : ∀ j, S.1 ≤ j → Ot L j := fun j hj => Ot_lt A hj
    have TX0 : TX (tB τ) N 0 (oX s (Int32.ofNat N)) := ⟨rfl, rfl, tB2⟩
    have k0 := oX_k s (Int32.ofNat N)
    have op : vcall 198 m_Y_openText [.ref 0, .int (Int32.ofNat N), .int 150] (xS S L s) = some (.inl none, xS S L (oX s (Int32.ofNat N))) := Y_open_y 195 (c := 150) D k2 k1 (by decide) n1 n2
    have hx0 : vcall 199 m_Y_work [.ref 0, .int (Int32.ofNat N)] (xS S L s) = _ := (vY D rfl).trans (B_Y_work_0 _ _ _ _)
    obtain ⟨⟨ws, w1, w2, w3, w4, w5, w6⟩, gi, b1, b2, b3, b4⟩ := rc
    have g9 : gFi (xS S L (oX s (Int32.ofNat N))) 0 10 9 = some (Int32.ofNat ws.length) := w1 ▸ (x0_gF D).2.2.2.2.2.2.2.2.1
    rw [op, kC0_v, g9, obs] at hx0
    by_cases hf16 : ws.length = 16
    · rw [hf16] at w2 hx0
      rw [if_neg (by decide), ← hx] at hx0
      have hx1 : vcall 199 m_Y_work [.ref 0, .int (Int32.ofNat N)] S = some (.inl (some (.int (-20))), xS (aL S.1 S.2.1 [] S.2.2) L (oX s (Int32.ofNat N))) := by rw [aL_nil]; exact hx0
      refine P_bad (p := -1) I hd hL hx1 k0 rfl rfl (by decide) (by omega) (fun b => ?_)
      refine ⟨wF (oR (wF τ 0 0) (Int32.ofNat N)) 8 (-1), ?_, rfl, rfl, rfl, R_wk_full 197 b τ k3 k1 n1 n2 w2⟩
      exact (((Kf.rf _ _ τ).wF (by decide) _).tr ((oR_k (wF τ 0 0) (Int32.ofNat N)).up (by decide) (by decide))).wF (by decide) _
    have hl16 : ws.length < 16 := by omega
    have nw : vcall 198 m_Wk_init [.ref S.1] (pNew (xS S L (oX s (Int32.ofNat N))) (cO 9 [.null, .null, .null, .null, .null, .int 0, .int 0, .int 0, .int 0]) 9) = some (.inl none, kQ S.1 (S.2.1 + 271) S.2.2 L (oX s (Int32.ofNat N)) wk0 []) := by
      rw [aL_0]
      refine (c_Wk_new 197).trans ?_
      refine congrArg (fun z => some (Sum.inl none, z)) ((xS_aL o _ _).trans ?_)
      unfold kQ
      rw [List.append_nil]
      rfl
    have g0 : ∀ (mm : Nat) (s r : rT) (ex : List pC), gFr (kQ S.1 mm S.2.2 L s r ex) 0 10 0 = some 1 := fun mm s r ex => (x0_gF D).1
    have g3 : ∀ (mm : Nat) (s r : rT) (ex : List pC), gFr (kQ S.1 mm S.2.2 L s r ex) 0 10 3 = some (aU L) := fun mm s r ex => (x0_gF D).2.2.2.1
    have rd : ∀ s' r', vcall 198 m_Wk_read [.ref S.1, .ref 1, .ref (aU L)] (kQ S.1 (S.2.1 + 271) S.2.2 L s' r' []) = den 197 m_Wk_read 2 [.ref S.1, .ref 1, .ref (aU L), .int (Int32.ofNat 0), mk0, mk0] [] (kQ S.1 (S.2.1 + 271) S.2.2 L s' r' []) := fun s' r' => (kQ_v o rfl).trans (B_Wk_read_0 _ _ _ _ _)
    have e1 : (xS S L (oX s (Int32.ofNat N))).1 = S.1 := rfl
    rw [if_pos (by show Int32.ofNat ws.length < Int32.ofNat 16; rw [ii_lt (by omega) (by omega)]; exact hl16), e1, nw, kC0_v, g0, obs, g3, obs, rd] at hx0
    have XP0 : XP m n 0 0 (oX s (Int32.ofNat N)) wk0 := ⟨hm, hn, rfl, rfl⟩
    have TR0 : TR (tB τ) N 0 (wF (oR (wF τ 0 0) (Int32.ofNat N)) 36 0) := ⟨rfl, rfl, tB1⟩
    have RP0 : RP m n 0 0 (wF (oR (wF τ 0 0) (Int32.ofNat N)) 36 0) := ⟨rfl, rfl, rfl, hm', hn'⟩
    have r0 : Kf [0, 2, 3, 4, 5, 7, 8, 36] [] τ (wF (oR (wF τ 0 0) (Int32.ofNat N)) 36 0) := (((Kf.rf _ _ τ).wF (by decide) _).tr ((oR_k (wF τ 0 0) (Int32.ofNat N)).up (by decide) (by decide))).wF (by decide) _
    rcases WORKR hB hN n2 h8 h6 N 0 0 0 (by omega) (Nat.zero_le _) (Nat.zero_le _) (Nat.le_refl _) with ⟨i', u', K, F, Q, Z, f', z1, z2, z3, zX, zR⟩ | ⟨k, p, hk, hp, zX, zR⟩
    · obtain ⟨s1, r1, y1, y2, y3, y4, y5⟩ := zX 197 S.1 (S.2.1 + 271) S.2.2 L (oX s (Int32.ofNat N)) wk0 0 mk0 mk0 (by decide) D o TX0 XP0 (Nat.zero_le _)
      have ks : Kf [21, 22, 23, 24, 25, 26] [] s s1 := k0.tr (y1.up (by decide) (by decide))
      have h59 := A.1
      have A' := A
      obtain ⟨A0, A1, A2, A3, A4, A5⟩ := A'
      have lw : ∀ r, (wkL S.1 r ++ []).length = 6 := fun r => rfl
      have AB1 : AB (aL S.1 (S.2.1 + 271) (wkL S.1 r1 ++ []) S.2.2) L := ⟨by show 59 ≤ S.1 + 6; omega, by show _ ≤ S.1 + 6; omega, by show _ ≤ S.1 + 6; omega, by show _ ≤ S.1 + 6; omega, by show _ ≤ S.1 + 6; omega, by show _ ≤ S.1 + 6; omega⟩
      have mo0 : vcall 198 m_Y_momentNow [.ref 0] (kQ S.1 (S.2.1 + 271) S.2.2 L s1 r1 []) = _ := c_Y_momentNow 194 (b := aL S.1 (S.2.1 + 271) (wkL S.1 r1 ++ []) S.2.2) (s := s1) D AB1
      have mo : vcall 198 m_Y_momentNow [.ref 0] (kQ S.1 (S.2.1 + 271) S.2.2 L s1 r1 []) = some (.inl (some (.ref (S.1 + 12))), kQ S.1 (S.2.1 + 356) S.2.2 L s1 r1 (moL L s1 (S.1 + 6))) := by
        refine mo0.trans ?_
        have ea : aL (S.1 + (wkL S.1 r1 ++ []).length) (S.2.1 + 271 + 85) (moL L s1 (S.1 + 6)) (aL S.1 (S.2.1 + 271) (wkL S.1 r1 ++ []) S.2.2).2.2 = aL S.1 (S.2.1 + 356) (wkL S.1 r1 ++ [] ++ moL L s1 (S.1 + 6)) S.2.2 := aL_aL _ _ _ _ _ _
        rw [List.append_nil] at ea
        refine congrArg (fun z => some (Sum.inl (some (Value.ref (S.1 + 12))), xS z L s1)) ?_
        exact ea
      have D2 : Dj (sL L (some (S.1 + 12)) (aI L)) := sL_D D
      have o2 : ∀ j, S.1 ≤ j → Ot (sL L (some (S.1 + 12)) (aI L)) j := o
      have f8 : pF (kQ S.1 (S.2.1 + 356) S.2.2 L s1 r1 (moL L s1 (S.1 + 6))) 0 10 8 (.ref (S.1 + 12)) = some (kQ S.1 (S.2.1 + 356) S.2.2 (sL L (some (S.1 + 12)) (aI L)) s1 r1 (moL L s1 (S.1 + 6))) := x0_f8 (b := aL S.1 (S.2.1 + 356) (wkL S.1 r1 ++ moL L s1 (S.1 + 6)) S.2.2) (s := s1) D (some (S.1 + 12))
      have s9 : s1.1 9 = Int32.ofNat ws.length := (ks.1 9 (by decide)).trans w1
      have g9' : gFi (kQ S.1 (S.2.1 + 356) S.2.2 (sL L (some (S.1 + 12)) (aI L)) s1 r1 (moL L s1 (S.1 + 6))) 0 10 9 = some (Int32.ofNat ws.length) := s9 ▸ (x0_gF D2).2.2.2.2.2.2.2.2.1
      have f9 : pF (kQ S.1 (S.2.1 + 356) S.2.2 (sL L (some (S.1 + 12)) (aI L)) s1 r1 (moL L s1 (S.1 + 6))) 0 10 9 (.int (Int32.ofNat (ws.length + 1))) = some (kQ S.1 (S.2.1 + 356) S.2.2 (sL L (some (S.1 + 12)) (aI L)) (wF s1 9 (Int32.ofNat (ws.length + 1))) r1 (moL L s1 (S.1 + 6))) := (x0_pF D2 _).1
      have g6' : gFr (kQ S.1 (S.2.1 + 356) S.2.2 (sL L (some (S.1 + 12)) (aI L)) (wF s1 9 (Int32.ofNat (ws.length + 1))) r1 (moL L s1 (S.1 + 6))) 0 10 6 = some (aP L) := (x0_gF D2).2.2.2.2.2.2.1
      have g4' : gFr (kQ S.1 (S.2.1 + 356) S.2.2 (sL L (some (S.1 + 12)) (aI L)) (wF s1 9 (Int32.ofNat (ws.length + 1))) r1 (moL L s1 (S.1 + 6))) 0 10 4 = some (aW L) := (x0_gF D2).2.2.2.2.1
      have blk := Blk_sz _ _ _ _ _ z3
      have ub : u' ≤ 37 := by omega
      obtain ⟨g', v', dn', rf', c1, c2, c3, c4, c5⟩ := EXEC (l := l) (dk := s.2 12) (fs := s.2 13) (len := i') (ul := u') h8 h6 (by omega) (by omega) (u' - 0) 0 i' 0 u' blk (Nat.le_refl _) (Nat.le_refl _) 0 (s.2 0) 0 0 (by decide) hsc
      have k9 : Kf [9, 21, 22, 23, 24, 25, 26] [] s (wF s1 9 (Int32.ofNat (ws.length + 1))) := (ks.up (by decide) (by decide)).wF (by decide) _
      have W0 : WX m n l (s.2 12) (s.2 13) K F Q i' (wF s1 9 (Int32.ofNat (ws.length + 1))) r1 (s.2 0) 0 0 := ⟨k9.xcn C, k9.xlaw xl, k9.2 0 (by decide), k9.2 12 (by decide), k9.2 13 (by decide), y2.2.2.2, y4, y3.2.2.1.trans rfl, y3.2.2.2.trans rfl⟩
      have rn : ∃ s3 r3, Kf [] [0, 22, 23] (wF s1 9 (Int32.ofNat (ws.length + 1))) s3 ∧ s3.2 0 = v' ∧ r3.1 7 = dn' ∧ r3.1 8 = rf' ∧ vcall 198 m_Wk_run [.ref S.1, .ref (aP L), .ref (aW L)] (kQ S.1 (S.2.1 + 356) S.2.2 (sL L (some (S.1 + 12)) (aI L)) (wF s1 9 (Int32.ofNat (ws.length + 1))) r1 (moL L s1 (S.1 + 6))) = some (.inl none, kQ S.1 (S.2.1 + 356) S.2.2 (sL L (some (S.1 + 12)) (aI L)) s3 r3 (moL L s1 (S.1 + 6))) := by
        have hrun : vcall 198 m_Wk_run [.ref S.1, .ref (aP L), .ref (aW L)] (kQ S.1 (S.2.1 + 356) S.2.2 (sL L (some (S.1 + 12)) (aI L)) (wF s1 9 (Int32.ofNat (ws.length + 1))) r1 (moL L s1 (S.1 + 6))) = rnX 197 S.1 (sL L (some (S.1 + 12)) (aI L)) 0 0 0 mk0 (kQ S.1 (S.2.1 + 356) S.2.2 (sL L (some (S.1 + 12)) (aI L)) (wF s1 9 (Int32.ofNat (ws.length + 1))) r1 (moL L s1 (S.1 + 6))) := (kQ_v o2 rfl).trans (B_Wk_run_0 _ _ _ _ _)
        obtain ⟨x1, x2⟩ := c4 197 S.1 (S.2.1 + 356) S.2.2 (sL L (some (S.1 + 12)) (aI L)) (wF s1 9 (Int32.ofNat (ws.length + 1))) r1 (moL L s1 (S.1 + 6)) 0 mk0 (by decide) D2 o2 W0 trivial (by decide)
        by_cases hg : g' < 200
        · obtain ⟨s3, r3, t', l6', j1, j2, j3, j4, j5⟩ := x1 hg
          refine ⟨s3, r3, j1, j2.2.2.1, j2.2.2.2.2.2.2.2.1, j2.2.2.2.2.2.2.2.2, hrun.trans (j5.trans ?_)⟩
          unfold rnX
          rw [B_Wk_run_8, if_neg (by show ¬ (Int32.ofNat 100000 ≤ Int32.ofNat t'); rw [ii_le (by omega) (by omega)]; omega), if_neg (by rw [ii_nn (by omega)]; exact id), (kQ_gF o2).2.1, obs, j2.2.2.2.2.2.1, if_pos (by rw [ii_le (by omega) (by omega)]; exact Nat.le_refl _)]
        · obtain ⟨s3, r3, j1, j2, j3, j4, j5⟩ := x2 hg
          exact ⟨s3, r3, j1, j2, j3, j4, hrun.trans j5⟩
      obtain ⟨s3, r3, j1, j2, j3, j4, j5⟩ := rn
      have f11 : pF (kQ S.1 (S.2.1 + 356) S.2.2 (sL L (some (S.1 + 12)) (aI L)) s3 r3 (moL L s1 (S.1 + 6))) 0 10 11 (.int rf') = some (kQ S.1 (S.2.1 + 356) S.2.2 (sL L (some (S.1 + 12)) (aI L)) (wF s3 11 rf') r3 (moL L s1 (S.1 + 6))) := (x0_pF D2 _).2.2.1
      rw [y5, kC1_v, if_pos (by decide), mo, kC3_v, f8, obs, g9', obs, ii_1, f9, obs, g6', obs, g4', obs, j5, kC0_v, (kQ_gF o2).2.2.2, obs, j4, f11, obs, (kQ_gF o2).2.2.1, obs, j3, ← hx] at hx0
      have la : (wkL S.1 r3 ++ moL L s1 (S.1 + 6)).length = 13 := rfl
      have eo : ∀ j, j < S.1 → Ot L j → (kQ S.1 (S.2.1 + 356) S.2.2 (sL L (some (S.1 + 12)) (aI L)) (wF s3 11 rf') r3 (moL L s1 (S.1 + 6))).2.2 j = S.2.2 j := fun j hj oj => (xS_o (L := sL L (some (S.1 + 12)) (aI L)) oj).trans (aL_o (Or.inl hj))
      obtain ⟨f, hf⟩ := ho
      have ks3 : Kf [9, 11, 21, 22, 23, 24, 25, 26] [0, 22, 23] s (wF s3 11 rf') := ((k9.up (by decide) (by decide)).tr (j1.up (by decide) (by decide))).wF (by decide) _
      refine Pr_n hr hf h59 hL hx0 (fun j h1 h2 => eo j (by omega) (Ot_ref D h1 h2)) (fun j hj => ?_) ?_ ?_ ?_ (fun b => ?_)
      · have hj : S.1 + 13 ≤ j := hj
        exact (xS_o (o2 j (by omega))).trans (aL_o (Or.inr (by rw [la]; exact hj)))
      · show S.1 ≤ S.1 + 13; omega
      · show S.1 + 13 ≤ _; omega
      · show S.2.1 + 356 ≤ _; omega
      · obtain ⟨t1, v1, v2, v3, v4, v5⟩ := zR 199 b _ (Int32.ofNat N) (by decide) TR0 RP0
        have kt1 : Kf [0, 2, 3, 4, 5, 7, 8, 36] [46] τ t1 := (r0.up (by decide) (by decide)).tr (v1.up (by decide) (by decide))
        have h37 : t1.1 37 = Int32.ofNat ws.length := (kt1.1 37 (by decide)).trans w2
        have ktc : Kf [0, 2, 3, 4, 5, 7, 8, 36, 37, 39, 40, 41] [46, 47, 49, 50] τ (wkC t1 u' ws.length) := (((((((((kt1.up (by decide) (by decide)).wF (by decide) _).wR (by decide) _).wR (by decide) _).wF (by decide) _).wR (by decide) _).wF (by decide) _).wF (by decide) _).wF (by decide) _)
        have t48 : t1.2 48 = s.2 0 := (kt1.2 48 (by decide)).trans e48.symm
        have R0 : RX m n l (s.2 12) (s.2 13) Z u' (wkC t1 u' ws.length) (s.2 0) 0 0 0 := by
          refine ⟨ktc.cn Cr, ktc.law rl, ?_, fun p hp => ?_, fun p hp => ?_, fun j hj => ?_, rfl, rfl, rfl⟩
          · show t1.2 48 = s.2 0
            exact t48
          · rw [ktc.2 37 (by decide)]; exact (hdk p hp).1
          · obtain ⟨j, j1, j2, j3, j4⟩ := (hdk p hp).2
            rw [ktc.2 38 (by decide), j3, j4]
          · show (if j < 3 * u' then t1.2 46 j else t1.2 47 j) = _
            rw [if_pos hj]
            exact v4 j (by omega) hj
        obtain ⟨t2, m4, m5, i1, i2, i3⟩ := c5 198 b (wkC t1 u' ws.length) 0 u' mk0 mk0 (by omega) R0 (Nat.le_refl _) (Nat.le_refl _)
        have gs : vcall 199 m_R_goesSteps [.ref 30, .int 0, .int (Int32.ofNat (3 * u'))] (mS b (wkC t1 u' ws.length)) = some (.inl none, mS b t2) := by
          refine (vR rfl).trans ((B_R_goesSteps_0 _ _ _ _ _).trans (Eq.trans i3 ?_))
          unfold rnR
          rw [B_R_goesSteps_2, if_pos (by rw [ii_le (by omega) (by omega)]; exact Nat.le_refl _)]
        obtain ⟨q1', q2', q3', q4', q5', q6', q7', q8', q9'⟩ := i2
        have e89 : den 199 m_R_work 89 [.ref 30, .int (Int32.ofNat N), mk0, mk0] [] (mS b t1) = _ := R_wk89 196 b v2.1 v2.2.2.1 (by omega) h37 hl16 (Int32.ofNat N) gs q3' q8' q9'
        have kt2 : Kf [0, 2, 3, 4, 5, 7, 8, 36, 37, 38, 39, 40, 41] [44, 45, 46, 47, 48, 49, 50, 51] τ (wF (wR t2 48 v') 38 rf') := (((ktc.up (by decide) (by decide)).tr (i1.up (by decide) (by decide))).wR (by decide) _).wF (by decide) _
        have t250 : t2.2 50 = fun x => if 76 * ws.length + 0 ≤ x ∧ x < 76 * ws.length + 76 then t1.2 48 (x - 76 * ws.length) else t1.2 50 x := (i1.2 50 (by decide)).trans rfl
        have t150 : t1.2 50 = τ.2 50 := kt1.2 50 (by decide)
        refine ⟨_, ?_, (R_wk_yes 198 b τ k3 k1 n1 n2 w2 hl16).trans (v5.trans e89), fun S2 ag hm2 ho2 => ?_⟩
        · show t2.1 0 = 0
          rw [i1.1 0 (by decide)]
          exact (v1.1 0 (by decide)).trans rfl
        · have s21 : S2.1 = S.1 + 13 := ag.1
          have cm : ∀ l z, Ch S L z l → Ch S2 (sL L (some (S.1 + 12)) (aI L)) z l := Ch_mono rfl (fun j hj oj => oj) (by omega) (fun j h1 h2 oj => (ag.2.2 j (Or.inr h1)).trans (eo j h2 oj))
          have hcell : ∀ i, i < 13 → S2.2.2 (S.1 + i) = (wkL S.1 r3 ++ moL L s1 (S.1 + 6))[i]? := fun i hi => by
            have hi' : i < (wkL S.1 r3 ++ moL L s1 (S.1 + 6)).length := hi
            rw [List.getElem?_eq_getElem hi']
            exact (ag.2.2 _ (Or.inr (by omega))).trans ((xS_o (o2 _ (by omega))).trans (aL_i (List.getElem?_eq_getElem hi')))
          have s10 : s1.2 0 = s.2 0 := ks.2 0 (by decide)
          refine ⟨sL L (some (S.1 + 12)) (aI L), wF s3 11 rf', wF (wR t2 48 v') 38 rf', m, n, q, l, ⟨D2, ⟨by omega, ?_, ?_, ?_, ?_, ?_⟩, xS_in (S := kQ S.1 (S.2.1 + 356) S.2.2 (sL L (some (S.1 + 12)) (aI L)) (wF s3 11 rf') r3 (moL L s1 (S.1 + 6))) (xS_xS _ _ _ _).symm (fun j oj => ag.2.2 j ?_), hm2, ho2, RA_n (ks3.up (by decide) (by decide)) (kt2.up (by decide) (by decide)) ⟨C, Cr, ⟨q1, q2, q3⟩, hy, hdy, hdk, xl, rl, hb1, hb2⟩, ⟨⟨0, by decide, ?_, ?_⟩, ?_, ?_, rfl⟩, ⟨j2, ?_⟩, ⟨s.2 0 :: ws, ?_, ?_, ?_, ⟨S.1 + 12, S.1 + 6, aZ L, rfl, ?_, fun i hi => ?_, o2 _ (by omega), fun i hi => o2 _ (by omega), ⟨by omega, by omega, by omega, by omega⟩, cm _ _ w4⟩, fun u hu => ?_, fun k hk i hi => ?_⟩, gi, b1, ?_, ?_, fun j hj => ?_⟩, ?_, ?_⟩
          · show aP L + 6 ≤ S2.1; omega
          · show aQ L + 6 ≤ S2.1; omega
          · show aW L + 4 ≤ S2.1; omega
          · show aU L + 5 ≤ S2.1; omega
          · show aK L + 2 ≤ S2.1; omega
          · by_cases h : j < 30 ∨ 59 ≤ j
            · exact h
            · exact absurd (Ot_ref D2 (by omega) (by omega)) oj
          · show s3.1 21 = 0
            rw [j1.1 21 (by decide)]; exact (y1.1 21 (by decide)).trans rfl
          · show t2.1 2 = 0
            rw [i1.1 2 (by decide)]; exact (v1.1 2 (by decide)).trans rfl
          · rw [ks3.2 2 (by decide), kt2.2 32 (by decide)]; exact tb
          · show s3.1 22 = t2.1 8
            rw [j1.1 22 (by decide), i1.1 8 (by decide)]; exact (y1.1 22 (by decide)).trans rfl
          · show scI 800 m n (s3.2 0)
            rw [j2]; exact c3
          · show s3.1 9 = Int32.ofNat (ws.length + 1)
            rw [j1.1 9 (by decide)]; rfl
          · show t2.1 37 = Int32.ofNat (ws.length + 1)
            rw [i1.1 37 (by decide)]; rfl
          · show ws.length + 1 ≤ 16; omega
          · have := hcell 12 (by decide)
            refine this.trans ?_
            show some (cO 2 [.ref (S.1 + 6), va_rf (aZ L), .int (s1.1 9)]) = _
            rw [s9]
          · have := hcell (6 + i) (by omega)
            rw [← Nat.add_assoc] at this
            refine this.trans ?_
            rw [← s10]
            refine Eq.trans ?_ (scL_i (S.1 + 6) (aU L) (s1.2 0) hi)
            have : i = 0 ∨ i = 1 ∨ i = 2 ∨ i = 3 ∨ i = 4 ∨ i = 5 := by omega
            rcases this with rfl | rfl | rfl | rfl | rfl | rfl <;> rfl
          · rcases List.mem_cons.mp hu with rfl | hu
            · exact hsc
            · exact w5 u hu
          · have hk : k < ws.length + 1 := hk
            show t2.2 50 (76 * k + i) = (s.2 0 :: ws).getD (ws.length + 1 - 1 - k) (fun _ => 0) i
            rw [t250]
            show (if 76 * ws.length + 0 ≤ 76 * k + i ∧ 76 * k + i < 76 * ws.length + 76 then t1.2 48 (76 * k + i - 76 * ws.length) else t1.2 50 (76 * k + i)) = _
            by_cases ek : k = ws.length
            · subst ek
              rw [if_pos (by omega), t48, show ws.length + 1 - 1 - ws.length = 0 by omega, gD_0, Nat.add_sub_cancel_left]
            · rw [if_neg (by omega), t150, show ws.length + 1 - 1 - k = (ws.length - 1 - k) + 1 by omega, gD_s]
              exact w6 k (by omega) i hi
          · rw [ks3.1 10 (by decide)]; exact b2
          · rw [kt2.1 54 (by decide)]; exact b3
          · obtain ⟨v', ws', c1, c2, c3, c4, c5, c6⟩ := b4 j hj
            refine ⟨v', ws', cm _ _ c1, c2, c3, ?_, ?_, ?_⟩ <;> rw [kt2.2 57 (by decide)] <;> assumption
          · rw [ks3.1 12 (by decide), kt2.2 31 (by decide)]; exact hd.1
          · rw [ks3.1 13 (by decide), kt2.2 31 (by decide)]; exact hd.2
    · obtain ⟨s1, r1, w1', w2', w3'⟩ := zX 197 S.1 (S.2.1 + 271) S.2.2 L (oX s (Int32.ofNat N)) wk0 0 mk0 mk0 (by decide) D o TX0 XP0 (Nat.zero_le _)
      have an : vcall 198 m_Tp_faultAnswer [.ref 1] (kQ S.1 (S.2.1 + 271) S.2.2 L s1 r1 []) = some (.inl (some (.int (Int32.ofNat k - 10))), kQ S.1 (S.2.1 + 271) S.2.2 L s1 r1 []) := T_ans 197 D w2'
      rw [w3', kC1_v, if_neg (by decide), g0, obs, an, kC1_v, ← hx] at hx0
      refine P_bad I hd hL hx0 (k0.tr (w1'.up (by decide) (by decide))) ((w1'.1 21 (by decide)).trans rfl) w2'.2 (by show 6 ≤ 90; decide) (by omega) (fun b => ?_)
      obtain ⟨t1, v1, v2, v3⟩ := zR 199 b _ (Int32.ofNat N) (by decide) TR0 RP0
      refine ⟨wF t1 8 (Int32.ofNat p), ((r0.up (by decide) (by decide)).tr (v1.up (by decide) (by decide))).wF (by decide) _, (v1.1 0 (by decide)).trans rfl, (v1.1 2 (by decide)).trans rfl, rfl, ?_⟩
      have e89 : den 199 m_R_work 89 [.ref 30, .int (Int32.ofNat N), mk0, mk0] [] (mS b t1) = _ := R_wk89n 197 b v2 hp (Int32.ofNat N)
      exact (R_wk_yes 198 b τ k3 k1 n1 n2 w2 hl16).trans (v3.trans e89)
  · have ya : ∀ d, vcall (d + 4) m_Y_work [.ref 0, .int x] (xS S L s) = xA0 S L s := fun d => by
      refine (vY D rfl).trans ((B_Y_work_0 _ _ _ _).trans ?_)
      have := Y_open_n d (b := S) D k2 k1 (c := 150) (by decide) hr0
      have this' : vcall (d + 3) m_Y_openText [.ref 0, .int x, .int 150] (xS S L s) = xA0 S L s := this
      rw [this']
      rfl
    exact P_a (k := 1) I hd hL (fun _ _ => rfl) (by decide) (ya 195) (fun b => R_wk_no 198 b τ k3 hr0)
