/-! CALLS that ask: packing, packed -/
def upN (f : Nat → Nat) (k x : Nat) : Nat → Nat := fun j => if j = k then x else f j
theorem upN_s (f : Nat → Nat) (k x : Nat) : upN f k x k = x := if_pos rfl
theorem upN_n (f : Nat → Nat) {k j : Nat} (x : Nat) (h : j ≠ k) : upN f k x j = f j := if_neg h
def anB (P : Nat → Bool) : Nat → Bool
  | 0 => false
  | n + 1 => anB P n || P n
theorem anB_i (P : Nat → Bool) (n : Nat) : anB P n = true ↔ ∃ y, y < n ∧ P y = true := by
  induction n with
  | zero =>
    constructor
    · intro h; simp [anB] at h
    · rintro ⟨y, h, -⟩; omega
  | succ n ih =>
    unfold anB
    rw [Bool.or_eq_true, ih]
    constructor
    · rintro (⟨y, h1, h2⟩ | h)
      · exact ⟨y, by omega, h2⟩
      · exact ⟨n, by omega, h⟩
    · rintro ⟨y, h1, h2⟩
      by_cases e : y = n
      · subst e; exact Or.inr h2
      · exact Or.inl ⟨y, by omega, h2⟩
/-- can the r sittings from the k-th on be laid into N years? -/
def fe (dy : Nat → Nat) (Y N : Nat) : Nat → Nat → (Nat → Nat) → Bool
  | 0, _, _ => true
  | r + 1, k, ld => anB (fun y => decide (ld y + dy k ≤ Y) && fe dy Y N r (k + 1) (upN ld y (ld y + dy k))) N
section
variable {dy : Nat → Nat} {Y N : Nat}
theorem fe_i {r k : Nat} {ld : Nat → Nat} : fe dy Y N (r + 1) k ld = true ↔ ∃ y, y < N ∧ ld y + dy k ≤ Y ∧ fe dy Y N r (k + 1) (upN ld y (ld y + dy k)) = true := by
  show anB _ N = true ↔ _
  rw [anB_i]
  constructor
  · rintro ⟨y, h1, h2⟩; rw [Bool.and_eq_true, decide_eq_true_eq] at h2; exact ⟨y, h1, h2.1, h2.2⟩
  · rintro ⟨y, h1, h2, h3⟩; exact ⟨y, h1, by rw [Bool.and_eq_true, decide_eq_true_eq]; exact ⟨h2, h3⟩⟩
/-- only the first N years count -/
theorem fe_c {r : Nat} : ∀ {k : Nat} {ld ld' : Nat → Nat}, (∀ y, y < N → ld y = ld' y) → fe dy Y N r k ld = true → fe dy Y N r k ld' = true := by
  induction r with
  | zero => intros; rfl
  | succ r ih =>
    intro k ld ld' h hf
    rw [fe_i] at hf ⊢
    obtain ⟨y, h1, h2, h3⟩ := hf
    refine ⟨y, h1, by rw [← h y h1]; exact h2, ih (fun z hz => ?_) h3⟩
    by_cases e : z = y
    · subst e; rw [upN_s, upN_s, h z hz]
    · rw [upN_n _ _ e, upN_n _ _ e, h z hz]
def swN (a c j : Nat) : Nat := if j = a then c else if j = c then a else j
/-- two years change places -/
theorem fe_sw {r : Nat} : ∀ {k : Nat} {ld : Nat → Nat} {a c : Nat}, a < N → c < N → fe dy Y N r k ld = true → fe dy Y N r k (fun j => ld (swN a c j)) = true := by
  induction r with
  | zero => intros; rfl
  | succ r ih =>
    intro k ld a c ha hc hf
    rw [fe_i] at hf ⊢
    obtain ⟨y, h1, h2, h3⟩ := hf
    have hs : ∀ j, swN a c (swN a c j) = j := fun j => by
      unfold swN
      by_cases e1 : j = a
      · subst e1; rw [if_pos rfl]
        by_cases e2 : c = j
        · rw [if_pos e2]; exact e2
        · rw [if_neg e2, if_pos rfl]
      · rw [if_neg e1]
        by_cases e2 : j = c
        · subst e2; rw [if_pos rfl, if_pos rfl]
        · rw [if_neg e2, if_neg e1, if_neg e2]
    have hl : ∀ j, j < N → swN a c j < N := fun j hj => by unfold swN; split; exact hc; split; exact ha; exact hj
    refine ⟨swN a c y, hl y h1, by rw [hs]; exact h2, ?_⟩
    have := ih (a := a) (c := c) ha hc h3
    refine fe_c (fun z hz => ?_) this
    show upN ld y (ld y + dy k) (swN a c z) = upN (fun j => ld (swN a c j)) (swN a c y) (ld (swN a c (swN a c y)) + dy k) z
    rw [hs]
    by_cases e : z = swN a c y
    · subst e; rw [hs, upN_s, upN_s]
    · rw [upN_n _ _ e, upN_n]; intro e2; exact e (by rw [← e2, hs])
/-- with ys years begun: a way needs only these and the next -/
theorem fe_ys {r k ys : Nat} {ld : Nat → Nat} (h0 : ∀ y, ys ≤ y → ld y = 0) {y : Nat} (hy : y < N) (hys : ys < y) (h2 : fe dy Y N r (k + 1) (upN ld y (ld y + dy k)) = true) : fe dy Y N r (k + 1) (upN ld ys (ld ys + dy k)) = true := by
  refine fe_c (fun z hz => ?_) (fe_sw (a := ys) (c := y) (by omega) hy h2)
  show upN ld y (ld y + dy k) (swN ys y z) = upN ld ys (ld ys + dy k) z
  unfold swN
  by_cases e1 : z = ys
  · subst e1; rw [if_pos rfl, upN_s, upN_s, h0 y (by omega), h0 z (Nat.le_refl _)]
  · rw [if_neg e1, upN_n _ _ e1]
    by_cases e2 : z = y
    · subst e2; rw [if_pos rfl, upN_n _ _ (by omega), h0 ys (Nat.le_refl _), h0 z (by omega)]
    · rw [if_neg e2, upN_n _ _ e2]
end
/-- the first of them, or n -/
def fstN (P : Nat → Bool) : Nat → Nat → Nat
  | 0, k => k
  | f + 1, k => if P k = true then k else fstN P f (k + 1)
theorem fstN_s {P : Nat → Bool} {n y : Nat} (hy : y < n) (hP : P y = true) (hn : ∀ z, z < y → P z = false) : fstN P n 0 = y := by
  have : ∀ f k, k + f = n → k ≤ y → fstN P f k = y := by
    intro f
    induction f with
    | zero => intro k h1 h2; omega
    | succ f ih =>
      intro k h1 h2
      unfold fstN
      by_cases e : k = y
      · subst e; rw [if_pos hP]
      · rw [if_neg (by rw [hn k (by omega)]; simp)]; exact ih (k + 1) (by omega) (by omega)
  exact this n 0 (by omega) (Nat.zero_le y)
/-- the first way -/
def gp (dy : Nat → Nat) (Y N : Nat) : Nat → Nat → (Nat → Nat) → Nat → Nat
  | 0, _, _, _ => 0
  | r + 1, k, ld, j => if j = k then fstN (fun y => decide (ld y + dy k ≤ Y) && fe dy Y N r (k + 1) (upN ld y (ld y + dy k))) N 0 else gp dy Y N r (k + 1) (upN ld (fstN (fun y => decide (ld y + dy k ≤ Y) && fe dy Y N r (k + 1) (upN ld y (ld y + dy k))) N 0) (ld (fstN (fun y => decide (ld y + dy k ≤ Y) && fe dy Y N r (k + 1) (upN ld y (ld y + dy k))) N 0) + dy k)) j
theorem gp_s {dy : Nat → Nat} {Y N r k y : Nat} {ld : Nat → Nat} (hy : y < N) (h1 : ld y + dy k ≤ Y) (h2 : fe dy Y N r (k + 1) (upN ld y (ld y + dy k)) = true) (hn : ∀ z, z < y → ld z + dy k ≤ Y → fe dy Y N r (k + 1) (upN ld z (ld z + dy k)) = false) (j : Nat) : gp dy Y N (r + 1) k ld j = if j = k then y else gp dy Y N r (k + 1) (upN ld y (ld y + dy k)) j := by
  have e : fstN (fun y => decide (ld y + dy k ≤ Y) && fe dy Y N r (k + 1) (upN ld y (ld y + dy k))) N 0 = y := fstN_s hy (by rw [Bool.and_eq_true, decide_eq_true_eq]; exact ⟨h1, h2⟩) (fun z hz => by
    by_cases h : ld z + dy k ≤ Y
    · rw [hn z hz h, Bool.and_false]
    · rw [decide_eq_false h, Bool.false_and])
  show (if j = k then fstN _ N 0 else gp dy Y N r (k + 1) (upN ld (fstN _ N 0) (ld (fstN _ N 0) + dy k)) j) = _
  rw [e]
def Hd (a : Nat → Int32) (ld : Nat → Nat) : Prop := ∀ i, i < 8 → a i = Int32.ofNat (ld i)
theorem Hd_u {a : Nat → Int32} {ld : Nat → Nat} (h : Hd a ld) (k x : Nat) : Hd (upd a k (Int32.ofNat x)) (upN ld k x) := fun i hi => by
  by_cases e : i = k
  · subst e; rw [upd_s, upN_s]
  · rw [upd_n _ _ e, upN_n _ _ e]; exact h i hi
theorem c_R_lays (d : Nat) (b : pS) {q N Y : Nat} (hq : q ≤ 8) (hN : N ≤ 8) (hY : Y ≤ 400) (dy : Nat → Nat) (hdy : ∀ k, k < q → dy k ≤ 400) : ∀ r k (ld : Nat → Nat) (τ : rT), k + r = q → (∀ i, ld i ≤ Y) → Hd (τ.2 56) ld → τ.1 24 = Int32.ofNat q → τ.1 25 = Int32.ofNat Y → (∀ k, k < q → τ.2 39 k = Int32.ofNat (dy k)) → ∃ τ', Kf [] [55, 56] τ τ' ∧ (∀ j, j < k → τ'.2 55 j = τ.2 55 j) ∧ (if fe dy Y N r k ld = true then ∀ j, k ≤ j → j < q → τ'.2 55 j = Int32.ofNat (gp dy Y N r k ld j) else Hd (τ'.2 56) ld) ∧ vcall (d + r + 1) m_R_lays [.ref 30, .int (Int32.ofNat k), .int (Int32.ofNat N)] (mS b τ) = some (.inl (some (.int (if fe dy Y N r k ld = true then 1 else 0))), mS b τ') := by
  intro r
  induction r with
  | zero =>
    intro k ld τ hk hl hH t1 t2 t3
    refine ⟨τ, Kf.rf _ _ τ, fun _ _ => rfl, ?_, (vR rfl).trans ((B_R_lays_0 _ _ _ _ _).trans ?_)⟩
    · have hF : fe dy Y N 0 k ld = true := rfl
      rw [if_pos hF]; intro j h1 h2; omega
    · simp only [m_gF, obs, t1]
      rw [if_neg (fun g => g (by rw [show k = q by omega]))]
      rfl
  | succ r ih =>
    intro k ld τ hk hl hH t1 t2 t3
    have hkq : k < q := by omega
    have hdk := hdy k hkq
    have go : ∀ f y (x : rT), y + f = N → Kf [] [55, 56] τ x → (∀ j, j < k → x.2 55 j = τ.2 55 j) → Hd (x.2 56) ld → (∀ z, z < y → ld z + dy k ≤ Y → fe dy Y N r (k + 1) (upN ld z (ld z + dy k)) = false) → ∃ τ', Kf [] [55, 56] τ τ' ∧ (∀ j, j < k → τ'.2 55 j = τ.2 55 j) ∧ (if fe dy Y N (r + 1) k ld = true then ∀ j, k ≤ j → j < q → τ'.2 55 j = Int32.ofNat (gp dy Y N (r + 1) k ld j) else Hd (τ'.2 56) ld) ∧ den (d + (r + 1)) m_R_lays 12 [.ref 30, .int (Int32.ofNat k), .int (Int32.ofNat N), .int (Int32.ofNat y)] [] (mS b x) = some (.inl (some (.int (if fe dy Y N (r + 1) k ld = true then 1 else 0))), mS b τ') := by
      intro f
      induction f with
      | zero =>
        intro y x hy kx x1 x2 x3
        have hF : ¬ fe dy Y N (r + 1) k ld = true := by
          rw [fe_i]; rintro ⟨z, z1, z2, z3⟩
          rw [x3 z (by omega) z2] at z3; cases z3
        refine ⟨x, kx, x1, by rw [if_neg hF]; exact x2, ?_⟩
        rw [if_neg hF, B_R_lays_12]
        simp (disch := omega) only [ii_le]
        rw [if_pos (by omega)]
      | succ f ihf =>
        intro y x hy kx x1 x2 x3
        have s1 := (kx.1 24 (by decide)).trans t1
        have s2 := (kx.1 25 (by decide)).trans t2
        have s3 : ∀ k, k < q → x.2 39 k = Int32.ofNat (dy k) := by rw [kx.2 39 (by decide)]; exact t3
        have hy8 : y < 8 := by omega
        have hly := hl y
        by_cases hfit : ld y + dy k ≤ Y
        · have kk : Kf [] [55, 56] τ (wA (wA x 56 y (Int32.ofNat (ld y + dy k))) 55 k (Int32.ofNat y)) := (kx.wA (by decide) _ _).wA (by decide) _ _
          obtain ⟨τ2, k2, j1, j2, e2⟩ := ih (k + 1) (upN ld y (ld y + dy k)) (wA (wA x 56 y (Int32.ofNat (ld y + dy k))) 55 k (Int32.ofNat y)) (by omega) (fun i => by
            by_cases e : i = y
            · subst e; rw [upN_s]; exact hfit
            · rw [upN_n _ _ e]; exact hl i) (Hd_u x2 y _) ((kk.1 24 (by decide)).trans t1) ((kk.1 25 (by decide)).trans t2) (by rw [kk.2 39 (by decide)]; exact t3)
          have jk : τ2.2 55 k = Int32.ofNat y := (j1 k (by omega)).trans (upd_s _ _ _)
          have jl : ∀ j, j < k → τ2.2 55 j = τ.2 55 j := fun j hj => (j1 j (by omega)).trans ((upd_n _ _ (by omega)).trans (x1 j hj))
          have hd0 : den (d + (r + 1)) m_R_lays 12 [.ref 30, .int (Int32.ofNat k), .int (Int32.ofNat N), .int (Int32.ofNat y)] [] (mS b x) = kC1 (vcall (d + (r + 1)) m_R_lays [.ref 30, .int (Int32.ofNat (k + 1)), .int (Int32.ofNat N)] (mS b (wA (wA x 56 y (Int32.ofNat (ld y + dy k))) 55 k (Int32.ofNat y)))) (fun v14 s13 => (if (v14 : Int32) = 0 then ((gFr s13 30 11 51).bind fun v15 => ((gI s13 v15 (Int32.ofNat y)).bind fun v16 => ((gFr s13 30 11 16).bind fun v17 => ((gI s13 v17 (Int32.ofNat k)).bind fun v18 => ((pI s13 v15 (Int32.ofNat y) (v16 - v18)).bind fun s19 => den (d + (r + 1)) m_R_lays 12 [.ref 30, .int (Int32.ofNat k), .int (Int32.ofNat N), .int (Int32.ofNat (y + 1))] [] s19))))) else some (.inl (some (.int 1)), s13))) xp := by
            rw [B_R_lays_12]
            simp (disch := omega) only [m_gF, m_gI, m_pI, obs, ii_le, s2, s3 k hkq, x2 y hy8, ii_add, ii_1]
            rw [if_neg (by omega), if_pos hfit]
          by_cases hF : fe dy Y N r (k + 1) (upN ld y (ld y + dy k)) = true
          · have hF1 : fe dy Y N (r + 1) k ld = true := fe_i.mpr ⟨y, by omega, hfit, hF⟩
            rw [if_pos hF] at j2 e2
            refine ⟨τ2, kk.tr k2, jl, ?_, ?_⟩
            · rw [if_pos hF1]
              intro j g1 g2
              rw [gp_s (by omega) hfit hF x3]
              by_cases e : j = k
              · subst e; rw [if_pos rfl]; exact jk
              · rw [if_neg e]; exact j2 j (by omega) g2
            · rw [hd0, if_pos hF1]
              have e2' : vcall (d + (r + 1)) m_R_lays [.ref 30, .int (Int32.ofNat (k + 1)), .int (Int32.ofNat N)] (mS b (wA (wA x 56 y (Int32.ofNat (ld y + dy k))) 55 k (Int32.ofNat y))) = some (.inl (some (.int 1)), mS b τ2) := e2
              rw [e2', kC1_v, if_neg (by decide)]
          · rw [if_neg hF] at j2 e2
            have kz : Kf [] [55, 56] τ (wA τ2 56 y (Int32.ofNat (ld y))) := (kk.tr k2).wA (by decide) _ _
            have hH2 : Hd ((wA τ2 56 y (Int32.ofNat (ld y))).2 56) ld := fun i hi => by
              rw [wA_2, if_pos rfl]
              by_cases e : i = y
              · subst e; rw [upd_s]
              · rw [upd_n _ _ e, j2 i hi, upN_n _ _ e]
            obtain ⟨τ3, k3, b1, b2, b3⟩ := ihf (y + 1) (wA τ2 56 y (Int32.ofNat (ld y))) (by omega) kz (fun j hj => jl j hj) hH2 (fun z hz hz2 => by
              by_cases e : z = y
              · subst e; cases h : fe dy Y N r (k + 1) (upN ld z (ld z + dy k)) with
                | true => exact absurd h hF
                | false => rfl
              · exact x3 z (by omega) hz2)
            refine ⟨τ3, k3, b1, b2, ?_⟩
            rw [hd0]
            have e2' : vcall (d + (r + 1)) m_R_lays [.ref 30, .int (Int32.ofNat (k + 1)), .int (Int32.ofNat N)] (mS b (wA (wA x 56 y (Int32.ofNat (ld y + dy k))) 55 k (Int32.ofNat y))) = some (.inl (some (.int 0)), mS b τ2) := e2
            have s4 : τ2.2 39 k = Int32.ofNat (dy k) := by rw [(kk.tr k2).2 39 (by decide)]; exact t3 k hkq
            have s5 : τ2.2 56 y = Int32.ofNat (ld y + dy k) := by rw [j2 y hy8, upN_s]
            rw [e2', kC1_v, if_pos rfl]
            simp (disch := omega) only [m_gF, m_gI, m_pI, obs, s4, s5, ii_sub, Nat.add_sub_cancel]
            exact b3
        · obtain ⟨τ3, k3, b1, b2, b3⟩ := ihf (y + 1) x (by omega) kx x1 x2 (fun z hz hz2 => by
            by_cases e : z = y
            · subst e; exact absurd hz2 hfit
            · exact x3 z (by omega) hz2)
          refine ⟨τ3, k3, b1, b2, ?_⟩
          rw [B_R_lays_12]
          simp (disch := omega) only [m_gF, m_gI, m_pI, obs, ii_le, s2, s3 k hkq, x2 y hy8, ii_add, ii_1]
          rw [if_neg (by omega), if_neg hfit]
          exact b3
    obtain ⟨τ', k', b1, b2, b3⟩ := go N 0 τ (by omega) (Kf.rf _ _ τ) (fun _ _ => rfl) hH (fun z hz => absurd hz (Nat.not_lt_zero z))
    refine ⟨τ', k', b1, b2, (vR rfl).trans ((B_R_lays_0 _ _ _ _ _).trans ?_)⟩
    simp only [m_gF, obs, t1]
    rw [if_pos (by rw [ii_eq (by omega) (by omega)]; omega)]
    exact b3
/-- the fewest years, from N on; 9: none -/
def fwN (dy : Nat → Nat) (Y q : Nat) : Nat → Nat → Nat
  | 0, N => N
  | f + 1, N => if fe dy Y N q 0 (fun _ => 0) = true then N else fwN dy Y q f (N + 1)
theorem c_R_findPacking (d : Nat) (b : pS) (τ : rT) {q Y : Nat} (hq : q ≤ 8) (hY : Y ≤ 400) (dy : Nat → Nat) (hdy : ∀ k, k < q → dy k ≤ 400) (t1 : τ.1 24 = Int32.ofNat q) (t2 : τ.1 25 = Int32.ofNat Y) (t3 : ∀ k, k < q → τ.2 39 k = Int32.ofNat (dy k)) : ∃ τ', Kf [] [55, 56] τ τ' ∧ (fwN dy Y q 9 0 ≤ 8 → ∀ j, j < q → τ'.2 55 j = Int32.ofNat (gp dy Y (fwN dy Y q 9 0) q 0 (fun _ => 0) j)) ∧ vcall (d + 12) m_R_findPacking [.ref 30] (mS b τ) = some (.inl (some (.int (if fwN dy Y q 9 0 ≤ 8 then Int32.ofNat (fwN dy Y q 9 0) else -1))), mS b τ') := by
  have fe_d : ∀ N r k ld, fe dy Y N r k ld = true → ∀ j, k ≤ j → j < k + r → dy j ≤ Y := by
    intro N r
    induction r with
    | zero => intro k ld _ j h1 h2; omega
    | succ r ih =>
      intro k ld h j h1 h2
      obtain ⟨y, -, y1, y2⟩ := fe_i.mp h
      by_cases e : j = k
      · subst e; omega
      · exact ih (k + 1) _ y2 j (by omega) (by omega)
  have fw_le : ∀ f N, N + f = 9 → N ≤ fwN dy Y q f N ∧ fwN dy Y q f N ≤ 9 := by
    intro f
    induction f with
    | zero => intro N h; exact ⟨Nat.le_refl _, by show N ≤ 9; omega⟩
    | succ f ih =>
      intro N h
      unfold fwN
      split
      · omega
      · have := ih (N + 1) (by omega); omega
  -- the search itself
  have srch : ∀ f N (x : rT) (w : Value), N + f = 9 → Kf [] [55, 56] τ x → ∃ τ', Kf [] [55, 56] τ τ' ∧ (fwN dy Y q f N ≤ 8 → ∀ j, j < q → τ'.2 55 j = Int32.ofNat (gp dy Y (fwN dy Y q f N) q 0 (fun _ => 0) j)) ∧ den (d + 11) m_R_findPacking 33 [.ref 30, .int (Int32.ofNat N), w] [] (mS b x) = some (.inl (some (.int (if fwN dy Y q f N ≤ 8 then Int32.ofNat (fwN dy Y q f N) else -1))), mS b τ') := by
    intro f
    induction f with
    | zero =>
      intro N x w h kx
      refine ⟨x, kx, fun g => ?_, ?_⟩
      · have : N ≤ 8 := g
        omega
      · show _ = (some (Sum.inl (some (Value.int (if N ≤ 8 then Int32.ofNat N else -1))), mS b x) : pR)
        rw [B_R_findPacking_33]
        simp (disch := omega) only [ii_m1, ii_s1, obs, wF_1, wF_2, wA_1, wA_2, wR_1, wR_2, Nat.reduceEqDiff, Nat.reduceAdd, Nat.reduceMul, if_true, if_false, ite_true, ite_false, ii_la, ii_al, ii_lm, ii_ml, ii_add, ii_mul, ii_1, ii_le, ii_lt, ii_c1, ii_c2, ii_c3, ii_c4, ii_c5, ii_n1, ii_nn, kC0_v, kC1_v, kC2_v, kC3_v, kC0_x, kC1_x, kC2_x, not_true_eq_false, not_false_eq_true, ne_eq]
        rw [if_pos (by omega), if_neg (by omega)]
    | succ f ih =>
      intro N x w h kx
      obtain ⟨x2, e2, k2, i2⟩ := ex_loop (F := fun j (y : rT) => den (d + 11) m_R_findPacking 41 [.ref 30, .int (Int32.ofNat N), .int (Int32.ofNat j)] [] (mS b y)) (I := fun j y => Kf [] [55, 56] τ y ∧ ∀ i, i < j → y.2 56 i = Int32.ofNat 0) 8 x ⟨kx, fun i hi => absurd hi (Nat.not_lt_zero i)⟩ (fun j y hj hy => by
        refine ⟨wA y 56 j 0, ?_, hy.1.wA (by decide) _ _, fun i hi => ?_⟩
        · rw [B_R_findPacking_41]
          simp (disch := omega) only [m_gF, m_gI, m_pI, m_gIl, m_pIl, ii_m1, ii_s1, m_pF, obs, wF_1, wF_2, wA_1, wA_2, wR_1, wR_2, Nat.reduceEqDiff, Nat.reduceAdd, Nat.reduceMul, if_true, if_false, ite_true, ite_false, ii_la, ii_al, ii_lm, ii_ml, ii_add, ii_mul, ii_1, ii_le, ii_lt, ii_c1, ii_c2, ii_c3, ii_c4, ii_c5, ii_n1, ii_nn, kC0_v, kC1_v, kC2_v, kC3_v, kC0_x, kC1_x, kC2_x, not_true_eq_false, not_false_eq_true, ne_eq]
          rw [if_neg (by omega)]
        · rw [wA_2, if_pos rfl]
          by_cases e : i = j
          · subst e; rw [upd_s]; rfl
          · rw [upd_n _ _ e]; exact hy.2 i (by omega))
      obtain ⟨x3, k3, l1, l2, l3⟩ := c_R_lays (d + (10 - q)) b hq (show N ≤ 8 by omega) hY dy hdy q 0 (fun _ => 0) x2 (by omega) (fun _ => Nat.zero_le _) i2 ((k2.1 24 (by decide)).trans t1) ((k2.1 25 (by decide)).trans t2) (by rw [k2.2 39 (by decide)]; exact t3)
      rw [show d + (10 - q) + q + 1 = d + 11 by omega] at l3
      have l3' : vcall (d + 11) m_R_lays [.ref 30, .int 0, .int (Int32.ofNat N)] (mS b x2) = _ := l3
      have hd0 : den (d + 11) m_R_findPacking 33 [.ref 30, .int (Int32.ofNat N), w] [] (mS b x) = (if (if fe dy Y N q 0 (fun _ => 0) = true then (1 : Int32) else 0) = 0 then den (d + 11) m_R_findPacking 33 [.ref 30, .int (Int32.ofNat (N + 1)), .int (Int32.ofNat 8)] [] (mS b x3) else some (.inl (some (.int (Int32.ofNat N))), mS b x3)) := by
        rw [B_R_findPacking_33]
        simp (disch := omega) only [ii_m1, ii_s1, obs, wF_1, wF_2, wA_1, wA_2, wR_1, wR_2, Nat.reduceEqDiff, Nat.reduceAdd, Nat.reduceMul, if_true, if_false, ite_true, ite_false, ii_la, ii_al, ii_lm, ii_ml, ii_add, ii_mul, ii_1, ii_le, ii_lt, ii_c1, ii_c2, ii_c3, ii_c4, ii_c5, ii_n1, ii_nn, kC0_v, kC1_v, kC2_v, kC3_v, kC0_x, kC1_x, kC2_x, not_true_eq_false, not_false_eq_true, ne_eq]
        rw [if_neg (by omega)]
        refine e2.trans ?_
        rw [B_R_findPacking_41, if_pos (by decide), l3', kC1_v, ii_1]
      unfold fwN
      by_cases hF : fe dy Y N q 0 (fun _ => 0) = true
      · rw [if_pos hF] at l2 ⊢
        refine ⟨x3, k2.tr k3, fun _ j hj => l2 j (Nat.zero_le j) hj, ?_⟩
        rw [hd0, if_pos hF, if_neg (by decide), if_pos (by omega)]
      · rw [if_neg hF]
        obtain ⟨x4, k4, g1, g2⟩ := ih (N + 1) x3 (.int (Int32.ofNat 8)) (by omega) (k2.tr k3)
        refine ⟨x4, k4, g1, ?_⟩
        rw [hd0, if_neg hF, if_pos rfl]
        exact g2
  -- a sitting that is longer than a year
  have chk : ∀ f k, k + f = q → den (d + 11) m_R_findPacking 2 [.ref 30, .int (Int32.ofNat k), mk0] [] (mS b τ) = den (d + 11) m_R_findPacking 33 [.ref 30, .int 0, mk0] [] (mS b τ) ∨ ((∃ j, j < q ∧ Y < dy j) ∧ den (d + 11) m_R_findPacking 2 [.ref 30, .int (Int32.ofNat k), mk0] [] (mS b τ) = some (.inl (some (.int (-1))), mS b τ)) := by
    intro f
    induction f with
    | zero =>
      intro k hk
      left
      rw [B_R_findPacking_2]
      simp (disch := omega) only [m_gF, obs, t1, ii_le]
      rw [if_pos (by omega)]
    | succ f ih =>
      intro k hk
      have h3 := t3 k (by omega)
      have hdk := hdy k (by omega)
      rw [B_R_findPacking_2]
      simp (disch := omega) only [m_gF, m_gI, obs, t1, t2, h3, ii_le, ii_1]
      rw [if_neg (by omega)]
      by_cases g : dy k ≤ Y
      · rw [if_pos g]; exact ih (k + 1) (by omega)
      · rw [if_neg g]; right; exact ⟨⟨k, by omega, by omega⟩, rfl⟩
  obtain ⟨τ', k', g1, g2⟩ := srch 9 0 τ mk0 (by omega) (Kf.rf _ _ τ)
  rcases chk q 0 (by omega) with h | ⟨⟨j, j1, j2⟩, h⟩
  · exact ⟨τ', k', g1, (vR rfl).trans ((B_R_findPacking_0 _ _ _).trans (h.trans g2))⟩
  · have h9 : ∀ f N, N + f = 9 → fwN dy Y q f N = 9 := by
      intro f
      induction f with
      | zero => intro N h; show N = 9; omega
      | succ f ih =>
        intro N h
        unfold fwN
        rw [if_neg (fun hF => by have := fe_d N q 0 _ hF j (Nat.zero_le j) (by omega); omega)]
        exact ih (N + 1) (by omega)
    have e9 := h9 9 0 (by omega)
    refine ⟨τ, Kf.rf _ _ τ, fun g => by omega, (vR rfl).trans ((B_R_findPacking_0 _ _ _).trans (h.trans ?_))⟩
    rw [e9]; rfl
/-- the program's packing: its four cells -/
def pkC (e u : Nat) (ld wy bs : Nat → Nat) (f : Nat) : Nat → Option pC
  | 0 => some (cO 3 [.ref u, .ref (e + 1), .ref (e + 2), .ref (e + 3), .int (Int32.ofNat f)])
  | 1 => some (cI 8 (cut 8 fun i => Int32.ofNat (ld i)))
  | 2 => some (cI 8 (cut 8 fun i => Int32.ofNat (wy i)))
  | 3 => some (cI 8 (cut 8 fun i => Int32.ofNat (bs i)))
  | _ => none
theorem up_of (f : Nat → Nat) (k x : Nat) : upd (fun i => Int32.ofNat (f i)) k (Int32.ofNat x) = fun i => Int32.ofNat (upN f k x i) := by
  funext i; unfold upd upN; by_cases h : i = k <;> simp [h]
theorem pkC_1 (e u : Nat) (ld wy bs : Nat → Nat) (f k x : Nat) (hk : k < 8) : upo (pkC e u ld wy bs f) 1 (cI 8 (upd (cut 8 fun i => Int32.ofNat (ld i)) k (Int32.ofNat x))) = pkC e u (upN ld k x) wy bs f := by
  funext j; unfold upo
  rcases j with _ | _ | _ | _ | j
  · rw [if_neg (by decide)]; rfl
  · rw [if_pos (by decide), cut_upd _ _ hk, up_of]; rfl
  · rw [if_neg (by decide)]; rfl
  · rw [if_neg (by decide)]; rfl
  · rw [if_neg (by omega)]; rfl
theorem pkC_2 (e u : Nat) (ld wy bs : Nat → Nat) (f k x : Nat) (hk : k < 8) : upo (pkC e u ld wy bs f) 2 (cI 8 (upd (cut 8 fun i => Int32.ofNat (wy i)) k (Int32.ofNat x))) = pkC e u ld (upN wy k x) bs f := by
  funext j; unfold upo
  rcases j with _ | _ | _ | _ | j
  · rw [if_neg (by decide)]; rfl
  · rw [if_neg (by decide)]; rfl
  · rw [if_pos (by decide), cut_upd _ _ hk, up_of]; rfl
  · rw [if_neg (by decide)]; rfl
  · rw [if_neg (by omega)]; rfl
theorem pkC_3 (e u : Nat) (ld wy bs : Nat → Nat) (f : Nat) : upo (pkC e u ld wy bs f) 3 (cI 8 (va_cpy (cut 8 fun i => Int32.ofNat (wy i)) (cut 8 fun i => Int32.ofNat (bs i)) 0 0 8)) = pkC e u ld wy wy f := by
  funext j; unfold upo
  rcases j with _ | _ | _ | _ | j
  · rw [if_neg (by decide)]; rfl
  · rw [if_neg (by decide)]; rfl
  · rw [if_neg (by decide)]; rfl
  · rw [if_pos (by decide)]
    refine congrArg (fun z => some (cI 8 z)) (funext fun x => ?_)
    unfold va_cpy cut
    by_cases hx : x < 8
    · rw [if_pos (by omega), if_pos (by omega), if_pos hx, show 0 + (x - 0) = x by omega]
    · rw [if_neg (by omega), if_neg hx, if_neg hx]
  · rw [if_neg (by omega)]; rfl
theorem pkC_0 (e u : Nat) (ld wy bs : Nat → Nat) (f f' : Nat) : upo (pkC e u ld wy bs f) 0 (cO 3 [.ref u, .ref (e + 1), .ref (e + 2), .ref (e + 3), .int (Int32.ofNat f')]) = pkC e u ld wy bs f' := by
  funext j; unfold upo
  rcases j with _ | _ | _ | _ | j
  · rw [if_pos rfl]; rfl
  · rw [if_neg (by decide)]; rfl
  · rw [if_neg (by decide)]; rfl
  · rw [if_neg (by decide)]; rfl
  · rw [if_neg (by omega)]; rfl
def kS (b : pS) (L : xA) (s : rT) (e : Nat) (ld wy bs : Nat → Nat) (f : Nat) : pS := xS (nS b e 4 (pkC e (aU L) ld wy bs f)) L s
section
variable {b : pS} {L : xA} {s : rT} {e : Nat} {ld wy bs : Nat → Nat} {f : Nat}
theorem kS_i (o : ∀ i, i < 4 → Ot L (e + i)) {i : Nat} (hi : i < 4) : (kS b L s e ld wy bs f).2.2 (e + i) = pkC e (aU L) ld wy bs f i := (xS_o (o i hi)).trans (nS_i hi)
theorem kS_s (o : ∀ i, i < 4 → Ot L (e + i)) {i : Nat} (hi : i < 4) (c : pC) : pSet (kS b L s e ld wy bs f) (e + i) c = xS (nS b e 4 (upo (pkC e (aU L) ld wy bs f) i c)) L s := by
  unfold kS
  rw [xS_so (o i hi), nS_s hi]
theorem kS_g (o : ∀ i, i < 4 → Ot L (e + i)) : gFr (kS b L s e ld wy bs f) e 3 0 = some (aU L) ∧ gFr (kS b L s e ld wy bs f) e 3 1 = some (e + 1) ∧ gFr (kS b L s e ld wy bs f) e 3 2 = some (e + 2) ∧ gFr (kS b L s e ld wy bs f) e 3 3 = some (e + 3) ∧ gFi (kS b L s e ld wy bs f) e 3 4 = some (Int32.ofNat f) := by
  have h := kS_i (b := b) (s := s) (ld := ld) (wy := wy) (bs := bs) (f := f) o (i := 0) (by decide)
  exact ⟨gFr_at h rfl, gFr_at h rfl, gFr_at h rfl, gFr_at h rfl, gFi_at h rfl⟩
theorem kS_n (o : ∀ i, i < 4 → Ot L (e + i)) : gN (kS b L s e ld wy bs f) (e + 1) = some (Int32.ofNat 8) ∧ gN (kS b L s e ld wy bs f) (e + 2) = some (Int32.ofNat 8) ∧ gN (kS b L s e ld wy bs f) (e + 3) = some (Int32.ofNat 8) := ⟨gN_at (kS_i o (i := 1) (by decide)), gN_at (kS_i o (i := 2) (by decide)), gN_at (kS_i o (i := 3) (by decide))⟩
theorem kS_gI (o : ∀ i, i < 4 → Ot L (e + i)) {k : Nat} (hk : k < 8) : gI (kS b L s e ld wy bs f) (e + 1) (Int32.ofNat k) = some (Int32.ofNat (ld k)) ∧ gI (kS b L s e ld wy bs f) (e + 3) (Int32.ofNat k) = some (Int32.ofNat (bs k)) := ⟨by rw [gI_at (kS_i o (i := 1) (by decide)) hk (by decide), cut_lt _ hk], by rw [gI_at (kS_i o (i := 3) (by decide)) hk (by decide), cut_lt _ hk]⟩
theorem kS_p1 (o : ∀ i, i < 4 → Ot L (e + i)) {k : Nat} (hk : k < 8) (x : Nat) : pI (kS b L s e ld wy bs f) (e + 1) (Int32.ofNat k) (Int32.ofNat x) = some (kS b L s e (upN ld k x) wy bs f) := by
  rw [pI_at (kS_i o (i := 1) (by decide)) hk (by decide), kS_s o (by decide), pkC_1 _ _ _ _ _ _ _ _ hk]; rfl
theorem kS_p2 (o : ∀ i, i < 4 → Ot L (e + i)) {k : Nat} (hk : k < 8) (x : Nat) : pI (kS b L s e ld wy bs f) (e + 2) (Int32.ofNat k) (Int32.ofNat x) = some (kS b L s e ld (upN wy k x) bs f) := by
  rw [pI_at (kS_i o (i := 2) (by decide)) hk (by decide), kS_s o (by decide), pkC_2 _ _ _ _ _ _ _ _ hk]; rfl
theorem kS_f (o : ∀ i, i < 4 → Ot L (e + i)) (f' : Nat) : pF (kS b L s e ld wy bs f) e 3 4 (.int (Int32.ofNat f')) = some (kS b L s e ld wy bs f') := by
  have h0 : (kS b L s e ld wy bs f).2.2 e = some (cO 3 [.ref (aU L), .ref (e + 1), .ref (e + 2), .ref (e + 3), .int (Int32.ofNat f)]) := kS_i o (i := 0) (by decide)
  rw [pF_at h0 (by show 4 < 5; decide)]
  have := kS_s (b := b) (s := s) (ld := ld) (wy := wy) (bs := bs) (f := f) o (i := 0) (by decide) (cO 3 [.ref (aU L), .ref (e + 1), .ref (e + 2), .ref (e + 3), .int (Int32.ofNat f')])
  rw [pkC_0] at this
  exact congrArg some this
theorem kS_c (o : ∀ i, i < 4 → Ot L (e + i)) : pCp (kS b L s e ld wy bs f) (e + 2) 0 (e + 3) 0 (Int32.ofNat 8) = some (kS b L s e ld wy wy f) := by
  rw [pCp_at (kS_i o (i := 2) (by decide)) (kS_i o (i := 3) (by decide)) (by decide) (by decide) (by decide), kS_s o (by decide), pkC_3]; rfl
theorem kS_v {d M : Nat} {as : List Value} (o : ∀ i, i < 4 → Ot L (e + i)) (h : mO M = 3) : vcall (d + 1) M (.ref e :: as) (kS b L s e ld wy bs f) = den d M 0 (ent M (.ref e :: as)) [] (kS b L s e ld wy bs f) := by
  have h1 : rcv M (.ref e :: as) (kS b L s e ld wy bs f) = true := by
    show isO _ e (mO M) = true
    rw [h]; exact isO_at (kS_i o (i := 0) (by decide))
  unfold vcall
  rw [h1]
  rfl
theorem kS_u (D : Dj L) (o : ∀ i, i < 4 → Ot L (e + i)) : gFi (kS b L s e ld wy bs f) (aU L) 7 6 = some (s.1 46) ∧ gFi (kS b L s e ld wy bs f) (aU L) 7 7 = some (s.1 47) ∧ gFr (kS b L s e ld wy bs f) (aU L) 7 3 = some (aU L + 4) := by
  unfold kS
  simp only [xu_gF D, and_self]
theorem kS_d (D : Dj L) {k : Nat} (hk : k < 8) : gI (kS b L s e ld wy bs f) (aU L + 4) (Int32.ofNat k) = some (s.2 14 k) := by
  unfold kS
  simp (disch := omega) only [xu_gI D]
end
theorem upN_b (f : Nat → Nat) (k x : Nat) {y : Nat} (h : f k = x) : upN (upN f k (x + y)) k x = f := by
  funext j; unfold upN; by_cases e : j = k
  · subst e; rw [if_pos rfl, h]
  · rw [if_neg e, if_neg e]
/-- a way with fewer years than f from here: with n of them, and the first such -/
def rsP (dy : Nat → Nat) (Y r k ys f : Nat) (ld wy bs : Nat → Nat) (f' : Nat) (bs' : Nat → Nat) : Prop := (f' = f ∧ bs' = bs ∧ ∀ N, ys ≤ N → N < f → fe dy Y N r k ld = false) ∨ (f' < f ∧ ys ≤ f' ∧ fe dy Y f' r k ld = true ∧ (∀ N, ys ≤ N → N < f' → fe dy Y N r k ld = false) ∧ (∀ j, j < k → bs' j = wy j) ∧ ∀ j, k ≤ j → j < k + r → bs' j = gp dy Y f' r k ld j)
theorem c_P_lay (d : Nat) {b : pS} {L : xA} {s : rT} {e q Y : Nat} (D : Dj L) (o : ∀ i, i < 4 → Ot L (e + i)) (hq : q ≤ 8) (hY : Y ≤ 400) (dy : Nat → Nat) (hdy : ∀ k, k < q → dy k ≤ 400) (t1 : s.1 46 = Int32.ofNat q) (t2 : s.1 47 = Int32.ofNat Y) (t3 : ∀ k, k < q → s.2 14 k = Int32.ofNat (dy k)) : ∀ r k ys (ld wy bs : Nat → Nat) (f : Nat), k + r = q → ys ≤ k → f ≤ 9 → (∀ i, ld i ≤ Y) → (∀ y, ys ≤ y → ld y = 0) → ∃ wy' bs' f', (∀ j, j < k → wy' j = wy j) ∧ f' ≤ 9 ∧ rsP dy Y r k ys f ld wy bs f' bs' ∧ vcall (d + r + 1) m_Pk_lay [.ref e, .int (Int32.ofNat k), .int (Int32.ofNat ys)] (kS b L s e ld wy bs f) = some (.inl none, kS b L s e ld wy' bs' f') := by
  intro r
  induction r with
  | zero =>
    intro k ys ld wy bs f hk hys hf hl h0
    by_cases g : ys < f
    · refine ⟨wy, wy, ys, fun _ _ => rfl, by omega, Or.inr ⟨g, Nat.le_refl _, rfl, fun N h1 h2 => by omega, fun _ _ => rfl, fun j h1 h2 => by omega⟩, (kS_v o rfl).trans ((B_Pk_lay_0 _ _ _ _ _).trans ?_)⟩
      simp (disch := omega) only [kS_g o, kS_u D o, obs, t1, ii_lt, ii_le]
      rw [if_pos g, if_pos (by omega), B_Pk_lay_29]
      simp only [kS_f o, kS_g o, kS_n o, kS_c o, obs]
    · refine ⟨wy, bs, f, fun _ _ => rfl, hf, Or.inl ⟨rfl, rfl, fun N h1 h2 => by omega⟩, (kS_v o rfl).trans ((B_Pk_lay_0 _ _ _ _ _).trans ?_)⟩
      simp (disch := omega) only [kS_g o, obs, ii_lt]
      rw [if_neg g]
  | succ r ih =>
    intro k ys ld wy bs f hk hys hf hl h0
    by_cases g : ys < f
    · have hkq : k < q := by omega
      have hdk := hdy k hkq
      -- what the years before y have come to
      have go : ∀ n y (wy1 bs1 : Nat → Nat) (f1 : Nat), y + n = ys + 1 → (∀ j, j < k → wy1 j = wy j) → f1 ≤ 9 →
          ((f1 = f ∧ bs1 = bs ∧ ∀ z, z < y → ld z + dy k ≤ Y → ∀ N, max ys (z + 1) ≤ N → N < f → fe dy Y N r (k + 1) (upN ld z (ld z + dy k)) = false) ∨
           (f1 < f ∧ ∃ z0, z0 < y ∧ ld z0 + dy k ≤ Y ∧ max ys (z0 + 1) ≤ f1 ∧ fe dy Y f1 r (k + 1) (upN ld z0 (ld z0 + dy k)) = true ∧ (∀ z, z < y → ld z + dy k ≤ Y → ∀ N, max ys (z + 1) ≤ N → N < f1 → fe dy Y N r (k + 1) (upN ld z (ld z + dy k)) = false) ∧ (∀ z, z < z0 → ld z + dy k ≤ Y → fe dy Y f1 r (k + 1) (upN ld z (ld z + dy k)) = false) ∧ (∀ j, j < k → bs1 j = wy j) ∧ bs1 k = z0 ∧ ∀ j, k + 1 ≤ j → j < k + 1 + r → bs1 j = gp dy Y f1 r (k + 1) (upN ld z0 (ld z0 + dy k)) j)) →
          ∃ wy' bs' f', (∀ j, j < k → wy' j = wy j) ∧ f' ≤ 9 ∧ rsP dy Y (r + 1) k ys f ld wy bs f' bs' ∧ den (d + (r + 1)) m_Pk_lay 66 [.ref e, .int (Int32.ofNat k), .int (Int32.ofNat ys), .int (Int32.ofNat (dy k)), .int (Int32.ofNat y)] [] (kS b L s e ld wy1 bs1 f1) = some (.inl none, kS b L s e ld wy' bs' f') := by
        intro n
        induction n with
        | zero =>
          intro y wy1 bs1 f1 hy w1 hf1 hst
          refine ⟨wy1, bs1, f1, w1, hf1, ?_, ?_⟩
          · have noF : ∀ f2, (∀ z, z < y → ld z + dy k ≤ Y → ∀ N, max ys (z + 1) ≤ N → N < f2 → fe dy Y N r (k + 1) (upN ld z (ld z + dy k)) = false) → ∀ N, ys ≤ N → N < f2 → fe dy Y N (r + 1) k ld = false := by
              intro f2 hz N h1 h2
              cases hF : fe dy Y N (r + 1) k ld with
              | false => rfl
              | true =>
                obtain ⟨z, z1, z2, z3⟩ := fe_i.mp hF
                by_cases hzy : z ≤ ys
                · have := hz z (by omega) z2 N (by omega) h2
                  rw [this] at z3; cases z3
                · have z4 := fe_ys h0 z1 (by omega) z3
                  have := hz ys (by omega) (by rw [h0 ys (Nat.le_refl _)]; rw [h0 z (by omega)] at z2; exact z2) N (by omega) h2
                  rw [this] at z4; cases z4
            rcases hst with ⟨e1, e2, e3⟩ | ⟨e1, z0, e2, e3, e4, e5, e6, e7, e8, e9, e10⟩
            · exact Or.inl ⟨e1, e2, noF f e3⟩
            · refine Or.inr ⟨e1, by omega, fe_i.mpr ⟨z0, by omega, e3, e5⟩, noF f1 e6, e8, fun j h1 h2 => ?_⟩
              rw [gp_s (by omega) e3 e5 e7]
              by_cases ej : j = k
              · subst ej; rw [if_pos rfl]; exact e9
              · rw [if_neg ej]; exact e10 j (by omega) (by omega)
          · rw [B_Pk_lay_66]
            simp (disch := omega) only [ii_lt]
            rw [if_pos (by omega)]
        | succ n ihn =>
          intro y wy1 bs1 f1 hy w1 hf1 hst
          have hy8 : y < 8 := by omega
          have hly := hl y
          by_cases hfit : ld y + dy k ≤ Y
          · obtain ⟨wy2, bs2, f2, a1, a2, a3, a4⟩ := ih (k + 1) (max ys (y + 1)) (upN ld y (ld y + dy k)) (upN wy1 k y) bs1 f1 (by omega) (by omega) hf1 (fun i => by
              by_cases ei : i = y
              · subst ei; rw [upN_s]; exact hfit
              · rw [upN_n _ _ ei]; exact hl i) (fun z hz => by rw [upN_n _ _ (by omega)]; exact h0 z (by omega))
            have w2 : ∀ j, j < k → wy2 j = wy j := fun j hj => (a1 j (by omega)).trans ((upN_n _ _ (by omega)).trans (w1 j hj))
            obtain ⟨wy', bs', f', c1, c2, c3, c4⟩ := ihn (y + 1) wy2 bs2 f2 (by omega) w2 a2 (by
              rcases a3 with ⟨e1, e2, e3⟩ | ⟨e1, e2, e3, e4, e5, e6⟩
              · subst e1 e2
                rcases hst with ⟨g1, g2, g3⟩ | ⟨g1, z0, g2, g3, g4, g5, g6, g7⟩
                · refine Or.inl ⟨g1, g2, fun z hz hz2 N h1 h2 => ?_⟩
                  by_cases ez : z = y
                  · subst ez; rw [← g1] at h2; exact e3 N h1 h2
                  · exact g3 z (by omega) hz2 N h1 h2
                · refine Or.inr ⟨g1, z0, by omega, g3, g4, g5, fun z hz hz2 N h1 h2 => ?_, g7⟩
                  by_cases ez : z = y
                  · subst ez; exact e3 N h1 h2
                  · exact g6 z (by omega) hz2 N h1 h2
              · have old : ∀ z, z < y → ld z + dy k ≤ Y → ∀ N, max ys (z + 1) ≤ N → N < f1 → fe dy Y N r (k + 1) (upN ld z (ld z + dy k)) = false := by
                  rcases hst with ⟨g1, g2, g3⟩ | ⟨g1, z0, g2, g3, g4, g5, g6, g7⟩
                  · rw [g1]; exact g3
                  · exact g6
                have lt : f2 < f := by
                  rcases hst with ⟨g1, g2, g3⟩ | ⟨g1, z0, g2, g3, g4, g5, g6, g7⟩ <;> omega
                refine Or.inr ⟨lt, y, by omega, hfit, e2, e3, fun z hz hz2 N h1 h2 => ?_, fun z hz hz2 => old z hz hz2 f2 (by omega) e1, fun j hj => ?_, ?_, fun j h1 h2 => e6 j h1 (by omega)⟩
                · by_cases ez : z = y
                  · subst ez; exact e4 N h1 h2
                  · exact old z (by omega) hz2 N h1 (by omega)
                · rw [e5 j (by omega), upN_n _ _ (by omega)]; exact w1 j hj
                · rw [e5 k (by omega), upN_s])
            refine ⟨wy', bs', f', c1, c2, c3, ?_⟩
            have emx : (if ys < y + 1 then Int32.ofNat (y + 1) else Int32.ofNat ys) = Int32.ofNat (max ys (y + 1)) := by
              by_cases h : ys < y + 1
              · rw [if_pos h, Nat.max_eq_right (by omega)]
              · rw [if_neg h, Nat.max_eq_left (by omega)]
            have a4' : vcall (d + (r + 1)) m_Pk_lay [.ref e, .int (Int32.ofNat (k + 1)), .int (Int32.ofNat (max ys (y + 1)))] (kS b L s e (upN ld y (ld y + dy k)) (upN wy1 k y) bs1 f1) = some (.inl none, kS b L s e (upN ld y (ld y + dy k)) wy2 bs2 f2) := a4
            rw [B_Pk_lay_66]
            simp (disch := omega) only [kS_g o, kS_n o, kS_gI o hy8, kS_u D o, kS_p1 o hy8, kS_p2 o (show k < 8 by omega), obs, t2, ii_lt, ii_le, ii_add, emx, ii_1, a4', kC0_v, upN_s, ii_sub, Nat.add_sub_cancel]
            rw [if_neg (by omega), if_neg (by omega), if_neg (by omega), upN_b ld y (ld y) rfl]
            exact c4
          · obtain ⟨wy', bs', f', c1, c2, c3, c4⟩ := ihn (y + 1) wy1 bs1 f1 (by omega) w1 hf1 (by
              rcases hst with ⟨g1, g2, g3⟩ | ⟨g1, z0, g2, g3, g4, g5, g6, g7⟩
              · refine Or.inl ⟨g1, g2, fun z hz hz2 N h1 h2 => ?_⟩
                by_cases ez : z = y
                · subst ez; exact absurd hz2 hfit
                · exact g3 z (by omega) hz2 N h1 h2
              · refine Or.inr ⟨g1, z0, by omega, g3, g4, g5, fun z hz hz2 N h1 h2 => ?_, g7⟩
                by_cases ez : z = y
                · subst ez; exact absurd hz2 hfit
                · exact g6 z (by omega) hz2 N h1 h2)
            refine ⟨wy', bs', f', c1, c2, c3, ?_⟩
            rw [B_Pk_lay_66]
            simp (disch := omega) only [kS_g o, kS_n o, kS_gI o hy8, kS_u D o, obs, t2, ii_lt, ii_le, ii_add, ii_1]
            rw [if_neg (by omega), if_neg (by omega), if_pos (by omega)]
            exact c4
      obtain ⟨wy', bs', f', c1, c2, c3, c4⟩ := go (ys + 1) 0 wy bs f (by omega) (fun _ _ => rfl) hf (Or.inl ⟨rfl, rfl, fun z hz => absurd hz (Nat.not_lt_zero z)⟩)
      refine ⟨wy', bs', f', c1, c2, c3, (kS_v o rfl).trans ((B_Pk_lay_0 _ _ _ _ _).trans ?_)⟩
      simp (disch := omega) only [kS_g o, kS_u D o, kS_n o, kS_d D (show k < 8 by omega), t3 k hkq, obs, t1, ii_lt, ii_le]
      rw [if_pos g, if_neg (by omega), if_pos (by omega)]
      exact c4
    · refine ⟨wy, bs, f, fun _ _ => rfl, hf, Or.inl ⟨rfl, rfl, fun N h1 h2 => by omega⟩, (kS_v o rfl).trans ((B_Pk_lay_0 _ _ _ _ _).trans ?_)⟩
      simp (disch := omega) only [kS_g o, obs, ii_lt]
      rw [if_neg g]
theorem fw_r {dy : Nat → Nat} {Y q f' : Nat} {bs' : Nat → Nat} (h : rsP dy Y q 0 0 9 (fun _ => 0) (fun _ => 0) (fun _ => 0) f' bs') : f' = fwN dy Y q 9 0 ∧ (f' ≤ 8 → ∀ j, j < q → bs' j = gp dy Y f' q 0 (fun _ => 0) j) := by
  have key : ∀ n N, N + n = 9 → N ≤ f' → (∀ M, N ≤ M → M < f' → fe dy Y M q 0 (fun _ => 0) = false) → (f' = 9 ∨ fe dy Y f' q 0 (fun _ => 0) = true) → f' ≤ 9 → fwN dy Y q n N = f' := by
    intro n
    induction n with
    | zero => intro N h1 h2 _ _ h5; show N = f'; omega
    | succ n ih =>
      intro N h1 h2 h3 h4 h5
      unfold fwN
      by_cases e : N = f'
      · subst e
        rcases h4 with h4 | h4
        · omega
        · rw [if_pos h4]
      · rw [if_neg (by rw [h3 N (Nat.le_refl _) (by omega)]; simp)]
        exact ih (N + 1) (by omega) (by omega) (fun M a1 a2 => h3 M (by omega) a2) h4 h5
  rcases h with ⟨e1, e2, e3⟩ | ⟨e1, e2, e3, e4, e5, e6⟩
  · refine ⟨(key 9 0 rfl (Nat.zero_le _) (fun M a1 a2 => e3 M a1 (by omega)) (Or.inl e1) (by omega)).symm, fun g => by omega⟩
  · exact ⟨(key 9 0 rfl (Nat.zero_le _) (fun M a1 a2 => e4 M a1 a2) (Or.inr e3) (by omega)).symm, fun _ j hj => e6 j (Nat.zero_le _) (by omega)⟩
