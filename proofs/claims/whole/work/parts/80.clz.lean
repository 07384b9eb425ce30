/-! A CLAUSE of a studio, whatever it is, by program (gst.py) -/
theorem R_cl_w {B : Nat → Nat} {N : Nat} (hB : ∀ i, B i < 256) (hN : N ≤ 600) (d : Nat) (b : pS) {τ : rT} {a c : Nat} (ha : a ≤ N) (T : TR B N a τ) (h5 : τ.1 5 = -1) (hg : sk B N a < N) (hc : c ≤ 60) (l1 : Int32) (l3 l4 : Value) (x f : Int32) (hx : (x = 1 ∧ wq B (sk B N a) (we B N (sk B N a) - sk B N a) w_sitting 7) ∨ (x = 0 ∧ ¬ wq B (sk B N a) (we B N (sk B N a) - sk B N a) w_sitting 7 ∧ ((Int32.ofNat (wv B (sk B N a) (we B N (sk B N a) - sk B N a))) = oSeat ∨ (Int32.ofNat (wv B (sk B N a) (we B N (sk B N a) - sk B N a))) = oSitter ∨ (Int32.ofNat (wv B (sk B N a) (we B N (sk B N a) - sk B N a))) = oYear ∨ (Int32.ofNat (wv B (sk B N a) (we B N (sk B N a) - sk B N a))) = oFood))) (hf : ∀ t3, Kf [4] [] τ t3 → vcall (d + 4) m_R_isFull [.ref 30, .int (Int32.ofNat (wv B (sk B N a) (we B N (sk B N a) - sk B N a))), .int x] (mS b t3) = some (.inl (some (.int f)), mS b t3)) : ∃ t3, Kf [4] [] τ t3 ∧ TR B N (sk B N a) t3 ∧ (c < 60 ∧ f = 0 → den (d + 4) m_R_studio 44 [.ref 30, .int l1, .int (Int32.ofNat c), l3, l4] [] (mS b τ) = den (d + 4) m_R_studio 120 [.ref 30, .int l1, .int (Int32.ofNat c), .int x, .int (Int32.ofNat (wv B (sk B N a) (we B N (sk B N a) - sk B N a)))] [] (mS b t3)) ∧ (¬ (c < 60 ∧ f = 0) → den (d + 4) m_R_studio 44 [.ref 30, .int l1, .int (Int32.ofNat c), l3, l4] [] (mS b τ) = den (d + 4) m_R_studio 153 [.ref 30, .int l1, .int (Int32.ofNat c), .int x, .int (Int32.ofNat (wv B (sk B N a) (we B N (sk B N a) - sk B N a)))] [] (mS b (wF (wF t3 5 (Int32.ofNat (sk B N a))) 6 (Int32.ofNat 3)))) := by
  have hs := sk_le (B := B) ha
  obtain ⟨t3, y, k1, k2, k3, k4, k5⟩ := R_cl_go hB hN d b ha T h5 hg l1 (Int32.ofNat c) l3 l4
  have h5' : t3.1 5 = -1 := (k1.1 5 (by decide)).trans h5
  obtain ⟨e1, e2⟩ := R_cl_95 d b (st := sk B N a) k2.2.1 (by omega) h5' hc l1 x (Int32.ofNat (wv B (sk B N a) (we B N (sk B N a) - sk B N a))) f (hf t3 k1)
  have e95 : den (d + 4) m_R_studio 44 [.ref 30, .int l1, .int (Int32.ofNat c), l3, l4] [] (mS b τ) = den (d + 4) m_R_studio 95 [.ref 30, .int l1, .int (Int32.ofNat c), .int x, .int (Int32.ofNat (wv B (sk B N a) (we B N (sk B N a) - sk B N a)))] [] (mS b t3) := by
    rcases hx with ⟨g1, g2⟩ | ⟨g1, g2, g3⟩
    · have hy := k3 g2
      subst g1 hy
      rw [k5, if_pos (by decide)]
    · have hy := k4 g2
      subst g1 hy
      rw [k5, if_neg (fun h => h rfl), (R_short (d + 2) (mS b t3) _).1 g3, kC1_v, if_pos (by decide)]
  exact ⟨t3, k1, k2, fun g => e95.trans (e1 g), fun g => e95.trans (e2 g)⟩
theorem CL_seat {B : Nat → Nat} {N : Nat} (hB : ∀ i, B i < 256) (hN : N ≤ 600) {M mm : Nat} {H : pH} {L : xA} {r : rT} {m n q : Nat} (D : Dj L) (o : ∀ j, M ≤ j → Ot L j) {a c : Nat} (hc : c ≤ 60) (ha : a ≤ N) (hg : sk B N a < N) (hm : r.1 44 = Int32.ofNat m ∧ m ≤ 8) (hn : r.1 45 = Int32.ofNat n ∧ n ≤ 6) (hq : r.1 46 = Int32.ofNat q ∧ q ≤ 8) (hw : sk B N a < we B N (sk B N a)) (h : wq B (sk B N a) (we B N (sk B N a) - sk B N a) w_seat 4) : (∃ a' r' m' n' q', c < 60 ∧ a' ≤ N ∧ a < a' ∧ clG B N a M mm H L r m n q c a' r' m' n' q') ∨ (∃ k p, k ≤ 3 ∧ p ≤ 600 ∧ clW B N a M mm H L r m n q c k p) := by
  have hs := sk_le (B := B) ha
  have he : we B N (sk B N a) ≤ N := rn_le hs
  have nsit : ¬ wq B (sk B N a) (we B N (sk B N a) - sk B N a) w_sitting 7 := wq_ne h (Or.inl (by decide))
  have v0 : (Int32.ofNat (wv B (sk B N a) (we B N (sk B N a) - sk B N a))) = oSeat := by rw [(word_eq hB hN hs HW_22 (by decide) (by decide))]; exact h
  have v1 : (Int32.ofNat (wv B (sk B N a) (we B N (sk B N a) - sk B N a))) ≠ oSitter := fun e => by rw [(word_eq hB hN hs HW_23 (by decide) (by decide))] at e; exact absurd e (wq_ne h (Or.inl (by decide)))
  have v3 : (Int32.ofNat (wv B (sk B N a) (we B N (sk B N a) - sk B N a))) ≠ oYear := fun e => by rw [(word_eq hB hN hs HW_24 (by decide) (by decide))] at e; exact absurd e (wq_ne h (Or.inr ⟨0, by decide, by decide⟩))
  have v4 : (Int32.ofNat (wv B (sk B N a) (we B N (sk B N a) - sk B N a))) ≠ oFood := fun e => by rw [(word_eq hB hN hs HW_25 (by decide) (by decide))] at e; exact absurd e (wq_ne h (Or.inr ⟨0, by decide, by decide⟩))
  have ef : ((if Int32.ofNat m = 8 then 1 else 0) : Int32) = 0 ↔ m < 8 := by
    have e : (Int32.ofNat m = 8) = (m = 8) := ii_eq (b := 8) (by omega) (by omega)
    simp only [e]
    by_cases g : m = 8
    · rw [if_pos g]; exact ⟨fun h => absurd h (by decide), fun h => by omega⟩
    · rw [if_neg g]; exact ⟨fun _ => by omega, fun _ => rfl⟩
  have rw' := fun (d : Nat) (b : pS) (τ : rT) (l1 : Int32) (l3 l4 : Value) (T : TR B N a τ) (h5 : τ.1 5 = -1) (R : SR r τ m n q) => R_cl_w hB hN d b ha T h5 hg hc l1 l3 l4 0 (if Int32.ofNat m = 8 then 1 else 0) (Or.inr ⟨rfl, nsit, Or.inl v0⟩) (fun t3 k => by have e := (R_full (d + 2) b t3 (Int32.ofNat (wv B (sk B N a) (we B N (sk B N a) - sk B N a)))).2.1 v0; rw [(k.1 17 (by decide)).trans R.1.2.1] at e; exact e)
  by_cases g : c < 60 ∧ m < 8
  · refine ST_step hB hN D hc g.1 ha hg hw (fun d s T hst => (X_cl_seat hB hN d (M := M) (mm := mm) (H := H) (r := r) D o hc T hst he (by omega) hm.1 hm.2  h).trans (if_pos g)) (fun d b τ l1 l3 l4 T h5 R => ?_) (row_seat hB hN D o he hm.1 g.2)
    obtain ⟨t3, k1, k2, k3, k4⟩ := rw' d b τ l1 l3 l4 T h5 R
    exact ⟨t3, 0, (Int32.ofNat (wv B (sk B N a) (we B N (sk B N a) - sk B N a))), k1, k2, ⟨rfl, v0⟩, k3 ⟨g.1, ef.mpr g.2⟩⟩
  · refine Or.inr ⟨3, sk B N a, by decide, by omega, ST_full hB hN 3 D hc ha hg hw (fun d s T hst => (X_cl_seat hB hN d (M := M) (mm := mm) (H := H) (r := r) D o hc T hst he (by omega) hm.1 hm.2  h).trans (if_neg g)) (fun d b τ l1 l3 l4 T h5 R => ?_)⟩
    obtain ⟨t3, k1, k2, k3, k4⟩ := rw' d b τ l1 l3 l4 T h5 R
    exact ⟨t3, .int 0, .int (Int32.ofNat (wv B (sk B N a) (we B N (sk B N a) - sk B N a))), k1, k4 (fun g' => g ⟨g'.1, ef.mp g'.2⟩)⟩
theorem CL_sitter {B : Nat → Nat} {N : Nat} (hB : ∀ i, B i < 256) (hN : N ≤ 600) {M mm : Nat} {H : pH} {L : xA} {r : rT} {m n q : Nat} (D : Dj L) (o : ∀ j, M ≤ j → Ot L j) {a c : Nat} (hc : c ≤ 60) (ha : a ≤ N) (hg : sk B N a < N) (hm : r.1 44 = Int32.ofNat m ∧ m ≤ 8) (hn : r.1 45 = Int32.ofNat n ∧ n ≤ 6) (hq : r.1 46 = Int32.ofNat q ∧ q ≤ 8) (hw : sk B N a < we B N (sk B N a)) (h : wq B (sk B N a) (we B N (sk B N a) - sk B N a) w_sitter 6) : (∃ a' r' m' n' q', c < 60 ∧ a' ≤ N ∧ a < a' ∧ clG B N a M mm H L r m n q c a' r' m' n' q') ∨ (∃ k p, k ≤ 3 ∧ p ≤ 600 ∧ clW B N a M mm H L r m n q c k p) := by
  have hs := sk_le (B := B) ha
  have he : we B N (sk B N a) ≤ N := rn_le hs
  have nsit : ¬ wq B (sk B N a) (we B N (sk B N a) - sk B N a) w_sitting 7 := wq_ne h (Or.inl (by decide))
  have v0 : (Int32.ofNat (wv B (sk B N a) (we B N (sk B N a) - sk B N a))) ≠ oSeat := fun e => by rw [(word_eq hB hN hs HW_22 (by decide) (by decide))] at e; exact absurd e (wq_ne h (Or.inl (by decide)))
  have v1 : (Int32.ofNat (wv B (sk B N a) (we B N (sk B N a) - sk B N a))) = oSitter := by rw [(word_eq hB hN hs HW_23 (by decide) (by decide))]; exact h
  have v3 : (Int32.ofNat (wv B (sk B N a) (we B N (sk B N a) - sk B N a))) ≠ oYear := fun e => by rw [(word_eq hB hN hs HW_24 (by decide) (by decide))] at e; exact absurd e (wq_ne h (Or.inl (by decide)))
  have v4 : (Int32.ofNat (wv B (sk B N a) (we B N (sk B N a) - sk B N a))) ≠ oFood := fun e => by rw [(word_eq hB hN hs HW_25 (by decide) (by decide))] at e; exact absurd e (wq_ne h (Or.inl (by decide)))
  have ef : ((if Int32.ofNat n = 6 then 1 else 0) : Int32) = 0 ↔ n < 6 := by
    have e : (Int32.ofNat n = 6) = (n = 6) := ii_eq (b := 6) (by omega) (by omega)
    simp only [e]
    by_cases g : n = 6
    · rw [if_pos g]; exact ⟨fun h => absurd h (by decide), fun h => by omega⟩
    · rw [if_neg g]; exact ⟨fun _ => by omega, fun _ => rfl⟩
  have rw' := fun (d : Nat) (b : pS) (τ : rT) (l1 : Int32) (l3 l4 : Value) (T : TR B N a τ) (h5 : τ.1 5 = -1) (R : SR r τ m n q) => R_cl_w hB hN d b ha T h5 hg hc l1 l3 l4 0 (if Int32.ofNat n = 6 then 1 else 0) (Or.inr ⟨rfl, nsit, Or.inr (Or.inl v1)⟩) (fun t3 k => by have e := (R_full (d + 2) b t3 (Int32.ofNat (wv B (sk B N a) (we B N (sk B N a) - sk B N a)))).2.2.1 v0 v1; rw [(k.1 18 (by decide)).trans R.2.1.2.1] at e; exact e)
  by_cases g : c < 60 ∧ n < 6
  · refine ST_step hB hN D hc g.1 ha hg hw (fun d s T hst => (X_cl_sitter hB hN d (M := M) (mm := mm) (H := H) (r := r) D o hc T hst he (by omega) hn.1 (by omega) (wq_ne h (Or.inl (by decide))) h).trans (if_pos g)) (fun d b τ l1 l3 l4 T h5 R => ?_) (row_sitter hB hN D o he hn.1 g.2)
    obtain ⟨t3, k1, k2, k3, k4⟩ := rw' d b τ l1 l3 l4 T h5 R
    exact ⟨t3, 0, (Int32.ofNat (wv B (sk B N a) (we B N (sk B N a) - sk B N a))), k1, k2, ⟨rfl, v0, v1⟩, k3 ⟨g.1, ef.mpr g.2⟩⟩
  · refine Or.inr ⟨3, sk B N a, by decide, by omega, ST_full hB hN 3 D hc ha hg hw (fun d s T hst => (X_cl_sitter hB hN d (M := M) (mm := mm) (H := H) (r := r) D o hc T hst he (by omega) hn.1 (by omega) (wq_ne h (Or.inl (by decide))) h).trans (if_neg g)) (fun d b τ l1 l3 l4 T h5 R => ?_)⟩
    obtain ⟨t3, k1, k2, k3, k4⟩ := rw' d b τ l1 l3 l4 T h5 R
    exact ⟨t3, .int 0, .int (Int32.ofNat (wv B (sk B N a) (we B N (sk B N a) - sk B N a))), k1, k4 (fun g' => g ⟨g'.1, ef.mp g'.2⟩)⟩
theorem CL_sitting {B : Nat → Nat} {N : Nat} (hB : ∀ i, B i < 256) (hN : N ≤ 600) {M mm : Nat} {H : pH} {L : xA} {r : rT} {m n q : Nat} (D : Dj L) (o : ∀ j, M ≤ j → Ot L j) {a c : Nat} (hc : c ≤ 60) (ha : a ≤ N) (hg : sk B N a < N) (hm : r.1 44 = Int32.ofNat m ∧ m ≤ 8) (hn : r.1 45 = Int32.ofNat n ∧ n ≤ 6) (hq : r.1 46 = Int32.ofNat q ∧ q ≤ 8) (hw : sk B N a < we B N (sk B N a)) (h : wq B (sk B N a) (we B N (sk B N a) - sk B N a) w_sitting 7) : (∃ a' r' m' n' q', c < 60 ∧ a' ≤ N ∧ a < a' ∧ clG B N a M mm H L r m n q c a' r' m' n' q') ∨ (∃ k p, k ≤ 3 ∧ p ≤ 600 ∧ clW B N a M mm H L r m n q c k p) := by
  have hs := sk_le (B := B) ha
  have he : we B N (sk B N a) ≤ N := rn_le hs
  have ef : ((if Int32.ofNat q = 8 then 1 else 0) : Int32) = 0 ↔ q < 8 := by
    have e : (Int32.ofNat q = 8) = (q = 8) := ii_eq (b := 8) (by omega) (by omega)
    simp only [e]
    by_cases g : q = 8
    · rw [if_pos g]; exact ⟨fun h => absurd h (by decide), fun h => by omega⟩
    · rw [if_neg g]; exact ⟨fun _ => by omega, fun _ => rfl⟩
  have rw' := fun (d : Nat) (b : pS) (τ : rT) (l1 : Int32) (l3 l4 : Value) (T : TR B N a τ) (h5 : τ.1 5 = -1) (R : SR r τ m n q) => R_cl_w hB hN d b ha T h5 hg hc l1 l3 l4 1 (if Int32.ofNat q = 8 then 1 else 0) (Or.inl ⟨rfl, h⟩) (fun t3 k => by have e := (R_full (d + 2) b t3 (Int32.ofNat (wv B (sk B N a) (we B N (sk B N a) - sk B N a)))).1; rw [(k.1 19 (by decide)).trans R.2.2.1.2.1] at e; exact e)
  by_cases g : c < 60 ∧ q < 8
  · refine ST_step hB hN D hc g.1 ha hg hw (fun d s T hst => (X_cl_sitting hB hN d (M := M) (mm := mm) (H := H) (r := r) D o hc T hst he (by omega) hq.1 hq.2 (wq_ne h (Or.inl (by decide))) (wq_ne h (Or.inl (by decide))) h).trans (if_pos g)) (fun d b τ l1 l3 l4 T h5 R => ?_) (row_sitting hB hN D o he hq.1 g.2)
    obtain ⟨t3, k1, k2, k3, k4⟩ := rw' d b τ l1 l3 l4 T h5 R
    exact ⟨t3, 1, (Int32.ofNat (wv B (sk B N a) (we B N (sk B N a) - sk B N a))), k1, k2, rfl, k3 ⟨g.1, ef.mpr g.2⟩⟩
  · refine Or.inr ⟨3, sk B N a, by decide, by omega, ST_full hB hN 3 D hc ha hg hw (fun d s T hst => (X_cl_sitting hB hN d (M := M) (mm := mm) (H := H) (r := r) D o hc T hst he (by omega) hq.1 hq.2 (wq_ne h (Or.inl (by decide))) (wq_ne h (Or.inl (by decide))) h).trans (if_neg g)) (fun d b τ l1 l3 l4 T h5 R => ?_)⟩
    obtain ⟨t3, k1, k2, k3, k4⟩ := rw' d b τ l1 l3 l4 T h5 R
    exact ⟨t3, .int 1, .int (Int32.ofNat (wv B (sk B N a) (we B N (sk B N a) - sk B N a))), k1, k4 (fun g' => g ⟨g'.1, ef.mp g'.2⟩)⟩
theorem CL_year {B : Nat → Nat} {N : Nat} (hB : ∀ i, B i < 256) (hN : N ≤ 600) {M mm : Nat} {H : pH} {L : xA} {r : rT} {m n q : Nat} (D : Dj L) (o : ∀ j, M ≤ j → Ot L j) {a c : Nat} (hc : c ≤ 60) (ha : a ≤ N) (hg : sk B N a < N) (hm : r.1 44 = Int32.ofNat m ∧ m ≤ 8) (hn : r.1 45 = Int32.ofNat n ∧ n ≤ 6) (hq : r.1 46 = Int32.ofNat q ∧ q ≤ 8) (hw : sk B N a < we B N (sk B N a)) (h : wq B (sk B N a) (we B N (sk B N a) - sk B N a) w_year 4) : (∃ a' r' m' n' q', c < 60 ∧ a' ≤ N ∧ a < a' ∧ clG B N a M mm H L r m n q c a' r' m' n' q') ∨ (∃ k p, k ≤ 3 ∧ p ≤ 600 ∧ clW B N a M mm H L r m n q c k p) := by
  have hs := sk_le (B := B) ha
  have he : we B N (sk B N a) ≤ N := rn_le hs
  have nsit : ¬ wq B (sk B N a) (we B N (sk B N a) - sk B N a) w_sitting 7 := wq_ne h (Or.inl (by decide))
  have v0 : (Int32.ofNat (wv B (sk B N a) (we B N (sk B N a) - sk B N a))) ≠ oSeat := fun e => by rw [(word_eq hB hN hs HW_22 (by decide) (by decide))] at e; exact absurd e (wq_ne h (Or.inr ⟨0, by decide, by decide⟩))
  have v1 : (Int32.ofNat (wv B (sk B N a) (we B N (sk B N a) - sk B N a))) ≠ oSitter := fun e => by rw [(word_eq hB hN hs HW_23 (by decide) (by decide))] at e; exact absurd e (wq_ne h (Or.inl (by decide)))
  have v3 : (Int32.ofNat (wv B (sk B N a) (we B N (sk B N a) - sk B N a))) = oYear := by rw [(word_eq hB hN hs HW_24 (by decide) (by decide))]; exact h
  have v4 : (Int32.ofNat (wv B (sk B N a) (we B N (sk B N a) - sk B N a))) ≠ oFood := fun e => by rw [(word_eq hB hN hs HW_25 (by decide) (by decide))] at e; exact absurd e (wq_ne h (Or.inr ⟨0, by decide, by decide⟩))
  have ef : (0 : Int32) = 0 ↔ 0 < 1 := ⟨fun _ => by decide, fun _ => rfl⟩
  have rw' := fun (d : Nat) (b : pS) (τ : rT) (l1 : Int32) (l3 l4 : Value) (T : TR B N a τ) (h5 : τ.1 5 = -1) (R : SR r τ m n q) => R_cl_w hB hN d b ha T h5 hg hc l1 l3 l4 0 0 (Or.inr ⟨rfl, nsit, Or.inr (Or.inr (Or.inl v3))⟩) (fun t3 k => (R_full (d + 2) b t3 (Int32.ofNat (wv B (sk B N a) (we B N (sk B N a) - sk B N a)))).2.2.2 v0 v1)
  by_cases g : c < 60 ∧ 0 < 1
  · refine ST_step hB hN D hc g.1 ha hg hw (fun d s T hst => (X_cl_year hB hN d (M := M) (mm := mm) (H := H) (r := r) D o hc T hst he (by omega)  (wq_ne h (Or.inr ⟨0, by decide, by decide⟩)) (wq_ne h (Or.inl (by decide))) (wq_ne h (Or.inl (by decide))) h).trans (if_pos g)) (fun d b τ l1 l3 l4 T h5 R => ?_) (row_year hB hN D o he)
    obtain ⟨t3, k1, k2, k3, k4⟩ := rw' d b τ l1 l3 l4 T h5 R
    exact ⟨t3, 0, (Int32.ofNat (wv B (sk B N a) (we B N (sk B N a) - sk B N a))), k1, k2, ⟨rfl, v0, v1, v3⟩, k3 ⟨g.1, ef.mpr g.2⟩⟩
  · refine Or.inr ⟨3, sk B N a, by decide, by omega, ST_full hB hN 3 D hc ha hg hw (fun d s T hst => (X_cl_year hB hN d (M := M) (mm := mm) (H := H) (r := r) D o hc T hst he (by omega)  (wq_ne h (Or.inr ⟨0, by decide, by decide⟩)) (wq_ne h (Or.inl (by decide))) (wq_ne h (Or.inl (by decide))) h).trans (if_neg g)) (fun d b τ l1 l3 l4 T h5 R => ?_)⟩
    obtain ⟨t3, k1, k2, k3, k4⟩ := rw' d b τ l1 l3 l4 T h5 R
    exact ⟨t3, .int 0, .int (Int32.ofNat (wv B (sk B N a) (we B N (sk B N a) - sk B N a))), k1, k4 (fun g' => g ⟨g'.1, ef.mp g'.2⟩)⟩
theorem CL_food {B : Nat → Nat} {N : Nat} (hB : ∀ i, B i < 256) (hN : N ≤ 600) {M mm : Nat} {H : pH} {L : xA} {r : rT} {m n q : Nat} (D : Dj L) (o : ∀ j, M ≤ j → Ot L j) {a c : Nat} (hc : c ≤ 60) (ha : a ≤ N) (hg : sk B N a < N) (hm : r.1 44 = Int32.ofNat m ∧ m ≤ 8) (hn : r.1 45 = Int32.ofNat n ∧ n ≤ 6) (hq : r.1 46 = Int32.ofNat q ∧ q ≤ 8) (hw : sk B N a < we B N (sk B N a)) (h : wq B (sk B N a) (we B N (sk B N a) - sk B N a) w_food 4) : (∃ a' r' m' n' q', c < 60 ∧ a' ≤ N ∧ a < a' ∧ clG B N a M mm H L r m n q c a' r' m' n' q') ∨ (∃ k p, k ≤ 3 ∧ p ≤ 600 ∧ clW B N a M mm H L r m n q c k p) := by
  have hs := sk_le (B := B) ha
  have he : we B N (sk B N a) ≤ N := rn_le hs
  have nsit : ¬ wq B (sk B N a) (we B N (sk B N a) - sk B N a) w_sitting 7 := wq_ne h (Or.inl (by decide))
  have v0 : (Int32.ofNat (wv B (sk B N a) (we B N (sk B N a) - sk B N a))) ≠ oSeat := fun e => by rw [(word_eq hB hN hs HW_22 (by decide) (by decide))] at e; exact absurd e (wq_ne h (Or.inr ⟨0, by decide, by decide⟩))
  have v1 : (Int32.ofNat (wv B (sk B N a) (we B N (sk B N a) - sk B N a))) ≠ oSitter := fun e => by rw [(word_eq hB hN hs HW_23 (by decide) (by decide))] at e; exact absurd e (wq_ne h (Or.inl (by decide)))
  have v3 : (Int32.ofNat (wv B (sk B N a) (we B N (sk B N a) - sk B N a))) ≠ oYear := fun e => by rw [(word_eq hB hN hs HW_24 (by decide) (by decide))] at e; exact absurd e (wq_ne h (Or.inr ⟨0, by decide, by decide⟩))
  have v4 : (Int32.ofNat (wv B (sk B N a) (we B N (sk B N a) - sk B N a))) = oFood := by rw [(word_eq hB hN hs HW_25 (by decide) (by decide))]; exact h
  have ef : (0 : Int32) = 0 ↔ 0 < 1 := ⟨fun _ => by decide, fun _ => rfl⟩
  have rw' := fun (d : Nat) (b : pS) (τ : rT) (l1 : Int32) (l3 l4 : Value) (T : TR B N a τ) (h5 : τ.1 5 = -1) (R : SR r τ m n q) => R_cl_w hB hN d b ha T h5 hg hc l1 l3 l4 0 0 (Or.inr ⟨rfl, nsit, Or.inr (Or.inr (Or.inr v4))⟩) (fun t3 k => (R_full (d + 2) b t3 (Int32.ofNat (wv B (sk B N a) (we B N (sk B N a) - sk B N a)))).2.2.2 v0 v1)
  by_cases g : c < 60 ∧ 0 < 1
  · refine ST_step hB hN D hc g.1 ha hg hw (fun d s T hst => (X_cl_food hB hN d (M := M) (mm := mm) (H := H) (r := r) D o hc T hst he (by omega)  (wq_ne h (Or.inr ⟨0, by decide, by decide⟩)) (wq_ne h (Or.inl (by decide))) (wq_ne h (Or.inl (by decide))) (wq_ne h (Or.inr ⟨0, by decide, by decide⟩)) h).trans (if_pos g)) (fun d b τ l1 l3 l4 T h5 R => ?_) (row_food hB hN D o he)
    obtain ⟨t3, k1, k2, k3, k4⟩ := rw' d b τ l1 l3 l4 T h5 R
    exact ⟨t3, 0, (Int32.ofNat (wv B (sk B N a) (we B N (sk B N a) - sk B N a))), k1, k2, ⟨rfl, v0, v1, v3⟩, k3 ⟨g.1, ef.mpr g.2⟩⟩
  · refine Or.inr ⟨3, sk B N a, by decide, by omega, ST_full hB hN 3 D hc ha hg hw (fun d s T hst => (X_cl_food hB hN d (M := M) (mm := mm) (H := H) (r := r) D o hc T hst he (by omega)  (wq_ne h (Or.inr ⟨0, by decide, by decide⟩)) (wq_ne h (Or.inl (by decide))) (wq_ne h (Or.inl (by decide))) (wq_ne h (Or.inr ⟨0, by decide, by decide⟩)) h).trans (if_neg g)) (fun d b τ l1 l3 l4 T h5 R => ?_)⟩
    obtain ⟨t3, k1, k2, k3, k4⟩ := rw' d b τ l1 l3 l4 T h5 R
    exact ⟨t3, .int 0, .int (Int32.ofNat (wv B (sk B N a) (we B N (sk B N a) - sk B N a))), k1, k4 (fun g' => g ⟨g'.1, ef.mp g'.2⟩)⟩
