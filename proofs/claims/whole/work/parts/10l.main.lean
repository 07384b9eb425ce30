set_option maxRecDepth 10000 in
theorem ok55 {M pc a b : Nat} {x : Int} {i : Instr} (h : okI M pc 55 x a b i = true) : ∃ k, i = .invokevirtual k ∧ okC M 0 x a b k = true := by
  cases i
  case invokevirtual k => simp only [okI, Bool.and_eq_true, Bool.or_eq_true, Nat.beq_eq] at h; rcases h with (⟨-, h⟩ | ⟨h, -⟩) | ⟨h, -⟩ <;> first | exact ⟨k, rfl, h⟩ | omega
  case if_icmp cd zz => exfalso; cases cd <;> simp [okI, cdN] at h
  case ifCond cd zz => exfalso; cases cd <;> simp [okI, cdN] at h
  case newarray at_ => exfalso; cases at_ <;> simp [okI] at h
  all_goals (exfalso; simp [okI] at h; done)
set_option maxRecDepth 10000 in
theorem ok56 {M pc a b : Nat} {x : Int} {i : Instr} (h : okI M pc 56 x a b i = true) : ∃ k, i = .invokestatic k ∧ okC M 1 x a b k = true := by
  cases i
  case invokestatic k => simp only [okI, Bool.and_eq_true, Bool.or_eq_true, Nat.beq_eq] at h; rcases h with (((⟨-, h⟩ | ⟨h, -⟩) | ⟨h, -⟩) | ⟨h, -⟩) | ⟨h, -⟩ <;> first | exact ⟨k, rfl, h⟩ | omega
  case if_icmp cd zz => exfalso; cases cd <;> simp [okI, cdN] at h
  case ifCond cd zz => exfalso; cases cd <;> simp [okI, cdN] at h
  case newarray at_ => exfalso; cases at_ <;> simp [okI] at h
  all_goals (exfalso; simp [okI] at h; done)
set_option maxRecDepth 10000 in
theorem ok57 {M pc a b : Nat} {x : Int} {i : Instr} (h : okI M pc 57 x a b i = true) : ∃ k, i = .invokespecial k ∧ okC M 2 x a b k = true := by
  cases i
  case invokespecial k => simp only [okI, Bool.and_eq_true, Bool.or_eq_true, Nat.beq_eq] at h; rcases h with (⟨-, h⟩ | ⟨h, -⟩) | h <;> first | exact ⟨k, rfl, h⟩ | omega
  case if_icmp cd zz => exfalso; cases cd <;> simp [okI, cdN] at h
  case ifCond cd zz => exfalso; cases cd <;> simp [okI, cdN] at h
  case newarray at_ => exfalso; cases at_ <;> simp [okI] at h
  all_goals (exfalso; simp [okI] at h; done)
set_option maxHeartbeats 4000000 in
set_option maxRecDepth 10000 in
/-- THE PURE MACHINE IS TRUE: what it comes to, the machine comes to -/
theorem snd_all {l : Launch} (hl : l.stackTraces = false) (D : va_G) (E : pEnv) (hokA : ∀ (M pc : Nat) (e : pE), M < 312 → pTb M pc = some e → okE M pc e = true) : ∀ f, SND l D E f := by
  intro f
  induction f with
  | zero => intro d M pc ls st S out S' h; cases h
  | succ f ih =>
    intro d M pc ls st S out S' h hz hM p e R s m args below meth c H locs mls as A n0 sl0 Q cx hE hA hW hS hL hls hst hn0 hsl0 hfr hlo hRc hRs hfin
    unfold run at h
    cases ht : pTb M pc with
    | none => rw [ht] at h; cases h
    | some en =>
      rw [ht] at h
      dsimp only at h
      have hk := hokA M pc en hM ht
      obtain ⟨len, op, x, a, b⟩ := en
      unfold okE at hk
      dsimp only at hk
      cases hd : decode (mB M) pc with
      | error er => rw [hd] at hk; cases hk
      | ok r =>
        obtain ⟨i, n⟩ := r
        rw [hd] at hk
        simp only [Bool.and_eq_true, Nat.beq_eq] at hk
        obtain ⟨⟨hn, hlen⟩, hok⟩ := hk
        subst hn
        have ct : Ct l D E M p e R s m args below meth c A n0 sl0 Q (fun pc' ls' st' s' => run f d M pc' ls' st' s') (out, S') as S := fun pc' ls' mls' st' S1 as1 H1 locs1 hk ha hW1 hS1 hL1 hls1 hst1 hn hs => ih d M pc' ls' st' S1 out S' hk hz hM p e R s m args below meth c H1 locs1 mls' as1 A n0 sl0 Q cx hE hA hW1 hS1 hL1 hls1 hst1 (Nat.le_trans hn0 hn) (Nat.le_trans hsl0 hs) hfr hlo hRc hRs (Fin_mono hfin hn ha)
        have hge : ∀ pc ls st (S1 : pS), ge_ S1.1 S1.2.1 ((fun pc' ls' st' s' => run f d M pc' ls' st' s') pc ls st S1) := fun pc ls st S1 => run_ge f d M pc ls st S1
        by_cases h1 : op < 38 ∨ op = 67
        · exact stepA cx hE hA hW hS hL hls hst hn0 hsl0 hd hlen hok h1 h ct
        by_cases h2 : 38 ≤ op ∧ op < 54
        · exact stepB cx hE hA hW hS hL hls hst hn0 hsl0 hge hz hRc hRs hd hlen hok h2 h ct
        by_cases h3 : op = 55
        · subst h3
          obtain ⟨k, rfl, hC⟩ := ok55 hok
          simp only [ilen, Nat.beq_eq] at hlen
          subst hlen
          exact stepC ih (kind := 0) hM cx hE hA hW hS hL hls hst hn0 hsl0 hz hfr hlo hRc hRs hC (by decide) hd h ct hfin
        by_cases h4 : op = 56
        · subst h4
          obtain ⟨k, rfl, hC⟩ := ok56 hok
          simp only [ilen, Nat.beq_eq] at hlen
          subst hlen
          exact stepC ih (kind := 1) hM cx hE hA hW hS hL hls hst hn0 hsl0 hz hfr hlo hRc hRs hC (by decide) hd h ct hfin
        by_cases h5 : op = 57
        · subst h5
          obtain ⟨k, rfl, hC⟩ := ok57 hok
          simp only [ilen, Nat.beq_eq] at hlen
          subst hlen
          exact stepC ih (kind := 2) hM cx hE hA hW hS hL hls hst hn0 hsl0 hz hfr hlo hRc hRs hC (by decide) hd h ct hfin
        by_cases h6 : op = 60 ∨ op = 61
        · exact stepE cx hE hA hW hS hL hls hst hge hfr hlo hRc hRs hd hlen hok h6 h ct
        · exact stepD hl cx hE hA hW hS hL hls hst hn0 hsl0 hge hz hfr hlo hRc hRs hd hlen hok (by omega) h ct hfin
