/-! THE START: what the Statement gives at the law's entry -/
def sTm (i : Nat) : Term := match SKs[i]? with
  | some r => .string (oS r.1) r.2
  | none => .arg 0
def sWd (i : Nat) : List Cond := [.exactly (sTm i) "java/lang/String", .eq (.field (sTm i) "java/lang/String" "coder" "B") (.int 0), .arrayOf (.field (sTm i) "java/lang/String" "value" "[B") .byte, .eq (.length (.field (sTm i) "java/lang/String" "value" "[B")) (.int (Int32.ofNat (pStr.getD i []).length))] ++ (List.range (pStr.getD i []).length).map (fun j => .eq (.elem (.field (sTm i) "java/lang/String" "value" "[B") (.int (Int32.ofNat j))) (.int ((pStr.getD i []).getD j 0)))
set_option maxRecDepth 100000 in
theorem sW_all : (List.range 39).all (fun i => (sWd i).all fun w => decide (w ∈ flatC (Jvm.Cond.and given_1 narrow_1))) = true := by decide +kernel
def sPos : List Nat := [664, 738, 743, 748, 753, 816, 822, 826, 827, 828, 829, 830, 831, 832, 833, 898, 905, 906, 907, 908, 909, 1577, 1594, 1598, 1599, 1600, 1656, 1661, 1666, 1667, 1668, 1669, 1670, 1671, 1680, 1685, 1686, 1687, 1688]
set_option maxRecDepth 100000 in
theorem sR_all : (List.range 39).all (fun i => match SKs[i]? with | some r => decide (lw_tbl[sPos.getD i 0]? = some (.stringRef (oS r.1) r.2 (sTx.getD i ""))) | none => false) = true := by decide +kernel
theorem str_ex {args : Array Value} {s : State} (hgv : (Jvm.Cond.and given_1 narrow_1).before args s = true) (hts : ∀ w ∈ lw_tbl, w.before args s = true) (i : Nat) (hi : i < 39) : ∃ aK aV : Nat, (∀ r, SKs[i]? = some r → vk_R (oS r.1) r.2 (sTx.getD i "") aK s) ∧ va_O "java/lang/String" aK (fun q => s.heap.size ≤ q) s s.heap ∧ va_OF "java/lang/String" "coder" "B" (.int 0) aK (fun q => s.heap.size ≤ q) s s.heap ∧ va_OF "java/lang/String" "value" "[B" (.ref aV) aK (fun q => s.heap.size ≤ q) s s.heap ∧ va_T .byte aV ((pStr.getD i []).length) (fun j => .int ((pStr.getD i []).getD j 0)) (fun q => s.heap.size ≤ q) s s.heap := by
  have hf := flat_of_before _ hgv
  have h1 := List.all_eq_true.mp sW_all i (List.mem_range.mpr hi)
  have hw : ∀ w ∈ sWd i, w.before args s = true := fun w hw => hf w (of_decide_eq_true (List.all_eq_true.mp h1 w hw))
  have hlen : (pStr.getD i []).length < 2 ^ 31 := by
    have hp : i < pStr.length := hi
    rw [List.getD_eq_getElem?_getD, List.getElem?_eq_getElem hp]
    have := (pStr_ok _ (List.getElem_mem hp)).1
    show (pStr[i]).length < _
    omega
  obtain ⟨adK, adV, hS, hev⟩ := vk_Sof (args := args) (s := s) (N := 1) (tm := fun _ => sTm i) (len := [(pStr.getD i []).length]) (byt := [pStr.getD i []]) (A := fun q => s.heap.size ≤ q) (fun k hk => by
      have : k = 0 := by omega
      subst this; exact hlen) (fun _ _ => hw _ (by simp [sWd])) (fun _ _ => hw _ (by simp [sWd])) (fun _ _ => hw _ (by simp [sWd])) (fun k hk => by
      have : k = 0 := by omega
      subst this
      exact hw _ (by simp [sWd])) (fun k hk j hj => by
      have : k = 0 := by omega
      subst this
      exact hw _ (List.mem_append_right _ (List.mem_map.mpr ⟨j, List.mem_range.mpr hj, rfl⟩))) (fun k j hk hj hne => absurd (by omega) hne) (fun a h => Nat.not_le.mpr h)
  obtain ⟨g1, g2, g3, g4⟩ := hS.1 0 (by decide)
  refine ⟨adK 0, adV 0, fun r hr => ?_, g1, g2, g3, g4⟩
  have h2 := List.all_eq_true.mp sR_all i (List.mem_range.mpr hi)
  rw [hr] at h2
  have h3 := hts _ (List.mem_of_getElem? (of_decide_eq_true h2))
  have h4 := hev 0 (by decide)
  have e1 : sTm i = .string (oS r.1) r.2 := by simp [sTm, hr]
  rw [e1] at h4
  exact vk_R.of h3 h4
set_option maxRecDepth 100000 in
/-- the surroundings at the start -/
theorem EF_start {s : State} {b L : Nat} {xs : Nat → Int32} (hts : ∀ w ∈ lw_tbl, w.before #[Value.ref b] s = true) (hX : va_X b L xs s s.heap) (hbl : b < s.heap.size) (hgv : (Jvm.Cond.and given_1 narrow_1).before #[Value.ref b] s = true) : ∃ adK adV : Nat → Nat, EF (adK, adV, b, L, xs) (fun q => s.heap.size ≤ q) s s.heap := by
  have hf := flat_of_before _ hgv
  have hA : ∀ a : Nat, a < s.heap.size → ¬ (fun q => s.heap.size ≤ q) a := fun a h => Nat.not_le.mpr h
  have hex : ∀ i : Nat, ∃ q : Nat × Nat, i < 39 → (∀ r, SKs[i]? = some r → vk_R (oS r.1) r.2 (sTx.getD i "") q.1 s) ∧ va_O "java/lang/String" q.1 (fun q => s.heap.size ≤ q) s s.heap ∧ va_OF "java/lang/String" "coder" "B" (.int 0) q.1 (fun q => s.heap.size ≤ q) s s.heap ∧ va_OF "java/lang/String" "value" "[B" (.ref q.2) q.1 (fun q => s.heap.size ≤ q) s s.heap ∧ va_T .byte q.2 ((pStr.getD i []).length) (fun j => .int ((pStr.getD i []).getD j 0)) (fun q => s.heap.size ≤ q) s s.heap := by
    intro i
    by_cases hi : i < 39
    · obtain ⟨aK, aV, h⟩ := str_ex hgv hts i hi
      exact ⟨(aK, aV), fun _ => h⟩
    · exact ⟨(0, 0), fun h => absurd h hi⟩
  obtain ⟨ad, had⟩ := Classical.axiomOfChoice hex
  refine ⟨fun i => (ad i).1, fun i => (ad i).2, ⟨?_, ?_, ?_⟩, ?_, ?_, ?_, ?_, ⟨?_, ?_, ?_⟩, ⟨?_, ?_, ?_⟩, hX, hbl, Nat.not_le.mpr hbl⟩
  · exact vx_Zqof (hts (.laysStatic Bundle.tN "UNASSIGNED_STACK" Bundle.steD) (List.mem_of_getElem? (i := 597) (by decide +kernel))) (hts (.initialized Bundle.tN) (List.mem_of_getElem? (i := 111) (by decide +kernel))) (hf (.isRef (.static Bundle.tN "UNASSIGNED_STACK" Bundle.steD)) (by decide +kernel)) hA
  · exact vx_Zqof (hts (.laysStatic Bundle.tN "SUPPRESSED_SENTINEL" Bundle.listD) (List.mem_of_getElem? (i := 599) (by decide +kernel))) (hts (.initialized Bundle.tN) (List.mem_of_getElem? (i := 111) (by decide +kernel))) (hf (.isRef (.static Bundle.tN "SUPPRESSED_SENTINEL" Bundle.listD)) (by decide +kernel)) hA
  · have hd : (xDl.all fun y => decide (Cond.declares y ∈ lw_tbl)) = true := by decide +kernel
    exact fun y hy => va_Nw.of rfl (hts _ (of_decide_eq_true (List.all_eq_true.mp hd y hy)))
  · intro i r hr
    have hi : i < 39 := (List.getElem?_eq_some_iff.mp hr).1
    exact (had i hi).1 r hr
  · exact fun i hi => (had i hi).2
  · exact va_Zof (hts (.laysStatic "java/lang/String" "COMPACT_STRINGS" "Z") (List.mem_of_getElem? (i := 678) (by decide +kernel))) (hts (.initialized "java/lang/String") (List.mem_of_getElem? (i := 115) (by decide +kernel))) (va_eqt (hf (.eq (.static "java/lang/String" "COMPACT_STRINGS" "Z") (.int 1)) (by decide +kernel))) hA
  · exact va_Zqof (hts (.laysStatic "jdk/internal/util/Preconditions" "SIOOBE_FORMATTER" "Ljava/util/function/BiFunction;") (List.mem_of_getElem? (i := 694) (by decide +kernel))) (hts (.initialized "jdk/internal/util/Preconditions") (List.mem_of_getElem? (i := 117) (by decide +kernel))) (hf (.isRef (.static "jdk/internal/util/Preconditions" "SIOOBE_FORMATTER" "Ljava/util/function/BiFunction;")) (by decide +kernel)) hA
  · exact fun r hr => va_Nw.of rfl (hts _ (MN_in r hr))
  · exact va_Nw.of rfl (hts _ fN_in)
  · exact va_AO.of (hts (.arrayOver (.object "StillYear$Moment")) (List.mem_of_getElem? (i := 184) (by decide +kernel)))
  · have hc : ∀ k, k < 2 → Cond.castable (eC k) (eC k) ∈ lw_tbl := by decide +kernel
    exact fun k hk => va_Nw.of rfl (hts _ (hc k hk))
  · exact va_Nc.of (hf (.not (.castable (eC 0) (eC 1))) (by decide +kernel))
  · exact va_Nc.of (hf (.not (.castable (eC 1) (eC 0))) (by decide +kernel))
