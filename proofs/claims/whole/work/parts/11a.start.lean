/-! THE START: what the Statement gives at the law's entry -/
def sTm (i : Nat) : Term := match SKs[i]? with
  | some r => .string (oS r.1) r.2
  | none => .arg 0
def sWd (i : Nat) : List Cond := [.exactly (sTm i) "java/lang/String", .eq (.field (sTm i) "java/lang/String" "coder" "B") (.int 0), .arrayOf (.field (sTm i) "java/lang/String" "value" "[B") .byte, .eq (.length (.field (sTm i) "java/lang/String" "value" "[B")) (.int (Int32.ofNat (pStr.getD i []).length))] ++ (List.range (pStr.getD i []).length).map (fun j => .eq (.elem (.field (sTm i) "java/lang/String" "value" "[B") (.int (Int32.ofNat j))) (.int ((pStr.getD i []).getD j 0)))
def fl_1 : List Cond := flatC (Jvm.Cond.and given_1 narrow_1)
theorem sW_of {i a n : Nat} (h : sWd i = (fl_1.drop a).take n) : ∀ w ∈ sWd i, w ∈ fl_1 := fun w hw => List.mem_of_mem_drop (List.mem_of_mem_take (h ▸ hw))
set_option maxRecDepth 100000 in
theorem sW_0 : sWd 0 = (fl_1.drop 37).take 8 := rfl
set_option maxRecDepth 100000 in
theorem sW_1 : sWd 1 = (fl_1.drop 45).take 10 := rfl
set_option maxRecDepth 100000 in
theorem sW_2 : sWd 2 = (fl_1.drop 55).take 11 := rfl
set_option maxRecDepth 100000 in
theorem sW_3 : sWd 3 = (fl_1.drop 66).take 8 := rfl
set_option maxRecDepth 100000 in
theorem sW_4 : sWd 4 = (fl_1.drop 74).take 8 := rfl
set_option maxRecDepth 100000 in
theorem sW_5 : sWd 5 = (fl_1.drop 82).take 9 := rfl
set_option maxRecDepth 100000 in
theorem sW_6 : sWd 6 = (fl_1.drop 91).take 8 := rfl
set_option maxRecDepth 100000 in
theorem sW_7 : sWd 7 = (fl_1.drop 99).take 9 := rfl
set_option maxRecDepth 100000 in
theorem sW_8 : sWd 8 = (fl_1.drop 108).take 8 := rfl
set_option maxRecDepth 100000 in
theorem sW_9 : sWd 9 = (fl_1.drop 116).take 9 := rfl
set_option maxRecDepth 100000 in
theorem sW_10 : sWd 10 = (fl_1.drop 125).take 10 := rfl
set_option maxRecDepth 100000 in
theorem sW_11 : sWd 11 = (fl_1.drop 135).take 8 := rfl
set_option maxRecDepth 100000 in
theorem sW_12 : sWd 12 = (fl_1.drop 144).take 10 := rfl
set_option maxRecDepth 100000 in
theorem sW_13 : sWd 13 = (fl_1.drop 155).take 10 := rfl
set_option maxRecDepth 100000 in
theorem sW_14 : sWd 14 = (fl_1.drop 165).take 7 := rfl
set_option maxRecDepth 100000 in
theorem sW_15 : sWd 15 = (fl_1.drop 172).take 7 := rfl
set_option maxRecDepth 100000 in
theorem sW_16 : sWd 16 = (fl_1.drop 179).take 8 := rfl
set_option maxRecDepth 100000 in
theorem sW_17 : sWd 17 = (fl_1.drop 187).take 8 := rfl
set_option maxRecDepth 100000 in
theorem sW_18 : sWd 18 = (fl_1.drop 195).take 11 := rfl
set_option maxRecDepth 100000 in
theorem sW_19 : sWd 19 = (fl_1.drop 206).take 7 := rfl
set_option maxRecDepth 100000 in
theorem sW_20 : sWd 20 = (fl_1.drop 214).take 9 := rfl
set_option maxRecDepth 100000 in
theorem sW_21 : sWd 21 = (fl_1.drop 223).take 11 := rfl
set_option maxRecDepth 100000 in
theorem sW_22 : sWd 22 = (fl_1.drop 235).take 8 := rfl
set_option maxRecDepth 100000 in
theorem sW_23 : sWd 23 = (fl_1.drop 245).take 10 := rfl
set_option maxRecDepth 100000 in
theorem sW_24 : sWd 24 = (fl_1.drop 257).take 8 := rfl
set_option maxRecDepth 100000 in
theorem sW_25 : sWd 25 = (fl_1.drop 266).take 8 := rfl
set_option maxRecDepth 100000 in
theorem sW_26 : sWd 26 = (fl_1.drop 275).take 9 := rfl
set_option maxRecDepth 100000 in
theorem sW_27 : sWd 27 = (fl_1.drop 285).take 8 := rfl
set_option maxRecDepth 100000 in
theorem sW_28 : sWd 28 = (fl_1.drop 294).take 9 := rfl
set_option maxRecDepth 100000 in
theorem sW_29 : sWd 29 = (fl_1.drop 304).take 8 := rfl
set_option maxRecDepth 100000 in
theorem sW_30 : sWd 30 = (fl_1.drop 313).take 9 := rfl
set_option maxRecDepth 100000 in
theorem sW_31 : sWd 31 = (fl_1.drop 323).take 10 := rfl
set_option maxRecDepth 100000 in
theorem sW_32 : sWd 32 = (fl_1.drop 334).take 10 := rfl
set_option maxRecDepth 100000 in
theorem sW_33 : sWd 33 = (fl_1.drop 345).take 7 := rfl
set_option maxRecDepth 100000 in
theorem sW_34 : sWd 34 = (fl_1.drop 354).take 11 := rfl
set_option maxRecDepth 100000 in
theorem sW_35 : sWd 35 = (fl_1.drop 366).take 7 := rfl
set_option maxRecDepth 100000 in
theorem sW_36 : sWd 36 = (fl_1.drop 374).take 8 := rfl
set_option maxRecDepth 100000 in
theorem sW_37 : sWd 37 = (fl_1.drop 383).take 8 := rfl
set_option maxRecDepth 100000 in
theorem sW_38 : sWd 38 = (fl_1.drop 392).take 9 := rfl
theorem sW_all : ∀ i, i < 39 → ∀ w ∈ sWd i, w ∈ fl_1
  | 0, _ => sW_of sW_0
  | 1, _ => sW_of sW_1
  | 2, _ => sW_of sW_2
  | 3, _ => sW_of sW_3
  | 4, _ => sW_of sW_4
  | 5, _ => sW_of sW_5
  | 6, _ => sW_of sW_6
  | 7, _ => sW_of sW_7
  | 8, _ => sW_of sW_8
  | 9, _ => sW_of sW_9
  | 10, _ => sW_of sW_10
  | 11, _ => sW_of sW_11
  | 12, _ => sW_of sW_12
  | 13, _ => sW_of sW_13
  | 14, _ => sW_of sW_14
  | 15, _ => sW_of sW_15
  | 16, _ => sW_of sW_16
  | 17, _ => sW_of sW_17
  | 18, _ => sW_of sW_18
  | 19, _ => sW_of sW_19
  | 20, _ => sW_of sW_20
  | 21, _ => sW_of sW_21
  | 22, _ => sW_of sW_22
  | 23, _ => sW_of sW_23
  | 24, _ => sW_of sW_24
  | 25, _ => sW_of sW_25
  | 26, _ => sW_of sW_26
  | 27, _ => sW_of sW_27
  | 28, _ => sW_of sW_28
  | 29, _ => sW_of sW_29
  | 30, _ => sW_of sW_30
  | 31, _ => sW_of sW_31
  | 32, _ => sW_of sW_32
  | 33, _ => sW_of sW_33
  | 34, _ => sW_of sW_34
  | 35, _ => sW_of sW_35
  | 36, _ => sW_of sW_36
  | 37, _ => sW_of sW_37
  | 38, _ => sW_of sW_38
  | n + 39, h => absurd h (by omega)
def sPos : List Nat := [664, 738, 743, 748, 753, 816, 822, 826, 827, 828, 829, 830, 831, 832, 833, 898, 905, 906, 907, 908, 909, 1577, 1594, 1598, 1599, 1600, 1656, 1661, 1666, 1667, 1668, 1669, 1670, 1671, 1680, 1685, 1686, 1687, 1688]
set_option maxRecDepth 100000 in
theorem sR_all : (List.range 39).all (fun i => match SKs[i]? with | some r => decide (lw_tbl[sPos.getD i 0]? = some (.stringRef (oS r.1) r.2 (sTx.getD i ""))) | none => false) = true := by decide +kernel
theorem str_ex {args : Array Value} {s : State} (hgv : (Jvm.Cond.and given_1 narrow_1).before args s = true) (hts : ∀ w ∈ lw_tbl, w.before args s = true) (i : Nat) (hi : i < 39) : ∃ aK aV : Nat, (∀ r, SKs[i]? = some r → vk_R (oS r.1) r.2 (sTx.getD i "") aK s) ∧ va_O "java/lang/String" aK (fun q => s.heap.size ≤ q) s s.heap ∧ va_OF "java/lang/String" "coder" "B" (.int 0) aK (fun q => s.heap.size ≤ q) s s.heap ∧ va_OF "java/lang/String" "value" "[B" (.ref aV) aK (fun q => s.heap.size ≤ q) s s.heap ∧ va_T .byte aV ((pStr.getD i []).length) (fun j => .int ((pStr.getD i []).getD j 0)) (fun q => s.heap.size ≤ q) s s.heap := by
  have hf := flat_of_before _ hgv
  have hw : ∀ w ∈ sWd i, w.before args s = true := fun w hw => hf w (sW_all i hi w hw)
  have hlen : (pStr.getD i []).length < 2 ^ 31 := by
    have hp : i < pStr.length := hi
    rw [List.getD_eq_getElem?_getD, List.getElem?_eq_getElem hp]
    have := (pStr_ok _ (List.getElem_mem hp)).1
    show (pStr[i]).length < _
    omega
  obtain ⟨adK, adV, hS, hev⟩ := vk_Sof (args := args) (s := s) (N := 1) (tm := fun _ => sTm i) (len := [(pStr.getD i []).length]) (byt := [pStr.getD i []]) (A := fun q => s.heap.size ≤ q) (fun k hk => by
      have : k = 0 := by omega
      subst this; exact hlen) (fun _ _ => hw _ (by simp [sWd])) (fun _ _ => hw _ (by simp [sWd])) (fun _ _ => hw _ (by simp [sWd])) (fun k hk => by
      have : k = 0 := by omega
      subst this
      exact hw _ (by simp [sWd])) (fun k hk j hj => by
      have : k = 0 := by omega
      subst this
      exact hw _ (List.mem_append_right _ (List.mem_map.mpr ⟨j, List.mem_range.mpr hj, rfl⟩))) (fun k j hk hj hne => absurd (by omega) hne) (fun a h => Nat.not_le.mpr h)
  obtain ⟨g1, g2, g3, g4⟩ := hS.1 0 (by decide)
  refine ⟨adK 0, adV 0, fun r hr => ?_, g1, g2, g3, g4⟩
  have h2 := List.all_eq_true.mp sR_all i (List.mem_range.mpr hi)
  rw [hr] at h2
  have h3 := hts _ (List.mem_of_getElem? (of_decide_eq_true h2))
  have h4 := hev 0 (by decide)
  have e1 : sTm i = .string (oS r.1) r.2 := by simp [sTm, hr]
  rw [e1] at h4
  exact vk_R.of h3 h4
set_option maxRecDepth 100000 in
/-- the surroundings at the start -/
theorem EF_start {s : State} {b L : Nat} {xs : Nat → Int32} (hts : ∀ w ∈ lw_tbl, w.before #[Value.ref b] s = true) (hX : va_X b L xs s s.heap) (hbl : b < s.heap.size) (hgv : (Jvm.Cond.and given_1 narrow_1).before #[Value.ref b] s = true) : ∃ adK adV : Nat → Nat, EF (adK, adV, b, L, xs) (fun q => s.heap.size ≤ q) s s.heap := by
  have hf := flat_of_before _ hgv
  have hA : ∀ a : Nat, a < s.heap.size → ¬ (fun q => s.heap.size ≤ q) a := fun a h => Nat.not_le.mpr h
  have hex : ∀ i : Nat, ∃ q : Nat × Nat, i < 39 → (∀ r, SKs[i]? = some r → vk_R (oS r.1) r.2 (sTx.getD i "") q.1 s) ∧ va_O "java/lang/String" q.1 (fun q => s.heap.size ≤ q) s s.heap ∧ va_OF "java/lang/String" "coder" "B" (.int 0) q.1 (fun q => s.heap.size ≤ q) s s.heap ∧ va_OF "java/lang/String" "value" "[B" (.ref q.2) q.1 (fun q => s.heap.size ≤ q) s s.heap ∧ va_T .byte q.2 ((pStr.getD i []).length) (fun j => .int ((pStr.getD i []).getD j 0)) (fun q => s.heap.size ≤ q) s s.heap := by
    intro i
    by_cases hi : i < 39
    · obtain ⟨aK, aV, h⟩ := str_ex hgv hts i hi
      exact ⟨(aK, aV), fun _ => h⟩
    · exact ⟨(0, 0), fun h => absurd h hi⟩
  obtain ⟨ad, had⟩ := Classical.axiomOfChoice hex
  refine ⟨fun i => (ad i).1, fun i => (ad i).2, ⟨?_, ?_, ?_⟩, ?_, ?_, ?_, ?_, ⟨?_, ?_, ?_⟩, ⟨?_, ?_, ?_⟩, hX, hbl, Nat.not_le.mpr hbl⟩
  · exact vx_Zqof (hts (.laysStatic Bundle.tN "UNASSIGNED_STACK" Bundle.steD) (List.mem_of_getElem? (i := 597) (by decide +kernel))) (hts (.initialized Bundle.tN) (List.mem_of_getElem? (i := 111) (by decide +kernel))) (hf (.isRef (.static Bundle.tN "UNASSIGNED_STACK" Bundle.steD)) (by decide +kernel)) hA
  · exact vx_Zqof (hts (.laysStatic Bundle.tN "SUPPRESSED_SENTINEL" Bundle.listD) (List.mem_of_getElem? (i := 599) (by decide +kernel))) (hts (.initialized Bundle.tN) (List.mem_of_getElem? (i := 111) (by decide +kernel))) (hf (.isRef (.static Bundle.tN "SUPPRESSED_SENTINEL" Bundle.listD)) (by decide +kernel)) hA
  · have hd : (xDl.all fun y => decide (Cond.declares y ∈ lw_tbl)) = true := by decide +kernel
    exact fun y hy => va_Nw.of rfl (hts _ (of_decide_eq_true (List.all_eq_true.mp hd y hy)))
  · intro i r hr
    have hi : i < 39 := (List.getElem?_eq_some_iff.mp hr).1
    exact (had i hi).1 r hr
  · exact fun i hi => (had i hi).2
  · exact va_Zof (hts (.laysStatic "java/lang/String" "COMPACT_STRINGS" "Z") (List.mem_of_getElem? (i := 678) (by decide +kernel))) (hts (.initialized "java/lang/String") (List.mem_of_getElem? (i := 115) (by decide +kernel))) (va_eqt (hf (.eq (.static "java/lang/String" "COMPACT_STRINGS" "Z") (.int 1)) (by decide +kernel))) hA
  · exact va_Zqof (hts (.laysStatic "jdk/internal/util/Preconditions" "SIOOBE_FORMATTER" "Ljava/util/function/BiFunction;") (List.mem_of_getElem? (i := 694) (by decide +kernel))) (hts (.initialized "jdk/internal/util/Preconditions") (List.mem_of_getElem? (i := 117) (by decide +kernel))) (hf (.isRef (.static "jdk/internal/util/Preconditions" "SIOOBE_FORMATTER" "Ljava/util/function/BiFunction;")) (by decide +kernel)) hA
  · exact fun r hr => va_Nw.of rfl (hts _ (MN_in r hr))
  · exact va_Nw.of rfl (hts _ fN_in)
  · exact va_AO.of (hts (.arrayOver (.object "StillYear$Moment")) (List.mem_of_getElem? (i := 184) (by decide +kernel)))
  · have hc : ∀ k, k < 2 → Cond.castable (eC k) (eC k) ∈ lw_tbl := by decide +kernel
    exact fun k hk => va_Nw.of rfl (hts _ (hc k hk))
  · exact va_Nc.of (hf (.not (.castable (eC 0) (eC 1))) (by decide +kernel))
  · exact va_Nc.of (hf (.not (.castable (eC 1) (eC 0))) (by decide +kernel))
