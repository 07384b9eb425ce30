/-! THE SURROUNDINGS of the run -/
/-- the constructors above the exceptions -/
def xDl : List MethodName := [Bundle.init0 "java/lang/RuntimeException", Bundle.init0 "java/lang/Exception", Bundle.init0 Bundle.tN]
def EF (E : pEnv) (A : Nat → Prop) (U : State) (H : Heap) : Prop :=
  (vx_Zq Bundle.tN "UNASSIGNED_STACK" Bundle.steD A U H ∧ vx_Zq Bundle.tN "SUPPRESSED_SENTINEL" Bundle.listD A U H ∧ ∀ y ∈ xDl, va_Nw (.declares y) U) ∧
  (∀ (i : Nat) (r : Nat × Nat), SKs[i]? = some r → vk_R (oS r.1) r.2 (sTx.getD i "") (E.1 i) U) ∧
  (∀ i, i < 39 → va_O "java/lang/String" (E.1 i) A U H ∧ va_OF "java/lang/String" "coder" "B" (.int 0) (E.1 i) A U H ∧ va_OF "java/lang/String" "value" "[B" (.ref (E.2.1 i)) (E.1 i) A U H ∧ va_T .byte (E.2.1 i) ((pStr.getD i []).length) (fun j => .int ((pStr.getD i []).getD j 0)) A U H) ∧
  va_Z "java/lang/String" "COMPACT_STRINGS" "Z" (.int 1) A U H ∧ va_Zq "jdk/internal/util/Preconditions" "SIOOBE_FORMATTER" "Ljava/util/function/BiFunction;" A U H ∧
  ((∀ r ∈ MNs, va_Nw (nW r) U) ∧ va_Nw fN U ∧ va_AO "StillYear$Moment" U) ∧
  ((∀ k, k < 2 → va_Nw (.castable (eC k) (eC k)) U) ∧ va_Nc (eC 0) (eC 1) U ∧ va_Nc (eC 1) (eC 0) U) ∧
  (va_X E.2.2.1 E.2.2.2.1 E.2.2.2.2 U H ∧ E.2.2.1 < H.size ∧ ¬ A E.2.2.1)
theorem va_Nc.mv {C T : String} {u U : State} (hvm : u.vm.Alike U.vm) (h : va_Nc C T u) : va_Nc C T U := by
  obtain ⟨c, t, h1, h2, h3⟩ := h
  exact ⟨c, t, by rw [hvm.findClass]; exact h1, by rw [hvm.findClass]; exact h2, by rw [hvm.assignable]; exact h3⟩
theorem EF.warm {E : pEnv} {A : Nat → Prop} {s U : State} {H : Heap} (hW : s.WarmedH U.vm) (h : EF E A s H) : EF E A U H := by
  obtain ⟨⟨h1, h2, h2b⟩, h3, h4, h5, h5b, ⟨h6, h7, h8⟩, ⟨h9, h10, h11⟩, h12, h13, h14⟩ := h
  have ha := hW.alike
  refine ⟨⟨h1.moved ha, h2.moved ha, fun y hy => va_Nw.warmD hW (h2b y hy)⟩, fun i r hr => (h3 i r hr).warm hW, fun i hi => ⟨va_O.moved ha (h4 i hi).1, va_OF.moved ha (h4 i hi).2.1, va_OF.moved ha (h4 i hi).2.2.1, va_T.moved ha (h4 i hi).2.2.2⟩, va_Z.moved ha h5, va_Zq.moved ha h5b, ⟨fun r hr => va_Nw.warmM hW (h6 r hr), va_Nw.warmF hW h7, va_AO.moved ha h8⟩, ⟨fun k hk => va_Nw.warmC hW (h9 k hk), va_Nc.mv ha h10, va_Nc.mv ha h11⟩, va_X.moved ha h12, h13, h14⟩
theorem EF.kept {E : pEnv} {A : Nat → Prop} {U : State} {H H1 : Heap} (hz : H.size ≤ H1.size) (hq : ∀ a : Nat, a < H.size → ¬ A a → H1[a]? = H[a]?) (h : EF E A U H) : EF E A U H1 := by
  obtain ⟨⟨h1, h2, h2b⟩, h3, h4, h5, h5b, h6, h9, h12, h13, h14⟩ := h
  refine ⟨⟨h1.kept hq, h2.kept hq, h2b⟩, h3, fun i hi => ⟨(h4 i hi).1.kept hq, (h4 i hi).2.1.kept hq, (h4 i hi).2.2.1.kept hq, (h4 i hi).2.2.2.kept hq⟩, h5.kept hq, h5b.kept hq, h6, h9, h12.kept (hq _ h13 h14), Nat.lt_of_lt_of_le h13 hz, h14⟩
theorem EF.narrow {E : pEnv} {A B : Nat → Prop} {U : State} {H : Heap} (h : EF E A U H) (hAB : ∀ q, B q → A q) : EF E B U H := by
  obtain ⟨⟨h1, h2, h2b⟩, h3, h4, h5, h5b, h6, h9, h12, h13, h14⟩ := h
  refine ⟨⟨h1.narrow hAB, h2.narrow hAB, h2b⟩, h3, fun i hi => ⟨(h4 i hi).1.narrow hAB, (h4 i hi).2.1.narrow hAB, (h4 i hi).2.2.1.narrow hAB, (h4 i hi).2.2.2.narrow hAB⟩, h5.narrow hAB, h5b.narrow hAB, h6, h9, h12, h13, fun hb => h14 (hAB _ hb)⟩
