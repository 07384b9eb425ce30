/-! String.length() and String.charAt(k) of the constants -/
theorem elen_0 : decode cJ0_length_8abf5 0 = .ok (.aload_n 0, 1) := by decide +kernel
theorem elen_1 : decode cJ0_length_8abf5 1 = .ok (.getfield 9, 3) := by decide +kernel
theorem elen_4 : decode cJ0_length_8abf5 4 = .ok (.arraylength, 1) := by decide +kernel
theorem elen_5 : decode cJ0_length_8abf5 5 = .ok (.aload_n 0, 1) := by decide +kernel
theorem elen_6 : decode cJ0_length_8abf5 6 = .ok (.invokevirtual 335, 3) := by decide +kernel
theorem elen_9 : decode cJ0_length_8abf5 9 = .ok (.ishr, 1) := by decide +kernel
theorem elen_10 : decode cJ0_length_8abf5 10 = .ok (.ireturn, 1) := by decide +kernel
theorem ecod_0 : decode cJ0_coder_7d493 0 = .ok (.getstatic 38, 3) := by decide +kernel
theorem ecod_3 : decode cJ0_coder_7d493 3 = .ok (.ifCond .eq 10, 3) := by decide +kernel
theorem ecod_6 : decode cJ0_coder_7d493 6 = .ok (.aload_n 0, 1) := by decide +kernel
theorem ecod_7 : decode cJ0_coder_7d493 7 = .ok (.getfield 15, 3) := by decide +kernel
theorem ecod_10 : decode cJ0_coder_7d493 10 = .ok (.goto 4, 3) := by decide +kernel
theorem ecod_13 : decode cJ0_coder_7d493 13 = .ok (.iconst 1, 1) := by decide +kernel
theorem ecod_14 : decode cJ0_coder_7d493 14 = .ok (.ireturn, 1) := by decide +kernel
theorem echr_0 : decode cJ0_charAt_5068e 0 = .ok (.aload_n 0, 1) := by decide +kernel
theorem echr_1 : decode cJ0_charAt_5068e 1 = .ok (.invokevirtual 492, 3) := by decide +kernel
theorem echr_4 : decode cJ0_charAt_5068e 4 = .ok (.ifCond .eq 12, 3) := by decide +kernel
theorem echr_7 : decode cJ0_charAt_5068e 7 = .ok (.aload_n 0, 1) := by decide +kernel
theorem echr_8 : decode cJ0_charAt_5068e 8 = .ok (.getfield 9, 3) := by decide +kernel
theorem echr_11 : decode cJ0_charAt_5068e 11 = .ok (.iload_n 1, 1) := by decide +kernel
theorem echr_12 : decode cJ0_charAt_5068e 12 = .ok (.invokestatic 495, 3) := by decide +kernel
theorem echr_15 : decode cJ0_charAt_5068e 15 = .ok (.ireturn, 1) := by decide +kernel
theorem echr_16 : decode cJ0_charAt_5068e 16 = .ok (.aload_n 0, 1) := by decide +kernel
theorem echr_17 : decode cJ0_charAt_5068e 17 = .ok (.getfield 9, 3) := by decide +kernel
theorem echr_20 : decode cJ0_charAt_5068e 20 = .ok (.iload_n 1, 1) := by decide +kernel
theorem echr_21 : decode cJ0_charAt_5068e 21 = .ok (.invokestatic 498, 3) := by decide +kernel
theorem echr_24 : decode cJ0_charAt_5068e 24 = .ok (.ireturn, 1) := by decide +kernel
theorem elat_0 : decode cJ0_isLatin1_aae02 0 = .ok (.getstatic 38, 3) := by decide +kernel
theorem elat_3 : decode cJ0_isLatin1_aae02 3 = .ok (.ifCond .eq 14, 3) := by decide +kernel
theorem elat_6 : decode cJ0_isLatin1_aae02 6 = .ok (.aload_n 0, 1) := by decide +kernel
theorem elat_7 : decode cJ0_isLatin1_aae02 7 = .ok (.getfield 15, 3) := by decide +kernel
theorem elat_10 : decode cJ0_isLatin1_aae02 10 = .ok (.ifCond .ne 7, 3) := by decide +kernel
theorem elat_13 : decode cJ0_isLatin1_aae02 13 = .ok (.iconst 1, 1) := by decide +kernel
theorem elat_14 : decode cJ0_isLatin1_aae02 14 = .ok (.goto 4, 3) := by decide +kernel
theorem elat_17 : decode cJ0_isLatin1_aae02 17 = .ok (.iconst 0, 1) := by decide +kernel
theorem elat_18 : decode cJ0_isLatin1_aae02 18 = .ok (.ireturn, 1) := by decide +kernel
theorem el1c_0 : decode cJ1_charAt_3b067 0 = .ok (.iload_n 1, 1) := by decide +kernel
theorem el1c_1 : decode cJ1_charAt_3b067 1 = .ok (.aload_n 0, 1) := by decide +kernel
theorem el1c_2 : decode cJ1_charAt_3b067 2 = .ok (.arraylength, 1) := by decide +kernel
theorem el1c_3 : decode cJ1_charAt_3b067 3 = .ok (.invokestatic 9, 3) := by decide +kernel
theorem el1c_6 : decode cJ1_charAt_3b067 6 = .ok (.aload_n 0, 1) := by decide +kernel
theorem el1c_7 : decode cJ1_charAt_3b067 7 = .ok (.iload_n 1, 1) := by decide +kernel
theorem el1c_8 : decode cJ1_charAt_3b067 8 = .ok (.baload, 1) := by decide +kernel
theorem el1c_9 : decode cJ1_charAt_3b067 9 = .ok (.sipush 255, 3) := by decide +kernel
theorem el1c_12 : decode cJ1_charAt_3b067 12 = .ok (.iand, 1) := by decide +kernel
theorem el1c_13 : decode cJ1_charAt_3b067 13 = .ok (.i2c, 1) := by decide +kernel
theorem el1c_14 : decode cJ1_charAt_3b067 14 = .ok (.ireturn, 1) := by decide +kernel
theorem echk_0 : decode cJ0_checkIndex_df160 0 = .ok (.iload_n 0, 1) := by decide +kernel
theorem echk_1 : decode cJ0_checkIndex_df160 1 = .ok (.iload_n 1, 1) := by decide +kernel
theorem echk_2 : decode cJ0_checkIndex_df160 2 = .ok (.getstatic 1053, 3) := by decide +kernel
theorem echk_5 : decode cJ0_checkIndex_df160 5 = .ok (.invokestatic 1059, 3) := by decide +kernel
theorem echk_8 : decode cJ0_checkIndex_df160 8 = .ok (.pop, 1) := by decide +kernel
theorem echk_9 : decode cJ0_checkIndex_df160 9 = .ok (.return_, 1) := by decide +kernel
theorem epci_0 : decode cJ3_checkIndex_8e157 0 = .ok (.iload_n 0, 1) := by decide +kernel
theorem epci_1 : decode cJ3_checkIndex_8e157 1 = .ok (.ifCond .lt 8, 3) := by decide +kernel
theorem epci_4 : decode cJ3_checkIndex_8e157 4 = .ok (.iload_n 0, 1) := by decide +kernel
theorem epci_5 : decode cJ3_checkIndex_8e157 5 = .ok (.iload_n 1, 1) := by decide +kernel
theorem epci_6 : decode cJ3_checkIndex_8e157 6 = .ok (.if_icmp .lt 10, 3) := by decide +kernel
theorem epci_9 : decode cJ3_checkIndex_8e157 9 = .ok (.aload_n 2, 1) := by decide +kernel
theorem epci_10 : decode cJ3_checkIndex_8e157 10 = .ok (.iload_n 0, 1) := by decide +kernel
theorem epci_11 : decode cJ3_checkIndex_8e157 11 = .ok (.iload_n 1, 1) := by decide +kernel
theorem epci_12 : decode cJ3_checkIndex_8e157 12 = .ok (.invokestatic 95, 3) := by decide +kernel
theorem epci_15 : decode cJ3_checkIndex_8e157 15 = .ok (.athrow, 1) := by decide +kernel
theorem epci_16 : decode cJ3_checkIndex_8e157 16 = .ok (.iload_n 0, 1) := by decide +kernel
theorem epci_17 : decode cJ3_checkIndex_8e157 17 = .ok (.ireturn, 1) := by decide +kernel
abbrev wC_len : Cond := .code yJ0_length_8abf5 cJ0_length_8abf5 1 (some .int)
set_option maxRecDepth 100000 in
theorem w_len : wC_len ∈ wT := wT_in 672 rfl (by decide +kernel)
abbrev wC_cod : Cond := .code yJ0_coder_7d493 cJ0_coder_7d493 1 (some .byte)
set_option maxRecDepth 100000 in
theorem w_cod : wC_cod ∈ wT := wT_in 676 rfl (by decide +kernel)
abbrev wC_chr : Cond := .code yJ0_charAt_5068e cJ0_charAt_5068e 2 (some .char)
set_option maxRecDepth 100000 in
theorem w_chr : wC_chr ∈ wT := wT_in 682 rfl (by decide +kernel)
abbrev wC_lat : Cond := .code yJ0_isLatin1_aae02 cJ0_isLatin1_aae02 1 (some .boolean)
set_option maxRecDepth 100000 in
theorem w_lat : wC_lat ∈ wT := wT_in 686 rfl (by decide +kernel)
abbrev wC_l1c : Cond := .code yJ1_charAt_3b067 cJ1_charAt_3b067 2 (some .char)
set_option maxRecDepth 100000 in
theorem w_l1c : wC_l1c ∈ wT := wT_in 689 rfl (by decide +kernel)
abbrev wC_chk : Cond := .code yJ0_checkIndex_df160 cJ0_checkIndex_df160 2 none
set_option maxRecDepth 100000 in
theorem w_chk : wC_chk ∈ wT := wT_in 692 rfl (by decide +kernel)
abbrev wC_pci : Cond := .code yJ3_checkIndex_8e157 cJ3_checkIndex_8e157 3 (some .int)
set_option maxRecDepth 100000 in
theorem w_pci : wC_pci ∈ wT := wT_in 697 rfl (by decide +kernel)
theorem w_f38 : Cond.fieldLink "java/lang/String" 38 "java/lang/String" "COMPACT_STRINGS" "Z" ∈ wT := wT_in 677 (by decide +kernel) rfl
theorem w_f1053 : Cond.fieldLink "java/lang/String" 1053 "jdk/internal/util/Preconditions" "SIOOBE_FORMATTER" "Ljava/util/function/BiFunction;" ∈ wT := wT_in 693 (by decide +kernel) rfl
theorem w_f9 : Cond.fieldLink "java/lang/String" 9 "java/lang/String" "value" "[B" ∈ wT := wT_in 2011 (by decide +kernel) rfl
theorem w_f15 : Cond.fieldLink "java/lang/String" 15 "java/lang/String" "coder" "B" ∈ wT := wT_in 2012 (by decide +kernel) rfl
theorem w_m335 : Cond.methodLink "java/lang/String" 335 yJ0_coder_7d493 ∈ wT := wT_in 673 (by decide +kernel) rfl
theorem w_m492 : Cond.methodLink "java/lang/String" 492 yJ0_isLatin1_aae02 ∈ wT := wT_in 683 (by decide +kernel) rfl
theorem w_m495 : Cond.methodLink "java/lang/String" 495 yJ1_charAt_3b067 ∈ wT := wT_in 687 (by decide +kernel) rfl
theorem w_m9 : Cond.methodLink "java/lang/StringLatin1" 9 yJ0_checkIndex_df160 ∈ wT := wT_in 690 (by decide +kernel) rfl
theorem w_m1059 : Cond.methodLink "java/lang/String" 1059 yJ3_checkIndex_8e157 ∈ wT := wT_in 695 (by decide +kernel) rfl
theorem w_icod : Cond.instanceMethod yJ0_coder_7d493 ∈ wT := wT_in 674 (by decide +kernel) rfl
theorem w_scod : Cond.selects "java/lang/String" yJ0_coder_7d493 yJ0_coder_7d493 ∈ wT := wT_in 675 (by decide +kernel) rfl
theorem w_ilat : Cond.instanceMethod yJ0_isLatin1_aae02 ∈ wT := wT_in 684 (by decide +kernel) rfl
theorem w_slat : Cond.selects "java/lang/String" yJ0_isLatin1_aae02 yJ0_isLatin1_aae02 ∈ wT := wT_in 685 (by decide +kernel) rfl
theorem w_ilen : Cond.instanceMethod yJ0_length_8abf5 ∈ wT := wT_in 670 (by decide +kernel) rfl
theorem w_slen : Cond.selects "java/lang/String" yJ0_length_8abf5 yJ0_length_8abf5 ∈ wT := wT_in 671 (by decide +kernel) rfl
theorem w_ichr : Cond.instanceMethod yJ0_charAt_5068e ∈ wT := wT_in 680 (by decide +kernel) rfl
theorem w_schr : Cond.selects "java/lang/String" yJ0_charAt_5068e yJ0_charAt_5068e ∈ wT := wT_in 681 (by decide +kernel) rfl
theorem w_tl1c : Cond.static yJ1_charAt_3b067 ∈ wT := wT_in 688 (by decide +kernel) rfl
theorem w_tchk : Cond.static yJ0_checkIndex_df160 ∈ wT := wT_in 691 (by decide +kernel) rfl
theorem w_tpci : Cond.static yJ3_checkIndex_8e157 ∈ wT := wT_in 696 (by decide +kernel) rfl
theorem w_zS : Cond.initialized "java/lang/String" ∈ wT := wT_in 115 (by decide +kernel) rfl
theorem w_zL : Cond.initialized "java/lang/StringLatin1" ∈ wT := wT_in 116 (by decide +kernel) rfl
theorem w_zP : Cond.initialized "jdk/internal/util/Preconditions" ∈ wT := wT_in 117 (by decide +kernel) rfl
theorem wc_Good {w : Cond} (h : w ∈ wT) : GoodIn wT (w :: wT) := fun y hy => (List.mem_cons.mp hy).elim (fun e => by subst e; exact ⟨h, good_of_word (wT_good h)⟩) (wT_GoodIn y)
def rmS (n : Nat) : Room := { frames := n, cells := 0, slots := 0, locals := 40 * n }
def sQ (v : Option Value) : Array Value → State → Outcome → State → Prop := fun _ st oc t => oc = .returned v ∧ t.heap = st.heap
def sP (E : pEnv) (sz : Nat) (U : State) : Prop := U.heap.size = sz ∧ EF E (fun q => sz ≤ q) U U.heap
theorem sP_blind {E : pEnv} {sz : Nat} {av : List Value} : FrameBlind (va_Pc av (sP E sz)) := by
  intro a U g mk h
  obtain ⟨h1, h2, h3⟩ := h
  exact ⟨h1, h2, EF.same (s := U) (U := U.calling g mk a) rfl h3⟩
theorem sP_at {E : pEnv} {s : State} {av : List Value} (hE : EF E (fun q => s.heap.size ≤ q) s s.heap) : ∀ U : State, U.heap = s.heap → s.WarmedH U.vm → va_Pc av (sP E s.heap.size) av.toArray U := by
  intro U hU hW
  refine ⟨rfl, by rw [hU], ?_⟩
  rw [hU]
  exact EF.warm hW hE
theorem sRecv {E : pEnv} {A : Nat → Prop} {s : State} {H : Heap} {i : Nat} (hE : EF E A s H) (hi : i < 39) : ∃ cell : Cell, H[E.1 i]? = some cell ∧ cell.vm.isStatics = false ∧ s.vm.findClass "java/lang/String" = some cell.cls := by
  obtain ⟨cell, h1, h2, h3, -⟩ := (hE.2.2.1 i hi).1
  exact ⟨cell, h1, h2, h3⟩
section
variable {p : Program} {l : Launch} {e : Env} {R : Room} {s : State} {m : MethodId} {args : Array Value} {below : List Frame} {meth : Method} {c : Code} {H : Heap} {locs : List Loc} {cells slots : Nat} {Q : State → Prop}
theorem callH {g : JFrame} {rest : List Value} {v : Option Value} {a : Array Value} (hr : CallRun p l e R s m args below meth c H locs cells slots 0 0 g rest (sQ v a) (fun _ => False)) (kk : W p l e R s m args below meth c H locs cells slots Q { g with pc := g.pc + 3, stack := v.toList ++ rest }) : W p l e R s m args below meth c H locs cells slots Q g := by
  intro T hT X
  obtain ⟨v', st₀, t, T', L, h0, X', hL, e1, ⟨hv, hh⟩, st⟩ := hr T hT X
  cases hv
  obtain ⟨t2, a1, b1⟩ := kk T' (by rw [e1, hh, h0]) (Stand.forget X' (fun q h => (hL q h).elim))
  exact ⟨t2, st t2 a1, b1⟩
end
theorem pStr_ok : ∀ bs ∈ pStr, bs.length < 1000 ∧ ∀ b ∈ bs, ((b &&& 255).toUInt32 % 65536).toInt32 = b ∧ narrow .char (.int b) = .int b := by decide +kernel
set_option maxHeartbeats 2000000 in
set_option maxRecDepth 20000 in
theorem m_cod (l : Launch) (E : pEnv) (sz : Nat) {i : Nat} (hi : i < 39) : Met l yJ0_coder_7d493 (wC_cod :: wT) (rmS 0) (va_Pc ([.ref (E.1 i)]) (sP E sz)) (sQ (some (.int 0))) 0 0 (fun _ => False) := by
  refine Met.ofW (cc := cJ0_coder_7d493) (maxL := 1) (ret := (some .byte)) (by decide +kernel) rfl ?_
  intro p e s m args below meth c s₁ B hml hv
  obtain ⟨rfl, hsz, hE⟩ := hv
  have hx := B.exec
  have hb := B.bytes
  have hr := B.returns
  have hts0 := atoms_spec (ws := wC_cod :: wT) B.pre
  have hts : ∀ w ∈ wT, w.before _ s = true := fun w h => hts0 w (List.mem_cons_of_mem _ h)
  have hown : s.vm.findClass "java/lang/String" = some m.cls := findClass_of_methodNamed B.named
  have hlk := B.notSynchronized
  subst hsz
  have hS : va_S (fun q => s.heap.size ≤ q) s.heap s.heap [] := va_S.rf
  have hl := lv_entry ([.ref (E.1 i)]) (n := 1) (by first | exact Nat.le_of_ble_eq_true rfl | (cases w <;> first | exact Nat.le_of_ble_eq_true rfl | cases hw))
  rw [lg_entry_eq]
  generalize (lg_sl ([.ref (E.1 i)]) ++ List.replicate (1 - (lg_sl ([.ref (E.1 i)])).length) Slot.unset).toArray = ls at hl ⊢
  have hl : lv_has ls 1 [(0, .ref (E.1 i))] := hl
  refine va_gets hx hb hE.2.2.2.1 hS hown (hts _ w_f38) (fun _ h => h) ecod_0 ?_
  refine lv_if_eq (tgt := 13) hx hb ecod_3 (by decide) (fun h => absurd h (by decide)) (fun _ => ?_)
  refine lv_aload_n hx hb ecod_6 rfl (lv_at hl 0 rfl) ?_
  refine vk_getf hx hb (hE.2.2.1 i hi).2.1 hS hown (hts _ w_f15) (fun _ h => h) ecod_7 ?_
  refine lv_goto (tgt := 14) hx hb ecod_10 (by decide) ?_
  exact W.zret (ty := .byte) hx hb hr rfl (fun t ht _ => ⟨rfl, ht⟩) (fun q h => by cases h) ecod_14 hlk
set_option maxHeartbeats 2000000 in
set_option maxRecDepth 20000 in
theorem m_lat (l : Launch) (E : pEnv) (sz : Nat) {i : Nat} (hi : i < 39) : Met l yJ0_isLatin1_aae02 (wC_lat :: wT) (rmS 0) (va_Pc ([.ref (E.1 i)]) (sP E sz)) (sQ (some (.int 1))) 0 0 (fun _ => False) := by
  refine Met.ofW (cc := cJ0_isLatin1_aae02) (maxL := 1) (ret := (some .boolean)) (by decide +kernel) rfl ?_
  intro p e s m args below meth c s₁ B hml hv
  obtain ⟨rfl, hsz, hE⟩ := hv
  have hx := B.exec
  have hb := B.bytes
  have hr := B.returns
  have hts0 := atoms_spec (ws := wC_lat :: wT) B.pre
  have hts : ∀ w ∈ wT, w.before _ s = true := fun w h => hts0 w (List.mem_cons_of_mem _ h)
  have hown : s.vm.findClass "java/lang/String" = some m.cls := findClass_of_methodNamed B.named
  have hlk := B.notSynchronized
  subst hsz
  have hS : va_S (fun q => s.heap.size ≤ q) s.heap s.heap [] := va_S.rf
  have hl := lv_entry ([.ref (E.1 i)]) (n := 1) (by first | exact Nat.le_of_ble_eq_true rfl | (cases w <;> first | exact Nat.le_of_ble_eq_true rfl | cases hw))
  rw [lg_entry_eq]
  generalize (lg_sl ([.ref (E.1 i)]) ++ List.replicate (1 - (lg_sl ([.ref (E.1 i)])).length) Slot.unset).toArray = ls at hl ⊢
  have hl : lv_has ls 1 [(0, .ref (E.1 i))] := hl
  refine va_gets hx hb hE.2.2.2.1 hS hown (hts _ w_f38) (fun _ h => h) elat_0 ?_
  refine lv_if_eq (tgt := 17) hx hb elat_3 (by decide) (fun h => absurd h (by decide)) (fun _ => ?_)
  refine lv_aload_n hx hb elat_6 rfl (lv_at hl 0 rfl) ?_
  refine vk_getf hx hb (hE.2.2.1 i hi).2.1 hS hown (hts _ w_f15) (fun _ h => h) elat_7 ?_
  refine lv_if_ne (tgt := 17) hx hb elat_10 (by decide) (fun h => absurd rfl h) (fun _ => ?_)
  refine lv_iconst (v := 1) hx hb elat_13 (by decide) ?_
  refine lv_goto (tgt := 18) hx hb elat_14 (by decide) ?_
  exact W.zret (ty := .boolean) hx hb hr rfl (fun t ht _ => ⟨rfl, ht⟩) (fun q h => by cases h) elat_18 hlk
set_option maxHeartbeats 2000000 in
set_option maxRecDepth 20000 in
theorem m_len (l : Launch) (E : pEnv) (sz : Nat) {i : Nat} (hi : i < 39) : Met l yJ0_length_8abf5 (wC_len :: wT) (rmS 1) (va_Pc ([.ref (E.1 i)]) (sP E sz)) (sQ (some (.int (Int32.ofNat (pStr.getD i []).length)))) 0 0 (fun _ => False) := by
  refine Met.ofW (cc := cJ0_length_8abf5) (maxL := 1) (ret := (some .int)) (by decide +kernel) rfl ?_
  intro p e s m args below meth c s₁ B hml hv
  obtain ⟨rfl, hsz, hE⟩ := hv
  have hx := B.exec
  have hb := B.bytes
  have hr := B.returns
  have hts0 := atoms_spec (ws := wC_len :: wT) B.pre
  have hts : ∀ w ∈ wT, w.before _ s = true := fun w h => hts0 w (List.mem_cons_of_mem _ h)
  have hown : s.vm.findClass "java/lang/String" = some m.cls := findClass_of_methodNamed B.named
  have hlk := B.notSynchronized
  subst hsz
  have hS : va_S (fun q => s.heap.size ≤ q) s.heap s.heap [] := va_S.rf
  have hl := lv_entry ([.ref (E.1 i)]) (n := 1) (by first | exact Nat.le_of_ble_eq_true rfl | (cases w <;> first | exact Nat.le_of_ble_eq_true rfl | cases hw))
  rw [lg_entry_eq]
  generalize (lg_sl ([.ref (E.1 i)]) ++ List.replicate (1 - (lg_sl ([.ref (E.1 i)])).length) Slot.unset).toArray = ls at hl ⊢
  have hl : lv_has ls 1 [(0, .ref (E.1 i))] := hl
  refine lv_aload_n hx hb elen_0 rfl (lv_at hl 0 rfl) ?_
  refine vk_getf hx hb (hE.2.2.1 i hi).2.2.1 hS hown (hts _ w_f9) (fun _ h => h) elen_1 ?_
  refine va_tlen hx hb (hE.2.2.1 i hi).2.2.2 hS rfl elen_4 ?_
  refine lv_aload_n hx hb elen_5 rfl (lv_at hl 0 rfl) ?_
  have hG : GoodIn wT (wsV "java/lang/String" 335 "java/lang/String" yJ0_coder_7d493 (wC_cod :: wT)) := by
    intro w hw
    unfold wsV at hw
    rcases List.mem_append.mp hw with h | h
    · have hin : w ∈ wT := by
        simp only [List.mem_cons, List.not_mem_nil, or_false] at h
        rcases h with rfl | rfl | rfl | rfl
        · exact w_m335
        · exact w_icod
        · exact w_scod
        · exact w_zS
      exact ⟨hin, good_of_word (wT_good hin)⟩
    · exact wc_Good w_cod w h
  refine callH (W.runV (As := []) (rest := [.int (Int32.ofNat (pStr.getD i []).length)]) ⟨hx, hb, hml, hown, hts⟩ (m_cod l E s.heap.size hi) (cwV 0 hts hG rfl rfl rfl (by decide +kernel) ⟨by decide, by decide⟩) ⟨sP_blind, sRecv hE hi, sP_at hE⟩ rfl rfl hl.1 rfl (Nat.le_of_ble_eq_true rfl) elen_6 ⟨by decide, by decide⟩) ?_
  refine lv_ishr hx hb elen_9 ?_
  have hz : (pStr.getD i []).length < 2 ^ 31 := by
    have h1 : i < pStr.length := hi
    rw [List.getD_eq_getElem?_getD, List.getElem?_eq_getElem h1]
    have := (pStr_ok _ (List.getElem_mem h1)).1
    show (pStr[i]).length < _
    omega
  have e1 : Int32.ofNat (pStr.getD i []).length >>> ((0 : Int32) &&& 31) = Int32.ofNat (pStr.getD i []).length := sc_shr0 hz
  rw [e1]
  exact W.iret hx hb hr (fun t ht _ => ⟨rfl, ht⟩) (fun q h => by cases h) elen_10 hlk
set_option maxHeartbeats 2000000 in
set_option maxRecDepth 20000 in
theorem m_pci (l : Launch) (E : pEnv) (sz : Nat) (k : Int32) (n : Nat) (hk : vp_in k n) (hn : n < 2 ^ 31) (w : Value) (hw : w.category = 1) : Met l yJ3_checkIndex_8e157 (wC_pci :: wT) (rmS 0) (va_Pc ([.int k, .int (Int32.ofNat n), w]) (sP E sz)) (sQ (some (.int k))) 0 0 (fun _ => False) := by
  refine Met.ofW (cc := cJ3_checkIndex_8e157) (maxL := 3) (ret := (some .int)) (by decide +kernel) rfl ?_
  intro p e s m args below meth c s₁ B hml hv
  obtain ⟨rfl, hsz, hE⟩ := hv
  have hx := B.exec
  have hb := B.bytes
  have hr := B.returns
  have hts0 := atoms_spec (ws := wC_pci :: wT) B.pre
  have hts : ∀ w ∈ wT, w.before _ s = true := fun w h => hts0 w (List.mem_cons_of_mem _ h)
  have hown : s.vm.findClass "jdk/internal/util/Preconditions" = some m.cls := findClass_of_methodNamed B.named
  have hlk := B.notSynchronized
  subst hsz
  have hS : va_S (fun q => s.heap.size ≤ q) s.heap s.heap [] := va_S.rf
  have hl := lv_entry ([.int k, .int (Int32.ofNat n), w]) (n := 3) (by first | exact Nat.le_of_ble_eq_true rfl | (cases w <;> first | exact Nat.le_of_ble_eq_true rfl | cases hw))
  rw [lg_entry_eq]
  generalize (lg_sl ([.int k, .int (Int32.ofNat n), w]) ++ List.replicate (3 - (lg_sl ([.int k, .int (Int32.ofNat n), w])).length) Slot.unset).toArray = ls at hl ⊢
  have hl : lv_has ls 3 [(0, .int k), (1, .int (Int32.ofNat n)), (2, w)] := hl
  obtain ⟨j, hj, rfl⟩ := vp_in_of hk hn
  refine lv_iload_n hx hb epci_0 rfl (lv_at hl 0 rfl) ?_
  refine lv_if_lt (tgt := 9) hx hb epci_1 (by decide) (fun h => absurd h (nI_pos (by omega))) (fun _ => ?_)
  refine lv_iload_n hx hb epci_4 rfl (lv_at hl 0 rfl) ?_
  refine lv_iload_n hx hb epci_5 rfl (lv_at hl 1 rfl) ?_
  refine lv_icmp_lt (tgt := 16) hx hb epci_6 (by decide) (fun _ => ?_) (fun h => absurd (nI_lt hj hn) h)
  refine lv_iload_n hx hb epci_16 rfl (lv_at hl 0 rfl) ?_
  exact W.iret hx hb hr (fun t ht _ => ⟨rfl, ht⟩) (fun q h => by cases h) epci_17 hlk
set_option maxHeartbeats 2000000 in
set_option maxRecDepth 20000 in
theorem m_chk (l : Launch) (E : pEnv) (sz : Nat) (k : Int32) (n : Nat) (hk : vp_in k n) (hn : n < 2 ^ 31) : Met l yJ0_checkIndex_df160 (wC_chk :: wT) (rmS 1) (va_Pc ([.int k, .int (Int32.ofNat n)]) (sP E sz)) (sQ none) 0 0 (fun _ => False) := by
  refine Met.ofW (cc := cJ0_checkIndex_df160) (maxL := 2) (ret := none) (by decide +kernel) rfl ?_
  intro p e s m args below meth c s₁ B hml hv
  obtain ⟨rfl, hsz, hE⟩ := hv
  have hx := B.exec
  have hb := B.bytes
  have hr := B.returns
  have hts0 := atoms_spec (ws := wC_chk :: wT) B.pre
  have hts : ∀ w ∈ wT, w.before _ s = true := fun w h => hts0 w (List.mem_cons_of_mem _ h)
  have hown : s.vm.findClass "java/lang/String" = some m.cls := findClass_of_methodNamed B.named
  have hlk := B.notSynchronized
  subst hsz
  have hS : va_S (fun q => s.heap.size ≤ q) s.heap s.heap [] := va_S.rf
  have hl := lv_entry ([.int k, .int (Int32.ofNat n)]) (n := 2) (by first | exact Nat.le_of_ble_eq_true rfl | (cases w <;> first | exact Nat.le_of_ble_eq_true rfl | cases hw))
  rw [lg_entry_eq]
  generalize (lg_sl ([.int k, .int (Int32.ofNat n)]) ++ List.replicate (2 - (lg_sl ([.int k, .int (Int32.ofNat n)])).length) Slot.unset).toArray = ls at hl ⊢
  have hl : lv_has ls 2 [(0, .int k), (1, .int (Int32.ofNat n))] := hl
  refine lv_iload_n hx hb echk_0 rfl (lv_at hl 0 rfl) ?_
  refine lv_iload_n hx hb echk_1 rfl (lv_at hl 1 rfl) ?_
  have fin : ∀ w : Value, w.category = 1 → W p l e (headSpec (wC_chk :: wT) (rmS 1)).room s m ([.int k, .int (Int32.ofNat n)] : List Value).toArray below meth c s.heap [] 0 0 (MQ below (sQ none) ([.int k, .int (Int32.ofNat n)] : List Value).toArray s 0 0 (fun _ => False)) (F0 m 5 ls [w, .int (Int32.ofNat n), .int k]) := by
    intro w hw
    have cb := callB_of (R := (headSpec (wC_chk :: wT) (rmS 1)).room) (own := "java/lang/String") (index := 1059) (rm := rmS 0) 3 hts (wc_Good w_pci) rfl rfl rfl (hts _ w_zP) (hts _ w_m1059) (by decide +kernel) ⟨by decide, by decide⟩
    refine callH (W.runS (As := [.int k, .int (Int32.ofNat n), w]) (rest := []) ⟨hx, hb, hml, hown, hts⟩ (m_pci l E s.heap.size k n hk hn w hw) ⟨cb, hts _ w_tpci⟩ ⟨sP_blind, sP_at hE⟩ rfl rfl hl.1 rfl (Nat.le_of_ble_eq_true rfl) echk_5 ⟨by decide, by decide⟩) ?_
    refine lv_pop hx hb echk_8 rfl ?_
    exact W.vret hx hb hr (fun t ht _ => ⟨rfl, ht⟩) (fun q h => by cases h) echk_9 hlk
  rcases hE.2.2.2.2.1 with h5 | ⟨t5, h5⟩
  · exact va_gets hx hb h5 hS hown (hts _ w_f1053) (fun _ h => h) echk_2 (fin .null rfl)
  · exact va_gets hx hb h5 hS hown (hts _ w_f1053) (fun _ h => h) echk_2 (fin (.ref t5) rfl)
set_option maxHeartbeats 2000000 in
set_option maxRecDepth 20000 in
theorem m_l1c (l : Launch) (E : pEnv) (sz : Nat) {i : Nat} (hi : i < 39) (k : Int32) (hk : vp_in k (pStr.getD i []).length) : Met l yJ1_charAt_3b067 (wC_l1c :: wT) (rmS 2) (va_Pc ([.ref (E.2.1 i), .int k]) (sP E sz)) (sQ (some (.int ((pStr.getD i []).getD k.toNatClampNeg 0)))) 0 0 (fun _ => False) := by
  refine Met.ofW (cc := cJ1_charAt_3b067) (maxL := 2) (ret := (some .char)) (by decide +kernel) rfl ?_
  intro p e s m args below meth c s₁ B hml hv
  obtain ⟨rfl, hsz, hE⟩ := hv
  have hx := B.exec
  have hb := B.bytes
  have hr := B.returns
  have hts0 := atoms_spec (ws := wC_l1c :: wT) B.pre
  have hts : ∀ w ∈ wT, w.before _ s = true := fun w h => hts0 w (List.mem_cons_of_mem _ h)
  have hown : s.vm.findClass "java/lang/StringLatin1" = some m.cls := findClass_of_methodNamed B.named
  have hlk := B.notSynchronized
  subst hsz
  have hS : va_S (fun q => s.heap.size ≤ q) s.heap s.heap [] := va_S.rf
  have hl := lv_entry ([.ref (E.2.1 i), .int k]) (n := 2) (by first | exact Nat.le_of_ble_eq_true rfl | (cases w <;> first | exact Nat.le_of_ble_eq_true rfl | cases hw))
  rw [lg_entry_eq]
  generalize (lg_sl ([.ref (E.2.1 i), .int k]) ++ List.replicate (2 - (lg_sl ([.ref (E.2.1 i), .int k])).length) Slot.unset).toArray = ls at hl ⊢
  have hl : lv_has ls 2 [(0, .ref (E.2.1 i)), (1, .int k)] := hl
  have h1 : i < pStr.length := hi
  have hgd : pStr.getD i [] = pStr[i] := by rw [List.getD_eq_getElem?_getD, List.getElem?_eq_getElem h1]; rfl
  have hok := pStr_ok _ (List.getElem_mem h1)
  rw [← hgd] at hok
  have hn : (pStr.getD i []).length < 2 ^ 31 := by have := hok.1; omega
  refine lv_iload_n hx hb el1c_0 rfl (lv_at hl 1 rfl) ?_
  refine lv_aload_n hx hb el1c_1 rfl (lv_at hl 0 rfl) ?_
  refine va_tlen hx hb (hE.2.2.1 i hi).2.2.2 hS rfl el1c_2 ?_
  have cb := callB_of (R := (headSpec (wC_l1c :: wT) (rmS 2)).room) (own := "java/lang/StringLatin1") (index := 9) (rm := rmS 1) 2 hts (wc_Good w_chk) rfl rfl rfl (hts _ w_zS) (hts _ w_m9) (by decide +kernel) ⟨by decide, by decide⟩
  refine callH (W.runS (As := [.int k, .int (Int32.ofNat (pStr.getD i []).length)]) (rest := []) ⟨hx, hb, hml, hown, hts⟩ (m_chk l E s.heap.size k _ hk hn) ⟨cb, hts _ w_tchk⟩ ⟨sP_blind, sP_at hE⟩ rfl rfl hl.1 rfl (Nat.le_of_ble_eq_true rfl) el1c_3 ⟨by decide, by decide⟩) ?_
  refine lv_aload_n hx hb el1c_6 rfl (lv_at hl 0 rfl) ?_
  refine lv_iload_n hx hb el1c_7 rfl (lv_at hl 1 rfl) ?_
  refine va_tb hx hb (hE.2.2.1 i hi).2.2.2 hS hk rfl el1c_8 ?_
  refine lv_sipush (v := 255) hx hb el1c_9 (by decide) ?_
  refine lv_iand hx hb el1c_12 ?_
  have hmem : (pStr.getD i []).getD k.toNatClampNeg 0 ∈ pStr.getD i [] := by
    have hlt : k.toNatClampNeg < (pStr.getD i []).length := by
      unfold vp_in at hk; simp only [not_or, Nat.not_le] at hk; exact hk.2
    rw [List.getD_eq_getElem?_getD (l := pStr.getD i []), List.getElem?_eq_getElem hlt]
    exact List.getElem_mem hlt
  obtain ⟨g1, g2⟩ := hok.2 _ hmem
  refine lv_i2c hx hb el1c_13 g1 ?_
  exact W.zret (ty := .char) hx hb hr g2 (fun t ht _ => ⟨rfl, ht⟩) (fun q h => by cases h) el1c_14 hlk
set_option maxHeartbeats 2000000 in
set_option maxRecDepth 20000 in
theorem m_chr (l : Launch) (E : pEnv) (sz : Nat) {i : Nat} (hi : i < 39) (k : Int32) (hk : vp_in k (pStr.getD i []).length) : Met l yJ0_charAt_5068e (wC_chr :: wT) (rmS 3) (va_Pc ([.ref (E.1 i), .int k]) (sP E sz)) (sQ (some (.int ((pStr.getD i []).getD k.toNatClampNeg 0)))) 0 0 (fun _ => False) := by
  refine Met.ofW (cc := cJ0_charAt_5068e) (maxL := 2) (ret := (some .char)) (by decide +kernel) rfl ?_
  intro p e s m args below meth c s₁ B hml hv
  obtain ⟨rfl, hsz, hE⟩ := hv
  have hx := B.exec
  have hb := B.bytes
  have hr := B.returns
  have hts0 := atoms_spec (ws := wC_chr :: wT) B.pre
  have hts : ∀ w ∈ wT, w.before _ s = true := fun w h => hts0 w (List.mem_cons_of_mem _ h)
  have hown : s.vm.findClass "java/lang/String" = some m.cls := findClass_of_methodNamed B.named
  have hlk := B.notSynchronized
  subst hsz
  have hS : va_S (fun q => s.heap.size ≤ q) s.heap s.heap [] := va_S.rf
  have hl := lv_entry ([.ref (E.1 i), .int k]) (n := 2) (by first | exact Nat.le_of_ble_eq_true rfl | (cases w <;> first | exact Nat.le_of_ble_eq_true rfl | cases hw))
  rw [lg_entry_eq]
  generalize (lg_sl ([.ref (E.1 i), .int k]) ++ List.replicate (2 - (lg_sl ([.ref (E.1 i), .int k])).length) Slot.unset).toArray = ls at hl ⊢
  have hl : lv_has ls 2 [(0, .ref (E.1 i)), (1, .int k)] := hl
  have h1 : i < pStr.length := hi
  have hgd : pStr.getD i [] = pStr[i] := by rw [List.getD_eq_getElem?_getD, List.getElem?_eq_getElem h1]; rfl
  have hok := pStr_ok _ (List.getElem_mem h1)
  rw [← hgd] at hok
  refine lv_aload_n hx hb echr_0 rfl (lv_at hl 0 rfl) ?_
  have hG : GoodIn wT (wsV "java/lang/String" 492 "java/lang/String" yJ0_isLatin1_aae02 (wC_lat :: wT)) := by
    intro w hw
    unfold wsV at hw
    rcases List.mem_append.mp hw with h | h
    · have hin : w ∈ wT := by
        simp only [List.mem_cons, List.not_mem_nil, or_false] at h
        rcases h with rfl | rfl | rfl | rfl
        · exact w_m492
        · exact w_ilat
        · exact w_slat
        · exact w_zS
      exact ⟨hin, good_of_word (wT_good hin)⟩
    · exact wc_Good w_lat w h
  refine callH (W.runV (As := []) (rest := []) ⟨hx, hb, hml, hown, hts⟩ (m_lat l E s.heap.size hi) (cwV 0 hts hG rfl rfl rfl (by decide +kernel) ⟨by decide, by decide⟩) ⟨sP_blind, sRecv hE hi, sP_at hE⟩ rfl rfl hl.1 rfl (Nat.le_of_ble_eq_true rfl) echr_1 ⟨by decide, by decide⟩) ?_
  refine lv_if_eq (tgt := 16) hx hb echr_4 rfl (fun h => absurd h (by decide)) (fun _ => ?_)
  refine lv_aload_n hx hb echr_7 rfl (lv_at hl 0 rfl) ?_
  refine vk_getf hx hb (hE.2.2.1 i hi).2.2.1 hS hown (hts _ w_f9) (fun _ h => h) echr_8 ?_
  refine lv_iload_n hx hb echr_11 rfl (lv_at hl 1 rfl) ?_
  have cb := callB_of (R := (headSpec (wC_chr :: wT) (rmS 3)).room) (own := "java/lang/String") (index := 495) (rm := rmS 2) 2 hts (wc_Good w_l1c) rfl rfl rfl (hts _ w_zL) (hts _ w_m495) (by decide +kernel) ⟨by decide, by decide⟩
  refine callH (W.runS (As := [.ref (E.2.1 i), .int k]) (rest := []) ⟨hx, hb, hml, hown, hts⟩ (m_l1c l E s.heap.size hi k hk) ⟨cb, hts _ w_tl1c⟩ ⟨sP_blind, sP_at hE⟩ rfl rfl hl.1 rfl (Nat.le_of_ble_eq_true rfl) echr_12 ⟨by decide, by decide⟩) ?_
  have hmem : (pStr.getD i []).getD k.toNatClampNeg 0 ∈ pStr.getD i [] := by
    have hlt : k.toNatClampNeg < (pStr.getD i []).length := by
      unfold vp_in at hk; simp only [not_or, Nat.not_le] at hk; exact hk.2
    rw [List.getD_eq_getElem?_getD (l := pStr.getD i []), List.getElem?_eq_getElem hlt]
    exact List.getElem_mem hlt
  obtain ⟨g1, g2⟩ := hok.2 _ hmem
  exact W.zret (ty := .char) hx hb hr g2 (fun t ht _ => ⟨rfl, ht⟩) (fun q h => by cases h) echr_15 hlk
