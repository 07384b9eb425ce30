/-! a step, operation by operation -/
section
variable {C : Nat → List Value → pS → pR} {K : Nat → List Value → List Value → pS → pR} {M pc len a b : Nat} {x : Int} {ls st : List Value} {s : pS}
theorem pS_0 : pStep C K M pc (len, 0, x, a, b) ls st s = K (pc + len) ls (.int (Int32.ofInt x) :: st) s := rfl
theorem pS_1 : pStep C K M pc (len, 1, x, a, b) ls st s = K (pc + len) ls (.long (Int64.ofInt x) :: st) s := rfl
theorem pS_2 : pStep C K M pc (len, 2, x, a, b) ls st s = tI ls[a]? fun v => K (pc + len) ls (.int v :: st) s := rfl
theorem pS_3 : pStep C K M pc (len, 3, x, a, b) ls st s = tA ls[a]? fun v => K (pc + len) ls (va_rf v :: st) s := rfl
theorem pS_4 : pStep C K M pc (len, 4, x, a, b) ls st s = tJ ls[a]? fun v => K (pc + len) ls (.long v :: st) s := rfl
theorem pS_5 : pStep C K M pc (len, 5, x, a, b) ls st s = kI st fun v r => K (pc + len) (pSt b ls a (.int v)) r s := rfl
theorem pS_6 : pStep C K M pc (len, 6, x, a, b) ls st s = kAn st fun v r => K (pc + len) (pSt b ls a (va_rf v)) r s := rfl
theorem pS_7 : pStep C K M pc (len, 7, x, a, b) ls st s = kJ st fun v r => K (pc + len) (pSt2 ls a (.long v)) r s := rfl
theorem pS_8 : pStep C K M pc (len, 8, x, a, b) ls st s = tI ls[a]? fun v => K (pc + len) (pSt b ls a (.int (v + Int32.ofInt x))) st s := rfl
theorem pS_9 : pStep C K M pc (len, 9, x, a, b) ls st s = kII st fun v w r => K (pc + len) ls (.int (ibin b v w) :: r) s := rfl
theorem pS_10 : pStep C K M pc (len, 10, x, a, b) ls st s = kII st fun v w r => if w = 0 then none else K (pc + len) ls (.int (v / w) :: r) s := rfl
theorem pS_11 : pStep C K M pc (len, 11, x, a, b) ls st s = kII st fun v w r => if w = 0 then none else K (pc + len) ls (.int (v - v / w * w) :: r) s := rfl
theorem pS_12 : pStep C K M pc (len, 12, x, a, b) ls st s = kJJ st fun v w r => K (pc + len) ls (.long (v * w) :: r) s := rfl
theorem pS_13 : pStep C K M pc (len, 13, x, a, b) ls st s = kJJ st fun v w r => if w = 0 then none else K (pc + len) ls (.long (v / w) :: r) s := rfl
theorem pS_14 : pStep C K M pc (len, 14, x, a, b) ls st s = kJJ st fun v w r => if w = 0 then none else K (pc + len) ls (.long (v - v / w * w) :: r) s := rfl
theorem pS_15 : pStep C K M pc (len, 15, x, a, b) ls st s = kI st fun v r => K (pc + len) ls (.long v.toInt64 :: r) s := rfl
theorem pS_16 : pStep C K M pc (len, 16, x, a, b) ls st s = kJ st fun v r => K (pc + len) ls (.int v.toInt32 :: r) s := rfl
theorem pS_17 : pStep C K M pc (len, 17, x, a, b) ls st s = kJJ st fun v w r => K (pc + len) ls (.int (lg_cmp v w) :: r) s := rfl
theorem pS_18 : pStep C K M pc (len, 18, x, a, b) ls st s = kV1 st fun v r => K (pc + len) ls (v :: v :: r) s := rfl
theorem pS_19 : pStep C K M pc (len, 19, x, a, b) ls st s = kIA st fun q i r => K (pc + len) ls (.int i :: .ref q :: .int i :: .ref q :: r) s := rfl
theorem pS_20 : pStep C K M pc (len, 20, x, a, b) ls st s = kV1 st fun _ r => K (pc + len) ls r s := rfl
theorem pS_21 : pStep C K M pc (len, 21, x, a, b) ls st s = K (pc + len) ls (.null :: st) s := rfl
theorem pS_22 : pStep C K M pc (len, 22, x, a, b) ls st s = K a ls st s := rfl
theorem pS_23 : pStep C K M pc (len, 23, x, a, b) ls st s = kII st fun v w r => if v = w then K a ls r s else K (pc + len) ls r s := rfl
theorem pS_24 : pStep C K M pc (len, 24, x, a, b) ls st s = kII st fun v w r => if ¬ v = w then K a ls r s else K (pc + len) ls r s := rfl
theorem pS_25 : pStep C K M pc (len, 25, x, a, b) ls st s = kII st fun v w r => if v < w then K a ls r s else K (pc + len) ls r s := rfl
theorem pS_26 : pStep C K M pc (len, 26, x, a, b) ls st s = kII st fun v w r => if w ≤ v then K a ls r s else K (pc + len) ls r s := rfl
theorem pS_27 : pStep C K M pc (len, 27, x, a, b) ls st s = kII st fun v w r => if w < v then K a ls r s else K (pc + len) ls r s := rfl
theorem pS_28 : pStep C K M pc (len, 28, x, a, b) ls st s = kII st fun v w r => if v ≤ w then K a ls r s else K (pc + len) ls r s := rfl
theorem pS_29 : pStep C K M pc (len, 29, x, a, b) ls st s = kI st fun v r => if v = 0 then K a ls r s else K (pc + len) ls r s := rfl
theorem pS_30 : pStep C K M pc (len, 30, x, a, b) ls st s = kI st fun v r => if ¬ v = 0 then K a ls r s else K (pc + len) ls r s := rfl
theorem pS_31 : pStep C K M pc (len, 31, x, a, b) ls st s = kI st fun v r => if v < 0 then K a ls r s else K (pc + len) ls r s := rfl
theorem pS_32 : pStep C K M pc (len, 32, x, a, b) ls st s = kI st fun v r => if 0 ≤ v then K a ls r s else K (pc + len) ls r s := rfl
theorem pS_33 : pStep C K M pc (len, 33, x, a, b) ls st s = kI st fun v r => if 0 < v then K a ls r s else K (pc + len) ls r s := rfl
theorem pS_34 : pStep C K M pc (len, 34, x, a, b) ls st s = kI st fun v r => if v ≤ 0 then K a ls r s else K (pc + len) ls r s := rfl
theorem pS_35 : pStep C K M pc (len, 35, x, a, b) ls st s = kAn st fun v r => (match v with | none => K a ls r s | some _ => K (pc + len) ls r s) := rfl
theorem pS_36 : pStep C K M pc (len, 36, x, a, b) ls st s = kAn st fun v r => (match v with | none => K (pc + len) ls r s | some _ => K a ls r s) := rfl
theorem pS_37 : pStep C K M pc (len, 37, x, a, b) ls st s = kI st fun v r => (match pSw[a]? with | some w => kSw w.1 w.2 v (fun t => K t ls r s) | none => none) := rfl
theorem pS_38 : pStep C K M pc (len, 38, x, a, b) ls st s = kA st fun q r => (gFi s q a b).bind fun v => K (pc + len) ls (.int v :: r) s := rfl
theorem pS_39 : pStep C K M pc (len, 39, x, a, b) ls st s = kA st fun q r => (gFr s q a b).bind fun v => K (pc + len) ls (.ref v :: r) s := rfl
theorem pS_40 : pStep C K M pc (len, 40, x, a, b) ls st s = kA st fun q r => (gFv s q a b).bind fun v => oN v (K (pc + len) ls (.null :: r) s) (fun w => K (pc + len) ls (.ref w :: r) s) := rfl
theorem pS_41 : pStep C K M pc (len, 41, x, a, b) ls st s = kI st fun v r => kA r fun q r => (pF s q a b (.int v)).bind fun s' => K (pc + len) ls r s' := rfl
theorem pS_42 : pStep C K M pc (len, 42, x, a, b) ls st s = kAn st fun v r => kA r fun q r => (pF s q a b (va_rf v)).bind fun s' => K (pc + len) ls r s' := rfl
theorem pS_43 : pStep C K M pc (len, 43, x, a, b) ls st s = kIA st fun q i r => (gI s q i).bind fun v => K (pc + len) ls (.int v :: r) s := rfl
theorem pS_44 : pStep C K M pc (len, 44, x, a, b) ls st s = kIIA st fun q i v r => (pI s q i v).bind fun s' => K (pc + len) ls r s' := rfl
theorem pS_45 : pStep C K M pc (len, 45, x, a, b) ls st s = kIA st fun q i r => (gL s q i).bind fun v => K (pc + len) ls (.long v :: r) s := rfl
theorem pS_46 : pStep C K M pc (len, 46, x, a, b) ls st s = kJIA st fun q i v r => (pL s q i v).bind fun s' => K (pc + len) ls r s' := rfl
theorem pS_47 : pStep C K M pc (len, 47, x, a, b) ls st s = kIA st fun q i r => (gQ s q i).bind fun v => oN v (K (pc + len) ls (.null :: r) s) (fun w => K (pc + len) ls (.ref w :: r) s) := rfl
theorem pS_48 : pStep C K M pc (len, 48, x, a, b) ls st s = kAIA st fun q i v r => (pQ s q i v).bind fun s' => K (pc + len) ls r s' := rfl
theorem pS_49 : pStep C K M pc (len, 49, x, a, b) ls st s = kA st fun q r => (gN s q).bind fun v => K (pc + len) ls (.int v :: r) s := rfl
theorem pS_50 : pStep C K M pc (len, 50, x, a, b) ls st s = kI st fun v r => if v < 0 ∨ 100000 < v.toNatClampNeg then none else K (pc + len) ls (.ref s.1 :: r) (pNew s (cI v.toNatClampNeg (fun _ => 0)) v.toNatClampNeg) := rfl
theorem pS_51 : pStep C K M pc (len, 51, x, a, b) ls st s = kI st fun v r => if v < 0 ∨ 100000 < v.toNatClampNeg then none else K (pc + len) ls (.ref s.1 :: r) (pNew s (cL v.toNatClampNeg (fun _ => 0)) v.toNatClampNeg) := rfl
theorem pS_52 : pStep C K M pc (len, 52, x, a, b) ls st s = kI st fun v r => if v < 0 ∨ 100000 < v.toNatClampNeg then none else K (pc + len) ls (.ref s.1 :: r) (pNew s (cQ v.toNatClampNeg (fun _ => none)) v.toNatClampNeg) := rfl
theorem pS_53 : pStep C K M pc (len, 53, x, a, b) ls st s = K (pc + len) ls (.ref s.1 :: st) (pNew s (cO a (pD0.getD a [])) b) := rfl
theorem pS_54 : pStep C K M pc (len, 54, x, a, b) ls st s = bif stW st then some (.inr (a, s.1), pEx s) else none := rfl
theorem pS_55 : pStep C K M pc (len, 55, x, a, b) ls st s = pCall (fun M' as s' => bif rcv M' as s' then C M' as s' else none) K (pX K M pc ls) M pc len x a b ls st s := rfl
theorem pS_56 : pStep C K M pc (len, 56, x, a, b) ls st s = pCall C K nX M pc len x a b ls st s := rfl
theorem pS_57 : pStep C K M pc (len, 57, x, a, b) ls st s = pCall (fun M' as s' => bif rcv M' as s' then C M' as s' else none) K nX M pc len x a b ls st s := rfl
theorem pS_58 : pStep C K M pc (len, 58, x, a, b) ls st s = kA st fun _ r => bif stW r then K (pc + len) ls r s else none := rfl
theorem pS_59 : pStep C K M pc (len, 59, x, a, b) ls st s = kII st fun dp n r => kA r fun q1 r => kIA r fun q0 sp r => bif stW r then (pCp s q0 sp q1 dp n).bind fun s' => K (pc + len) ls r s' else none := rfl
theorem pS_60 : pStep C K M pc (len, 60, x, a, b) ls st s = kA st fun q r => bif stW r then (sLen pStr q).bind fun v => K (pc + len) ls (.int v :: r) s else none := rfl
theorem pS_61 : pStep C K M pc (len, 61, x, a, b) ls st s = kIA st fun q i r => bif stW r then (sAt pStr q i).bind fun v => K (pc + len) ls (.int v :: r) s else none := rfl
theorem pS_62 : pStep C K M pc (len, 62, x, a, b) ls st s = kI st fun v r => (match r with | [] => some (.inl (some (.int v)), s) | _ => none) := rfl
theorem pS_63 : pStep C K M pc (len, 63, x, a, b) ls st s = kJ st fun v r => (match r with | [] => some (.inl (some (.long v)), s) | _ => none) := rfl
theorem pS_64 : pStep C K M pc (len, 64, x, a, b) ls st s = kA st fun v r => (match r with | [] => some (.inl (some (.ref v)), s) | _ => none) := rfl
theorem pS_65 : pStep C K M pc (len, 65, x, a, b) ls st s = (match st with | [] => some (.inl none, s) | _ => none) := rfl
theorem pS_66 : pStep C K M pc (len, 66, x, a, b) ls st s = kI st fun v r => (match r with | [] => if v &&& 1 = v then some (.inl (some (.int v)), s) else none | _ => none) := rfl
theorem pS_67 : pStep C K M pc (len, 67, x, a, b) ls st s = K (pc + len) ls (.ref (pSB + a) :: st) s := rfl
theorem pS_68 : pStep C K M pc (len, 68, x, a, b) ls st s = kII st fun v w r => bif stW r then K (pc + len) ls (.int (if v < w then w else v) :: r) s else none := rfl
theorem pS_69 : pStep C K M pc (len, 69, x, a, b) ls st s = kII st fun v w r => bif stW r then K (pc + len) ls (.int (if w < v then w else v) :: r) s else none := rfl
theorem pS_70 : pStep C K M pc (len, 70, x, a, b) ls st s = kJJ st fun v w r => bif stW r then K (pc + len) ls (.long (if w < v then w else v) :: r) s else none := rfl
end
