/-! LINKS by number, and every row of code checked against the bytes, by program (gen5.py) -/
def yLen : MethodName := ⟨"java/lang/String", "length", "()I"⟩
def yChr : MethodName := ⟨"java/lang/String", "charAt", "(I)C"⟩
def yOf (M : Nat) : MethodName := bif Nat.blt M 9000 then mY M else match M with
  | 9001 => objectInit
  | 9002 => arraycopyName
  | 9003 => yLen
  | 9004 => yChr
  | 9005 => Lib.Math.max.name
  | 9006 => Lib.Math.min.name
  | _ => Lib.MathLoose.min_long.x
def lW (r : Nat × Nat × Nat) : Cond := .methodLink (oS r.1) r.2.1 (yOf r.2.2)
abbrev lT : Type := List (List (List (Nat × Nat × Nat × Nat)))
def lkR : List (Nat × Nat × Nat × Nat) → Nat → Option (Nat × Nat)
  | [], _ => none
  | (j, a, b, _) :: r, i => bif Nat.beq j i then some (a, b) else lkR r i
def lkT (t : lT) (o i : Nat) : Option (Nat × Nat) := match t[o]? with
  | none => none
  | some g => (match g[i / 16]? with
    | none => none
    | some r => lkR r i)
theorem lkR_in : ∀ (l : List (Nat × Nat × Nat × Nat)) (i a b : Nat), lkR l i = some (a, b) → ∃ p, (i, a, b, p) ∈ l := by
  intro l
  induction l with
  | nil => intro i a b h; cases h
  | cons q l ih =>
    intro i a b h
    obtain ⟨j, a', b', p⟩ := q
    unfold lkR at h
    cases hj : Nat.beq j i with
    | true =>
      rw [hj] at h
      have := Nat.eq_of_beq_eq_true hj
      subst this
      simp only [cond_true, Option.some.injEq, Prod.mk.injEq] at h
      obtain ⟨rfl, rfl⟩ := h
      exact ⟨p, List.mem_cons_self⟩
    | false =>
      rw [hj] at h
      obtain ⟨p', hp⟩ := ih i a b h
      exact ⟨p', List.mem_cons_of_mem _ hp⟩
def lTok (F : Nat × Nat × Nat × Nat → Cond) (o : Nat) (g : List (List (Nat × Nat × Nat × Nat))) : Bool := g.all fun r => r.all fun q => decide (lw_tbl[q.2.2.2]? = some (F (o, q.1, q.2.1, q.2.2.1))) && goodWord (F (o, q.1, q.2.1, q.2.2.1))
theorem lT_ok (F : Nat × Nat × Nat × Nat → Cond) (t : lT) (h : ∀ o g, t[o]? = some g → lTok F o g = true) {o i a b : Nat} (hl : lkT t o i = some (a, b)) : F (o, i, a, b) ∈ wT := by
  unfold lkT at hl
  cases hg : t[o]? with
  | none => rw [hg] at hl; cases hl
  | some g =>
    rw [hg] at hl
    dsimp only at hl
    cases hr : g[i / 16]? with
    | none => rw [hr] at hl; cases hl
    | some r =>
      rw [hr] at hl
      obtain ⟨p, hp⟩ := lkR_in r i a b hl
      have h1 := List.all_eq_true.mp (h o g hg) r (List.mem_of_getElem? hr)
      have h2 := List.all_eq_true.mp h1 _ hp
      simp only [Bool.and_eq_true, decide_eq_true_eq] at h2
      exact wT_in p h2.1 h2.2
def lW4 (r : Nat × Nat × Nat × Nat) : Cond := lW (r.1, r.2.1, r.2.2.1)
def MLt_0 : List (List (Nat × Nat × Nat × Nat)) := [[(3, 9001, 0, 263)], [(23, 70, 0, 982), (29, 4, 0, 983)], [(33, 72, 0, 994), (37, 75, 0, 987), (41, 1, 0, 988), (45, 77, 0, 993)]]
set_option maxRecDepth 100000 in
theorem MLt_ok0 : lTok lW4 0 MLt_0 = true := by decide +kernel
def MLt_1 : List (List (Nat × Nat × Nat × Nat)) := [[(3, 9001, 0, 244)], [(25, 10, 0, 449), (29, 11, 0, 453)], [(33, 9006, 0, 456), (39, 9005, 0, 459), (42, 13, 0, 782), (46, 70, 0, 794)], [(52, 76, 0, 834), (56, 14, 0, 786), (59, 71, 0, 810), (62, 19, 0, 797)], [(66, 15, 0, 790), (69, 81, 0, 795), (72, 75, 0, 796), (75, 16, 0, 801), (78, 73, 0, 815)], [(83, 74, 0, 817), (87, 17, 0, 818), (93, 18, 0, 823)], [(97, 77, 0, 809), (100, 78, 0, 805), (103, 72, 0, 814)]]
set_option maxRecDepth 100000 in
theorem MLt_ok1 : lTok lW4 1 MLt_1 = true := by decide +kernel
def MLt_2 : List (List (Nat × Nat × Nat × Nat)) := [[(1, 9001, 0, 403)]]
set_option maxRecDepth 100000 in
theorem MLt_ok2 : lTok lW4 2 MLt_2 = true := by decide +kernel
def MLt_3 : List (List (Nat × Nat × Nat × Nat)) := [[(3, 9001, 0, 493)], [(29, 24, 0, 516)], [(38, 9002, 0, 520)], [(50, 9005, 0, 521)]]
set_option maxRecDepth 100000 in
theorem MLt_ok3 : lTok lW4 3 MLt_3 = true := by decide +kernel
def MLt_4 : List (List (Nat × Nat × Nat × Nat)) := [[(3, 9001, 0, 169)], [], [(35, 41, 0, 429), (39, 310, 0, 462), (45, 27, 0, 468)], [(53, 28, 0, 475), (57, 9005, 0, 479), (62, 31, 0, 1192)]]
set_option maxRecDepth 100000 in
theorem MLt_ok4 : lTok lW4 4 MLt_4 = true := by decide +kernel
def MLt_5 : List (List (Nat × Nat × Nat × Nat)) := [[(3, 9001, 0, 280)], [], [(34, 9002, 0, 281), (40, 311, 0, 284)], [(54, 44, 0, 936), (58, 42, 0, 944), (62, 43, 0, 960)], [(66, 310, 0, 964), (74, 39, 0, 965), (78, 45, 0, 538)], [(82, 9006, 0, 969), (90, 35, 0, 970), (93, 6, 0, 433)], [(102, 7, 0, 437), (105, 8, 0, 441), (109, 9, 0, 445)], [(112, 46, 0, 534), (118, 47, 0, 1007), (121, 51, 0, 1015)]]
set_option maxRecDepth 100000 in
theorem MLt_ok5 : lTok lW4 5 MLt_5 = true := by decide +kernel
def MLt_6 : List (List (Nat × Nat × Nat × Nat)) := [[(1, 9001, 0, 1334)]]
set_option maxRecDepth 100000 in
theorem MLt_ok6 : lTok lW4 6 MLt_6 = true := by decide +kernel
def MLt_7 : List (List (Nat × Nat × Nat × Nat)) := [[(3, 9001, 0, 190)], [(31, 70, 0, 640)], [(37, 73, 0, 648), (41, 58, 0, 660), (45, 72, 0, 758)], [(51, 74, 0, 665), (58, 59, 0, 717), (62, 60, 0, 724)], [(71, 61, 0, 739), (79, 62, 0, 744)], [(83, 63, 0, 749), (88, 64, 0, 754), (91, 77, 0, 720), (95, 75, 0, 728)]]
set_option maxRecDepth 100000 in
theorem MLt_ok7 : lTok lW4 7 MLt_7 = true := by decide +kernel
def MLt_8 : List (List (Nat × Nat × Nat × Nat)) := [[(3, 9001, 0, 138)], [], [(34, 79, 0, 644), (38, 70, 0, 652), (42, 76, 0, 656), (46, 80, 0, 653)], [(50, 9003, 0, 669), (55, 9004, 0, 679), (59, 81, 0, 732), (63, 9006, 0, 736)], [(69, 77, 0, 737)]]
set_option maxRecDepth 100000 in
theorem MLt_ok8 : lTok lW4 8 MLt_8 = true := by decide +kernel
def MLt_9 : List (List (Nat × Nat × Nat × Nat)) := [[(3, 9001, 0, 847)], [(29, 70, 0, 882)], [(37, 87, 0, 883), (41, 73, 0, 893), (45, 84, 0, 894)], [(51, 74, 0, 899), (63, 85, 0, 900)], [(75, 88, 0, 888), (79, 72, 0, 892)], [(85, 86, 0, 910), (88, 77, 0, 914), (92, 75, 0, 904)], [(99, 71, 0, 887), (103, 91, 0, 920), (107, 90, 0, 924), (110, 92, 0, 928)], [(120, 34, 0, 932), (126, 35, 0, 940)], [(129, 36, 0, 948), (132, 37, 0, 952), (137, 38, 0, 956)]]
set_option maxRecDepth 100000 in
theorem MLt_ok9 : lTok lW4 9 MLt_9 = true := by decide +kernel
def MLt_10 : List (List (Nat × Nat × Nat × Nat)) := [[(1, 9001, 0, 130)], [], [(38, 5, 0, 241)], [(52, 32, 0, 277), (62, 66, 0, 367)], [(66, 67, 0, 371), (74, 145, 0, 557), (78, 57, 0, 636)], [(82, 69, 0, 762), (86, 146, 0, 766), (92, 12, 0, 778)], [(99, 83, 0, 878), (102, 147, 0, 395), (110, 89, 0, 915)], [(126, 3, 0, 978)], [(135, 148, 0, 383)], [(151, 43, 0, 1002), (154, 48, 0, 1003), (157, 53, 0, 1011)], [(163, 139, 0, 566), (166, 142, 0, 1027), (173, 44, 0, 1050)], [(177, 47, 0, 1051), (180, 51, 0, 1052), (183, 143, 0, 1060)], [(201, 50, 0, 530), (204, 52, 0, 1064), (207, 49, 0, 1068)], [(210, 46, 0, 1079), (214, 144, 0, 1087), (220, 40, 0, 1098)], [(224, 141, 0, 562), (228, 6, 0, 1109), (231, 7, 0, 1110), (234, 8, 0, 1111), (237, 9, 0, 1112)], [(240, 159, 0, 1120), (243, 33, 0, 387), (247, 38, 0, 1130), (251, 149, 0, 1145), (254, 42, 0, 1252)], [(258, 9005, 0, 1149), (263, 310, 0, 1295), (268, 39, 0, 1296)], [(272, 150, 0, 1157), (277, 151, 0, 1167), (281, 9007, 0, 1170), (285, 41, 0, 1165)], [(289, 1, 0, 1180), (292, 26, 0, 425), (295, 29, 0, 480), (298, 30, 0, 1188), (303, 21, 0, 490)], [(304, 23, 0, 512), (307, 22, 0, 522), (316, 154, 0, 1217)], [(320, 153, 0, 1220), (324, 158, 0, 1230), (328, 152, 0, 1231), (331, 9006, 0, 561), (333, 157, 0, 1242)], [(337, 155, 0, 1325)], [(352, 140, 0, 1031), (355, 68, 0, 632), (358, 20, 0, 400), (366, 2, 0, 1161)], [(371, 54, 0, 1331), (373, 156, 0, 1339), (377, 55, 0, 1343), (380, 34, 0, 1348), (383, 36, 0, 1349)]]
set_option maxRecDepth 100000 in
theorem MLt_ok10 : lTok lW4 10 MLt_10 = true := by decide +kernel
def MLt_11 : List (List (Nat × Nat × Nat × Nat)) := [[(11, 9001, 0, 1366)], [], [], [], [], [], [(98, 180, 0, 1367), (101, 181, 0, 1371)], [(119, 167, 0, 1573), (123, 168, 0, 1584), (127, 9003, 0, 1582)], [(132, 9004, 0, 1583), (136, 165, 0, 1565), (140, 169, 0, 1621), (143, 166, 0, 1601)], [], [], [(177, 179, 0, 1375)], [(198, 171, 0, 1595)], [(208, 173, 0, 1617), (212, 161, 0, 1557), (216, 176, 0, 1561), (220, 175, 0, 1569)], [(225, 191, 0, 1578), (229, 170, 0, 1587), (232, 182, 0, 1591), (235, 183, 0, 1605), (239, 172, 0, 1609)], [(242, 184, 0, 1613), (246, 174, 0, 1624), (249, 177, 0, 1628)], [(256, 189, 0, 1640), (259, 186, 0, 1652), (262, 193, 0, 1644), (265, 187, 0, 1648), (268, 188, 0, 1636)], [(284, 190, 0, 1657)], [(289, 192, 0, 1662), (292, 196, 0, 1744), (296, 195, 0, 1740)], [(304, 198, 0, 1681), (316, 199, 0, 1676), (319, 202, 0, 1689)], [(331, 201, 0, 1693), (334, 211, 0, 1697)], [(338, 197, 0, 1736), (341, 204, 0, 1725), (344, 205, 0, 1729), (347, 203, 0, 1732), (351, 207, 0, 1705)], [(354, 209, 0, 1701), (358, 210, 0, 1709), (361, 208, 0, 1713), (364, 212, 0, 1717), (367, 206, 0, 1721)], [(370, 213, 0, 1766), (373, 215, 0, 1774), (376, 162, 0, 1759), (379, 214, 0, 1762), (382, 216, 0, 1770)], [(385, 220, 0, 1782), (388, 221, 0, 1790), (391, 223, 0, 1794), (394, 229, 0, 1818), (397, 234, 0, 1833)], [(402, 235, 0, 1841), (405, 236, 0, 1845), (409, 239, 0, 1857), (412, 242, 0, 1873), (415, 243, 0, 1869)], [(420, 247, 0, 1890), (424, 249, 0, 1897), (431, 263, 0, 1960)], [(434, 265, 0, 1953), (437, 264, 0, 1956), (440, 268, 0, 1977), (444, 269, 0, 1973)]]
set_option maxRecDepth 100000 in
theorem MLt_ok11 : lTok lW4 11 MLt_11 = true := by decide +kernel
def MLt_12 : List (List (Nat × Nat × Nat × Nat)) := [[(7, 95, 0, 553), (15, 96, 0, 774)], [(18, 97, 0, 838), (21, 98, 0, 974), (24, 103, 0, 998), (27, 104, 0, 1023)], [(33, 105, 0, 1056), (36, 106, 0, 1075), (39, 107, 0, 1083), (42, 108, 0, 1094), (45, 109, 0, 1105)], [(49, 110, 0, 1116), (53, 111, 0, 1126), (56, 112, 0, 1134), (59, 113, 0, 1141), (62, 117, 0, 1153)], [(65, 118, 0, 1176), (68, 120, 0, 1184), (71, 122, 0, 1199), (74, 123, 0, 1206), (78, 124, 0, 1213)], [(82, 125, 0, 1226), (85, 126, 0, 1238), (88, 127, 0, 1248), (91, 128, 0, 1256), (94, 129, 0, 1263)], [(97, 130, 0, 1270), (100, 131, 0, 1277), (103, 115, 0, 1284), (106, 116, 0, 1291), (109, 133, 0, 1300)], [(112, 114, 0, 1307), (115, 134, 0, 1314), (118, 135, 0, 1321), (121, 136, 0, 1353), (125, 93, 0, 127)], [(128, 163, 0, 1363), (129, 94, 0, 363), (132, 164, 0, 1545), (133, 274, 0, 549), (138, 185, 0, 1553), (139, 160, 0, 1357), (143, 275, 0, 771)], [(145, 194, 0, 1632), (146, 276, 0, 835), (148, 200, 0, 1672), (149, 277, 0, 971), (151, 217, 0, 1747), (152, 99, 0, 375), (155, 178, 0, 1549), (156, 100, 0, 379), (159, 218, 0, 1751)], [(160, 278, 0, 995), (162, 219, 0, 1755), (163, 279, 0, 1019), (166, 222, 0, 1778), (167, 280, 0, 1053), (169, 224, 0, 1786), (170, 281, 0, 1072), (172, 225, 0, 1798), (173, 282, 0, 1080), (175, 226, 0, 1802)], [(176, 283, 0, 1091), (178, 227, 0, 1806), (179, 284, 0, 1102), (182, 228, 0, 1810), (183, 285, 0, 1113), (186, 230, 0, 1814), (187, 286, 0, 1123), (189, 231, 0, 1821), (190, 287, 0, 1131)], [(192, 232, 0, 1825), (193, 288, 0, 1138), (195, 233, 0, 1829), (196, 289, 0, 1150), (198, 237, 0, 1837), (199, 290, 0, 1173), (201, 238, 0, 1849), (202, 119, 0, 421), (205, 240, 0, 1853), (206, 291, 0, 1181)], [(208, 241, 0, 1861), (209, 121, 0, 484), (212, 244, 0, 1865), (213, 292, 0, 1196), (215, 245, 0, 1877), (216, 293, 0, 1203), (218, 246, 0, 1881), (219, 294, 0, 1210), (222, 248, 0, 1886), (223, 295, 0, 1223)], [(225, 250, 0, 1893), (226, 296, 0, 1235), (228, 251, 0, 1901), (229, 297, 0, 1245), (231, 252, 0, 1905), (232, 298, 0, 1253), (234, 253, 0, 1909), (235, 299, 0, 1260), (237, 254, 0, 1913), (238, 300, 0, 1267)], [(240, 255, 0, 1917), (241, 301, 0, 1274), (243, 256, 0, 1921), (244, 302, 0, 1281), (246, 257, 0, 1925), (247, 303, 0, 1288), (249, 258, 0, 1929), (250, 132, 0, 526), (253, 259, 0, 1933), (254, 304, 0, 1297)], [(256, 260, 0, 1937), (257, 305, 0, 1304), (259, 261, 0, 1941), (260, 306, 0, 1311), (262, 262, 0, 1945), (263, 307, 0, 1318), (265, 266, 0, 1949), (266, 308, 0, 1350), (269, 267, 0, 1965), (270, 101, 0, 391)], [(273, 270, 0, 1969), (274, 102, 0, 417), (277, 271, 0, 1981), (278, 137, 0, 541), (281, 272, 0, 1985), (282, 138, 0, 545), (285, 273, 0, 1989)]]
set_option maxRecDepth 100000 in
theorem MLt_ok12 : lTok lW4 12 MLt_12 = true := by decide +kernel
def MLt_13 : List (List (Nat × Nat × Nat × Nat)) := []
set_option maxRecDepth 100000 in
theorem MLt_ok13 : lTok lW4 13 MLt_13 = true := by decide +kernel
def MLt_14 : List (List (Nat × Nat × Nat × Nat)) := []
set_option maxRecDepth 100000 in
theorem MLt_ok14 : lTok lW4 14 MLt_14 = true := by decide +kernel
def MLt_15 : List (List (Nat × Nat × Nat × Nat)) := []
set_option maxRecDepth 100000 in
theorem MLt_ok15 : lTok lW4 15 MLt_15 = true := by decide +kernel
def MLt : lT := [MLt_0, MLt_1, MLt_2, MLt_3, MLt_4, MLt_5, MLt_6, MLt_7, MLt_8, MLt_9, MLt_10, MLt_11, MLt_12, MLt_13, MLt_14, MLt_15]
theorem MLt_ok {o i a b : Nat} (hl : lkT MLt o i = some (a, b)) : lW4 (o, i, a, b) ∈ wT := by
  refine lT_ok lW4 MLt (fun o g h => ?_) hl
  match o, h with
  | 0, h => cases h; exact MLt_ok0
  | 1, h => cases h; exact MLt_ok1
  | 2, h => cases h; exact MLt_ok2
  | 3, h => cases h; exact MLt_ok3
  | 4, h => cases h; exact MLt_ok4
  | 5, h => cases h; exact MLt_ok5
  | 6, h => cases h; exact MLt_ok6
  | 7, h => cases h; exact MLt_ok7
  | 8, h => cases h; exact MLt_ok8
  | 9, h => cases h; exact MLt_ok9
  | 10, h => cases h; exact MLt_ok10
  | 11, h => cases h; exact MLt_ok11
  | 12, h => cases h; exact MLt_ok12
  | 13, h => cases h; exact MLt_ok13
  | 14, h => cases h; exact MLt_ok14
  | 15, h => cases h; exact MLt_ok15
  | n + 16, h => exact absurd h (by simp [MLt])
def FLt_0 : List (List (Nat × Nat × Nat × Nat)) := [[(9, 0, 0, 264), (15, 0, 1, 265)], [], [], [(48, 0, 2, 266)]]
set_option maxRecDepth 100000 in
theorem FLt_ok0 : lTok fW 0 FLt_0 = true := by decide +kernel
def FLt_1 : List (List (Nat × Nat × Nat × Nat)) := [[(9, 1, 0, 245), (15, 1, 1, 246)], [(18, 1, 2, 247), (21, 1, 3, 248)]]
set_option maxRecDepth 100000 in
theorem FLt_ok1 : lTok fW 1 FLt_1 = true := by decide +kernel
def FLt_2 : List (List (Nat × Nat × Nat × Nat)) := [[(7, 2, 0, 404), (13, 2, 1, 406)], [(17, 2, 2, 408)]]
set_option maxRecDepth 100000 in
theorem FLt_ok2 : lTok fW 2 FLt_2 = true := by decide +kernel
def FLt_3 : List (List (Nat × Nat × Nat × Nat)) := [[(9, 3, 1, 495), (15, 3, 2, 496)], [(18, 3, 3, 497), (21, 3, 4, 499), (25, 3, 0, 494)], [(33, 7, 6, 213), (44, 7, 3, 200), (47, 7, 7, 216)]]
set_option maxRecDepth 100000 in
theorem FLt_ok3 : lTok fW 3 FLt_3 = true := by decide +kernel
def FLt_4 : List (List (Nat × Nat × Nat × Nat)) := [[(9, 4, 0, 170), (15, 4, 1, 171)], [(24, 7, 4, 202), (30, 4, 2, 172), (31, 7, 5, 207)], [(34, 4, 3, 173)]]
set_option maxRecDepth 100000 in
theorem FLt_ok4 : lTok fW 4 FLt_4 = true := by decide +kernel
def FLt_5 : List (List (Nat × Nat × Nat × Nat)) := [[(9, 5, 1, 289), (15, 5, 2, 291)], [(18, 5, 3, 293), (21, 5, 4, 295), (24, 5, 5, 297), (27, 5, 0, 287), (31, 7, 0, 192)], [(46, 7, 8, 219)], [(50, 5, 7, 301), (51, 5, 6, 298)], [(71, 7, 5, 211)], [(87, 7, 2, 197)], [(99, 7, 1, 194)], [(115, 7, 4, 206)]]
set_option maxRecDepth 100000 in
theorem FLt_ok5 : lTok fW 5 FLt_5 = true := by decide +kernel
def FLt_6 : List (List (Nat × Nat × Nat × Nat)) := [[(7, 6, 0, 1335)]]
set_option maxRecDepth 100000 in
theorem FLt_ok6 : lTok fW 6 FLt_6 = true := by decide +kernel
def FLt_7 : List (List (Nat × Nat × Nat × Nat)) := [[(9, 7, 0, 191), (15, 7, 1, 193)], [(18, 7, 2, 196), (21, 7, 3, 199), (24, 7, 7, 215), (28, 7, 8, 218)], [], [(55, 7, 4, 203)], [(68, 7, 5, 210), (76, 7, 6, 212)]]
set_option maxRecDepth 100000 in
theorem FLt_ok7 : lTok fW 7 FLt_7 = true := by decide +kernel
def FLt_8 : List (List (Nat × Nat × Nat × Nat)) := [[(9, 8, 0, 139), (15, 8, 2, 142)], [(19, 8, 1, 140), (22, 8, 4, 145), (25, 8, 5, 146), (28, 8, 6, 147), (31, 8, 3, 144)]]
set_option maxRecDepth 100000 in
theorem FLt_ok8 : lTok fW 8 FLt_8 = true := by decide +kernel
def FLt_9 : List (List (Nat × Nat × Nat × Nat)) := [[(11, 9, 0, 848), (15, 9, 1, 849)], [(18, 9, 2, 850), (21, 9, 3, 851), (26, 9, 4, 852)], [(33, 9, 5, 853)], [(55, 7, 5, 208), (60, 7, 4, 204)], [], [], [(96, 9, 6, 854)], [(114, 9, 7, 856), (117, 9, 8, 858)], [(135, 5, 6, 300)]]
set_option maxRecDepth 100000 in
theorem FLt_ok9 : lTok fW 9 FLt_9 = true := by decide +kernel
def FLt_10 : List (List (Nat × Nat × Nat × Nat)) := [[(10, 10, 0, 320)], [(19, 10, 1, 321), (25, 10, 2, 322)], [(32, 10, 3, 323), (39, 10, 4, 324), (46, 10, 5, 325)], [(55, 10, 6, 326), (59, 10, 7, 327)], [(70, 8, 1, 141)], [(89, 7, 5, 209), (93, 10, 9, 329)], [(106, 10, 8, 328)], [(114, 9, 8, 857), (117, 10, 11, 331), (120, 9, 7, 855), (123, 7, 4, 205)], [(129, 0, 2, 267), (132, 8, 2, 143), (139, 10, 10, 330), (142, 7, 6, 214)], [(145, 5, 6, 299), (148, 5, 7, 302)], [(160, 7, 7, 217), (169, 5, 1, 290)], [(186, 7, 1, 195), (189, 7, 2, 198)], [(192, 5, 2, 292), (195, 5, 3, 294), (198, 5, 4, 296)], [(217, 7, 3, 201)], [], [], [], [], [], [(310, 3, 4, 500), (313, 3, 3, 498)], [], [(340, 10, 12, 332), (343, 10, 13, 333)], [(361, 2, 0, 405), (364, 2, 1, 407), (365, 2, 2, 409)]]
set_option maxRecDepth 100000 in
theorem FLt_ok10 : lTok fW 10 FLt_10 = true := by decide +kernel
def FLt_11 : List (List (Nat × Nat × Nat × Nat)) := [[(3, 11, 0, 1379), (7, 11, 1, 1380)], [(17, 11, 8, 1387), (20, 11, 9, 1388), (23, 11, 10, 1389), (26, 11, 11, 1390), (29, 11, 12, 1391)], [(32, 11, 13, 1392), (35, 11, 14, 1393), (38, 11, 15, 1394), (41, 11, 16, 1395), (44, 11, 26, 1405), (47, 11, 27, 1406)], [(50, 11, 28, 1407), (53, 11, 29, 1408), (56, 11, 30, 1409), (59, 11, 33, 1412), (62, 11, 34, 1413)], [(65, 11, 35, 1414), (68, 11, 42, 1421), (71, 11, 43, 1422), (74, 11, 44, 1423), (77, 11, 45, 1424)], [(80, 11, 46, 1425), (83, 11, 47, 1426), (86, 11, 49, 1428), (89, 11, 50, 1429), (92, 11, 51, 1430), (95, 11, 53, 1432)], [(104, 11, 2, 1381), (107, 11, 5, 1384), (110, 11, 6, 1385)], [(113, 11, 4, 1383), (116, 11, 3, 1382)], [], [(147, 11, 7, 1386), (150, 11, 17, 1396), (153, 11, 18, 1397), (156, 11, 19, 1398), (159, 11, 20, 1399)], [(162, 11, 21, 1400), (165, 11, 22, 1401), (168, 11, 23, 1402), (171, 11, 24, 1403), (174, 11, 25, 1404)], [(181, 11, 32, 1411), (184, 11, 48, 1427), (187, 11, 37, 1416), (190, 11, 54, 1433)], [(193, 11, 38, 1417)], [], [], [(253, 11, 31, 1410)], [], [], [(299, 11, 36, 1415)], [], [(322, 11, 39, 1418), (325, 11, 40, 1419), (328, 11, 41, 1420)], [], [], [], [], [], [(427, 11, 52, 1431)]]
set_option maxRecDepth 100000 in
theorem FLt_ok11 : lTok fW 11 FLt_11 = true := by decide +kernel
def FLt_12 : List (List (Nat × Nat × Nat × Nat)) := []
set_option maxRecDepth 100000 in
theorem FLt_ok12 : lTok fW 12 FLt_12 = true := by decide +kernel
def FLt_13 : List (List (Nat × Nat × Nat × Nat)) := []
set_option maxRecDepth 100000 in
theorem FLt_ok13 : lTok fW 13 FLt_13 = true := by decide +kernel
def FLt_14 : List (List (Nat × Nat × Nat × Nat)) := []
set_option maxRecDepth 100000 in
theorem FLt_ok14 : lTok fW 14 FLt_14 = true := by decide +kernel
def FLt_15 : List (List (Nat × Nat × Nat × Nat)) := []
set_option maxRecDepth 100000 in
theorem FLt_ok15 : lTok fW 15 FLt_15 = true := by decide +kernel
def FLt : lT := [FLt_0, FLt_1, FLt_2, FLt_3, FLt_4, FLt_5, FLt_6, FLt_7, FLt_8, FLt_9, FLt_10, FLt_11, FLt_12, FLt_13, FLt_14, FLt_15]
theorem FLt_ok {o i a b : Nat} (hl : lkT FLt o i = some (a, b)) : fW (o, i, a, b) ∈ wT := by
  refine lT_ok fW FLt (fun o g h => ?_) hl
  match o, h with
  | 0, h => cases h; exact FLt_ok0
  | 1, h => cases h; exact FLt_ok1
  | 2, h => cases h; exact FLt_ok2
  | 3, h => cases h; exact FLt_ok3
  | 4, h => cases h; exact FLt_ok4
  | 5, h => cases h; exact FLt_ok5
  | 6, h => cases h; exact FLt_ok6
  | 7, h => cases h; exact FLt_ok7
  | 8, h => cases h; exact FLt_ok8
  | 9, h => cases h; exact FLt_ok9
  | 10, h => cases h; exact FLt_ok10
  | 11, h => cases h; exact FLt_ok11
  | 12, h => cases h; exact FLt_ok12
  | 13, h => cases h; exact FLt_ok13
  | 14, h => cases h; exact FLt_ok14
  | 15, h => cases h; exact FLt_ok15
  | n + 16, h => exact absurd h (by simp [FLt])
def MNs : List (Nat × Nat × Nat) := [(0, 19, 158), (4, 49, 158), (10, 9, 65), (10, 18, 25), (10, 31, 56), (10, 45, 0), (10, 98, 82)]
def nW (r : Nat × Nat × Nat) : Cond := .methodLinkNest (oS r.1) r.2.1 (yOf r.2.2) "StillYear"
def fN : Cond := .fieldLinkNest "StillYear$Places" 18 "StillYear$Scene" "studio" "LStillYear$Studio;" "StillYear"
set_option maxRecDepth 100000 in
theorem MN_in : ∀ r ∈ MNs, nW r ∈ lw_tbl := by
  intro r hr
  have h : (List.zip [992, 472, 135, 166, 187, 260, 844] MNs).all (fun q => decide (lw_tbl[q.1]? = some (nW q.2))) = true := by decide +kernel
  have hz : (List.zip [992, 472, 135, 166, 187, 260, 844] MNs).map (·.2) = MNs := by decide +kernel
  rw [← hz] at hr
  obtain ⟨q, hq, rfl⟩ := List.mem_map.mp hr
  exact List.mem_of_getElem? (of_decide_eq_true (List.all_eq_true.mp h q hq))
theorem fN_in : fN ∈ lw_tbl := List.mem_of_getElem? (i := 288) (by decide +kernel)
def eC (k : Nat) : String := match k with
  | 0 => "java/lang/IllegalArgumentException"
  | _ => "java/util/NoSuchElementException"
def clN (c : Nat) : String := bif Nat.ble 100 c then eC (c - 100) else (match vwCl[c]? with | some q => q.1 | none => "")
def cW (r : Nat × Nat × Nat) : Cond := .classLink (oS r.1) r.2.1 (clN r.2.2)
def CLp : List (Nat × Nat × Nat × Nat) := [(133, 10, 7, 8), (164, 10, 16, 4), (183, 10, 23, 2), (185, 10, 29, 7), (239, 10, 36, 1), (258, 10, 43, 0), (275, 10, 50, 5), (842, 10, 96, 9), (488, 10, 301, 3), (570, 10, 346, 100), (1035, 10, 349, 101), (1329, 10, 369, 6), (125, 12, 8, 10), (1361, 12, 126, 11)]
def CLs : List (Nat × Nat × Nat) := CLp.map (·.2)
set_option maxRecDepth 100000 in
theorem CL_ok : ∀ r ∈ CLs, cW r ∈ wT := by
  intro r hr
  obtain ⟨q, hq, rfl⟩ := List.mem_map.mp hr
  exact wT_all cW CLp (by decide +kernel) q hq
def iW (c : Nat) : Cond := match vwCl[c]? with | some q => .instantiable q.1 q.2.2 | none => .tt
def zW (c : Nat) : Cond := .initialized (clN c)
def INp : List (Nat × Nat) := [(259, 0), (240, 1), (399, 2), (489, 3), (165, 4), (276, 5), (1330, 6), (186, 7), (134, 8), (843, 9), (126, 10), (1362, 11)]
def INz : List (Nat × Nat) := [(105, 0), (104, 1), (120, 2), (123, 3), (102, 4), (106, 5), (124, 6), (103, 7), (101, 8), (119, 9), (100, 10), (109, 11), (114, 100), (122, 101)]
set_option maxRecDepth 100000 in
theorem IN_ok : ∀ c, c < 12 → iW c ∈ wT := by
  intro c hc
  have h := wT_all iW INp (by decide +kernel)
  have hz : ∀ c, c < 12 → ∃ q ∈ INp, q.2 = c := by decide +kernel
  obtain ⟨q, hq, rfl⟩ := hz c hc
  exact h q hq
set_option maxRecDepth 100000 in
theorem INz_ok : ∀ q ∈ INz, zW q.2 ∈ wT := wT_all zW INz (by decide +kernel)
theorem wU_all (C : String) (T : u_T) (N : Nat) (ps : List Nat) (h : (ps.map (fun i => lw_tbl[i]?) == (u_ws C T N).map some) = true) (g : (u_ws C T N).all goodWord = true) : ∀ w ∈ u_ws C T N, w ∈ wT := by
  intro w hw
  have h1 : ps.map (fun i => lw_tbl[i]?) = (u_ws C T N).map some := eq_of_beq h
  have h2 : some w ∈ ps.map (fun i => lw_tbl[i]?) := by rw [h1]; exact List.mem_map_of_mem hw
  obtain ⟨i, -, hi⟩ := List.mem_map.mp h2
  exact wT_in i hi (List.all_eq_true.mp g w hw)
set_option maxRecDepth 100000 in
theorem wU_0 : ∀ w ∈ u_ws RX0 TX0 3, w ∈ wT := wU_all _ _ _ [268, 270, 272] (by decide +kernel) (by decide +kernel)
set_option maxRecDepth 100000 in
theorem wU_1 : ∀ w ∈ u_ws RX1 TX1 4, w ∈ wT := wU_all _ _ _ [249, 251, 253, 255] (by decide +kernel) (by decide +kernel)
set_option maxRecDepth 100000 in
theorem wU_2 : ∀ w ∈ u_ws RX2 TX2 3, w ∈ wT := wU_all _ _ _ [410, 412, 414] (by decide +kernel) (by decide +kernel)
set_option maxRecDepth 100000 in
theorem wU_3 : ∀ w ∈ u_ws RX3 TX3 5, w ∈ wT := wU_all _ _ _ [501, 503, 505, 507, 509] (by decide +kernel) (by decide +kernel)
set_option maxRecDepth 100000 in
theorem wU_4 : ∀ w ∈ u_ws RX4 TX4 4, w ∈ wT := wU_all _ _ _ [174, 176, 178, 180] (by decide +kernel) (by decide +kernel)
set_option maxRecDepth 100000 in
theorem wU_5 : ∀ w ∈ u_ws RX5 TX5 8, w ∈ wT := wU_all _ _ _ [303, 305, 307, 309, 311, 313, 315, 317] (by decide +kernel) (by decide +kernel)
set_option maxRecDepth 100000 in
theorem wU_6 : ∀ w ∈ u_ws RX6 TX6 1, w ∈ wT := wU_all _ _ _ [1336] (by decide +kernel) (by decide +kernel)
set_option maxRecDepth 100000 in
theorem wU_7 : ∀ w ∈ u_ws RX7 TX7 9, w ∈ wT := wU_all _ _ _ [220, 222, 224, 226, 228, 230, 232, 234, 236] (by decide +kernel) (by decide +kernel)
set_option maxRecDepth 100000 in
theorem wU_8 : ∀ w ∈ u_ws RX8 TX8 7, w ∈ wT := wU_all _ _ _ [148, 150, 152, 154, 156, 158, 160] (by decide +kernel) (by decide +kernel)
set_option maxRecDepth 100000 in
theorem wU_9 : ∀ w ∈ u_ws RX9 TX9 9, w ∈ wT := wU_all _ _ _ [859, 861, 863, 865, 867, 869, 871, 873, 875] (by decide +kernel) (by decide +kernel)
set_option maxRecDepth 100000 in
theorem wU_10 : ∀ w ∈ u_ws RX10 TX10 14, w ∈ wT := wU_all _ _ _ [334, 336, 338, 340, 342, 344, 346, 348, 350, 352, 354, 356, 358, 360] (by decide +kernel) (by decide +kernel)
set_option maxRecDepth 100000 in
theorem wU_11 : ∀ w ∈ u_ws RX11 TX11 55, w ∈ wT := wU_all _ _ _ [1434, 1436, 1438, 1440, 1442, 1444, 1446, 1448, 1450, 1452, 1454, 1456, 1458, 1460, 1462, 1464, 1466, 1468, 1470, 1472, 1474, 1476, 1478, 1480, 1482, 1484, 1486, 1488, 1490, 1492, 1494, 1496, 1498, 1500, 1502, 1504, 1506, 1508, 1510, 1512, 1514, 1516, 1518, 1520, 1522, 1524, 1526, 1528, 1530, 1532, 1534, 1536, 1538, 1540, 1542] (by decide +kernel) (by decide +kernel)
def kW (r : Nat × Nat × Int) : Cond := .constant (oS r.1) r.2.1 (Int32.ofInt r.2.2)
def CKp : List (Nat × Nat × Nat × Int) := [(1347, 6, 13, 1103515245), (735, 8, 62, 1000000), (919, 9, 102, 100000), (1964, 11, 430, 1103515245), (465, 13, 265, 1431655765), (466, 13, 266, 858993459), (467, 13, 267, 252645135)]
def CKs : List (Nat × Nat × Int) := CKp.map (·.2)
set_option maxRecDepth 100000 in
theorem CK_ok : ∀ r ∈ CKs, kW r ∈ wT := by
  intro r hr
  obtain ⟨q, hq, rfl⟩ := List.mem_map.mp hr
  exact wT_all kW CKp (by decide +kernel) q hq
def jW (r : Nat × Nat × Int) : Cond := .constantLong (oS r.1) r.2.1 (Int64.ofInt r.2.2)
def CJp : List (Nat × Nat × Nat × Int) := [(1166, 10, 275, 1000000000), (1848, 11, 400, 1000000000), (1885, 11, 418, 16)]
def CJs : List (Nat × Nat × Int) := CJp.map (·.2)
set_option maxRecDepth 100000 in
theorem CJ_ok : ∀ r ∈ CJs, jW r ∈ wT := by
  intro r hr
  obtain ⟨q, hq, rfl⟩ := List.mem_map.mp hr
  exact wT_all jW CJp (by decide +kernel) q hq
def SKs : List (Nat × Nat) := [(7, 49), (7, 66), (7, 74), (7, 82), (7, 86), (1, 81), (1, 91), (1, 107), (1, 109), (1, 111), (1, 113), (1, 115), (1, 117), (1, 119), (1, 121), (9, 49), (9, 67), (9, 69), (9, 71), (9, 73), (9, 83), (11, 223), (11, 196), (11, 202), (11, 204), (11, 206), (11, 282), (11, 287), (11, 271), (11, 273), (11, 274), (11, 276), (11, 278), (11, 280), (11, 302), (11, 308), (11, 310), (11, 312), (11, 314)]
def sTx : List String := ["seat", "sitter", "sitting", "year", "food", "least", "most", "light", "dark", "still", "hunger", "seat", "sitter", "others", "day", "sit", "rise", "feed", "curtain", "day", "again", "sitting", "seat", "sitter", "year", "food", "least", "most", "light", "dark", "still", "hunger", "others", "day", "curtain", "sit", "rise", "feed", "again"]
/-- the field's type is a reference's -/
def isRf (t : FieldType) : Bool := match t with
  | .object _ => true
  | .array _ => true
  | _ => false
def fTy (c k : Nat) : Option FieldType := match vwCl[c]? with
  | some q => parseFieldDescriptor (q.2.1 k).2.2.1
  | none => none
def fFin (c k : Nat) : Bool := match vwCl[c]? with
  | some q => (q.2.1 k).2.2.2
  | none => false
def fN_ (c : Nat) : Nat := match vwCl[c]? with
  | some q => q.2.2
  | none => 0
def fDc (c k : Nat) : String := match vwCl[c]? with
  | some q => (q.2.1 k).1
  | none => ""
def nPar (M : Nat) : Option Nat := (parseMethodDescriptor (mY M).desc).map (fun d => d.parameters.length)
def rTc (t : Option FieldType) (x : Int) : Bool := match t with
  | none => decide (x = 0)
  | some .long => decide (x = 2)
  | some .int => decide (x = 1)
  | some .boolean => decide (x = 1)
  | some (.object _) => decide (x = 3)
  | _ => false
/-- a call: the callee's kind, its parameters, what it returns -/
def okC (M kind : Nat) (x : Int) (a b : Nat) (idx : Nat) : Bool := Nat.blt a 312 && rTc (mT a) x && (match kind with
  | 0 => Nat.beq (mK a) 0 && decide (nPar a = some (b - 1)) && Nat.ble 1 b && (lkT MLt (mO M) idx == some (a, 0))
  | 1 => (Nat.beq (mK a) 1 || Nat.beq (mK a) 3) && decide (nPar a = some b) && ((lkT MLt (mO M) idx == some (a, 0)) || Nat.beq (mK a) 1 && MNs.contains (mO M, idx, a))
  | _ => Nat.beq (mK a) 2 && decide (nPar a = some (b - 1)) && Nat.ble 1 b && ((lkT MLt (mO M) idx == some (a, 0)) || MNs.contains (mO M, idx, a)))
def swT (l : List Int) (pc : Nat) (lo : Int) : List (Int32 × Nat) := match l with
  | [] => []
  | z :: r => (Int32.ofInt lo, ((pc : Int) + z).toNat) :: swT r pc (lo + 1)
def tgt (pc : Nat) (z : Int) (a : Nat) : Bool := decide ((pc : Int) + z = (a : Int))
def cdN (c : ClassFile.Cond) : Nat := match c with
  | .eq => 0
  | .ne => 1
  | .lt => 2
  | .ge => 3
  | .gt => 4
  | .le => 5
def okI (M pc op : Nat) (x : Int) (a b : Nat) (i : Instr) : Bool := match i with
  | .iconst v => Nat.beq op 0 && decide (x = v)
  | .bipush v => Nat.beq op 0 && decide (Int32.ofInt x = (Int8.ofInt v).toInt32)
  | .sipush v => Nat.beq op 0 && decide (Int32.ofInt x = (Int16.ofInt v).toInt32)
  | .ldc k => (Nat.beq op 0 && CKs.contains (mO M, k, x)) || (Nat.beq op 67 && decide (SKs[a]? = some (mO M, k)))
  | .ldc_w k => (Nat.beq op 0 && CKs.contains (mO M, k, x)) || (Nat.beq op 67 && decide (SKs[a]? = some (mO M, k)))
  | .lconst v => Nat.beq op 1 && decide (x = (v.val : Int))
  | .ldc2_w k => Nat.beq op 1 && CJs.contains (mO M, k, x)
  | .iload k => Nat.beq op 2 && Nat.beq a k
  | .iload_n k => Nat.beq op 2 && Nat.beq a k.val
  | .aload k => Nat.beq op 3 && Nat.beq a k
  | .aload_n k => Nat.beq op 3 && Nat.beq a k.val
  | .lload k => Nat.beq op 4 && Nat.beq a k
  | .lload_n k => Nat.beq op 4 && Nat.beq a k.val
  | .istore k => Nat.beq op 5 && Nat.beq a k && Nat.blt a (mxL M) && (mJ M == Nat.beq b 1) && Nat.ble b 1
  | .istore_n k => Nat.beq op 5 && Nat.beq a k.val && Nat.blt a (mxL M) && (mJ M == Nat.beq b 1) && Nat.ble b 1
  | .astore k => Nat.beq op 6 && Nat.beq a k && Nat.blt a (mxL M) && (mJ M == Nat.beq b 1) && Nat.ble b 1
  | .astore_n k => Nat.beq op 6 && Nat.beq a k.val && Nat.blt a (mxL M) && (mJ M == Nat.beq b 1) && Nat.ble b 1
  | .lstore k => Nat.beq op 7 && Nat.beq a k && Nat.blt (a + 1) (mxL M) && mJ M
  | .lstore_n k => Nat.beq op 7 && Nat.beq a k.val && Nat.blt (a + 1) (mxL M) && mJ M
  | .iinc k z => Nat.beq op 8 && Nat.beq a k && decide (x = z) && Nat.blt a (mxL M) && (mJ M == Nat.beq b 1) && Nat.ble b 1
  | .iadd => Nat.beq op 9 && Nat.beq b 0
  | .isub => Nat.beq op 9 && Nat.beq b 1
  | .imul => Nat.beq op 9 && Nat.beq b 2
  | .ishl => Nat.beq op 9 && Nat.beq b 3
  | .ishr => Nat.beq op 9 && Nat.beq b 4
  | .iushr => Nat.beq op 9 && Nat.beq b 5
  | .iand => Nat.beq op 9 && Nat.beq b 6
  | .ior => Nat.beq op 9 && Nat.beq b 7
  | .ixor => Nat.beq op 9 && Nat.beq b 8
  | .idiv => Nat.beq op 10
  | .irem => Nat.beq op 11
  | .lmul => Nat.beq op 12
  | .ldiv => Nat.beq op 13
  | .lrem => Nat.beq op 14
  | .i2l => Nat.beq op 15
  | .l2i => Nat.beq op 16
  | .lcmp => Nat.beq op 17
  | .dup => Nat.beq op 18
  | .dup2 => Nat.beq op 19
  | .pop => Nat.beq op 20
  | .aconst_null => Nat.beq op 21
  | .goto z => Nat.beq op 22 && tgt pc z a
  | .if_icmp c z => Nat.beq op (23 + cdN c) && tgt pc z a
  | .ifCond c z => Nat.beq op (29 + cdN c) && tgt pc z a
  | .ifnull z => Nat.beq op 35 && tgt pc z a
  | .ifnonnull z => Nat.beq op 36 && tgt pc z a
  | .tableswitch d lo hi offs => Nat.beq op 37 && decide (pSw[a]? = some (swT offs.toList pc lo, ((pc : Int) + d).toNat)) && decide (hi = lo + (offs.size : Int) - 1) && decide (0 ≤ (pc : Int) + d) && offs.toList.all (fun z => decide (0 ≤ (pc : Int) + z)) && decide (-1000000 < lo) && decide (hi < 1000000)
  | .lookupswitch d ps => Nat.beq op 37 && decide (pSw[a]? = some (ps.toList.map (fun q => (Int32.ofInt q.1, ((pc : Int) + q.2).toNat)), ((pc : Int) + d).toNat)) && decide (0 ≤ (pc : Int) + d) && ps.toList.all (fun q => decide (0 ≤ (pc : Int) + q.2) && decide (-1000000 < q.1) && decide (q.1 < 1000000)) && (ps.toList.zip (ps.toList.drop 1)).all (fun (a, next) => decide (a.1 < next.1))
  | .getfield k => Nat.blt b (fN_ a) && Nat.blt a 12 && ((lkT FLt (mO M) k == some (a, b)) || (Nat.beq (mO M) 4 && Nat.beq k 18 && Nat.beq a 5 && Nat.beq b 0)) && (Nat.beq op 38 || Nat.beq op 39 || Nat.beq op 40)
  | .putfield k => Nat.blt b (fN_ a) && Nat.blt a 12 && (lkT FLt (mO M) k == some (a, b)) && ((Nat.beq op 41 && decide (fTy a b = some .int)) || (Nat.beq op 42 && (match fTy a b with | some t => isRf t | none => false))) && (!fFin a b || (Nat.beq (mK M) 2 && decide (fDc a b = oS (mO M))))
  | .iaload => Nat.beq op 43
  | .iastore => Nat.beq op 44
  | .laload => Nat.beq op 45
  | .lastore => Nat.beq op 46
  | .aaload => Nat.beq op 47
  | .aastore => Nat.beq op 48
  | .arraylength => Nat.beq op 49
  | .newarray .int => Nat.beq op 50
  | .newarray .long => Nat.beq op 51
  | .anewarray k => Nat.beq op 52 && CLs.contains (mO M, k, 2)
  | .new k => (Nat.beq op 53 && Nat.blt a 12 && Nat.beq b (fN_ a) && CLs.contains (mO M, k, a)) || (Nat.beq op 54 && Nat.blt a 2 && CLs.contains (mO M, k, 100 + a) && decide (decode (mB M) (pc + 3) = .ok (.dup, 1)) && decide (decode (mB M) (pc + 4) = .ok (.invokespecial (348 + 3 * a), 3)) && decide (decode (mB M) (pc + 7) = .ok (.athrow, 1)) && Nat.beq (mO M) 10 && Nat.beq (mK M) 0)
  | .invokevirtual k => (Nat.beq op 55 && okC M 0 x a b k) || (Nat.beq op 60 && (lkT MLt (mO M) k == some (9003, 0))) || (Nat.beq op 61 && (lkT MLt (mO M) k == some (9004, 0)))
  | .invokestatic k => (Nat.beq op 56 && okC M 1 x a b k) || (Nat.beq op 59 && (lkT MLt (mO M) k == some (9002, 0))) || (Nat.beq op 68 && (lkT MLt (mO M) k == some (9005, 0))) || (Nat.beq op 69 && (lkT MLt (mO M) k == some (9006, 0))) || (Nat.beq op 70 && (lkT MLt (mO M) k == some (9007, 0)))
  | .invokespecial k => (Nat.beq op 57 && okC M 2 x a b k) || (Nat.beq op 58 && (lkT MLt (mO M) k == some (9001, 0))) || Nat.beq op 99
  | .ireturn => (Nat.beq op 62 && decide (mT M = some .int)) || (Nat.beq op 66 && decide (mT M = some .boolean))
  | .lreturn => Nat.beq op 63 && decide (mT M = some .long)
  | .areturn => Nat.beq op 64 && (match mT M with | some t => isRf t | none => false)
  | .return_ => Nat.beq op 65 && decide (mT M = none)
  | .athrow => Nat.beq op 99
  | _ => false
def ilen (i : Instr) (n : Nat) : Bool := match i with
  | .bipush _ => Nat.beq n 2
  | .sipush _ => Nat.beq n 3
  | .ldc _ => Nat.beq n 2
  | .ldc_w _ => Nat.beq n 3
  | .ldc2_w _ => Nat.beq n 3
  | .iload _ => Nat.beq n 2
  | .aload _ => Nat.beq n 2
  | .lload _ => Nat.beq n 2
  | .istore _ => Nat.beq n 2
  | .astore _ => Nat.beq n 2
  | .lstore _ => Nat.beq n 2
  | .iinc _ _ => Nat.beq n 3
  | .goto _ => Nat.beq n 3
  | .if_icmp _ _ => Nat.beq n 3
  | .ifCond _ _ => Nat.beq n 3
  | .ifnull _ => Nat.beq n 3
  | .ifnonnull _ => Nat.beq n 3
  | .getfield _ => Nat.beq n 3
  | .putfield _ => Nat.beq n 3
  | .newarray _ => Nat.beq n 2
  | .anewarray _ => Nat.beq n 3
  | .new _ => Nat.beq n 3
  | .invokevirtual _ => Nat.beq n 3
  | .invokestatic _ => Nat.beq n 3
  | .invokespecial _ => Nat.beq n 3
  | .tableswitch _ _ _ _ => true
  | .lookupswitch _ _ => true
  | _ => Nat.beq n 1
def okE (M pc : Nat) (e : pE) : Bool := match e with
  | (len, op, x, a, b) => match decode (mB M) pc with
    | .ok (i, n) => Nat.beq n len && ilen i n && okI M pc op x a b i
    | _ => false
def mTab (M : Nat) : List (List (Nat × pE)) := (pMs.getD (M / 16) []).getD (M % 16) []
def okM (M : Nat) : Bool := (mTab M).all fun r => r.all fun q => okE M q.1 q.2
