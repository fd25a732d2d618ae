/-! ===== what is given of the start, by its places ===== -/
abbrev wdC : String := "BridgeToll$Word"
abbrev wdD : String := "LBridgeToll$Word;"
abbrev strN : String := "java/lang/String"
def flN : List Cond := flatC (Jvm.Cond.and given_1 narrow_1)
def strK : List Nat := [103, 109, 112, 115, 118, 121, 124, 127, 130, 133, 136, 139, 142, 145, 148, 151, 154, 157, 160, 163, 166, 169, 172, 175, 178, 313, 318, 323, 145]
def tmS (i : Nat) : Term := .string (if i < 25 then wdC else "BridgeToll") (strK.getD i 0)
def tmV (i : Nat) : Term := .field (tmS i) strN "value" "[B"
def gL1 : List Cond := (List.range 25).map (fun i => Cond.exactly (.static wdC (nmW.getD i "") wdD) wdC)
def gL2 : List Cond := (List.range 25).map (fun i => Cond.eq (.field (.static wdC (nmW.getD i "") wdD) "java/lang/Enum" "ordinal" "I") (.int (ordW.getD i 0)))
def gL3 : List Cond := (List.range 25).map (fun i => Cond.eq (.field (.static wdC (nmW.getD i "") wdD) wdC "text" "Ljava/lang/String;") (tmS i))
def gL5 : List Cond := (List.range 29).map (fun i => Cond.exactly (tmS i) strN)
def gL6 : List Cond := (List.range 29).map (fun i => Cond.eq (.field (tmS i) strN "coder" "B") (.int 0))
def gL7 : List Cond := (List.range 29).map (fun i => Cond.arrayOf (tmV i) .byte)
def gL8 : List Cond := (List.range 29).map (fun i => Cond.eq (.length (tmV i)) (.int (Int32.ofNat (strT.getD i []).length)))
def gL9 : List Cond := (List.range 29).flatMap (fun i => (List.range (strT.getD i []).length).map (fun j => Cond.eq (.elem (tmV i) (.int (Int32.ofNat j))) (.int ((strT.getD i []).getD j 0))))
def gL10 : List Cond := (List.range 25).map (fun j => Cond.eq (.elem (.static "BridgeToll" "WORDS" "[LBridgeToll$Word;") (.int (Int32.ofNat j))) (.static wdC (nmW.getD j "") wdD))
def gL11 : List Cond := (List.range 25).map (fun j => Cond.eq (.elem (.static "BridgeToll$1" "$SwitchMap$BridgeToll$Word" "[I") (.int (Int32.ofNat j))) (.int (swM.getD j 0)))
def gL12 : List Cond := [.arrayOf (.static "BridgeToll" "WORDS" "[LBridgeToll$Word;") (.object wdC), .eq (.length (.static "BridgeToll" "WORDS" "[LBridgeToll$Word;")) (.int 25), .arrayOf (.static "BridgeToll$1" "$SwitchMap$BridgeToll$Word" "[I") .int, .eq (.length (.static "BridgeToll$1" "$SwitchMap$BridgeToll$Word" "[I")) (.int 25), .eq (.static strN "COMPACT_STRINGS" "Z") (.int 1), .isRef (.static Bundle.tN "UNASSIGNED_STACK" Bundle.steD), .isRef (.static Bundle.tN "SUPPRESSED_SENTINEL" Bundle.listD), .isRef (.static "jdk/internal/util/Preconditions" "SIOOBE_FORMATTER" "Ljava/util/function/BiFunction;")]
def gL13 : List Cond := (List.range 25).map (fun i => Cond.laysStatic wdC (nmW.getD i "") wdD)

def rkW : List Nat := [4, 42, 57, 72, 81, 91, 46, 64, 51, 127, 141, 156, 172, 102, 114, 254, 235, 217, 276, 297, 319, 342, 366, 391, 417]
def gN (i j : Nat) : Cond := if rkW.getD i 0 < rkW.getD j 0 then Cond.not (.eq (.static wdC (nmW.getD i "") wdD) (.static wdC (nmW.getD j "") wdD)) else Cond.not (.eq (.static wdC (nmW.getD j "") wdD) (.static wdC (nmW.getD i "") wdD))
def gL4c : List Cond := (List.range 25).flatMap (fun j => (List.range j).map (fun i => gN i j))
theorem sub_fl {L : List Cond} (ps : List Nat) (hp : L = ps.filterMap (fun i => flN[i]?)) : ∀ w ∈ L, w ∈ flN := by
  intro w hw
  rw [hp] at hw
  obtain ⟨i, -, hi⟩ := List.mem_filterMap.mp hw
  first | exact List.mem_of_getElem? hi | exact List.getElem?_mem hi
theorem sub_tb {L : List Cond} (ps : List Nat) (hp : L = ps.filterMap (fun i => lw_tbl[i]?)) : ∀ w ∈ L, w ∈ lw_tbl := by
  intro w hw
  rw [hp] at hw
  obtain ⟨i, -, hi⟩ := List.mem_filterMap.mp hw
  first | exact List.mem_of_getElem? hi | exact List.getElem?_mem hi
theorem g1_in : ∀ w ∈ gL1, w ∈ flN := sub_fl [4, 42, 57, 72, 81, 91, 46, 64, 51, 127, 141, 156, 172, 102, 114, 254, 235, 217, 276, 297, 319, 342, 366, 391, 417] (by decide +kernel)
theorem g2_in : ∀ w ∈ gL2, w ∈ flN := sub_fl [5, 43, 58, 73, 82, 92, 47, 65, 52, 128, 142, 157, 173, 103, 115, 255, 236, 218, 277, 298, 320, 343, 367, 392, 418] (by decide +kernel)
theorem g3_in : ∀ w ∈ gL3, w ∈ flN := sub_fl [6, 44, 59, 74, 83, 93, 48, 66, 53, 129, 143, 158, 174, 104, 116, 256, 237, 219, 278, 299, 321, 344, 368, 393, 419] (by decide +kernel)
theorem g4c_in : ∀ w ∈ gL4c, w ∈ flN := sub_fl [45, 60, 61, 75, 76, 79, 84, 85, 88, 90, 94, 95, 98, 100, 101, 49, 50, 62, 77, 86, 96, 67, 68, 71, 80, 89, 99, 69, 54, 55, 63, 78, 87, 97, 56, 70, 130, 131, 134, 136, 137, 138, 132, 135, 133, 144, 145, 148, 150, 151, 152, 146, 149, 147, 155, 159, 160, 163, 165, 166, 167, 161, 164, 162, 170, 171, 175, 176, 179, 181, 182, 183, 177, 180, 178, 186, 187, 188, 105, 106, 109, 111, 112, 113, 107, 110, 108, 139, 153, 168, 184, 117, 118, 121, 123, 124, 125, 119, 122, 120, 140, 154, 169, 185, 126, 257, 258, 261, 263, 264, 265, 259, 262, 260, 268, 269, 270, 271, 266, 267, 238, 239, 242, 244, 245, 246, 240, 243, 241, 249, 250, 251, 252, 247, 248, 273, 220, 221, 224, 226, 227, 228, 222, 225, 223, 231, 232, 233, 234, 229, 230, 272, 253, 279, 280, 283, 285, 286, 287, 281, 284, 282, 290, 291, 292, 293, 288, 289, 296, 295, 294, 300, 301, 304, 306, 307, 308, 302, 305, 303, 311, 312, 313, 314, 309, 310, 317, 316, 315, 318, 322, 323, 326, 328, 329, 330, 324, 327, 325, 333, 334, 335, 336, 331, 332, 339, 338, 337, 340, 341, 345, 346, 349, 351, 352, 353, 347, 350, 348, 356, 357, 358, 359, 354, 355, 362, 361, 360, 363, 364, 365, 369, 370, 373, 375, 376, 377, 371, 374, 372, 380, 381, 382, 383, 378, 379, 386, 385, 384, 387, 388, 389, 390, 394, 395, 398, 400, 401, 402, 396, 399, 397, 405, 406, 407, 408, 403, 404, 411, 410, 409, 412, 413, 414, 415, 416, 420, 421, 424, 426, 427, 428, 422, 425, 423, 431, 432, 433, 434, 429, 430, 437, 436, 435, 438, 439, 440, 441, 442, 443] (by decide +kernel)
theorem g5_in : ∀ w ∈ gL5, w ∈ flN := sub_fl [555, 559, 583, 603, 610, 618, 568, 593, 576, 641, 649, 658, 667, 627, 634, 691, 684, 677, 697, 705, 712, 721, 728, 738, 749, 502, 513, 524, 529] (by decide +kernel)
theorem g6_in : ∀ w ∈ gL6, w ∈ flN := sub_fl [556, 560, 584, 604, 611, 619, 569, 594, 577, 642, 650, 659, 668, 628, 635, 692, 685, 678, 698, 706, 713, 722, 729, 739, 750, 503, 514, 525, 530] (by decide +kernel)
theorem g7_in : ∀ w ∈ gL7, w ∈ flN := sub_fl [557, 561, 585, 605, 612, 620, 570, 595, 578, 643, 651, 660, 669, 629, 636, 693, 686, 679, 699, 707, 714, 723, 730, 740, 751, 504, 515, 526, 531] (by decide +kernel)
theorem g8_in : ∀ w ∈ gL8, w ∈ flN := sub_fl [558, 562, 586, 606, 613, 621, 571, 596, 579, 644, 652, 661, 670, 630, 637, 694, 687, 680, 700, 708, 715, 724, 731, 741, 752, 505, 516, 527, 532] (by decide +kernel)
theorem g9_in : ∀ w ∈ gL9, w ∈ flN := sub_fl [563, 564, 565, 566, 567, 587, 588, 589, 590, 591, 592, 607, 608, 609, 614, 615, 616, 617, 622, 623, 624, 625, 626, 572, 573, 574, 575, 597, 598, 599, 600, 601, 602, 580, 581, 582, 645, 646, 647, 648, 653, 654, 655, 656, 657, 662, 663, 664, 665, 666, 671, 672, 673, 674, 675, 676, 631, 632, 633, 638, 639, 640, 695, 696, 688, 689, 690, 681, 682, 683, 701, 702, 703, 704, 709, 710, 711, 716, 717, 718, 719, 720, 725, 726, 727, 732, 733, 734, 735, 736, 737, 742, 743, 744, 745, 746, 747, 748, 753, 754, 755, 756, 757, 758, 506, 507, 508, 509, 510, 511, 512, 517, 518, 519, 520, 521, 522, 523, 528, 533, 534, 535, 536, 537, 538, 539, 540, 541, 542, 543, 544, 545, 546, 547, 548, 549, 550, 551, 552, 553, 554] (by decide +kernel)
theorem g10_in : ∀ w ∈ gL10, w ∈ flN := sub_fl [12, 13, 14, 15, 16, 17, 18, 19, 20, 21, 22, 23, 24, 25, 26, 27, 28, 29, 30, 31, 32, 33, 34, 35, 36] (by decide +kernel)
theorem g11_in : ∀ w ∈ gL11, w ∈ flN := sub_fl [192, 193, 194, 195, 196, 197, 198, 199, 200, 201, 202, 203, 204, 205, 206, 207, 208, 209, 210, 211, 212, 213, 214, 215, 216] (by decide +kernel)
theorem g12_in : ∀ w ∈ gL12, w ∈ flN := sub_fl [9, 10, 190, 191, 37, 274, 275, 38] (by decide +kernel)
theorem g13_in : ∀ w ∈ gL13, w ∈ lw_tbl := sub_tb [193, 662, 707, 723, 745, 759, 695, 717, 697, 1236, 1239, 1241, 1243, 1214, 1225, 1338, 1335, 1319, 2175, 2176, 2177, 2178, 2179, 2180, 2181] (by decide +kernel)
def gL14 : List Cond := [.laysStatic "BridgeToll" "WORDS" "[LBridgeToll$Word;", .laysStatic "BridgeToll$1" "$SwitchMap$BridgeToll$Word" "[I", .laysStatic strN "COMPACT_STRINGS" "Z", .laysStatic Bundle.tN "UNASSIGNED_STACK" Bundle.steD, .laysStatic Bundle.tN "SUPPRESSED_SENTINEL" Bundle.listD, .laysStatic "jdk/internal/util/Preconditions" "SIOOBE_FORMATTER" "Ljava/util/function/BiFunction;", .initialized wdC, .initialized "BridgeToll", .initialized "BridgeToll$1", .initialized strN, .initialized Bundle.tN, .initialized "jdk/internal/util/Preconditions", .stringRef "BridgeToll" 313 " may go", .stringRef "BridgeToll" 318 " lacks ", .stringRef "BridgeToll" 323 " ", .stringRef "BridgeToll" 145 "no such person or what", .arrayClass .int, .arrayClass .boolean, .arrayClass .byte, .arrayClass .long, .arrayOver (.object wdC), .arrayOver (.object "BridgeToll$World"), .arrayOver (.object "BridgeToll$Sentence"), .arrayOver (.array .int), .castable nsE nsE, .declares (nsD "java/lang/RuntimeException"), .declares (nsD "java/lang/Exception"), .declares (nsD "java/lang/Throwable")]
theorem g14_in : ∀ w ∈ gL14, w ∈ lw_tbl := sub_tb [586, 1260, 596, 1422, 1424, 616, 134, 130, 156, 145, 151, 147, 1181, 1188, 1189, 1434, 183, 1615, 1194, 235, 191, 373, 416, 336, 1397, 1399, 1401, 1403] (by decide +kernel)

