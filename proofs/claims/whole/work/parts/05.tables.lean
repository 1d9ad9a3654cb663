/-! THE TABLES: links, constants, methods; each row with its place in lw_tbl; written by wip/whole/gen_tables.py -/
def jx_cn (o : Nat) : String := ([RX0, RX1, RX2, RX3, RX4, RX5, RX6, RX7, RJ7][o]?).getD ""
def jx_F (ci : Nat) : u_T := match vwCl[ci]? with
  | some q => q.2.1
  | none => fun _ => ("", "", "", false)
def jx_fl : List (Nat × Nat × Nat × Nat × Nat) := [(0, 9, 0, 0, 71), (0, 15, 0, 1, 73), (0, 18, 0, 2, 76), (0, 21, 0, 3, 78), (0, 24, 0, 4, 80), (0, 27, 0, 5, 81), (0, 36, 0, 6, 83), (0, 40, 5, 1, 175), (0, 45, 5, 0, 171), (1, 11, 1, 0, 190), (1, 18, 1, 1, 191), (1, 26, 1, 2, 192), (2, 9, 2, 1, 137), (2, 15, 2, 2, 138), (2, 18, 2, 3, 140), (2, 21, 2, 4, 142), (2, 24, 2, 5, 144), (2, 27, 2, 6, 146), (2, 30, 2, 0, 136), (2, 43, 3, 5, 114), (2, 53, 3, 4, 111), (2, 60, 3, 0, 103), (2, 64, 0, 6, 84), (2, 69, 0, 1, 74), (2, 76, 0, 3, 79), (3, 12, 3, 0, 102), (3, 18, 3, 1, 105), (3, 22, 3, 2, 107), (3, 25, 3, 3, 108), (3, 28, 3, 4, 110), (3, 42, 3, 5, 115), (3, 45, 5, 1, 174), (3, 50, 5, 0, 170), (3, 59, 0, 1, 75), (3, 62, 0, 0, 72), (4, 9, 4, 2, 209), (4, 15, 4, 3, 210), (4, 18, 4, 4, 211), (4, 21, 4, 5, 212), (4, 24, 4, 6, 213), (4, 27, 4, 7, 214), (4, 30, 4, 8, 215), (4, 33, 4, 9, 216), (4, 36, 4, 10, 217), (4, 39, 4, 11, 218), (4, 42, 4, 12, 220), (4, 45, 4, 0, 207), (4, 49, 4, 1, 208), (4, 62, 3, 5, 113), (4, 79, 2, 2, 139), (4, 88, 2, 5, 145), (4, 95, 2, 6, 147), (4, 106, 2, 4, 143), (4, 129, 4, 13, 222), (4, 132, 2, 3, 141), (5, 9, 5, 0, 169), (5, 15, 5, 1, 172), (6, 20, 6, 0, 253), (6, 24, 6, 1, 254), (6, 31, 6, 2, 255), (6, 35, 6, 3, 256), (6, 44, 6, 4, 257), (6, 48, 6, 5, 258), (6, 56, 5, 1, 173), (6, 64, 3, 0, 104), (6, 74, 0, 6, 85), (6, 95, 0, 2, 77), (6, 103, 0, 5, 82), (6, 114, 3, 1, 106), (6, 117, 3, 4, 112), (6, 127, 3, 5, 116), (6, 133, 3, 3, 109), (6, 162, 4, 13, 223), (6, 168, 4, 11, 219), (6, 171, 4, 12, 221), (6, 202, 1, 2, 193), (7, 7, 7, 0, 621), (7, 13, 7, 1, 622), (7, 16, 7, 3, 624), (7, 19, 7, 7, 628), (7, 22, 7, 8, 629), (7, 25, 7, 9, 630), (7, 28, 7, 10, 631), (7, 31, 7, 11, 632), (7, 34, 7, 12, 633), (7, 37, 7, 13, 634), (7, 40, 7, 15, 636), (7, 43, 7, 16, 637), (7, 46, 7, 17, 638), (7, 49, 7, 18, 639), (7, 53, 7, 2, 623), (7, 57, 7, 5, 626), (7, 65, 7, 4, 625), (7, 96, 7, 6, 627), (7, 133, 7, 14, 635)]
def jx_pl : List (Nat × Nat × Nat × Nat × Int × Nat) := [(0, 36, 0, 6, 0, 83), (1, 18, 1, 1, 0, 191), (1, 26, 1, 2, 0, 192), (3, 28, 3, 4, 0, 110), (3, 42, 3, 5, 0, 115), (4, 129, 4, 13, 0, 222), (5, 15, 5, 1, 0, 172), (6, 48, 6, 5, 1, 258), (6, 56, 5, 1, 0, 173), (6, 117, 3, 4, 0, 112), (7, 53, 7, 2, 0, 623), (7, 57, 7, 5, 1, 626), (7, 65, 7, 4, 0, 625), (7, 96, 7, 6, 0, 627), (7, 133, 7, 14, 0, 635)]
def jx_cs : List (Nat × Nat × Int × Nat) := [(4, 72, 1000000, 466), (4, 112, 1000000000, 485), (6, 177, 1000000, 565), (7, 102, 1000000000, 805), (7, 139, 100000000, 850)]
def jx_ml : List (Nat × Nat × Nat × Nat × Nat) := [(0, 48, 3, 0, 347), (0, 52, 4, 0, 295), (1, 22, 16, 0, 316), (2, 34, 12, 0, 439), (2, 37, 127, 1, 443), (2, 49, 13, 0, 444), (2, 56, 14, 0, 450), (2, 72, 19, 0, 448), (2, 77, 6, 0, 449), (2, 81, 20, 0, 454), (3, 32, 0, 0, 320), (3, 53, 127, 1, 400), (4, 53, 22, 0, 462), (4, 56, 24, 0, 478), (4, 59, 26, 0, 486), (4, 68, 27, 0, 490), (4, 73, 127, 1, 467), (4, 84, 15, 0, 468), (4, 91, 23, 0, 472), (4, 103, 18, 0, 476), (4, 109, 25, 1, 482), (4, 113, 28, 0, 494), (4, 116, 30, 0, 502), (4, 119, 31, 0, 506), (4, 122, 32, 0, 510), (4, 126, 29, 0, 498), (4, 135, 39, 0, 561), (5, 19, 45, 0, 303), (6, 52, 79, 1, 276), (6, 60, 43, 0, 279), (6, 68, 5, 0, 291), (6, 77, 44, 0, 299), (6, 81, 72, 0, 308), (6, 84, 1, 0, 331), (6, 88, 75, 0, 339), (6, 92, 2, 0, 343), (6, 99, 6, 0, 363), (6, 106, 4, 0, 378), (6, 110, 18, 0, 383), (6, 120, 45, 0, 395), (6, 123, 17, 0, 396), (6, 130, 77, 0, 411), (6, 136, 76, 0, 419), (6, 139, 19, 0, 423), (6, 143, 73, 0, 431), (6, 147, 33, 0, 514), (6, 150, 78, 1, 522), (6, 153, 35, 0, 525), (6, 156, 36, 0, 529), (6, 159, 37, 0, 537), (6, 165, 74, 0, 545), (6, 174, 40, 0, 557), (6, 178, 41, 0, 570), (6, 181, 42, 0, 574), (6, 184, 34, 0, 582), (6, 187, 38, 0, 590), (6, 190, 7, 0, 594), (6, 193, 8, 0, 602), (6, 196, 127, 1, 606), (6, 203, 10, 0, 611), (6, 206, 9, 0, 312), (6, 209, 11, 0, 435), (6, 212, 21, 0, 458), (7, 61, 80, 1, 688), (7, 68, 86, 1, 699), (7, 72, 88, 0, 702), (7, 76, 85, 0, 706), (7, 79, 81, 0, 710), (7, 82, 87, 0, 718), (7, 85, 93, 0, 734), (7, 88, 97, 0, 750), (7, 92, 103, 0, 774), (7, 99, 105, 0, 794), (7, 103, 107, 0, 798), (7, 106, 108, 0, 810), (7, 109, 110, 0, 786), (7, 112, 109, 0, 814), (7, 115, 112, 0, 818), (7, 119, 111, 1, 802), (7, 122, 106, 0, 790), (7, 126, 113, 0, 806), (7, 130, 114, 0, 782), (7, 136, 117, 0, 830), (7, 140, 121, 0, 846)]
def jx_nest : Nat × Nat × Nat := (5, 23, 79)
def jx_cpl : List (Nat × Nat × Nat) := [(0, 30, 324), (3, 36, 327)]
def jx_maxl : List (Nat × Nat × Nat) := [(0, 56, 367)]
def jx_minl : List (Nat × Nat × Nat) := [(1, 29, 328), (4, 98, 477)]
abbrev jxR : Type := MethodName × ByteArray × Nat × Option FieldType × Nat × Nat × List Nat
def kp_D_copyFrom : List Nat := [0, 1, 4, 5, 6, 9, 10, 11, 14, 15, 18, 19, 22, 23, 24, 27, 28, 30, 33, 34, 37, 38, 39, 42, 43, 45, 48, 49, 52, 53, 54, 57, 58, 60, 63, 64, 67, 68, 69, 72, 73, 75, 78, 79, 82, 83, 84, 87, 88, 90, 93, 94, 95, 98, 101]
def kp_D_append : List Nat := [0, 1, 4, 6, 8, 10, 13, 14, 17, 19, 22, 23, 24, 27, 28, 29, 32, 34, 36, 37, 38, 41, 44, 45, 48, 50, 51, 54, 55, 56, 59, 61, 62, 63, 64, 67, 69, 70, 71, 72, 75, 77, 79, 80, 81, 84, 86, 87, 88, 89, 90, 93, 94, 95, 98]
def kp_D_drop : List Nat := [0, 1, 2, 3, 4, 5, 6, 9, 12, 13, 14, 15, 16, 19, 22, 25, 26, 27, 30, 31, 32, 35]
def kp_D_moveDown : List Nat := [0, 1, 2, 3, 4, 5, 8, 9, 11, 12, 13, 16, 17, 19, 20, 22, 25, 26, 29, 30, 31, 34, 35, 36, 37, 38, 41, 42, 43, 46, 47, 48, 49, 50, 53, 54, 55, 58, 59, 60, 61, 62, 65, 66, 67, 70, 71, 72, 73, 74, 77, 78, 79, 82, 83, 84, 85]
def kp_D_beginsWith : List Nat := [0, 1, 4, 5, 8, 9, 10, 13, 14, 15, 16, 17, 18, 19, 22, 25, 26, 29, 30, 32, 33, 34, 35, 36, 37, 40, 41, 42, 45, 46, 47, 50, 53, 54]
def kp_D_holds : List Nat := [0, 1, 3, 5, 6, 9, 12, 13, 16, 18, 19, 20, 23, 24, 27, 29, 30, 31, 34, 35, 38, 40, 41, 42, 45, 48, 49, 51, 52, 55, 58, 59, 60, 63, 66, 67]
def kp_D_presentCost : List Nat := [0, 1, 2, 5, 6, 7, 8, 9, 12, 13, 14, 15, 16, 19]
def kp_D_learn : List Nat := [0, 1, 4, 5, 6, 8, 11, 12, 13, 14, 17, 18, 19, 20, 21, 22, 23, 24]
def kp_D_sumOfUses : List Nat := [0, 1, 2, 3, 4, 5, 6, 9, 12, 13, 14, 17, 18, 19, 20, 21, 24, 27, 28]
def kp_H_keep : List Nat := [0, 1, 4, 5, 8, 9, 10, 11, 14, 15, 16, 17, 20, 21, 22, 25, 26, 29, 30, 33, 34, 37, 38, 39, 42, 43, 44, 47, 48, 49, 51, 54, 57]
def kp_H_bringBack : List Nat := [0, 1, 4, 7, 8, 11, 12, 15, 16, 17, 18, 19, 22, 23, 24, 25, 26, 29, 30, 33, 36, 37, 38, 39, 42, 43, 44, 47, 48, 49, 52, 53, 54, 57]
def kp_L_build : List Nat := [0, 1, 4, 5, 8, 9, 12, 13, 14, 15, 16, 19, 22, 25, 26, 27, 30, 31, 32, 33, 34, 35, 37, 38, 39, 42, 45, 48, 51, 54]
def kp_L_sortByLength : List Nat := [0, 1, 4, 7, 8, 9, 10, 12, 13, 14, 17, 18, 20, 22, 23, 26, 29, 30, 33, 35, 36, 37, 40, 41, 43, 46, 47, 50, 51, 53, 54, 57, 60, 63, 66, 69]
def kp_L_addEntriesAt : List Nat := [0, 1, 4, 7, 8, 9, 10, 11, 12, 15, 18, 19, 22, 23, 24, 26, 27, 30, 32, 33, 36, 39, 40, 41, 42, 43, 46, 48, 49, 50, 52, 53, 56, 58, 59, 60, 62, 65, 68, 71, 74]
def kp_L_addSlot : List Nat := [0, 1, 4, 5, 6, 8, 11, 12, 15, 16, 17, 20, 23, 24, 25, 27, 28, 29, 32, 33, 34, 35, 37, 38, 41, 43, 44, 45, 46, 49, 51, 52, 53, 54, 57, 59, 61, 62, 63, 66, 68, 70, 71, 72, 75, 76, 77, 78, 79, 80, 81]
def kp_L_stateBehind : List Nat := [0, 1, 4, 5, 6, 8, 9, 10, 13, 14, 15, 16]
def kp_M_copyFrom : List Nat := [0, 1, 4, 5, 8, 11, 12, 15, 16, 17, 20, 21, 22, 25, 26, 29, 30, 33, 34, 35, 38, 39, 41, 44, 45, 48, 49, 50, 53, 54, 56, 59, 60, 61, 64, 67, 68, 69, 72, 75]
def kp_M_takeInput : List Nat := [0, 1, 4, 6, 9, 10, 11, 14, 15, 16, 19, 20, 21, 24, 27, 28, 29, 32, 35, 36, 39, 40, 43]
def kp_M_connection : List Nat := [0, 1, 4, 5, 7, 8, 9, 10, 11]
def kp_M_standsAt : List Nat := [0, 1, 4, 7, 8, 9, 10, 11, 12, 13, 14, 17, 20, 21, 22, 23, 25, 27, 28, 31, 32, 35, 38, 39, 41, 42, 44, 45, 46, 47, 50, 51, 53, 54, 55, 58, 59, 60, 63, 66, 67]
def kp_M_allowsSegment : List Nat := [0, 1, 4, 5, 6, 7, 10, 11, 12, 13, 14, 15, 16, 17, 18, 21, 22, 25, 26, 27, 28, 31, 32, 33, 36, 39, 40]
def kp_R_build : List Nat := [0, 1, 4, 5, 8, 9, 12, 13, 16, 19, 20, 21, 22, 23, 26, 27, 28, 29, 31, 34, 35, 36, 37, 40, 43, 46, 49, 52]
def kp_R_findLeastTo : List Nat := [0, 1, 4, 6, 9, 10, 13, 15, 16, 17, 18, 19, 20, 21, 24, 27, 30, 31, 32, 33, 34, 37, 40, 41, 42, 45, 46, 48, 49, 50, 51, 52, 53, 56, 57, 60, 62, 63, 64, 65, 68, 71, 72, 73, 76, 77, 80, 83, 84, 85, 86, 88, 89, 92, 94, 95, 98, 100, 101, 103, 106, 107, 110, 113, 116, 119]
def kp_R_leastBefore : List Nat := [0, 2, 3, 4, 6, 8, 10, 13, 14, 17, 18, 20, 21, 23, 24, 25, 26, 29, 31, 32, 35, 36, 38, 39, 41, 44, 45, 48, 51, 52]
def kp_R_countPaths : List Nat := [0, 1, 4, 5, 8, 11, 12, 13, 14, 17, 20, 21, 22, 23, 24, 27, 28, 29, 30, 31, 32, 33, 36, 39, 40, 41, 44, 45, 46, 49, 50, 53, 56, 57, 59, 60, 61, 62, 63, 64, 67, 68, 71, 74, 75, 78, 79, 80, 81, 84, 87]
def kp_R_cappedSum : List Nat := [0, 1, 2, 3, 5, 8]
def kp_R_listEnds : List Nat := [0, 1, 4, 5, 8, 9, 10, 11, 13, 16, 17, 20, 23, 25, 26, 27, 28, 29, 30, 33, 34, 35, 37, 40, 41, 44, 45, 46, 47, 48, 51, 52, 54, 55, 56, 59, 60, 62, 65, 66, 67, 70, 71, 72, 73, 76, 79]
def kp_R_listState : List Nat := [0, 1, 3, 4, 5, 6, 7, 8, 11, 12, 13, 15, 18, 19, 20, 21, 22, 25, 26, 27, 28, 31, 32, 34, 36, 38, 41, 42, 43, 46, 48, 50, 53, 56, 57, 58, 59, 61, 64, 67, 70]
def kp_R_openHeads : List Nat := [0, 1, 2, 3, 4, 7, 10, 11, 12, 15, 16, 18, 19, 20, 21, 23, 24, 27, 28, 29, 32, 35, 37, 38, 41, 42, 45, 48, 50, 51, 52, 54, 55, 58, 59, 60, 61, 62, 65, 66, 68, 70, 71, 72, 75, 77, 80, 83, 84, 87, 88, 91, 94]
def kp_R_leastFrom : List Nat := [0, 1, 4, 5, 6, 9, 10, 13, 14, 16, 17, 18, 21, 23]
def kp_R_countBestWays : List Nat := [0, 1, 2, 5, 6, 7, 9, 10, 13, 14, 16, 18, 19, 22, 25, 26, 27, 30, 31, 34, 36, 37, 38, 41, 42, 43, 46, 48, 49, 52, 53, 56, 57, 59, 60, 62, 63, 66, 67, 70, 72, 75, 78, 79, 82, 83, 85, 86]
def kp_R_cheapestHead : List Nat := [0, 1, 2, 4, 5, 6, 8, 10, 11, 14, 17, 18, 19, 22, 23, 26, 28, 29, 30, 33, 34, 37, 39, 40, 41, 43, 44, 47, 50, 51]
def kp_R_takeHead : List Nat := [0, 1, 3, 4, 5, 8, 9, 10, 11, 13, 14, 16, 17, 18, 19, 21, 22, 25, 26, 27, 29, 30, 33, 35, 36, 39, 40, 41, 42, 43, 46, 48, 50, 51, 52, 55, 57, 59, 60, 61, 64, 65, 66, 67, 68, 69, 70, 71, 74, 76, 79, 81, 82, 85, 86, 88, 89, 90, 91, 93, 94, 95, 96, 99, 101, 102, 105, 107, 109, 110, 112, 113, 116, 117, 118, 119, 120, 123, 125, 127, 128, 129, 130, 131, 132, 135, 137, 139, 140, 141, 142, 143, 144, 147, 148, 151, 152, 154, 155]
def kp_R_allPaths : List Nat := [0, 1, 4, 5, 6]
def kp_R_bestPaths : List Nat := [0, 1, 4, 6, 7]
def kp_R_hasRank : List Nat := [0, 1, 2, 5, 7, 8, 11, 12, 15, 16]
def kp_R_costAtRank : List Nat := [0, 1, 4, 6, 7, 8, 9]
def kp_R_walk : List Nat := [0, 2, 3, 4, 5, 6, 8, 9, 10, 13, 15, 16, 19, 22, 25, 26, 29, 31, 34, 35, 37, 38, 39, 40, 42, 43, 46, 48, 49, 51, 52, 55, 56, 59, 61, 62, 63, 66, 67, 70, 71, 74, 77, 79, 80, 81, 82, 83, 86, 87, 88, 91, 92, 95, 97, 100, 101, 102, 105, 107, 108, 109, 110, 113, 116, 118, 119, 121, 124]
def kp_R_trailHolds : List Nat := [0, 1, 2, 3, 4, 7, 10, 11, 14, 15, 16, 17, 20, 21, 22, 25, 28, 29]
def kp_R_leastThroughSlot : List Nat := [0, 1, 2, 3, 6, 9, 10, 11, 14, 15, 18, 21, 22, 23, 24, 25, 26, 29, 30, 33, 36, 37]
def kp_R_leastThroughEntry : List Nat := [0, 1, 2, 3, 4, 7, 10, 11, 12, 15, 16, 18, 19, 20, 21, 23, 24, 27, 30, 32, 33, 34, 37, 39, 40, 41, 43, 46, 49, 50, 53, 56, 58]
def kp_R_leastEndingAt : List Nat := [0, 2, 3, 4, 5, 6, 8, 11, 12, 14, 15, 16, 17, 19, 20, 21, 24, 26, 27, 28, 30, 33, 34, 37, 38, 41, 44, 45]
def kp_R_leastCrossing : List Nat := [0, 2, 3, 4, 5, 6, 7, 10, 11, 13, 15, 16, 19, 22, 23, 24, 27, 28, 30, 31, 33, 34, 36, 37, 40, 43, 45, 46, 47, 50, 51, 52, 53, 55, 58, 61, 62, 65, 68, 71, 74, 75]
def kp_T_push : List Nat := [0, 1, 4, 6, 9, 10, 13, 14, 17, 18, 19, 20, 21, 24, 25, 26, 29]
def kp_T_readingError : List Nat := [0, 1, 4, 7, 8, 11, 12, 14, 17]
def kp_T_firstError : List Nat := [0, 1, 2, 3, 4, 7, 10, 11, 12, 15, 16, 19, 20, 21, 23, 25, 28, 31, 32, 33, 36, 39, 40]
def kp_C_appendCharacter : List Nat := [0, 1, 2, 5, 8, 11, 12, 13, 14, 17, 20, 22, 25, 27, 28, 29, 32, 33, 36, 37, 40, 43]
def kp_C_clearText : List Nat := [0, 1, 4, 7, 8, 9, 12, 13, 16, 17]
def kp_C_addEntry : List Nat := [0, 1, 2, 4, 7, 10, 11, 12, 13, 16, 19, 20, 21, 23, 26, 29, 30, 31, 32, 35, 38, 40, 42, 43, 46, 47, 48, 51, 54, 56, 57, 59, 62, 64, 67, 69, 70, 71, 74, 77, 79, 81, 82, 85, 87, 89, 90, 91, 92, 95, 97, 98, 101, 102, 103, 104, 107, 108, 111, 112, 115, 117, 120, 121, 122]
def kp_C_removeEntry : List Nat := [0, 1, 2, 5, 8, 9, 10, 11, 14, 15, 18, 21, 22, 25, 26, 29, 32, 35]
def kp_C_entryCount : List Nat := [0, 1, 4, 7, 10]
def kp_C_wordOf : List Nat := [0, 1, 2, 5, 8, 9, 10, 11, 14, 17, 20, 21, 22]
def kp_C_costOf : List Nat := [0, 1, 2, 5, 8, 9, 10, 11, 14, 17, 18, 21]
def kp_C_useCount : List Nat := [0, 1, 2, 5, 8, 9, 10, 11, 14, 17, 20, 21, 22]
def kp_C_entriesWithPrefix : List Nat := [0, 1, 4, 7, 8, 9, 10, 11, 12, 13, 14, 17, 20, 21, 22, 23, 26, 29, 32, 35, 38, 41, 42]
def kp_C_setConnection : List Nat := [0, 1, 2, 4, 7, 10, 11, 12, 14, 17, 20, 21, 22, 24, 27, 30, 31, 32, 33, 36, 37, 40, 41, 42, 45, 47, 48, 51, 54, 55, 57, 58, 59, 60, 61, 62, 64]
def kp_C_setUnknownCost : List Nat := [0, 1, 2, 5, 8, 11, 12, 13, 14, 17, 18, 21, 24, 25, 26, 29, 30, 33, 34]
def kp_C_setInput : List Nat := [0, 1, 4, 6, 9, 10, 11, 12, 15, 17, 18, 19, 20, 21, 24, 25, 28, 29, 32, 35, 36, 39, 40, 43, 44, 47, 50]
def kp_C_inputLength : List Nat := [0, 1, 4, 7]
def kp_C_setConstraint : List Nat := [0, 1, 2, 5, 8, 9, 10, 11, 14, 17, 18, 19, 20, 23, 24, 27, 30, 31, 32, 33, 34, 37, 40, 41, 42, 43, 44]
def kp_C_segmentsAt : List Nat := [0, 1, 2, 5, 8, 9, 10, 11, 12, 13, 14, 15, 16, 19, 22, 25, 28, 29, 32, 33, 34, 37, 40, 43, 46, 49, 50]
def kp_C_pathCount : List Nat := [0, 1, 4, 7]
def kp_C_pathCost : List Nat := [0, 1, 4, 7, 8, 9, 10, 13, 14, 15, 16, 19, 22, 23, 24, 27, 30, 32]
def kp_C_segmentCount : List Nat := [0, 1, 4, 7, 8, 9, 10, 13, 14, 15, 16, 19, 22, 24, 25, 26, 27, 30, 31, 34]
def kp_C_segmentStart : List Nat := [0, 1, 4, 7, 8, 11, 12, 13, 14, 15, 16, 19, 22, 23, 26, 29, 30, 31, 34, 36]
def kp_C_segmentEntry : List Nat := [0, 1, 4, 7, 8, 11, 12, 13, 14, 15, 16, 19, 22, 23, 26, 29, 30, 31, 34, 36]
def kp_C_bestThrough : List Nat := [0, 1, 2, 5, 8, 9, 10, 13, 16, 17, 18, 19, 22, 23, 24, 27, 28, 29, 31, 34, 35, 38, 40]
def kp_C_boundaryInBest : List Nat := [0, 1, 2, 5, 8, 9, 10, 11, 14, 15, 16, 17, 20, 21, 22, 23, 26, 28, 29, 31, 34, 36, 38, 41, 43, 44, 45, 47, 50, 51, 52, 53, 55, 58, 59, 62, 63]
def kp_C_bestCount : List Nat := [0, 1, 4, 7]
def kp_C_choose : List Nat := [0, 1, 4, 7, 8, 9, 10, 13, 14, 15, 16, 19, 22, 24, 25, 26, 27, 30, 31, 34, 35, 36, 37, 39, 41, 42, 45, 48, 51, 54, 55, 57, 60, 63, 64, 67, 70, 72, 75, 78, 81, 84, 87, 88]
def kp_C_forget : List Nat := [0, 1, 4, 7, 10, 11, 12, 15, 17, 18, 19, 22, 23, 26, 29, 32, 33, 36, 37]
def kp_C_undo : List Nat := [0, 1, 4, 7, 10, 12, 13, 14, 17, 18, 21, 24, 25, 26, 29, 30, 33, 36]
def kp_C_beginEdit : List Nat := [0, 1, 4, 5, 8, 11, 12, 13, 16]
def kp_C_presentPaths : List Nat := [0, 1, 4, 7, 8, 11, 14, 15, 18, 21, 22, 23, 26, 27, 30]
def kp_C_findSegment : List Nat := [0, 1, 4, 5, 6, 7, 10, 13, 14, 15, 16, 17, 20, 21, 22, 25, 28, 29, 32, 33]
def kp_C_isNoEntry : List Nat := [0, 1, 2, 3, 6, 9, 12, 13, 14, 17]
def kp_C_isNoGap : List Nat := [0, 1, 2, 3, 6, 9, 12]
def kp_C_isNoInnerGap : List Nat := [0, 1, 2, 3, 6, 9, 10, 11, 14]
def kp_C_isNoRank : List Nat := [0, 1, 2, 4, 7]
def kp_C_isOutside : List Nat := [0, 1, 2, 5, 6, 7, 10, 11, 14, 15]
def kp_F_in : List Nat := [0, 1, 2, 5, 6, 7, 10, 11, 14, 15]
def kp_F_save : List Nat := [0, 1, 4, 6, 9, 10, 11, 12, 15, 18, 19, 22, 23, 24, 27, 28, 31, 32, 33, 34, 37, 40, 41, 42, 45, 46, 47, 50, 51, 52, 53, 56, 59, 60, 63, 66, 67, 70, 71, 72, 73, 74, 77, 78, 79, 80, 83, 86, 87, 88, 91, 92, 93, 96, 97, 98, 101]
def kp_F_undo : List Nat := [0, 1, 4, 7, 9, 10, 11, 12, 15, 16, 17, 20, 21, 22, 23, 26, 29, 30, 33, 34, 35, 38, 41, 42, 45, 46, 47, 48, 49, 50, 53, 56, 57, 58, 61, 62, 65]
def kp_F_appendCharacter : List Nat := [0, 1, 2, 5, 8, 11, 12, 13, 14, 17, 19, 22, 24, 25, 26, 29, 30, 33, 34, 35, 36, 37, 40, 41, 42, 45, 46, 49]
def kp_F_clearText : List Nat := [0, 1, 4, 5, 6, 7, 10, 11]
def kp_F_fault : List Nat := [0, 1, 2, 3, 4, 7, 10, 11, 12, 15, 16, 19, 20, 21, 23, 25, 28, 31, 32, 33, 36, 39, 41]
def kp_F_at : List Nat := [0, 1, 3, 4, 5, 6]
def kp_F_isEntry : List Nat := [0, 1, 2, 3, 6, 7, 8, 9, 10, 13]
def kp_F_begins : List Nat := [0, 1, 4, 5, 8, 9, 12, 13, 16, 17, 20, 21, 22, 23, 24, 25, 26, 29, 32, 33, 36, 37, 40, 41, 42, 43, 46, 47, 50, 51, 52, 53, 54, 55, 58, 59, 62, 63, 64, 67, 70, 71]
def kp_F_addEntry : List Nat := [0, 1, 2, 4, 7, 10, 11, 12, 13, 16, 19, 20, 21, 23, 26, 29, 30, 31, 32, 34, 36, 37, 40, 41, 42, 45, 46, 49, 51, 54, 55, 56, 59, 62, 63, 65, 68, 71, 72, 75, 77, 80, 82, 83, 84, 85, 88, 89, 92, 94, 97, 99, 100, 101, 102, 105, 107, 108, 111, 114, 115, 118, 119, 120, 122, 125, 127, 128, 129, 132, 135, 136, 139, 140, 142, 145, 147, 149, 151, 154, 156, 158, 159, 160, 161, 164, 165, 168, 169, 170, 173, 175, 176, 179, 181, 182, 185, 186, 187, 189, 191, 193, 196, 197, 200, 202, 203, 204, 206, 207, 209, 210, 213, 216, 217, 220, 222, 223, 226, 227, 228, 231, 234, 235, 238, 240, 242, 243, 244, 245, 246, 249, 251, 253, 254, 255, 256, 257, 260, 262, 264, 265, 266, 267, 268, 271, 273, 275, 276, 277, 278, 279, 282, 283, 284, 285, 286, 287, 288, 289, 290, 293, 294, 297, 298, 299, 300, 301]
def kp_F_removeEntry : List Nat := [0, 1, 2, 5, 8, 9, 10, 11, 14, 15, 18, 19, 20, 21, 22, 23, 24, 25, 28, 29, 30, 31, 34, 35, 36, 39, 42, 43, 46, 47, 48, 51, 52, 54, 55, 56, 57, 60, 63, 64, 67, 68, 69]
def kp_F_entryCount : List Nat := [0, 1, 4, 5, 6]
def kp_F_wordOf : List Nat := [0, 1, 2, 5, 8, 9, 12, 13, 16, 18, 19, 20, 23, 24]
def kp_F_price : List Nat := [0, 1, 4, 5, 8, 10, 11, 12, 13, 14, 17, 18, 21, 23, 24, 25, 26, 27, 28, 29, 32, 33, 36, 37]
def kp_F_costOf : List Nat := [0, 1, 2, 5, 8, 9, 10, 13, 16, 17]
def kp_F_useCount : List Nat := [0, 1, 2, 5, 8, 9, 12, 13, 16, 18, 19, 20, 23, 24]
def kp_F_entriesWithPrefix : List Nat := [0, 1, 2, 3, 4, 5, 6, 9, 10, 11, 14, 15, 16, 17, 20, 23, 24, 27, 28, 29, 30, 33, 36, 37]
def kp_F_changed : List Nat := [0, 1, 4, 5, 8, 9, 10, 11, 12, 15, 16, 17, 18, 19]
def kp_F_setConnection : List Nat := [0, 1, 2, 4, 7, 10, 11, 12, 14, 17, 20, 21, 22, 24, 27, 30, 31, 34, 36, 37, 38, 39, 40, 41, 42, 45, 48, 49]
def kp_F_setUnknownCost : List Nat := [0, 1, 2, 5, 8, 11, 12, 15, 16, 19, 22, 23]
def kp_F_setInput : List Nat := [0, 1, 3, 6, 7, 8, 10, 13, 15, 16, 17, 18, 19, 22, 23, 26, 29, 30, 33, 34, 35, 36, 37, 39, 42, 43, 46, 49, 50, 51, 52, 53, 56, 59, 60, 63, 64, 65, 68, 69, 70, 73, 76, 77, 78, 79, 81, 84, 85, 88, 91, 92, 93, 94, 95, 98, 101, 102, 103, 106, 107, 110, 113, 114]
def kp_F_inputLength : List Nat := [0, 1, 4, 7, 8]
def kp_F_setConstraint : List Nat := [0, 1, 2, 3, 6, 9, 10, 11, 12, 15, 18, 19, 20, 21, 24, 27, 28, 31, 32, 33, 34, 37, 40, 41]
def kp_F_stands : List Nat := [0, 1, 4, 5, 8, 9, 10, 11, 12, 13, 14, 17, 20, 21, 24, 25, 28, 29, 31, 32, 34, 36, 37, 40, 42, 45, 46, 49, 50, 53, 54, 55, 57, 58, 59, 60, 63, 66, 67, 68, 70, 71, 72, 75, 76, 79, 80, 82, 85, 88, 90]
def kp_F_segmentsAt : List Nat := [0, 1, 2, 3, 6, 9, 10, 13, 16, 17, 18, 19, 20, 21, 22, 23, 24, 27, 28, 29, 32, 33, 34, 35, 36, 39, 42, 43, 46, 47, 48, 49, 52, 55, 56]
def kp_F_mayCover : List Nat := [0, 1, 2, 5, 8, 9, 12, 13, 16, 19, 20, 21, 22, 23, 26, 27, 30, 31, 32, 33, 34, 35, 37, 39, 40, 43, 44, 47, 48, 51, 54, 56, 57, 58, 59, 62, 63, 66, 67, 68, 71, 74, 75]
def kp_F_findSegments : List Nat := [0, 1, 2, 5, 7, 8, 9, 12, 13, 14, 15, 16, 19, 20, 21, 24, 25, 28, 29, 32, 33, 34, 37, 38, 39, 40, 43, 46, 47, 48, 49, 50, 51, 54, 57, 58, 61, 62, 65, 66, 67, 68, 69, 72, 73, 74, 77, 80, 83, 86, 89, 90, 91, 92, 93, 94, 97, 100, 101, 104, 105, 108, 110, 111, 112, 113, 116, 117, 118, 121]
def kp_F_endOf : List Nat := [0, 1, 3, 6, 7, 8, 9, 12, 13, 14, 17, 18, 21, 22, 23]
def kp_F_classOf : List Nat := [0, 1, 3, 6, 7, 10, 11, 14, 15, 18, 20, 21, 22]
def kp_F_segmentCost : List Nat := [0, 1, 3, 6, 7, 10, 13, 14, 17, 18, 19, 22]
def kp_F_between : List Nat := [0, 1, 4, 7, 9, 10, 11, 12, 13, 14, 15]
def kp_F_capped : List Nat := [0, 1, 2, 3, 5, 8, 10, 13, 14, 15, 16]
def kp_F_insert : List Nat := [0, 1, 4, 5, 6, 8, 10, 12, 15, 16, 17, 20, 22, 23, 24, 26, 27, 28, 29, 30, 33, 34, 36, 38, 41, 43, 46, 48, 50, 52, 55, 56, 59, 61, 62, 63, 65, 66, 67, 68, 69, 70, 73, 74, 77, 79, 80, 81, 83, 84, 85, 88, 90, 91, 92, 94, 95, 96, 97, 98, 99, 100, 103, 105, 106, 107, 109, 110, 111, 114, 116, 117, 118, 120, 121, 122, 123, 124, 125, 126, 129, 131, 132, 133, 135, 136, 137, 140, 142, 143, 144, 146, 147, 148, 149, 150, 151, 154, 157, 158, 161, 163, 164, 165, 167, 168, 169, 170, 171, 174, 176, 177, 178, 180, 181, 182, 183, 184, 187, 189, 190, 191, 193, 194, 196, 197, 198, 201, 202, 204, 206, 209, 211, 212, 213, 216, 218, 219]
def kp_F_layPlace : List Nat := [0, 2, 3, 4, 5, 6, 7, 8, 11, 12, 13, 14, 15, 18, 19, 20, 21, 22, 24, 26, 27, 30, 33, 34, 37, 39, 40, 42, 44, 45, 47, 48, 51, 52, 53, 55, 58, 59, 61, 62, 63, 64, 66, 69, 72, 73, 75, 78, 79, 81, 82, 84, 86, 87, 90, 92, 93, 96, 97, 98, 100, 101, 104, 106, 108, 109, 111, 112, 113, 114, 116, 118, 121, 124, 127, 130, 133, 134, 136, 138, 139, 142, 145, 146, 149, 151, 152, 154, 156, 157, 159, 160, 163, 164, 165, 167, 170, 171, 173, 174, 175, 176, 178, 181, 184, 185, 187, 190, 191, 193, 194, 197, 199, 200, 203, 205, 206, 209, 211, 213, 214, 215, 216, 217, 220, 222, 223, 224, 225, 228, 229, 232, 233, 235, 236, 239, 240, 242, 245, 246, 249, 250, 251, 252, 255, 257, 258, 261, 264, 265, 268, 269, 270, 271, 274, 277]
def kp_F_lay : List Nat := [0, 1, 4, 7, 8, 9, 12, 15, 16, 17, 18, 19, 20, 22, 25, 27, 28, 29, 30, 31, 32, 33, 36, 37, 38, 39, 40, 43, 45, 46, 47, 48, 49, 51, 54, 55, 56, 59, 61, 62, 63, 65, 66, 67, 70, 71, 72, 73, 76, 79, 80, 83, 84, 85, 86, 87, 88, 89, 90, 91, 94, 95, 96, 99, 100, 103, 104, 105, 106, 107, 108, 109, 110, 113, 116, 117, 120, 121, 122, 125, 126, 127, 128, 131, 132, 133, 136, 137, 138, 139, 142, 143, 146, 147, 150, 153, 154, 155, 156, 158, 161, 162, 163, 164, 167, 170, 173, 176, 179, 180, 181, 184]
def kp_F_pathCount : List Nat := [0, 1, 4, 5, 8, 9, 10]
def kp_F_pathCost : List Nat := [0, 1, 2, 4, 7, 10, 11, 12, 13, 16, 17, 18, 21, 23, 24, 27, 28, 31, 33, 34, 35, 36, 39, 41]
def kp_F_follow : List Nat := [0, 1, 4, 5, 6, 9, 10, 11, 14, 16, 17, 20, 21, 22, 23, 24, 26, 27, 28, 29, 30, 31, 34, 37, 38, 41, 42, 45, 46, 47, 49, 50, 53, 54, 57, 58, 59, 60, 63, 64, 67, 69, 70, 71, 72, 75, 76, 77, 80, 81, 83, 84, 87, 88, 90, 92, 93, 94, 95, 97, 100, 101, 102, 103, 106, 107, 108, 109, 110, 113, 114]
def kp_F_segmentCount : List Nat := [0, 1, 2, 4, 7, 10, 11, 12, 13, 14, 17, 20, 21, 24, 27, 29]
def kp_F_segmentStart : List Nat := [0, 1, 2, 4, 7, 10, 11, 14, 15, 16, 17, 18, 21, 24, 25, 26, 29, 32, 33, 36, 37, 38, 41, 43]
def kp_F_segmentEntry : List Nat := [0, 1, 2, 4, 7, 10, 11, 14, 15, 16, 17, 18, 21, 24, 25, 26, 29, 32, 33, 36, 37, 38, 41, 43]
def kp_F_layAhead : List Nat := [0, 1, 2, 3, 5, 8, 9, 12, 13, 15, 16, 19, 22, 23, 26, 28, 29, 30, 31, 32, 33, 34, 37, 40, 41, 44, 45, 46, 49, 50, 51, 52, 53, 56, 59, 60, 63, 64, 65, 66, 68, 69, 70, 71, 74, 75, 76, 77, 80, 81, 83, 84, 86, 88, 90, 93, 94, 97, 99, 100, 101, 103, 104, 105, 106, 108, 109, 110, 113, 116, 117, 118, 119, 122, 123, 125, 126, 129, 131, 133, 134, 137, 139, 140, 143, 145, 148, 149, 152, 154, 155, 156, 159, 162, 165, 168, 171, 174]
def kp_F_bestThrough : List Nat := [0, 1, 2, 5, 8, 9, 10, 11, 14, 17, 18, 21, 24, 25, 26, 27, 28, 29, 32, 35, 36, 37, 38, 39, 40, 43, 46, 49, 51, 52, 53, 56, 57, 60, 62, 63, 64, 65, 68, 69, 70, 71, 74, 75, 76, 78, 80, 81, 83, 85, 87, 90, 91, 94, 96, 97, 98, 100, 101, 102, 103, 105, 106, 107, 110, 113, 114, 116, 118, 120, 123, 125, 128, 130, 132, 135, 138, 140, 142, 145, 146, 149, 150, 151, 154, 156, 159, 161, 162, 163, 166, 167, 168, 171, 173, 174, 175, 176, 177]
def kp_F_boundaryInBest : List Nat := [0, 1, 2, 3, 6, 9, 10, 11, 12, 15, 18, 19, 20, 21, 24, 25, 28, 30, 31, 34, 36, 37, 38, 39, 40, 42, 45, 46, 49, 50, 51, 53, 56, 57, 60, 61, 62, 65, 68, 69, 70, 71, 72, 73, 75, 77, 79, 80, 83, 86, 87, 88, 91, 92, 95, 97, 98, 101, 104, 106, 108, 109, 111, 112, 115, 117, 118, 121, 122, 125, 126, 127, 128, 130, 133, 134, 136, 138, 139, 142, 145, 146, 149, 151, 152, 154, 156, 157, 159, 161, 164, 165, 166, 168, 171, 172, 174, 175, 177, 179, 180, 181, 183, 186, 189, 190, 192, 195, 196, 198, 199, 202, 204, 205, 208, 210, 211, 214, 216, 218, 219, 220, 221, 222, 225, 227, 229, 230, 231, 234, 235, 238, 240, 241, 242, 243, 246, 248, 249, 252, 253, 255, 257, 260, 261, 264, 265, 268, 269, 270, 273, 276, 279, 282, 283, 286, 287, 290, 291, 294, 295, 298, 299]
def kp_F_bestCount : List Nat := [0, 1, 4, 5, 8, 10, 11, 14, 15, 18, 19, 22, 24, 25]
def kp_F_choose : List Nat := [0, 1, 2, 4, 7, 10, 11, 12, 13, 14, 17, 20, 22, 23, 24, 27, 28, 29, 30, 31, 32, 33, 36, 39, 40, 43, 44, 45, 47, 50, 51, 54, 55, 57, 58, 60, 62, 63, 66, 68, 71, 72, 75, 77, 78, 79, 82, 83, 84, 87, 88, 91, 92, 94, 97, 100, 102, 105, 106, 109, 110, 113, 114, 115, 118, 120, 121, 122, 124, 127, 128, 131, 132, 135, 136, 137, 140, 142, 143, 144, 145, 146, 147, 148, 151, 154, 157, 158]
def kp_F_forget : List Nat := [0, 1, 2, 3, 4, 5, 6, 9, 10, 11, 14, 15, 16, 19, 20, 23, 25, 26, 27, 28, 29, 32, 35, 36, 39, 41, 42, 43, 46, 47, 48, 49, 50, 53, 54, 55, 58, 59, 62, 63, 66, 68, 69, 70, 71, 74, 77, 78]
def kp_J_fill : List Nat := [0, 1, 2, 3, 4, 5, 6, 7, 10, 11, 12, 13, 14, 17, 20]
def jx_mt : List jxR := [(yX0_copyFrom, prog_2_method_2_code, 2, none, 0, 1, kp_D_copyFrom),
  (yX0_append, prog_2_method_3_code, 6, none, 0, 4, kp_D_append),
  (yX0_drop, prog_2_method_4_code, 3, none, 0, 1, kp_D_drop),
  (yX0_moveDown, prog_2_method_5_code, 3, none, 0, 1, kp_D_moveDown),
  (yX0_beginsWith, prog_2_method_6_code, 4, (some .boolean), 0, 2, kp_D_beginsWith),
  (yX0_holds, prog_2_method_7_code, 5, (some .boolean), 0, 3, kp_D_holds),
  (yX0_presentCost, prog_2_method_8_code, 2, (some .int), 0, 1, kp_D_presentCost),
  (yX0_learn, prog_2_method_9_code, 2, (some .boolean), 0, 1, kp_D_learn),
  (yX0_sumOfUses, prog_2_method_10_code, 3, (some .int), 0, 0, kp_D_sumOfUses),
  (yX1_keep, prog_3_method_2_code, 3, none, 1, 1, kp_H_keep),
  (yX1_bringBack, prog_3_method_3_code, 4, none, 1, 1, kp_H_bringBack),
  (yX2_build, prog_4_method_2_code, 2, none, 2, 0, kp_L_build),
  (yX2_sortByLength, prog_4_method_3_code, 5, none, 2, 0, kp_L_sortByLength),
  (yX2_addEntriesAt, prog_4_method_4_code, 5, none, 2, 1, kp_L_addEntriesAt),
  (yX2_addSlot, prog_4_method_5_code, 7, none, 2, 5, kp_L_addSlot),
  (yX2_stateBehind, prog_4_method_6_code, 2, (some .int), 2, 1, kp_L_stateBehind),
  (yX3_copyFrom, prog_5_method_2_code, 2, none, 3, 1, kp_M_copyFrom),
  (yX3_takeInput, prog_5_method_3_code, 2, none, 3, 1, kp_M_takeInput),
  (yX3_connection, prog_5_method_4_code, 3, (some .int), 3, 2, kp_M_connection),
  (yX3_standsAt, prog_5_method_5_code, 5, (some .boolean), 3, 2, kp_M_standsAt),
  (yX3_allowsSegment, prog_5_method_6_code, 4, (some .boolean), 3, 2, kp_M_allowsSegment),
  (yX4_build, prog_6_method_2_code, 3, none, 4, 0, kp_R_build),
  (yX4_findLeastTo, prog_6_method_3_code, 6, none, 4, 0, kp_R_findLeastTo),
  (yX4_leastBefore, prog_6_method_4_code, 6, (some .int), 4, 2, kp_R_leastBefore),
  (yX4_countPaths, prog_6_method_5_code, 4, none, 4, 0, kp_R_countPaths),
  (yX4_cappedSum, prog_6_method_6_code, 2, (some .int), 4, 2, kp_R_cappedSum),
  (yX4_listEnds, prog_6_method_7_code, 3, none, 4, 0, kp_R_listEnds),
  (yX4_listState, prog_6_method_8_code, 6, none, 4, 2, kp_R_listState),
  (yX4_openHeads, prog_6_method_9_code, 6, none, 4, 2, kp_R_openHeads),
  (yX4_leastFrom, prog_6_method_10_code, 2, (some .int), 4, 1, kp_R_leastFrom),
  (yX4_countBestWays, prog_6_method_11_code, 6, none, 4, 2, kp_R_countBestWays),
  (yX4_cheapestHead, prog_6_method_12_code, 5, (some .int), 4, 1, kp_R_cheapestHead),
  (yX4_takeHead, prog_6_method_13_code, 9, none, 4, 3, kp_R_takeHead),
  (yX4_allPaths, prog_6_method_14_code, 1, (some .int), 4, 0, kp_R_allPaths),
  (yX4_bestPaths, prog_6_method_15_code, 1, (some .int), 4, 0, kp_R_bestPaths),
  (yX4_hasRank, prog_6_method_16_code, 2, (some .boolean), 4, 1, kp_R_hasRank),
  (yX4_costAtRank, prog_6_method_17_code, 2, (some .int), 4, 1, kp_R_costAtRank),
  (yX4_walk, prog_6_method_18_code, 7, none, 4, 1, kp_R_walk),
  (yX4_trailHolds, prog_6_method_19_code, 3, (some .boolean), 4, 1, kp_R_trailHolds),
  (yX4_leastThroughSlot, prog_6_method_20_code, 3, (some .int), 4, 2, kp_R_leastThroughSlot),
  (yX4_leastThroughEntry, prog_6_method_21_code, 5, (some .int), 4, 2, kp_R_leastThroughEntry),
  (yX4_leastEndingAt, prog_6_method_22_code, 5, (some .int), 4, 1, kp_R_leastEndingAt),
  (yX4_leastCrossing, prog_6_method_23_code, 6, (some .int), 4, 1, kp_R_leastCrossing),
  (yX5_push, prog_7_method_2_code, 2, none, 5, 1, kp_T_push),
  (yX5_readingError, prog_7_method_3_code, 1, (some .int), 5, 0, kp_T_readingError),
  (yX5_firstError, prog_7_method_4_code, 3, (some .int), 5, 1, kp_T_firstError),
  (yX6_appendCharacter, prog_1_method_2_code, 2, (some .int), 6, 1, kp_C_appendCharacter),
  (yX6_clearText, prog_1_method_3_code, 2, (some .int), 6, 0, kp_C_clearText),
  (yX6_addEntry, prog_1_method_4_code, 6, (some .int), 6, 3, kp_C_addEntry),
  (yX6_removeEntry, prog_1_method_5_code, 2, (some .int), 6, 1, kp_C_removeEntry),
  (yX6_entryCount, prog_1_method_6_code, 1, (some .int), 6, 0, kp_C_entryCount),
  (yX6_wordOf, prog_1_method_7_code, 2, (some .int), 6, 1, kp_C_wordOf),
  (yX6_costOf, prog_1_method_8_code, 2, (some .int), 6, 1, kp_C_costOf),
  (yX6_useCount, prog_1_method_9_code, 2, (some .int), 6, 1, kp_C_useCount),
  (yX6_entriesWithPrefix, prog_1_method_10_code, 4, (some .int), 6, 0, kp_C_entriesWithPrefix),
  (yX6_setConnection, prog_1_method_11_code, 5, (some .int), 6, 3, kp_C_setConnection),
  (yX6_setUnknownCost, prog_1_method_12_code, 3, (some .int), 6, 1, kp_C_setUnknownCost),
  (yX6_setInput, prog_1_method_13_code, 2, (some .int), 6, 0, kp_C_setInput),
  (yX6_inputLength, prog_1_method_14_code, 1, (some .int), 6, 0, kp_C_inputLength),
  (yX6_setConstraint, prog_1_method_15_code, 4, (some .int), 6, 2, kp_C_setConstraint),
  (yX6_segmentsAt, prog_1_method_16_code, 4, (some .int), 6, 1, kp_C_segmentsAt),
  (yX6_pathCount, prog_1_method_17_code, 1, (some .int), 6, 0, kp_C_pathCount),
  (yX6_pathCost, prog_1_method_18_code, 3, (some .int), 6, 1, kp_C_pathCost),
  (yX6_segmentCount, prog_1_method_19_code, 3, (some .int), 6, 1, kp_C_segmentCount),
  (yX6_segmentStart, prog_1_method_20_code, 3, (some .int), 6, 2, kp_C_segmentStart),
  (yX6_segmentEntry, prog_1_method_21_code, 3, (some .int), 6, 2, kp_C_segmentEntry),
  (yX6_bestThrough, prog_1_method_22_code, 4, (some .int), 6, 2, kp_C_bestThrough),
  (yX6_boundaryInBest, prog_1_method_23_code, 5, (some .int), 6, 1, kp_C_boundaryInBest),
  (yX6_bestCount, prog_1_method_24_code, 1, (some .int), 6, 0, kp_C_bestCount),
  (yX6_choose, prog_1_method_25_code, 5, (some .int), 6, 1, kp_C_choose),
  (yX6_forget, prog_1_method_26_code, 2, (some .int), 6, 0, kp_C_forget),
  (yX6_undo, prog_1_method_27_code, 1, (some .int), 6, 0, kp_C_undo),
  (yX6_beginEdit, prog_1_method_28_code, 1, none, 6, 0, kp_C_beginEdit),
  (yX6_presentPaths, prog_1_method_29_code, 1, (some (.object "ReadingConverter$Ranking")), 6, 0, kp_C_presentPaths),
  (yX6_findSegment, prog_1_method_30_code, 4, (some .boolean), 6, 2, kp_C_findSegment),
  (yX6_isNoEntry, prog_1_method_31_code, 2, (some .boolean), 6, 1, kp_C_isNoEntry),
  (yX6_isNoGap, prog_1_method_32_code, 2, (some .boolean), 6, 1, kp_C_isNoGap),
  (yX6_isNoInnerGap, prog_1_method_33_code, 2, (some .boolean), 6, 1, kp_C_isNoInnerGap),
  (yX6_isNoRank, prog_1_method_34_code, 1, (some .boolean), 6, 1, kp_C_isNoRank),
  (yX6_isOutside, prog_1_method_35_code, 3, (some .boolean), 6, 3, kp_C_isOutside),
  (yX7_in, prog_9_method_3_code, 3, (some .boolean), 7, 3, kp_F_in),
  (yX7_save, prog_9_method_4_code, 2, none, 7, 0, kp_F_save),
  (yX7_undo, prog_9_method_5_code, 2, (some .int), 7, 0, kp_F_undo),
  (yX7_appendCharacter, prog_9_method_6_code, 2, (some .int), 7, 1, kp_F_appendCharacter),
  (yX7_clearText, prog_9_method_7_code, 2, (some .int), 7, 0, kp_F_clearText),
  (yX7_fault, prog_9_method_8_code, 3, (some .int), 7, 1, kp_F_fault),
  (yX7_at, prog_9_method_9_code, 1, (some .int), 7, 1, kp_F_at),
  (yX7_isEntry, prog_9_method_10_code, 2, (some .boolean), 7, 1, kp_F_isEntry),
  (yX7_begins, prog_9_method_11_code, 4, (some .boolean), 7, 1, kp_F_begins),
  (yX7_addEntry, prog_9_method_12_code, 7, (some .int), 7, 3, kp_F_addEntry),
  (yX7_removeEntry, prog_9_method_13_code, 3, (some .int), 7, 1, kp_F_removeEntry),
  (yX7_entryCount, prog_9_method_14_code, 1, (some .int), 7, 0, kp_F_entryCount),
  (yX7_wordOf, prog_9_method_15_code, 2, (some .int), 7, 1, kp_F_wordOf),
  (yX7_price, prog_9_method_16_code, 3, (some .int), 7, 1, kp_F_price),
  (yX7_costOf, prog_9_method_17_code, 2, (some .int), 7, 1, kp_F_costOf),
  (yX7_useCount, prog_9_method_18_code, 2, (some .int), 7, 1, kp_F_useCount),
  (yX7_entriesWithPrefix, prog_9_method_19_code, 3, (some .int), 7, 0, kp_F_entriesWithPrefix),
  (yX7_changed, prog_9_method_20_code, 4, (some .int), 7, 2, kp_F_changed),
  (yX7_setConnection, prog_9_method_21_code, 4, (some .int), 7, 3, kp_F_setConnection),
  (yX7_setUnknownCost, prog_9_method_22_code, 2, (some .int), 7, 1, kp_F_setUnknownCost),
  (yX7_setInput, prog_9_method_23_code, 3, (some .int), 7, 0, kp_F_setInput),
  (yX7_inputLength, prog_9_method_24_code, 1, (some .int), 7, 0, kp_F_inputLength),
  (yX7_setConstraint, prog_9_method_25_code, 3, (some .int), 7, 2, kp_F_setConstraint),
  (yX7_stands, prog_9_method_26_code, 6, (some .boolean), 7, 2, kp_F_stands),
  (yX7_segmentsAt, prog_9_method_27_code, 4, (some .int), 7, 1, kp_F_segmentsAt),
  (yX7_mayCover, prog_9_method_28_code, 5, (some .boolean), 7, 2, kp_F_mayCover),
  (yX7_findSegments, prog_9_method_29_code, 4, none, 7, 1, kp_F_findSegments),
  (yX7_endOf, prog_9_method_30_code, 3, (some .int), 7, 2, kp_F_endOf),
  (yX7_classOf, prog_9_method_31_code, 2, (some .int), 7, 1, kp_F_classOf),
  (yX7_segmentCost, prog_9_method_32_code, 2, (some .int), 7, 1, kp_F_segmentCost),
  (yX7_between, prog_9_method_33_code, 3, (some .int), 7, 2, kp_F_between),
  (yX7_capped, prog_9_method_34_code, 2, (some .int), 7, 2, kp_F_capped),
  (yX7_insert, prog_9_method_35_code, 7, none, 7, 4, kp_F_insert),
  (yX7_layPlace, prog_9_method_36_code, 9, none, 7, 2, kp_F_layPlace),
  (yX7_lay, prog_9_method_37_code, 4, none, 7, 0, kp_F_lay),
  (yX7_pathCount, prog_9_method_38_code, 1, (some .int), 7, 0, kp_F_pathCount),
  (yX7_pathCost, prog_9_method_39_code, 2, (some .int), 7, 1, kp_F_pathCost),
  (yX7_follow, prog_9_method_40_code, 5, (some .boolean), 7, 1, kp_F_follow),
  (yX7_segmentCount, prog_9_method_41_code, 2, (some .int), 7, 1, kp_F_segmentCount),
  (yX7_segmentStart, prog_9_method_42_code, 3, (some .int), 7, 2, kp_F_segmentStart),
  (yX7_segmentEntry, prog_9_method_43_code, 3, (some .int), 7, 2, kp_F_segmentEntry),
  (yX7_layAhead, prog_9_method_44_code, 7, none, 7, 0, kp_F_layAhead),
  (yX7_bestThrough, prog_9_method_45_code, 7, (some .int), 7, 2, kp_F_bestThrough),
  (yX7_boundaryInBest, prog_9_method_46_code, 10, (some .int), 7, 1, kp_F_boundaryInBest),
  (yX7_bestCount, prog_9_method_47_code, 1, (some .int), 7, 0, kp_F_bestCount),
  (yX7_choose, prog_9_method_48_code, 6, (some .int), 7, 1, kp_F_choose),
  (yX7_forget, prog_9_method_49_code, 3, (some .int), 7, 0, kp_F_forget),
  (yJ7_fill_53178, prog_12_method_103_code, 4, none, 8, 2, kp_J_fill)]
def jx_m (y : Nat) : jxR := (jx_mt[y]?).getD (⟨"", "", ""⟩, ⟨#[]⟩, 0, none, 0, 0, [])
/-- the pure instruction is the one that stands in the code -/
def jx_xok (o : Nat) (bz : Bool) (pcs : List Nat) (k : Nat) (ins : Instr) (len : Nat) (x : jxI) : Bool :=
  let nx := (pcs.getD (k + 1) 0 == pcs.getD k 0 + len)
  let tg := fun (off : Int) => ((pcs.getD k 0 : Int) + off == (pcs.getD x.2.1 0 : Int))
  match ins with
  | .iconst n => x == (0, 0, 0, n) && len == 1 && nx && decide (-1 ≤ n ∧ n ≤ 5)
  | .bipush n => x == (0, 0, 0, n) && len == 2 && nx && ((Int8.ofInt n).toInt32 == Int32.ofInt n)
  | .sipush n => x == (0, 0, 0, n) && len == 3 && nx && ((Int16.ofInt n).toInt32 == Int32.ofInt n)
  | .ldc i => x == (0, 0, 0, x.2.2.2) && len == 2 && nx && jx_cs.any (fun q => q.1 == o && q.2.1 == i && q.2.2.1 == x.2.2.2)
  | .iload_n i => x == (1, i.val, 0, 0) && len == 1 && nx
  | .iload i => x == (1, i, 0, 0) && len == 2 && nx
  | .aload_n i => x == (1, i.val, 1, 0) && len == 1 && nx
  | .aload i => x == (1, i, 1, 0) && len == 2 && nx
  | .istore_n i => x == (2, i.val, 0, 0) && len == 1 && nx
  | .istore i => x == (2, i, 0, 0) && len == 2 && nx
  | .astore_n i => x == (2, i.val, 1, 0) && len == 1 && nx
  | .astore i => x == (2, i, 1, 0) && len == 2 && nx
  | .iinc i n => x == (3, i, 0, n) && len == 3 && nx
  | .iadd => x == (4, 0, 0, 0) && len == 1 && nx
  | .isub => x == (5, 0, 0, 0) && len == 1 && nx
  | .imul => x == (6, 0, 0, 0) && len == 1 && nx
  | .idiv => x == (7, 0, 0, 0) && len == 1 && nx
  | .irem => x == (8, 0, 0, 0) && len == 1 && nx
  | .dup => x == (9, 0, 0, 0) && len == 1 && nx
  | .dup2 => x == (10, 0, 0, 0) && len == 1 && nx
  | .goto off => x == (11, x.2.1, 0, 0) && len == 3 && tg off
  | .ifCond .eq off => x == (12, x.2.1, 0, 0) && len == 3 && nx && tg off
  | .ifCond .ne off => x == (12, x.2.1, 1, 0) && len == 3 && nx && tg off
  | .ifCond .lt off => x == (12, x.2.1, 2, 0) && len == 3 && nx && tg off
  | .ifCond .ge off => x == (12, x.2.1, 3, 0) && len == 3 && nx && tg off
  | .ifCond .gt off => x == (12, x.2.1, 4, 0) && len == 3 && nx && tg off
  | .ifCond .le off => x == (12, x.2.1, 5, 0) && len == 3 && nx && tg off
  | .if_icmp .eq off => x == (13, x.2.1, 0, 0) && len == 3 && nx && tg off
  | .if_icmp .ne off => x == (13, x.2.1, 1, 0) && len == 3 && nx && tg off
  | .if_icmp .lt off => x == (13, x.2.1, 2, 0) && len == 3 && nx && tg off
  | .if_icmp .ge off => x == (13, x.2.1, 3, 0) && len == 3 && nx && tg off
  | .if_icmp .gt off => x == (13, x.2.1, 4, 0) && len == 3 && nx && tg off
  | .if_icmp .le off => x == (13, x.2.1, 5, 0) && len == 3 && nx && tg off
  | .getfield i => x == (14, x.2.1, x.2.2.1, 0) && len == 3 && nx && jx_fl.any (fun q => q.1 == o && q.2.1 == i && q.2.2.1 == x.2.1 && q.2.2.2.1 == x.2.2.1)
  | .putfield i => x == (15, x.2.1, x.2.2.1, x.2.2.2) && len == 3 && nx && jx_pl.any (fun q => q.1 == o && q.2.1 == i && q.2.2.1 == x.2.1 && q.2.2.2.1 == x.2.2.1 && q.2.2.2.2.1 == x.2.2.2)
  | .iaload => x == (16, 0, 0, 0) && len == 1 && nx
  | .iastore => x == (17, 0, 0, 0) && len == 1 && nx
  | .arraylength => x == (18, 0, 0, 0) && len == 1 && nx
  | .aaload => x == (19, 0, 0, 0) && len == 1 && nx
  | .baload => x == (20, 0, 0, 0) && len == 1 && nx
  | .bastore => x == (21, 0, 0, 0) && len == 1 && nx
  | .ifnull _ => x == (22, x.2.1, 0, 0) && len == 3 && nx
  | .ifnonnull off => x == (23, x.2.1, 0, 0) && len == 3 && tg off
  | .invokestatic i => (x == (24, x.2.1, (jx_m x.2.1).2.2.2.2.2.1, 0) && len == 3 && nx && (jx_ml.any (fun q => q.1 == o && q.2.1 == i && q.2.2.1 == x.2.1 && q.2.2.2.1 == 1) || decide (jx_nest = (o, i, x.2.1)))) ||
      (x == (26, 0, 0, 0) && len == 3 && nx && jx_cpl.any (fun q => q.1 == o && q.2.1 == i)) ||
      (x == (30, 0, 0, 0) && len == 3 && nx && jx_maxl.any (fun q => q.1 == o && q.2.1 == i)) ||
      (x == (31, 0, 0, 0) && len == 3 && nx && jx_minl.any (fun q => q.1 == o && q.2.1 == i))
  | .invokevirtual i => x == (25, x.2.1, (jx_m x.2.1).2.2.2.2.2.1, ((jx_m x.2.1).2.2.2.2.1 : Int)) && len == 3 && nx && jx_ml.any (fun q => q.1 == o && q.2.1 == i && q.2.2.1 == x.2.1 && q.2.2.2.1 == 0)
  | .ireturn => x == (27, if bz then 1 else 0, 0, 0) && len == 1
  | .return_ => x == (28, 0, 0, 0) && len == 1
  | .areturn => x == (29, 0, 0, 0) && len == 1
  | _ => false
def jx_chk (y : Nat) : Bool := (List.range (jx_T y).2.length).all (fun k => match decode (jx_m y).2.1 ((jx_m y).2.2.2.2.2.2.getD k 0) with
  | .ok (ins, len) => jx_xok (jx_m y).2.2.2.2.1 (decide ((jx_m y).2.2.2.1 = some .boolean)) (jx_m y).2.2.2.2.2.2 k ins len ((jx_T y).2.getD k (99, 0, 0, 0))
  | _ => false)
theorem jx_gin {w : Cond} (j : Nat) (h : lw_tbl[j]? = some w) (hg : goodWord w = true) : w ∈ jx_gw := List.mem_filter.mpr ⟨List.mem_of_getElem? h, hg⟩
theorem jx_fl_ok : jx_fl.all (fun q => decide (lw_tbl[q.2.2.2.2]? = some (Cond.fieldLink (jx_cn q.1) q.2.1 (jx_F q.2.2.1 q.2.2.2.1).1 (jx_F q.2.2.1 q.2.2.2.1).2.1 (jx_F q.2.2.1 q.2.2.2.1).2.2.1)) && decide (q.2.2.2.1 < jx_N q.2.2.1)) = true := by decide +kernel
theorem jx_pl_ok : jx_pl.all (fun q => decide (lw_tbl[q.2.2.2.2.2]? = some (Cond.fieldLink (jx_cn q.1) q.2.1 (jx_F q.2.2.1 q.2.2.2.1).1 (jx_F q.2.2.1 q.2.2.2.1).2.1 (jx_F q.2.2.1 q.2.2.2.1).2.2.1)) && decide (q.2.2.2.1 < jx_N q.2.2.1) && decide ((jx_F q.2.2.1 q.2.2.2.1).2.2.2 = false) && decide (parseFieldDescriptor (jx_F q.2.2.1 q.2.2.2.1).2.2.1 = some (if q.2.2.2.2.1 = 1 then .boolean else .int))) = true := by decide +kernel
theorem jx_cs_ok : jx_cs.all (fun q => decide (lw_tbl[q.2.2.2]? = some (Cond.constant (jx_cn q.1) q.2.1 (Int32.ofInt q.2.2.1))) && decide (jx_r q.2.2.1)) = true := by decide +kernel
theorem jx_cpl_ok : jx_cpl.all (fun q => decide (lw_tbl[q.2.2]? = some (Cond.methodLink (jx_cn q.1) q.2.1 arraycopyName))) = true := by decide +kernel
theorem jx_maxl_ok : jx_maxl.all (fun q => decide (lw_tbl[q.2.2]? = some (Cond.methodLink (jx_cn q.1) q.2.1 Lib.Math.max.name))) = true := by decide +kernel
theorem jx_minl_ok : jx_minl.all (fun q => decide (lw_tbl[q.2.2]? = some (Cond.methodLink (jx_cn q.1) q.2.1 Lib.Math.min.name))) = true := by decide +kernel
theorem jx_max_w : Cond.static Lib.Math.max.name ∈ jx_gw ∧ Cond.code Lib.Math.max.name Lib.Math.max.code 2 (some .int) ∈ jx_gw := ⟨jx_gin 368 (by decide +kernel) rfl, jx_gin 369 (by decide +kernel) rfl⟩
theorem jx_min_w : Cond.static Lib.Math.min.name ∈ jx_gw ∧ Cond.code Lib.Math.min.name Lib.Math.min.code 2 (some .int) ∈ jx_gw := ⟨jx_gin 329 (by decide +kernel) rfl, jx_gin 330 (by decide +kernel) rfl⟩
theorem jx_math_w : Cond.initialized "java/lang/Math" ∈ jx_gw := jx_gin 49 (by decide +kernel) rfl
theorem jx_cp_w : Cond.native arraycopyName ∈ jx_gw ∧ Cond.static arraycopyName ∈ jx_gw ∧ Cond.initialized "java/lang/System" ∈ jx_gw := ⟨jx_gin 326 (by decide +kernel) rfl, jx_gin 325 (by decide +kernel) rfl, jx_gin 48 (by decide +kernel) rfl⟩
theorem jx_ml_ok : jx_ml.all (fun q => decide (lw_tbl[q.2.2.2.2]? = some (Cond.methodLink (jx_cn q.1) q.2.1 (jx_m q.2.2.1).1)) && decide (q.2.2.1 < 128)) = true := by decide +kernel
/-- what is asked of a method's row; js: the places of its own words: code, initialized, then instanceMethod and selects, or static (st) -/
def jx_mok (y : Nat) (st : Bool) : Prop := Cond.code (jx_m y).1 (jx_m y).2.1 (jx_m y).2.2.1 (jx_m y).2.2.2.1 ∈ jx_gw ∧ Cond.initialized (jx_m y).1.cls ∈ jx_gw ∧ (if st then Cond.static (jx_m y).1 ∈ jx_gw else Cond.instanceMethod (jx_m y).1 ∈ jx_gw ∧ Cond.selects (jx_m y).1.cls (jx_m y).1 (jx_m y).1 ∈ jx_gw) ∧
  (plainName (jx_m y).1.cls = true ∧ (jx_m y).1.cls ≠ "java/lang/invoke/MethodHandle" ∧ (jx_m y).1.cls ≠ "java/lang/invoke/VarHandle" ∧ (parseMethodDescriptor (jx_m y).1.desc).map (fun d => d.parameters.length) = some (jx_m y).2.2.2.2.2.1 ∧ jx_cn (jx_m y).2.2.2.2.1 = (jx_m y).1.cls ∧ (jx_m y).2.2.1 ≤ 17 ∧ (jx_T y).1 = (jx_m y).2.2.1 ∧ (jx_m y).2.2.2.2.2.2.getD 0 0 = 0) ∧ jx_chk y = true
theorem mo_D_copyFrom : jx_mok 0 false := ⟨jx_gin 323 (by decide +kernel) rfl, jx_gin 42 (by decide +kernel) rfl, ⟨jx_gin 321 (by decide +kernel) rfl, jx_gin 322 (by decide +kernel) rfl⟩, by decide +kernel, by decide +kernel⟩
theorem mo_D_append : jx_mok 1 false := ⟨jx_gin 334 (by decide +kernel) rfl, jx_gin 42 (by decide +kernel) rfl, ⟨jx_gin 332 (by decide +kernel) rfl, jx_gin 333 (by decide +kernel) rfl⟩, by decide +kernel, by decide +kernel⟩
theorem mo_D_drop : jx_mok 2 false := ⟨jx_gin 346 (by decide +kernel) rfl, jx_gin 42 (by decide +kernel) rfl, ⟨jx_gin 344 (by decide +kernel) rfl, jx_gin 345 (by decide +kernel) rfl⟩, by decide +kernel, by decide +kernel⟩
theorem mo_D_moveDown : jx_mok 3 false := ⟨jx_gin 350 (by decide +kernel) rfl, jx_gin 42 (by decide +kernel) rfl, ⟨jx_gin 349 (by decide +kernel) rfl, jx_gin 2 (by decide +kernel) rfl⟩, by decide +kernel, by decide +kernel⟩
theorem mo_D_beginsWith : jx_mok 4 false := ⟨jx_gin 298 (by decide +kernel) rfl, jx_gin 42 (by decide +kernel) rfl, ⟨jx_gin 296 (by decide +kernel) rfl, jx_gin 297 (by decide +kernel) rfl⟩, by decide +kernel, by decide +kernel⟩
theorem mo_D_holds : jx_mok 5 false := ⟨jx_gin 294 (by decide +kernel) rfl, jx_gin 42 (by decide +kernel) rfl, ⟨jx_gin 292 (by decide +kernel) rfl, jx_gin 293 (by decide +kernel) rfl⟩, by decide +kernel, by decide +kernel⟩
theorem mo_D_presentCost : jx_mok 6 false := ⟨jx_gin 366 (by decide +kernel) rfl, jx_gin 42 (by decide +kernel) rfl, ⟨jx_gin 364 (by decide +kernel) rfl, jx_gin 365 (by decide +kernel) rfl⟩, by decide +kernel, by decide +kernel⟩
theorem mo_D_learn : jx_mok 7 false := ⟨jx_gin 597 (by decide +kernel) rfl, jx_gin 42 (by decide +kernel) rfl, ⟨jx_gin 595 (by decide +kernel) rfl, jx_gin 596 (by decide +kernel) rfl⟩, by decide +kernel, by decide +kernel⟩
theorem mo_D_sumOfUses : jx_mok 8 false := ⟨jx_gin 605 (by decide +kernel) rfl, jx_gin 42 (by decide +kernel) rfl, ⟨jx_gin 603 (by decide +kernel) rfl, jx_gin 604 (by decide +kernel) rfl⟩, by decide +kernel, by decide +kernel⟩
theorem mo_H_keep : jx_mok 9 false := ⟨jx_gin 315 (by decide +kernel) rfl, jx_gin 45 (by decide +kernel) rfl, ⟨jx_gin 313 (by decide +kernel) rfl, jx_gin 314 (by decide +kernel) rfl⟩, by decide +kernel, by decide +kernel⟩
theorem mo_H_bringBack : jx_mok 10 false := ⟨jx_gin 614 (by decide +kernel) rfl, jx_gin 45 (by decide +kernel) rfl, ⟨jx_gin 612 (by decide +kernel) rfl, jx_gin 613 (by decide +kernel) rfl⟩, by decide +kernel, by decide +kernel⟩
theorem mo_L_build : jx_mok 11 false := ⟨jx_gin 438 (by decide +kernel) rfl, jx_gin 43 (by decide +kernel) rfl, ⟨jx_gin 436 (by decide +kernel) rfl, jx_gin 437 (by decide +kernel) rfl⟩, by decide +kernel, by decide +kernel⟩
theorem mo_L_sortByLength : jx_mok 12 false := ⟨jx_gin 442 (by decide +kernel) rfl, jx_gin 43 (by decide +kernel) rfl, ⟨jx_gin 441 (by decide +kernel) rfl, jx_gin 6 (by decide +kernel) rfl⟩, by decide +kernel, by decide +kernel⟩
theorem mo_L_addEntriesAt : jx_mok 13 false := ⟨jx_gin 447 (by decide +kernel) rfl, jx_gin 43 (by decide +kernel) rfl, ⟨jx_gin 446 (by decide +kernel) rfl, jx_gin 7 (by decide +kernel) rfl⟩, by decide +kernel, by decide +kernel⟩
theorem mo_L_addSlot : jx_mok 14 false := ⟨jx_gin 453 (by decide +kernel) rfl, jx_gin 43 (by decide +kernel) rfl, ⟨jx_gin 452 (by decide +kernel) rfl, jx_gin 8 (by decide +kernel) rfl⟩, by decide +kernel, by decide +kernel⟩
theorem mo_L_stateBehind : jx_mok 15 false := ⟨jx_gin 471 (by decide +kernel) rfl, jx_gin 43 (by decide +kernel) rfl, ⟨jx_gin 469 (by decide +kernel) rfl, jx_gin 470 (by decide +kernel) rfl⟩, by decide +kernel, by decide +kernel⟩
theorem mo_M_copyFrom : jx_mok 16 false := ⟨jx_gin 319 (by decide +kernel) rfl, jx_gin 41 (by decide +kernel) rfl, ⟨jx_gin 317 (by decide +kernel) rfl, jx_gin 318 (by decide +kernel) rfl⟩, by decide +kernel, by decide +kernel⟩
theorem mo_M_takeInput : jx_mok 17 false := ⟨jx_gin 399 (by decide +kernel) rfl, jx_gin 41 (by decide +kernel) rfl, ⟨jx_gin 397 (by decide +kernel) rfl, jx_gin 398 (by decide +kernel) rfl⟩, by decide +kernel, by decide +kernel⟩
theorem mo_M_connection : jx_mok 18 false := ⟨jx_gin 386 (by decide +kernel) rfl, jx_gin 41 (by decide +kernel) rfl, ⟨jx_gin 384 (by decide +kernel) rfl, jx_gin 385 (by decide +kernel) rfl⟩, by decide +kernel, by decide +kernel⟩
theorem mo_M_standsAt : jx_mok 19 false := ⟨jx_gin 426 (by decide +kernel) rfl, jx_gin 41 (by decide +kernel) rfl, ⟨jx_gin 424 (by decide +kernel) rfl, jx_gin 425 (by decide +kernel) rfl⟩, by decide +kernel, by decide +kernel⟩
theorem mo_M_allowsSegment : jx_mok 20 false := ⟨jx_gin 457 (by decide +kernel) rfl, jx_gin 41 (by decide +kernel) rfl, ⟨jx_gin 455 (by decide +kernel) rfl, jx_gin 456 (by decide +kernel) rfl⟩, by decide +kernel, by decide +kernel⟩
theorem mo_R_build : jx_mok 21 false := ⟨jx_gin 461 (by decide +kernel) rfl, jx_gin 46 (by decide +kernel) rfl, ⟨jx_gin 459 (by decide +kernel) rfl, jx_gin 460 (by decide +kernel) rfl⟩, by decide +kernel, by decide +kernel⟩
theorem mo_R_findLeastTo : jx_mok 22 false := ⟨jx_gin 465 (by decide +kernel) rfl, jx_gin 46 (by decide +kernel) rfl, ⟨jx_gin 464 (by decide +kernel) rfl, jx_gin 9 (by decide +kernel) rfl⟩, by decide +kernel, by decide +kernel⟩
theorem mo_R_leastBefore : jx_mok 23 false := ⟨jx_gin 475 (by decide +kernel) rfl, jx_gin 46 (by decide +kernel) rfl, ⟨jx_gin 474 (by decide +kernel) rfl, jx_gin 10 (by decide +kernel) rfl⟩, by decide +kernel, by decide +kernel⟩
theorem mo_R_countPaths : jx_mok 24 false := ⟨jx_gin 481 (by decide +kernel) rfl, jx_gin 46 (by decide +kernel) rfl, ⟨jx_gin 480 (by decide +kernel) rfl, jx_gin 11 (by decide +kernel) rfl⟩, by decide +kernel, by decide +kernel⟩
theorem mo_R_cappedSum : jx_mok 25 true := ⟨jx_gin 484 (by decide +kernel) rfl, jx_gin 46 (by decide +kernel) rfl, jx_gin 483 (by decide +kernel) rfl, by decide +kernel, by decide +kernel⟩
theorem mo_R_listEnds : jx_mok 26 false := ⟨jx_gin 489 (by decide +kernel) rfl, jx_gin 46 (by decide +kernel) rfl, ⟨jx_gin 488 (by decide +kernel) rfl, jx_gin 12 (by decide +kernel) rfl⟩, by decide +kernel, by decide +kernel⟩
theorem mo_R_listState : jx_mok 27 false := ⟨jx_gin 493 (by decide +kernel) rfl, jx_gin 46 (by decide +kernel) rfl, ⟨jx_gin 492 (by decide +kernel) rfl, jx_gin 13 (by decide +kernel) rfl⟩, by decide +kernel, by decide +kernel⟩
theorem mo_R_openHeads : jx_mok 28 false := ⟨jx_gin 497 (by decide +kernel) rfl, jx_gin 46 (by decide +kernel) rfl, ⟨jx_gin 496 (by decide +kernel) rfl, jx_gin 14 (by decide +kernel) rfl⟩, by decide +kernel, by decide +kernel⟩
theorem mo_R_leastFrom : jx_mok 29 false := ⟨jx_gin 501 (by decide +kernel) rfl, jx_gin 46 (by decide +kernel) rfl, ⟨jx_gin 500 (by decide +kernel) rfl, jx_gin 15 (by decide +kernel) rfl⟩, by decide +kernel, by decide +kernel⟩
theorem mo_R_countBestWays : jx_mok 30 false := ⟨jx_gin 505 (by decide +kernel) rfl, jx_gin 46 (by decide +kernel) rfl, ⟨jx_gin 504 (by decide +kernel) rfl, jx_gin 16 (by decide +kernel) rfl⟩, by decide +kernel, by decide +kernel⟩
theorem mo_R_cheapestHead : jx_mok 31 false := ⟨jx_gin 509 (by decide +kernel) rfl, jx_gin 46 (by decide +kernel) rfl, ⟨jx_gin 508 (by decide +kernel) rfl, jx_gin 17 (by decide +kernel) rfl⟩, by decide +kernel, by decide +kernel⟩
theorem mo_R_takeHead : jx_mok 32 false := ⟨jx_gin 513 (by decide +kernel) rfl, jx_gin 46 (by decide +kernel) rfl, ⟨jx_gin 512 (by decide +kernel) rfl, jx_gin 18 (by decide +kernel) rfl⟩, by decide +kernel, by decide +kernel⟩
theorem mo_R_allPaths : jx_mok 33 false := ⟨jx_gin 517 (by decide +kernel) rfl, jx_gin 46 (by decide +kernel) rfl, ⟨jx_gin 515 (by decide +kernel) rfl, jx_gin 516 (by decide +kernel) rfl⟩, by decide +kernel, by decide +kernel⟩
theorem mo_R_bestPaths : jx_mok 34 false := ⟨jx_gin 585 (by decide +kernel) rfl, jx_gin 46 (by decide +kernel) rfl, ⟨jx_gin 583 (by decide +kernel) rfl, jx_gin 584 (by decide +kernel) rfl⟩, by decide +kernel, by decide +kernel⟩
theorem mo_R_hasRank : jx_mok 35 false := ⟨jx_gin 528 (by decide +kernel) rfl, jx_gin 46 (by decide +kernel) rfl, ⟨jx_gin 526 (by decide +kernel) rfl, jx_gin 527 (by decide +kernel) rfl⟩, by decide +kernel, by decide +kernel⟩
theorem mo_R_costAtRank : jx_mok 36 false := ⟨jx_gin 532 (by decide +kernel) rfl, jx_gin 46 (by decide +kernel) rfl, ⟨jx_gin 530 (by decide +kernel) rfl, jx_gin 531 (by decide +kernel) rfl⟩, by decide +kernel, by decide +kernel⟩
theorem mo_R_walk : jx_mok 37 false := ⟨jx_gin 540 (by decide +kernel) rfl, jx_gin 46 (by decide +kernel) rfl, ⟨jx_gin 538 (by decide +kernel) rfl, jx_gin 539 (by decide +kernel) rfl⟩, by decide +kernel, by decide +kernel⟩
theorem mo_R_trailHolds : jx_mok 38 false := ⟨jx_gin 593 (by decide +kernel) rfl, jx_gin 46 (by decide +kernel) rfl, ⟨jx_gin 591 (by decide +kernel) rfl, jx_gin 592 (by decide +kernel) rfl⟩, by decide +kernel, by decide +kernel⟩
theorem mo_R_leastThroughSlot : jx_mok 39 false := ⟨jx_gin 564 (by decide +kernel) rfl, jx_gin 46 (by decide +kernel) rfl, ⟨jx_gin 563 (by decide +kernel) rfl, jx_gin 20 (by decide +kernel) rfl⟩, by decide +kernel, by decide +kernel⟩
theorem mo_R_leastThroughEntry : jx_mok 40 false := ⟨jx_gin 560 (by decide +kernel) rfl, jx_gin 46 (by decide +kernel) rfl, ⟨jx_gin 558 (by decide +kernel) rfl, jx_gin 559 (by decide +kernel) rfl⟩, by decide +kernel, by decide +kernel⟩
theorem mo_R_leastEndingAt : jx_mok 41 false := ⟨jx_gin 573 (by decide +kernel) rfl, jx_gin 46 (by decide +kernel) rfl, ⟨jx_gin 571 (by decide +kernel) rfl, jx_gin 572 (by decide +kernel) rfl⟩, by decide +kernel, by decide +kernel⟩
theorem mo_R_leastCrossing : jx_mok 42 false := ⟨jx_gin 577 (by decide +kernel) rfl, jx_gin 46 (by decide +kernel) rfl, ⟨jx_gin 575 (by decide +kernel) rfl, jx_gin 576 (by decide +kernel) rfl⟩, by decide +kernel, by decide +kernel⟩
theorem mo_T_push : jx_mok 43 false := ⟨jx_gin 282 (by decide +kernel) rfl, jx_gin 44 (by decide +kernel) rfl, ⟨jx_gin 280 (by decide +kernel) rfl, jx_gin 281 (by decide +kernel) rfl⟩, by decide +kernel, by decide +kernel⟩
theorem mo_T_readingError : jx_mok 44 false := ⟨jx_gin 302 (by decide +kernel) rfl, jx_gin 44 (by decide +kernel) rfl, ⟨jx_gin 300 (by decide +kernel) rfl, jx_gin 301 (by decide +kernel) rfl⟩, by decide +kernel, by decide +kernel⟩
theorem mo_T_firstError : jx_mok 45 false := ⟨jx_gin 306 (by decide +kernel) rfl, jx_gin 44 (by decide +kernel) rfl, ⟨jx_gin 304 (by decide +kernel) rfl, jx_gin 305 (by decide +kernel) rfl⟩, by decide +kernel, by decide +kernel⟩
theorem mo_C_appendCharacter : jx_mok 46 false := ⟨jx_gin 275 (by decide +kernel) rfl, jx_gin 40 (by decide +kernel) rfl, ⟨jx_gin 273 (by decide +kernel) rfl, jx_gin 274 (by decide +kernel) rfl⟩, by decide +kernel, by decide +kernel⟩
theorem mo_C_clearText : jx_mok 47 false := ⟨jx_gin 286 (by decide +kernel) rfl, jx_gin 40 (by decide +kernel) rfl, ⟨jx_gin 284 (by decide +kernel) rfl, jx_gin 285 (by decide +kernel) rfl⟩, by decide +kernel, by decide +kernel⟩
theorem mo_C_addEntry : jx_mok 48 false := ⟨jx_gin 290 (by decide +kernel) rfl, jx_gin 40 (by decide +kernel) rfl, ⟨jx_gin 288 (by decide +kernel) rfl, jx_gin 289 (by decide +kernel) rfl⟩, by decide +kernel, by decide +kernel⟩
theorem mo_C_removeEntry : jx_mok 49 false := ⟨jx_gin 338 (by decide +kernel) rfl, jx_gin 40 (by decide +kernel) rfl, ⟨jx_gin 336 (by decide +kernel) rfl, jx_gin 337 (by decide +kernel) rfl⟩, by decide +kernel, by decide +kernel⟩
theorem mo_C_entryCount : jx_mok 50 false := ⟨jx_gin 354 (by decide +kernel) rfl, jx_gin 40 (by decide +kernel) rfl, ⟨jx_gin 352 (by decide +kernel) rfl, jx_gin 353 (by decide +kernel) rfl⟩, by decide +kernel, by decide +kernel⟩
theorem mo_C_wordOf : jx_mok 51 false := ⟨jx_gin 358 (by decide +kernel) rfl, jx_gin 40 (by decide +kernel) rfl, ⟨jx_gin 356 (by decide +kernel) rfl, jx_gin 357 (by decide +kernel) rfl⟩, by decide +kernel, by decide +kernel⟩
theorem mo_C_costOf : jx_mok 52 false := ⟨jx_gin 362 (by decide +kernel) rfl, jx_gin 40 (by decide +kernel) rfl, ⟨jx_gin 360 (by decide +kernel) rfl, jx_gin 361 (by decide +kernel) rfl⟩, by decide +kernel, by decide +kernel⟩
theorem mo_C_useCount : jx_mok 53 false := ⟨jx_gin 373 (by decide +kernel) rfl, jx_gin 40 (by decide +kernel) rfl, ⟨jx_gin 371 (by decide +kernel) rfl, jx_gin 372 (by decide +kernel) rfl⟩, by decide +kernel, by decide +kernel⟩
theorem mo_C_entriesWithPrefix : jx_mok 54 false := ⟨jx_gin 377 (by decide +kernel) rfl, jx_gin 40 (by decide +kernel) rfl, ⟨jx_gin 375 (by decide +kernel) rfl, jx_gin 376 (by decide +kernel) rfl⟩, by decide +kernel, by decide +kernel⟩
theorem mo_C_setConnection : jx_mok 55 false := ⟨jx_gin 382 (by decide +kernel) rfl, jx_gin 40 (by decide +kernel) rfl, ⟨jx_gin 380 (by decide +kernel) rfl, jx_gin 381 (by decide +kernel) rfl⟩, by decide +kernel, by decide +kernel⟩
theorem mo_C_setUnknownCost : jx_mok 56 false := ⟨jx_gin 390 (by decide +kernel) rfl, jx_gin 40 (by decide +kernel) rfl, ⟨jx_gin 388 (by decide +kernel) rfl, jx_gin 389 (by decide +kernel) rfl⟩, by decide +kernel, by decide +kernel⟩
theorem mo_C_setInput : jx_mok 57 false := ⟨jx_gin 394 (by decide +kernel) rfl, jx_gin 40 (by decide +kernel) rfl, ⟨jx_gin 392 (by decide +kernel) rfl, jx_gin 393 (by decide +kernel) rfl⟩, by decide +kernel, by decide +kernel⟩
theorem mo_C_inputLength : jx_mok 58 false := ⟨jx_gin 406 (by decide +kernel) rfl, jx_gin 40 (by decide +kernel) rfl, ⟨jx_gin 404 (by decide +kernel) rfl, jx_gin 405 (by decide +kernel) rfl⟩, by decide +kernel, by decide +kernel⟩
theorem mo_C_setConstraint : jx_mok 59 false := ⟨jx_gin 410 (by decide +kernel) rfl, jx_gin 40 (by decide +kernel) rfl, ⟨jx_gin 408 (by decide +kernel) rfl, jx_gin 409 (by decide +kernel) rfl⟩, by decide +kernel, by decide +kernel⟩
theorem mo_C_segmentsAt : jx_mok 60 false := ⟨jx_gin 418 (by decide +kernel) rfl, jx_gin 40 (by decide +kernel) rfl, ⟨jx_gin 416 (by decide +kernel) rfl, jx_gin 417 (by decide +kernel) rfl⟩, by decide +kernel, by decide +kernel⟩
theorem mo_C_pathCount : jx_mok 61 false := ⟨jx_gin 430 (by decide +kernel) rfl, jx_gin 40 (by decide +kernel) rfl, ⟨jx_gin 428 (by decide +kernel) rfl, jx_gin 429 (by decide +kernel) rfl⟩, by decide +kernel, by decide +kernel⟩
theorem mo_C_pathCost : jx_mok 62 false := ⟨jx_gin 521 (by decide +kernel) rfl, jx_gin 40 (by decide +kernel) rfl, ⟨jx_gin 519 (by decide +kernel) rfl, jx_gin 520 (by decide +kernel) rfl⟩, by decide +kernel, by decide +kernel⟩
theorem mo_C_segmentCount : jx_mok 63 false := ⟨jx_gin 536 (by decide +kernel) rfl, jx_gin 40 (by decide +kernel) rfl, ⟨jx_gin 534 (by decide +kernel) rfl, jx_gin 535 (by decide +kernel) rfl⟩, by decide +kernel, by decide +kernel⟩
theorem mo_C_segmentStart : jx_mok 64 false := ⟨jx_gin 544 (by decide +kernel) rfl, jx_gin 40 (by decide +kernel) rfl, ⟨jx_gin 542 (by decide +kernel) rfl, jx_gin 543 (by decide +kernel) rfl⟩, by decide +kernel, by decide +kernel⟩
theorem mo_C_segmentEntry : jx_mok 65 false := ⟨jx_gin 552 (by decide +kernel) rfl, jx_gin 40 (by decide +kernel) rfl, ⟨jx_gin 550 (by decide +kernel) rfl, jx_gin 551 (by decide +kernel) rfl⟩, by decide +kernel, by decide +kernel⟩
theorem mo_C_bestThrough : jx_mok 66 false := ⟨jx_gin 556 (by decide +kernel) rfl, jx_gin 40 (by decide +kernel) rfl, ⟨jx_gin 554 (by decide +kernel) rfl, jx_gin 555 (by decide +kernel) rfl⟩, by decide +kernel, by decide +kernel⟩
theorem mo_C_boundaryInBest : jx_mok 67 false := ⟨jx_gin 569 (by decide +kernel) rfl, jx_gin 40 (by decide +kernel) rfl, ⟨jx_gin 567 (by decide +kernel) rfl, jx_gin 568 (by decide +kernel) rfl⟩, by decide +kernel, by decide +kernel⟩
theorem mo_C_bestCount : jx_mok 68 false := ⟨jx_gin 581 (by decide +kernel) rfl, jx_gin 40 (by decide +kernel) rfl, ⟨jx_gin 579 (by decide +kernel) rfl, jx_gin 580 (by decide +kernel) rfl⟩, by decide +kernel, by decide +kernel⟩
theorem mo_C_choose : jx_mok 69 false := ⟨jx_gin 589 (by decide +kernel) rfl, jx_gin 40 (by decide +kernel) rfl, ⟨jx_gin 587 (by decide +kernel) rfl, jx_gin 588 (by decide +kernel) rfl⟩, by decide +kernel, by decide +kernel⟩
theorem mo_C_forget : jx_mok 70 false := ⟨jx_gin 601 (by decide +kernel) rfl, jx_gin 40 (by decide +kernel) rfl, ⟨jx_gin 599 (by decide +kernel) rfl, jx_gin 600 (by decide +kernel) rfl⟩, by decide +kernel, by decide +kernel⟩
theorem mo_C_undo : jx_mok 71 false := ⟨jx_gin 610 (by decide +kernel) rfl, jx_gin 40 (by decide +kernel) rfl, ⟨jx_gin 608 (by decide +kernel) rfl, jx_gin 609 (by decide +kernel) rfl⟩, by decide +kernel, by decide +kernel⟩
theorem mo_C_beginEdit : jx_mok 72 false := ⟨jx_gin 311 (by decide +kernel) rfl, jx_gin 40 (by decide +kernel) rfl, ⟨jx_gin 310 (by decide +kernel) rfl, jx_gin 0 (by decide +kernel) rfl⟩, by decide +kernel, by decide +kernel⟩
theorem mo_C_presentPaths : jx_mok 73 false := ⟨jx_gin 434 (by decide +kernel) rfl, jx_gin 40 (by decide +kernel) rfl, ⟨jx_gin 433 (by decide +kernel) rfl, jx_gin 5 (by decide +kernel) rfl⟩, by decide +kernel, by decide +kernel⟩
theorem mo_C_findSegment : jx_mok 74 false := ⟨jx_gin 548 (by decide +kernel) rfl, jx_gin 40 (by decide +kernel) rfl, ⟨jx_gin 547 (by decide +kernel) rfl, jx_gin 19 (by decide +kernel) rfl⟩, by decide +kernel, by decide +kernel⟩
theorem mo_C_isNoEntry : jx_mok 75 false := ⟨jx_gin 342 (by decide +kernel) rfl, jx_gin 40 (by decide +kernel) rfl, ⟨jx_gin 341 (by decide +kernel) rfl, jx_gin 1 (by decide +kernel) rfl⟩, by decide +kernel, by decide +kernel⟩
theorem mo_C_isNoGap : jx_mok 76 false := ⟨jx_gin 422 (by decide +kernel) rfl, jx_gin 40 (by decide +kernel) rfl, ⟨jx_gin 421 (by decide +kernel) rfl, jx_gin 4 (by decide +kernel) rfl⟩, by decide +kernel, by decide +kernel⟩
theorem mo_C_isNoInnerGap : jx_mok 77 false := ⟨jx_gin 414 (by decide +kernel) rfl, jx_gin 40 (by decide +kernel) rfl, ⟨jx_gin 413 (by decide +kernel) rfl, jx_gin 3 (by decide +kernel) rfl⟩, by decide +kernel, by decide +kernel⟩
theorem mo_C_isNoRank : jx_mok 78 true := ⟨jx_gin 524 (by decide +kernel) rfl, jx_gin 40 (by decide +kernel) rfl, jx_gin 523 (by decide +kernel) rfl, by decide +kernel, by decide +kernel⟩
theorem mo_C_isOutside : jx_mok 79 true := ⟨jx_gin 278 (by decide +kernel) rfl, jx_gin 40 (by decide +kernel) rfl, jx_gin 277 (by decide +kernel) rfl, by decide +kernel, by decide +kernel⟩
theorem mo_F_in : jx_mok 80 true := ⟨jx_gin 690 (by decide +kernel) rfl, jx_gin 47 (by decide +kernel) rfl, jx_gin 689 (by decide +kernel) rfl, by decide +kernel, by decide +kernel⟩
theorem mo_F_save : jx_mok 81 false := ⟨jx_gin 713 (by decide +kernel) rfl, jx_gin 47 (by decide +kernel) rfl, ⟨jx_gin 712 (by decide +kernel) rfl, jx_gin 23 (by decide +kernel) rfl⟩, by decide +kernel, by decide +kernel⟩
theorem mo_F_undo : jx_mok 82 false := ⟨jx_gin 683 (by decide +kernel) rfl, jx_gin 47 (by decide +kernel) rfl, ⟨jx_gin 681 (by decide +kernel) rfl, jx_gin 682 (by decide +kernel) rfl⟩, by decide +kernel, by decide +kernel⟩
theorem mo_F_appendCharacter : jx_mok 83 false := ⟨jx_gin 687 (by decide +kernel) rfl, jx_gin 47 (by decide +kernel) rfl, ⟨jx_gin 685 (by decide +kernel) rfl, jx_gin 686 (by decide +kernel) rfl⟩, by decide +kernel, by decide +kernel⟩
theorem mo_F_clearText : jx_mok 84 false := ⟨jx_gin 694 (by decide +kernel) rfl, jx_gin 47 (by decide +kernel) rfl, ⟨jx_gin 692 (by decide +kernel) rfl, jx_gin 693 (by decide +kernel) rfl⟩, by decide +kernel, by decide +kernel⟩
theorem mo_F_fault : jx_mok 85 false := ⟨jx_gin 709 (by decide +kernel) rfl, jx_gin 47 (by decide +kernel) rfl, ⟨jx_gin 708 (by decide +kernel) rfl, jx_gin 22 (by decide +kernel) rfl⟩, by decide +kernel, by decide +kernel⟩
theorem mo_F_at : jx_mok 86 true := ⟨jx_gin 701 (by decide +kernel) rfl, jx_gin 47 (by decide +kernel) rfl, jx_gin 700 (by decide +kernel) rfl, by decide +kernel, by decide +kernel⟩
theorem mo_F_isEntry : jx_mok 87 false := ⟨jx_gin 721 (by decide +kernel) rfl, jx_gin 47 (by decide +kernel) rfl, ⟨jx_gin 720 (by decide +kernel) rfl, jx_gin 24 (by decide +kernel) rfl⟩, by decide +kernel, by decide +kernel⟩
theorem mo_F_begins : jx_mok 88 false := ⟨jx_gin 705 (by decide +kernel) rfl, jx_gin 47 (by decide +kernel) rfl, ⟨jx_gin 704 (by decide +kernel) rfl, jx_gin 21 (by decide +kernel) rfl⟩, by decide +kernel, by decide +kernel⟩
theorem mo_F_addEntry : jx_mok 89 false := ⟨jx_gin 698 (by decide +kernel) rfl, jx_gin 47 (by decide +kernel) rfl, ⟨jx_gin 696 (by decide +kernel) rfl, jx_gin 697 (by decide +kernel) rfl⟩, by decide +kernel, by decide +kernel⟩
theorem mo_F_removeEntry : jx_mok 90 false := ⟨jx_gin 717 (by decide +kernel) rfl, jx_gin 47 (by decide +kernel) rfl, ⟨jx_gin 715 (by decide +kernel) rfl, jx_gin 716 (by decide +kernel) rfl⟩, by decide +kernel, by decide +kernel⟩
theorem mo_F_entryCount : jx_mok 91 false := ⟨jx_gin 725 (by decide +kernel) rfl, jx_gin 47 (by decide +kernel) rfl, ⟨jx_gin 723 (by decide +kernel) rfl, jx_gin 724 (by decide +kernel) rfl⟩, by decide +kernel, by decide +kernel⟩
theorem mo_F_wordOf : jx_mok 92 false := ⟨jx_gin 729 (by decide +kernel) rfl, jx_gin 47 (by decide +kernel) rfl, ⟨jx_gin 727 (by decide +kernel) rfl, jx_gin 728 (by decide +kernel) rfl⟩, by decide +kernel, by decide +kernel⟩
theorem mo_F_price : jx_mok 93 false := ⟨jx_gin 737 (by decide +kernel) rfl, jx_gin 47 (by decide +kernel) rfl, ⟨jx_gin 736 (by decide +kernel) rfl, jx_gin 25 (by decide +kernel) rfl⟩, by decide +kernel, by decide +kernel⟩
theorem mo_F_costOf : jx_mok 94 false := ⟨jx_gin 733 (by decide +kernel) rfl, jx_gin 47 (by decide +kernel) rfl, ⟨jx_gin 731 (by decide +kernel) rfl, jx_gin 732 (by decide +kernel) rfl⟩, by decide +kernel, by decide +kernel⟩
theorem mo_F_useCount : jx_mok 95 false := ⟨jx_gin 741 (by decide +kernel) rfl, jx_gin 47 (by decide +kernel) rfl, ⟨jx_gin 739 (by decide +kernel) rfl, jx_gin 740 (by decide +kernel) rfl⟩, by decide +kernel, by decide +kernel⟩
theorem mo_F_entriesWithPrefix : jx_mok 96 false := ⟨jx_gin 745 (by decide +kernel) rfl, jx_gin 47 (by decide +kernel) rfl, ⟨jx_gin 743 (by decide +kernel) rfl, jx_gin 744 (by decide +kernel) rfl⟩, by decide +kernel, by decide +kernel⟩
theorem mo_F_changed : jx_mok 97 false := ⟨jx_gin 753 (by decide +kernel) rfl, jx_gin 47 (by decide +kernel) rfl, ⟨jx_gin 752 (by decide +kernel) rfl, jx_gin 26 (by decide +kernel) rfl⟩, by decide +kernel, by decide +kernel⟩
theorem mo_F_setConnection : jx_mok 98 false := ⟨jx_gin 749 (by decide +kernel) rfl, jx_gin 47 (by decide +kernel) rfl, ⟨jx_gin 747 (by decide +kernel) rfl, jx_gin 748 (by decide +kernel) rfl⟩, by decide +kernel, by decide +kernel⟩
theorem mo_F_setUnknownCost : jx_mok 99 false := ⟨jx_gin 757 (by decide +kernel) rfl, jx_gin 47 (by decide +kernel) rfl, ⟨jx_gin 755 (by decide +kernel) rfl, jx_gin 756 (by decide +kernel) rfl⟩, by decide +kernel, by decide +kernel⟩
theorem mo_F_setInput : jx_mok 100 false := ⟨jx_gin 761 (by decide +kernel) rfl, jx_gin 47 (by decide +kernel) rfl, ⟨jx_gin 759 (by decide +kernel) rfl, jx_gin 760 (by decide +kernel) rfl⟩, by decide +kernel, by decide +kernel⟩
theorem mo_F_inputLength : jx_mok 101 false := ⟨jx_gin 765 (by decide +kernel) rfl, jx_gin 47 (by decide +kernel) rfl, ⟨jx_gin 763 (by decide +kernel) rfl, jx_gin 764 (by decide +kernel) rfl⟩, by decide +kernel, by decide +kernel⟩
theorem mo_F_setConstraint : jx_mok 102 false := ⟨jx_gin 769 (by decide +kernel) rfl, jx_gin 47 (by decide +kernel) rfl, ⟨jx_gin 767 (by decide +kernel) rfl, jx_gin 768 (by decide +kernel) rfl⟩, by decide +kernel, by decide +kernel⟩
theorem mo_F_stands : jx_mok 103 false := ⟨jx_gin 777 (by decide +kernel) rfl, jx_gin 47 (by decide +kernel) rfl, ⟨jx_gin 776 (by decide +kernel) rfl, jx_gin 27 (by decide +kernel) rfl⟩, by decide +kernel, by decide +kernel⟩
theorem mo_F_segmentsAt : jx_mok 104 false := ⟨jx_gin 773 (by decide +kernel) rfl, jx_gin 47 (by decide +kernel) rfl, ⟨jx_gin 771 (by decide +kernel) rfl, jx_gin 772 (by decide +kernel) rfl⟩, by decide +kernel, by decide +kernel⟩
theorem mo_F_mayCover : jx_mok 105 false := ⟨jx_gin 797 (by decide +kernel) rfl, jx_gin 47 (by decide +kernel) rfl, ⟨jx_gin 796 (by decide +kernel) rfl, jx_gin 31 (by decide +kernel) rfl⟩, by decide +kernel, by decide +kernel⟩
theorem mo_F_findSegments : jx_mok 106 false := ⟨jx_gin 793 (by decide +kernel) rfl, jx_gin 47 (by decide +kernel) rfl, ⟨jx_gin 792 (by decide +kernel) rfl, jx_gin 30 (by decide +kernel) rfl⟩, by decide +kernel, by decide +kernel⟩
theorem mo_F_endOf : jx_mok 107 false := ⟨jx_gin 801 (by decide +kernel) rfl, jx_gin 47 (by decide +kernel) rfl, ⟨jx_gin 800 (by decide +kernel) rfl, jx_gin 32 (by decide +kernel) rfl⟩, by decide +kernel, by decide +kernel⟩
theorem mo_F_classOf : jx_mok 108 false := ⟨jx_gin 813 (by decide +kernel) rfl, jx_gin 47 (by decide +kernel) rfl, ⟨jx_gin 812 (by decide +kernel) rfl, jx_gin 34 (by decide +kernel) rfl⟩, by decide +kernel, by decide +kernel⟩
theorem mo_F_segmentCost : jx_mok 109 false := ⟨jx_gin 817 (by decide +kernel) rfl, jx_gin 47 (by decide +kernel) rfl, ⟨jx_gin 816 (by decide +kernel) rfl, jx_gin 35 (by decide +kernel) rfl⟩, by decide +kernel, by decide +kernel⟩
theorem mo_F_between : jx_mok 110 false := ⟨jx_gin 789 (by decide +kernel) rfl, jx_gin 47 (by decide +kernel) rfl, ⟨jx_gin 788 (by decide +kernel) rfl, jx_gin 29 (by decide +kernel) rfl⟩, by decide +kernel, by decide +kernel⟩
theorem mo_F_capped : jx_mok 111 true := ⟨jx_gin 804 (by decide +kernel) rfl, jx_gin 47 (by decide +kernel) rfl, jx_gin 803 (by decide +kernel) rfl, by decide +kernel, by decide +kernel⟩
theorem mo_F_insert : jx_mok 112 false := ⟨jx_gin 821 (by decide +kernel) rfl, jx_gin 47 (by decide +kernel) rfl, ⟨jx_gin 820 (by decide +kernel) rfl, jx_gin 36 (by decide +kernel) rfl⟩, by decide +kernel, by decide +kernel⟩
theorem mo_F_layPlace : jx_mok 113 false := ⟨jx_gin 809 (by decide +kernel) rfl, jx_gin 47 (by decide +kernel) rfl, ⟨jx_gin 808 (by decide +kernel) rfl, jx_gin 33 (by decide +kernel) rfl⟩, by decide +kernel, by decide +kernel⟩
theorem mo_F_lay : jx_mok 114 false := ⟨jx_gin 785 (by decide +kernel) rfl, jx_gin 47 (by decide +kernel) rfl, ⟨jx_gin 784 (by decide +kernel) rfl, jx_gin 28 (by decide +kernel) rfl⟩, by decide +kernel, by decide +kernel⟩
theorem mo_F_pathCount : jx_mok 115 false := ⟨jx_gin 781 (by decide +kernel) rfl, jx_gin 47 (by decide +kernel) rfl, ⟨jx_gin 779 (by decide +kernel) rfl, jx_gin 780 (by decide +kernel) rfl⟩, by decide +kernel, by decide +kernel⟩
theorem mo_F_pathCost : jx_mok 116 false := ⟨jx_gin 825 (by decide +kernel) rfl, jx_gin 47 (by decide +kernel) rfl, ⟨jx_gin 823 (by decide +kernel) rfl, jx_gin 824 (by decide +kernel) rfl⟩, by decide +kernel, by decide +kernel⟩
theorem mo_F_follow : jx_mok 117 false := ⟨jx_gin 833 (by decide +kernel) rfl, jx_gin 47 (by decide +kernel) rfl, ⟨jx_gin 832 (by decide +kernel) rfl, jx_gin 37 (by decide +kernel) rfl⟩, by decide +kernel, by decide +kernel⟩
theorem mo_F_segmentCount : jx_mok 118 false := ⟨jx_gin 829 (by decide +kernel) rfl, jx_gin 47 (by decide +kernel) rfl, ⟨jx_gin 827 (by decide +kernel) rfl, jx_gin 828 (by decide +kernel) rfl⟩, by decide +kernel, by decide +kernel⟩
theorem mo_F_segmentStart : jx_mok 119 false := ⟨jx_gin 837 (by decide +kernel) rfl, jx_gin 47 (by decide +kernel) rfl, ⟨jx_gin 835 (by decide +kernel) rfl, jx_gin 836 (by decide +kernel) rfl⟩, by decide +kernel, by decide +kernel⟩
theorem mo_F_segmentEntry : jx_mok 120 false := ⟨jx_gin 841 (by decide +kernel) rfl, jx_gin 47 (by decide +kernel) rfl, ⟨jx_gin 839 (by decide +kernel) rfl, jx_gin 840 (by decide +kernel) rfl⟩, by decide +kernel, by decide +kernel⟩
theorem mo_F_layAhead : jx_mok 121 false := ⟨jx_gin 849 (by decide +kernel) rfl, jx_gin 47 (by decide +kernel) rfl, ⟨jx_gin 848 (by decide +kernel) rfl, jx_gin 38 (by decide +kernel) rfl⟩, by decide +kernel, by decide +kernel⟩
theorem mo_F_bestThrough : jx_mok 122 false := ⟨jx_gin 845 (by decide +kernel) rfl, jx_gin 47 (by decide +kernel) rfl, ⟨jx_gin 843 (by decide +kernel) rfl, jx_gin 844 (by decide +kernel) rfl⟩, by decide +kernel, by decide +kernel⟩
theorem mo_F_boundaryInBest : jx_mok 123 false := ⟨jx_gin 854 (by decide +kernel) rfl, jx_gin 47 (by decide +kernel) rfl, ⟨jx_gin 852 (by decide +kernel) rfl, jx_gin 853 (by decide +kernel) rfl⟩, by decide +kernel, by decide +kernel⟩
theorem mo_F_bestCount : jx_mok 124 false := ⟨jx_gin 858 (by decide +kernel) rfl, jx_gin 47 (by decide +kernel) rfl, ⟨jx_gin 856 (by decide +kernel) rfl, jx_gin 857 (by decide +kernel) rfl⟩, by decide +kernel, by decide +kernel⟩
theorem mo_F_choose : jx_mok 125 false := ⟨jx_gin 862 (by decide +kernel) rfl, jx_gin 47 (by decide +kernel) rfl, ⟨jx_gin 860 (by decide +kernel) rfl, jx_gin 861 (by decide +kernel) rfl⟩, by decide +kernel, by decide +kernel⟩
theorem mo_F_forget : jx_mok 126 false := ⟨jx_gin 866 (by decide +kernel) rfl, jx_gin 47 (by decide +kernel) rfl, ⟨jx_gin 864 (by decide +kernel) rfl, jx_gin 865 (by decide +kernel) rfl⟩, by decide +kernel, by decide +kernel⟩
theorem mo_J_fill : jx_mok 127 true := ⟨jx_gin 402 (by decide +kernel) rfl, jx_gin 50 (by decide +kernel) rfl, jx_gin 401 (by decide +kernel) rfl, by decide +kernel, by decide +kernel⟩
def jx_st (y : Nat) : Bool := (([false, false, false, false, false, false, false, false, false, false, false, false, false, false, false, false, false, false, false, false, false, false, false, false, false, true, false, false, false, false, false, false, false, false, false, false, false, false, false, false, false, false, false, false, false, false, false, false, false, false, false, false, false, false, false, false, false, false, false, false, false, false, false, false, false, false, false, false, false, false, false, false, false, false, false, false, false, false, true, true, true, false, false, false, false, false, true, false, false, false, false, false, false, false, false, false, false, false, false, false, false, false, false, false, false, false, false, false, false, false, false, true, false, false, false, false, false, false, false, false, false, false, false, false, false, false, false, true] : List Bool)[y]?).getD false
theorem jx_mall : ∀ y, y < 128 → jx_mok y (jx_st y)
  | 0, _ => mo_D_copyFrom
  | 1, _ => mo_D_append
  | 2, _ => mo_D_drop
  | 3, _ => mo_D_moveDown
  | 4, _ => mo_D_beginsWith
  | 5, _ => mo_D_holds
  | 6, _ => mo_D_presentCost
  | 7, _ => mo_D_learn
  | 8, _ => mo_D_sumOfUses
  | 9, _ => mo_H_keep
  | 10, _ => mo_H_bringBack
  | 11, _ => mo_L_build
  | 12, _ => mo_L_sortByLength
  | 13, _ => mo_L_addEntriesAt
  | 14, _ => mo_L_addSlot
  | 15, _ => mo_L_stateBehind
  | 16, _ => mo_M_copyFrom
  | 17, _ => mo_M_takeInput
  | 18, _ => mo_M_connection
  | 19, _ => mo_M_standsAt
  | 20, _ => mo_M_allowsSegment
  | 21, _ => mo_R_build
  | 22, _ => mo_R_findLeastTo
  | 23, _ => mo_R_leastBefore
  | 24, _ => mo_R_countPaths
  | 25, _ => mo_R_cappedSum
  | 26, _ => mo_R_listEnds
  | 27, _ => mo_R_listState
  | 28, _ => mo_R_openHeads
  | 29, _ => mo_R_leastFrom
  | 30, _ => mo_R_countBestWays
  | 31, _ => mo_R_cheapestHead
  | 32, _ => mo_R_takeHead
  | 33, _ => mo_R_allPaths
  | 34, _ => mo_R_bestPaths
  | 35, _ => mo_R_hasRank
  | 36, _ => mo_R_costAtRank
  | 37, _ => mo_R_walk
  | 38, _ => mo_R_trailHolds
  | 39, _ => mo_R_leastThroughSlot
  | 40, _ => mo_R_leastThroughEntry
  | 41, _ => mo_R_leastEndingAt
  | 42, _ => mo_R_leastCrossing
  | 43, _ => mo_T_push
  | 44, _ => mo_T_readingError
  | 45, _ => mo_T_firstError
  | 46, _ => mo_C_appendCharacter
  | 47, _ => mo_C_clearText
  | 48, _ => mo_C_addEntry
  | 49, _ => mo_C_removeEntry
  | 50, _ => mo_C_entryCount
  | 51, _ => mo_C_wordOf
  | 52, _ => mo_C_costOf
  | 53, _ => mo_C_useCount
  | 54, _ => mo_C_entriesWithPrefix
  | 55, _ => mo_C_setConnection
  | 56, _ => mo_C_setUnknownCost
  | 57, _ => mo_C_setInput
  | 58, _ => mo_C_inputLength
  | 59, _ => mo_C_setConstraint
  | 60, _ => mo_C_segmentsAt
  | 61, _ => mo_C_pathCount
  | 62, _ => mo_C_pathCost
  | 63, _ => mo_C_segmentCount
  | 64, _ => mo_C_segmentStart
  | 65, _ => mo_C_segmentEntry
  | 66, _ => mo_C_bestThrough
  | 67, _ => mo_C_boundaryInBest
  | 68, _ => mo_C_bestCount
  | 69, _ => mo_C_choose
  | 70, _ => mo_C_forget
  | 71, _ => mo_C_undo
  | 72, _ => mo_C_beginEdit
  | 73, _ => mo_C_presentPaths
  | 74, _ => mo_C_findSegment
  | 75, _ => mo_C_isNoEntry
  | 76, _ => mo_C_isNoGap
  | 77, _ => mo_C_isNoInnerGap
  | 78, _ => mo_C_isNoRank
  | 79, _ => mo_C_isOutside
  | 80, _ => mo_F_in
  | 81, _ => mo_F_save
  | 82, _ => mo_F_undo
  | 83, _ => mo_F_appendCharacter
  | 84, _ => mo_F_clearText
  | 85, _ => mo_F_fault
  | 86, _ => mo_F_at
  | 87, _ => mo_F_isEntry
  | 88, _ => mo_F_begins
  | 89, _ => mo_F_addEntry
  | 90, _ => mo_F_removeEntry
  | 91, _ => mo_F_entryCount
  | 92, _ => mo_F_wordOf
  | 93, _ => mo_F_price
  | 94, _ => mo_F_costOf
  | 95, _ => mo_F_useCount
  | 96, _ => mo_F_entriesWithPrefix
  | 97, _ => mo_F_changed
  | 98, _ => mo_F_setConnection
  | 99, _ => mo_F_setUnknownCost
  | 100, _ => mo_F_setInput
  | 101, _ => mo_F_inputLength
  | 102, _ => mo_F_setConstraint
  | 103, _ => mo_F_stands
  | 104, _ => mo_F_segmentsAt
  | 105, _ => mo_F_mayCover
  | 106, _ => mo_F_findSegments
  | 107, _ => mo_F_endOf
  | 108, _ => mo_F_classOf
  | 109, _ => mo_F_segmentCost
  | 110, _ => mo_F_between
  | 111, _ => mo_F_capped
  | 112, _ => mo_F_insert
  | 113, _ => mo_F_layPlace
  | 114, _ => mo_F_lay
  | 115, _ => mo_F_pathCount
  | 116, _ => mo_F_pathCost
  | 117, _ => mo_F_follow
  | 118, _ => mo_F_segmentCount
  | 119, _ => mo_F_segmentStart
  | 120, _ => mo_F_segmentEntry
  | 121, _ => mo_F_layAhead
  | 122, _ => mo_F_bestThrough
  | 123, _ => mo_F_boundaryInBest
  | 124, _ => mo_F_bestCount
  | 125, _ => mo_F_choose
  | 126, _ => mo_F_forget
  | 127, _ => mo_J_fill
  | n + 128, h => absurd h (by omega)
