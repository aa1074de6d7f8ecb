/-! THE PLACES: what lies where, all through a run -/
def tgL : List Nat := [9, 5, 20, 20, 20, 20, 20, 4, 20, 4, 20, 5, 20, 20, 20, 20, 20, 4, 20, 4, 20, 6, 8, 20, 5, 20, 20, 20, 20, 20, 4, 20, 4, 20, 5, 20, 20, 20, 20, 20, 4, 20, 4, 20, 2, 23, 5, 20, 20, 20, 20, 20, 4, 20, 4, 20, 5, 20, 20, 20, 20, 20, 4, 20, 4, 20, 5, 20, 20, 20, 20, 20, 4, 20, 4, 20, 5, 20, 20, 20, 20, 20, 4, 20, 4, 20, 5, 20, 20, 20, 20, 20, 4, 20, 4, 20, 5, 20, 20, 20, 20, 20, 4, 20, 4, 20, 5, 20, 20, 20, 20, 20, 4, 20, 4, 20, 5, 20, 20, 20, 20, 20, 4, 20, 4, 20, 23, 5, 20, 20, 20, 20, 20, 4, 20, 4, 20, 5, 20, 20, 20, 20, 20, 4, 20, 4, 20, 22, 7, 20, 20, 24, 1, 25, 1, 25, 1, 25, 10, 20, 22, 20, 20, 20, 20, 20, 20, 21, 20, 20, 20, 20, 20, 20, 20, 20, 20, 20, 20, 21]
def lnL : List Nat := [0, 0, 12, 12, 12, 12, 12, 0, 12, 0, 12, 0, 12, 12, 12, 12, 12, 0, 12, 0, 12, 0, 0, 200, 0, 12, 12, 12, 12, 12, 0, 12, 0, 12, 0, 12, 12, 12, 12, 12, 0, 12, 0, 12, 0, 8, 0, 12, 12, 12, 12, 12, 0, 12, 0, 12, 0, 12, 12, 12, 12, 12, 0, 12, 0, 12, 0, 12, 12, 12, 12, 12, 0, 12, 0, 12, 0, 12, 12, 12, 12, 12, 0, 12, 0, 12, 0, 12, 12, 12, 12, 12, 0, 12, 0, 12, 0, 12, 12, 12, 12, 12, 0, 12, 0, 12, 0, 12, 12, 12, 12, 12, 0, 12, 0, 12, 0, 12, 12, 12, 12, 12, 0, 12, 0, 12, 2, 0, 12, 12, 12, 12, 12, 0, 12, 0, 12, 0, 12, 12, 12, 12, 12, 0, 12, 0, 12, 2, 0, 6, 6, 3, 0, 12, 0, 12, 0, 12, 0, 1170, 2, 200, 6, 6, 3, 36, 36, 36, 2, 2, 5, 6, 6, 3, 5, 3, 3, 12, 12, 12]
def rfL : List (Nat × Int32 × Nat) := [(8, 0, 9), (8, 1, 19), (8, 2, 29), (8, 3, 52), (8, 4, 134), (8, 5, 155), (8, 6, 156), (8, 7, 159), (9, 0, 10), (9, 1, 11), (9, 2, 12), (9, 3, 13), (9, 4, 14), (9, 9, 15), (9, 10, 17), (15, 0, 16), (17, 0, 18), (19, 0, 20), (19, 1, 21), (19, 2, 22), (19, 3, 23), (19, 4, 24), (19, 9, 25), (19, 10, 27), (25, 0, 26), (27, 0, 28), (29, 0, 30), (29, 1, 32), (29, 2, 42), (30, 0, 31), (32, 0, 33), (32, 1, 34), (32, 2, 35), (32, 3, 36), (32, 4, 37), (32, 9, 38), (32, 10, 40), (38, 0, 39), (40, 0, 41), (42, 0, 43), (42, 1, 44), (42, 2, 45), (42, 3, 46), (42, 4, 47), (42, 9, 48), (42, 10, 50), (48, 0, 49), (50, 0, 51), (52, 0, 53), (53, 0, 54), (53, 1, 64), (53, 2, 74), (53, 3, 84), (53, 4, 94), (53, 5, 104), (53, 6, 114), (53, 7, 124), (54, 0, 55), (54, 1, 56), (54, 2, 57), (54, 3, 58), (54, 4, 59), (54, 9, 60), (54, 10, 62), (60, 0, 61), (62, 0, 63), (64, 0, 65), (64, 1, 66), (64, 2, 67), (64, 3, 68), (64, 4, 69), (64, 9, 70), (64, 10, 72), (70, 0, 71), (72, 0, 73), (74, 0, 75), (74, 1, 76), (74, 2, 77), (74, 3, 78), (74, 4, 79), (74, 9, 80), (74, 10, 82), (80, 0, 81), (82, 0, 83), (84, 0, 85), (84, 1, 86), (84, 2, 87), (84, 3, 88), (84, 4, 89), (84, 9, 90), (84, 10, 92), (90, 0, 91), (92, 0, 93), (94, 0, 95), (94, 1, 96), (94, 2, 97), (94, 3, 98), (94, 4, 99), (94, 9, 100), (94, 10, 102), (100, 0, 101), (102, 0, 103), (104, 0, 105), (104, 1, 106), (104, 2, 107), (104, 3, 108), (104, 4, 109), (104, 9, 110), (104, 10, 112), (110, 0, 111), (112, 0, 113), (114, 0, 115), (114, 1, 116), (114, 2, 117), (114, 3, 118), (114, 4, 119), (114, 9, 120), (114, 10, 122), (120, 0, 121), (122, 0, 123), (124, 0, 125), (124, 1, 126), (124, 2, 127), (124, 3, 128), (124, 4, 129), (124, 9, 130), (124, 10, 132), (130, 0, 131), (132, 0, 133), (134, 0, 135), (134, 1, 145), (135, 0, 136), (135, 1, 137), (135, 2, 138), (135, 3, 139), (135, 4, 140), (135, 9, 141), (135, 10, 143), (141, 0, 142), (143, 0, 144), (145, 0, 146), (145, 1, 147), (145, 2, 148), (145, 3, 149), (145, 4, 150), (145, 9, 151), (145, 10, 153), (151, 0, 152), (153, 0, 154), (156, 0, 157), (156, 1, 158), (159, 0, 160), (159, 1, 162), (159, 2, 164), (160, 0, 161), (162, 0, 163), (164, 0, 165), (166, 0, 167), (166, 2, 168), (166, 3, 169), (166, 6, 170), (166, 7, 171), (166, 8, 172), (166, 9, 173), (166, 10, 174), (166, 11, 175), (166, 15, 176), (166, 18, 177), (166, 19, 178), (166, 20, 179), (166, 21, 180), (166, 22, 181), (166, 23, 182), (166, 24, 183), (166, 25, 184), (166, 26, 185), (166, 27, 186), (166, 28, 187)]
def SH (tg ln : Nat → Nat) (O : Nat → Int32 → Option Nat) : Prop := (∀ i, i < 180 → tg (i + 8) = tgL.getD i 0) ∧ (∀ i, i < 180 → ln (i + 8) = lnL.getD i 0) ∧ ∀ (i : Nat) (q : Nat × Int32 × Nat), rfL[i]? = some q → O q.1 q.2.1 = some q.2.2
section SHAPE
variable {tg ln : Nat → Nat} {O : Nat → Int32 → Option Nat}
theorem SH.t8 (S : SH tg ln O) : tg 8 = 9 := S.1 0 (by decide)
theorem SH.t9 (S : SH tg ln O) : tg 9 = 5 := S.1 1 (by decide)
theorem SH.t10 (S : SH tg ln O) : tg 10 = 20 := S.1 2 (by decide)
theorem SH.t11 (S : SH tg ln O) : tg 11 = 20 := S.1 3 (by decide)
theorem SH.t12 (S : SH tg ln O) : tg 12 = 20 := S.1 4 (by decide)
theorem SH.t13 (S : SH tg ln O) : tg 13 = 20 := S.1 5 (by decide)
theorem SH.t14 (S : SH tg ln O) : tg 14 = 20 := S.1 6 (by decide)
theorem SH.t15 (S : SH tg ln O) : tg 15 = 4 := S.1 7 (by decide)
theorem SH.t16 (S : SH tg ln O) : tg 16 = 20 := S.1 8 (by decide)
theorem SH.t17 (S : SH tg ln O) : tg 17 = 4 := S.1 9 (by decide)
theorem SH.t18 (S : SH tg ln O) : tg 18 = 20 := S.1 10 (by decide)
theorem SH.t19 (S : SH tg ln O) : tg 19 = 5 := S.1 11 (by decide)
theorem SH.t20 (S : SH tg ln O) : tg 20 = 20 := S.1 12 (by decide)
theorem SH.t21 (S : SH tg ln O) : tg 21 = 20 := S.1 13 (by decide)
theorem SH.t22 (S : SH tg ln O) : tg 22 = 20 := S.1 14 (by decide)
theorem SH.t23 (S : SH tg ln O) : tg 23 = 20 := S.1 15 (by decide)
theorem SH.t24 (S : SH tg ln O) : tg 24 = 20 := S.1 16 (by decide)
theorem SH.t25 (S : SH tg ln O) : tg 25 = 4 := S.1 17 (by decide)
theorem SH.t26 (S : SH tg ln O) : tg 26 = 20 := S.1 18 (by decide)
theorem SH.t27 (S : SH tg ln O) : tg 27 = 4 := S.1 19 (by decide)
theorem SH.t28 (S : SH tg ln O) : tg 28 = 20 := S.1 20 (by decide)
theorem SH.t29 (S : SH tg ln O) : tg 29 = 6 := S.1 21 (by decide)
theorem SH.t30 (S : SH tg ln O) : tg 30 = 8 := S.1 22 (by decide)
theorem SH.t31 (S : SH tg ln O) : tg 31 = 20 := S.1 23 (by decide)
theorem SH.t32 (S : SH tg ln O) : tg 32 = 5 := S.1 24 (by decide)
theorem SH.t33 (S : SH tg ln O) : tg 33 = 20 := S.1 25 (by decide)
theorem SH.t34 (S : SH tg ln O) : tg 34 = 20 := S.1 26 (by decide)
theorem SH.t35 (S : SH tg ln O) : tg 35 = 20 := S.1 27 (by decide)
theorem SH.t36 (S : SH tg ln O) : tg 36 = 20 := S.1 28 (by decide)
theorem SH.t37 (S : SH tg ln O) : tg 37 = 20 := S.1 29 (by decide)
theorem SH.t38 (S : SH tg ln O) : tg 38 = 4 := S.1 30 (by decide)
theorem SH.t39 (S : SH tg ln O) : tg 39 = 20 := S.1 31 (by decide)
theorem SH.t40 (S : SH tg ln O) : tg 40 = 4 := S.1 32 (by decide)
theorem SH.t41 (S : SH tg ln O) : tg 41 = 20 := S.1 33 (by decide)
theorem SH.t42 (S : SH tg ln O) : tg 42 = 5 := S.1 34 (by decide)
theorem SH.t43 (S : SH tg ln O) : tg 43 = 20 := S.1 35 (by decide)
theorem SH.t44 (S : SH tg ln O) : tg 44 = 20 := S.1 36 (by decide)
theorem SH.t45 (S : SH tg ln O) : tg 45 = 20 := S.1 37 (by decide)
theorem SH.t46 (S : SH tg ln O) : tg 46 = 20 := S.1 38 (by decide)
theorem SH.t47 (S : SH tg ln O) : tg 47 = 20 := S.1 39 (by decide)
theorem SH.t48 (S : SH tg ln O) : tg 48 = 4 := S.1 40 (by decide)
theorem SH.t49 (S : SH tg ln O) : tg 49 = 20 := S.1 41 (by decide)
theorem SH.t50 (S : SH tg ln O) : tg 50 = 4 := S.1 42 (by decide)
theorem SH.t51 (S : SH tg ln O) : tg 51 = 20 := S.1 43 (by decide)
theorem SH.t52 (S : SH tg ln O) : tg 52 = 2 := S.1 44 (by decide)
theorem SH.t53 (S : SH tg ln O) : tg 53 = 23 := S.1 45 (by decide)
theorem SH.t54 (S : SH tg ln O) : tg 54 = 5 := S.1 46 (by decide)
theorem SH.t55 (S : SH tg ln O) : tg 55 = 20 := S.1 47 (by decide)
theorem SH.t56 (S : SH tg ln O) : tg 56 = 20 := S.1 48 (by decide)
theorem SH.t57 (S : SH tg ln O) : tg 57 = 20 := S.1 49 (by decide)
theorem SH.t58 (S : SH tg ln O) : tg 58 = 20 := S.1 50 (by decide)
theorem SH.t59 (S : SH tg ln O) : tg 59 = 20 := S.1 51 (by decide)
theorem SH.t60 (S : SH tg ln O) : tg 60 = 4 := S.1 52 (by decide)
theorem SH.t61 (S : SH tg ln O) : tg 61 = 20 := S.1 53 (by decide)
theorem SH.t62 (S : SH tg ln O) : tg 62 = 4 := S.1 54 (by decide)
theorem SH.t63 (S : SH tg ln O) : tg 63 = 20 := S.1 55 (by decide)
theorem SH.t64 (S : SH tg ln O) : tg 64 = 5 := S.1 56 (by decide)
theorem SH.t65 (S : SH tg ln O) : tg 65 = 20 := S.1 57 (by decide)
theorem SH.t66 (S : SH tg ln O) : tg 66 = 20 := S.1 58 (by decide)
theorem SH.t67 (S : SH tg ln O) : tg 67 = 20 := S.1 59 (by decide)
theorem SH.t68 (S : SH tg ln O) : tg 68 = 20 := S.1 60 (by decide)
theorem SH.t69 (S : SH tg ln O) : tg 69 = 20 := S.1 61 (by decide)
theorem SH.t70 (S : SH tg ln O) : tg 70 = 4 := S.1 62 (by decide)
theorem SH.t71 (S : SH tg ln O) : tg 71 = 20 := S.1 63 (by decide)
theorem SH.t72 (S : SH tg ln O) : tg 72 = 4 := S.1 64 (by decide)
theorem SH.t73 (S : SH tg ln O) : tg 73 = 20 := S.1 65 (by decide)
theorem SH.t74 (S : SH tg ln O) : tg 74 = 5 := S.1 66 (by decide)
theorem SH.t75 (S : SH tg ln O) : tg 75 = 20 := S.1 67 (by decide)
theorem SH.t76 (S : SH tg ln O) : tg 76 = 20 := S.1 68 (by decide)
theorem SH.t77 (S : SH tg ln O) : tg 77 = 20 := S.1 69 (by decide)
theorem SH.t78 (S : SH tg ln O) : tg 78 = 20 := S.1 70 (by decide)
theorem SH.t79 (S : SH tg ln O) : tg 79 = 20 := S.1 71 (by decide)
theorem SH.t80 (S : SH tg ln O) : tg 80 = 4 := S.1 72 (by decide)
theorem SH.t81 (S : SH tg ln O) : tg 81 = 20 := S.1 73 (by decide)
theorem SH.t82 (S : SH tg ln O) : tg 82 = 4 := S.1 74 (by decide)
theorem SH.t83 (S : SH tg ln O) : tg 83 = 20 := S.1 75 (by decide)
theorem SH.t84 (S : SH tg ln O) : tg 84 = 5 := S.1 76 (by decide)
theorem SH.t85 (S : SH tg ln O) : tg 85 = 20 := S.1 77 (by decide)
theorem SH.t86 (S : SH tg ln O) : tg 86 = 20 := S.1 78 (by decide)
theorem SH.t87 (S : SH tg ln O) : tg 87 = 20 := S.1 79 (by decide)
theorem SH.t88 (S : SH tg ln O) : tg 88 = 20 := S.1 80 (by decide)
theorem SH.t89 (S : SH tg ln O) : tg 89 = 20 := S.1 81 (by decide)
theorem SH.t90 (S : SH tg ln O) : tg 90 = 4 := S.1 82 (by decide)
theorem SH.t91 (S : SH tg ln O) : tg 91 = 20 := S.1 83 (by decide)
theorem SH.t92 (S : SH tg ln O) : tg 92 = 4 := S.1 84 (by decide)
theorem SH.t93 (S : SH tg ln O) : tg 93 = 20 := S.1 85 (by decide)
theorem SH.t94 (S : SH tg ln O) : tg 94 = 5 := S.1 86 (by decide)
theorem SH.t95 (S : SH tg ln O) : tg 95 = 20 := S.1 87 (by decide)
theorem SH.t96 (S : SH tg ln O) : tg 96 = 20 := S.1 88 (by decide)
theorem SH.t97 (S : SH tg ln O) : tg 97 = 20 := S.1 89 (by decide)
theorem SH.t98 (S : SH tg ln O) : tg 98 = 20 := S.1 90 (by decide)
theorem SH.t99 (S : SH tg ln O) : tg 99 = 20 := S.1 91 (by decide)
theorem SH.t100 (S : SH tg ln O) : tg 100 = 4 := S.1 92 (by decide)
theorem SH.t101 (S : SH tg ln O) : tg 101 = 20 := S.1 93 (by decide)
theorem SH.t102 (S : SH tg ln O) : tg 102 = 4 := S.1 94 (by decide)
theorem SH.t103 (S : SH tg ln O) : tg 103 = 20 := S.1 95 (by decide)
theorem SH.t104 (S : SH tg ln O) : tg 104 = 5 := S.1 96 (by decide)
theorem SH.t105 (S : SH tg ln O) : tg 105 = 20 := S.1 97 (by decide)
theorem SH.t106 (S : SH tg ln O) : tg 106 = 20 := S.1 98 (by decide)
theorem SH.t107 (S : SH tg ln O) : tg 107 = 20 := S.1 99 (by decide)
theorem SH.t108 (S : SH tg ln O) : tg 108 = 20 := S.1 100 (by decide)
theorem SH.t109 (S : SH tg ln O) : tg 109 = 20 := S.1 101 (by decide)
theorem SH.t110 (S : SH tg ln O) : tg 110 = 4 := S.1 102 (by decide)
theorem SH.t111 (S : SH tg ln O) : tg 111 = 20 := S.1 103 (by decide)
theorem SH.t112 (S : SH tg ln O) : tg 112 = 4 := S.1 104 (by decide)
theorem SH.t113 (S : SH tg ln O) : tg 113 = 20 := S.1 105 (by decide)
theorem SH.t114 (S : SH tg ln O) : tg 114 = 5 := S.1 106 (by decide)
theorem SH.t115 (S : SH tg ln O) : tg 115 = 20 := S.1 107 (by decide)
theorem SH.t116 (S : SH tg ln O) : tg 116 = 20 := S.1 108 (by decide)
theorem SH.t117 (S : SH tg ln O) : tg 117 = 20 := S.1 109 (by decide)
theorem SH.t118 (S : SH tg ln O) : tg 118 = 20 := S.1 110 (by decide)
theorem SH.t119 (S : SH tg ln O) : tg 119 = 20 := S.1 111 (by decide)
theorem SH.t120 (S : SH tg ln O) : tg 120 = 4 := S.1 112 (by decide)
theorem SH.t121 (S : SH tg ln O) : tg 121 = 20 := S.1 113 (by decide)
theorem SH.t122 (S : SH tg ln O) : tg 122 = 4 := S.1 114 (by decide)
theorem SH.t123 (S : SH tg ln O) : tg 123 = 20 := S.1 115 (by decide)
theorem SH.t124 (S : SH tg ln O) : tg 124 = 5 := S.1 116 (by decide)
theorem SH.t125 (S : SH tg ln O) : tg 125 = 20 := S.1 117 (by decide)
theorem SH.t126 (S : SH tg ln O) : tg 126 = 20 := S.1 118 (by decide)
theorem SH.t127 (S : SH tg ln O) : tg 127 = 20 := S.1 119 (by decide)
theorem SH.t128 (S : SH tg ln O) : tg 128 = 20 := S.1 120 (by decide)
theorem SH.t129 (S : SH tg ln O) : tg 129 = 20 := S.1 121 (by decide)
theorem SH.t130 (S : SH tg ln O) : tg 130 = 4 := S.1 122 (by decide)
theorem SH.t131 (S : SH tg ln O) : tg 131 = 20 := S.1 123 (by decide)
theorem SH.t132 (S : SH tg ln O) : tg 132 = 4 := S.1 124 (by decide)
theorem SH.t133 (S : SH tg ln O) : tg 133 = 20 := S.1 125 (by decide)
theorem SH.t134 (S : SH tg ln O) : tg 134 = 23 := S.1 126 (by decide)
theorem SH.t135 (S : SH tg ln O) : tg 135 = 5 := S.1 127 (by decide)
theorem SH.t136 (S : SH tg ln O) : tg 136 = 20 := S.1 128 (by decide)
theorem SH.t137 (S : SH tg ln O) : tg 137 = 20 := S.1 129 (by decide)
theorem SH.t138 (S : SH tg ln O) : tg 138 = 20 := S.1 130 (by decide)
theorem SH.t139 (S : SH tg ln O) : tg 139 = 20 := S.1 131 (by decide)
theorem SH.t140 (S : SH tg ln O) : tg 140 = 20 := S.1 132 (by decide)
theorem SH.t141 (S : SH tg ln O) : tg 141 = 4 := S.1 133 (by decide)
theorem SH.t142 (S : SH tg ln O) : tg 142 = 20 := S.1 134 (by decide)
theorem SH.t143 (S : SH tg ln O) : tg 143 = 4 := S.1 135 (by decide)
theorem SH.t144 (S : SH tg ln O) : tg 144 = 20 := S.1 136 (by decide)
theorem SH.t145 (S : SH tg ln O) : tg 145 = 5 := S.1 137 (by decide)
theorem SH.t146 (S : SH tg ln O) : tg 146 = 20 := S.1 138 (by decide)
theorem SH.t147 (S : SH tg ln O) : tg 147 = 20 := S.1 139 (by decide)
theorem SH.t148 (S : SH tg ln O) : tg 148 = 20 := S.1 140 (by decide)
theorem SH.t149 (S : SH tg ln O) : tg 149 = 20 := S.1 141 (by decide)
theorem SH.t150 (S : SH tg ln O) : tg 150 = 20 := S.1 142 (by decide)
theorem SH.t151 (S : SH tg ln O) : tg 151 = 4 := S.1 143 (by decide)
theorem SH.t152 (S : SH tg ln O) : tg 152 = 20 := S.1 144 (by decide)
theorem SH.t153 (S : SH tg ln O) : tg 153 = 4 := S.1 145 (by decide)
theorem SH.t154 (S : SH tg ln O) : tg 154 = 20 := S.1 146 (by decide)
theorem SH.t155 (S : SH tg ln O) : tg 155 = 22 := S.1 147 (by decide)
theorem SH.t156 (S : SH tg ln O) : tg 156 = 7 := S.1 148 (by decide)
theorem SH.t157 (S : SH tg ln O) : tg 157 = 20 := S.1 149 (by decide)
theorem SH.t158 (S : SH tg ln O) : tg 158 = 20 := S.1 150 (by decide)
theorem SH.t159 (S : SH tg ln O) : tg 159 = 24 := S.1 151 (by decide)
theorem SH.t160 (S : SH tg ln O) : tg 160 = 1 := S.1 152 (by decide)
theorem SH.t161 (S : SH tg ln O) : tg 161 = 25 := S.1 153 (by decide)
theorem SH.t162 (S : SH tg ln O) : tg 162 = 1 := S.1 154 (by decide)
theorem SH.t163 (S : SH tg ln O) : tg 163 = 25 := S.1 155 (by decide)
theorem SH.t164 (S : SH tg ln O) : tg 164 = 1 := S.1 156 (by decide)
theorem SH.t165 (S : SH tg ln O) : tg 165 = 25 := S.1 157 (by decide)
theorem SH.t166 (S : SH tg ln O) : tg 166 = 10 := S.1 158 (by decide)
theorem SH.t167 (S : SH tg ln O) : tg 167 = 20 := S.1 159 (by decide)
theorem SH.t168 (S : SH tg ln O) : tg 168 = 22 := S.1 160 (by decide)
theorem SH.t169 (S : SH tg ln O) : tg 169 = 20 := S.1 161 (by decide)
theorem SH.t170 (S : SH tg ln O) : tg 170 = 20 := S.1 162 (by decide)
theorem SH.t171 (S : SH tg ln O) : tg 171 = 20 := S.1 163 (by decide)
theorem SH.t172 (S : SH tg ln O) : tg 172 = 20 := S.1 164 (by decide)
theorem SH.t173 (S : SH tg ln O) : tg 173 = 20 := S.1 165 (by decide)
theorem SH.t174 (S : SH tg ln O) : tg 174 = 20 := S.1 166 (by decide)
theorem SH.t175 (S : SH tg ln O) : tg 175 = 21 := S.1 167 (by decide)
theorem SH.t176 (S : SH tg ln O) : tg 176 = 20 := S.1 168 (by decide)
theorem SH.t177 (S : SH tg ln O) : tg 177 = 20 := S.1 169 (by decide)
theorem SH.t178 (S : SH tg ln O) : tg 178 = 20 := S.1 170 (by decide)
theorem SH.t179 (S : SH tg ln O) : tg 179 = 20 := S.1 171 (by decide)
theorem SH.t180 (S : SH tg ln O) : tg 180 = 20 := S.1 172 (by decide)
theorem SH.t181 (S : SH tg ln O) : tg 181 = 20 := S.1 173 (by decide)
theorem SH.t182 (S : SH tg ln O) : tg 182 = 20 := S.1 174 (by decide)
theorem SH.t183 (S : SH tg ln O) : tg 183 = 20 := S.1 175 (by decide)
theorem SH.t184 (S : SH tg ln O) : tg 184 = 20 := S.1 176 (by decide)
theorem SH.t185 (S : SH tg ln O) : tg 185 = 20 := S.1 177 (by decide)
theorem SH.t186 (S : SH tg ln O) : tg 186 = 20 := S.1 178 (by decide)
theorem SH.t187 (S : SH tg ln O) : tg 187 = 21 := S.1 179 (by decide)
theorem SH.l10 (S : SH tg ln O) : ln 10 = 12 := S.2.1 2 (by decide)
theorem SH.l11 (S : SH tg ln O) : ln 11 = 12 := S.2.1 3 (by decide)
theorem SH.l12 (S : SH tg ln O) : ln 12 = 12 := S.2.1 4 (by decide)
theorem SH.l13 (S : SH tg ln O) : ln 13 = 12 := S.2.1 5 (by decide)
theorem SH.l14 (S : SH tg ln O) : ln 14 = 12 := S.2.1 6 (by decide)
theorem SH.l16 (S : SH tg ln O) : ln 16 = 12 := S.2.1 8 (by decide)
theorem SH.l18 (S : SH tg ln O) : ln 18 = 12 := S.2.1 10 (by decide)
theorem SH.l20 (S : SH tg ln O) : ln 20 = 12 := S.2.1 12 (by decide)
theorem SH.l21 (S : SH tg ln O) : ln 21 = 12 := S.2.1 13 (by decide)
theorem SH.l22 (S : SH tg ln O) : ln 22 = 12 := S.2.1 14 (by decide)
theorem SH.l23 (S : SH tg ln O) : ln 23 = 12 := S.2.1 15 (by decide)
theorem SH.l24 (S : SH tg ln O) : ln 24 = 12 := S.2.1 16 (by decide)
theorem SH.l26 (S : SH tg ln O) : ln 26 = 12 := S.2.1 18 (by decide)
theorem SH.l28 (S : SH tg ln O) : ln 28 = 12 := S.2.1 20 (by decide)
theorem SH.l31 (S : SH tg ln O) : ln 31 = 200 := S.2.1 23 (by decide)
theorem SH.l33 (S : SH tg ln O) : ln 33 = 12 := S.2.1 25 (by decide)
theorem SH.l34 (S : SH tg ln O) : ln 34 = 12 := S.2.1 26 (by decide)
theorem SH.l35 (S : SH tg ln O) : ln 35 = 12 := S.2.1 27 (by decide)
theorem SH.l36 (S : SH tg ln O) : ln 36 = 12 := S.2.1 28 (by decide)
theorem SH.l37 (S : SH tg ln O) : ln 37 = 12 := S.2.1 29 (by decide)
theorem SH.l39 (S : SH tg ln O) : ln 39 = 12 := S.2.1 31 (by decide)
theorem SH.l41 (S : SH tg ln O) : ln 41 = 12 := S.2.1 33 (by decide)
theorem SH.l43 (S : SH tg ln O) : ln 43 = 12 := S.2.1 35 (by decide)
theorem SH.l44 (S : SH tg ln O) : ln 44 = 12 := S.2.1 36 (by decide)
theorem SH.l45 (S : SH tg ln O) : ln 45 = 12 := S.2.1 37 (by decide)
theorem SH.l46 (S : SH tg ln O) : ln 46 = 12 := S.2.1 38 (by decide)
theorem SH.l47 (S : SH tg ln O) : ln 47 = 12 := S.2.1 39 (by decide)
theorem SH.l49 (S : SH tg ln O) : ln 49 = 12 := S.2.1 41 (by decide)
theorem SH.l51 (S : SH tg ln O) : ln 51 = 12 := S.2.1 43 (by decide)
theorem SH.l53 (S : SH tg ln O) : ln 53 = 8 := S.2.1 45 (by decide)
theorem SH.l55 (S : SH tg ln O) : ln 55 = 12 := S.2.1 47 (by decide)
theorem SH.l56 (S : SH tg ln O) : ln 56 = 12 := S.2.1 48 (by decide)
theorem SH.l57 (S : SH tg ln O) : ln 57 = 12 := S.2.1 49 (by decide)
theorem SH.l58 (S : SH tg ln O) : ln 58 = 12 := S.2.1 50 (by decide)
theorem SH.l59 (S : SH tg ln O) : ln 59 = 12 := S.2.1 51 (by decide)
theorem SH.l61 (S : SH tg ln O) : ln 61 = 12 := S.2.1 53 (by decide)
theorem SH.l63 (S : SH tg ln O) : ln 63 = 12 := S.2.1 55 (by decide)
theorem SH.l65 (S : SH tg ln O) : ln 65 = 12 := S.2.1 57 (by decide)
theorem SH.l66 (S : SH tg ln O) : ln 66 = 12 := S.2.1 58 (by decide)
theorem SH.l67 (S : SH tg ln O) : ln 67 = 12 := S.2.1 59 (by decide)
theorem SH.l68 (S : SH tg ln O) : ln 68 = 12 := S.2.1 60 (by decide)
theorem SH.l69 (S : SH tg ln O) : ln 69 = 12 := S.2.1 61 (by decide)
theorem SH.l71 (S : SH tg ln O) : ln 71 = 12 := S.2.1 63 (by decide)
theorem SH.l73 (S : SH tg ln O) : ln 73 = 12 := S.2.1 65 (by decide)
theorem SH.l75 (S : SH tg ln O) : ln 75 = 12 := S.2.1 67 (by decide)
theorem SH.l76 (S : SH tg ln O) : ln 76 = 12 := S.2.1 68 (by decide)
theorem SH.l77 (S : SH tg ln O) : ln 77 = 12 := S.2.1 69 (by decide)
theorem SH.l78 (S : SH tg ln O) : ln 78 = 12 := S.2.1 70 (by decide)
theorem SH.l79 (S : SH tg ln O) : ln 79 = 12 := S.2.1 71 (by decide)
theorem SH.l81 (S : SH tg ln O) : ln 81 = 12 := S.2.1 73 (by decide)
theorem SH.l83 (S : SH tg ln O) : ln 83 = 12 := S.2.1 75 (by decide)
theorem SH.l85 (S : SH tg ln O) : ln 85 = 12 := S.2.1 77 (by decide)
theorem SH.l86 (S : SH tg ln O) : ln 86 = 12 := S.2.1 78 (by decide)
theorem SH.l87 (S : SH tg ln O) : ln 87 = 12 := S.2.1 79 (by decide)
theorem SH.l88 (S : SH tg ln O) : ln 88 = 12 := S.2.1 80 (by decide)
theorem SH.l89 (S : SH tg ln O) : ln 89 = 12 := S.2.1 81 (by decide)
theorem SH.l91 (S : SH tg ln O) : ln 91 = 12 := S.2.1 83 (by decide)
theorem SH.l93 (S : SH tg ln O) : ln 93 = 12 := S.2.1 85 (by decide)
theorem SH.l95 (S : SH tg ln O) : ln 95 = 12 := S.2.1 87 (by decide)
theorem SH.l96 (S : SH tg ln O) : ln 96 = 12 := S.2.1 88 (by decide)
theorem SH.l97 (S : SH tg ln O) : ln 97 = 12 := S.2.1 89 (by decide)
theorem SH.l98 (S : SH tg ln O) : ln 98 = 12 := S.2.1 90 (by decide)
theorem SH.l99 (S : SH tg ln O) : ln 99 = 12 := S.2.1 91 (by decide)
theorem SH.l101 (S : SH tg ln O) : ln 101 = 12 := S.2.1 93 (by decide)
theorem SH.l103 (S : SH tg ln O) : ln 103 = 12 := S.2.1 95 (by decide)
theorem SH.l105 (S : SH tg ln O) : ln 105 = 12 := S.2.1 97 (by decide)
theorem SH.l106 (S : SH tg ln O) : ln 106 = 12 := S.2.1 98 (by decide)
theorem SH.l107 (S : SH tg ln O) : ln 107 = 12 := S.2.1 99 (by decide)
theorem SH.l108 (S : SH tg ln O) : ln 108 = 12 := S.2.1 100 (by decide)
theorem SH.l109 (S : SH tg ln O) : ln 109 = 12 := S.2.1 101 (by decide)
theorem SH.l111 (S : SH tg ln O) : ln 111 = 12 := S.2.1 103 (by decide)
theorem SH.l113 (S : SH tg ln O) : ln 113 = 12 := S.2.1 105 (by decide)
theorem SH.l115 (S : SH tg ln O) : ln 115 = 12 := S.2.1 107 (by decide)
theorem SH.l116 (S : SH tg ln O) : ln 116 = 12 := S.2.1 108 (by decide)
theorem SH.l117 (S : SH tg ln O) : ln 117 = 12 := S.2.1 109 (by decide)
theorem SH.l118 (S : SH tg ln O) : ln 118 = 12 := S.2.1 110 (by decide)
theorem SH.l119 (S : SH tg ln O) : ln 119 = 12 := S.2.1 111 (by decide)
theorem SH.l121 (S : SH tg ln O) : ln 121 = 12 := S.2.1 113 (by decide)
theorem SH.l123 (S : SH tg ln O) : ln 123 = 12 := S.2.1 115 (by decide)
theorem SH.l125 (S : SH tg ln O) : ln 125 = 12 := S.2.1 117 (by decide)
theorem SH.l126 (S : SH tg ln O) : ln 126 = 12 := S.2.1 118 (by decide)
theorem SH.l127 (S : SH tg ln O) : ln 127 = 12 := S.2.1 119 (by decide)
theorem SH.l128 (S : SH tg ln O) : ln 128 = 12 := S.2.1 120 (by decide)
theorem SH.l129 (S : SH tg ln O) : ln 129 = 12 := S.2.1 121 (by decide)
theorem SH.l131 (S : SH tg ln O) : ln 131 = 12 := S.2.1 123 (by decide)
theorem SH.l133 (S : SH tg ln O) : ln 133 = 12 := S.2.1 125 (by decide)
theorem SH.l134 (S : SH tg ln O) : ln 134 = 2 := S.2.1 126 (by decide)
theorem SH.l136 (S : SH tg ln O) : ln 136 = 12 := S.2.1 128 (by decide)
theorem SH.l137 (S : SH tg ln O) : ln 137 = 12 := S.2.1 129 (by decide)
theorem SH.l138 (S : SH tg ln O) : ln 138 = 12 := S.2.1 130 (by decide)
theorem SH.l139 (S : SH tg ln O) : ln 139 = 12 := S.2.1 131 (by decide)
theorem SH.l140 (S : SH tg ln O) : ln 140 = 12 := S.2.1 132 (by decide)
theorem SH.l142 (S : SH tg ln O) : ln 142 = 12 := S.2.1 134 (by decide)
theorem SH.l144 (S : SH tg ln O) : ln 144 = 12 := S.2.1 136 (by decide)
theorem SH.l146 (S : SH tg ln O) : ln 146 = 12 := S.2.1 138 (by decide)
theorem SH.l147 (S : SH tg ln O) : ln 147 = 12 := S.2.1 139 (by decide)
theorem SH.l148 (S : SH tg ln O) : ln 148 = 12 := S.2.1 140 (by decide)
theorem SH.l149 (S : SH tg ln O) : ln 149 = 12 := S.2.1 141 (by decide)
theorem SH.l150 (S : SH tg ln O) : ln 150 = 12 := S.2.1 142 (by decide)
theorem SH.l152 (S : SH tg ln O) : ln 152 = 12 := S.2.1 144 (by decide)
theorem SH.l154 (S : SH tg ln O) : ln 154 = 12 := S.2.1 146 (by decide)
theorem SH.l155 (S : SH tg ln O) : ln 155 = 2 := S.2.1 147 (by decide)
theorem SH.l157 (S : SH tg ln O) : ln 157 = 6 := S.2.1 149 (by decide)
theorem SH.l158 (S : SH tg ln O) : ln 158 = 6 := S.2.1 150 (by decide)
theorem SH.l159 (S : SH tg ln O) : ln 159 = 3 := S.2.1 151 (by decide)
theorem SH.l161 (S : SH tg ln O) : ln 161 = 12 := S.2.1 153 (by decide)
theorem SH.l163 (S : SH tg ln O) : ln 163 = 12 := S.2.1 155 (by decide)
theorem SH.l165 (S : SH tg ln O) : ln 165 = 12 := S.2.1 157 (by decide)
theorem SH.l167 (S : SH tg ln O) : ln 167 = 1170 := S.2.1 159 (by decide)
theorem SH.l168 (S : SH tg ln O) : ln 168 = 2 := S.2.1 160 (by decide)
theorem SH.l169 (S : SH tg ln O) : ln 169 = 200 := S.2.1 161 (by decide)
theorem SH.l170 (S : SH tg ln O) : ln 170 = 6 := S.2.1 162 (by decide)
theorem SH.l171 (S : SH tg ln O) : ln 171 = 6 := S.2.1 163 (by decide)
theorem SH.l172 (S : SH tg ln O) : ln 172 = 3 := S.2.1 164 (by decide)
theorem SH.l173 (S : SH tg ln O) : ln 173 = 36 := S.2.1 165 (by decide)
theorem SH.l174 (S : SH tg ln O) : ln 174 = 36 := S.2.1 166 (by decide)
theorem SH.l175 (S : SH tg ln O) : ln 175 = 36 := S.2.1 167 (by decide)
theorem SH.l176 (S : SH tg ln O) : ln 176 = 2 := S.2.1 168 (by decide)
theorem SH.l177 (S : SH tg ln O) : ln 177 = 2 := S.2.1 169 (by decide)
theorem SH.l178 (S : SH tg ln O) : ln 178 = 5 := S.2.1 170 (by decide)
theorem SH.l179 (S : SH tg ln O) : ln 179 = 6 := S.2.1 171 (by decide)
theorem SH.l180 (S : SH tg ln O) : ln 180 = 6 := S.2.1 172 (by decide)
theorem SH.l181 (S : SH tg ln O) : ln 181 = 3 := S.2.1 173 (by decide)
theorem SH.l182 (S : SH tg ln O) : ln 182 = 5 := S.2.1 174 (by decide)
theorem SH.l183 (S : SH tg ln O) : ln 183 = 3 := S.2.1 175 (by decide)
theorem SH.l184 (S : SH tg ln O) : ln 184 = 3 := S.2.1 176 (by decide)
theorem SH.l185 (S : SH tg ln O) : ln 185 = 12 := S.2.1 177 (by decide)
theorem SH.l186 (S : SH tg ln O) : ln 186 = 12 := S.2.1 178 (by decide)
theorem SH.l187 (S : SH tg ln O) : ln 187 = 12 := S.2.1 179 (by decide)
theorem SH.o8_0 (S : SH tg ln O) : O 8 0 = some 9 := S.2.2 0 (8, 0, 9) rfl
theorem SH.o8_1 (S : SH tg ln O) : O 8 1 = some 19 := S.2.2 1 (8, 1, 19) rfl
theorem SH.o8_2 (S : SH tg ln O) : O 8 2 = some 29 := S.2.2 2 (8, 2, 29) rfl
theorem SH.o8_3 (S : SH tg ln O) : O 8 3 = some 52 := S.2.2 3 (8, 3, 52) rfl
theorem SH.o8_4 (S : SH tg ln O) : O 8 4 = some 134 := S.2.2 4 (8, 4, 134) rfl
theorem SH.o8_5 (S : SH tg ln O) : O 8 5 = some 155 := S.2.2 5 (8, 5, 155) rfl
theorem SH.o8_6 (S : SH tg ln O) : O 8 6 = some 156 := S.2.2 6 (8, 6, 156) rfl
theorem SH.o8_7 (S : SH tg ln O) : O 8 7 = some 159 := S.2.2 7 (8, 7, 159) rfl
theorem SH.o9_0 (S : SH tg ln O) : O 9 0 = some 10 := S.2.2 8 (9, 0, 10) rfl
theorem SH.o9_1 (S : SH tg ln O) : O 9 1 = some 11 := S.2.2 9 (9, 1, 11) rfl
theorem SH.o9_2 (S : SH tg ln O) : O 9 2 = some 12 := S.2.2 10 (9, 2, 12) rfl
theorem SH.o9_3 (S : SH tg ln O) : O 9 3 = some 13 := S.2.2 11 (9, 3, 13) rfl
theorem SH.o9_4 (S : SH tg ln O) : O 9 4 = some 14 := S.2.2 12 (9, 4, 14) rfl
theorem SH.o9_9 (S : SH tg ln O) : O 9 9 = some 15 := S.2.2 13 (9, 9, 15) rfl
theorem SH.o9_10 (S : SH tg ln O) : O 9 10 = some 17 := S.2.2 14 (9, 10, 17) rfl
theorem SH.o15_0 (S : SH tg ln O) : O 15 0 = some 16 := S.2.2 15 (15, 0, 16) rfl
theorem SH.o17_0 (S : SH tg ln O) : O 17 0 = some 18 := S.2.2 16 (17, 0, 18) rfl
theorem SH.o19_0 (S : SH tg ln O) : O 19 0 = some 20 := S.2.2 17 (19, 0, 20) rfl
theorem SH.o19_1 (S : SH tg ln O) : O 19 1 = some 21 := S.2.2 18 (19, 1, 21) rfl
theorem SH.o19_2 (S : SH tg ln O) : O 19 2 = some 22 := S.2.2 19 (19, 2, 22) rfl
theorem SH.o19_3 (S : SH tg ln O) : O 19 3 = some 23 := S.2.2 20 (19, 3, 23) rfl
theorem SH.o19_4 (S : SH tg ln O) : O 19 4 = some 24 := S.2.2 21 (19, 4, 24) rfl
theorem SH.o19_9 (S : SH tg ln O) : O 19 9 = some 25 := S.2.2 22 (19, 9, 25) rfl
theorem SH.o19_10 (S : SH tg ln O) : O 19 10 = some 27 := S.2.2 23 (19, 10, 27) rfl
theorem SH.o25_0 (S : SH tg ln O) : O 25 0 = some 26 := S.2.2 24 (25, 0, 26) rfl
theorem SH.o27_0 (S : SH tg ln O) : O 27 0 = some 28 := S.2.2 25 (27, 0, 28) rfl
theorem SH.o29_0 (S : SH tg ln O) : O 29 0 = some 30 := S.2.2 26 (29, 0, 30) rfl
theorem SH.o29_1 (S : SH tg ln O) : O 29 1 = some 32 := S.2.2 27 (29, 1, 32) rfl
theorem SH.o29_2 (S : SH tg ln O) : O 29 2 = some 42 := S.2.2 28 (29, 2, 42) rfl
theorem SH.o30_0 (S : SH tg ln O) : O 30 0 = some 31 := S.2.2 29 (30, 0, 31) rfl
theorem SH.o32_0 (S : SH tg ln O) : O 32 0 = some 33 := S.2.2 30 (32, 0, 33) rfl
theorem SH.o32_1 (S : SH tg ln O) : O 32 1 = some 34 := S.2.2 31 (32, 1, 34) rfl
theorem SH.o32_2 (S : SH tg ln O) : O 32 2 = some 35 := S.2.2 32 (32, 2, 35) rfl
theorem SH.o32_3 (S : SH tg ln O) : O 32 3 = some 36 := S.2.2 33 (32, 3, 36) rfl
theorem SH.o32_4 (S : SH tg ln O) : O 32 4 = some 37 := S.2.2 34 (32, 4, 37) rfl
theorem SH.o32_9 (S : SH tg ln O) : O 32 9 = some 38 := S.2.2 35 (32, 9, 38) rfl
theorem SH.o32_10 (S : SH tg ln O) : O 32 10 = some 40 := S.2.2 36 (32, 10, 40) rfl
theorem SH.o38_0 (S : SH tg ln O) : O 38 0 = some 39 := S.2.2 37 (38, 0, 39) rfl
theorem SH.o40_0 (S : SH tg ln O) : O 40 0 = some 41 := S.2.2 38 (40, 0, 41) rfl
theorem SH.o42_0 (S : SH tg ln O) : O 42 0 = some 43 := S.2.2 39 (42, 0, 43) rfl
theorem SH.o42_1 (S : SH tg ln O) : O 42 1 = some 44 := S.2.2 40 (42, 1, 44) rfl
theorem SH.o42_2 (S : SH tg ln O) : O 42 2 = some 45 := S.2.2 41 (42, 2, 45) rfl
theorem SH.o42_3 (S : SH tg ln O) : O 42 3 = some 46 := S.2.2 42 (42, 3, 46) rfl
theorem SH.o42_4 (S : SH tg ln O) : O 42 4 = some 47 := S.2.2 43 (42, 4, 47) rfl
theorem SH.o42_9 (S : SH tg ln O) : O 42 9 = some 48 := S.2.2 44 (42, 9, 48) rfl
theorem SH.o42_10 (S : SH tg ln O) : O 42 10 = some 50 := S.2.2 45 (42, 10, 50) rfl
theorem SH.o48_0 (S : SH tg ln O) : O 48 0 = some 49 := S.2.2 46 (48, 0, 49) rfl
theorem SH.o50_0 (S : SH tg ln O) : O 50 0 = some 51 := S.2.2 47 (50, 0, 51) rfl
theorem SH.o52_0 (S : SH tg ln O) : O 52 0 = some 53 := S.2.2 48 (52, 0, 53) rfl
theorem SH.o53_0 (S : SH tg ln O) : O 53 0 = some 54 := S.2.2 49 (53, 0, 54) rfl
theorem SH.o53_1 (S : SH tg ln O) : O 53 1 = some 64 := S.2.2 50 (53, 1, 64) rfl
theorem SH.o53_2 (S : SH tg ln O) : O 53 2 = some 74 := S.2.2 51 (53, 2, 74) rfl
theorem SH.o53_3 (S : SH tg ln O) : O 53 3 = some 84 := S.2.2 52 (53, 3, 84) rfl
theorem SH.o53_4 (S : SH tg ln O) : O 53 4 = some 94 := S.2.2 53 (53, 4, 94) rfl
theorem SH.o53_5 (S : SH tg ln O) : O 53 5 = some 104 := S.2.2 54 (53, 5, 104) rfl
theorem SH.o53_6 (S : SH tg ln O) : O 53 6 = some 114 := S.2.2 55 (53, 6, 114) rfl
theorem SH.o53_7 (S : SH tg ln O) : O 53 7 = some 124 := S.2.2 56 (53, 7, 124) rfl
theorem SH.o54_0 (S : SH tg ln O) : O 54 0 = some 55 := S.2.2 57 (54, 0, 55) rfl
theorem SH.o54_1 (S : SH tg ln O) : O 54 1 = some 56 := S.2.2 58 (54, 1, 56) rfl
theorem SH.o54_2 (S : SH tg ln O) : O 54 2 = some 57 := S.2.2 59 (54, 2, 57) rfl
theorem SH.o54_3 (S : SH tg ln O) : O 54 3 = some 58 := S.2.2 60 (54, 3, 58) rfl
theorem SH.o54_4 (S : SH tg ln O) : O 54 4 = some 59 := S.2.2 61 (54, 4, 59) rfl
theorem SH.o54_9 (S : SH tg ln O) : O 54 9 = some 60 := S.2.2 62 (54, 9, 60) rfl
theorem SH.o54_10 (S : SH tg ln O) : O 54 10 = some 62 := S.2.2 63 (54, 10, 62) rfl
theorem SH.o60_0 (S : SH tg ln O) : O 60 0 = some 61 := S.2.2 64 (60, 0, 61) rfl
theorem SH.o62_0 (S : SH tg ln O) : O 62 0 = some 63 := S.2.2 65 (62, 0, 63) rfl
theorem SH.o64_0 (S : SH tg ln O) : O 64 0 = some 65 := S.2.2 66 (64, 0, 65) rfl
theorem SH.o64_1 (S : SH tg ln O) : O 64 1 = some 66 := S.2.2 67 (64, 1, 66) rfl
theorem SH.o64_2 (S : SH tg ln O) : O 64 2 = some 67 := S.2.2 68 (64, 2, 67) rfl
theorem SH.o64_3 (S : SH tg ln O) : O 64 3 = some 68 := S.2.2 69 (64, 3, 68) rfl
theorem SH.o64_4 (S : SH tg ln O) : O 64 4 = some 69 := S.2.2 70 (64, 4, 69) rfl
theorem SH.o64_9 (S : SH tg ln O) : O 64 9 = some 70 := S.2.2 71 (64, 9, 70) rfl
theorem SH.o64_10 (S : SH tg ln O) : O 64 10 = some 72 := S.2.2 72 (64, 10, 72) rfl
theorem SH.o70_0 (S : SH tg ln O) : O 70 0 = some 71 := S.2.2 73 (70, 0, 71) rfl
theorem SH.o72_0 (S : SH tg ln O) : O 72 0 = some 73 := S.2.2 74 (72, 0, 73) rfl
theorem SH.o74_0 (S : SH tg ln O) : O 74 0 = some 75 := S.2.2 75 (74, 0, 75) rfl
theorem SH.o74_1 (S : SH tg ln O) : O 74 1 = some 76 := S.2.2 76 (74, 1, 76) rfl
theorem SH.o74_2 (S : SH tg ln O) : O 74 2 = some 77 := S.2.2 77 (74, 2, 77) rfl
theorem SH.o74_3 (S : SH tg ln O) : O 74 3 = some 78 := S.2.2 78 (74, 3, 78) rfl
theorem SH.o74_4 (S : SH tg ln O) : O 74 4 = some 79 := S.2.2 79 (74, 4, 79) rfl
theorem SH.o74_9 (S : SH tg ln O) : O 74 9 = some 80 := S.2.2 80 (74, 9, 80) rfl
theorem SH.o74_10 (S : SH tg ln O) : O 74 10 = some 82 := S.2.2 81 (74, 10, 82) rfl
theorem SH.o80_0 (S : SH tg ln O) : O 80 0 = some 81 := S.2.2 82 (80, 0, 81) rfl
theorem SH.o82_0 (S : SH tg ln O) : O 82 0 = some 83 := S.2.2 83 (82, 0, 83) rfl
theorem SH.o84_0 (S : SH tg ln O) : O 84 0 = some 85 := S.2.2 84 (84, 0, 85) rfl
theorem SH.o84_1 (S : SH tg ln O) : O 84 1 = some 86 := S.2.2 85 (84, 1, 86) rfl
theorem SH.o84_2 (S : SH tg ln O) : O 84 2 = some 87 := S.2.2 86 (84, 2, 87) rfl
theorem SH.o84_3 (S : SH tg ln O) : O 84 3 = some 88 := S.2.2 87 (84, 3, 88) rfl
theorem SH.o84_4 (S : SH tg ln O) : O 84 4 = some 89 := S.2.2 88 (84, 4, 89) rfl
theorem SH.o84_9 (S : SH tg ln O) : O 84 9 = some 90 := S.2.2 89 (84, 9, 90) rfl
theorem SH.o84_10 (S : SH tg ln O) : O 84 10 = some 92 := S.2.2 90 (84, 10, 92) rfl
theorem SH.o90_0 (S : SH tg ln O) : O 90 0 = some 91 := S.2.2 91 (90, 0, 91) rfl
theorem SH.o92_0 (S : SH tg ln O) : O 92 0 = some 93 := S.2.2 92 (92, 0, 93) rfl
theorem SH.o94_0 (S : SH tg ln O) : O 94 0 = some 95 := S.2.2 93 (94, 0, 95) rfl
theorem SH.o94_1 (S : SH tg ln O) : O 94 1 = some 96 := S.2.2 94 (94, 1, 96) rfl
theorem SH.o94_2 (S : SH tg ln O) : O 94 2 = some 97 := S.2.2 95 (94, 2, 97) rfl
theorem SH.o94_3 (S : SH tg ln O) : O 94 3 = some 98 := S.2.2 96 (94, 3, 98) rfl
theorem SH.o94_4 (S : SH tg ln O) : O 94 4 = some 99 := S.2.2 97 (94, 4, 99) rfl
theorem SH.o94_9 (S : SH tg ln O) : O 94 9 = some 100 := S.2.2 98 (94, 9, 100) rfl
theorem SH.o94_10 (S : SH tg ln O) : O 94 10 = some 102 := S.2.2 99 (94, 10, 102) rfl
theorem SH.o100_0 (S : SH tg ln O) : O 100 0 = some 101 := S.2.2 100 (100, 0, 101) rfl
theorem SH.o102_0 (S : SH tg ln O) : O 102 0 = some 103 := S.2.2 101 (102, 0, 103) rfl
theorem SH.o104_0 (S : SH tg ln O) : O 104 0 = some 105 := S.2.2 102 (104, 0, 105) rfl
theorem SH.o104_1 (S : SH tg ln O) : O 104 1 = some 106 := S.2.2 103 (104, 1, 106) rfl
theorem SH.o104_2 (S : SH tg ln O) : O 104 2 = some 107 := S.2.2 104 (104, 2, 107) rfl
theorem SH.o104_3 (S : SH tg ln O) : O 104 3 = some 108 := S.2.2 105 (104, 3, 108) rfl
theorem SH.o104_4 (S : SH tg ln O) : O 104 4 = some 109 := S.2.2 106 (104, 4, 109) rfl
theorem SH.o104_9 (S : SH tg ln O) : O 104 9 = some 110 := S.2.2 107 (104, 9, 110) rfl
theorem SH.o104_10 (S : SH tg ln O) : O 104 10 = some 112 := S.2.2 108 (104, 10, 112) rfl
theorem SH.o110_0 (S : SH tg ln O) : O 110 0 = some 111 := S.2.2 109 (110, 0, 111) rfl
theorem SH.o112_0 (S : SH tg ln O) : O 112 0 = some 113 := S.2.2 110 (112, 0, 113) rfl
theorem SH.o114_0 (S : SH tg ln O) : O 114 0 = some 115 := S.2.2 111 (114, 0, 115) rfl
theorem SH.o114_1 (S : SH tg ln O) : O 114 1 = some 116 := S.2.2 112 (114, 1, 116) rfl
theorem SH.o114_2 (S : SH tg ln O) : O 114 2 = some 117 := S.2.2 113 (114, 2, 117) rfl
theorem SH.o114_3 (S : SH tg ln O) : O 114 3 = some 118 := S.2.2 114 (114, 3, 118) rfl
theorem SH.o114_4 (S : SH tg ln O) : O 114 4 = some 119 := S.2.2 115 (114, 4, 119) rfl
theorem SH.o114_9 (S : SH tg ln O) : O 114 9 = some 120 := S.2.2 116 (114, 9, 120) rfl
theorem SH.o114_10 (S : SH tg ln O) : O 114 10 = some 122 := S.2.2 117 (114, 10, 122) rfl
theorem SH.o120_0 (S : SH tg ln O) : O 120 0 = some 121 := S.2.2 118 (120, 0, 121) rfl
theorem SH.o122_0 (S : SH tg ln O) : O 122 0 = some 123 := S.2.2 119 (122, 0, 123) rfl
theorem SH.o124_0 (S : SH tg ln O) : O 124 0 = some 125 := S.2.2 120 (124, 0, 125) rfl
theorem SH.o124_1 (S : SH tg ln O) : O 124 1 = some 126 := S.2.2 121 (124, 1, 126) rfl
theorem SH.o124_2 (S : SH tg ln O) : O 124 2 = some 127 := S.2.2 122 (124, 2, 127) rfl
theorem SH.o124_3 (S : SH tg ln O) : O 124 3 = some 128 := S.2.2 123 (124, 3, 128) rfl
theorem SH.o124_4 (S : SH tg ln O) : O 124 4 = some 129 := S.2.2 124 (124, 4, 129) rfl
theorem SH.o124_9 (S : SH tg ln O) : O 124 9 = some 130 := S.2.2 125 (124, 9, 130) rfl
theorem SH.o124_10 (S : SH tg ln O) : O 124 10 = some 132 := S.2.2 126 (124, 10, 132) rfl
theorem SH.o130_0 (S : SH tg ln O) : O 130 0 = some 131 := S.2.2 127 (130, 0, 131) rfl
theorem SH.o132_0 (S : SH tg ln O) : O 132 0 = some 133 := S.2.2 128 (132, 0, 133) rfl
theorem SH.o134_0 (S : SH tg ln O) : O 134 0 = some 135 := S.2.2 129 (134, 0, 135) rfl
theorem SH.o134_1 (S : SH tg ln O) : O 134 1 = some 145 := S.2.2 130 (134, 1, 145) rfl
theorem SH.o135_0 (S : SH tg ln O) : O 135 0 = some 136 := S.2.2 131 (135, 0, 136) rfl
theorem SH.o135_1 (S : SH tg ln O) : O 135 1 = some 137 := S.2.2 132 (135, 1, 137) rfl
theorem SH.o135_2 (S : SH tg ln O) : O 135 2 = some 138 := S.2.2 133 (135, 2, 138) rfl
theorem SH.o135_3 (S : SH tg ln O) : O 135 3 = some 139 := S.2.2 134 (135, 3, 139) rfl
theorem SH.o135_4 (S : SH tg ln O) : O 135 4 = some 140 := S.2.2 135 (135, 4, 140) rfl
theorem SH.o135_9 (S : SH tg ln O) : O 135 9 = some 141 := S.2.2 136 (135, 9, 141) rfl
theorem SH.o135_10 (S : SH tg ln O) : O 135 10 = some 143 := S.2.2 137 (135, 10, 143) rfl
theorem SH.o141_0 (S : SH tg ln O) : O 141 0 = some 142 := S.2.2 138 (141, 0, 142) rfl
theorem SH.o143_0 (S : SH tg ln O) : O 143 0 = some 144 := S.2.2 139 (143, 0, 144) rfl
theorem SH.o145_0 (S : SH tg ln O) : O 145 0 = some 146 := S.2.2 140 (145, 0, 146) rfl
theorem SH.o145_1 (S : SH tg ln O) : O 145 1 = some 147 := S.2.2 141 (145, 1, 147) rfl
theorem SH.o145_2 (S : SH tg ln O) : O 145 2 = some 148 := S.2.2 142 (145, 2, 148) rfl
theorem SH.o145_3 (S : SH tg ln O) : O 145 3 = some 149 := S.2.2 143 (145, 3, 149) rfl
theorem SH.o145_4 (S : SH tg ln O) : O 145 4 = some 150 := S.2.2 144 (145, 4, 150) rfl
theorem SH.o145_9 (S : SH tg ln O) : O 145 9 = some 151 := S.2.2 145 (145, 9, 151) rfl
theorem SH.o145_10 (S : SH tg ln O) : O 145 10 = some 153 := S.2.2 146 (145, 10, 153) rfl
theorem SH.o151_0 (S : SH tg ln O) : O 151 0 = some 152 := S.2.2 147 (151, 0, 152) rfl
theorem SH.o153_0 (S : SH tg ln O) : O 153 0 = some 154 := S.2.2 148 (153, 0, 154) rfl
theorem SH.o156_0 (S : SH tg ln O) : O 156 0 = some 157 := S.2.2 149 (156, 0, 157) rfl
theorem SH.o156_1 (S : SH tg ln O) : O 156 1 = some 158 := S.2.2 150 (156, 1, 158) rfl
theorem SH.o159_0 (S : SH tg ln O) : O 159 0 = some 160 := S.2.2 151 (159, 0, 160) rfl
theorem SH.o159_1 (S : SH tg ln O) : O 159 1 = some 162 := S.2.2 152 (159, 1, 162) rfl
theorem SH.o159_2 (S : SH tg ln O) : O 159 2 = some 164 := S.2.2 153 (159, 2, 164) rfl
theorem SH.o160_0 (S : SH tg ln O) : O 160 0 = some 161 := S.2.2 154 (160, 0, 161) rfl
theorem SH.o162_0 (S : SH tg ln O) : O 162 0 = some 163 := S.2.2 155 (162, 0, 163) rfl
theorem SH.o164_0 (S : SH tg ln O) : O 164 0 = some 165 := S.2.2 156 (164, 0, 165) rfl
theorem SH.o166_0 (S : SH tg ln O) : O 166 0 = some 167 := S.2.2 157 (166, 0, 167) rfl
theorem SH.o166_2 (S : SH tg ln O) : O 166 2 = some 168 := S.2.2 158 (166, 2, 168) rfl
theorem SH.o166_3 (S : SH tg ln O) : O 166 3 = some 169 := S.2.2 159 (166, 3, 169) rfl
theorem SH.o166_6 (S : SH tg ln O) : O 166 6 = some 170 := S.2.2 160 (166, 6, 170) rfl
theorem SH.o166_7 (S : SH tg ln O) : O 166 7 = some 171 := S.2.2 161 (166, 7, 171) rfl
theorem SH.o166_8 (S : SH tg ln O) : O 166 8 = some 172 := S.2.2 162 (166, 8, 172) rfl
theorem SH.o166_9 (S : SH tg ln O) : O 166 9 = some 173 := S.2.2 163 (166, 9, 173) rfl
theorem SH.o166_10 (S : SH tg ln O) : O 166 10 = some 174 := S.2.2 164 (166, 10, 174) rfl
theorem SH.o166_11 (S : SH tg ln O) : O 166 11 = some 175 := S.2.2 165 (166, 11, 175) rfl
theorem SH.o166_15 (S : SH tg ln O) : O 166 15 = some 176 := S.2.2 166 (166, 15, 176) rfl
theorem SH.o166_18 (S : SH tg ln O) : O 166 18 = some 177 := S.2.2 167 (166, 18, 177) rfl
theorem SH.o166_19 (S : SH tg ln O) : O 166 19 = some 178 := S.2.2 168 (166, 19, 178) rfl
theorem SH.o166_20 (S : SH tg ln O) : O 166 20 = some 179 := S.2.2 169 (166, 20, 179) rfl
theorem SH.o166_21 (S : SH tg ln O) : O 166 21 = some 180 := S.2.2 170 (166, 21, 180) rfl
theorem SH.o166_22 (S : SH tg ln O) : O 166 22 = some 181 := S.2.2 171 (166, 22, 181) rfl
theorem SH.o166_23 (S : SH tg ln O) : O 166 23 = some 182 := S.2.2 172 (166, 23, 182) rfl
theorem SH.o166_24 (S : SH tg ln O) : O 166 24 = some 183 := S.2.2 173 (166, 24, 183) rfl
theorem SH.o166_25 (S : SH tg ln O) : O 166 25 = some 184 := S.2.2 174 (166, 25, 184) rfl
theorem SH.o166_26 (S : SH tg ln O) : O 166 26 = some 185 := S.2.2 175 (166, 26, 185) rfl
theorem SH.o166_27 (S : SH tg ln O) : O 166 27 = some 186 := S.2.2 176 (166, 27, 186) rfl
theorem SH.o166_28 (S : SH tg ln O) : O 166 28 = some 187 := S.2.2 177 (166, 28, 187) rfl
theorem SH.p9 (S : SH tg ln O) : PlSh tg ln O 9 := ⟨⟨S.t9, S.t10, S.t11, S.t12, S.t13, S.t14, S.t15, S.t16, S.t17, S.t18⟩, ⟨S.l10, S.l11, S.l12, S.l13, S.l14, S.l16, S.l18⟩, ⟨S.o9_0, S.o9_1, S.o9_2, S.o9_3, S.o9_4, S.o9_9, S.o9_10, S.o15_0, S.o17_0⟩⟩
theorem SH.p19 (S : SH tg ln O) : PlSh tg ln O 19 := ⟨⟨S.t19, S.t20, S.t21, S.t22, S.t23, S.t24, S.t25, S.t26, S.t27, S.t28⟩, ⟨S.l20, S.l21, S.l22, S.l23, S.l24, S.l26, S.l28⟩, ⟨S.o19_0, S.o19_1, S.o19_2, S.o19_3, S.o19_4, S.o19_9, S.o19_10, S.o25_0, S.o27_0⟩⟩
theorem SH.p32 (S : SH tg ln O) : PlSh tg ln O 32 := ⟨⟨S.t32, S.t33, S.t34, S.t35, S.t36, S.t37, S.t38, S.t39, S.t40, S.t41⟩, ⟨S.l33, S.l34, S.l35, S.l36, S.l37, S.l39, S.l41⟩, ⟨S.o32_0, S.o32_1, S.o32_2, S.o32_3, S.o32_4, S.o32_9, S.o32_10, S.o38_0, S.o40_0⟩⟩
theorem SH.p42 (S : SH tg ln O) : PlSh tg ln O 42 := ⟨⟨S.t42, S.t43, S.t44, S.t45, S.t46, S.t47, S.t48, S.t49, S.t50, S.t51⟩, ⟨S.l43, S.l44, S.l45, S.l46, S.l47, S.l49, S.l51⟩, ⟨S.o42_0, S.o42_1, S.o42_2, S.o42_3, S.o42_4, S.o42_9, S.o42_10, S.o48_0, S.o50_0⟩⟩
theorem SH.p54 (S : SH tg ln O) : PlSh tg ln O 54 := ⟨⟨S.t54, S.t55, S.t56, S.t57, S.t58, S.t59, S.t60, S.t61, S.t62, S.t63⟩, ⟨S.l55, S.l56, S.l57, S.l58, S.l59, S.l61, S.l63⟩, ⟨S.o54_0, S.o54_1, S.o54_2, S.o54_3, S.o54_4, S.o54_9, S.o54_10, S.o60_0, S.o62_0⟩⟩
theorem SH.p64 (S : SH tg ln O) : PlSh tg ln O 64 := ⟨⟨S.t64, S.t65, S.t66, S.t67, S.t68, S.t69, S.t70, S.t71, S.t72, S.t73⟩, ⟨S.l65, S.l66, S.l67, S.l68, S.l69, S.l71, S.l73⟩, ⟨S.o64_0, S.o64_1, S.o64_2, S.o64_3, S.o64_4, S.o64_9, S.o64_10, S.o70_0, S.o72_0⟩⟩
theorem SH.p74 (S : SH tg ln O) : PlSh tg ln O 74 := ⟨⟨S.t74, S.t75, S.t76, S.t77, S.t78, S.t79, S.t80, S.t81, S.t82, S.t83⟩, ⟨S.l75, S.l76, S.l77, S.l78, S.l79, S.l81, S.l83⟩, ⟨S.o74_0, S.o74_1, S.o74_2, S.o74_3, S.o74_4, S.o74_9, S.o74_10, S.o80_0, S.o82_0⟩⟩
theorem SH.p84 (S : SH tg ln O) : PlSh tg ln O 84 := ⟨⟨S.t84, S.t85, S.t86, S.t87, S.t88, S.t89, S.t90, S.t91, S.t92, S.t93⟩, ⟨S.l85, S.l86, S.l87, S.l88, S.l89, S.l91, S.l93⟩, ⟨S.o84_0, S.o84_1, S.o84_2, S.o84_3, S.o84_4, S.o84_9, S.o84_10, S.o90_0, S.o92_0⟩⟩
theorem SH.p94 (S : SH tg ln O) : PlSh tg ln O 94 := ⟨⟨S.t94, S.t95, S.t96, S.t97, S.t98, S.t99, S.t100, S.t101, S.t102, S.t103⟩, ⟨S.l95, S.l96, S.l97, S.l98, S.l99, S.l101, S.l103⟩, ⟨S.o94_0, S.o94_1, S.o94_2, S.o94_3, S.o94_4, S.o94_9, S.o94_10, S.o100_0, S.o102_0⟩⟩
theorem SH.p104 (S : SH tg ln O) : PlSh tg ln O 104 := ⟨⟨S.t104, S.t105, S.t106, S.t107, S.t108, S.t109, S.t110, S.t111, S.t112, S.t113⟩, ⟨S.l105, S.l106, S.l107, S.l108, S.l109, S.l111, S.l113⟩, ⟨S.o104_0, S.o104_1, S.o104_2, S.o104_3, S.o104_4, S.o104_9, S.o104_10, S.o110_0, S.o112_0⟩⟩
theorem SH.p114 (S : SH tg ln O) : PlSh tg ln O 114 := ⟨⟨S.t114, S.t115, S.t116, S.t117, S.t118, S.t119, S.t120, S.t121, S.t122, S.t123⟩, ⟨S.l115, S.l116, S.l117, S.l118, S.l119, S.l121, S.l123⟩, ⟨S.o114_0, S.o114_1, S.o114_2, S.o114_3, S.o114_4, S.o114_9, S.o114_10, S.o120_0, S.o122_0⟩⟩
theorem SH.p124 (S : SH tg ln O) : PlSh tg ln O 124 := ⟨⟨S.t124, S.t125, S.t126, S.t127, S.t128, S.t129, S.t130, S.t131, S.t132, S.t133⟩, ⟨S.l125, S.l126, S.l127, S.l128, S.l129, S.l131, S.l133⟩, ⟨S.o124_0, S.o124_1, S.o124_2, S.o124_3, S.o124_4, S.o124_9, S.o124_10, S.o130_0, S.o132_0⟩⟩
theorem SH.p135 (S : SH tg ln O) : PlSh tg ln O 135 := ⟨⟨S.t135, S.t136, S.t137, S.t138, S.t139, S.t140, S.t141, S.t142, S.t143, S.t144⟩, ⟨S.l136, S.l137, S.l138, S.l139, S.l140, S.l142, S.l144⟩, ⟨S.o135_0, S.o135_1, S.o135_2, S.o135_3, S.o135_4, S.o135_9, S.o135_10, S.o141_0, S.o143_0⟩⟩
theorem SH.p145 (S : SH tg ln O) : PlSh tg ln O 145 := ⟨⟨S.t145, S.t146, S.t147, S.t148, S.t149, S.t150, S.t151, S.t152, S.t153, S.t154⟩, ⟨S.l146, S.l147, S.l148, S.l149, S.l150, S.l152, S.l154⟩, ⟨S.o145_0, S.o145_1, S.o145_2, S.o145_3, S.o145_4, S.o145_9, S.o145_10, S.o151_0, S.o153_0⟩⟩
theorem SH.mr (S : SH tg ln O) : MSh tg ln O 166 167 := ⟨S.t166, S.o166_0, S.t167, S.l167⟩
theorem rfL_lt : ∀ (i : Nat) (q : Nat × Int32 × Nat), rfL[i]? = some q → q.1 < 188 ∧ q.1 ≠ 161 ∧ q.1 ≠ 163 ∧ q.1 ≠ 165 := by
  have h : (rfL.all fun q => decide (q.1 < 188 ∧ q.1 ≠ 161 ∧ q.1 ≠ 163 ∧ q.1 ≠ 165)) = true := by decide +kernel
  exact fun i q hq => of_decide_eq_true (List.all_eq_true.mp h q (List.mem_of_getElem? hq))
theorem SH.congr {tg2 ln2 : Nat → Nat} {O2 : Nat → Int32 → Option Nat} (S : SH tg ln O) (h1 : ∀ k, k < 188 → tg2 k = tg k) (h2 : ∀ k, k < 188 → ln2 k = ln k) (h3 : ∀ k, k < 188 → k ≠ 161 → k ≠ 163 → k ≠ 165 → O2 k = O k) : SH tg2 ln2 O2 := by
  refine ⟨fun i hi => (h1 _ (by omega)).trans (S.1 i hi), fun i hi => (h2 _ (by omega)).trans (S.2.1 i hi), fun i q hq => ?_⟩
  obtain ⟨a1, a2, a3, a4⟩ := rfL_lt i q hq
  rw [h3 _ a1 a2 a3 a4]
  exact S.2.2 i q hq
/-- the plain at a place of the ring; one that is kept; a bag -/
def rgA (k : Int32) : Nat := if k = 0 then 54 else if k = 1 then 64 else if k = 2 then 74 else if k = 3 then 84 else if k = 4 then 94 else if k = 5 then 104 else if k = 6 then 114 else if k = 7 then 124 else 134
def kpA (k : Int32) : Nat := if k = 0 then 135 else 145
def bgA (b : Int32) : Nat := if b = 0 then 160 else if b = 1 then 162 else 164
theorem r8 {k : Int32} (h : 0 ≤ k ∧ k < 8) : k = 0 ∨ k = 1 ∨ k = 2 ∨ k = 3 ∨ k = 4 ∨ k = 5 ∨ k = 6 ∨ k = 7 := by grind
theorem r3 {k : Int32} (h : 0 ≤ k ∧ k < 3) : k = 0 ∨ k = 1 ∨ k = 2 := by grind
theorem SH.rg (S : SH tg ln O) {k : Int32} (h : 0 ≤ k ∧ k < 8) : PlSh tg ln O (rgA k) ∧ O 53 k = some (rgA k) := by
  rcases r8 h with rfl | rfl | rfl | rfl | rfl | rfl | rfl | rfl
  · exact ⟨S.p54, S.o53_0⟩
  · exact ⟨S.p64, S.o53_1⟩
  · exact ⟨S.p74, S.o53_2⟩
  · exact ⟨S.p84, S.o53_3⟩
  · exact ⟨S.p94, S.o53_4⟩
  · exact ⟨S.p104, S.o53_5⟩
  · exact ⟨S.p114, S.o53_6⟩
  · exact ⟨S.p124, S.o53_7⟩
theorem SH.kp (S : SH tg ln O) {k : Int32} (h : k = 0 ∨ k = 1) : PlSh tg ln O (kpA k) ∧ O 134 k = some (kpA k) := by
  rcases h with rfl | rfl
  · exact ⟨S.p135, S.o134_0⟩
  · exact ⟨S.p145, S.o134_1⟩
theorem SH.bg (S : SH tg ln O) {b : Int32} (h : 0 ≤ b ∧ b < 3) : O 159 b = some (bgA b) ∧ tg (bgA b) = 1 ∧ O (bgA b) 0 = some (bgA b + 1) ∧ tg (bgA b + 1) = 25 ∧ ln (bgA b + 1) = 12 := by
  rcases r3 h with rfl | rfl | rfl
  · exact ⟨S.o159_0, S.t160, S.o160_0, S.t161, S.l161⟩
  · exact ⟨S.o159_1, S.t162, S.o162_0, S.t163, S.l163⟩
  · exact ⟨S.o159_2, S.t164, S.o164_0, S.t165, S.l165⟩
theorem rgA_far {k : Int32} (h : 0 ≤ k ∧ k < 8) : 54 ≤ rgA k ∧ rgA k + 10 ≤ 134 := by
  rcases r8 h with rfl | rfl | rfl | rfl | rfl | rfl | rfl | rfl <;> decide
theorem rgA_ne {k j : Int32} (h : 0 ≤ k ∧ k < 8) (hj : 0 ≤ j ∧ j < 8) (hn : k ≠ j) : rgA k + 10 ≤ rgA j ∨ rgA j + 10 ≤ rgA k := by
  rcases r8 h with rfl | rfl | rfl | rfl | rfl | rfl | rfl | rfl <;> rcases r8 hj with rfl | rfl | rfl | rfl | rfl | rfl | rfl | rfl <;> first | (exact absurd rfl hn) | decide
theorem i32_2 : Int32.ofNat 2 = 2 := rfl
theorem i32_3 : Int32.ofNat 3 = 3 := rfl
theorem i32_5 : Int32.ofNat 5 = 5 := rfl
theorem i32_6 : Int32.ofNat 6 = 6 := rfl
theorem i32_8 : Int32.ofNat 8 = 8 := rfl
theorem i32_36 : Int32.ofNat 36 = 36 := rfl
theorem i32_200 : Int32.ofNat 200 = 200 := rfl
end SHAPE
