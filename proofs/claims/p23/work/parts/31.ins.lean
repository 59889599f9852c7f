section
variable {s : Nat × (Nat → Int32)}
theorem zi0 (pc : Nat) : z_I (EE s) 0 pc = x_at pt0 pc := rfl
theorem t0 : z_T (EE s) 0 = some (none, 1) := rfl
theorem zi1 (pc : Nat) : z_I (EE s) 1 pc = x_at pt1 pc := rfl
theorem t1 : z_T (EE s) 1 = some (none, 1) := rfl
theorem zi2 (pc : Nat) : z_I (EE s) 2 pc = x_at pt2 pc := rfl
theorem t2 : z_T (EE s) 2 = some (none, 1) := rfl
theorem zi3 (pc : Nat) : z_I (EE s) 3 pc = x_at pt3 pc := rfl
theorem t3 : z_T (EE s) 3 = some (none, 1) := rfl
theorem zi4 (pc : Nat) : z_I (EE s) 4 pc = x_at pt4 pc := rfl
theorem t4 : z_T (EE s) 4 = some (none, 1) := rfl
theorem zi5 (pc : Nat) : z_I (EE s) 5 pc = x_at pt5 pc := rfl
theorem t5 : z_T (EE s) 5 = some (none, 4) := rfl
theorem zi6 (pc : Nat) : z_I (EE s) 6 pc = x_at pt6 pc := rfl
theorem t6 : z_T (EE s) 6 = some (none, 1) := rfl
theorem zi7 (pc : Nat) : z_I (EE s) 7 pc = x_at pt7 pc := rfl
theorem t7 : z_T (EE s) 7 = some (none, 1) := rfl
theorem zi8 (pc : Nat) : z_I (EE s) 8 pc = x_at pt8 pc := rfl
theorem t8 : z_T (EE s) 8 = some (none, 1) := rfl
theorem zi9 (pc : Nat) : z_I (EE s) 9 pc = x_at pt9 pc := rfl
theorem t9 : z_T (EE s) 9 = some (none, 1) := rfl
theorem zi10 (pc : Nat) : z_I (EE s) 10 pc = x_at pt10 pc := rfl
theorem t10 : z_T (EE s) 10 = some (none, 1) := rfl
theorem zi11 (pc : Nat) : z_I (EE s) 11 pc = x_at pt11 pc := rfl
theorem t11 : z_T (EE s) 11 = some (none, 5) := rfl
theorem zi12 (pc : Nat) : z_I (EE s) 12 pc = x_at pt12 pc := rfl
theorem t12 : z_T (EE s) 12 = some (none, 1) := rfl
theorem zi13 (pc : Nat) : z_I (EE s) 13 pc = x_at pt13 pc := rfl
theorem t13 : z_T (EE s) 13 = some (none, 1) := rfl
theorem zi14 (pc : Nat) : z_I (EE s) 14 pc = x_at pt14 pc := rfl
theorem t14 : z_T (EE s) 14 = some (none, 1) := rfl
theorem zi15 (pc : Nat) : z_I (EE s) 15 pc = x_at pt15 pc := rfl
theorem t15 : z_T (EE s) 15 = some (none, 1) := rfl
theorem zi16 (pc : Nat) : z_I (EE s) 16 pc = x_at pt16 pc := rfl
theorem t16 : z_T (EE s) 16 = some ((some .boolean), 3) := rfl
theorem zi17 (pc : Nat) : z_I (EE s) 17 pc = x_at pt17 pc := rfl
theorem t17 : z_T (EE s) 17 = some ((some .boolean), 1) := rfl
theorem zi18 (pc : Nat) : z_I (EE s) 18 pc = x_at pt18 pc := rfl
theorem t18 : z_T (EE s) 18 = some ((some .boolean), 3) := rfl
theorem zi19 (pc : Nat) : z_I (EE s) 19 pc = x_at pt19 pc := rfl
theorem t19 : z_T (EE s) 19 = some ((some .int), 3) := rfl
theorem zi20 (pc : Nat) : z_I (EE s) 20 pc = x_at pt20 pc := rfl
theorem t20 : z_T (EE s) 20 = some ((some .boolean), 3) := rfl
theorem zi21 (pc : Nat) : z_I (EE s) 21 pc = x_at pt21 pc := rfl
theorem t21 : z_T (EE s) 21 = some (none, 6) := rfl
theorem zi22 (pc : Nat) : z_I (EE s) 22 pc = x_at pt22 pc := rfl
theorem t22 : z_T (EE s) 22 = some (none, 4) := rfl
theorem zi23 (pc : Nat) : z_I (EE s) 23 pc = x_at pt23 pc := rfl
theorem t23 : z_T (EE s) 23 = some ((some .long), 6) := rfl
theorem zi24 (pc : Nat) : z_I (EE s) 24 pc = x_at pt24 pc := rfl
theorem t24 : z_T (EE s) 24 = some ((some .long), 7) := rfl
theorem zi25 (pc : Nat) : z_I (EE s) 25 pc = x_at pt25 pc := rfl
theorem t25 : z_T (EE s) 25 = some (none, 4) := rfl
theorem zi26 (pc : Nat) : z_I (EE s) 26 pc = x_at pt26 pc := rfl
theorem t26 : z_T (EE s) 26 = some ((some .int), 5) := rfl
theorem zi27 (pc : Nat) : z_I (EE s) 27 pc = x_at pt27 pc := rfl
theorem t27 : z_T (EE s) 27 = some ((some .int), 2) := rfl
theorem zi28 (pc : Nat) : z_I (EE s) 28 pc = x_at pt28 pc := rfl
theorem t28 : z_T (EE s) 28 = some ((some .int), 3) := rfl
theorem zi29 (pc : Nat) : z_I (EE s) 29 pc = x_at pt29 pc := rfl
theorem t29 : z_T (EE s) 29 = some ((some .int), 3) := rfl
theorem zi30 (pc : Nat) : z_I (EE s) 30 pc = x_at pt30 pc := rfl
theorem t30 : z_T (EE s) 30 = some ((some .int), 5) := rfl
theorem zi31 (pc : Nat) : z_I (EE s) 31 pc = x_at pt31 pc := rfl
theorem t31 : z_T (EE s) 31 = some ((some .int), 4) := rfl
theorem zi32 (pc : Nat) : z_I (EE s) 32 pc = x_at pt32 pc := rfl
theorem t32 : z_T (EE s) 32 = some ((some .int), 5) := rfl
theorem zi33 (pc : Nat) : z_I (EE s) 33 pc = x_at pt33 pc := rfl
theorem t33 : z_T (EE s) 33 = some ((some .int), 1) := rfl
theorem zi34 (pc : Nat) : z_I (EE s) 34 pc = x_at pt34 pc := rfl
theorem t34 : z_T (EE s) 34 = some ((some .int), 13) := rfl
theorem zi35 (pc : Nat) : z_I (EE s) 35 pc = x_at pt35 pc := rfl
theorem t35 : z_T (EE s) 35 = some ((some .int), 6) := rfl
theorem zi36 (pc : Nat) : z_I (EE s) 36 pc = x_at pt36 pc := rfl
theorem t36 : z_T (EE s) 36 = some ((some .int), 1) := rfl
theorem zi37 (pc : Nat) : z_I (EE s) 37 pc = x_at pt37 pc := rfl
theorem t37 : z_T (EE s) 37 = some ((some .int), 6) := rfl
theorem zi38 (pc : Nat) : z_I (EE s) 38 pc = x_at pt38 pc := rfl
theorem t38 : z_T (EE s) 38 = some ((some .int), 1) := rfl
theorem zi39 (pc : Nat) : z_I (EE s) 39 pc = x_at pt39 pc := rfl
theorem t39 : z_T (EE s) 39 = some ((some .int), 7) := rfl
theorem zi40 (pc : Nat) : z_I (EE s) 40 pc = x_at pt40 pc := rfl
theorem t40 : z_T (EE s) 40 = some ((some .boolean), 2) := rfl
theorem zi41 (pc : Nat) : z_I (EE s) 41 pc = x_at pt41 pc := rfl
theorem t41 : z_T (EE s) 41 = some ((some .int), 12) := rfl
theorem zi42 (pc : Nat) : z_I (EE s) 42 pc = x_at pt42 pc := rfl
theorem t42 : z_T (EE s) 42 = some ((some .long), 1) := rfl
theorem zi43 (pc : Nat) : z_I (EE s) 43 pc = x_at pt43 pc := rfl
theorem t43 : z_T (EE s) 43 = some ((some .int), 2) := rfl
theorem zi44 (pc : Nat) : z_I (EE s) 44 pc = x_at pt44 pc := rfl
theorem t44 : z_T (EE s) 44 = some ((some .boolean), 6) := rfl
theorem zi45 (pc : Nat) : z_I (EE s) 45 pc = x_at pt45 pc := rfl
theorem t45 : z_T (EE s) 45 = some ((some .int), 1) := rfl
theorem zi46 (pc : Nat) : z_I (EE s) 46 pc = x_at pt46 pc := rfl
theorem t46 : z_T (EE s) 46 = some ((some .long), 1) := rfl
theorem zi47 (pc : Nat) : z_I (EE s) 47 pc = x_at pt47 pc := rfl
theorem t47 : z_T (EE s) 47 = some ((some .long), 2) := rfl
theorem zi48 (pc : Nat) : z_I (EE s) 48 pc = x_at pt48 pc := rfl
theorem t48 : z_T (EE s) 48 = some ((some .int), 1) := rfl
theorem zi49 (pc : Nat) : z_I (EE s) 49 pc = x_at pt49 pc := rfl
theorem t49 : z_T (EE s) 49 = some (none, 11) := rfl
theorem zi50 (pc : Nat) : z_I (EE s) 50 pc = x_at pt50 pc := rfl
theorem t50 : z_T (EE s) 50 = some (none, 9) := rfl
theorem zi51 (pc : Nat) : z_I (EE s) 51 pc = x_at pt51 pc := rfl
theorem t51 : z_T (EE s) 51 = some ((some .int), 4) := rfl
theorem zi52 (pc : Nat) : z_I (EE s) 52 pc = x_at pt52 pc := rfl
theorem t52 : z_T (EE s) 52 = some (none, 5) := rfl
theorem zi53 (pc : Nat) : z_I (EE s) 53 pc = x_at pt53 pc := rfl
theorem t53 : z_T (EE s) 53 = some (none, 2) := rfl
theorem zi54 (pc : Nat) : z_I (EE s) 54 pc = x_at pt54 pc := rfl
theorem t54 : z_T (EE s) 54 = some (none, 3) := rfl
theorem zi55 (pc : Nat) : z_I (EE s) 55 pc = x_at pt55 pc := rfl
theorem t55 : z_T (EE s) 55 = some (none, 5) := rfl
theorem zi56 (pc : Nat) : z_I (EE s) 56 pc = x_at pt56 pc := rfl
theorem t56 : z_T (EE s) 56 = some (none, 9) := rfl
theorem zi57 (pc : Nat) : z_I (EE s) 57 pc = x_at pt57 pc := rfl
theorem t57 : z_T (EE s) 57 = some (none, 5) := rfl
theorem zi58 (pc : Nat) : z_I (EE s) 58 pc = x_at pt58 pc := rfl
theorem t58 : z_T (EE s) 58 = some (none, 3) := rfl
theorem zi59 (pc : Nat) : z_I (EE s) 59 pc = x_at pt59 pc := rfl
theorem t59 : z_T (EE s) 59 = some (none, 3) := rfl
theorem zi60 (pc : Nat) : z_I (EE s) 60 pc = x_at pt60 pc := rfl
theorem t60 : z_T (EE s) 60 = some (none, 5) := rfl
theorem zi61 (pc : Nat) : z_I (EE s) 61 pc = x_at pt61 pc := rfl
theorem t61 : z_T (EE s) 61 = some ((some .int), 3) := rfl
theorem zi62 (pc : Nat) : z_I (EE s) 62 pc = x_at pt62 pc := rfl
theorem t62 : z_T (EE s) 62 = some (none, 5) := rfl
theorem zi63 (pc : Nat) : z_I (EE s) 63 pc = x_at pt63 pc := rfl
theorem t63 : z_T (EE s) 63 = some ((some .int), 1) := rfl
theorem zi64 (pc : Nat) : z_I (EE s) 64 pc = x_at pt64 pc := rfl
theorem t64 : z_T (EE s) 64 = some (none, 5) := rfl
theorem zi65 (pc : Nat) : z_I (EE s) 65 pc = x_at pt65 pc := rfl
theorem t65 : z_T (EE s) 65 = some ((some .boolean), 4) := rfl
theorem zi66 (pc : Nat) : z_I (EE s) 66 pc = x_at pt66 pc := rfl
theorem t66 : z_T (EE s) 66 = some ((some .int), 1) := rfl
theorem zi67 (pc : Nat) : z_I (EE s) 67 pc = x_at pt67 pc := rfl
theorem t67 : z_T (EE s) 67 = some ((some .long), 3) := rfl
theorem zi68 (pc : Nat) : z_I (EE s) 68 pc = x_at pt68 pc := rfl
theorem t68 : z_T (EE s) 68 = some ((some .long), 6) := rfl
theorem zi69 (pc : Nat) : z_I (EE s) 69 pc = x_at pt69 pc := rfl
theorem t69 : z_T (EE s) 69 = some ((some .long), 2) := rfl
theorem zi70 (pc : Nat) : z_I (EE s) 70 pc = x_at pt70 pc := rfl
theorem t70 : z_T (EE s) 70 = some ((some .long), 2) := rfl
theorem zi71 (pc : Nat) : z_I (EE s) 71 pc = x_at pt71 pc := rfl
theorem t71 : z_T (EE s) 71 = some ((some .long), 3) := rfl
theorem zi72 (pc : Nat) : z_I (EE s) 72 pc = x_at pt72 pc := rfl
theorem t72 : z_T (EE s) 72 = some ((some .long), 6) := rfl
theorem zi73 (pc : Nat) : z_I (EE s) 73 pc = x_at pt73 pc := rfl
theorem t73 : z_T (EE s) 73 = some ((some .boolean), 3) := rfl
theorem zi74 (pc : Nat) : z_I (EE s) 74 pc = x_at pt74 pc := rfl
theorem t74 : z_T (EE s) 74 = some ((some .boolean), 3) := rfl
theorem zi75 (pc : Nat) : z_I (EE s) 75 pc = x_at pt75 pc := rfl
theorem t75 : z_T (EE s) 75 = some ((some .boolean), 4) := rfl
theorem zi76 (pc : Nat) : z_I (EE s) 76 pc = x_at pt76 pc := rfl
theorem t76 : z_T (EE s) 76 = some ((some .int), 1) := rfl
theorem zi77 (pc : Nat) : z_I (EE s) 77 pc = x_at pt77 pc := rfl
theorem t77 : z_T (EE s) 77 = some (none, 4) := rfl
theorem zi78 (pc : Nat) : z_I (EE s) 78 pc = x_at pt78 pc := rfl
theorem t78 : z_T (EE s) 78 = some ((some .int), 4) := rfl
theorem zi79 (pc : Nat) : z_I (EE s) 79 pc = x_at pt79 pc := rfl
theorem t79 : z_T (EE s) 79 = some ((some .boolean), 1) := rfl
theorem zi80 (pc : Nat) : z_I (EE s) 80 pc = x_at pt80 pc := rfl
theorem t80 : z_T (EE s) 80 = some ((some .boolean), 1) := rfl
theorem zi81 (pc : Nat) : z_I (EE s) 81 pc = x_at pt81 pc := rfl
theorem t81 : z_T (EE s) 81 = some ((some .int), 7) := rfl
theorem zi82 (pc : Nat) : z_I (EE s) 82 pc = x_at pt82 pc := rfl
theorem t82 : z_T (EE s) 82 = some ((some .boolean), 5) := rfl
theorem zi83 (pc : Nat) : z_I (EE s) 83 pc = x_at pt83 pc := rfl
theorem t83 : z_T (EE s) 83 = some ((some .int), 2) := rfl
theorem zi84 (pc : Nat) : z_I (EE s) 84 pc = x_at pt84 pc := rfl
theorem t84 : z_T (EE s) 84 = some ((some .int), 3) := rfl
theorem zi85 (pc : Nat) : z_I (EE s) 85 pc = x_at pt85 pc := rfl
theorem t85 : z_T (EE s) 85 = some ((some .int), 6) := rfl
theorem zi86 (pc : Nat) : z_I (EE s) 86 pc = x_at pt86 pc := rfl
theorem t86 : z_T (EE s) 86 = some ((some .boolean), 1) := rfl
theorem zi87 (pc : Nat) : z_I (EE s) 87 pc = x_at pt87 pc := rfl
theorem t87 : z_T (EE s) 87 = some (none, 3) := rfl
theorem zi88 (pc : Nat) : z_I (EE s) 88 pc = x_at pt88 pc := rfl
theorem t88 : z_T (EE s) 88 = some ((some .boolean), 2) := rfl
theorem zi89 (pc : Nat) : z_I (EE s) 89 pc = x_at pt89 pc := rfl
theorem t89 : z_T (EE s) 89 = some ((some .boolean), 2) := rfl
theorem zi90 (pc : Nat) : z_I (EE s) 90 pc = x_at pt90 pc := rfl
theorem t90 : z_T (EE s) 90 = some ((some .int), 2) := rfl
theorem zi91 (pc : Nat) : z_I (EE s) 91 pc = x_at pt91 pc := rfl
theorem t91 : z_T (EE s) 91 = some (none, 1) := rfl
theorem zi92 (pc : Nat) : z_I (EE s) 92 pc = x_at pt92 pc := rfl
theorem t92 : z_T (EE s) 92 = some ((some .int), 3) := rfl
theorem zi93 (pc : Nat) : z_I (EE s) 93 pc = x_at pt93 pc := rfl
theorem t93 : z_T (EE s) 93 = some (none, 1) := rfl
theorem zi94 (pc : Nat) : z_I (EE s) 94 pc = x_at pt94 pc := rfl
theorem t94 : z_T (EE s) 94 = some ((some .boolean), 2) := rfl
theorem zi95 (pc : Nat) : z_I (EE s) 95 pc = x_at pt95 pc := rfl
theorem t95 : z_T (EE s) 95 = some ((some .int), 2) := rfl
theorem zi96 (pc : Nat) : z_I (EE s) 96 pc = x_at pt96 pc := rfl
theorem t96 : z_T (EE s) 96 = some ((some .boolean), 4) := rfl
theorem zi97 (pc : Nat) : z_I (EE s) 97 pc = x_at pt97 pc := rfl
theorem t97 : z_T (EE s) 97 = some ((some .boolean), 3) := rfl
theorem zi98 (pc : Nat) : z_I (EE s) 98 pc = x_at pt98 pc := rfl
theorem t98 : z_T (EE s) 98 = some (none, 2) := rfl
theorem zi99 (pc : Nat) : z_I (EE s) 99 pc = x_at pt99 pc := rfl
theorem t99 : z_T (EE s) 99 = some ((some .int), 4) := rfl
theorem zi100 (pc : Nat) : z_I (EE s) 100 pc = x_at pt100 pc := rfl
theorem t100 : z_T (EE s) 100 = some ((some .int), 3) := rfl
theorem zi101 (pc : Nat) : z_I (EE s) 101 pc = x_at pt101 pc := rfl
theorem t101 : z_T (EE s) 101 = some ((some .boolean), 1) := rfl
theorem zi102 (pc : Nat) : z_I (EE s) 102 pc = x_at pt102 pc := rfl
theorem t102 : z_T (EE s) 102 = some ((some .boolean), 3) := rfl
theorem zi103 (pc : Nat) : z_I (EE s) 103 pc = x_at pt103 pc := rfl
theorem t103 : z_T (EE s) 103 = some ((some .boolean), 1) := rfl
theorem zi104 (pc : Nat) : z_I (EE s) 104 pc = x_at pt104 pc := rfl
theorem t104 : z_T (EE s) 104 = some ((some .boolean), 6) := rfl
theorem zi105 (pc : Nat) : z_I (EE s) 105 pc = x_at pt105 pc := rfl
theorem t105 : z_T (EE s) 105 = some ((some .boolean), 2) := rfl
theorem zi106 (pc : Nat) : z_I (EE s) 106 pc = x_at pt106 pc := rfl
theorem t106 : z_T (EE s) 106 = some ((some .boolean), 5) := rfl
theorem zi107 (pc : Nat) : z_I (EE s) 107 pc = x_at pt107 pc := rfl
theorem t107 : z_T (EE s) 107 = some ((some .boolean), 3) := rfl
theorem zi108 (pc : Nat) : z_I (EE s) 108 pc = x_at pt108 pc := rfl
theorem t108 : z_T (EE s) 108 = some ((some .boolean), 2) := rfl
theorem zi109 (pc : Nat) : z_I (EE s) 109 pc = x_at pt109 pc := rfl
theorem t109 : z_T (EE s) 109 = some ((some .boolean), 4) := rfl
theorem zi110 (pc : Nat) : z_I (EE s) 110 pc = x_at pt110 pc := rfl
theorem t110 : z_T (EE s) 110 = some ((some .boolean), 3) := rfl
theorem zi111 (pc : Nat) : z_I (EE s) 111 pc = x_at pt111 pc := rfl
theorem t111 : z_T (EE s) 111 = some (none, 2) := rfl
theorem zi112 (pc : Nat) : z_I (EE s) 112 pc = x_at pt112 pc := rfl
theorem t112 : z_T (EE s) 112 = some (none, 2) := rfl
theorem zi113 (pc : Nat) : z_I (EE s) 113 pc = x_at pt113 pc := rfl
theorem t113 : z_T (EE s) 113 = some ((some .int), 2) := rfl
theorem zi114 (pc : Nat) : z_I (EE s) 114 pc = x_at pt114 pc := rfl
theorem t114 : z_T (EE s) 114 = some ((some .boolean), 2) := rfl
theorem zi115 (pc : Nat) : z_I (EE s) 115 pc = x_at pt115 pc := rfl
theorem t115 : z_T (EE s) 115 = some ((some .boolean), 2) := rfl
theorem zi116 (pc : Nat) : z_I (EE s) 116 pc = x_at pt116 pc := rfl
theorem t116 : z_T (EE s) 116 = some ((some .boolean), 2) := rfl
theorem zi117 (pc : Nat) : z_I (EE s) 117 pc = x_at pt117 pc := rfl
theorem t117 : z_T (EE s) 117 = some ((some .boolean), 2) := rfl
theorem zi118 (pc : Nat) : z_I (EE s) 118 pc = x_at pt118 pc := rfl
theorem t118 : z_T (EE s) 118 = some ((some .int), 2) := rfl
theorem zi119 (pc : Nat) : z_I (EE s) 119 pc = x_at pt119 pc := rfl
theorem t119 : z_T (EE s) 119 = some (none, 1) := rfl
theorem zi120 (pc : Nat) : z_I (EE s) 120 pc = x_at pt120 pc := rfl
theorem t120 : z_T (EE s) 120 = some ((some .boolean), 1) := rfl
theorem zi121 (pc : Nat) : z_I (EE s) 121 pc = x_at pt121 pc := rfl
theorem t121 : z_T (EE s) 121 = some (none, 2) := rfl
theorem zi122 (pc : Nat) : z_I (EE s) 122 pc = x_at pt122 pc := rfl
theorem t122 : z_T (EE s) 122 = some ((some .boolean), 3) := rfl
theorem zi123 (pc : Nat) : z_I (EE s) 123 pc = x_at pt123 pc := rfl
theorem t123 : z_T (EE s) 123 = some ((some .boolean), 1) := rfl
theorem zi124 (pc : Nat) : z_I (EE s) 124 pc = x_at pt124 pc := rfl
theorem t124 : z_T (EE s) 124 = some ((some .boolean), 4) := rfl
theorem zi125 (pc : Nat) : z_I (EE s) 125 pc = x_at pt125 pc := rfl
theorem t125 : z_T (EE s) 125 = some ((some .boolean), 3) := rfl
theorem zi126 (pc : Nat) : z_I (EE s) 126 pc = x_at pt126 pc := rfl
theorem t126 : z_T (EE s) 126 = some ((some .boolean), 3) := rfl
theorem zi127 (pc : Nat) : z_I (EE s) 127 pc = x_at pt127 pc := rfl
theorem t127 : z_T (EE s) 127 = some ((some .int), 2) := rfl
theorem zi128 (pc : Nat) : z_I (EE s) 128 pc = x_at pt128 pc := rfl
theorem t128 : z_T (EE s) 128 = some ((some .boolean), 1) := rfl
theorem zi129 (pc : Nat) : z_I (EE s) 129 pc = x_at pt129 pc := rfl
theorem t129 : z_T (EE s) 129 = some ((some .int), 3) := rfl
theorem zi130 (pc : Nat) : z_I (EE s) 130 pc = x_at pt130 pc := rfl
theorem t130 : z_T (EE s) 130 = some ((some .int), 2) := rfl
theorem zi131 (pc : Nat) : z_I (EE s) 131 pc = x_at pt131 pc := rfl
theorem t131 : z_T (EE s) 131 = some (none, 6) := rfl
theorem zi132 (pc : Nat) : z_I (EE s) 132 pc = x_at pt132 pc := rfl
theorem t132 : z_T (EE s) 132 = some (none, 4) := rfl
theorem zi133 (pc : Nat) : z_I (EE s) 133 pc = x_at pt133 pc := rfl
theorem t133 : z_T (EE s) 133 = some (none, 3) := rfl
theorem zi134 (pc : Nat) : z_I (EE s) 134 pc = x_at pt134 pc := rfl
theorem t134 : z_T (EE s) 134 = some ((some .boolean), 3) := rfl
theorem zi135 (pc : Nat) : z_I (EE s) 135 pc = x_at pt135 pc := rfl
theorem t135 : z_T (EE s) 135 = some ((some .boolean), 2) := rfl
theorem zi136 (pc : Nat) : z_I (EE s) 136 pc = x_at pt136 pc := rfl
theorem t136 : z_T (EE s) 136 = some ((some .long), 2) := rfl
theorem zi137 (pc : Nat) : z_I (EE s) 137 pc = x_at pt137 pc := rfl
theorem t137 : z_T (EE s) 137 = some ((some .int), 1) := rfl
theorem zi138 (pc : Nat) : z_I (EE s) 138 pc = x_at pt138 pc := rfl
theorem t138 : z_T (EE s) 138 = some (none, 1) := rfl
theorem zi139 (pc : Nat) : z_I (EE s) 139 pc = x_at pt139 pc := rfl
theorem t139 : z_T (EE s) 139 = some (none, 5) := rfl
theorem zi140 (pc : Nat) : z_I (EE s) 140 pc = x_at pt140 pc := rfl
theorem t140 : z_T (EE s) 140 = some ((some .long), 3) := rfl
theorem zi141 (pc : Nat) : z_I (EE s) 141 pc = x_at pt141 pc := rfl
theorem t141 : z_T (EE s) 141 = some ((some .long), 6) := rfl
theorem zi142 (pc : Nat) : z_I (EE s) 142 pc = x_at pt142 pc := rfl
theorem t142 : z_T (EE s) 142 = some ((some .long), 6) := rfl
theorem zi143 (pc : Nat) : z_I (EE s) 143 pc = x_at pt143 pc := rfl
theorem t143 : z_T (EE s) 143 = some ((some .long), 4) := rfl
theorem zi144 (pc : Nat) : z_I (EE s) 144 pc = x_at pt144 pc := rfl
theorem t144 : z_T (EE s) 144 = some ((some .long), 3) := rfl
theorem zi145 (pc : Nat) : z_I (EE s) 145 pc = x_at pt145 pc := rfl
theorem t145 : z_T (EE s) 145 = some ((some .boolean), 1) := rfl
theorem zi146 (pc : Nat) : z_I (EE s) 146 pc = x_at pt146 pc := rfl
theorem t146 : z_T (EE s) 146 = some ((some .boolean), 1) := rfl
theorem zi147 (pc : Nat) : z_I (EE s) 147 pc = x_at pt147 pc := rfl
theorem t147 : z_T (EE s) 147 = some ((some .long), 3) := rfl
theorem zi148 (pc : Nat) : z_I (EE s) 148 pc = x_at pt148 pc := rfl
theorem t148 : z_T (EE s) 148 = some ((some .int), 2) := rfl
theorem zi149 (pc : Nat) : z_I (EE s) 149 pc = x_at pt149 pc := rfl
theorem t149 : z_T (EE s) 149 = some ((some .int), 2) := rfl
theorem zi150 (pc : Nat) : z_I (EE s) 150 pc = x_at pt150 pc := rfl
theorem t150 : z_T (EE s) 150 = some ((some .boolean), 1) := rfl
theorem zi151 (pc : Nat) : z_I (EE s) 151 pc = x_at pt151 pc := rfl
theorem t151 : z_T (EE s) 151 = some ((some .int), 6) := rfl
theorem zi152 (pc : Nat) : z_I (EE s) 152 pc = x_at pt152 pc := rfl
theorem t152 : z_T (EE s) 152 = some ((some .int), 3) := rfl
theorem zi153 (pc : Nat) : z_I (EE s) 153 pc = x_at pt153 pc := rfl
theorem t153 : z_T (EE s) 153 = some ((some .int), 6) := rfl
theorem zi154 (pc : Nat) : z_I (EE s) 154 pc = x_at pt154 pc := rfl
theorem t154 : z_T (EE s) 154 = some ((some .int), 3) := rfl
theorem zi155 (pc : Nat) : z_I (EE s) 155 pc = x_at pt155 pc := rfl
theorem t155 : z_T (EE s) 155 = some ((some .long), 4) := rfl
theorem zi156 (pc : Nat) : z_I (EE s) 156 pc = x_at pt156 pc := rfl
theorem t156 : z_T (EE s) 156 = some ((some .long), 2) := rfl
theorem zi157 (pc : Nat) : z_I (EE s) 157 pc = x_at pt157 pc := rfl
theorem t157 : z_T (EE s) 157 = some ((some .long), 2) := rfl
theorem zi158 (pc : Nat) : z_I (EE s) 158 pc = x_at pt158 pc := rfl
theorem t158 : z_T (EE s) 158 = some ((some .long), 3) := rfl
theorem zi159 (pc : Nat) : z_I (EE s) 159 pc = x_at pt159 pc := rfl
theorem t159 : z_T (EE s) 159 = some ((some .long), 4) := rfl
theorem zi160 (pc : Nat) : z_I (EE s) 160 pc = x_at pt160 pc := rfl
theorem t160 : z_T (EE s) 160 = some ((some .boolean), 2) := rfl
theorem zi161 (pc : Nat) : z_I (EE s) 161 pc = x_at pt161 pc := rfl
theorem t161 : z_T (EE s) 161 = some ((some .long), 4) := rfl
theorem zi162 (pc : Nat) : z_I (EE s) 162 pc = x_at pt162 pc := rfl
theorem t162 : z_T (EE s) 162 = some ((some .int), 2) := rfl
theorem zi163 (pc : Nat) : z_I (EE s) 163 pc = x_at pt163 pc := rfl
theorem t163 : z_T (EE s) 163 = some ((some .long), 3) := rfl
theorem zi164 (pc : Nat) : z_I (EE s) 164 pc = x_at pt164 pc := rfl
theorem t164 : z_T (EE s) 164 = some ((some .long), 2) := rfl
theorem zi165 (pc : Nat) : z_I (EE s) 165 pc = x_at pt165 pc := rfl
theorem t165 : z_T (EE s) 165 = some ((some .long), 3) := rfl
theorem zi166 (pc : Nat) : z_I (EE s) 166 pc = x_at pt166 pc := rfl
theorem t166 : z_T (EE s) 166 = some ((some .long), 9) := rfl
theorem zi167 (pc : Nat) : z_I (EE s) 167 pc = x_at pt167 pc := rfl
theorem t167 : z_T (EE s) 167 = some ((some .long), 11) := rfl
theorem zi168 (pc : Nat) : z_I (EE s) 168 pc = x_at pt168 pc := rfl
theorem t168 : z_T (EE s) 168 = some ((some .int), 3) := rfl
theorem zi169 (pc : Nat) : z_I (EE s) 169 pc = x_at pt169 pc := rfl
theorem t169 : z_T (EE s) 169 = some ((some .long), 11) := rfl
theorem zi170 (pc : Nat) : z_I (EE s) 170 pc = x_at pt170 pc := rfl
theorem t170 : z_T (EE s) 170 = some ((some .long), 3) := rfl
theorem zi171 (pc : Nat) : z_I (EE s) 171 pc = x_at pt171 pc := rfl
theorem t171 : z_T (EE s) 171 = some (none, 2) := rfl
theorem zi172 (pc : Nat) : z_I (EE s) 172 pc = x_at pt172 pc := rfl
theorem t172 : z_T (EE s) 172 = some (none, 2) := rfl
theorem zi173 (pc : Nat) : z_I (EE s) 173 pc = x_at pt173 pc := rfl
theorem t173 : z_T (EE s) 173 = some (none, 2) := rfl
theorem zi174 (pc : Nat) : z_I (EE s) 174 pc = x_at pt174 pc := rfl
theorem t174 : z_T (EE s) 174 = some (none, 2) := rfl
theorem zi175 (pc : Nat) : z_I (EE s) 175 pc = x_at pt175 pc := rfl
theorem t175 : z_T (EE s) 175 = some (none, 2) := rfl
theorem zi176 (pc : Nat) : z_I (EE s) 176 pc = x_at pt176 pc := rfl
theorem t176 : z_T (EE s) 176 = some (none, 2) := rfl
theorem zi177 (pc : Nat) : z_I (EE s) 177 pc = x_at pt177 pc := rfl
theorem t177 : z_T (EE s) 177 = some (none, 2) := rfl
theorem zi178 (pc : Nat) : z_I (EE s) 178 pc = x_at pt178 pc := rfl
theorem t178 : z_T (EE s) 178 = some (none, 2) := rfl
theorem zi179 (pc : Nat) : z_I (EE s) 179 pc = x_at pt179 pc := rfl
theorem t179 : z_T (EE s) 179 = some (none, 2) := rfl
theorem zi180 (pc : Nat) : z_I (EE s) 180 pc = x_at pt180 pc := rfl
theorem t180 : z_T (EE s) 180 = some ((some .long), 4) := rfl
theorem zi181 (pc : Nat) : z_I (EE s) 181 pc = x_at pt181 pc := rfl
theorem t181 : z_T (EE s) 181 = some ((some .long), 2) := rfl
theorem zi182 (pc : Nat) : z_I (EE s) 182 pc = x_at pt182 pc := rfl
theorem t182 : z_T (EE s) 182 = some ((some .long), 10) := rfl
theorem zi183 (pc : Nat) : z_I (EE s) 183 pc = x_at pt183 pc := rfl
theorem t183 : z_T (EE s) 183 = some ((some .long), 10) := rfl
theorem zi184 (pc : Nat) : z_I (EE s) 184 pc = x_at pt184 pc := rfl
theorem t184 : z_T (EE s) 184 = some ((some .int), 1) := rfl
theorem zi185 (pc : Nat) : z_I (EE s) 185 pc = x_at pt185 pc := rfl
theorem t185 : z_T (EE s) 185 = some ((some .int), 4) := rfl
theorem zi186 (pc : Nat) : z_I (EE s) 186 pc = x_at pt186 pc := rfl
theorem t186 : z_T (EE s) 186 = some ((some .long), 2) := rfl
theorem zi187 (pc : Nat) : z_I (EE s) 187 pc = x_at pt187 pc := rfl
theorem t187 : z_T (EE s) 187 = some ((some .long), 4) := rfl
theorem zi188 (pc : Nat) : z_I (EE s) 188 pc = x_at pt188 pc := rfl
theorem t188 : z_T (EE s) 188 = some ((some .int), 8) := rfl
theorem zi189 (pc : Nat) : z_I (EE s) 189 pc = x_at pt189 pc := rfl
theorem t189 : z_T (EE s) 189 = some ((some .long), 9) := rfl
theorem zi190 (pc : Nat) : z_I (EE s) 190 pc = x_at pt190 pc := rfl
theorem t190 : z_T (EE s) 190 = some ((some .int), 3) := rfl
theorem zi191 (pc : Nat) : z_I (EE s) 191 pc = x_at pt191 pc := rfl
theorem t191 : z_T (EE s) 191 = some ((some .int), 1) := rfl
theorem zi192 (pc : Nat) : z_I (EE s) 192 pc = x_at pt192 pc := rfl
theorem t192 : z_T (EE s) 192 = some ((some .int), 3) := rfl
theorem zi193 (pc : Nat) : z_I (EE s) 193 pc = x_at pt193 pc := rfl
theorem t193 : z_T (EE s) 193 = some ((some .int), 3) := rfl
theorem zi194 (pc : Nat) : z_I (EE s) 194 pc = x_at pt194 pc := rfl
theorem t194 : z_T (EE s) 194 = some ((some .int), 8) := rfl
theorem zi195 (pc : Nat) : z_I (EE s) 195 pc = x_at pt195 pc := rfl
theorem t195 : z_T (EE s) 195 = some ((some .boolean), 2) := rfl
theorem zi196 (pc : Nat) : z_I (EE s) 196 pc = x_at pt196 pc := rfl
theorem t196 : z_T (EE s) 196 = some ((some .long), 3) := rfl
theorem zi197 (pc : Nat) : z_I (EE s) 197 pc = x_at pt197 pc := rfl
theorem t197 : z_T (EE s) 197 = some ((some .long), 2) := rfl
theorem zi198 (pc : Nat) : z_I (EE s) 198 pc = x_at pt198 pc := rfl
theorem t198 : z_T (EE s) 198 = some ((some .long), 2) := rfl
theorem zi199 (pc : Nat) : z_I (EE s) 199 pc = x_at pt199 pc := rfl
theorem t199 : z_T (EE s) 199 = some ((some .long), 2) := rfl
theorem zi200 (pc : Nat) : z_I (EE s) 200 pc = x_at pt200 pc := rfl
theorem t200 : z_T (EE s) 200 = some ((some .int), 1) := rfl
theorem zi201 (pc : Nat) : z_I (EE s) 201 pc = x_at pt201 pc := rfl
theorem t201 : z_T (EE s) 201 = some (none, 2) := rfl
theorem zi202 (pc : Nat) : z_I (EE s) 202 pc = x_at pt202 pc := rfl
theorem t202 : z_T (EE s) 202 = some ((some .boolean), 4) := rfl
theorem zi203 (pc : Nat) : z_I (EE s) 203 pc = x_at pt203 pc := rfl
theorem t203 : z_T (EE s) 203 = some ((some .boolean), 1) := rfl
theorem zi204 (pc : Nat) : z_I (EE s) 204 pc = x_at pt204 pc := rfl
theorem t204 : z_T (EE s) 204 = some ((some .boolean), 6) := rfl
theorem zi205 (pc : Nat) : z_I (EE s) 205 pc = x_at pt205 pc := rfl
theorem t205 : z_T (EE s) 205 = some ((some .int), 5) := rfl
theorem zi206 (pc : Nat) : z_I (EE s) 206 pc = x_at pt206 pc := rfl
theorem t206 : z_T (EE s) 206 = some ((some .int), 1) := rfl
theorem zi207 (pc : Nat) : z_I (EE s) 207 pc = x_at pt207 pc := rfl
theorem t207 : z_T (EE s) 207 = some ((some .int), 3) := rfl
theorem zi208 (pc : Nat) : z_I (EE s) 208 pc = x_at pt208 pc := rfl
theorem t208 : z_T (EE s) 208 = some (none, 7) := rfl
theorem zi209 (pc : Nat) : z_I (EE s) 209 pc = x_at pt209 pc := rfl
theorem t209 : z_T (EE s) 209 = some ((some .long), 5) := rfl
theorem zi210 (pc : Nat) : z_I (EE s) 210 pc = x_at pt210 pc := rfl
theorem t210 : z_T (EE s) 210 = some ((some .long), 5) := rfl
theorem zi211 (pc : Nat) : z_I (EE s) 211 pc = x_at pt211 pc := rfl
theorem t211 : z_T (EE s) 211 = some ((some .int), 1) := rfl
theorem zi212 (pc : Nat) : z_I (EE s) 212 pc = x_at pt212 pc := rfl
theorem t212 : z_T (EE s) 212 = some ((some .long), 5) := rfl
theorem zi213 (pc : Nat) : z_I (EE s) 213 pc = x_at pt213 pc := rfl
theorem t213 : z_T (EE s) 213 = some ((some .long), 6) := rfl
theorem zi214 (pc : Nat) : z_I (EE s) 214 pc = x_at pt214 pc := rfl
theorem t214 : z_T (EE s) 214 = some ((some .long), 8) := rfl
theorem zi215 (pc : Nat) : z_I (EE s) 215 pc = x_at pt215 pc := rfl
theorem t215 : z_T (EE s) 215 = some ((some .long), 2) := rfl
theorem zi216 (pc : Nat) : z_I (EE s) 216 pc = x_at pt216 pc := rfl
theorem t216 : z_T (EE s) 216 = some (none, 10) := rfl
theorem zi217 (pc : Nat) : z_I (EE s) 217 pc = x_at pt217 pc := rfl
theorem t217 : z_T (EE s) 217 = some ((some .int), 5) := rfl
theorem zi218 (pc : Nat) : z_I (EE s) 218 pc = x_at pt218 pc := rfl
theorem t218 : z_T (EE s) 218 = some ((some .int), 3) := rfl
theorem zi219 (pc : Nat) : z_I (EE s) 219 pc = x_at pt219 pc := rfl
theorem t219 : z_T (EE s) 219 = some ((some .int), 7) := rfl
theorem zi220 (pc : Nat) : z_I (EE s) 220 pc = x_at pt220 pc := rfl
theorem t220 : z_T (EE s) 220 = some (none, 5) := rfl
theorem zi221 (pc : Nat) : z_I (EE s) 221 pc = x_at pt221 pc := rfl
theorem t221 : z_T (EE s) 221 = some ((some .int), 4) := rfl
theorem zi222 (pc : Nat) : z_I (EE s) 222 pc = x_at pt222 pc := rfl
theorem t222 : z_T (EE s) 222 = some (none, 2) := rfl
theorem zi223 (pc : Nat) : z_I (EE s) 223 pc = x_at pt223 pc := rfl
theorem t223 : z_T (EE s) 223 = some (none, 5) := rfl
theorem zi224 (pc : Nat) : z_I (EE s) 224 pc = x_at pt224 pc := rfl
theorem t224 : z_T (EE s) 224 = some (none, 4) := rfl
theorem zi225 (pc : Nat) : z_I (EE s) 225 pc = x_at pt225 pc := rfl
theorem t225 : z_T (EE s) 225 = some ((some .boolean), 5) := rfl
theorem zi226 (pc : Nat) : z_I (EE s) 226 pc = x_at pt226 pc := rfl
theorem t226 : z_T (EE s) 226 = some ((some .boolean), 4) := rfl
theorem zi227 (pc : Nat) : z_I (EE s) 227 pc = x_at pt227 pc := rfl
theorem t227 : z_T (EE s) 227 = some ((some .boolean), 2) := rfl
theorem zi228 (pc : Nat) : z_I (EE s) 228 pc = x_at pt228 pc := rfl
theorem t228 : z_T (EE s) 228 = some (none, 2) := rfl
theorem zi229 (pc : Nat) : z_I (EE s) 229 pc = x_at pt229 pc := rfl
theorem t229 : z_T (EE s) 229 = some (none, 2) := rfl
theorem zi230 (pc : Nat) : z_I (EE s) 230 pc = x_at pt230 pc := rfl
theorem t230 : z_T (EE s) 230 = some (none, 1) := rfl
theorem zi231 (pc : Nat) : z_I (EE s) 231 pc = x_at pt231 pc := rfl
theorem t231 : z_T (EE s) 231 = some ((some .long), 4) := rfl
theorem zi232 (pc : Nat) : z_I (EE s) 232 pc = x_at pt232 pc := rfl
theorem t232 : z_T (EE s) 232 = some (none, 6) := rfl
theorem zi233 (pc : Nat) : z_I (EE s) 233 pc = x_at pt233 pc := rfl
theorem t233 : z_T (EE s) 233 = some (none, 2) := rfl
theorem zi234 (pc : Nat) : z_I (EE s) 234 pc = x_at pt234 pc := rfl
theorem t234 : z_T (EE s) 234 = some ((some .long), 3) := rfl
theorem zi235 (pc : Nat) : z_I (EE s) 235 pc = x_at pt235 pc := rfl
theorem t235 : z_T (EE s) 235 = some ((some .int), 1) := rfl
theorem zi236 (pc : Nat) : z_I (EE s) 236 pc = x_at pt236 pc := rfl
theorem t236 : z_T (EE s) 236 = some (none, 6) := rfl
theorem zi237 (pc : Nat) : z_I (EE s) 237 pc = x_at pt237 pc := rfl
theorem t237 : z_T (EE s) 237 = some ((some .long), 10) := rfl
theorem zi238 (pc : Nat) : z_I (EE s) 238 pc = x_at pt238 pc := rfl
theorem t238 : z_T (EE s) 238 = some ((some .long), 7) := rfl
theorem zi239 (pc : Nat) : z_I (EE s) 239 pc = x_at pt239 pc := rfl
theorem t239 : z_T (EE s) 239 = some ((some .long), 4) := rfl
theorem zi240 (pc : Nat) : z_I (EE s) 240 pc = x_at pt240 pc := rfl
theorem t240 : z_T (EE s) 240 = some ((some .int), 4) := rfl
theorem zi241 (pc : Nat) : z_I (EE s) 241 pc = x_at pt241 pc := rfl
theorem t241 : z_T (EE s) 241 = some ((some .boolean), 1) := rfl
theorem zi242 (pc : Nat) : z_I (EE s) 242 pc = x_at pt242 pc := rfl
theorem t242 : z_T (EE s) 242 = some ((some .boolean), 1) := rfl
theorem zi243 (pc : Nat) : z_I (EE s) 243 pc = x_at pt243 pc := rfl
theorem t243 : z_T (EE s) 243 = some ((some .int), 9) := rfl
theorem zi244 (pc : Nat) : z_I (EE s) 244 pc = x_at pt244 pc := rfl
theorem t244 : z_T (EE s) 244 = some ((some .int), 3) := rfl
theorem zi245 (pc : Nat) : z_I (EE s) 245 pc = x_at pt245 pc := rfl
theorem t245 : z_T (EE s) 245 = some ((some .boolean), 3) := rfl
theorem zi246 (pc : Nat) : z_I (EE s) 246 pc = x_at pt246 pc := rfl
theorem t246 : z_T (EE s) 246 = some ((some .boolean), 1) := rfl
theorem zi247 (pc : Nat) : z_I (EE s) 247 pc = x_at pt247 pc := rfl
theorem t247 : z_T (EE s) 247 = some ((some .boolean), 4) := rfl
theorem zi248 (pc : Nat) : z_I (EE s) 248 pc = x_at pt248 pc := rfl
theorem t248 : z_T (EE s) 248 = some ((some .boolean), 4) := rfl
theorem zi249 (pc : Nat) : z_I (EE s) 249 pc = x_at pt249 pc := rfl
theorem t249 : z_T (EE s) 249 = some ((some .int), 3) := rfl
theorem zi250 (pc : Nat) : z_I (EE s) 250 pc = x_at pt250 pc := rfl
theorem t250 : z_T (EE s) 250 = some ((some .int), 2) := rfl
theorem zi251 (pc : Nat) : z_I (EE s) 251 pc = x_at pt251 pc := rfl
theorem t251 : z_T (EE s) 251 = some ((some .int), 2) := rfl
theorem zi252 (pc : Nat) : z_I (EE s) 252 pc = x_at pt252 pc := rfl
theorem t252 : z_T (EE s) 252 = some ((some .int), 4) := rfl
theorem zi253 (pc : Nat) : z_I (EE s) 253 pc = x_at pt253 pc := rfl
theorem t253 : z_T (EE s) 253 = some ((some .int), 10) := rfl
theorem zi254 (pc : Nat) : z_I (EE s) 254 pc = x_at pt254 pc := rfl
theorem t254 : z_T (EE s) 254 = some ((some .int), 3) := rfl
theorem zi255 (pc : Nat) : z_I (EE s) 255 pc = x_at pt255 pc := rfl
theorem t255 : z_T (EE s) 255 = some ((some .int), 7) := rfl
theorem zi256 (pc : Nat) : z_I (EE s) 256 pc = x_at pt256 pc := rfl
theorem t256 : z_T (EE s) 256 = some ((some .int), 6) := rfl
theorem zi257 (pc : Nat) : z_I (EE s) 257 pc = x_at pt257 pc := rfl
theorem t257 : z_T (EE s) 257 = some (none, 3) := rfl
theorem zi258 (pc : Nat) : z_I (EE s) 258 pc = x_at pt258 pc := rfl
theorem t258 : z_T (EE s) 258 = some ((some .boolean), 2) := rfl
theorem zi259 (pc : Nat) : z_I (EE s) 259 pc = x_at pt259 pc := rfl
theorem t259 : z_T (EE s) 259 = some ((some .int), 2) := rfl
theorem zi260 (pc : Nat) : z_I (EE s) 260 pc = x_at pt260 pc := rfl
theorem t260 : z_T (EE s) 260 = some ((some .int), 2) := rfl
theorem zi261 (pc : Nat) : z_I (EE s) 261 pc = x_at pt261 pc := rfl
theorem t261 : z_T (EE s) 261 = some (none, 3) := rfl
theorem zi262 (pc : Nat) : z_I (EE s) 262 pc = x_at pt262 pc := rfl
theorem t262 : z_T (EE s) 262 = some (none, 2) := rfl
theorem zi263 (pc : Nat) : z_I (EE s) 263 pc = x_at pt263 pc := rfl
theorem t263 : z_T (EE s) 263 = some (none, 1) := rfl
theorem zi264 (pc : Nat) : z_I (EE s) 264 pc = x_at pt264 pc := rfl
theorem t264 : z_T (EE s) 264 = some (none, 4) := rfl
theorem zi265 (pc : Nat) : z_I (EE s) 265 pc = x_at pt265 pc := rfl
theorem t265 : z_T (EE s) 265 = some ((some .int), 1) := rfl
theorem zi266 (pc : Nat) : z_I (EE s) 266 pc = x_at pt266 pc := rfl
theorem t266 : z_T (EE s) 266 = some ((some .boolean), 9) := rfl
theorem zi267 (pc : Nat) : z_I (EE s) 267 pc = x_at pt267 pc := rfl
theorem t267 : z_T (EE s) 267 = some ((some .int), 2) := rfl
theorem zi268 (pc : Nat) : z_I (EE s) 268 pc = x_at pt268 pc := rfl
theorem t268 : z_T (EE s) 268 = some (none, 3) := rfl
theorem zi269 (pc : Nat) : z_I (EE s) 269 pc = x_at pt269 pc := rfl
theorem t269 : z_T (EE s) 269 = some (none, 6) := rfl
theorem zi270 (pc : Nat) : z_I (EE s) 270 pc = x_at pt270 pc := rfl
theorem t270 : z_T (EE s) 270 = some ((some .int), 4) := rfl
theorem zi271 (pc : Nat) : z_I (EE s) 271 pc = x_at pt271 pc := rfl
theorem t271 : z_T (EE s) 271 = some ((some .boolean), 1) := rfl
theorem zi272 (pc : Nat) : z_I (EE s) 272 pc = x_at pt272 pc := rfl
theorem t272 : z_T (EE s) 272 = some (none, 2) := rfl
theorem zi273 (pc : Nat) : z_I (EE s) 273 pc = x_at pt273 pc := rfl
theorem t273 : z_T (EE s) 273 = some ((some .boolean), 4) := rfl
theorem zi274 (pc : Nat) : z_I (EE s) 274 pc = x_at pt274 pc := rfl
theorem t274 : z_T (EE s) 274 = some (none, 3) := rfl
theorem zi275 (pc : Nat) : z_I (EE s) 275 pc = x_at pt275 pc := rfl
theorem t275 : z_T (EE s) 275 = some (none, 2) := rfl
theorem zi276 (pc : Nat) : z_I (EE s) 276 pc = x_at pt276 pc := rfl
theorem t276 : z_T (EE s) 276 = some ((some .boolean), 2) := rfl
theorem zi277 (pc : Nat) : z_I (EE s) 277 pc = x_at pt277 pc := rfl
theorem t277 : z_T (EE s) 277 = some ((some .boolean), 2) := rfl
theorem zi278 (pc : Nat) : z_I (EE s) 278 pc = x_at pt278 pc := rfl
theorem t278 : z_T (EE s) 278 = some ((some .long), 1) := rfl
theorem zi279 (pc : Nat) : z_I (EE s) 279 pc = x_at pt279 pc := rfl
theorem t279 : z_T (EE s) 279 = some ((some .long), 3) := rfl
theorem zi280 (pc : Nat) : z_I (EE s) 280 pc = x_at pt280 pc := rfl
theorem t280 : z_T (EE s) 280 = some ((some .boolean), 3) := rfl
theorem zi281 (pc : Nat) : z_I (EE s) 281 pc = x_at pt281 pc := rfl
theorem t281 : z_T (EE s) 281 = some ((some .int), 3) := rfl
theorem zi282 (pc : Nat) : z_I (EE s) 282 pc = x_at pt282 pc := rfl
theorem t282 : z_T (EE s) 282 = some ((some .int), 3) := rfl
theorem zi283 (pc : Nat) : z_I (EE s) 283 pc = x_at pt283 pc := rfl
theorem t283 : z_T (EE s) 283 = some ((some .boolean), 3) := rfl
theorem zi284 (pc : Nat) : z_I (EE s) 284 pc = x_at pt284 pc := rfl
theorem t284 : z_T (EE s) 284 = some ((some .boolean), 2) := rfl
theorem zi285 (pc : Nat) : z_I (EE s) 285 pc = x_at pt285 pc := rfl
theorem t285 : z_T (EE s) 285 = some ((some .long), 2) := rfl
theorem zi286 (pc : Nat) : z_I (EE s) 286 pc = x_at pt286 pc := rfl
theorem t286 : z_T (EE s) 286 = some ((some .int), 3) := rfl
theorem zi287 (pc : Nat) : z_I (EE s) 287 pc = x_at pt287 pc := rfl
theorem t287 : z_T (EE s) 287 = some ((some .int), 1) := rfl
theorem zi288 (pc : Nat) : z_I (EE s) 288 pc = x_at pt288 pc := rfl
theorem t288 : z_T (EE s) 288 = some ((some .long), 6) := rfl
theorem zi289 (pc : Nat) : z_I (EE s) 289 pc = x_at pt289 pc := rfl
theorem t289 : z_T (EE s) 289 = some ((some .int), 3) := rfl
theorem zi290 (pc : Nat) : z_I (EE s) 290 pc = x_at pt290 pc := rfl
theorem t290 : z_T (EE s) 290 = some ((some .boolean), 2) := rfl
theorem zi291 (pc : Nat) : z_I (EE s) 291 pc = x_at pt291 pc := rfl
theorem t291 : z_T (EE s) 291 = some ((some .int), 2) := rfl
theorem zi292 (pc : Nat) : z_I (EE s) 292 pc = x_at pt292 pc := rfl
theorem t292 : z_T (EE s) 292 = some ((some .long), 4) := rfl
theorem zi293 (pc : Nat) : z_I (EE s) 293 pc = x_at pt293 pc := rfl
theorem t293 : z_T (EE s) 293 = some ((some .long), 16) := rfl
theorem zi294 (pc : Nat) : z_I (EE s) 294 pc = x_at pt294 pc := rfl
theorem t294 : z_T (EE s) 294 = some ((some .long), 4) := rfl
theorem zi295 (pc : Nat) : z_I (EE s) 295 pc = x_at pt295 pc := rfl
theorem t295 : z_T (EE s) 295 = some ((some .long), 3) := rfl
theorem zi296 (pc : Nat) : z_I (EE s) 296 pc = x_at pt296 pc := rfl
theorem t296 : z_T (EE s) 296 = some ((some .long), 3) := rfl
theorem zi297 (pc : Nat) : z_I (EE s) 297 pc = x_at pt297 pc := rfl
theorem t297 : z_T (EE s) 297 = some ((some .int), 3) := rfl
theorem zi298 (pc : Nat) : z_I (EE s) 298 pc = x_at pt298 pc := rfl
theorem t298 : z_T (EE s) 298 = some ((some .long), 3) := rfl
theorem zi299 (pc : Nat) : z_I (EE s) 299 pc = x_at pt299 pc := rfl
theorem t299 : z_T (EE s) 299 = some ((some .long), 2) := rfl
theorem zi300 (pc : Nat) : z_I (EE s) 300 pc = x_at pt300 pc := rfl
theorem t300 : z_T (EE s) 300 = some ((some .long), 2) := rfl
theorem zi301 (pc : Nat) : z_I (EE s) 301 pc = x_at pt301 pc := rfl
theorem t301 : z_T (EE s) 301 = some ((some .long), 3) := rfl
theorem zi302 (pc : Nat) : z_I (EE s) 302 pc = x_at pt302 pc := rfl
theorem t302 : z_T (EE s) 302 = some ((some .long), 5) := rfl
theorem zi303 (pc : Nat) : z_I (EE s) 303 pc = x_at pt303 pc := rfl
theorem t303 : z_T (EE s) 303 = some ((some .long), 2) := rfl
theorem zi304 (pc : Nat) : z_I (EE s) 304 pc = x_at pt304 pc := rfl
theorem t304 : z_T (EE s) 304 = some ((some .long), 4) := rfl
theorem zi305 (pc : Nat) : z_I (EE s) 305 pc = x_at pt305 pc := rfl
theorem t305 : z_T (EE s) 305 = some ((some .long), 2) := rfl
theorem zi306 (pc : Nat) : z_I (EE s) 306 pc = x_at pt306 pc := rfl
theorem t306 : z_T (EE s) 306 = some ((some .long), 8) := rfl
theorem zi307 (pc : Nat) : z_I (EE s) 307 pc = x_at pt307 pc := rfl
theorem t307 : z_T (EE s) 307 = some ((some .long), 13) := rfl
theorem zi308 (pc : Nat) : z_I (EE s) 308 pc = x_at pt308 pc := rfl
theorem t308 : z_T (EE s) 308 = some ((some .long), 6) := rfl
theorem zi309 (pc : Nat) : z_I (EE s) 309 pc = x_at pt309 pc := rfl
theorem t309 : z_T (EE s) 309 = some ((some .int), 3) := rfl
theorem zi310 (pc : Nat) : z_I (EE s) 310 pc = x_at pt310 pc := rfl
theorem t310 : z_T (EE s) 310 = some ((some .long), 2) := rfl
theorem zi311 (pc : Nat) : z_I (EE s) 311 pc = x_at pt311 pc := rfl
theorem t311 : z_T (EE s) 311 = some ((some .long), 10) := rfl
theorem zi312 (pc : Nat) : z_I (EE s) 312 pc = x_at pt312 pc := rfl
theorem t312 : z_T (EE s) 312 = some ((some .long), 6) := rfl
theorem zi313 (pc : Nat) : z_I (EE s) 313 pc = x_at pt313 pc := rfl
theorem t313 : z_T (EE s) 313 = some ((some .int), 4) := rfl
theorem zi314 (pc : Nat) : z_I (EE s) 314 pc = x_at pt314 pc := rfl
theorem t314 : z_T (EE s) 314 = some ((some .boolean), 2) := rfl
theorem zi315 (pc : Nat) : z_I (EE s) 315 pc = x_at pt315 pc := rfl
theorem t315 : z_T (EE s) 315 = some ((some .long), 2) := rfl
theorem zi316 (pc : Nat) : z_I (EE s) 316 pc = x_at pt316 pc := rfl
theorem t316 : z_T (EE s) 316 = some ((some .boolean), 4) := rfl
end
