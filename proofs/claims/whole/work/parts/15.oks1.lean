/-! each method looked up: by wip/gen/gen3.py -/
set_option maxRecDepth 100000 in
theorem mx_o_X6_init : mx_okM mx_k_X6_init = true := by decide +kernel
set_option maxRecDepth 100000 in
theorem mx_v_X6_init : mx_okW mx_k_X6_init = true := by decide +kernel
set_option maxRecDepth 100000 in
theorem mx_o_X6_clear : mx_okM mx_k_X6_clear = true := by decide +kernel
set_option maxRecDepth 100000 in
theorem mx_v_X6_clear : mx_okW mx_k_X6_clear = true := by decide +kernel
set_option maxRecDepth 100000 in
theorem mx_o_X6_put : mx_okM mx_k_X6_put = true := by decide +kernel
set_option maxRecDepth 100000 in
theorem mx_v_X6_put : mx_okW mx_k_X6_put = true := by decide +kernel
set_option maxRecDepth 100000 in
theorem mx_o_X6_takeInto : mx_okM mx_k_X6_takeInto = true := by decide +kernel
set_option maxRecDepth 100000 in
theorem mx_v_X6_takeInto : mx_okW mx_k_X6_takeInto = true := by decide +kernel
set_option maxRecDepth 100000 in
theorem mx_o_X6_placeAt : mx_okM mx_k_X6_placeAt = true := by decide +kernel
set_option maxRecDepth 100000 in
theorem mx_v_X6_placeAt : mx_okW mx_k_X6_placeAt = true := by decide +kernel
set_option maxRecDepth 100000 in
theorem mx_o_X6_giveOldestToNewest : mx_okM mx_k_X6_giveOldestToNewest = true := by decide +kernel
set_option maxRecDepth 100000 in
theorem mx_v_X6_giveOldestToNewest : mx_okW mx_k_X6_giveOldestToNewest = true := by decide +kernel
set_option maxRecDepth 100000 in
theorem mx_o_X7_init : mx_okM mx_k_X7_init = true := by decide +kernel
set_option maxRecDepth 100000 in
theorem mx_v_X7_init : mx_okW mx_k_X7_init = true := by decide +kernel
set_option maxRecDepth 100000 in
theorem mx_o_X7_clear : mx_okM mx_k_X7_clear = true := by decide +kernel
set_option maxRecDepth 100000 in
theorem mx_v_X7_clear : mx_okW mx_k_X7_clear = true := by decide +kernel
set_option maxRecDepth 100000 in
theorem mx_o_X7_add : mx_okM mx_k_X7_add = true := by decide +kernel
set_option maxRecDepth 100000 in
theorem mx_v_X7_add : mx_okW mx_k_X7_add = true := by decide +kernel
set_option maxRecDepth 100000 in
theorem mx_o_X7_at : mx_okM mx_k_X7_at = true := by decide +kernel
set_option maxRecDepth 100000 in
theorem mx_v_X7_at : mx_okW mx_k_X7_at = true := by decide +kernel
set_option maxRecDepth 100000 in
theorem mx_o_X7_holds : mx_okM mx_k_X7_holds = true := by decide +kernel
set_option maxRecDepth 100000 in
theorem mx_v_X7_holds : mx_okW mx_k_X7_holds = true := by decide +kernel
set_option maxRecDepth 100000 in
theorem mx_o_X7_worthIn : mx_okM mx_k_X7_worthIn = true := by decide +kernel
set_option maxRecDepth 100000 in
theorem mx_v_X7_worthIn : mx_okW mx_k_X7_worthIn = true := by decide +kernel
set_option maxRecDepth 100000 in
theorem mx_o_X7_copyFrom : mx_okM mx_k_X7_copyFrom = true := by decide +kernel
set_option maxRecDepth 100000 in
theorem mx_v_X7_copyFrom : mx_okW mx_k_X7_copyFrom = true := by decide +kernel
set_option maxRecDepth 100000 in
theorem mx_o_X8_init : mx_okM mx_k_X8_init = true := by decide +kernel
set_option maxRecDepth 100000 in
theorem mx_v_X8_init : mx_okW mx_k_X8_init = true := by decide +kernel
set_option maxRecDepth 100000 in
theorem mx_o_X8_prepare : mx_okM mx_k_X8_prepare = true := by decide +kernel
set_option maxRecDepth 100000 in
theorem mx_v_X8_prepare : mx_okW mx_k_X8_prepare = true := by decide +kernel
set_option maxRecDepth 100000 in
theorem mx_o_X8_openingBy : mx_okM mx_k_X8_openingBy = true := by decide +kernel
set_option maxRecDepth 100000 in
theorem mx_v_X8_openingBy : mx_okW mx_k_X8_openingBy = true := by decide +kernel
set_option maxRecDepth 100000 in
theorem mx_o_X8_findSafe : mx_okM mx_k_X8_findSafe = true := by decide +kernel
set_option maxRecDepth 100000 in
theorem mx_v_X8_findSafe : mx_okW mx_k_X8_findSafe = true := by decide +kernel
set_option maxRecDepth 100000 in
theorem mx_o_X8_findLure : mx_okM mx_k_X8_findLure = true := by decide +kernel
set_option maxRecDepth 100000 in
theorem mx_v_X8_findLure : mx_okW mx_k_X8_findLure = true := by decide +kernel
set_option maxRecDepth 100000 in
theorem mx_o_X8_followShortest : mx_okM mx_k_X8_followShortest = true := by decide +kernel
set_option maxRecDepth 100000 in
theorem mx_v_X8_followShortest : mx_okW mx_k_X8_followShortest = true := by decide +kernel
set_option maxRecDepth 100000 in
theorem mx_o_X8_follow : mx_okM mx_k_X8_follow = true := by decide +kernel
set_option maxRecDepth 100000 in
theorem mx_v_X8_follow : mx_okW mx_k_X8_follow = true := by decide +kernel
set_option maxRecDepth 100000 in
theorem mx_o_X8_findBest : mx_okM mx_k_X8_findBest = true := by decide +kernel
set_option maxRecDepth 100000 in
theorem mx_v_X8_findBest : mx_okW mx_k_X8_findBest = true := by decide +kernel
set_option maxRecDepth 100000 in
theorem mx_o_X8_followWorth : mx_okM mx_k_X8_followWorth = true := by decide +kernel
set_option maxRecDepth 100000 in
theorem mx_v_X8_followWorth : mx_okW mx_k_X8_followWorth = true := by decide +kernel
set_option maxRecDepth 100000 in
theorem mx_o_X8_firstBehindWith : mx_okM mx_k_X8_firstBehindWith = true := by decide +kernel
set_option maxRecDepth 100000 in
theorem mx_v_X8_firstBehindWith : mx_okW mx_k_X8_firstBehindWith = true := by decide +kernel
set_option maxRecDepth 100000 in
theorem mx_o_X8_countWays : mx_okM mx_k_X8_countWays = true := by decide +kernel
set_option maxRecDepth 100000 in
theorem mx_v_X8_countWays : mx_okW mx_k_X8_countWays = true := by decide +kernel
set_option maxRecDepth 100000 in
theorem mx_o_X8_winnerBehind : mx_okM mx_k_X8_winnerBehind = true := by decide +kernel
set_option maxRecDepth 100000 in
theorem mx_v_X8_winnerBehind : mx_okW mx_k_X8_winnerBehind = true := by decide +kernel
set_option maxRecDepth 100000 in
theorem mx_o_X9_init : mx_okM mx_k_X9_init = true := by decide +kernel
set_option maxRecDepth 100000 in
theorem mx_v_X9_init : mx_okW mx_k_X9_init = true := by decide +kernel
set_option maxRecDepth 100000 in
theorem mx_o_X9_startIn : mx_okM mx_k_X9_startIn = true := by decide +kernel
set_option maxRecDepth 100000 in
theorem mx_v_X9_startIn : mx_okW mx_k_X9_startIn = true := by decide +kernel
set_option maxRecDepth 100000 in
theorem mx_o_X9_copyFrom : mx_okM mx_k_X9_copyFrom = true := by decide +kernel
set_option maxRecDepth 100000 in
theorem mx_v_X9_copyFrom : mx_okW mx_k_X9_copyFrom = true := by decide +kernel
set_option maxRecDepth 100000 in
theorem mx_o_X9_mayorOf : mx_okM mx_k_X9_mayorOf = true := by decide +kernel
set_option maxRecDepth 100000 in
theorem mx_v_X9_mayorOf : mx_okW mx_k_X9_mayorOf = true := by decide +kernel
set_option maxRecDepth 100000 in
theorem mx_o_X9_otherMayor : mx_okM mx_k_X9_otherMayor = true := by decide +kernel
set_option maxRecDepth 100000 in
theorem mx_v_X9_otherMayor : mx_okW mx_k_X9_otherMayor = true := by decide +kernel
set_option maxRecDepth 100000 in
theorem mx_o_X9_knowersOf : mx_okM mx_k_X9_knowersOf = true := by decide +kernel
set_option maxRecDepth 100000 in
theorem mx_v_X9_knowersOf : mx_okW mx_k_X9_knowersOf = true := by decide +kernel
set_option maxRecDepth 100000 in
theorem mx_o_X9_decreesOfBoth : mx_okM mx_k_X9_decreesOfBoth = true := by decide +kernel
set_option maxRecDepth 100000 in
theorem mx_v_X9_decreesOfBoth : mx_okW mx_k_X9_decreesOfBoth = true := by decide +kernel
set_option maxRecDepth 100000 in
theorem mx_o_X9_lastWord : mx_okM mx_k_X9_lastWord = true := by decide +kernel
set_option maxRecDepth 100000 in
theorem mx_v_X9_lastWord : mx_okW mx_k_X9_lastWord = true := by decide +kernel
set_option maxRecDepth 100000 in
theorem mx_o_X9_fits : mx_okM mx_k_X9_fits = true := by decide +kernel
set_option maxRecDepth 100000 in
theorem mx_v_X9_fits : mx_okW mx_k_X9_fits = true := by decide +kernel
set_option maxRecDepth 100000 in
theorem mx_o_X9_isEndable : mx_okM mx_k_X9_isEndable = true := by decide +kernel
set_option maxRecDepth 100000 in
theorem mx_v_X9_isEndable : mx_okW mx_k_X9_isEndable = true := by decide +kernel
set_option maxRecDepth 100000 in
theorem mx_o_X9_sayableByOther : mx_okM mx_k_X9_sayableByOther = true := by decide +kernel
set_option maxRecDepth 100000 in
theorem mx_v_X9_sayableByOther : mx_okW mx_k_X9_sayableByOther = true := by decide +kernel
set_option maxRecDepth 100000 in
theorem mx_o_X9_speak : mx_okM mx_k_X9_speak = true := by decide +kernel
set_option maxRecDepth 100000 in
theorem mx_v_X9_speak : mx_okW mx_k_X9_speak = true := by decide +kernel
set_option maxRecDepth 100000 in
theorem mx_o_X9_letFall : mx_okM mx_k_X9_letFall = true := by decide +kernel
set_option maxRecDepth 100000 in
theorem mx_v_X9_letFall : mx_okW mx_k_X9_letFall = true := by decide +kernel
set_option maxRecDepth 100000 in
theorem mx_o_X9_decree : mx_okM mx_k_X9_decree = true := by decide +kernel
set_option maxRecDepth 100000 in
theorem mx_v_X9_decree : mx_okW mx_k_X9_decree = true := by decide +kernel
set_option maxRecDepth 100000 in
theorem mx_o_X9_passOver : mx_okM mx_k_X9_passOver = true := by decide +kernel
set_option maxRecDepth 100000 in
theorem mx_v_X9_passOver : mx_okW mx_k_X9_passOver = true := by decide +kernel
set_option maxRecDepth 100000 in
theorem mx_o_X9_gain : mx_okM mx_k_X9_gain = true := by decide +kernel
set_option maxRecDepth 100000 in
theorem mx_v_X9_gain : mx_okW mx_k_X9_gain = true := by decide +kernel
set_option maxRecDepth 100000 in
theorem mx_o_X10_init : mx_okM mx_k_X10_init = true := by decide +kernel
set_option maxRecDepth 100000 in
theorem mx_v_X10_init : mx_okW mx_k_X10_init = true := by decide +kernel
set_option maxRecDepth 100000 in
theorem mx_o_X10_add : mx_okM mx_k_X10_add = true := by decide +kernel
set_option maxRecDepth 100000 in
theorem mx_v_X10_add : mx_okW mx_k_X10_add = true := by decide +kernel
set_option maxRecDepth 100000 in
theorem mx_o_X10_clear : mx_okM mx_k_X10_clear = true := by decide +kernel
set_option maxRecDepth 100000 in
theorem mx_v_X10_clear : mx_okW mx_k_X10_clear = true := by decide +kernel
set_option maxRecDepth 100000 in
theorem mx_o_X10_readInto : mx_okM mx_k_X10_readInto = true := by decide +kernel
set_option maxRecDepth 100000 in
theorem mx_v_X10_readInto : mx_okW mx_k_X10_readInto = true := by decide +kernel
set_option maxRecDepth 100000 in
theorem mx_o_X10_readItem : mx_okM mx_k_X10_readItem = true := by decide +kernel
set_option maxRecDepth 100000 in
theorem mx_v_X10_readItem : mx_okW mx_k_X10_readItem = true := by decide +kernel
set_option maxRecDepth 100000 in
theorem mx_o_X10_takeItem : mx_okM mx_k_X10_takeItem = true := by decide +kernel
set_option maxRecDepth 100000 in
theorem mx_v_X10_takeItem : mx_okW mx_k_X10_takeItem = true := by decide +kernel
set_option maxRecDepth 100000 in
theorem mx_o_X10_figuresAt : mx_okM mx_k_X10_figuresAt = true := by decide +kernel
set_option maxRecDepth 100000 in
theorem mx_v_X10_figuresAt : mx_okW mx_k_X10_figuresAt = true := by decide +kernel
set_option maxRecDepth 100000 in
theorem mx_o_X10_valueAt : mx_okM mx_k_X10_valueAt = true := by decide +kernel
set_option maxRecDepth 100000 in
theorem mx_v_X10_valueAt : mx_okW mx_k_X10_valueAt = true := by decide +kernel
set_option maxRecDepth 100000 in
theorem mx_o_X10_isFigure : mx_okM mx_k_X10_isFigure = true := by decide +kernel
set_option maxRecDepth 100000 in
theorem mx_v_X10_isFigure : mx_okW mx_k_X10_isFigure = true := by decide +kernel
set_option maxRecDepth 100000 in
theorem mx_o_X10_letterAt : mx_okM mx_k_X10_letterAt = true := by decide +kernel
set_option maxRecDepth 100000 in
theorem mx_v_X10_letterAt : mx_okW mx_k_X10_letterAt = true := by decide +kernel
