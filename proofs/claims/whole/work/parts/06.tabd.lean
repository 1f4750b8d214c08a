set_option maxRecDepth 100000 in
theorem shok_all : (List.range 140).all shok = true := by decide +kernel
set_option maxRecDepth 100000 in
theorem lkM_1 : (List.range 113).all lkM = true := by decide +kernel
set_option maxRecDepth 100000 in
theorem lkM_2 : (List.range 112).all (fun t => lkM (113 + t)) = true := by decide +kernel
set_option maxRecDepth 100000 in
theorem lkI_all : ocs.all lkI = true := by decide +kernel
set_option maxRecDepth 100000 in
theorem lkF_all : ocs.all lkF = true := by decide +kernel
set_option maxRecDepth 100000 in
theorem lkT_all : ocs.all lkT = true := by decide +kernel
set_option maxRecDepth 100000 in
theorem lkC_all : ocs.all lkC = true := by decide +kernel
set_option maxRecDepth 100000 in
theorem lkX_all : zipA acT acTp (fun q p => isA p (.methodLink (cn q.1) q.2 arraycopyName)) = true := by decide +kernel
set_option maxRecDepth 100000 in
theorem lkY_all : zipA maT maTp (fun q p => isA p (.methodLink (cn q.1) q.2.1 (bif Nat.beq q.2.2 904 then Lib.Math.max.name else (bif Nat.beq q.2.2 905 then Lib.Math.min.name else Lib.MathLoose.min_long.x)))) = true := by decide +kernel
set_option maxRecDepth 100000 in
theorem lkZ_all : (isA (acp.getD 0 0) (.native arraycopyName) && (isA (acp.getD 1 0) (.static arraycopyName) && isA (acp.getD 2 0) (.initialized "java/lang/System"))) = true := by decide +kernel
set_option maxRecDepth 100000 in
theorem lkW_all : (isA (mmp.getD 0 0) (.static Lib.Math.max.name) && (isA (mmp.getD 1 0) (.static Lib.Math.min.name) && (isA (mmp.getD 2 0) (.static Lib.MathLoose.min_long.x) && (isA (mmp.getD 3 0) (.code Lib.Math.max.name Lib.Math.max.code 2 (some .int)) && (isA (mmp.getD 4 0) (.code Lib.Math.min.name Lib.Math.min.code 2 (some .int)) && (isA (mmp.getD 5 0) (.code Lib.MathLoose.min_long.x Lib.MathLoose.min_long.code 4 (some .long)) && isA (mmp.getD 6 0) (.initialized "java/lang/Math"))))))) = true := by decide +kernel
set_option maxRecDepth 100000 in
theorem lkG_all : (isA (835) (.fieldLink "java/lang/String" 38 "java/lang/String" "COMPACT_STRINGS" "Z") && isA (874) (.fieldLink "java/lang/String" 1053 "jdk/internal/util/Preconditions" "SIOOBE_FORMATTER" "Ljava/util/function/BiFunction;")) = true := by decide +kernel
