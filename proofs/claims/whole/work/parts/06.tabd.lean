set_option maxRecDepth 100000 in
theorem shok_all : (List.range 140).all shok = true := by decide +kernel
set_option maxRecDepth 100000 in
theorem lkM_1 : (List.range 113).all lkM = true := by decide +kernel
set_option maxRecDepth 100000 in
theorem lkM_2 : (List.range 112).all (fun t => lkM (113 + t)) = true := by decide +kernel
set_option maxRecDepth 100000 in
theorem lkI_all : ocs.all lkI = true := by decide +kernel
set_option maxRecDepth 100000 in
theorem lkF_all : ocs.all lkF = true := by decide +kernel
set_option maxRecDepth 100000 in
theorem lkT_all : ocs.all lkT = true := by decide +kernel
set_option maxRecDepth 100000 in
theorem lkC_all : ocs.all lkC = true := by decide +kernel
set_option maxRecDepth 100000 in
theorem lkX_all : zipA acT acTp (fun q p => isA p (.methodLink (cn q.1) q.2 arraycopyName)) = true := by decide +kernel
set_option maxRecDepth 100000 in
theorem lkY_all : zipA maT maTp (fun q p => isA p (.methodLink (cn q.1) q.2.1 (bif Nat.beq q.2.2 904 then Lib.Math.max.name else (bif Nat.beq q.2.2 905 then Lib.Math.min.name else Lib.MathLoose.min_long.x)))) = true := by decide +kernel
set_option maxRecDepth 100000 in
theorem lkZ_all : (isA (acp.getD 0 0) (.native arraycopyName) && isA (acp.getD 1 0) (.static arraycopyName) && isA (acp.getD 2 0) (.initialized "java/lang/System")) = true := by decide +kernel
set_option maxRecDepth 100000 in
theorem lkW_all : (isA (mmp.getD 0 0) (.static Lib.Math.max.name) && isA (mmp.getD 1 0) (.static Lib.Math.min.name) && isA (mmp.getD 2 0) (.static Lib.MathLoose.min_long.x) && isA (mmp.getD 3 0) (.code Lib.Math.max.name Lib.Math.max.code 2 (some .int)) && isA (mmp.getD 4 0) (.code Lib.Math.min.name Lib.Math.min.code 2 (some .int)) && isA (mmp.getD 5 0) (.code Lib.MathLoose.min_long.x Lib.MathLoose.min_long.code 4 (some .long)) && isA (mmp.getD 6 0) (.initialized "java/lang/Math")) = true := by decide +kernel
set_option maxRecDepth 100000 in
theorem cd_0 : lw_tbl[codp.getD 0 0]? = some (.code (mN 0) (mC 0) (mL 0) (mR 0)) := rfl
set_option maxRecDepth 100000 in
theorem cd_40 : lw_tbl[codp.getD 40 0]? = some (.code (mN 40) (mC 40) (mL 40) (mR 40)) := rfl
set_option maxRecDepth 100000 in
theorem cd_80 : lw_tbl[codp.getD 80 0]? = some (.code (mN 80) (mC 80) (mL 80) (mR 80)) := rfl
set_option maxRecDepth 100000 in
theorem cd_120 : lw_tbl[codp.getD 120 0]? = some (.code (mN 120) (mC 120) (mL 120) (mR 120)) := rfl
set_option maxRecDepth 100000 in
theorem cd_160 : lw_tbl[codp.getD 160 0]? = some (.code (mN 160) (mC 160) (mL 160) (mR 160)) := rfl
set_option maxRecDepth 100000 in
theorem cd_200 : lw_tbl[codp.getD 200 0]? = some (.code (mN 200) (mC 200) (mL 200) (mR 200)) := rfl
