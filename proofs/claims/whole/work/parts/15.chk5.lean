set_option maxRecDepth 100000 in
theorem chk_284_4 : ((((((pCode 284).drop 40).drop 40).drop 40).drop 40).take 40).all (chkFl 284) = true := by decide +kernel
set_option maxRecDepth 100000 in
theorem chk_284_5 : (((((((pCode 284).drop 40).drop 40).drop 40).drop 40).drop 40).take 40).all (chkFl 284) = true := by decide +kernel
set_option maxRecDepth 100000 in
theorem chk_284_6 : ((((((((pCode 284).drop 40).drop 40).drop 40).drop 40).drop 40).drop 40).take 40).all (chkFl 284) = true := by decide +kernel
set_option maxRecDepth 100000 in
theorem chk_284_7 : (((((((((pCode 284).drop 40).drop 40).drop 40).drop 40).drop 40).drop 40).drop 40).take 40).all (chkFl 284) = true := by decide +kernel
set_option maxRecDepth 100000 in
theorem chk_284_8 : ((((((((((pCode 284).drop 40).drop 40).drop 40).drop 40).drop 40).drop 40).drop 40).drop 40).take 40).all (chkFl 284) = true := by decide +kernel
set_option maxRecDepth 100000 in
theorem chk_284_9 : (((((((((((pCode 284).drop 40).drop 40).drop 40).drop 40).drop 40).drop 40).drop 40).drop 40).drop 40).take 40).all (chkFl 284) = true := by decide +kernel
set_option maxRecDepth 100000 in
theorem chk_284_10 : ((((((((((((pCode 284).drop 40).drop 40).drop 40).drop 40).drop 40).drop 40).drop 40).drop 40).drop 40).drop 40).take 40).all (chkFl 284) = true := by decide +kernel
set_option maxRecDepth 100000 in
theorem chk_284_11 : (((((((((((((pCode 284).drop 40).drop 40).drop 40).drop 40).drop 40).drop 40).drop 40).drop 40).drop 40).drop 40).drop 40).take 40).all (chkFl 284) = true := by decide +kernel
set_option maxRecDepth 100000 in
theorem chk_284_12 : ((((((((((((((pCode 284).drop 40).drop 40).drop 40).drop 40).drop 40).drop 40).drop 40).drop 40).drop 40).drop 40).drop 40).drop 40).take 40).all (chkFl 284) = true := by decide +kernel
set_option maxRecDepth 100000 in
theorem chk_284_13 : (((((((((((((((pCode 284).drop 40).drop 40).drop 40).drop 40).drop 40).drop 40).drop 40).drop 40).drop 40).drop 40).drop 40).drop 40).drop 40).take 40).all (chkFl 284) = true := by decide +kernel
