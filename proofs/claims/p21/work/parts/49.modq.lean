theorem nI_4l1 : ((nI 4 : Int32) < nI 1) = False := by decide +kernel
theorem nI_1e0 : (nI 1 = 0) = False := by decide +kernel
theorem nI_0l1 : ((0 : Int32) < nI 1) = True := by decide +kernel
theorem nI_0ln : ((0 : Int32) < (-1)) = False := by decide +kernel
theorem nI_e11 : (nI 1 = nI 1) = True := by decide +kernel
theorem zty_70 : zty 7 (.int (nI 97)) = true := by decide +kernel
