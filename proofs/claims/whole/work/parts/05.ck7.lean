set_option maxRecDepth 100000 in
theorem lwd_0 : dcOK code rw_278_0 = true := by decide +kernel
set_option maxRecDepth 100000 in
theorem lwl_0 : lnOK RL rw_278_0 = true := by decide +kernel
set_option maxRecDepth 100000 in
theorem lwd_1 : dcOK code rw_278_1 = true := by decide +kernel
set_option maxRecDepth 100000 in
theorem lwl_1 : lnOK RL rw_278_1 = true := by decide +kernel
set_option maxRecDepth 100000 in
theorem lwd_2 : dcOK code rw_278_2 = true := by decide +kernel
set_option maxRecDepth 100000 in
theorem lwl_2 : lnOK RL rw_278_2 = true := by decide +kernel
set_option maxRecDepth 100000 in
theorem lwd_3 : dcOK code rw_278_3 = true := by decide +kernel
set_option maxRecDepth 100000 in
theorem lwl_3 : lnOK RL rw_278_3 = true := by decide +kernel
set_option maxRecDepth 100000 in
theorem lwd_4 : dcOK code rw_278_4 = true := by decide +kernel
set_option maxRecDepth 100000 in
theorem lwl_4 : lnOK RL rw_278_4 = true := by decide +kernel
set_option maxRecDepth 100000 in
theorem lwd_5 : dcOK code rw_278_5 = true := by decide +kernel
set_option maxRecDepth 100000 in
theorem lwl_5 : lnOK RL rw_278_5 = true := by decide +kernel
set_option maxRecDepth 100000 in
theorem lwd_6 : dcOK code rw_278_6 = true := by decide +kernel
set_option maxRecDepth 100000 in
theorem lwl_6 : lnOK RL rw_278_6 = true := by decide +kernel
set_option maxRecDepth 100000 in
theorem lwd_7 : dcOK code rw_278_7 = true := by decide +kernel
set_option maxRecDepth 100000 in
theorem lwl_7 : lnOK RL rw_278_7 = true := by decide +kernel
set_option maxRecDepth 100000 in
theorem lwd_8 : dcOK code rw_278_8 = true := by decide +kernel
set_option maxRecDepth 100000 in
theorem lwl_8 : lnOK RL rw_278_8 = true := by decide +kernel
set_option maxRecDepth 100000 in
theorem lwd_9 : dcOK code rw_278_9 = true := by decide +kernel
set_option maxRecDepth 100000 in
theorem lwl_9 : lnOK RL rw_278_9 = true := by decide +kernel
set_option maxRecDepth 100000 in
theorem lwd_10 : dcOK code rw_278_10 = true := by decide +kernel
set_option maxRecDepth 100000 in
theorem lwl_10 : lnOK RL rw_278_10 = true := by decide +kernel
set_option maxRecDepth 100000 in
theorem lwd_11 : dcOK code rw_278_11 = true := by decide +kernel
set_option maxRecDepth 100000 in
theorem lwl_11 : lnOK RL rw_278_11 = true := by decide +kernel
set_option maxRecDepth 100000 in
theorem lwd_12 : dcOK code rw_278_12 = true := by decide +kernel
set_option maxRecDepth 100000 in
theorem lwl_12 : lnOK RL rw_278_12 = true := by decide +kernel
