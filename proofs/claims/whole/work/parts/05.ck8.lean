set_option maxRecDepth 100000 in
theorem lwd_13 : dcOK code rw_278_13 = true := by decide +kernel
set_option maxRecDepth 100000 in
theorem lwl_13 : lnOK RL rw_278_13 = true := by decide +kernel
set_option maxRecDepth 100000 in
theorem lwd_14 : dcOK code rw_278_14 = true := by decide +kernel
set_option maxRecDepth 100000 in
theorem lwl_14 : lnOK RL rw_278_14 = true := by decide +kernel
set_option maxRecDepth 100000 in
theorem lwd_15 : dcOK code rw_278_15 = true := by decide +kernel
set_option maxRecDepth 100000 in
theorem lwl_15 : lnOK RL rw_278_15 = true := by decide +kernel
set_option maxRecDepth 100000 in
theorem lwd_16 : dcOK code rw_278_16 = true := by decide +kernel
set_option maxRecDepth 100000 in
theorem lwl_16 : lnOK RL rw_278_16 = true := by decide +kernel
set_option maxRecDepth 100000 in
theorem lwd_17 : dcOK code rw_278_17 = true := by decide +kernel
set_option maxRecDepth 100000 in
theorem lwl_17 : lnOK RL rw_278_17 = true := by decide +kernel
set_option maxRecDepth 100000 in
theorem lwd_18 : dcOK code rw_278_18 = true := by decide +kernel
set_option maxRecDepth 100000 in
theorem lwl_18 : lnOK RL rw_278_18 = true := by decide +kernel
set_option maxRecDepth 100000 in
theorem lwd_19 : dcOK code rw_278_19 = true := by decide +kernel
set_option maxRecDepth 100000 in
theorem lwl_19 : lnOK RL rw_278_19 = true := by decide +kernel
set_option maxRecDepth 100000 in
theorem lwd_20 : dcOK code rw_278_20 = true := by decide +kernel
set_option maxRecDepth 100000 in
theorem lwl_20 : lnOK RL rw_278_20 = true := by decide +kernel
set_option maxRecDepth 100000 in
theorem lwd_21 : dcOK code rw_278_21 = true := by decide +kernel
set_option maxRecDepth 100000 in
theorem lwl_21 : lnOK RL rw_278_21 = true := by decide +kernel
set_option maxRecDepth 100000 in
theorem lwd_22 : dcOK code rw_278_22 = true := by decide +kernel
set_option maxRecDepth 100000 in
theorem lwl_22 : lnOK RL rw_278_22 = true := by decide +kernel
set_option maxRecDepth 100000 in
theorem lwd_23 : dcOK code rw_278_23 = true := by decide +kernel
set_option maxRecDepth 100000 in
theorem lwl_23 : lnOK RL rw_278_23 = true := by decide +kernel
set_option maxRecDepth 100000 in
theorem lwd_24 : dcOK code rw_278_24 = true := by decide +kernel
set_option maxRecDepth 100000 in
theorem lwl_24 : lnOK RL rw_278_24 = true := by decide +kernel
set_option maxRecDepth 100000 in
theorem lwd_25 : dcOK code rw_278_25 = true := by decide +kernel
set_option maxRecDepth 100000 in
theorem lwl_25 : lnOK RL rw_278_25 = true := by decide +kernel
