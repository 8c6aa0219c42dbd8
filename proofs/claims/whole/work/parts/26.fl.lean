set_option maxRecDepth 100000 in
set_option maxHeartbeats 4000000 in
theorem fch_L_0 : (((fmT fd_L_law).getD 0 (0, [])).2.all fun q => fEokb fd_L_law q.1 q.2.1 q.2.2.1 q.2.2.2) = true := by decide +kernel
set_option maxRecDepth 100000 in
set_option maxHeartbeats 4000000 in
theorem fch_L_1 : (((fmT fd_L_law).getD 1 (0, [])).2.all fun q => fEokb fd_L_law q.1 q.2.1 q.2.2.1 q.2.2.2) = true := by decide +kernel
set_option maxRecDepth 100000 in
set_option maxHeartbeats 4000000 in
theorem fch_L_2 : (((fmT fd_L_law).getD 2 (0, [])).2.all fun q => fEokb fd_L_law q.1 q.2.1 q.2.2.1 q.2.2.2) = true := by decide +kernel
set_option maxRecDepth 100000 in
set_option maxHeartbeats 4000000 in
theorem fch_L_3 : (((fmT fd_L_law).getD 3 (0, [])).2.all fun q => fEokb fd_L_law q.1 q.2.1 q.2.2.1 q.2.2.2) = true := by decide +kernel
set_option maxRecDepth 100000 in
set_option maxHeartbeats 4000000 in
theorem fch_L_4 : (((fmT fd_L_law).getD 4 (0, [])).2.all fun q => fEokb fd_L_law q.1 q.2.1 q.2.2.1 q.2.2.2) = true := by decide +kernel
set_option maxRecDepth 100000 in
set_option maxHeartbeats 4000000 in
theorem fch_L_5 : (((fmT fd_L_law).getD 5 (0, [])).2.all fun q => fEokb fd_L_law q.1 q.2.1 q.2.2.1 q.2.2.2) = true := by decide +kernel
set_option maxRecDepth 100000 in
set_option maxHeartbeats 4000000 in
theorem fch_L_6 : (((fmT fd_L_law).getD 6 (0, [])).2.all fun q => fEokb fd_L_law q.1 q.2.1 q.2.2.1 q.2.2.2) = true := by decide +kernel
set_option maxRecDepth 100000 in
set_option maxHeartbeats 4000000 in
theorem fch_L_7 : (((fmT fd_L_law).getD 7 (0, [])).2.all fun q => fEokb fd_L_law q.1 q.2.1 q.2.2.1 q.2.2.2) = true := by decide +kernel
set_option maxRecDepth 100000 in
set_option maxHeartbeats 4000000 in
theorem fch_L_8 : (((fmT fd_L_law).getD 8 (0, [])).2.all fun q => fEokb fd_L_law q.1 q.2.1 q.2.2.1 q.2.2.2) = true := by decide +kernel
set_option maxRecDepth 100000 in
set_option maxHeartbeats 4000000 in
theorem fch_L_9 : (((fmT fd_L_law).getD 9 (0, [])).2.all fun q => fEokb fd_L_law q.1 q.2.1 q.2.2.1 q.2.2.2) = true := by decide +kernel
set_option maxRecDepth 100000 in
set_option maxHeartbeats 4000000 in
theorem fch_L_10 : (((fmT fd_L_law).getD 10 (0, [])).2.all fun q => fEokb fd_L_law q.1 q.2.1 q.2.2.1 q.2.2.2) = true := by decide +kernel
set_option maxRecDepth 100000 in
set_option maxHeartbeats 4000000 in
theorem fch_L_11 : (((fmT fd_L_law).getD 11 (0, [])).2.all fun q => fEokb fd_L_law q.1 q.2.1 q.2.2.1 q.2.2.2) = true := by decide +kernel
set_option maxRecDepth 100000 in
set_option maxHeartbeats 4000000 in
theorem fch_L_12 : (((fmT fd_L_law).getD 12 (0, [])).2.all fun q => fEokb fd_L_law q.1 q.2.1 q.2.2.1 q.2.2.2) = true := by decide +kernel
set_option maxRecDepth 100000 in
set_option maxHeartbeats 4000000 in
theorem fch_L_13 : (((fmT fd_L_law).getD 13 (0, [])).2.all fun q => fEokb fd_L_law q.1 q.2.1 q.2.2.1 q.2.2.2) = true := by decide +kernel
set_option maxRecDepth 100000 in
set_option maxHeartbeats 4000000 in
theorem fch_L_14 : (((fmT fd_L_law).getD 14 (0, [])).2.all fun q => fEokb fd_L_law q.1 q.2.1 q.2.2.1 q.2.2.2) = true := by decide +kernel
set_option maxRecDepth 100000 in
set_option maxHeartbeats 4000000 in
theorem fch_L_15 : (((fmT fd_L_law).getD 15 (0, [])).2.all fun q => fEokb fd_L_law q.1 q.2.1 q.2.2.1 q.2.2.2) = true := by decide +kernel
set_option maxRecDepth 100000 in
set_option maxHeartbeats 4000000 in
theorem fch_L_16 : (((fmT fd_L_law).getD 16 (0, [])).2.all fun q => fEokb fd_L_law q.1 q.2.1 q.2.2.1 q.2.2.2) = true := by decide +kernel
