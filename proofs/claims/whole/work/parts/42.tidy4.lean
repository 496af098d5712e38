set_option maxRecDepth 100000 in
set_option maxHeartbeats 4000000 in
theorem td_b4a : po4a.all (fun f => tdB 4 f) = true := by decide +kernel
set_option maxRecDepth 100000 in
set_option maxHeartbeats 4000000 in
theorem td_b4b : po4b.all (fun f => tdB 4 f) = true := by decide +kernel
set_option maxRecDepth 100000 in
set_option maxHeartbeats 4000000 in
theorem td_b4c : po4c.all (fun f => tdB 4 f) = true := by decide +kernel
