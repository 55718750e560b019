set_option maxRecDepth 100000 in
theorem px_chl_12 : ((px_tb px_LAW).drop 12 |>.take 3).all (fun ch => ch.all fun e => decide (decode (px_by px_LAW) e.1 = .ok (e.2.1, e.2.2)) && px_oki px_LAW e.1 e.2.2 e.2.1) = true := by decide +kernel
set_option maxRecDepth 100000 in
theorem px_chl_15 : ((px_tb px_LAW).drop 15 |>.take 3).all (fun ch => ch.all fun e => decide (decode (px_by px_LAW) e.1 = .ok (e.2.1, e.2.2)) && px_oki px_LAW e.1 e.2.2 e.2.1) = true := by decide +kernel
set_option maxRecDepth 100000 in
theorem px_chl_18 : ((px_tb px_LAW).drop 18 |>.take 3).all (fun ch => ch.all fun e => decide (decode (px_by px_LAW) e.1 = .ok (e.2.1, e.2.2)) && px_oki px_LAW e.1 e.2.2 e.2.1) = true := by decide +kernel
set_option maxRecDepth 100000 in
theorem px_chl_21 : ((px_tb px_LAW).drop 21 |>.take 3).all (fun ch => ch.all fun e => decide (decode (px_by px_LAW) e.1 = .ok (e.2.1, e.2.2)) && px_oki px_LAW e.1 e.2.2 e.2.1) = true := by decide +kernel
