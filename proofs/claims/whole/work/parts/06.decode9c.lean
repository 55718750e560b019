set_option maxRecDepth 100000 in
theorem px_chm_30 : ((px_tb px_LAW).drop 30 |>.take 1).all (fun ch => ch.all fun e => decide (decode (px_by px_LAW) e.1 = .ok (e.2.1, e.2.2)) && px_oki px_LAW e.1 e.2.2 e.2.1) = true := by decide +kernel
