set_option maxRecDepth 100000 in
theorem px_chk_263 : (List.range' 263 6).all px_chk = true := by decide +kernel
set_option maxRecDepth 100000 in
theorem px_chk_269 : (List.range' 269 8).all px_chk = true := by decide +kernel
set_option maxRecDepth 100000 in
theorem px_chk_277 : (List.range' 277 9).all px_chk = true := by decide +kernel
set_option maxRecDepth 100000 in
theorem px_chk_286 : (List.range' 286 6).all px_chk = true := by decide +kernel
set_option maxRecDepth 100000 in
theorem px_chk_292 : (List.range' 292 5).all px_chk = true := by decide +kernel
set_option maxRecDepth 100000 in
theorem px_chk_297 : (List.range' 297 11).all px_chk = true := by decide +kernel
set_option maxRecDepth 100000 in
theorem px_chk_308 : (List.range' 308 4).all px_chk = true := by decide +kernel
set_option maxRecDepth 100000 in
theorem px_chk_312 : (List.range' 312 3).all px_chk = true := by decide +kernel
set_option maxRecDepth 100000 in
theorem px_chk_315 : (List.range' 315 7).all px_chk = true := by decide +kernel
set_option maxRecDepth 100000 in
theorem px_chk_322 : (List.range' 322 7).all px_chk = true := by decide +kernel
set_option maxRecDepth 100000 in
theorem px_chk_329 : (List.range' 329 3).all px_chk = true := by decide +kernel
set_option maxRecDepth 100000 in
theorem px_chk_332 : (List.range' 332 10).all px_chk = true := by decide +kernel
