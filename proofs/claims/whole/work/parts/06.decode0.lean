set_option maxRecDepth 100000 in
theorem px_chk_0 : (List.range' 0 13).all px_chk = true := by decide +kernel
set_option maxRecDepth 100000 in
theorem px_chk_13 : (List.range' 13 6).all px_chk = true := by decide +kernel
set_option maxRecDepth 100000 in
theorem px_chk_19 : (List.range' 19 5).all px_chk = true := by decide +kernel
set_option maxRecDepth 100000 in
theorem px_chk_24 : (List.range' 24 8).all px_chk = true := by decide +kernel
set_option maxRecDepth 100000 in
theorem px_chk_32 : (List.range' 32 9).all px_chk = true := by decide +kernel
set_option maxRecDepth 100000 in
theorem px_chk_41 : (List.range' 41 6).all px_chk = true := by decide +kernel
set_option maxRecDepth 100000 in
theorem px_chk_47 : (List.range' 47 4).all px_chk = true := by decide +kernel
set_option maxRecDepth 100000 in
theorem px_chk_51 : (List.range' 51 9).all px_chk = true := by decide +kernel
set_option maxRecDepth 100000 in
theorem px_chk_60 : (List.range' 60 7).all px_chk = true := by decide +kernel
set_option maxRecDepth 100000 in
theorem px_chk_67 : (List.range' 67 6).all px_chk = true := by decide +kernel
set_option maxRecDepth 100000 in
theorem px_chk_73 : (List.range' 73 3).all px_chk = true := by decide +kernel
set_option maxRecDepth 100000 in
theorem px_chk_76 : (List.range' 76 6).all px_chk = true := by decide +kernel
set_option maxRecDepth 100000 in
theorem px_chk_82 : (List.range' 82 6).all px_chk = true := by decide +kernel
