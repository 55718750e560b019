set_option maxRecDepth 100000 in
theorem px_chk_88 : (List.range' 88 10).all px_chk = true := by decide +kernel
set_option maxRecDepth 100000 in
theorem px_chk_98 : (List.range' 98 8).all px_chk = true := by decide +kernel
set_option maxRecDepth 100000 in
theorem px_chk_106 : (List.range' 106 8).all px_chk = true := by decide +kernel
set_option maxRecDepth 100000 in
theorem px_chk_114 : (List.range' 114 8).all px_chk = true := by decide +kernel
set_option maxRecDepth 100000 in
theorem px_chk_122 : (List.range' 122 5).all px_chk = true := by decide +kernel
set_option maxRecDepth 100000 in
theorem px_chk_127 : (List.range' 127 8).all px_chk = true := by decide +kernel
set_option maxRecDepth 100000 in
theorem px_chk_135 : (List.range' 135 4).all px_chk = true := by decide +kernel
set_option maxRecDepth 100000 in
theorem px_chk_139 : (List.range' 139 7).all px_chk = true := by decide +kernel
set_option maxRecDepth 100000 in
theorem px_chk_146 : (List.range' 146 11).all px_chk = true := by decide +kernel
set_option maxRecDepth 100000 in
theorem px_chk_157 : (List.range' 157 11).all px_chk = true := by decide +kernel
set_option maxRecDepth 100000 in
theorem px_chk_168 : (List.range' 168 3).all px_chk = true := by decide +kernel
set_option maxRecDepth 100000 in
theorem px_chk_171 : (List.range' 171 6).all px_chk = true := by decide +kernel
set_option maxRecDepth 100000 in
theorem px_chk_177 : (List.range' 177 13).all px_chk = true := by decide +kernel
