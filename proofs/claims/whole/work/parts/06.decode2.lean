set_option maxRecDepth 100000 in
theorem px_chk_190 : (List.range' 190 4).all px_chk = true := by decide +kernel
set_option maxRecDepth 100000 in
theorem px_chk_194 : (List.range' 194 9).all px_chk = true := by decide +kernel
set_option maxRecDepth 100000 in
theorem px_chk_203 : (List.range' 203 4).all px_chk = true := by decide +kernel
set_option maxRecDepth 100000 in
theorem px_chk_207 : (List.range' 207 6).all px_chk = true := by decide +kernel
set_option maxRecDepth 100000 in
theorem px_chk_213 : (List.range' 213 3).all px_chk = true := by decide +kernel
set_option maxRecDepth 100000 in
theorem px_chk_216 : (List.range' 216 4).all px_chk = true := by decide +kernel
set_option maxRecDepth 100000 in
theorem px_chk_220 : (List.range' 220 2).all px_chk = true := by decide +kernel
set_option maxRecDepth 100000 in
theorem px_chk_222 : (List.range' 222 9).all px_chk = true := by decide +kernel
set_option maxRecDepth 100000 in
theorem px_chk_231 : (List.range' 231 10).all px_chk = true := by decide +kernel
set_option maxRecDepth 100000 in
theorem px_chk_241 : (List.range' 241 10).all px_chk = true := by decide +kernel
set_option maxRecDepth 100000 in
theorem px_chk_251 : (List.range' 251 6).all px_chk = true := by decide +kernel
set_option maxRecDepth 100000 in
theorem px_chk_257 : (List.range' 257 2).all px_chk = true := by decide +kernel
set_option maxRecDepth 100000 in
theorem px_chk_259 : (List.range' 259 4).all px_chk = true := by decide +kernel
