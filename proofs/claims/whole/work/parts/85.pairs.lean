/-! the pairs of questions, printed by gen_law.py -/
theorem pr_90 {x1 x2 : Int32} : PR 90 [some (.ref 0), some (.int x1), some (.int x2), none, none] 207 [some (.ref 56), some (.int x1), some (.int x2)] :=
  PR_q (fun y => an_90 y x1 x2) (fun _ _ _ C h => sc_90 C h) (fun _ _ _ R h => sr_207 R h)
theorem pr_91 {x1 : Int32} : PR 91 [some (.ref 0), some (.int x1)] 231 [some (.ref 56), some (.int x1)] :=
  PR_q (fun y => an_91 y x1) (fun _ _ _ C h => sc_91 C h) (fun _ _ _ R h => sr_231 R h)
theorem pr_92 {x1 : Int32} : PR 92 [some (.ref 0), some (.int x1)] 232 [some (.ref 56), some (.int x1), none, none] :=
  PR_q (fun y => an_92 y x1) (fun _ _ _ C h => sc_92 C h) (fun _ _ _ R h => sr_232 R h)
theorem pr_93 {x1 : Int32} : PR 93 [some (.ref 0), some (.int x1)] 233 [some (.ref 56), some (.int x1)] :=
  PR_q (fun y => an_93 y x1) (fun _ _ _ C h => sc_93 C h) (fun _ _ _ R h => sr_233 R h)
theorem pr_94 {x1 x2 : Int32} : PR 94 [some (.ref 0), some (.int x1), some (.int x2)] 234 [some (.ref 56), some (.int x1), some (.int x2)] :=
  PR_q (fun y => an_94 y x1 x2) (fun _ _ _ C h => sc_94 C h) (fun _ _ _ R h => sr_234 R h)
theorem pr_95 {x1 x2 : Int32} : PR 95 [some (.ref 0), some (.int x1), some (.int x2), none] 235 [some (.ref 56), some (.int x1), some (.int x2)] :=
  PR_q (fun y => an_95 y x1 x2) (fun _ _ _ C h => sc_95 C h) (fun _ _ _ R h => sr_235 R h)
theorem pr_96 {x1 x2 : Int32} : PR 96 [some (.ref 0), some (.int x1), some (.int x2), none, none, none] 236 [some (.ref 56), some (.int x1), some (.int x2), none, none] :=
  PR_q (fun y => an_96 y x1 x2) (fun _ _ _ C h => sc_96 C h) (fun _ _ _ R h => sr_236 R h)
theorem pr_97 {x1 x2 : Int32} : PR 97 [some (.ref 0), some (.int x1), some (.int x2)] 238 [some (.ref 56), some (.int x1), some (.int x2)] :=
  PR_q (fun y => an_97 y x1 x2) (fun _ _ _ C h => sc_97 C h) (fun _ _ _ R h => sr_238 R h)
theorem pr_98 {x1 x2 : Int32} : PR 98 [some (.ref 0), some (.int x1), some (.int x2), none] 239 [some (.ref 56), some (.int x1), some (.int x2), none, none] :=
  PR_q (fun y => an_98 y x1 x2) (fun _ _ _ C h => sc_98 C h) (fun _ _ _ R h => sr_239 R h)
theorem pr_99 {x1 x2 : Int32} : PR 99 [some (.ref 0), some (.int x1), some (.int x2), none, none, none] 241 [some (.ref 56), some (.int x1), some (.int x2)] :=
  PR_q (fun y => an_99 y x1 x2) (fun _ _ _ C h => sc_99 C h) (fun _ _ _ R h => sr_241 R h)
theorem pr_100 {x1 : Int32} : PR 100 [some (.ref 0), some (.int x1), none, none, none] 242 [some (.ref 56), some (.int x1), none, none] :=
  PR_q (fun y => an_100 y x1) (fun _ _ _ C h => sc_100 C h) (fun _ _ _ R h => sr_242 R h)
theorem pr_101 {x1 : Int32} : PR 101 [some (.ref 0), some (.int x1)] 244 [some (.ref 56), some (.int x1)] :=
  PR_q (fun y => an_101 y x1) (fun _ _ _ C h => sc_101 C h) (fun _ _ _ R h => sr_244 R h)
theorem pr_102 {x1 : Int32} : PR 102 [some (.ref 0), some (.int x1), none] 245 [some (.ref 56), some (.int x1), none] :=
  PR_q (fun y => an_102 y x1) (fun _ _ _ C h => sc_102 C h) (fun _ _ _ R h => sr_245 R h)
theorem pr_103 {x1 x2 x3 : Int32} : PR 103 [some (.ref 0), some (.int x1), some (.int x2), some (.int x3)] 248 [some (.ref 56), some (.int x1), some (.int x2), some (.int x3)] :=
  PR_q (fun y => an_103 y x1 x2 x3) (fun _ _ _ C h => sc_103 C h) (fun _ _ _ R h => sr_248 R h)
theorem pr_104 {x1 x2 : Int32} : PR 104 [some (.ref 0), some (.int x1), some (.int x2), none, none, none] 249 [some (.ref 56), some (.int x1), some (.int x2), none, none] :=
  PR_q (fun y => an_104 y x1 x2) (fun _ _ _ C h => sc_104 C h) (fun _ _ _ R h => sr_249 R h)
theorem pr_105 {x1 x2 : Int32} : PR 105 [some (.ref 0), some (.int x1), some (.int x2)] 250 [some (.ref 56), some (.int x1), some (.int x2)] :=
  PR_q (fun y => an_105 y x1 x2) (fun _ _ _ C h => sc_105 C h) (fun _ _ _ R h => sr_250 R h)
theorem pr_106 {x1 x2 : Int32} : PR 106 [some (.ref 0), some (.int x1), some (.int x2), none] 251 [some (.ref 56), some (.int x1), some (.int x2)] :=
  PR_q (fun y => an_106 y x1 x2) (fun _ _ _ C h => sc_106 C h) (fun _ _ _ R h => sr_251 R h)
theorem pr_107 {x1 : Int32} : PR 107 [some (.ref 0), some (.int x1), none, none, none] 252 [some (.ref 56), some (.int x1), none, none] :=
  PR_q (fun y => an_107 y x1) (fun _ _ _ C h => sc_107 C h) (fun _ _ _ R h => sr_252 R h)
theorem pr_108 {x1 x2 : Int32} : PR 108 [some (.ref 0), some (.int x1), some (.int x2)] 254 [some (.ref 56), some (.int x1), some (.int x2)] :=
  PR_q (fun y => an_108 y x1 x2) (fun _ _ _ C h => sc_108 C h) (fun _ _ _ R h => sr_254 R h)
theorem pr_109 {x1 : Int32} : PR 109 [some (.ref 0), some (.int x1), none, none, none] 255 [some (.ref 56), some (.int x1), none, none] :=
  PR_q (fun y => an_109 y x1) (fun _ _ _ C h => sc_109 C h) (fun _ _ _ R h => sr_255 R h)
theorem pr_110 {x1 x2 x3 : Int32} : PR 110 [some (.ref 0), some (.int x1), some (.int x2), some (.int x3), none] 257 [some (.ref 56), some (.int x1), some (.int x2), some (.int x3)] :=
  PR_q (fun y => an_110 y x1 x2 x3) (fun _ _ _ C h => sc_110 C h) (fun _ _ _ R h => sr_257 R h)
theorem pr_111 {x1 x2 x3 : Int32} : PR 111 [some (.ref 0), some (.int x1), some (.int x2), some (.int x3), none, none] 258 [some (.ref 56), some (.int x1), some (.int x2), some (.int x3), none, none, none, none] :=
  PR_q (fun y => an_111 y x1 x2 x3) (fun _ _ _ C h => sc_111 C h) (fun _ _ _ R h => sr_258 R h)
theorem pr_112 {x1 x2 : Int32} : PR 112 [some (.ref 0), some (.int x1), some (.int x2)] 263 [some (.ref 56), some (.int x1), some (.int x2)] :=
  PR_q (fun y => an_112 y x1 x2) (fun _ _ _ C h => sc_112 C h) (fun _ _ _ R h => sr_263 R h)
theorem pr_113 {x1 : Int32} : PR 113 [some (.ref 0), some (.int x1)] 264 [some (.ref 56), some (.int x1)] :=
  PR_q (fun y => an_113 y x1) (fun _ _ _ C h => sc_113 C h) (fun _ _ _ R h => sr_264 R h)
theorem pr_114 : PR 114 [some (.ref 0), none, none] 265 [some (.ref 56), none, none] :=
  PR_q (fun y => an_114 y) (fun _ _ _ C h => sc_114 C h) (fun _ _ _ R h => sr_265 R h)
theorem pr_115 : PR 115 [some (.ref 0)] 266 [some (.ref 56), none, none, none, none, none] :=
  PR_q (fun y => an_115 y) (fun _ _ _ C h => sc_115 C h) (fun _ _ _ R h => sr_266 R h)
theorem pr_116 {x1 x2 : Int32} : PR 116 [some (.ref 0), some (.int x1), some (.int x2), none] 273 [some (.ref 56), some (.int x1), some (.int x2)] :=
  PR_q (fun y => an_116 y x1 x2) (fun _ _ _ C h => sc_116 C h) (fun _ _ _ R h => sr_273 R h)
theorem pr_117 {x1 : Int32} : PR 117 [some (.ref 0), some (.int x1)] 274 [some (.ref 56), some (.int x1)] :=
  PR_q (fun y => an_117 y x1) (fun _ _ _ C h => sc_117 C h) (fun _ _ _ R h => sr_274 R h)
theorem pr_118 {x1 : Int32} : PR 118 [some (.ref 0), some (.int x1)] 275 [some (.ref 56), some (.int x1), none, none] :=
  PR_q (fun y => an_118 y x1) (fun _ _ _ C h => sc_118 C h) (fun _ _ _ R h => sr_275 R h)
theorem pr_119 {x1 x2 : Int32} : PR 119 [some (.ref 0), some (.int x1), some (.int x2)] 276 [some (.ref 56), some (.int x1), some (.int x2)] :=
  PR_q (fun y => an_119 y x1 x2) (fun _ _ _ C h => sc_119 C h) (fun _ _ _ R h => sr_276 R h)
theorem pr_120 {x1 : Int32} : PR 120 [some (.ref 0), some (.int x1)] 277 [some (.ref 56), some (.int x1), none, none] :=
  PR_q (fun y => an_120 y x1) (fun _ _ _ C h => sc_120 C h) (fun _ _ _ R h => sr_277 R h)
theorem pr_121 : PR 121 [some (.ref 0), none, none] 278 [some (.ref 56), none] :=
  PR_q (fun y => an_121 y) (fun _ _ _ C h => sc_121 C h) (fun _ _ _ R h => sr_278 R h)
theorem pr_122 {x1 x2 x3 : Int32} : PR 122 [some (.ref 0), some (.int x1), some (.int x2), some (.int x3), none] 280 [some (.ref 56), some (.int x1), some (.int x2), some (.int x3)] :=
  PR_q (fun y => an_122 y x1 x2 x3) (fun _ _ _ C h => sc_122 C h) (fun _ _ _ R h => sr_280 R h)
theorem pr_123 {x1 x2 x3 x4 : Int32} : PR 123 [some (.ref 0), some (.int x1), some (.int x2), some (.int x3), some (.int x4)] 286 [some (.ref 56), some (.int x1), some (.int x2), some (.int x3), some (.int x4)] :=
  PR_q (fun y => an_123 y x1 x2 x3 x4) (fun _ _ _ C h => sc_123 C h) (fun _ _ _ R h => sr_286 R h)
theorem pr_124 {x1 x2 x3 : Int32} : PR 124 [some (.ref 0), some (.int x1), some (.int x2), some (.int x3)] 287 [some (.ref 56), some (.int x1), some (.int x2), some (.int x3)] :=
  PR_q (fun y => an_124 y x1 x2 x3) (fun _ _ _ C h => sc_124 C h) (fun _ _ _ R h => sr_287 R h)
theorem pr_125 {x1 x2 : Int32} : PR 125 [some (.ref 0), some (.int x1), some (.int x2), none, none, none, none, none] 288 [some (.ref 56), some (.int x1), some (.int x2), none, none, none] :=
  PR_q (fun y => an_125 y x1 x2) (fun _ _ _ C h => sc_125 C h) (fun _ _ _ R h => sr_288 R h)
theorem pr_126 : PR 126 [some (.ref 0), none, none, none, none] 290 [some (.ref 56), none, none, none] :=
  PR_q (fun y => an_126 y) (fun _ _ _ C h => sc_126 C h) (fun _ _ _ R h => sr_290 R h)
theorem pr_127 : PR 127 [some (.ref 0), none, none, none, none, none, none] 292 [some (.ref 56), none, none, none, none, none] :=
  PR_q (fun y => an_127 y) (fun _ _ _ C h => sc_127 C h) (fun _ _ _ R h => sr_292 R h)
theorem pr_132 {x1 : Int32} : PR 132 [some (.ref 0), some (.int x1)] 302 [some (.ref 56), some (.int x1)] :=
  PR_q (fun y => an_132 y x1) (fun _ _ _ C h => sc_132 C h) (fun _ _ _ R h => sr_302 R h)
theorem pr_133 : PR 133 [some (.ref 0), none, none, none, none] 303 [some (.ref 56), none, none] :=
  PR_q (fun y => an_133 y) (fun _ _ _ C h => sc_133 C h) (fun _ _ _ R h => sr_303 R h)
theorem pr_134 {x1 : Int32} : PR 134 [some (.ref 0), some (.int x1)] 305 [some (.ref 56), some (.int x1)] :=
  PR_q (fun y => an_134 y x1) (fun _ _ _ C h => sc_134 C h) (fun _ _ _ R h => sr_305 R h)
theorem pr_135 {x1 x2 : Int32} : PR 135 [some (.ref 0), some (.int x1), some (.int x2), none, none, none, none] 309 [some (.ref 56), some (.int x1), some (.int x2), none, none, none, none] :=
  PR_q (fun y => an_135 y x1 x2) (fun _ _ _ C h => sc_135 C h) (fun _ _ _ R h => sr_309 R h)
theorem pr_136 {x1 x2 : Int32} : PR 136 [some (.ref 0), some (.int x1), some (.int x2), none, none, none, none, none, none] 312 [some (.ref 56), some (.int x1), some (.int x2), none, none, none, none, none] :=
  PR_q (fun y => an_136 y x1 x2) (fun _ _ _ C h => sc_136 C h) (fun _ _ _ R h => sr_312 R h)
theorem pr_137 {x1 x2 x3 x4 : Int32} : PR 137 [some (.ref 0), some (.int x1), some (.int x2), some (.int x3), some (.int x4)] 313 [some (.ref 56), some (.int x1), some (.int x2), some (.int x3), some (.int x4)] :=
  PR_q (fun y => an_137 y x1 x2 x3 x4) (fun _ _ _ C h => sc_137 C h) (fun _ _ _ R h => sr_313 R h)
theorem pr_138 {x1 x2 x3 : Int32} : PRL 138 [some (.ref 0), some (.int x1), some (.int x2), some (.int x3)] 316 [some (.ref 56), some (.int x1), some (.int x2), some (.int x3)] :=
  PRL_q (fun y => an_138 y x1 x2 x3) (fun _ _ _ C h => sc_138 C h) (fun _ _ _ R h => sr_316 R h)
theorem pr_139 {x1 x2 : Int32} : PRL 139 [some (.ref 0), some (.int x1), some (.int x2)] 317 [some (.ref 56), some (.int x1), some (.int x2)] :=
  PRL_q (fun y => an_139 y x1 x2) (fun _ _ _ C h => sc_139 C h) (fun _ _ _ R h => sr_317 R h)
theorem pr_143 {x1 x2 : Int32} : PR 143 [some (.ref 0), some (.int x1), some (.int x2), none] 324 [some (.ref 56), some (.int x1), some (.int x2), none] :=
  PR_q (fun y => an_143 y x1 x2) (fun _ _ _ C h => sc_143 C h) (fun _ _ _ R h => sr_324 R h)
theorem pr_144 {x1 x2 x3 : Int32} : PR 144 [some (.ref 0), some (.int x1), some (.int x2), some (.int x3), none, none] 325 [some (.ref 56), some (.int x1), some (.int x2), some (.int x3), none, none] :=
  PR_q (fun y => an_144 y x1 x2 x3) (fun _ _ _ C h => sc_144 C h) (fun _ _ _ R h => sr_325 R h)
