/-! the law's loop out of the 59 pairs of calls -/
theorem x_law_run {L : Nat} {xs : Nat → Int32} (hL : L ≤ 3072) (Inv : xH → Prop)
    (k0 : ∀ h, Inv h → x_TwoI Inv 97 176 [] h)
    (k1 : ∀ h, Inv h → x_TwoL Inv 98 177 [] h)
    (k2 : ∀ h, Inv h → x_TwoL Inv 99 178 [] h)
    (k3 : ∀ h, Inv h → ∀ (a0 : Int32) (a1 : Int32) (a2 : Int32), x_TwoI Inv 100 186 [.int a0, .int a1, .int a2] h)
    (k4 : ∀ h, Inv h → ∀ (a0 : Int32) (a1 : Int32) (a2 : Int64), x_TwoI Inv 101 188 [.int a0, .int a1, .long a2] h)
    (k5 : ∀ h, Inv h → ∀ (a0 : Int32) (a1 : Int32), x_TwoL Inv 102 189 [.int a0, .int a1] h)
    (k6 : ∀ h, Inv h → ∀ (a0 : Int32) (a1 : Int32) (a2 : Int32) (a3 : Int32) (a4 : Int32), x_TwoI Inv 103 190 [.int a0, .int a1, .int a2, .int a3, .int a4] h)
    (k7 : ∀ h, Inv h → ∀ (a0 : Int32) (a1 : Int32) (a2 : Int32) (a3 : Int32) (a4 : Int32), x_TwoI Inv 104 192 [.int a0, .int a1, .int a2, .int a3, .int a4] h)
    (k8 : ∀ h, Inv h → ∀ (a0 : Int32), x_TwoI Inv 105 218 [.int a0] h)
    (k9 : ∀ h, Inv h → ∀ (a0 : Int32), x_TwoI Inv 106 223 [.int a0] h)
    (k10 : ∀ h, Inv h → ∀ (a0 : Int32), x_TwoI Inv 107 208 [.int a0] h)
    (k11 : ∀ h, Inv h → ∀ (a0 : Int32), x_TwoI Inv 108 239 [.int a0] h)
    (k12 : ∀ h, Inv h → ∀ (a0 : Int32), x_TwoI Inv 109 240 [.int a0] h)
    (k13 : ∀ h, Inv h → ∀ (a0 : Int32) (a1 : Int32), x_TwoI Inv 110 241 [.int a0, .int a1] h)
    (k14 : ∀ h, Inv h → ∀ (a0 : Int32) (a1 : Int32) (a2 : Int32), x_TwoI Inv 111 242 [.int a0, .int a1, .int a2] h)
    (k15 : ∀ h, Inv h → ∀ (a0 : Int32) (a1 : Int32), x_TwoI Inv 112 243 [.int a0, .int a1] h)
    (k16 : ∀ h, Inv h → ∀ (a0 : Int32), x_TwoI Inv 113 244 [.int a0] h)
    (k17 : ∀ h, Inv h → ∀ (a0 : Int32) (a1 : Int32), x_TwoI Inv 114 245 [.int a0, .int a1] h)
    (k18 : ∀ h, Inv h → x_TwoI Inv 115 246 [] h)
    (k19 : ∀ h, Inv h → ∀ (a0 : Int32) (a1 : Int32) (a2 : Int32), x_TwoI Inv 116 252 [.int a0, .int a1, .int a2] h)
    (k20 : ∀ h, Inv h → ∀ (a0 : Int32) (a1 : Int32) (a2 : Int32), x_TwoI Inv 117 254 [.int a0, .int a1, .int a2] h)
    (k21 : ∀ h, Inv h → ∀ (a0 : Int32) (a1 : Int32) (a2 : Int32), x_TwoI Inv 118 256 [.int a0, .int a1, .int a2] h)
    (k22 : ∀ h, Inv h → ∀ (a0 : Int32) (a1 : Int32) (a2 : Int32), x_TwoI Inv 119 258 [.int a0, .int a1, .int a2] h)
    (k23 : ∀ h, Inv h → ∀ (a0 : Int32) (a1 : Int32) (a2 : Int32), x_TwoI Inv 120 261 [.int a0, .int a1, .int a2] h)
    (k24 : ∀ h, Inv h → ∀ (a0 : Int32) (a1 : Int32) (a2 : Int32) (a3 : Int32), x_TwoI Inv 121 262 [.int a0, .int a1, .int a2, .int a3] h)
    (k25 : ∀ h, Inv h → ∀ (a0 : Int32) (a1 : Int32) (a2 : Int32), x_TwoI Inv 122 263 [.int a0, .int a1, .int a2] h)
    (k26 : ∀ h, Inv h → ∀ (a0 : Int32) (a1 : Int32) (a2 : Int32), x_TwoI Inv 123 264 [.int a0, .int a1, .int a2] h)
    (k27 : ∀ h, Inv h → ∀ (a0 : Int32), x_TwoI Inv 124 268 [.int a0] h)
    (k28 : ∀ h, Inv h → ∀ (a0 : Int32), x_TwoI Inv 125 270 [.int a0] h)
    (k29 : ∀ h, Inv h → ∀ (a0 : Int32) (a1 : Int32), x_TwoI Inv 126 271 [.int a0, .int a1] h)
    (k30 : ∀ h, Inv h → ∀ (a0 : Int32) (a1 : Int32), x_TwoI Inv 127 272 [.int a0, .int a1] h)
    (k31 : ∀ h, Inv h → x_TwoI Inv 128 273 [] h)
    (k32 : ∀ h, Inv h → ∀ (a0 : Int32), x_TwoI Inv 129 275 [.int a0] h)
    (k33 : ∀ h, Inv h → ∀ (a0 : Int32), x_TwoI Inv 130 276 [.int a0] h)
    (k34 : ∀ h, Inv h → ∀ (a0 : Int32) (a1 : Int32), x_TwoI Inv 131 278 [.int a0, .int a1] h)
    (k35 : ∀ h, Inv h → ∀ (a0 : Int32) (a1 : Int32) (a2 : Int32), x_TwoI Inv 132 279 [.int a0, .int a1, .int a2] h)
    (k36 : ∀ h, Inv h → ∀ (a0 : Int32), x_TwoI Inv 133 280 [.int a0] h)
    (k37 : ∀ h, Inv h → ∀ (a0 : Int32), x_TwoI Inv 134 281 [.int a0] h)
    (k38 : ∀ h, Inv h → ∀ (a0 : Int32) (a1 : Int32), x_TwoI Inv 135 282 [.int a0, .int a1] h)
    (k39 : ∀ h, Inv h → ∀ (a0 : Int32), x_TwoL Inv 136 285 [.int a0] h)
    (k40 : ∀ h, Inv h → ∀ (a0 : Int32), x_TwoI Inv 137 286 [.int a0] h)
    (k41 : ∀ h, Inv h → ∀ (a0 : Int32), x_TwoL Inv 138 287 [.int a0] h)
    (k42 : ∀ h, Inv h → ∀ (a0 : Int32), x_TwoI Inv 139 288 [.int a0] h)
    (k43 : ∀ h, Inv h → ∀ (a0 : Int32) (a1 : Int32), x_TwoI Inv 140 290 [.int a0, .int a1] h)
    (k44 : ∀ h, Inv h → ∀ (a0 : Int32), x_TwoI Inv 141 291 [.int a0] h)
    (k45 : ∀ h, Inv h → ∀ (a0 : Int32), x_TwoI Inv 142 292 [.int a0] h)
    (k46 : ∀ h, Inv h → ∀ (a0 : Int32) (a1 : Int32) (a2 : Int32), x_TwoI Inv 143 295 [.int a0, .int a1, .int a2] h)
    (k47 : ∀ h, Inv h → ∀ (a0 : Int32) (a1 : Int32), x_TwoI Inv 144 296 [.int a0, .int a1] h)
    (k48 : ∀ h, Inv h → ∀ (a0 : Int32) (a1 : Int32), x_TwoI Inv 145 300 [.int a0, .int a1] h)
    (k49 : ∀ h, Inv h → ∀ (a0 : Int32) (a1 : Int32), x_TwoI Inv 146 301 [.int a0, .int a1] h)
    (k50 : ∀ h, Inv h → ∀ (a0 : Int32) (a1 : Int32) (a2 : Int32), x_TwoI Inv 147 308 [.int a0, .int a1, .int a2] h)
    (k51 : ∀ h, Inv h → ∀ (a0 : Int32) (a1 : Int32) (a2 : Int32), x_TwoI Inv 148 309 [.int a0, .int a1, .int a2] h)
    (k52 : ∀ h, Inv h → ∀ (a0 : Int32) (a1 : Int32), x_TwoI Inv 149 310 [.int a0, .int a1] h)
    (k53 : ∀ h, Inv h → ∀ (a0 : Int32), x_TwoI Inv 150 311 [.int a0] h)
    (k54 : ∀ h, Inv h → ∀ (a0 : Int32), x_TwoI Inv 151 322 [.int a0] h)
    (k55 : ∀ h, Inv h → ∀ (a0 : Int32), x_TwoI Inv 152 323 [.int a0] h)
    (k56 : ∀ h, Inv h → ∀ (a0 : Int32) (a1 : Int32), x_TwoI Inv 153 324 [.int a0, .int a1] h)
    (k57 : ∀ h, Inv h → x_TwoI Inv 154 326 [] h)
    (k58 : ∀ h, Inv h → x_TwoI Inv 155 327 [] h)
    {h : xH} {cs ss : Nat} (hI0 : Inv h) (hc0 : cs ≤ 1000) (hs0 : ss ≤ 1000000) : x_JL L xs 18 (x_lw 0) [] h cs ss := by
  refine x_law_loop hL Inv (fun i h cs ss hI h6 hcs hss pc hp hk => ?_) 600 0 h cs ss hI0 (Nat.zero_le _) (by omega) (by omega) (by omega)
  simp only [x_lst, List.mem_cons, List.not_mem_nil, or_false] at hp
  rcases hp with rfl | rfl | rfl | rfl | rfl | rfl | rfl | rfl | rfl | rfl | rfl | rfl | rfl | rfl | rfl | rfl | rfl | rfl | rfl | rfl | rfl | rfl | rfl | rfl | rfl | rfl | rfl | rfl | rfl | rfl | rfl | rfl | rfl | rfl | rfl | rfl | rfl | rfl | rfl | rfl | rfl | rfl | rfl | rfl | rfl | rfl | rfl | rfl | rfl | rfl | rfl | rfl | rfl | rfl | rfl | rfl | rfl | rfl | rfl | rfl
  · exact l_case0 hL h6 hcs hss (k0 h hI) hk
  · exact l_case1 hL h6 hcs hss (k1 h hI) hk
  · exact l_case2 hL h6 hcs hss (k2 h hI) hk
  · exact l_case3 hL h6 hcs hss (k3 h hI) hk
  · exact l_case4 hL h6 hcs hss (k4 h hI) hk
  · exact l_case5 hL h6 hcs hss (k5 h hI) hk
  · exact l_case6 hL h6 hcs hss (k6 h hI) hk
  · exact l_case7 hL h6 hcs hss (k7 h hI) hk
  · exact l_case8 hL h6 hcs hss (k8 h hI) hk
  · exact l_case9 hL h6 hcs hss (k9 h hI) hk
  · exact l_case10 hL h6 hcs hss (k10 h hI) hk
  · exact l_case11 hL h6 hcs hss (k11 h hI) hk
  · exact l_case12 hL h6 hcs hss (k12 h hI) hk
  · exact l_case13 hL h6 hcs hss (k13 h hI) hk
  · exact l_case14 hL h6 hcs hss (k14 h hI) hk
  · exact l_case15 hL h6 hcs hss (k15 h hI) hk
  · exact l_case16 hL h6 hcs hss (k16 h hI) hk
  · exact l_case17 hL h6 hcs hss (k17 h hI) hk
  · exact l_case18 hL h6 hcs hss (k18 h hI) hk
  · exact l_case19 hL h6 hcs hss (k19 h hI) hk
  · exact l_case20 hL h6 hcs hss (k20 h hI) hk
  · exact l_case21 hL h6 hcs hss (k21 h hI) hk
  · exact l_case22 hL h6 hcs hss (k22 h hI) hk
  · exact l_case23 hL h6 hcs hss (k23 h hI) hk
  · exact l_case24 hL h6 hcs hss (k24 h hI) hk
  · exact l_case25 hL h6 hcs hss (k25 h hI) hk
  · exact l_case26 hL h6 hcs hss (k26 h hI) hk
  · exact l_case27 hL h6 hcs hss (k27 h hI) hk
  · exact l_case28 hL h6 hcs hss (k28 h hI) hk
  · exact l_case29 hL h6 hcs hss (k29 h hI) hk
  · exact l_case30 hL h6 hcs hss (k30 h hI) hk
  · exact l_case31 hL h6 hcs hss (k31 h hI) hk
  · exact l_case32 hL h6 hcs hss (k32 h hI) hk
  · exact l_case33 hL h6 hcs hss (k33 h hI) hk
  · exact l_case34 hL h6 hcs hss (k34 h hI) hk
  · exact l_case35 hL h6 hcs hss (k35 h hI) hk
  · exact l_case36 hL h6 hcs hss (k36 h hI) hk
  · exact l_case37 hL h6 hcs hss (k37 h hI) hk
  · exact l_case38 hL h6 hcs hss (k38 h hI) hk
  · exact l_case39 hL h6 hcs hss (k39 h hI) hk
  · exact l_case40 hL h6 hcs hss (k40 h hI) hk
  · exact l_case41 hL h6 hcs hss (k41 h hI) hk
  · exact l_case42 hL h6 hcs hss (k42 h hI) hk
  · exact l_case43 hL h6 hcs hss (k43 h hI) hk
  · exact l_case44 hL h6 hcs hss (k44 h hI) hk
  · exact l_case45 hL h6 hcs hss (k45 h hI) hk
  · exact l_case46 hL h6 hcs hss (k46 h hI) hk
  · exact l_case47 hL h6 hcs hss (k47 h hI) hk
  · exact l_case48 hL h6 hcs hss (k48 h hI) hk
  · exact l_case49 hL h6 hcs hss (k49 h hI) hk
  · exact l_case50 hL h6 hcs hss (k50 h hI) hk
  · exact l_case51 hL h6 hcs hss (k51 h hI) hk
  · exact l_case52 hL h6 hcs hss (k52 h hI) hk
  · exact l_case53 hL h6 hcs hss (k53 h hI) hk
  · exact l_case54 hL h6 hcs hss (k54 h hI) hk
  · exact l_case55 hL h6 hcs hss (k55 h hI) hk
  · exact l_case56 hL h6 hcs hss (k56 h hI) hk
  · exact l_case57 hL h6 hcs hss (k57 h hI) hk
  · exact l_case58 hL h6 hcs hss (k58 h hI) hk
  · exact hk h cs ss hI (by omega) (by omega)
