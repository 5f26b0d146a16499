/-! the law's loop, counted -/
theorem x_law_loop2 {L : Nat} {xs : Nat → Int32} (hL : L ≤ 3072) (Inv : Nat → xH → Prop)
    (hcase : ∀ (u i : Nat) (h : xH) (cs ss : Nat), u ≤ 600 → Inv u h → i + 6 ≤ L → cs ≤ 590000 → ss ≤ 7000000 → ∀ pc ∈ x_lst, (∀ (h' : xH) (cs' ss' : Nat), Inv (u + 1) h' → cs' ≤ cs + 4 → ss' ≤ ss + 16 → x_JL L xs 2136 (x_lw i) [] h' cs' ss') → x_JL L xs pc (x_lw i) [] h cs ss) :
    ∀ (n u i : Nat) (h : xH) (cs ss : Nat), Inv u h → u + n ≤ 601 → i ≤ L → L ≤ i + 6 * n → cs + 4 * n ≤ 590000 → ss + 16 * n ≤ 7000000 → x_JL L xs 18 (x_lw i) [] h cs ss
  | 0, u, i, h, cs, ss, _, _, hi, hn, hcs, hss => x_law_head hL hi (by omega) (by omega) (fun h6 => by omega)
  | n + 1, u, i, h, cs, ss, hI, hu, hi, hn, hcs, hss => x_law_head hL hi (by omega) (by omega) (fun h6 pc hp => hcase u i h cs ss (by omega) hI h6 (by omega) (by omega) pc hp (fun h' cs' ss' hI' hc' hs' => x_law_tail (x_law_loop2 hL Inv hcase n (u + 1) (i + 6) h' cs' ss' hI' (by omega) h6 (by omega) (by omega) (by omega))))
theorem x_law_run2 {L : Nat} {xs : Nat → Int32} (hL : L ≤ 3072) (Inv : Nat → xH → Prop) (hmono : ∀ u h, Inv u h → Inv (u + 1) h)
    (k0 : ∀ u h, u ≤ 600 → Inv u h → x_TwoI (Inv (u + 1)) 97 176 [] h)
    (k1 : ∀ u h, u ≤ 600 → Inv u h → x_TwoL (Inv (u + 1)) 98 177 [] h)
    (k2 : ∀ u h, u ≤ 600 → Inv u h → x_TwoL (Inv (u + 1)) 99 178 [] h)
    (k3 : ∀ u h, u ≤ 600 → Inv u h → ∀ (a0 : Int32) (a1 : Int32) (a2 : Int32), x_TwoI (Inv (u + 1)) 100 186 [.int a0, .int a1, .int a2] h)
    (k4 : ∀ u h, u ≤ 600 → Inv u h → ∀ (a0 : Int32) (a1 : Int32) (a2 : Int64), x_TwoI (Inv (u + 1)) 101 188 [.int a0, .int a1, .long a2] h)
    (k5 : ∀ u h, u ≤ 600 → Inv u h → ∀ (a0 : Int32) (a1 : Int32), x_TwoL (Inv (u + 1)) 102 189 [.int a0, .int a1] h)
    (k6 : ∀ u h, u ≤ 600 → Inv u h → ∀ (a0 : Int32) (a1 : Int32) (a2 : Int32) (a3 : Int32) (a4 : Int32), x_TwoI (Inv (u + 1)) 103 190 [.int a0, .int a1, .int a2, .int a3, .int a4] h)
    (k7 : ∀ u h, u ≤ 600 → Inv u h → ∀ (a0 : Int32) (a1 : Int32) (a2 : Int32) (a3 : Int32) (a4 : Int32), x_TwoI (Inv (u + 1)) 104 192 [.int a0, .int a1, .int a2, .int a3, .int a4] h)
    (k8 : ∀ u h, u ≤ 600 → Inv u h → ∀ (a0 : Int32), x_TwoI (Inv (u + 1)) 105 218 [.int a0] h)
    (k9 : ∀ u h, u ≤ 600 → Inv u h → ∀ (a0 : Int32), x_TwoI (Inv (u + 1)) 106 223 [.int a0] h)
    (k10 : ∀ u h, u ≤ 600 → Inv u h → ∀ (a0 : Int32), x_TwoI (Inv (u + 1)) 107 208 [.int a0] h)
    (k11 : ∀ u h, u ≤ 600 → Inv u h → ∀ (a0 : Int32), x_TwoI (Inv (u + 1)) 108 239 [.int a0] h)
    (k12 : ∀ u h, u ≤ 600 → Inv u h → ∀ (a0 : Int32), x_TwoI (Inv (u + 1)) 109 240 [.int a0] h)
    (k13 : ∀ u h, u ≤ 600 → Inv u h → ∀ (a0 : Int32) (a1 : Int32), x_TwoI (Inv (u + 1)) 110 241 [.int a0, .int a1] h)
    (k14 : ∀ u h, u ≤ 600 → Inv u h → ∀ (a0 : Int32) (a1 : Int32) (a2 : Int32), x_TwoI (Inv (u + 1)) 111 242 [.int a0, .int a1, .int a2] h)
    (k15 : ∀ u h, u ≤ 600 → Inv u h → ∀ (a0 : Int32) (a1 : Int32), x_TwoI (Inv (u + 1)) 112 243 [.int a0, .int a1] h)
    (k16 : ∀ u h, u ≤ 600 → Inv u h → ∀ (a0 : Int32), x_TwoI (Inv (u + 1)) 113 244 [.int a0] h)
    (k17 : ∀ u h, u ≤ 600 → Inv u h → ∀ (a0 : Int32) (a1 : Int32), x_TwoI (Inv (u + 1)) 114 245 [.int a0, .int a1] h)
    (k18 : ∀ u h, u ≤ 600 → Inv u h → x_TwoI (Inv (u + 1)) 115 246 [] h)
    (k19 : ∀ u h, u ≤ 600 → Inv u h → ∀ (a0 : Int32) (a1 : Int32) (a2 : Int32), x_TwoI (Inv (u + 1)) 116 252 [.int a0, .int a1, .int a2] h)
    (k20 : ∀ u h, u ≤ 600 → Inv u h → ∀ (a0 : Int32) (a1 : Int32) (a2 : Int32), x_TwoI (Inv (u + 1)) 117 254 [.int a0, .int a1, .int a2] h)
    (k21 : ∀ u h, u ≤ 600 → Inv u h → ∀ (a0 : Int32) (a1 : Int32) (a2 : Int32), x_TwoI (Inv (u + 1)) 118 256 [.int a0, .int a1, .int a2] h)
    (k22 : ∀ u h, u ≤ 600 → Inv u h → ∀ (a0 : Int32) (a1 : Int32) (a2 : Int32), x_TwoI (Inv (u + 1)) 119 258 [.int a0, .int a1, .int a2] h)
    (k23 : ∀ u h, u ≤ 600 → Inv u h → ∀ (a0 : Int32) (a1 : Int32) (a2 : Int32), x_TwoI (Inv (u + 1)) 120 261 [.int a0, .int a1, .int a2] h)
    (k24 : ∀ u h, u ≤ 600 → Inv u h → ∀ (a0 : Int32) (a1 : Int32) (a2 : Int32) (a3 : Int32), x_TwoI (Inv (u + 1)) 121 262 [.int a0, .int a1, .int a2, .int a3] h)
    (k25 : ∀ u h, u ≤ 600 → Inv u h → ∀ (a0 : Int32) (a1 : Int32) (a2 : Int32), x_TwoI (Inv (u + 1)) 122 263 [.int a0, .int a1, .int a2] h)
    (k26 : ∀ u h, u ≤ 600 → Inv u h → ∀ (a0 : Int32) (a1 : Int32) (a2 : Int32), x_TwoI (Inv (u + 1)) 123 264 [.int a0, .int a1, .int a2] h)
    (k27 : ∀ u h, u ≤ 600 → Inv u h → ∀ (a0 : Int32), x_TwoI (Inv (u + 1)) 124 268 [.int a0] h)
    (k28 : ∀ u h, u ≤ 600 → Inv u h → ∀ (a0 : Int32), x_TwoI (Inv (u + 1)) 125 270 [.int a0] h)
    (k29 : ∀ u h, u ≤ 600 → Inv u h → ∀ (a0 : Int32) (a1 : Int32), x_TwoI (Inv (u + 1)) 126 271 [.int a0, .int a1] h)
    (k30 : ∀ u h, u ≤ 600 → Inv u h → ∀ (a0 : Int32) (a1 : Int32), x_TwoI (Inv (u + 1)) 127 272 [.int a0, .int a1] h)
    (k31 : ∀ u h, u ≤ 600 → Inv u h → x_TwoI (Inv (u + 1)) 128 273 [] h)
    (k32 : ∀ u h, u ≤ 600 → Inv u h → ∀ (a0 : Int32), x_TwoI (Inv (u + 1)) 129 275 [.int a0] h)
    (k33 : ∀ u h, u ≤ 600 → Inv u h → ∀ (a0 : Int32), x_TwoI (Inv (u + 1)) 130 276 [.int a0] h)
    (k34 : ∀ u h, u ≤ 600 → Inv u h → ∀ (a0 : Int32) (a1 : Int32), x_TwoI (Inv (u + 1)) 131 278 [.int a0, .int a1] h)
    (k35 : ∀ u h, u ≤ 600 → Inv u h → ∀ (a0 : Int32) (a1 : Int32) (a2 : Int32), x_TwoI (Inv (u + 1)) 132 279 [.int a0, .int a1, .int a2] h)
    (k36 : ∀ u h, u ≤ 600 → Inv u h → ∀ (a0 : Int32), x_TwoI (Inv (u + 1)) 133 280 [.int a0] h)
    (k37 : ∀ u h, u ≤ 600 → Inv u h → ∀ (a0 : Int32), x_TwoI (Inv (u + 1)) 134 281 [.int a0] h)
    (k38 : ∀ u h, u ≤ 600 → Inv u h → ∀ (a0 : Int32) (a1 : Int32), x_TwoI (Inv (u + 1)) 135 282 [.int a0, .int a1] h)
    (k39 : ∀ u h, u ≤ 600 → Inv u h → ∀ (a0 : Int32), x_TwoL (Inv (u + 1)) 136 285 [.int a0] h)
    (k40 : ∀ u h, u ≤ 600 → Inv u h → ∀ (a0 : Int32), x_TwoI (Inv (u + 1)) 137 286 [.int a0] h)
    (k41 : ∀ u h, u ≤ 600 → Inv u h → ∀ (a0 : Int32), x_TwoL (Inv (u + 1)) 138 287 [.int a0] h)
    (k42 : ∀ u h, u ≤ 600 → Inv u h → ∀ (a0 : Int32), x_TwoI (Inv (u + 1)) 139 288 [.int a0] h)
    (k43 : ∀ u h, u ≤ 600 → Inv u h → ∀ (a0 : Int32) (a1 : Int32), x_TwoI (Inv (u + 1)) 140 290 [.int a0, .int a1] h)
    (k44 : ∀ u h, u ≤ 600 → Inv u h → ∀ (a0 : Int32), x_TwoI (Inv (u + 1)) 141 291 [.int a0] h)
    (k45 : ∀ u h, u ≤ 600 → Inv u h → ∀ (a0 : Int32), x_TwoI (Inv (u + 1)) 142 292 [.int a0] h)
    (k46 : ∀ u h, u ≤ 600 → Inv u h → ∀ (a0 : Int32) (a1 : Int32) (a2 : Int32), x_TwoI (Inv (u + 1)) 143 295 [.int a0, .int a1, .int a2] h)
    (k47 : ∀ u h, u ≤ 600 → Inv u h → ∀ (a0 : Int32) (a1 : Int32), x_TwoI (Inv (u + 1)) 144 296 [.int a0, .int a1] h)
    (k48 : ∀ u h, u ≤ 600 → Inv u h → ∀ (a0 : Int32) (a1 : Int32), x_TwoI (Inv (u + 1)) 145 300 [.int a0, .int a1] h)
    (k49 : ∀ u h, u ≤ 600 → Inv u h → ∀ (a0 : Int32) (a1 : Int32), x_TwoI (Inv (u + 1)) 146 301 [.int a0, .int a1] h)
    (k50 : ∀ u h, u ≤ 600 → Inv u h → ∀ (a0 : Int32) (a1 : Int32) (a2 : Int32), x_TwoI (Inv (u + 1)) 147 308 [.int a0, .int a1, .int a2] h)
    (k51 : ∀ u h, u ≤ 600 → Inv u h → ∀ (a0 : Int32) (a1 : Int32) (a2 : Int32), x_TwoI (Inv (u + 1)) 148 309 [.int a0, .int a1, .int a2] h)
    (k52 : ∀ u h, u ≤ 600 → Inv u h → ∀ (a0 : Int32) (a1 : Int32), x_TwoI (Inv (u + 1)) 149 310 [.int a0, .int a1] h)
    (k53 : ∀ u h, u ≤ 600 → Inv u h → ∀ (a0 : Int32), x_TwoI (Inv (u + 1)) 150 311 [.int a0] h)
    (k54 : ∀ u h, u ≤ 600 → Inv u h → ∀ (a0 : Int32), x_TwoI (Inv (u + 1)) 151 322 [.int a0] h)
    (k55 : ∀ u h, u ≤ 600 → Inv u h → ∀ (a0 : Int32), x_TwoI (Inv (u + 1)) 152 323 [.int a0] h)
    (k56 : ∀ u h, u ≤ 600 → Inv u h → ∀ (a0 : Int32) (a1 : Int32), x_TwoI (Inv (u + 1)) 153 324 [.int a0, .int a1] h)
    (k57 : ∀ u h, u ≤ 600 → Inv u h → x_TwoI (Inv (u + 1)) 154 326 [] h)
    (k58 : ∀ u h, u ≤ 600 → Inv u h → x_TwoI (Inv (u + 1)) 155 327 [] h)
    {h : xH} {cs ss : Nat} (hI0 : Inv 0 h) (hc0 : cs ≤ 1000) (hs0 : ss ≤ 1000000) : x_JL L xs 18 (x_lw 0) [] h cs ss := by
  refine x_law_loop2 hL Inv (fun u i h cs ss hu hI h6 hcs hss pc hp hk => ?_) 600 0 0 h cs ss hI0 (by omega) (Nat.zero_le _) (by omega) (by omega) (by omega)
  simp only [x_lst, List.mem_cons, List.not_mem_nil, or_false] at hp
  rcases hp with rfl | rfl | rfl | rfl | rfl | rfl | rfl | rfl | rfl | rfl | rfl | rfl | rfl | rfl | rfl | rfl | rfl | rfl | rfl | rfl | rfl | rfl | rfl | rfl | rfl | rfl | rfl | rfl | rfl | rfl | rfl | rfl | rfl | rfl | rfl | rfl | rfl | rfl | rfl | rfl | rfl | rfl | rfl | rfl | rfl | rfl | rfl | rfl | rfl | rfl | rfl | rfl | rfl | rfl | rfl | rfl | rfl | rfl | rfl | rfl
  · exact l_case0 hL h6 hcs hss (k0 u h hu hI) hk
  · exact l_case1 hL h6 hcs hss (k1 u h hu hI) hk
  · exact l_case2 hL h6 hcs hss (k2 u h hu hI) hk
  · exact l_case3 hL h6 hcs hss (k3 u h hu hI) hk
  · exact l_case4 hL h6 hcs hss (k4 u h hu hI) hk
  · exact l_case5 hL h6 hcs hss (k5 u h hu hI) hk
  · exact l_case6 hL h6 hcs hss (k6 u h hu hI) hk
  · exact l_case7 hL h6 hcs hss (k7 u h hu hI) hk
  · exact l_case8 hL h6 hcs hss (k8 u h hu hI) hk
  · exact l_case9 hL h6 hcs hss (k9 u h hu hI) hk
  · exact l_case10 hL h6 hcs hss (k10 u h hu hI) hk
  · exact l_case11 hL h6 hcs hss (k11 u h hu hI) hk
  · exact l_case12 hL h6 hcs hss (k12 u h hu hI) hk
  · exact l_case13 hL h6 hcs hss (k13 u h hu hI) hk
  · exact l_case14 hL h6 hcs hss (k14 u h hu hI) hk
  · exact l_case15 hL h6 hcs hss (k15 u h hu hI) hk
  · exact l_case16 hL h6 hcs hss (k16 u h hu hI) hk
  · exact l_case17 hL h6 hcs hss (k17 u h hu hI) hk
  · exact l_case18 hL h6 hcs hss (k18 u h hu hI) hk
  · exact l_case19 hL h6 hcs hss (k19 u h hu hI) hk
  · exact l_case20 hL h6 hcs hss (k20 u h hu hI) hk
  · exact l_case21 hL h6 hcs hss (k21 u h hu hI) hk
  · exact l_case22 hL h6 hcs hss (k22 u h hu hI) hk
  · exact l_case23 hL h6 hcs hss (k23 u h hu hI) hk
  · exact l_case24 hL h6 hcs hss (k24 u h hu hI) hk
  · exact l_case25 hL h6 hcs hss (k25 u h hu hI) hk
  · exact l_case26 hL h6 hcs hss (k26 u h hu hI) hk
  · exact l_case27 hL h6 hcs hss (k27 u h hu hI) hk
  · exact l_case28 hL h6 hcs hss (k28 u h hu hI) hk
  · exact l_case29 hL h6 hcs hss (k29 u h hu hI) hk
  · exact l_case30 hL h6 hcs hss (k30 u h hu hI) hk
  · exact l_case31 hL h6 hcs hss (k31 u h hu hI) hk
  · exact l_case32 hL h6 hcs hss (k32 u h hu hI) hk
  · exact l_case33 hL h6 hcs hss (k33 u h hu hI) hk
  · exact l_case34 hL h6 hcs hss (k34 u h hu hI) hk
  · exact l_case35 hL h6 hcs hss (k35 u h hu hI) hk
  · exact l_case36 hL h6 hcs hss (k36 u h hu hI) hk
  · exact l_case37 hL h6 hcs hss (k37 u h hu hI) hk
  · exact l_case38 hL h6 hcs hss (k38 u h hu hI) hk
  · exact l_case39 hL h6 hcs hss (k39 u h hu hI) hk
  · exact l_case40 hL h6 hcs hss (k40 u h hu hI) hk
  · exact l_case41 hL h6 hcs hss (k41 u h hu hI) hk
  · exact l_case42 hL h6 hcs hss (k42 u h hu hI) hk
  · exact l_case43 hL h6 hcs hss (k43 u h hu hI) hk
  · exact l_case44 hL h6 hcs hss (k44 u h hu hI) hk
  · exact l_case45 hL h6 hcs hss (k45 u h hu hI) hk
  · exact l_case46 hL h6 hcs hss (k46 u h hu hI) hk
  · exact l_case47 hL h6 hcs hss (k47 u h hu hI) hk
  · exact l_case48 hL h6 hcs hss (k48 u h hu hI) hk
  · exact l_case49 hL h6 hcs hss (k49 u h hu hI) hk
  · exact l_case50 hL h6 hcs hss (k50 u h hu hI) hk
  · exact l_case51 hL h6 hcs hss (k51 u h hu hI) hk
  · exact l_case52 hL h6 hcs hss (k52 u h hu hI) hk
  · exact l_case53 hL h6 hcs hss (k53 u h hu hI) hk
  · exact l_case54 hL h6 hcs hss (k54 u h hu hI) hk
  · exact l_case55 hL h6 hcs hss (k55 u h hu hI) hk
  · exact l_case56 hL h6 hcs hss (k56 u h hu hI) hk
  · exact l_case57 hL h6 hcs hss (k57 u h hu hI) hk
  · exact l_case58 hL h6 hcs hss (k58 u h hu hI) hk
  · exact hk h cs ss (hmono u h hI) (by omega) (by omega)
