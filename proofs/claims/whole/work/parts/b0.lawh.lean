/-! the law's loop: its head -/
def x_lst : List Nat := [284, 297, 311, 325, 368, 441, 475, 538, 601, 624, 647, 670, 693, 716, 749, 792, 825, 848, 881, 894, 937, 980, 1023, 1066, 1109, 1162, 1205, 1248, 1271, 1294, 1327, 1360, 1373, 1396, 1419, 1452, 1495, 1518, 1541, 1574, 1598, 1621, 1645, 1668, 1701, 1724, 1747, 1790, 1823, 1856, 1889, 1932, 1975, 2008, 2031, 2054, 2077, 2110, 2123, 2136]
theorem x_oT {n : Nat} (h : n < 100000) : (Int32.ofNat n).toInt = n := by
  first
    | exact Int32.toInt_ofNat_of_lt (by omega)
    | exact Int32.toInt_ofNat_of_lt (show n < 2 ^ 31 by omega)
theorem x_L6 {L i : Nat} (hL : L ≤ 3072) (hi : i ≤ L) (c : ¬ (Int32.ofNat L - (Int8.ofInt 6).toInt32 < Int32.ofNat i)) : i + 6 ≤ L := by
  have h1 : (Int32.ofNat L).toInt = L := x_oT (by omega)
  have h2 : (Int32.ofNat i).toInt = i := x_oT (by omega)
  have h3 : ((Int8.ofInt 6).toInt32).toInt = 6 := by decide
  rw [Int32.lt_iff_toInt_lt, Int32.toInt_sub, h1, h2, h3, Int.bmod_eq_of_le (by omega) (by omega)] at c
  omega
theorem x_ixL {L j : Nat} (hL : L ≤ 3072) (hj : j < L) : x_ix (Int32.ofNat j) L := by
  unfold x_ix
  rw [x_oT (by omega)]
  omega
theorem x_tsw_all {pc : Nat} {x : Int32} {k : Nat → Prop} : ∀ (os : List Int) (lo : Int), (∀ o ∈ os, k ((pc : Int) + o).toNat) → x_tsw pc x lo os k
  | [], _, _ => trivial
  | o :: r, lo, h => ⟨fun _ => h o List.mem_cons_self, x_tsw_all r (lo + 1) (fun q hq => h q (List.mem_cons_of_mem _ hq))⟩
theorem x_law_head {L : Nat} {xs : Nat → Int32} {i : Nat} {h : xH} {cs ss : Nat} (hL : L ≤ 3072) (hi : i ≤ L) (hcs : cs ≤ 600000) (hss : ss ≤ 7302250) (hc : i + 6 ≤ L → ∀ pc ∈ x_lst, x_JL L xs pc [some (.ref 1005), some (.ref 0), some (.ref 500), some (.int (Int32.ofNat i))] [] h cs ss) : x_JL L xs 18 [some (.ref 1005), some (.ref 0), some (.ref 500), some (.int (Int32.ofNat i))] [] h cs ss := by
  refine x_wp_okL okL x_lst 8 ?_
  refine And.intro (fun c => ?_) (fun c => ?_)
  · exact ⟨rfl, hcs, hss⟩
  · have h6 := x_L6 hL hi c
    have hcc := hc h6
    refine And.intro (x_ixL hL (by omega)) ?_
    refine And.intro (x_tsw_all _ _ (fun o ho => ?_)) (fun _ => ?_)
    · have hall : ∀ o ∈ [251, 264, 278, 292, 335, 408, 442, 505, 568, 591, 614, 637, 660, 683, 716, 759, 792, 815, 848, 861, 904, 947, 990, 1033, 1076, 1129, 1172, 1215, 1238, 1261, 1294, 1327, 1340, 1363, 1386, 1419, 1462, 1485, 1508, 1541, 1565, 1588, 1612, 1635, 1668, 1691, 1714, 1757, 1790, 1823, 1856, 1899, 1942, 1975, 1998, 2021, 2044, 2077, 2090], List.elem (((33 : Nat) : Int) + o).toNat x_lst = true := by decide +kernel
      have he := hall o ho
      have hm := hcc _ (List.mem_of_elem_eq_true he)
      simp only [he]
      exact hm
    · exact hcc 2136 (by decide +kernel)
