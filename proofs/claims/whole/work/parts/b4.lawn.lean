/-! the law's beginning: both objects are made -/
theorem x_JL_n {L : Nat} {xs : Nat → Int32} {pc : Nat} {lv : List (Option Value)} {st : List Value} {f : Nat → Nat → Int32} {g : Nat → Nat → Int64} {ρ : Nat → Nat → Option Nat} {dm : List Nat} {n n' cs ss : Nat} (h : x_JL L xs pc lv st (f, g, ρ, dm, n') cs ss) : x_JL L xs pc lv st (f, g, ρ, dm, n) cs ss := h
def x_dmB : List Nat := [0] ++ [1] ++ [2] ++ [3] ++ [4] ++ [5] ++ [6] ++ [7] ++ [8] ++ [9] ++ [10] ++ [11] ++ [12] ++ [13] ++ [14] ++ [15] ++ [16] ++ [17] ++ [18] ++ [19] ++ [20] ++ [21] ++ [22] ++ [23] ++ [24] ++ [25] ++ [26] ++ [27] ++ [28] ++ [29] ++ [30] ++ [31] ++ [32] ++ [33] ++ [34] ++ [35] ++ [36] ++ [37] ++ [38] ++ [39] ++ [40] ++ [41] ++ [42] ++ [43] ++ [44] ++ [45] ++ [46] ++ [47] ++ [48] ++ [49] ++ [50] ++ [51] ++ [52] ++ [53] ++ [54] ++ [55] ++ [56] ++ [57] ++ [58] ++ [59] ++ [60] ++ [61] ++ [62] ++ [63] ++ [64] ++ [65] ++ [66] ++ [67] ++ [68] ++ [69] ++ [70] ++ [71] ++ [72] ++ [73] ++ [74] ++ [75] ++ [76] ++ [77] ++ [78] ++ [79] ++ [80] ++ [81] ++ [82] ++ [83] ++ [84] ++ [85] ++ [86] ++ [87] ++ [88] ++ [89] ++ [90] ++ [91] ++ [92] ++ [93] ++ [94] ++ [95] ++ [96] ++ [97] ++ [98] ++ [99] ++ [100] ++ [101] ++ [102] ++ [103] ++ [104] ++ [105]
def x_dmA : List Nat := x_dmB ++ [500] ++ [501] ++ [502] ++ [503] ++ [504] ++ [505] ++ [506] ++ [507] ++ [508] ++ [509] ++ [510] ++ [511] ++ [512] ++ [513] ++ [514] ++ [515] ++ [516] ++ [517]
theorem x_dmB_le : ∀ q ∈ x_dmB, q ≤ 105 := by decide +kernel
/-- what holds when both are new -/
def x_I0 (F : Nat → Nat → Int32) (G : Nat → Nat → Int64) : Prop := ∃ f g, (x_F1 f g ∧ v_CA f g 12 y_v0 ∧ f 32 0 = 0 ∧ f 0 14 = 0 ∧ f 0 19 = 0) ∧ (∀ c, c < 500 → F c = f c ∧ G c = g c) ∧ F 500 = va_up (va_up (fun _ => 0) 16 (-1)) 17 (-1) ∧ G 500 = va_up (fun _ => 0) 4 1 ∧ F 501 = y_pln (fun _ => 0) 0 ∧ G 502 = (fun _ => 0) ∧ F 503 = (fun _ => 0) ∧ (∀ j, j < 4 → F 504 j = -1) ∧ G 505 = (fun _ => 0) ∧ F 506 = (fun _ => 0)
theorem x_law_b4 {L : Nat} {xs : Nat → Int32} {F : Nat → Nat → Int32} {G : Nat → Nat → Int64} {cs ss : Nat} (hcs : cs + 200 ≤ 600000) (hss : ss + 1000000 ≤ 7302250) (hF : x_F1 F G ∧ v_CA F G 12 y_v0 ∧ F 32 0 = 0 ∧ F 0 14 = 0 ∧ F 0 19 = 0) (hk : ∀ F G, x_I0 F G → x_JL L xs 18 (x_lw 0) [] (F, G, x_HR 12 32, x_dmA, 518) (cs + x_mc 174) (ss + x_ms 174)) : x_JL L xs 11 [some (.ref 1005), some (.ref 0), none, none] [.ref 500] (va_up F 500 (fun _ => 0), va_up G 500 (fun _ => 0), va_up (x_HR 12 32) 500 (fun _ => none), x_dmB ++ [500], 501) cs ss := by
  have hm : ∀ k, 501 ≤ k → k ≤ 517 → k ∉ x_dmB ++ [500] := fun k h1 h2 hm => by
    rcases List.mem_append.mp hm with q | q
    · have := x_dmB_le k q; omega
    · have := List.mem_singleton.mp q; omega
  have hC := m_initModel (d := 1297) (r := 12) (t := 32) (f := va_up F 500 (fun _ => 0)) (g := va_up G 500 (fun _ => 0)) (dm := x_dmB ++ [500]) x_us x_us hm
  refine x_wp_okL okL [18] 6 ?_
  refine ⟨_, hC, ⟨(show cs + x_mc 174 ≤ 600000 from Nat.le_trans (Nat.add_le_add_left (show x_mc 174 ≤ 200 by decide +kernel) cs) hcs), (show ss + x_ms 174 ≤ 7302250 from Nat.le_trans (Nat.add_le_add_left (show x_ms 174 ≤ 1000000 by decide +kernel) ss) hss)⟩, fun z h' hp => ?_⟩
  obtain ⟨rfl, F', G', rfl, q1, q2, q3, q4, q5, q6, q7, q8, q9⟩ := hp
  refine hk F' G' ⟨F, G, hF, fun c hc => ?_, q2, q3, q4, q5, q6, q7, q8, q9⟩
  have := q1 c hc
  rw [x_un (by omega), x_un (by omega)] at this
  exact this
