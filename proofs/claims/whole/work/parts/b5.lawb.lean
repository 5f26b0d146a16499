/-! the law from its first row -/
theorem x_law_b3 {L : Nat} {xs : Nat → Int32} {F : Nat → Nat → Int32} {G : Nat → Nat → Int64} {cs ss : Nat} (hcs : cs + 1 ≤ 600000) (hss : ss + 1000 ≤ 7302250) (hk : ∀ s', s' ≤ ss + 1000 → x_JL L xs 11 [some (.ref 1005), some (.ref 0), none, none] [.ref 500] (va_up F 500 (fun _ => 0), va_up G 500 (fun _ => 0), va_up (x_HR 12 32) 500 (fun _ => none), x_dmB ++ [500], 501) (cs + 1) s') : x_JL L xs 8 [some (.ref 1005), some (.ref 0), none, none] [] (F, G, x_HR 12 32, x_dmB, 500) cs ss := by
  have hn : ss + x_nF 10 ≤ ss + 1000 := Nat.add_le_add_left (show x_nF 10 ≤ 1000 by decide +kernel) ss
  have hk := hk _ hn
  have hsh : (x_SH 500).1 = 10 := by decide +kernel
  have hnm : 500 ∉ x_dmB := fun hm => absurd (x_dmB_le 500 hm) (by decide)
  refine x_wp_okL okL [11] 6 ?_
  refine And.intro ⟨hsh, hnm, (show 500 < 1000 by decide)⟩ (And.intro ⟨(show cs + 1 ≤ 600000 from hcs), (show ss + x_nF 10 ≤ 7302250 from Nat.le_trans hn hss)⟩ ?_)
  exact hk
theorem x_law_b2 {L : Nat} {xs : Nat → Int32} {f : Nat → Nat → Int32} {g : Nat → Nat → Int64} {cs ss : Nat} (hcs : cs + 200 ≤ 600000) (hss : ss + 20000 ≤ 7302250) (hk : ∀ F G c' s', (x_F1 F G ∧ v_CA F G 12 y_v0 ∧ F 32 0 = 0 ∧ F 0 14 = 0 ∧ F 0 19 = 0) → c' ≤ cs + 200 → s' ≤ ss + 20000 → x_JL L xs 8 [some (.ref 1005), some (.ref 0), none, none] [] (F, G, x_HR 12 32, x_dmB, 106) c' s') : x_JL L xs 3 [some (.ref 1005), none, none, none] [.ref 0] (f, g, va_up (x_HR 12 32) 0 (fun _ => none), [0], 1) cs ss := by
  have hC := c_initBark (d := 1295) (f := f) (g := g)
  have h1 : cs + x_mc 96 ≤ cs + 200 := Nat.add_le_add_left (show x_mc 96 ≤ 200 by decide +kernel) cs
  have h2 : ss + x_ms 96 ≤ ss + 20000 := Nat.add_le_add_left (show x_ms 96 ≤ 20000 by decide +kernel) ss
  refine x_wp_okL okL [8] 6 ?_
  refine ⟨_, hC, ⟨(show cs + x_mc 96 ≤ 600000 from Nat.le_trans h1 hcs), (show ss + x_ms 96 ≤ 7302250 from Nat.le_trans h2 hss)⟩, fun z h' hp => ?_⟩
  obtain ⟨rfl, F, G, rfl, q⟩ := hp
  exact hk F G _ _ q h1 h2
theorem x_law_b1 {L : Nat} {xs : Nat → Int32} {f : Nat → Nat → Int32} {g : Nat → Nat → Int64} (hk : ∀ s', s' ≤ 1000 → x_JL L xs 3 [some (.ref 1005), none, none, none] [.ref 0] (va_up f 0 (fun _ => 0), va_up g 0 (fun _ => 0), va_up (x_HR 12 32) 0 (fun _ => none), [0], 1) 1 s') : x_JL L xs 0 [some (.ref 1005), none, none, none] [] (f, g, x_HR 12 32, [], 0) 0 0 := by
  have hk := hk (0 + x_nF 9) (by decide +kernel)
  have hsh : (x_SH 0).1 = 9 := by decide +kernel
  refine x_wp_okL okL [3] 6 ?_
  refine And.intro ⟨hsh, (fun hm => by cases hm), (show 0 < 1000 by decide)⟩ (And.intro ⟨(show 0 + 1 ≤ 600000 by decide), (show 0 + x_nF 9 ≤ 7302250 by decide +kernel)⟩ ?_)
  exact hk
theorem x_law_begin {L : Nat} {xs : Nat → Int32} {f : Nat → Nat → Int32} {g : Nat → Nat → Int64} (hk : ∀ F G cs ss, x_I0 F G → cs ≤ 1000 → ss ≤ 1000000 → x_JL L xs 18 (x_lw 0) [] (F, G, x_HR 12 32, x_dmA, 518) cs ss) : x_JL L xs 0 [some (.ref 1005), none, none, none] [] (f, g, x_HR 12 32, [], 0) 0 0 := by
  have e5 : x_mc 174 ≤ 200 := by decide +kernel
  have e6 : x_ms 174 ≤ 20000 := by decide +kernel
  exact x_law_b1 (fun s1 h1 => x_law_b2 (by omega) (by omega) (fun F G c2 s2 hF hc2 hs2 => x_JL_n (x_law_b3 (by omega) (by omega) (fun s3 h3 => x_law_b4 (by omega) (by omega) hF (fun F' G' h0 => hk F' G' _ _ h0 (Nat.le_trans (Nat.add_le_add_left e5 _) (by omega)) (Nat.le_trans (Nat.add_le_add_left e6 _) (by omega)))))))
