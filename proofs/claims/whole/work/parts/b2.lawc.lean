/-! the law's cases: both sides called with the same numbers -/
def x_TwoI (Inv : xH → Prop) (A B : Nat) (as : List Value) (h : xH) : Prop :=
  ∃ PA, x_Ct A 1299 (.ref 0 :: as) h PA ∧ ∀ q h1, PA q h1 → ∃ v : Int32, q = some (.int v) ∧ ∃ PB, x_Ct B 1299 (.ref 500 :: as) h1 PB ∧ ∀ q' h2, PB q' h2 → q' = some (.int v) ∧ Inv h2
def x_TwoL (Inv : xH → Prop) (A B : Nat) (as : List Value) (h : xH) : Prop :=
  ∃ PA, x_Ct A 1299 (.ref 0 :: as) h PA ∧ ∀ q h1, PA q h1 → ∃ v : Int64, q = some (.long v) ∧ ∃ PB, x_Ct B 1299 (.ref 500 :: as) h1 PB ∧ ∀ q' h2, PB q' h2 → q' = some (.long v) ∧ Inv h2
theorem x_ixK {L i k : Nat} (hL : L ≤ 3072) (h6 : i + 6 ≤ L) (hk : k < 6) : x_ix (Int32.ofNat i + Int32.ofNat k) L := by
  rw [← Int32.ofNat_add]
  exact x_ixL hL (by omega)
theorem x_lcv (v : Int64) : lg_cmp v v = 0 := by
  unfold lg_cmp
  simp
theorem l_case0 {L : Nat} {xs : Nat → Int32} (hL : L ≤ 3072) {Inv : xH → Prop} {i : Nat} {h : xH} {cs ss : Nat} (h6 : i + 6 ≤ L) (hcs : cs ≤ 590000) (hss : ss ≤ 7000000) (h2 : x_TwoI Inv 97 176 [] h) (hk : ∀ (h' : xH) (cs' ss' : Nat), Inv h' → cs' ≤ cs + 4 → ss' ≤ ss + 16 → x_JL L xs 2136 (x_lw i) [] h' cs' ss') : x_JL L xs 284 (x_lw i) [] h cs ss := by
  refine x_wp_okL okL0 [2136] 4 ?_
  refine Exists.elim (h2) (fun PA hAB => ⟨PA, hAB.1, ⟨(show cs + 0 ≤ 600000 by omega), (show ss + 0 ≤ 7302250 by omega)⟩, fun q h1 hp => ?_⟩)
  obtain ⟨v, rfl, PB, hB1, hB2⟩ := hAB.2 q h1 hp
  refine ⟨PB, hB1, ⟨(show cs + 0 + 0 ≤ 600000 by omega), (show ss + 0 + 0 ≤ 7302250 by omega)⟩, fun q' h3 hp' => ?_⟩
  obtain ⟨rfl, hI⟩ := hB2 q' h3 hp'
  refine And.intro (fun _ => hk _ _ _ hI (show cs + 0 + 0 ≤ cs + 4 by omega) (show ss + 0 + 0 ≤ ss + 16 by omega)) (fun c => absurd rfl c)
theorem l_case1 {L : Nat} {xs : Nat → Int32} (hL : L ≤ 3072) {Inv : xH → Prop} {i : Nat} {h : xH} {cs ss : Nat} (h6 : i + 6 ≤ L) (hcs : cs ≤ 590000) (hss : ss ≤ 7000000) (h2 : x_TwoL Inv 98 177 [] h) (hk : ∀ (h' : xH) (cs' ss' : Nat), Inv h' → cs' ≤ cs + 4 → ss' ≤ ss + 16 → x_JL L xs 2136 (x_lw i) [] h' cs' ss') : x_JL L xs 297 (x_lw i) [] h cs ss := by
  refine x_wp_okL okL1 [2136] 4 ?_
  refine Exists.elim (h2) (fun PA hAB => ⟨PA, hAB.1, ⟨(show cs + 0 ≤ 600000 by omega), (show ss + 0 ≤ 7302250 by omega)⟩, fun q h1 hp => ?_⟩)
  obtain ⟨v, rfl, PB, hB1, hB2⟩ := hAB.2 q h1 hp
  refine ⟨PB, hB1, ⟨(show cs + 0 + 0 ≤ 600000 by omega), (show ss + 0 + 0 ≤ 7302250 by omega)⟩, fun q' h3 hp' => ?_⟩
  obtain ⟨rfl, hI⟩ := hB2 q' h3 hp'
  refine And.intro (fun _ => hk _ _ _ hI (show cs + 0 + 0 ≤ cs + 4 by omega) (show ss + 0 + 0 ≤ ss + 16 by omega)) (fun c => absurd (x_lcv v) c)
theorem l_case2 {L : Nat} {xs : Nat → Int32} (hL : L ≤ 3072) {Inv : xH → Prop} {i : Nat} {h : xH} {cs ss : Nat} (h6 : i + 6 ≤ L) (hcs : cs ≤ 590000) (hss : ss ≤ 7000000) (h2 : x_TwoL Inv 99 178 [] h) (hk : ∀ (h' : xH) (cs' ss' : Nat), Inv h' → cs' ≤ cs + 4 → ss' ≤ ss + 16 → x_JL L xs 2136 (x_lw i) [] h' cs' ss') : x_JL L xs 311 (x_lw i) [] h cs ss := by
  refine x_wp_okL okL2 [2136] 4 ?_
  refine Exists.elim (h2) (fun PA hAB => ⟨PA, hAB.1, ⟨(show cs + 0 ≤ 600000 by omega), (show ss + 0 ≤ 7302250 by omega)⟩, fun q h1 hp => ?_⟩)
  obtain ⟨v, rfl, PB, hB1, hB2⟩ := hAB.2 q h1 hp
  refine ⟨PB, hB1, ⟨(show cs + 0 + 0 ≤ 600000 by omega), (show ss + 0 + 0 ≤ 7302250 by omega)⟩, fun q' h3 hp' => ?_⟩
  obtain ⟨rfl, hI⟩ := hB2 q' h3 hp'
  refine And.intro (fun _ => hk _ _ _ hI (show cs + 0 + 0 ≤ cs + 4 by omega) (show ss + 0 + 0 ≤ ss + 16 by omega)) (fun c => absurd (x_lcv v) c)
theorem l_case3 {L : Nat} {xs : Nat → Int32} (hL : L ≤ 3072) {Inv : xH → Prop} {i : Nat} {h : xH} {cs ss : Nat} (h6 : i + 6 ≤ L) (hcs : cs ≤ 590000) (hss : ss ≤ 7000000) (h2 : ∀ (a0 : Int32) (a1 : Int32) (a2 : Int32), x_TwoI Inv 100 186 [.int a0, .int a1, .int a2] h) (hk : ∀ (h' : xH) (cs' ss' : Nat), Inv h' → cs' ≤ cs + 4 → ss' ≤ ss + 16 → x_JL L xs 2136 (x_lw i) [] h' cs' ss') : x_JL L xs 325 (x_lw i) [] h cs ss := by
  refine x_wp_okL okL3 [2136] 4 ?_
  refine And.intro (x_ixK (k := 1) hL h6 (by decide)) ?_
  refine And.intro (x_ixK (k := 2) hL h6 (by decide)) ?_
  refine And.intro (x_ixK (k := 3) hL h6 (by decide)) ?_
  refine Exists.elim (h2 _ _ _) (fun PA hAB => ⟨PA, hAB.1, ⟨(show cs + 0 ≤ 600000 by omega), (show ss + 0 ≤ 7302250 by omega)⟩, fun q h1 hp => ?_⟩)
  obtain ⟨v, rfl, PB, hB1, hB2⟩ := hAB.2 q h1 hp
  refine And.intro (x_ixK (k := 1) hL h6 (by decide)) ?_
  refine And.intro (x_ixK (k := 2) hL h6 (by decide)) ?_
  refine And.intro (x_ixK (k := 3) hL h6 (by decide)) ?_
  refine ⟨PB, hB1, ⟨(show cs + 0 + 0 ≤ 600000 by omega), (show ss + 0 + 0 ≤ 7302250 by omega)⟩, fun q' h3 hp' => ?_⟩
  obtain ⟨rfl, hI⟩ := hB2 q' h3 hp'
  refine And.intro (fun _ => hk _ _ _ hI (show cs + 0 + 0 ≤ cs + 4 by omega) (show ss + 0 + 0 ≤ ss + 16 by omega)) (fun c => absurd rfl c)
theorem l_case4 {L : Nat} {xs : Nat → Int32} (hL : L ≤ 3072) {Inv : xH → Prop} {i : Nat} {h : xH} {cs ss : Nat} (h6 : i + 6 ≤ L) (hcs : cs ≤ 590000) (hss : ss ≤ 7000000) (h2 : ∀ (a0 : Int32) (a1 : Int32) (a2 : Int64), x_TwoI Inv 101 188 [.int a0, .int a1, .long a2] h) (hk : ∀ (h' : xH) (cs' ss' : Nat), Inv h' → cs' ≤ cs + 4 → ss' ≤ ss + 16 → x_JL L xs 2136 (x_lw i) [] h' cs' ss') : x_JL L xs 368 (x_lw i) [] h cs ss := by
  refine x_wp_okL okL4 [2136] 4 ?_
  refine And.intro (x_ixK (k := 1) hL h6 (by decide)) ?_
  refine And.intro (x_ixK (k := 2) hL h6 (by decide)) ?_
  refine And.intro (x_ixK (k := 3) hL h6 (by decide)) ?_
  refine And.intro (x_ixK (k := 4) hL h6 (by decide)) ?_
  refine Exists.elim (h2 _ _ _) (fun PA hAB => ⟨PA, hAB.1, ⟨(show cs + 0 ≤ 600000 by omega), (show ss + 0 ≤ 7302250 by omega)⟩, fun q h1 hp => ?_⟩)
  obtain ⟨v, rfl, PB, hB1, hB2⟩ := hAB.2 q h1 hp
  refine And.intro (x_ixK (k := 1) hL h6 (by decide)) ?_
  refine And.intro (x_ixK (k := 2) hL h6 (by decide)) ?_
  refine And.intro (x_ixK (k := 3) hL h6 (by decide)) ?_
  refine And.intro (x_ixK (k := 4) hL h6 (by decide)) ?_
  refine ⟨PB, hB1, ⟨(show cs + 0 + 0 ≤ 600000 by omega), (show ss + 0 + 0 ≤ 7302250 by omega)⟩, fun q' h3 hp' => ?_⟩
  obtain ⟨rfl, hI⟩ := hB2 q' h3 hp'
  refine And.intro (fun _ => hk _ _ _ hI (show cs + 0 + 0 ≤ cs + 4 by omega) (show ss + 0 + 0 ≤ ss + 16 by omega)) (fun c => absurd rfl c)
theorem l_case5 {L : Nat} {xs : Nat → Int32} (hL : L ≤ 3072) {Inv : xH → Prop} {i : Nat} {h : xH} {cs ss : Nat} (h6 : i + 6 ≤ L) (hcs : cs ≤ 590000) (hss : ss ≤ 7000000) (h2 : ∀ (a0 : Int32) (a1 : Int32), x_TwoL Inv 102 189 [.int a0, .int a1] h) (hk : ∀ (h' : xH) (cs' ss' : Nat), Inv h' → cs' ≤ cs + 4 → ss' ≤ ss + 16 → x_JL L xs 2136 (x_lw i) [] h' cs' ss') : x_JL L xs 441 (x_lw i) [] h cs ss := by
  refine x_wp_okL okL5 [2136] 4 ?_
  refine And.intro (x_ixK (k := 1) hL h6 (by decide)) ?_
  refine And.intro (x_ixK (k := 2) hL h6 (by decide)) ?_
  refine Exists.elim (h2 _ _) (fun PA hAB => ⟨PA, hAB.1, ⟨(show cs + 0 ≤ 600000 by omega), (show ss + 0 ≤ 7302250 by omega)⟩, fun q h1 hp => ?_⟩)
  obtain ⟨v, rfl, PB, hB1, hB2⟩ := hAB.2 q h1 hp
  refine And.intro (x_ixK (k := 1) hL h6 (by decide)) ?_
  refine And.intro (x_ixK (k := 2) hL h6 (by decide)) ?_
  refine ⟨PB, hB1, ⟨(show cs + 0 + 0 ≤ 600000 by omega), (show ss + 0 + 0 ≤ 7302250 by omega)⟩, fun q' h3 hp' => ?_⟩
  obtain ⟨rfl, hI⟩ := hB2 q' h3 hp'
  refine And.intro (fun _ => hk _ _ _ hI (show cs + 0 + 0 ≤ cs + 4 by omega) (show ss + 0 + 0 ≤ ss + 16 by omega)) (fun c => absurd (x_lcv v) c)
theorem l_case6 {L : Nat} {xs : Nat → Int32} (hL : L ≤ 3072) {Inv : xH → Prop} {i : Nat} {h : xH} {cs ss : Nat} (h6 : i + 6 ≤ L) (hcs : cs ≤ 590000) (hss : ss ≤ 7000000) (h2 : ∀ (a0 : Int32) (a1 : Int32) (a2 : Int32) (a3 : Int32) (a4 : Int32), x_TwoI Inv 103 190 [.int a0, .int a1, .int a2, .int a3, .int a4] h) (hk : ∀ (h' : xH) (cs' ss' : Nat), Inv h' → cs' ≤ cs + 4 → ss' ≤ ss + 16 → x_JL L xs 2136 (x_lw i) [] h' cs' ss') : x_JL L xs 475 (x_lw i) [] h cs ss := by
  refine x_wp_okL okL6 [2136] 4 ?_
  refine And.intro (x_ixK (k := 1) hL h6 (by decide)) ?_
  refine And.intro (x_ixK (k := 2) hL h6 (by decide)) ?_
  refine And.intro (x_ixK (k := 3) hL h6 (by decide)) ?_
  refine And.intro (x_ixK (k := 4) hL h6 (by decide)) ?_
  refine And.intro (x_ixK (k := 5) hL h6 (by decide)) ?_
  refine Exists.elim (h2 _ _ _ _ _) (fun PA hAB => ⟨PA, hAB.1, ⟨(show cs + 0 ≤ 600000 by omega), (show ss + 0 ≤ 7302250 by omega)⟩, fun q h1 hp => ?_⟩)
  obtain ⟨v, rfl, PB, hB1, hB2⟩ := hAB.2 q h1 hp
  refine And.intro (x_ixK (k := 1) hL h6 (by decide)) ?_
  refine And.intro (x_ixK (k := 2) hL h6 (by decide)) ?_
  refine And.intro (x_ixK (k := 3) hL h6 (by decide)) ?_
  refine And.intro (x_ixK (k := 4) hL h6 (by decide)) ?_
  refine And.intro (x_ixK (k := 5) hL h6 (by decide)) ?_
  refine ⟨PB, hB1, ⟨(show cs + 0 + 0 ≤ 600000 by omega), (show ss + 0 + 0 ≤ 7302250 by omega)⟩, fun q' h3 hp' => ?_⟩
  obtain ⟨rfl, hI⟩ := hB2 q' h3 hp'
  refine And.intro (fun _ => hk _ _ _ hI (show cs + 0 + 0 ≤ cs + 4 by omega) (show ss + 0 + 0 ≤ ss + 16 by omega)) (fun c => absurd rfl c)
theorem l_case7 {L : Nat} {xs : Nat → Int32} (hL : L ≤ 3072) {Inv : xH → Prop} {i : Nat} {h : xH} {cs ss : Nat} (h6 : i + 6 ≤ L) (hcs : cs ≤ 590000) (hss : ss ≤ 7000000) (h2 : ∀ (a0 : Int32) (a1 : Int32) (a2 : Int32) (a3 : Int32) (a4 : Int32), x_TwoI Inv 104 192 [.int a0, .int a1, .int a2, .int a3, .int a4] h) (hk : ∀ (h' : xH) (cs' ss' : Nat), Inv h' → cs' ≤ cs + 4 → ss' ≤ ss + 16 → x_JL L xs 2136 (x_lw i) [] h' cs' ss') : x_JL L xs 538 (x_lw i) [] h cs ss := by
  refine x_wp_okL okL7 [2136] 4 ?_
  refine And.intro (x_ixK (k := 1) hL h6 (by decide)) ?_
  refine And.intro (x_ixK (k := 2) hL h6 (by decide)) ?_
  refine And.intro (x_ixK (k := 3) hL h6 (by decide)) ?_
  refine And.intro (x_ixK (k := 4) hL h6 (by decide)) ?_
  refine And.intro (x_ixK (k := 5) hL h6 (by decide)) ?_
  refine Exists.elim (h2 _ _ _ _ _) (fun PA hAB => ⟨PA, hAB.1, ⟨(show cs + 0 ≤ 600000 by omega), (show ss + 0 ≤ 7302250 by omega)⟩, fun q h1 hp => ?_⟩)
  obtain ⟨v, rfl, PB, hB1, hB2⟩ := hAB.2 q h1 hp
  refine And.intro (x_ixK (k := 1) hL h6 (by decide)) ?_
  refine And.intro (x_ixK (k := 2) hL h6 (by decide)) ?_
  refine And.intro (x_ixK (k := 3) hL h6 (by decide)) ?_
  refine And.intro (x_ixK (k := 4) hL h6 (by decide)) ?_
  refine And.intro (x_ixK (k := 5) hL h6 (by decide)) ?_
  refine ⟨PB, hB1, ⟨(show cs + 0 + 0 ≤ 600000 by omega), (show ss + 0 + 0 ≤ 7302250 by omega)⟩, fun q' h3 hp' => ?_⟩
  obtain ⟨rfl, hI⟩ := hB2 q' h3 hp'
  refine And.intro (fun _ => hk _ _ _ hI (show cs + 0 + 0 ≤ cs + 4 by omega) (show ss + 0 + 0 ≤ ss + 16 by omega)) (fun c => absurd rfl c)
theorem l_case8 {L : Nat} {xs : Nat → Int32} (hL : L ≤ 3072) {Inv : xH → Prop} {i : Nat} {h : xH} {cs ss : Nat} (h6 : i + 6 ≤ L) (hcs : cs ≤ 590000) (hss : ss ≤ 7000000) (h2 : ∀ (a0 : Int32), x_TwoI Inv 105 218 [.int a0] h) (hk : ∀ (h' : xH) (cs' ss' : Nat), Inv h' → cs' ≤ cs + 4 → ss' ≤ ss + 16 → x_JL L xs 2136 (x_lw i) [] h' cs' ss') : x_JL L xs 601 (x_lw i) [] h cs ss := by
  refine x_wp_okL okL8 [2136] 4 ?_
  refine And.intro (x_ixK (k := 1) hL h6 (by decide)) ?_
  refine Exists.elim (h2 _) (fun PA hAB => ⟨PA, hAB.1, ⟨(show cs + 2 ≤ 600000 by omega), (show ss + 8 ≤ 7302250 by omega)⟩, fun q h1 hp => ?_⟩)
  obtain ⟨v, rfl, PB, hB1, hB2⟩ := hAB.2 q h1 hp
  refine And.intro (x_ixK (k := 1) hL h6 (by decide)) ?_
  refine ⟨PB, hB1, ⟨(show cs + 2 + 0 ≤ 600000 by omega), (show ss + 8 + 0 ≤ 7302250 by omega)⟩, fun q' h3 hp' => ?_⟩
  obtain ⟨rfl, hI⟩ := hB2 q' h3 hp'
  refine And.intro (fun _ => hk _ _ _ hI (show cs + 2 + 0 ≤ cs + 4 by omega) (show ss + 8 + 0 ≤ ss + 16 by omega)) (fun c => absurd rfl c)
theorem l_case9 {L : Nat} {xs : Nat → Int32} (hL : L ≤ 3072) {Inv : xH → Prop} {i : Nat} {h : xH} {cs ss : Nat} (h6 : i + 6 ≤ L) (hcs : cs ≤ 590000) (hss : ss ≤ 7000000) (h2 : ∀ (a0 : Int32), x_TwoI Inv 106 223 [.int a0] h) (hk : ∀ (h' : xH) (cs' ss' : Nat), Inv h' → cs' ≤ cs + 4 → ss' ≤ ss + 16 → x_JL L xs 2136 (x_lw i) [] h' cs' ss') : x_JL L xs 624 (x_lw i) [] h cs ss := by
  refine x_wp_okL okL9 [2136] 4 ?_
  refine And.intro (x_ixK (k := 1) hL h6 (by decide)) ?_
  refine Exists.elim (h2 _) (fun PA hAB => ⟨PA, hAB.1, ⟨(show cs + 2 ≤ 600000 by omega), (show ss + 8 ≤ 7302250 by omega)⟩, fun q h1 hp => ?_⟩)
  obtain ⟨v, rfl, PB, hB1, hB2⟩ := hAB.2 q h1 hp
  refine And.intro (x_ixK (k := 1) hL h6 (by decide)) ?_
  refine ⟨PB, hB1, ⟨(show cs + 2 + 0 ≤ 600000 by omega), (show ss + 8 + 0 ≤ 7302250 by omega)⟩, fun q' h3 hp' => ?_⟩
  obtain ⟨rfl, hI⟩ := hB2 q' h3 hp'
  refine And.intro (fun _ => hk _ _ _ hI (show cs + 2 + 0 ≤ cs + 4 by omega) (show ss + 8 + 0 ≤ ss + 16 by omega)) (fun c => absurd rfl c)
theorem l_case10 {L : Nat} {xs : Nat → Int32} (hL : L ≤ 3072) {Inv : xH → Prop} {i : Nat} {h : xH} {cs ss : Nat} (h6 : i + 6 ≤ L) (hcs : cs ≤ 590000) (hss : ss ≤ 7000000) (h2 : ∀ (a0 : Int32), x_TwoI Inv 107 208 [.int a0] h) (hk : ∀ (h' : xH) (cs' ss' : Nat), Inv h' → cs' ≤ cs + 4 → ss' ≤ ss + 16 → x_JL L xs 2136 (x_lw i) [] h' cs' ss') : x_JL L xs 647 (x_lw i) [] h cs ss := by
  refine x_wp_okL okL10 [2136] 4 ?_
  refine And.intro (x_ixK (k := 1) hL h6 (by decide)) ?_
  refine Exists.elim (h2 _) (fun PA hAB => ⟨PA, hAB.1, ⟨(show cs + 0 ≤ 600000 by omega), (show ss + 0 ≤ 7302250 by omega)⟩, fun q h1 hp => ?_⟩)
  obtain ⟨v, rfl, PB, hB1, hB2⟩ := hAB.2 q h1 hp
  refine And.intro (x_ixK (k := 1) hL h6 (by decide)) ?_
  refine ⟨PB, hB1, ⟨(show cs + 0 + 0 ≤ 600000 by omega), (show ss + 0 + 0 ≤ 7302250 by omega)⟩, fun q' h3 hp' => ?_⟩
  obtain ⟨rfl, hI⟩ := hB2 q' h3 hp'
  refine And.intro (fun _ => hk _ _ _ hI (show cs + 0 + 0 ≤ cs + 4 by omega) (show ss + 0 + 0 ≤ ss + 16 by omega)) (fun c => absurd rfl c)
theorem l_case11 {L : Nat} {xs : Nat → Int32} (hL : L ≤ 3072) {Inv : xH → Prop} {i : Nat} {h : xH} {cs ss : Nat} (h6 : i + 6 ≤ L) (hcs : cs ≤ 590000) (hss : ss ≤ 7000000) (h2 : ∀ (a0 : Int32), x_TwoI Inv 108 239 [.int a0] h) (hk : ∀ (h' : xH) (cs' ss' : Nat), Inv h' → cs' ≤ cs + 4 → ss' ≤ ss + 16 → x_JL L xs 2136 (x_lw i) [] h' cs' ss') : x_JL L xs 670 (x_lw i) [] h cs ss := by
  refine x_wp_okL okL11 [2136] 4 ?_
  refine And.intro (x_ixK (k := 1) hL h6 (by decide)) ?_
  refine Exists.elim (h2 _) (fun PA hAB => ⟨PA, hAB.1, ⟨(show cs + 0 ≤ 600000 by omega), (show ss + 0 ≤ 7302250 by omega)⟩, fun q h1 hp => ?_⟩)
  obtain ⟨v, rfl, PB, hB1, hB2⟩ := hAB.2 q h1 hp
  refine And.intro (x_ixK (k := 1) hL h6 (by decide)) ?_
  refine ⟨PB, hB1, ⟨(show cs + 0 + 0 ≤ 600000 by omega), (show ss + 0 + 0 ≤ 7302250 by omega)⟩, fun q' h3 hp' => ?_⟩
  obtain ⟨rfl, hI⟩ := hB2 q' h3 hp'
  refine And.intro (fun _ => hk _ _ _ hI (show cs + 0 + 0 ≤ cs + 4 by omega) (show ss + 0 + 0 ≤ ss + 16 by omega)) (fun c => absurd rfl c)
theorem l_case12 {L : Nat} {xs : Nat → Int32} (hL : L ≤ 3072) {Inv : xH → Prop} {i : Nat} {h : xH} {cs ss : Nat} (h6 : i + 6 ≤ L) (hcs : cs ≤ 590000) (hss : ss ≤ 7000000) (h2 : ∀ (a0 : Int32), x_TwoI Inv 109 240 [.int a0] h) (hk : ∀ (h' : xH) (cs' ss' : Nat), Inv h' → cs' ≤ cs + 4 → ss' ≤ ss + 16 → x_JL L xs 2136 (x_lw i) [] h' cs' ss') : x_JL L xs 693 (x_lw i) [] h cs ss := by
  refine x_wp_okL okL12 [2136] 4 ?_
  refine And.intro (x_ixK (k := 1) hL h6 (by decide)) ?_
  refine Exists.elim (h2 _) (fun PA hAB => ⟨PA, hAB.1, ⟨(show cs + 0 ≤ 600000 by omega), (show ss + 0 ≤ 7302250 by omega)⟩, fun q h1 hp => ?_⟩)
  obtain ⟨v, rfl, PB, hB1, hB2⟩ := hAB.2 q h1 hp
  refine And.intro (x_ixK (k := 1) hL h6 (by decide)) ?_
  refine ⟨PB, hB1, ⟨(show cs + 0 + 0 ≤ 600000 by omega), (show ss + 0 + 0 ≤ 7302250 by omega)⟩, fun q' h3 hp' => ?_⟩
  obtain ⟨rfl, hI⟩ := hB2 q' h3 hp'
  refine And.intro (fun _ => hk _ _ _ hI (show cs + 0 + 0 ≤ cs + 4 by omega) (show ss + 0 + 0 ≤ ss + 16 by omega)) (fun c => absurd rfl c)
theorem l_case13 {L : Nat} {xs : Nat → Int32} (hL : L ≤ 3072) {Inv : xH → Prop} {i : Nat} {h : xH} {cs ss : Nat} (h6 : i + 6 ≤ L) (hcs : cs ≤ 590000) (hss : ss ≤ 7000000) (h2 : ∀ (a0 : Int32) (a1 : Int32), x_TwoI Inv 110 241 [.int a0, .int a1] h) (hk : ∀ (h' : xH) (cs' ss' : Nat), Inv h' → cs' ≤ cs + 4 → ss' ≤ ss + 16 → x_JL L xs 2136 (x_lw i) [] h' cs' ss') : x_JL L xs 716 (x_lw i) [] h cs ss := by
  refine x_wp_okL okL13 [2136] 4 ?_
  refine And.intro (x_ixK (k := 1) hL h6 (by decide)) ?_
  refine And.intro (x_ixK (k := 2) hL h6 (by decide)) ?_
  refine Exists.elim (h2 _ _) (fun PA hAB => ⟨PA, hAB.1, ⟨(show cs + 0 ≤ 600000 by omega), (show ss + 0 ≤ 7302250 by omega)⟩, fun q h1 hp => ?_⟩)
  obtain ⟨v, rfl, PB, hB1, hB2⟩ := hAB.2 q h1 hp
  refine And.intro (x_ixK (k := 1) hL h6 (by decide)) ?_
  refine And.intro (x_ixK (k := 2) hL h6 (by decide)) ?_
  refine ⟨PB, hB1, ⟨(show cs + 0 + 0 ≤ 600000 by omega), (show ss + 0 + 0 ≤ 7302250 by omega)⟩, fun q' h3 hp' => ?_⟩
  obtain ⟨rfl, hI⟩ := hB2 q' h3 hp'
  refine And.intro (fun _ => hk _ _ _ hI (show cs + 0 + 0 ≤ cs + 4 by omega) (show ss + 0 + 0 ≤ ss + 16 by omega)) (fun c => absurd rfl c)
theorem l_case14 {L : Nat} {xs : Nat → Int32} (hL : L ≤ 3072) {Inv : xH → Prop} {i : Nat} {h : xH} {cs ss : Nat} (h6 : i + 6 ≤ L) (hcs : cs ≤ 590000) (hss : ss ≤ 7000000) (h2 : ∀ (a0 : Int32) (a1 : Int32) (a2 : Int32), x_TwoI Inv 111 242 [.int a0, .int a1, .int a2] h) (hk : ∀ (h' : xH) (cs' ss' : Nat), Inv h' → cs' ≤ cs + 4 → ss' ≤ ss + 16 → x_JL L xs 2136 (x_lw i) [] h' cs' ss') : x_JL L xs 749 (x_lw i) [] h cs ss := by
  refine x_wp_okL okL14 [2136] 4 ?_
  refine And.intro (x_ixK (k := 1) hL h6 (by decide)) ?_
  refine And.intro (x_ixK (k := 2) hL h6 (by decide)) ?_
  refine And.intro (x_ixK (k := 3) hL h6 (by decide)) ?_
  refine Exists.elim (h2 _ _ _) (fun PA hAB => ⟨PA, hAB.1, ⟨(show cs + 0 ≤ 600000 by omega), (show ss + 0 ≤ 7302250 by omega)⟩, fun q h1 hp => ?_⟩)
  obtain ⟨v, rfl, PB, hB1, hB2⟩ := hAB.2 q h1 hp
  refine And.intro (x_ixK (k := 1) hL h6 (by decide)) ?_
  refine And.intro (x_ixK (k := 2) hL h6 (by decide)) ?_
  refine And.intro (x_ixK (k := 3) hL h6 (by decide)) ?_
  refine ⟨PB, hB1, ⟨(show cs + 0 + 0 ≤ 600000 by omega), (show ss + 0 + 0 ≤ 7302250 by omega)⟩, fun q' h3 hp' => ?_⟩
  obtain ⟨rfl, hI⟩ := hB2 q' h3 hp'
  refine And.intro (fun _ => hk _ _ _ hI (show cs + 0 + 0 ≤ cs + 4 by omega) (show ss + 0 + 0 ≤ ss + 16 by omega)) (fun c => absurd rfl c)
theorem l_case15 {L : Nat} {xs : Nat → Int32} (hL : L ≤ 3072) {Inv : xH → Prop} {i : Nat} {h : xH} {cs ss : Nat} (h6 : i + 6 ≤ L) (hcs : cs ≤ 590000) (hss : ss ≤ 7000000) (h2 : ∀ (a0 : Int32) (a1 : Int32), x_TwoI Inv 112 243 [.int a0, .int a1] h) (hk : ∀ (h' : xH) (cs' ss' : Nat), Inv h' → cs' ≤ cs + 4 → ss' ≤ ss + 16 → x_JL L xs 2136 (x_lw i) [] h' cs' ss') : x_JL L xs 792 (x_lw i) [] h cs ss := by
  refine x_wp_okL okL15 [2136] 4 ?_
  refine And.intro (x_ixK (k := 1) hL h6 (by decide)) ?_
  refine And.intro (x_ixK (k := 2) hL h6 (by decide)) ?_
  refine Exists.elim (h2 _ _) (fun PA hAB => ⟨PA, hAB.1, ⟨(show cs + 0 ≤ 600000 by omega), (show ss + 0 ≤ 7302250 by omega)⟩, fun q h1 hp => ?_⟩)
  obtain ⟨v, rfl, PB, hB1, hB2⟩ := hAB.2 q h1 hp
  refine And.intro (x_ixK (k := 1) hL h6 (by decide)) ?_
  refine And.intro (x_ixK (k := 2) hL h6 (by decide)) ?_
  refine ⟨PB, hB1, ⟨(show cs + 0 + 0 ≤ 600000 by omega), (show ss + 0 + 0 ≤ 7302250 by omega)⟩, fun q' h3 hp' => ?_⟩
  obtain ⟨rfl, hI⟩ := hB2 q' h3 hp'
  refine And.intro (fun _ => hk _ _ _ hI (show cs + 0 + 0 ≤ cs + 4 by omega) (show ss + 0 + 0 ≤ ss + 16 by omega)) (fun c => absurd rfl c)
theorem l_case16 {L : Nat} {xs : Nat → Int32} (hL : L ≤ 3072) {Inv : xH → Prop} {i : Nat} {h : xH} {cs ss : Nat} (h6 : i + 6 ≤ L) (hcs : cs ≤ 590000) (hss : ss ≤ 7000000) (h2 : ∀ (a0 : Int32), x_TwoI Inv 113 244 [.int a0] h) (hk : ∀ (h' : xH) (cs' ss' : Nat), Inv h' → cs' ≤ cs + 4 → ss' ≤ ss + 16 → x_JL L xs 2136 (x_lw i) [] h' cs' ss') : x_JL L xs 825 (x_lw i) [] h cs ss := by
  refine x_wp_okL okL16 [2136] 4 ?_
  refine And.intro (x_ixK (k := 1) hL h6 (by decide)) ?_
  refine Exists.elim (h2 _) (fun PA hAB => ⟨PA, hAB.1, ⟨(show cs + 0 ≤ 600000 by omega), (show ss + 0 ≤ 7302250 by omega)⟩, fun q h1 hp => ?_⟩)
  obtain ⟨v, rfl, PB, hB1, hB2⟩ := hAB.2 q h1 hp
  refine And.intro (x_ixK (k := 1) hL h6 (by decide)) ?_
  refine ⟨PB, hB1, ⟨(show cs + 0 + 0 ≤ 600000 by omega), (show ss + 0 + 0 ≤ 7302250 by omega)⟩, fun q' h3 hp' => ?_⟩
  obtain ⟨rfl, hI⟩ := hB2 q' h3 hp'
  refine And.intro (fun _ => hk _ _ _ hI (show cs + 0 + 0 ≤ cs + 4 by omega) (show ss + 0 + 0 ≤ ss + 16 by omega)) (fun c => absurd rfl c)
theorem l_case17 {L : Nat} {xs : Nat → Int32} (hL : L ≤ 3072) {Inv : xH → Prop} {i : Nat} {h : xH} {cs ss : Nat} (h6 : i + 6 ≤ L) (hcs : cs ≤ 590000) (hss : ss ≤ 7000000) (h2 : ∀ (a0 : Int32) (a1 : Int32), x_TwoI Inv 114 245 [.int a0, .int a1] h) (hk : ∀ (h' : xH) (cs' ss' : Nat), Inv h' → cs' ≤ cs + 4 → ss' ≤ ss + 16 → x_JL L xs 2136 (x_lw i) [] h' cs' ss') : x_JL L xs 848 (x_lw i) [] h cs ss := by
  refine x_wp_okL okL17 [2136] 4 ?_
  refine And.intro (x_ixK (k := 1) hL h6 (by decide)) ?_
  refine And.intro (x_ixK (k := 2) hL h6 (by decide)) ?_
  refine Exists.elim (h2 _ _) (fun PA hAB => ⟨PA, hAB.1, ⟨(show cs + 0 ≤ 600000 by omega), (show ss + 0 ≤ 7302250 by omega)⟩, fun q h1 hp => ?_⟩)
  obtain ⟨v, rfl, PB, hB1, hB2⟩ := hAB.2 q h1 hp
  refine And.intro (x_ixK (k := 1) hL h6 (by decide)) ?_
  refine And.intro (x_ixK (k := 2) hL h6 (by decide)) ?_
  refine ⟨PB, hB1, ⟨(show cs + 0 + 0 ≤ 600000 by omega), (show ss + 0 + 0 ≤ 7302250 by omega)⟩, fun q' h3 hp' => ?_⟩
  obtain ⟨rfl, hI⟩ := hB2 q' h3 hp'
  refine And.intro (fun _ => hk _ _ _ hI (show cs + 0 + 0 ≤ cs + 4 by omega) (show ss + 0 + 0 ≤ ss + 16 by omega)) (fun c => absurd rfl c)
theorem l_case18 {L : Nat} {xs : Nat → Int32} (hL : L ≤ 3072) {Inv : xH → Prop} {i : Nat} {h : xH} {cs ss : Nat} (h6 : i + 6 ≤ L) (hcs : cs ≤ 590000) (hss : ss ≤ 7000000) (h2 : x_TwoI Inv 115 246 [] h) (hk : ∀ (h' : xH) (cs' ss' : Nat), Inv h' → cs' ≤ cs + 4 → ss' ≤ ss + 16 → x_JL L xs 2136 (x_lw i) [] h' cs' ss') : x_JL L xs 881 (x_lw i) [] h cs ss := by
  refine x_wp_okL okL18 [2136] 4 ?_
  refine Exists.elim (h2) (fun PA hAB => ⟨PA, hAB.1, ⟨(show cs + 0 ≤ 600000 by omega), (show ss + 0 ≤ 7302250 by omega)⟩, fun q h1 hp => ?_⟩)
  obtain ⟨v, rfl, PB, hB1, hB2⟩ := hAB.2 q h1 hp
  refine ⟨PB, hB1, ⟨(show cs + 0 + 0 ≤ 600000 by omega), (show ss + 0 + 0 ≤ 7302250 by omega)⟩, fun q' h3 hp' => ?_⟩
  obtain ⟨rfl, hI⟩ := hB2 q' h3 hp'
  refine And.intro (fun _ => hk _ _ _ hI (show cs + 0 + 0 ≤ cs + 4 by omega) (show ss + 0 + 0 ≤ ss + 16 by omega)) (fun c => absurd rfl c)
theorem l_case19 {L : Nat} {xs : Nat → Int32} (hL : L ≤ 3072) {Inv : xH → Prop} {i : Nat} {h : xH} {cs ss : Nat} (h6 : i + 6 ≤ L) (hcs : cs ≤ 590000) (hss : ss ≤ 7000000) (h2 : ∀ (a0 : Int32) (a1 : Int32) (a2 : Int32), x_TwoI Inv 116 252 [.int a0, .int a1, .int a2] h) (hk : ∀ (h' : xH) (cs' ss' : Nat), Inv h' → cs' ≤ cs + 4 → ss' ≤ ss + 16 → x_JL L xs 2136 (x_lw i) [] h' cs' ss') : x_JL L xs 894 (x_lw i) [] h cs ss := by
  refine x_wp_okL okL19 [2136] 4 ?_
  refine And.intro (x_ixK (k := 1) hL h6 (by decide)) ?_
  refine And.intro (x_ixK (k := 2) hL h6 (by decide)) ?_
  refine And.intro (x_ixK (k := 3) hL h6 (by decide)) ?_
  refine Exists.elim (h2 _ _ _) (fun PA hAB => ⟨PA, hAB.1, ⟨(show cs + 0 ≤ 600000 by omega), (show ss + 0 ≤ 7302250 by omega)⟩, fun q h1 hp => ?_⟩)
  obtain ⟨v, rfl, PB, hB1, hB2⟩ := hAB.2 q h1 hp
  refine And.intro (x_ixK (k := 1) hL h6 (by decide)) ?_
  refine And.intro (x_ixK (k := 2) hL h6 (by decide)) ?_
  refine And.intro (x_ixK (k := 3) hL h6 (by decide)) ?_
  refine ⟨PB, hB1, ⟨(show cs + 0 + 0 ≤ 600000 by omega), (show ss + 0 + 0 ≤ 7302250 by omega)⟩, fun q' h3 hp' => ?_⟩
  obtain ⟨rfl, hI⟩ := hB2 q' h3 hp'
  refine And.intro (fun _ => hk _ _ _ hI (show cs + 0 + 0 ≤ cs + 4 by omega) (show ss + 0 + 0 ≤ ss + 16 by omega)) (fun c => absurd rfl c)
theorem l_case20 {L : Nat} {xs : Nat → Int32} (hL : L ≤ 3072) {Inv : xH → Prop} {i : Nat} {h : xH} {cs ss : Nat} (h6 : i + 6 ≤ L) (hcs : cs ≤ 590000) (hss : ss ≤ 7000000) (h2 : ∀ (a0 : Int32) (a1 : Int32) (a2 : Int32), x_TwoI Inv 117 254 [.int a0, .int a1, .int a2] h) (hk : ∀ (h' : xH) (cs' ss' : Nat), Inv h' → cs' ≤ cs + 4 → ss' ≤ ss + 16 → x_JL L xs 2136 (x_lw i) [] h' cs' ss') : x_JL L xs 937 (x_lw i) [] h cs ss := by
  refine x_wp_okL okL20 [2136] 4 ?_
  refine And.intro (x_ixK (k := 1) hL h6 (by decide)) ?_
  refine And.intro (x_ixK (k := 2) hL h6 (by decide)) ?_
  refine And.intro (x_ixK (k := 3) hL h6 (by decide)) ?_
  refine Exists.elim (h2 _ _ _) (fun PA hAB => ⟨PA, hAB.1, ⟨(show cs + 0 ≤ 600000 by omega), (show ss + 0 ≤ 7302250 by omega)⟩, fun q h1 hp => ?_⟩)
  obtain ⟨v, rfl, PB, hB1, hB2⟩ := hAB.2 q h1 hp
  refine And.intro (x_ixK (k := 1) hL h6 (by decide)) ?_
  refine And.intro (x_ixK (k := 2) hL h6 (by decide)) ?_
  refine And.intro (x_ixK (k := 3) hL h6 (by decide)) ?_
  refine ⟨PB, hB1, ⟨(show cs + 0 + 0 ≤ 600000 by omega), (show ss + 0 + 0 ≤ 7302250 by omega)⟩, fun q' h3 hp' => ?_⟩
  obtain ⟨rfl, hI⟩ := hB2 q' h3 hp'
  refine And.intro (fun _ => hk _ _ _ hI (show cs + 0 + 0 ≤ cs + 4 by omega) (show ss + 0 + 0 ≤ ss + 16 by omega)) (fun c => absurd rfl c)
theorem l_case21 {L : Nat} {xs : Nat → Int32} (hL : L ≤ 3072) {Inv : xH → Prop} {i : Nat} {h : xH} {cs ss : Nat} (h6 : i + 6 ≤ L) (hcs : cs ≤ 590000) (hss : ss ≤ 7000000) (h2 : ∀ (a0 : Int32) (a1 : Int32) (a2 : Int32), x_TwoI Inv 118 256 [.int a0, .int a1, .int a2] h) (hk : ∀ (h' : xH) (cs' ss' : Nat), Inv h' → cs' ≤ cs + 4 → ss' ≤ ss + 16 → x_JL L xs 2136 (x_lw i) [] h' cs' ss') : x_JL L xs 980 (x_lw i) [] h cs ss := by
  refine x_wp_okL okL21 [2136] 4 ?_
  refine And.intro (x_ixK (k := 1) hL h6 (by decide)) ?_
  refine And.intro (x_ixK (k := 2) hL h6 (by decide)) ?_
  refine And.intro (x_ixK (k := 3) hL h6 (by decide)) ?_
  refine Exists.elim (h2 _ _ _) (fun PA hAB => ⟨PA, hAB.1, ⟨(show cs + 0 ≤ 600000 by omega), (show ss + 0 ≤ 7302250 by omega)⟩, fun q h1 hp => ?_⟩)
  obtain ⟨v, rfl, PB, hB1, hB2⟩ := hAB.2 q h1 hp
  refine And.intro (x_ixK (k := 1) hL h6 (by decide)) ?_
  refine And.intro (x_ixK (k := 2) hL h6 (by decide)) ?_
  refine And.intro (x_ixK (k := 3) hL h6 (by decide)) ?_
  refine ⟨PB, hB1, ⟨(show cs + 0 + 0 ≤ 600000 by omega), (show ss + 0 + 0 ≤ 7302250 by omega)⟩, fun q' h3 hp' => ?_⟩
  obtain ⟨rfl, hI⟩ := hB2 q' h3 hp'
  refine And.intro (fun _ => hk _ _ _ hI (show cs + 0 + 0 ≤ cs + 4 by omega) (show ss + 0 + 0 ≤ ss + 16 by omega)) (fun c => absurd rfl c)
theorem l_case22 {L : Nat} {xs : Nat → Int32} (hL : L ≤ 3072) {Inv : xH → Prop} {i : Nat} {h : xH} {cs ss : Nat} (h6 : i + 6 ≤ L) (hcs : cs ≤ 590000) (hss : ss ≤ 7000000) (h2 : ∀ (a0 : Int32) (a1 : Int32) (a2 : Int32), x_TwoI Inv 119 258 [.int a0, .int a1, .int a2] h) (hk : ∀ (h' : xH) (cs' ss' : Nat), Inv h' → cs' ≤ cs + 4 → ss' ≤ ss + 16 → x_JL L xs 2136 (x_lw i) [] h' cs' ss') : x_JL L xs 1023 (x_lw i) [] h cs ss := by
  refine x_wp_okL okL22 [2136] 4 ?_
  refine And.intro (x_ixK (k := 1) hL h6 (by decide)) ?_
  refine And.intro (x_ixK (k := 2) hL h6 (by decide)) ?_
  refine And.intro (x_ixK (k := 3) hL h6 (by decide)) ?_
  refine Exists.elim (h2 _ _ _) (fun PA hAB => ⟨PA, hAB.1, ⟨(show cs + 0 ≤ 600000 by omega), (show ss + 0 ≤ 7302250 by omega)⟩, fun q h1 hp => ?_⟩)
  obtain ⟨v, rfl, PB, hB1, hB2⟩ := hAB.2 q h1 hp
  refine And.intro (x_ixK (k := 1) hL h6 (by decide)) ?_
  refine And.intro (x_ixK (k := 2) hL h6 (by decide)) ?_
  refine And.intro (x_ixK (k := 3) hL h6 (by decide)) ?_
  refine ⟨PB, hB1, ⟨(show cs + 0 + 0 ≤ 600000 by omega), (show ss + 0 + 0 ≤ 7302250 by omega)⟩, fun q' h3 hp' => ?_⟩
  obtain ⟨rfl, hI⟩ := hB2 q' h3 hp'
  refine And.intro (fun _ => hk _ _ _ hI (show cs + 0 + 0 ≤ cs + 4 by omega) (show ss + 0 + 0 ≤ ss + 16 by omega)) (fun c => absurd rfl c)
theorem l_case23 {L : Nat} {xs : Nat → Int32} (hL : L ≤ 3072) {Inv : xH → Prop} {i : Nat} {h : xH} {cs ss : Nat} (h6 : i + 6 ≤ L) (hcs : cs ≤ 590000) (hss : ss ≤ 7000000) (h2 : ∀ (a0 : Int32) (a1 : Int32) (a2 : Int32), x_TwoI Inv 120 261 [.int a0, .int a1, .int a2] h) (hk : ∀ (h' : xH) (cs' ss' : Nat), Inv h' → cs' ≤ cs + 4 → ss' ≤ ss + 16 → x_JL L xs 2136 (x_lw i) [] h' cs' ss') : x_JL L xs 1066 (x_lw i) [] h cs ss := by
  refine x_wp_okL okL23 [2136] 4 ?_
  refine And.intro (x_ixK (k := 1) hL h6 (by decide)) ?_
  refine And.intro (x_ixK (k := 2) hL h6 (by decide)) ?_
  refine And.intro (x_ixK (k := 3) hL h6 (by decide)) ?_
  refine Exists.elim (h2 _ _ _) (fun PA hAB => ⟨PA, hAB.1, ⟨(show cs + 0 ≤ 600000 by omega), (show ss + 0 ≤ 7302250 by omega)⟩, fun q h1 hp => ?_⟩)
  obtain ⟨v, rfl, PB, hB1, hB2⟩ := hAB.2 q h1 hp
  refine And.intro (x_ixK (k := 1) hL h6 (by decide)) ?_
  refine And.intro (x_ixK (k := 2) hL h6 (by decide)) ?_
  refine And.intro (x_ixK (k := 3) hL h6 (by decide)) ?_
  refine ⟨PB, hB1, ⟨(show cs + 0 + 0 ≤ 600000 by omega), (show ss + 0 + 0 ≤ 7302250 by omega)⟩, fun q' h3 hp' => ?_⟩
  obtain ⟨rfl, hI⟩ := hB2 q' h3 hp'
  refine And.intro (fun _ => hk _ _ _ hI (show cs + 0 + 0 ≤ cs + 4 by omega) (show ss + 0 + 0 ≤ ss + 16 by omega)) (fun c => absurd rfl c)
theorem l_case24 {L : Nat} {xs : Nat → Int32} (hL : L ≤ 3072) {Inv : xH → Prop} {i : Nat} {h : xH} {cs ss : Nat} (h6 : i + 6 ≤ L) (hcs : cs ≤ 590000) (hss : ss ≤ 7000000) (h2 : ∀ (a0 : Int32) (a1 : Int32) (a2 : Int32) (a3 : Int32), x_TwoI Inv 121 262 [.int a0, .int a1, .int a2, .int a3] h) (hk : ∀ (h' : xH) (cs' ss' : Nat), Inv h' → cs' ≤ cs + 4 → ss' ≤ ss + 16 → x_JL L xs 2136 (x_lw i) [] h' cs' ss') : x_JL L xs 1109 (x_lw i) [] h cs ss := by
  refine x_wp_okL okL24 [2136] 4 ?_
  refine And.intro (x_ixK (k := 1) hL h6 (by decide)) ?_
  refine And.intro (x_ixK (k := 2) hL h6 (by decide)) ?_
  refine And.intro (x_ixK (k := 3) hL h6 (by decide)) ?_
  refine And.intro (x_ixK (k := 4) hL h6 (by decide)) ?_
  refine Exists.elim (h2 _ _ _ _) (fun PA hAB => ⟨PA, hAB.1, ⟨(show cs + 0 ≤ 600000 by omega), (show ss + 0 ≤ 7302250 by omega)⟩, fun q h1 hp => ?_⟩)
  obtain ⟨v, rfl, PB, hB1, hB2⟩ := hAB.2 q h1 hp
  refine And.intro (x_ixK (k := 1) hL h6 (by decide)) ?_
  refine And.intro (x_ixK (k := 2) hL h6 (by decide)) ?_
  refine And.intro (x_ixK (k := 3) hL h6 (by decide)) ?_
  refine And.intro (x_ixK (k := 4) hL h6 (by decide)) ?_
  refine ⟨PB, hB1, ⟨(show cs + 0 + 0 ≤ 600000 by omega), (show ss + 0 + 0 ≤ 7302250 by omega)⟩, fun q' h3 hp' => ?_⟩
  obtain ⟨rfl, hI⟩ := hB2 q' h3 hp'
  refine And.intro (fun _ => hk _ _ _ hI (show cs + 0 + 0 ≤ cs + 4 by omega) (show ss + 0 + 0 ≤ ss + 16 by omega)) (fun c => absurd rfl c)
theorem l_case25 {L : Nat} {xs : Nat → Int32} (hL : L ≤ 3072) {Inv : xH → Prop} {i : Nat} {h : xH} {cs ss : Nat} (h6 : i + 6 ≤ L) (hcs : cs ≤ 590000) (hss : ss ≤ 7000000) (h2 : ∀ (a0 : Int32) (a1 : Int32) (a2 : Int32), x_TwoI Inv 122 263 [.int a0, .int a1, .int a2] h) (hk : ∀ (h' : xH) (cs' ss' : Nat), Inv h' → cs' ≤ cs + 4 → ss' ≤ ss + 16 → x_JL L xs 2136 (x_lw i) [] h' cs' ss') : x_JL L xs 1162 (x_lw i) [] h cs ss := by
  refine x_wp_okL okL25 [2136] 4 ?_
  refine And.intro (x_ixK (k := 1) hL h6 (by decide)) ?_
  refine And.intro (x_ixK (k := 2) hL h6 (by decide)) ?_
  refine And.intro (x_ixK (k := 3) hL h6 (by decide)) ?_
  refine Exists.elim (h2 _ _ _) (fun PA hAB => ⟨PA, hAB.1, ⟨(show cs + 0 ≤ 600000 by omega), (show ss + 0 ≤ 7302250 by omega)⟩, fun q h1 hp => ?_⟩)
  obtain ⟨v, rfl, PB, hB1, hB2⟩ := hAB.2 q h1 hp
  refine And.intro (x_ixK (k := 1) hL h6 (by decide)) ?_
  refine And.intro (x_ixK (k := 2) hL h6 (by decide)) ?_
  refine And.intro (x_ixK (k := 3) hL h6 (by decide)) ?_
  refine ⟨PB, hB1, ⟨(show cs + 0 + 0 ≤ 600000 by omega), (show ss + 0 + 0 ≤ 7302250 by omega)⟩, fun q' h3 hp' => ?_⟩
  obtain ⟨rfl, hI⟩ := hB2 q' h3 hp'
  refine And.intro (fun _ => hk _ _ _ hI (show cs + 0 + 0 ≤ cs + 4 by omega) (show ss + 0 + 0 ≤ ss + 16 by omega)) (fun c => absurd rfl c)
theorem l_case26 {L : Nat} {xs : Nat → Int32} (hL : L ≤ 3072) {Inv : xH → Prop} {i : Nat} {h : xH} {cs ss : Nat} (h6 : i + 6 ≤ L) (hcs : cs ≤ 590000) (hss : ss ≤ 7000000) (h2 : ∀ (a0 : Int32) (a1 : Int32) (a2 : Int32), x_TwoI Inv 123 264 [.int a0, .int a1, .int a2] h) (hk : ∀ (h' : xH) (cs' ss' : Nat), Inv h' → cs' ≤ cs + 4 → ss' ≤ ss + 16 → x_JL L xs 2136 (x_lw i) [] h' cs' ss') : x_JL L xs 1205 (x_lw i) [] h cs ss := by
  refine x_wp_okL okL26 [2136] 4 ?_
  refine And.intro (x_ixK (k := 1) hL h6 (by decide)) ?_
  refine And.intro (x_ixK (k := 2) hL h6 (by decide)) ?_
  refine And.intro (x_ixK (k := 3) hL h6 (by decide)) ?_
  refine Exists.elim (h2 _ _ _) (fun PA hAB => ⟨PA, hAB.1, ⟨(show cs + 0 ≤ 600000 by omega), (show ss + 0 ≤ 7302250 by omega)⟩, fun q h1 hp => ?_⟩)
  obtain ⟨v, rfl, PB, hB1, hB2⟩ := hAB.2 q h1 hp
  refine And.intro (x_ixK (k := 1) hL h6 (by decide)) ?_
  refine And.intro (x_ixK (k := 2) hL h6 (by decide)) ?_
  refine And.intro (x_ixK (k := 3) hL h6 (by decide)) ?_
  refine ⟨PB, hB1, ⟨(show cs + 0 + 0 ≤ 600000 by omega), (show ss + 0 + 0 ≤ 7302250 by omega)⟩, fun q' h3 hp' => ?_⟩
  obtain ⟨rfl, hI⟩ := hB2 q' h3 hp'
  refine And.intro (fun _ => hk _ _ _ hI (show cs + 0 + 0 ≤ cs + 4 by omega) (show ss + 0 + 0 ≤ ss + 16 by omega)) (fun c => absurd rfl c)
theorem l_case27 {L : Nat} {xs : Nat → Int32} (hL : L ≤ 3072) {Inv : xH → Prop} {i : Nat} {h : xH} {cs ss : Nat} (h6 : i + 6 ≤ L) (hcs : cs ≤ 590000) (hss : ss ≤ 7000000) (h2 : ∀ (a0 : Int32), x_TwoI Inv 124 268 [.int a0] h) (hk : ∀ (h' : xH) (cs' ss' : Nat), Inv h' → cs' ≤ cs + 4 → ss' ≤ ss + 16 → x_JL L xs 2136 (x_lw i) [] h' cs' ss') : x_JL L xs 1248 (x_lw i) [] h cs ss := by
  refine x_wp_okL okL27 [2136] 4 ?_
  refine And.intro (x_ixK (k := 1) hL h6 (by decide)) ?_
  refine Exists.elim (h2 _) (fun PA hAB => ⟨PA, hAB.1, ⟨(show cs + 0 ≤ 600000 by omega), (show ss + 0 ≤ 7302250 by omega)⟩, fun q h1 hp => ?_⟩)
  obtain ⟨v, rfl, PB, hB1, hB2⟩ := hAB.2 q h1 hp
  refine And.intro (x_ixK (k := 1) hL h6 (by decide)) ?_
  refine ⟨PB, hB1, ⟨(show cs + 0 + 0 ≤ 600000 by omega), (show ss + 0 + 0 ≤ 7302250 by omega)⟩, fun q' h3 hp' => ?_⟩
  obtain ⟨rfl, hI⟩ := hB2 q' h3 hp'
  refine And.intro (fun _ => hk _ _ _ hI (show cs + 0 + 0 ≤ cs + 4 by omega) (show ss + 0 + 0 ≤ ss + 16 by omega)) (fun c => absurd rfl c)
theorem l_case28 {L : Nat} {xs : Nat → Int32} (hL : L ≤ 3072) {Inv : xH → Prop} {i : Nat} {h : xH} {cs ss : Nat} (h6 : i + 6 ≤ L) (hcs : cs ≤ 590000) (hss : ss ≤ 7000000) (h2 : ∀ (a0 : Int32), x_TwoI Inv 125 270 [.int a0] h) (hk : ∀ (h' : xH) (cs' ss' : Nat), Inv h' → cs' ≤ cs + 4 → ss' ≤ ss + 16 → x_JL L xs 2136 (x_lw i) [] h' cs' ss') : x_JL L xs 1271 (x_lw i) [] h cs ss := by
  refine x_wp_okL okL28 [2136] 4 ?_
  refine And.intro (x_ixK (k := 1) hL h6 (by decide)) ?_
  refine Exists.elim (h2 _) (fun PA hAB => ⟨PA, hAB.1, ⟨(show cs + 0 ≤ 600000 by omega), (show ss + 0 ≤ 7302250 by omega)⟩, fun q h1 hp => ?_⟩)
  obtain ⟨v, rfl, PB, hB1, hB2⟩ := hAB.2 q h1 hp
  refine And.intro (x_ixK (k := 1) hL h6 (by decide)) ?_
  refine ⟨PB, hB1, ⟨(show cs + 0 + 0 ≤ 600000 by omega), (show ss + 0 + 0 ≤ 7302250 by omega)⟩, fun q' h3 hp' => ?_⟩
  obtain ⟨rfl, hI⟩ := hB2 q' h3 hp'
  refine And.intro (fun _ => hk _ _ _ hI (show cs + 0 + 0 ≤ cs + 4 by omega) (show ss + 0 + 0 ≤ ss + 16 by omega)) (fun c => absurd rfl c)
theorem l_case29 {L : Nat} {xs : Nat → Int32} (hL : L ≤ 3072) {Inv : xH → Prop} {i : Nat} {h : xH} {cs ss : Nat} (h6 : i + 6 ≤ L) (hcs : cs ≤ 590000) (hss : ss ≤ 7000000) (h2 : ∀ (a0 : Int32) (a1 : Int32), x_TwoI Inv 126 271 [.int a0, .int a1] h) (hk : ∀ (h' : xH) (cs' ss' : Nat), Inv h' → cs' ≤ cs + 4 → ss' ≤ ss + 16 → x_JL L xs 2136 (x_lw i) [] h' cs' ss') : x_JL L xs 1294 (x_lw i) [] h cs ss := by
  refine x_wp_okL okL29 [2136] 4 ?_
  refine And.intro (x_ixK (k := 1) hL h6 (by decide)) ?_
  refine And.intro (x_ixK (k := 2) hL h6 (by decide)) ?_
  refine Exists.elim (h2 _ _) (fun PA hAB => ⟨PA, hAB.1, ⟨(show cs + 0 ≤ 600000 by omega), (show ss + 0 ≤ 7302250 by omega)⟩, fun q h1 hp => ?_⟩)
  obtain ⟨v, rfl, PB, hB1, hB2⟩ := hAB.2 q h1 hp
  refine And.intro (x_ixK (k := 1) hL h6 (by decide)) ?_
  refine And.intro (x_ixK (k := 2) hL h6 (by decide)) ?_
  refine ⟨PB, hB1, ⟨(show cs + 0 + 0 ≤ 600000 by omega), (show ss + 0 + 0 ≤ 7302250 by omega)⟩, fun q' h3 hp' => ?_⟩
  obtain ⟨rfl, hI⟩ := hB2 q' h3 hp'
  refine And.intro (fun _ => hk _ _ _ hI (show cs + 0 + 0 ≤ cs + 4 by omega) (show ss + 0 + 0 ≤ ss + 16 by omega)) (fun c => absurd rfl c)
theorem l_case30 {L : Nat} {xs : Nat → Int32} (hL : L ≤ 3072) {Inv : xH → Prop} {i : Nat} {h : xH} {cs ss : Nat} (h6 : i + 6 ≤ L) (hcs : cs ≤ 590000) (hss : ss ≤ 7000000) (h2 : ∀ (a0 : Int32) (a1 : Int32), x_TwoI Inv 127 272 [.int a0, .int a1] h) (hk : ∀ (h' : xH) (cs' ss' : Nat), Inv h' → cs' ≤ cs + 4 → ss' ≤ ss + 16 → x_JL L xs 2136 (x_lw i) [] h' cs' ss') : x_JL L xs 1327 (x_lw i) [] h cs ss := by
  refine x_wp_okL okL30 [2136] 4 ?_
  refine And.intro (x_ixK (k := 1) hL h6 (by decide)) ?_
  refine And.intro (x_ixK (k := 2) hL h6 (by decide)) ?_
  refine Exists.elim (h2 _ _) (fun PA hAB => ⟨PA, hAB.1, ⟨(show cs + 0 ≤ 600000 by omega), (show ss + 0 ≤ 7302250 by omega)⟩, fun q h1 hp => ?_⟩)
  obtain ⟨v, rfl, PB, hB1, hB2⟩ := hAB.2 q h1 hp
  refine And.intro (x_ixK (k := 1) hL h6 (by decide)) ?_
  refine And.intro (x_ixK (k := 2) hL h6 (by decide)) ?_
  refine ⟨PB, hB1, ⟨(show cs + 0 + 0 ≤ 600000 by omega), (show ss + 0 + 0 ≤ 7302250 by omega)⟩, fun q' h3 hp' => ?_⟩
  obtain ⟨rfl, hI⟩ := hB2 q' h3 hp'
  refine And.intro (fun _ => hk _ _ _ hI (show cs + 0 + 0 ≤ cs + 4 by omega) (show ss + 0 + 0 ≤ ss + 16 by omega)) (fun c => absurd rfl c)
theorem l_case31 {L : Nat} {xs : Nat → Int32} (hL : L ≤ 3072) {Inv : xH → Prop} {i : Nat} {h : xH} {cs ss : Nat} (h6 : i + 6 ≤ L) (hcs : cs ≤ 590000) (hss : ss ≤ 7000000) (h2 : x_TwoI Inv 128 273 [] h) (hk : ∀ (h' : xH) (cs' ss' : Nat), Inv h' → cs' ≤ cs + 4 → ss' ≤ ss + 16 → x_JL L xs 2136 (x_lw i) [] h' cs' ss') : x_JL L xs 1360 (x_lw i) [] h cs ss := by
  refine x_wp_okL okL31 [2136] 4 ?_
  refine Exists.elim (h2) (fun PA hAB => ⟨PA, hAB.1, ⟨(show cs + 0 ≤ 600000 by omega), (show ss + 0 ≤ 7302250 by omega)⟩, fun q h1 hp => ?_⟩)
  obtain ⟨v, rfl, PB, hB1, hB2⟩ := hAB.2 q h1 hp
  refine ⟨PB, hB1, ⟨(show cs + 0 + 0 ≤ 600000 by omega), (show ss + 0 + 0 ≤ 7302250 by omega)⟩, fun q' h3 hp' => ?_⟩
  obtain ⟨rfl, hI⟩ := hB2 q' h3 hp'
  refine And.intro (fun _ => hk _ _ _ hI (show cs + 0 + 0 ≤ cs + 4 by omega) (show ss + 0 + 0 ≤ ss + 16 by omega)) (fun c => absurd rfl c)
theorem l_case32 {L : Nat} {xs : Nat → Int32} (hL : L ≤ 3072) {Inv : xH → Prop} {i : Nat} {h : xH} {cs ss : Nat} (h6 : i + 6 ≤ L) (hcs : cs ≤ 590000) (hss : ss ≤ 7000000) (h2 : ∀ (a0 : Int32), x_TwoI Inv 129 275 [.int a0] h) (hk : ∀ (h' : xH) (cs' ss' : Nat), Inv h' → cs' ≤ cs + 4 → ss' ≤ ss + 16 → x_JL L xs 2136 (x_lw i) [] h' cs' ss') : x_JL L xs 1373 (x_lw i) [] h cs ss := by
  refine x_wp_okL okL32 [2136] 4 ?_
  refine And.intro (x_ixK (k := 1) hL h6 (by decide)) ?_
  refine Exists.elim (h2 _) (fun PA hAB => ⟨PA, hAB.1, ⟨(show cs + 0 ≤ 600000 by omega), (show ss + 0 ≤ 7302250 by omega)⟩, fun q h1 hp => ?_⟩)
  obtain ⟨v, rfl, PB, hB1, hB2⟩ := hAB.2 q h1 hp
  refine And.intro (x_ixK (k := 1) hL h6 (by decide)) ?_
  refine ⟨PB, hB1, ⟨(show cs + 0 + 0 ≤ 600000 by omega), (show ss + 0 + 0 ≤ 7302250 by omega)⟩, fun q' h3 hp' => ?_⟩
  obtain ⟨rfl, hI⟩ := hB2 q' h3 hp'
  refine And.intro (fun _ => hk _ _ _ hI (show cs + 0 + 0 ≤ cs + 4 by omega) (show ss + 0 + 0 ≤ ss + 16 by omega)) (fun c => absurd rfl c)
theorem l_case33 {L : Nat} {xs : Nat → Int32} (hL : L ≤ 3072) {Inv : xH → Prop} {i : Nat} {h : xH} {cs ss : Nat} (h6 : i + 6 ≤ L) (hcs : cs ≤ 590000) (hss : ss ≤ 7000000) (h2 : ∀ (a0 : Int32), x_TwoI Inv 130 276 [.int a0] h) (hk : ∀ (h' : xH) (cs' ss' : Nat), Inv h' → cs' ≤ cs + 4 → ss' ≤ ss + 16 → x_JL L xs 2136 (x_lw i) [] h' cs' ss') : x_JL L xs 1396 (x_lw i) [] h cs ss := by
  refine x_wp_okL okL33 [2136] 4 ?_
  refine And.intro (x_ixK (k := 1) hL h6 (by decide)) ?_
  refine Exists.elim (h2 _) (fun PA hAB => ⟨PA, hAB.1, ⟨(show cs + 0 ≤ 600000 by omega), (show ss + 0 ≤ 7302250 by omega)⟩, fun q h1 hp => ?_⟩)
  obtain ⟨v, rfl, PB, hB1, hB2⟩ := hAB.2 q h1 hp
  refine And.intro (x_ixK (k := 1) hL h6 (by decide)) ?_
  refine ⟨PB, hB1, ⟨(show cs + 0 + 0 ≤ 600000 by omega), (show ss + 0 + 0 ≤ 7302250 by omega)⟩, fun q' h3 hp' => ?_⟩
  obtain ⟨rfl, hI⟩ := hB2 q' h3 hp'
  refine And.intro (fun _ => hk _ _ _ hI (show cs + 0 + 0 ≤ cs + 4 by omega) (show ss + 0 + 0 ≤ ss + 16 by omega)) (fun c => absurd rfl c)
theorem l_case34 {L : Nat} {xs : Nat → Int32} (hL : L ≤ 3072) {Inv : xH → Prop} {i : Nat} {h : xH} {cs ss : Nat} (h6 : i + 6 ≤ L) (hcs : cs ≤ 590000) (hss : ss ≤ 7000000) (h2 : ∀ (a0 : Int32) (a1 : Int32), x_TwoI Inv 131 278 [.int a0, .int a1] h) (hk : ∀ (h' : xH) (cs' ss' : Nat), Inv h' → cs' ≤ cs + 4 → ss' ≤ ss + 16 → x_JL L xs 2136 (x_lw i) [] h' cs' ss') : x_JL L xs 1419 (x_lw i) [] h cs ss := by
  refine x_wp_okL okL34 [2136] 4 ?_
  refine And.intro (x_ixK (k := 1) hL h6 (by decide)) ?_
  refine And.intro (x_ixK (k := 2) hL h6 (by decide)) ?_
  refine Exists.elim (h2 _ _) (fun PA hAB => ⟨PA, hAB.1, ⟨(show cs + 0 ≤ 600000 by omega), (show ss + 0 ≤ 7302250 by omega)⟩, fun q h1 hp => ?_⟩)
  obtain ⟨v, rfl, PB, hB1, hB2⟩ := hAB.2 q h1 hp
  refine And.intro (x_ixK (k := 1) hL h6 (by decide)) ?_
  refine And.intro (x_ixK (k := 2) hL h6 (by decide)) ?_
  refine ⟨PB, hB1, ⟨(show cs + 0 + 0 ≤ 600000 by omega), (show ss + 0 + 0 ≤ 7302250 by omega)⟩, fun q' h3 hp' => ?_⟩
  obtain ⟨rfl, hI⟩ := hB2 q' h3 hp'
  refine And.intro (fun _ => hk _ _ _ hI (show cs + 0 + 0 ≤ cs + 4 by omega) (show ss + 0 + 0 ≤ ss + 16 by omega)) (fun c => absurd rfl c)
theorem l_case35 {L : Nat} {xs : Nat → Int32} (hL : L ≤ 3072) {Inv : xH → Prop} {i : Nat} {h : xH} {cs ss : Nat} (h6 : i + 6 ≤ L) (hcs : cs ≤ 590000) (hss : ss ≤ 7000000) (h2 : ∀ (a0 : Int32) (a1 : Int32) (a2 : Int32), x_TwoI Inv 132 279 [.int a0, .int a1, .int a2] h) (hk : ∀ (h' : xH) (cs' ss' : Nat), Inv h' → cs' ≤ cs + 4 → ss' ≤ ss + 16 → x_JL L xs 2136 (x_lw i) [] h' cs' ss') : x_JL L xs 1452 (x_lw i) [] h cs ss := by
  refine x_wp_okL okL35 [2136] 4 ?_
  refine And.intro (x_ixK (k := 1) hL h6 (by decide)) ?_
  refine And.intro (x_ixK (k := 2) hL h6 (by decide)) ?_
  refine And.intro (x_ixK (k := 3) hL h6 (by decide)) ?_
  refine Exists.elim (h2 _ _ _) (fun PA hAB => ⟨PA, hAB.1, ⟨(show cs + 0 ≤ 600000 by omega), (show ss + 0 ≤ 7302250 by omega)⟩, fun q h1 hp => ?_⟩)
  obtain ⟨v, rfl, PB, hB1, hB2⟩ := hAB.2 q h1 hp
  refine And.intro (x_ixK (k := 1) hL h6 (by decide)) ?_
  refine And.intro (x_ixK (k := 2) hL h6 (by decide)) ?_
  refine And.intro (x_ixK (k := 3) hL h6 (by decide)) ?_
  refine ⟨PB, hB1, ⟨(show cs + 0 + 0 ≤ 600000 by omega), (show ss + 0 + 0 ≤ 7302250 by omega)⟩, fun q' h3 hp' => ?_⟩
  obtain ⟨rfl, hI⟩ := hB2 q' h3 hp'
  refine And.intro (fun _ => hk _ _ _ hI (show cs + 0 + 0 ≤ cs + 4 by omega) (show ss + 0 + 0 ≤ ss + 16 by omega)) (fun c => absurd rfl c)
theorem l_case36 {L : Nat} {xs : Nat → Int32} (hL : L ≤ 3072) {Inv : xH → Prop} {i : Nat} {h : xH} {cs ss : Nat} (h6 : i + 6 ≤ L) (hcs : cs ≤ 590000) (hss : ss ≤ 7000000) (h2 : ∀ (a0 : Int32), x_TwoI Inv 133 280 [.int a0] h) (hk : ∀ (h' : xH) (cs' ss' : Nat), Inv h' → cs' ≤ cs + 4 → ss' ≤ ss + 16 → x_JL L xs 2136 (x_lw i) [] h' cs' ss') : x_JL L xs 1495 (x_lw i) [] h cs ss := by
  refine x_wp_okL okL36 [2136] 4 ?_
  refine And.intro (x_ixK (k := 1) hL h6 (by decide)) ?_
  refine Exists.elim (h2 _) (fun PA hAB => ⟨PA, hAB.1, ⟨(show cs + 0 ≤ 600000 by omega), (show ss + 0 ≤ 7302250 by omega)⟩, fun q h1 hp => ?_⟩)
  obtain ⟨v, rfl, PB, hB1, hB2⟩ := hAB.2 q h1 hp
  refine And.intro (x_ixK (k := 1) hL h6 (by decide)) ?_
  refine ⟨PB, hB1, ⟨(show cs + 0 + 0 ≤ 600000 by omega), (show ss + 0 + 0 ≤ 7302250 by omega)⟩, fun q' h3 hp' => ?_⟩
  obtain ⟨rfl, hI⟩ := hB2 q' h3 hp'
  refine And.intro (fun _ => hk _ _ _ hI (show cs + 0 + 0 ≤ cs + 4 by omega) (show ss + 0 + 0 ≤ ss + 16 by omega)) (fun c => absurd rfl c)
theorem l_case37 {L : Nat} {xs : Nat → Int32} (hL : L ≤ 3072) {Inv : xH → Prop} {i : Nat} {h : xH} {cs ss : Nat} (h6 : i + 6 ≤ L) (hcs : cs ≤ 590000) (hss : ss ≤ 7000000) (h2 : ∀ (a0 : Int32), x_TwoI Inv 134 281 [.int a0] h) (hk : ∀ (h' : xH) (cs' ss' : Nat), Inv h' → cs' ≤ cs + 4 → ss' ≤ ss + 16 → x_JL L xs 2136 (x_lw i) [] h' cs' ss') : x_JL L xs 1518 (x_lw i) [] h cs ss := by
  refine x_wp_okL okL37 [2136] 4 ?_
  refine And.intro (x_ixK (k := 1) hL h6 (by decide)) ?_
  refine Exists.elim (h2 _) (fun PA hAB => ⟨PA, hAB.1, ⟨(show cs + 0 ≤ 600000 by omega), (show ss + 0 ≤ 7302250 by omega)⟩, fun q h1 hp => ?_⟩)
  obtain ⟨v, rfl, PB, hB1, hB2⟩ := hAB.2 q h1 hp
  refine And.intro (x_ixK (k := 1) hL h6 (by decide)) ?_
  refine ⟨PB, hB1, ⟨(show cs + 0 + 0 ≤ 600000 by omega), (show ss + 0 + 0 ≤ 7302250 by omega)⟩, fun q' h3 hp' => ?_⟩
  obtain ⟨rfl, hI⟩ := hB2 q' h3 hp'
  refine And.intro (fun _ => hk _ _ _ hI (show cs + 0 + 0 ≤ cs + 4 by omega) (show ss + 0 + 0 ≤ ss + 16 by omega)) (fun c => absurd rfl c)
theorem l_case38 {L : Nat} {xs : Nat → Int32} (hL : L ≤ 3072) {Inv : xH → Prop} {i : Nat} {h : xH} {cs ss : Nat} (h6 : i + 6 ≤ L) (hcs : cs ≤ 590000) (hss : ss ≤ 7000000) (h2 : ∀ (a0 : Int32) (a1 : Int32), x_TwoI Inv 135 282 [.int a0, .int a1] h) (hk : ∀ (h' : xH) (cs' ss' : Nat), Inv h' → cs' ≤ cs + 4 → ss' ≤ ss + 16 → x_JL L xs 2136 (x_lw i) [] h' cs' ss') : x_JL L xs 1541 (x_lw i) [] h cs ss := by
  refine x_wp_okL okL38 [2136] 4 ?_
  refine And.intro (x_ixK (k := 1) hL h6 (by decide)) ?_
  refine And.intro (x_ixK (k := 2) hL h6 (by decide)) ?_
  refine Exists.elim (h2 _ _) (fun PA hAB => ⟨PA, hAB.1, ⟨(show cs + 0 ≤ 600000 by omega), (show ss + 0 ≤ 7302250 by omega)⟩, fun q h1 hp => ?_⟩)
  obtain ⟨v, rfl, PB, hB1, hB2⟩ := hAB.2 q h1 hp
  refine And.intro (x_ixK (k := 1) hL h6 (by decide)) ?_
  refine And.intro (x_ixK (k := 2) hL h6 (by decide)) ?_
  refine ⟨PB, hB1, ⟨(show cs + 0 + 0 ≤ 600000 by omega), (show ss + 0 + 0 ≤ 7302250 by omega)⟩, fun q' h3 hp' => ?_⟩
  obtain ⟨rfl, hI⟩ := hB2 q' h3 hp'
  refine And.intro (fun _ => hk _ _ _ hI (show cs + 0 + 0 ≤ cs + 4 by omega) (show ss + 0 + 0 ≤ ss + 16 by omega)) (fun c => absurd rfl c)
theorem l_case39 {L : Nat} {xs : Nat → Int32} (hL : L ≤ 3072) {Inv : xH → Prop} {i : Nat} {h : xH} {cs ss : Nat} (h6 : i + 6 ≤ L) (hcs : cs ≤ 590000) (hss : ss ≤ 7000000) (h2 : ∀ (a0 : Int32), x_TwoL Inv 136 285 [.int a0] h) (hk : ∀ (h' : xH) (cs' ss' : Nat), Inv h' → cs' ≤ cs + 4 → ss' ≤ ss + 16 → x_JL L xs 2136 (x_lw i) [] h' cs' ss') : x_JL L xs 1574 (x_lw i) [] h cs ss := by
  refine x_wp_okL okL39 [2136] 4 ?_
  refine And.intro (x_ixK (k := 1) hL h6 (by decide)) ?_
  refine Exists.elim (h2 _) (fun PA hAB => ⟨PA, hAB.1, ⟨(show cs + 0 ≤ 600000 by omega), (show ss + 0 ≤ 7302250 by omega)⟩, fun q h1 hp => ?_⟩)
  obtain ⟨v, rfl, PB, hB1, hB2⟩ := hAB.2 q h1 hp
  refine And.intro (x_ixK (k := 1) hL h6 (by decide)) ?_
  refine ⟨PB, hB1, ⟨(show cs + 0 + 0 ≤ 600000 by omega), (show ss + 0 + 0 ≤ 7302250 by omega)⟩, fun q' h3 hp' => ?_⟩
  obtain ⟨rfl, hI⟩ := hB2 q' h3 hp'
  refine And.intro (fun _ => hk _ _ _ hI (show cs + 0 + 0 ≤ cs + 4 by omega) (show ss + 0 + 0 ≤ ss + 16 by omega)) (fun c => absurd (x_lcv v) c)
theorem l_case40 {L : Nat} {xs : Nat → Int32} (hL : L ≤ 3072) {Inv : xH → Prop} {i : Nat} {h : xH} {cs ss : Nat} (h6 : i + 6 ≤ L) (hcs : cs ≤ 590000) (hss : ss ≤ 7000000) (h2 : ∀ (a0 : Int32), x_TwoI Inv 137 286 [.int a0] h) (hk : ∀ (h' : xH) (cs' ss' : Nat), Inv h' → cs' ≤ cs + 4 → ss' ≤ ss + 16 → x_JL L xs 2136 (x_lw i) [] h' cs' ss') : x_JL L xs 1598 (x_lw i) [] h cs ss := by
  refine x_wp_okL okL40 [2136] 4 ?_
  refine And.intro (x_ixK (k := 1) hL h6 (by decide)) ?_
  refine Exists.elim (h2 _) (fun PA hAB => ⟨PA, hAB.1, ⟨(show cs + 0 ≤ 600000 by omega), (show ss + 0 ≤ 7302250 by omega)⟩, fun q h1 hp => ?_⟩)
  obtain ⟨v, rfl, PB, hB1, hB2⟩ := hAB.2 q h1 hp
  refine And.intro (x_ixK (k := 1) hL h6 (by decide)) ?_
  refine ⟨PB, hB1, ⟨(show cs + 0 + 0 ≤ 600000 by omega), (show ss + 0 + 0 ≤ 7302250 by omega)⟩, fun q' h3 hp' => ?_⟩
  obtain ⟨rfl, hI⟩ := hB2 q' h3 hp'
  refine And.intro (fun _ => hk _ _ _ hI (show cs + 0 + 0 ≤ cs + 4 by omega) (show ss + 0 + 0 ≤ ss + 16 by omega)) (fun c => absurd rfl c)
theorem l_case41 {L : Nat} {xs : Nat → Int32} (hL : L ≤ 3072) {Inv : xH → Prop} {i : Nat} {h : xH} {cs ss : Nat} (h6 : i + 6 ≤ L) (hcs : cs ≤ 590000) (hss : ss ≤ 7000000) (h2 : ∀ (a0 : Int32), x_TwoL Inv 138 287 [.int a0] h) (hk : ∀ (h' : xH) (cs' ss' : Nat), Inv h' → cs' ≤ cs + 4 → ss' ≤ ss + 16 → x_JL L xs 2136 (x_lw i) [] h' cs' ss') : x_JL L xs 1621 (x_lw i) [] h cs ss := by
  refine x_wp_okL okL41 [2136] 4 ?_
  refine And.intro (x_ixK (k := 1) hL h6 (by decide)) ?_
  refine Exists.elim (h2 _) (fun PA hAB => ⟨PA, hAB.1, ⟨(show cs + 0 ≤ 600000 by omega), (show ss + 0 ≤ 7302250 by omega)⟩, fun q h1 hp => ?_⟩)
  obtain ⟨v, rfl, PB, hB1, hB2⟩ := hAB.2 q h1 hp
  refine And.intro (x_ixK (k := 1) hL h6 (by decide)) ?_
  refine ⟨PB, hB1, ⟨(show cs + 0 + 0 ≤ 600000 by omega), (show ss + 0 + 0 ≤ 7302250 by omega)⟩, fun q' h3 hp' => ?_⟩
  obtain ⟨rfl, hI⟩ := hB2 q' h3 hp'
  refine And.intro (fun _ => hk _ _ _ hI (show cs + 0 + 0 ≤ cs + 4 by omega) (show ss + 0 + 0 ≤ ss + 16 by omega)) (fun c => absurd (x_lcv v) c)
theorem l_case42 {L : Nat} {xs : Nat → Int32} (hL : L ≤ 3072) {Inv : xH → Prop} {i : Nat} {h : xH} {cs ss : Nat} (h6 : i + 6 ≤ L) (hcs : cs ≤ 590000) (hss : ss ≤ 7000000) (h2 : ∀ (a0 : Int32), x_TwoI Inv 139 288 [.int a0] h) (hk : ∀ (h' : xH) (cs' ss' : Nat), Inv h' → cs' ≤ cs + 4 → ss' ≤ ss + 16 → x_JL L xs 2136 (x_lw i) [] h' cs' ss') : x_JL L xs 1645 (x_lw i) [] h cs ss := by
  refine x_wp_okL okL42 [2136] 4 ?_
  refine And.intro (x_ixK (k := 1) hL h6 (by decide)) ?_
  refine Exists.elim (h2 _) (fun PA hAB => ⟨PA, hAB.1, ⟨(show cs + 0 ≤ 600000 by omega), (show ss + 0 ≤ 7302250 by omega)⟩, fun q h1 hp => ?_⟩)
  obtain ⟨v, rfl, PB, hB1, hB2⟩ := hAB.2 q h1 hp
  refine And.intro (x_ixK (k := 1) hL h6 (by decide)) ?_
  refine ⟨PB, hB1, ⟨(show cs + 0 + 0 ≤ 600000 by omega), (show ss + 0 + 0 ≤ 7302250 by omega)⟩, fun q' h3 hp' => ?_⟩
  obtain ⟨rfl, hI⟩ := hB2 q' h3 hp'
  refine And.intro (fun _ => hk _ _ _ hI (show cs + 0 + 0 ≤ cs + 4 by omega) (show ss + 0 + 0 ≤ ss + 16 by omega)) (fun c => absurd rfl c)
theorem l_case43 {L : Nat} {xs : Nat → Int32} (hL : L ≤ 3072) {Inv : xH → Prop} {i : Nat} {h : xH} {cs ss : Nat} (h6 : i + 6 ≤ L) (hcs : cs ≤ 590000) (hss : ss ≤ 7000000) (h2 : ∀ (a0 : Int32) (a1 : Int32), x_TwoI Inv 140 290 [.int a0, .int a1] h) (hk : ∀ (h' : xH) (cs' ss' : Nat), Inv h' → cs' ≤ cs + 4 → ss' ≤ ss + 16 → x_JL L xs 2136 (x_lw i) [] h' cs' ss') : x_JL L xs 1668 (x_lw i) [] h cs ss := by
  refine x_wp_okL okL43 [2136] 4 ?_
  refine And.intro (x_ixK (k := 1) hL h6 (by decide)) ?_
  refine And.intro (x_ixK (k := 2) hL h6 (by decide)) ?_
  refine Exists.elim (h2 _ _) (fun PA hAB => ⟨PA, hAB.1, ⟨(show cs + 0 ≤ 600000 by omega), (show ss + 0 ≤ 7302250 by omega)⟩, fun q h1 hp => ?_⟩)
  obtain ⟨v, rfl, PB, hB1, hB2⟩ := hAB.2 q h1 hp
  refine And.intro (x_ixK (k := 1) hL h6 (by decide)) ?_
  refine And.intro (x_ixK (k := 2) hL h6 (by decide)) ?_
  refine ⟨PB, hB1, ⟨(show cs + 0 + 0 ≤ 600000 by omega), (show ss + 0 + 0 ≤ 7302250 by omega)⟩, fun q' h3 hp' => ?_⟩
  obtain ⟨rfl, hI⟩ := hB2 q' h3 hp'
  refine And.intro (fun _ => hk _ _ _ hI (show cs + 0 + 0 ≤ cs + 4 by omega) (show ss + 0 + 0 ≤ ss + 16 by omega)) (fun c => absurd rfl c)
theorem l_case44 {L : Nat} {xs : Nat → Int32} (hL : L ≤ 3072) {Inv : xH → Prop} {i : Nat} {h : xH} {cs ss : Nat} (h6 : i + 6 ≤ L) (hcs : cs ≤ 590000) (hss : ss ≤ 7000000) (h2 : ∀ (a0 : Int32), x_TwoI Inv 141 291 [.int a0] h) (hk : ∀ (h' : xH) (cs' ss' : Nat), Inv h' → cs' ≤ cs + 4 → ss' ≤ ss + 16 → x_JL L xs 2136 (x_lw i) [] h' cs' ss') : x_JL L xs 1701 (x_lw i) [] h cs ss := by
  refine x_wp_okL okL44 [2136] 4 ?_
  refine And.intro (x_ixK (k := 1) hL h6 (by decide)) ?_
  refine Exists.elim (h2 _) (fun PA hAB => ⟨PA, hAB.1, ⟨(show cs + 0 ≤ 600000 by omega), (show ss + 0 ≤ 7302250 by omega)⟩, fun q h1 hp => ?_⟩)
  obtain ⟨v, rfl, PB, hB1, hB2⟩ := hAB.2 q h1 hp
  refine And.intro (x_ixK (k := 1) hL h6 (by decide)) ?_
  refine ⟨PB, hB1, ⟨(show cs + 0 + 0 ≤ 600000 by omega), (show ss + 0 + 0 ≤ 7302250 by omega)⟩, fun q' h3 hp' => ?_⟩
  obtain ⟨rfl, hI⟩ := hB2 q' h3 hp'
  refine And.intro (fun _ => hk _ _ _ hI (show cs + 0 + 0 ≤ cs + 4 by omega) (show ss + 0 + 0 ≤ ss + 16 by omega)) (fun c => absurd rfl c)
theorem l_case45 {L : Nat} {xs : Nat → Int32} (hL : L ≤ 3072) {Inv : xH → Prop} {i : Nat} {h : xH} {cs ss : Nat} (h6 : i + 6 ≤ L) (hcs : cs ≤ 590000) (hss : ss ≤ 7000000) (h2 : ∀ (a0 : Int32), x_TwoI Inv 142 292 [.int a0] h) (hk : ∀ (h' : xH) (cs' ss' : Nat), Inv h' → cs' ≤ cs + 4 → ss' ≤ ss + 16 → x_JL L xs 2136 (x_lw i) [] h' cs' ss') : x_JL L xs 1724 (x_lw i) [] h cs ss := by
  refine x_wp_okL okL45 [2136] 4 ?_
  refine And.intro (x_ixK (k := 1) hL h6 (by decide)) ?_
  refine Exists.elim (h2 _) (fun PA hAB => ⟨PA, hAB.1, ⟨(show cs + 0 ≤ 600000 by omega), (show ss + 0 ≤ 7302250 by omega)⟩, fun q h1 hp => ?_⟩)
  obtain ⟨v, rfl, PB, hB1, hB2⟩ := hAB.2 q h1 hp
  refine And.intro (x_ixK (k := 1) hL h6 (by decide)) ?_
  refine ⟨PB, hB1, ⟨(show cs + 0 + 0 ≤ 600000 by omega), (show ss + 0 + 0 ≤ 7302250 by omega)⟩, fun q' h3 hp' => ?_⟩
  obtain ⟨rfl, hI⟩ := hB2 q' h3 hp'
  refine And.intro (fun _ => hk _ _ _ hI (show cs + 0 + 0 ≤ cs + 4 by omega) (show ss + 0 + 0 ≤ ss + 16 by omega)) (fun c => absurd rfl c)
theorem l_case46 {L : Nat} {xs : Nat → Int32} (hL : L ≤ 3072) {Inv : xH → Prop} {i : Nat} {h : xH} {cs ss : Nat} (h6 : i + 6 ≤ L) (hcs : cs ≤ 590000) (hss : ss ≤ 7000000) (h2 : ∀ (a0 : Int32) (a1 : Int32) (a2 : Int32), x_TwoI Inv 143 295 [.int a0, .int a1, .int a2] h) (hk : ∀ (h' : xH) (cs' ss' : Nat), Inv h' → cs' ≤ cs + 4 → ss' ≤ ss + 16 → x_JL L xs 2136 (x_lw i) [] h' cs' ss') : x_JL L xs 1747 (x_lw i) [] h cs ss := by
  refine x_wp_okL okL46 [2136] 4 ?_
  refine And.intro (x_ixK (k := 1) hL h6 (by decide)) ?_
  refine And.intro (x_ixK (k := 2) hL h6 (by decide)) ?_
  refine And.intro (x_ixK (k := 3) hL h6 (by decide)) ?_
  refine Exists.elim (h2 _ _ _) (fun PA hAB => ⟨PA, hAB.1, ⟨(show cs + 0 ≤ 600000 by omega), (show ss + 0 ≤ 7302250 by omega)⟩, fun q h1 hp => ?_⟩)
  obtain ⟨v, rfl, PB, hB1, hB2⟩ := hAB.2 q h1 hp
  refine And.intro (x_ixK (k := 1) hL h6 (by decide)) ?_
  refine And.intro (x_ixK (k := 2) hL h6 (by decide)) ?_
  refine And.intro (x_ixK (k := 3) hL h6 (by decide)) ?_
  refine ⟨PB, hB1, ⟨(show cs + 0 + 0 ≤ 600000 by omega), (show ss + 0 + 0 ≤ 7302250 by omega)⟩, fun q' h3 hp' => ?_⟩
  obtain ⟨rfl, hI⟩ := hB2 q' h3 hp'
  refine And.intro (fun _ => hk _ _ _ hI (show cs + 0 + 0 ≤ cs + 4 by omega) (show ss + 0 + 0 ≤ ss + 16 by omega)) (fun c => absurd rfl c)
theorem l_case47 {L : Nat} {xs : Nat → Int32} (hL : L ≤ 3072) {Inv : xH → Prop} {i : Nat} {h : xH} {cs ss : Nat} (h6 : i + 6 ≤ L) (hcs : cs ≤ 590000) (hss : ss ≤ 7000000) (h2 : ∀ (a0 : Int32) (a1 : Int32), x_TwoI Inv 144 296 [.int a0, .int a1] h) (hk : ∀ (h' : xH) (cs' ss' : Nat), Inv h' → cs' ≤ cs + 4 → ss' ≤ ss + 16 → x_JL L xs 2136 (x_lw i) [] h' cs' ss') : x_JL L xs 1790 (x_lw i) [] h cs ss := by
  refine x_wp_okL okL47 [2136] 4 ?_
  refine And.intro (x_ixK (k := 1) hL h6 (by decide)) ?_
  refine And.intro (x_ixK (k := 2) hL h6 (by decide)) ?_
  refine Exists.elim (h2 _ _) (fun PA hAB => ⟨PA, hAB.1, ⟨(show cs + 0 ≤ 600000 by omega), (show ss + 0 ≤ 7302250 by omega)⟩, fun q h1 hp => ?_⟩)
  obtain ⟨v, rfl, PB, hB1, hB2⟩ := hAB.2 q h1 hp
  refine And.intro (x_ixK (k := 1) hL h6 (by decide)) ?_
  refine And.intro (x_ixK (k := 2) hL h6 (by decide)) ?_
  refine ⟨PB, hB1, ⟨(show cs + 0 + 0 ≤ 600000 by omega), (show ss + 0 + 0 ≤ 7302250 by omega)⟩, fun q' h3 hp' => ?_⟩
  obtain ⟨rfl, hI⟩ := hB2 q' h3 hp'
  refine And.intro (fun _ => hk _ _ _ hI (show cs + 0 + 0 ≤ cs + 4 by omega) (show ss + 0 + 0 ≤ ss + 16 by omega)) (fun c => absurd rfl c)
theorem l_case48 {L : Nat} {xs : Nat → Int32} (hL : L ≤ 3072) {Inv : xH → Prop} {i : Nat} {h : xH} {cs ss : Nat} (h6 : i + 6 ≤ L) (hcs : cs ≤ 590000) (hss : ss ≤ 7000000) (h2 : ∀ (a0 : Int32) (a1 : Int32), x_TwoI Inv 145 300 [.int a0, .int a1] h) (hk : ∀ (h' : xH) (cs' ss' : Nat), Inv h' → cs' ≤ cs + 4 → ss' ≤ ss + 16 → x_JL L xs 2136 (x_lw i) [] h' cs' ss') : x_JL L xs 1823 (x_lw i) [] h cs ss := by
  refine x_wp_okL okL48 [2136] 4 ?_
  refine And.intro (x_ixK (k := 1) hL h6 (by decide)) ?_
  refine And.intro (x_ixK (k := 2) hL h6 (by decide)) ?_
  refine Exists.elim (h2 _ _) (fun PA hAB => ⟨PA, hAB.1, ⟨(show cs + 0 ≤ 600000 by omega), (show ss + 0 ≤ 7302250 by omega)⟩, fun q h1 hp => ?_⟩)
  obtain ⟨v, rfl, PB, hB1, hB2⟩ := hAB.2 q h1 hp
  refine And.intro (x_ixK (k := 1) hL h6 (by decide)) ?_
  refine And.intro (x_ixK (k := 2) hL h6 (by decide)) ?_
  refine ⟨PB, hB1, ⟨(show cs + 0 + 0 ≤ 600000 by omega), (show ss + 0 + 0 ≤ 7302250 by omega)⟩, fun q' h3 hp' => ?_⟩
  obtain ⟨rfl, hI⟩ := hB2 q' h3 hp'
  refine And.intro (fun _ => hk _ _ _ hI (show cs + 0 + 0 ≤ cs + 4 by omega) (show ss + 0 + 0 ≤ ss + 16 by omega)) (fun c => absurd rfl c)
theorem l_case49 {L : Nat} {xs : Nat → Int32} (hL : L ≤ 3072) {Inv : xH → Prop} {i : Nat} {h : xH} {cs ss : Nat} (h6 : i + 6 ≤ L) (hcs : cs ≤ 590000) (hss : ss ≤ 7000000) (h2 : ∀ (a0 : Int32) (a1 : Int32), x_TwoI Inv 146 301 [.int a0, .int a1] h) (hk : ∀ (h' : xH) (cs' ss' : Nat), Inv h' → cs' ≤ cs + 4 → ss' ≤ ss + 16 → x_JL L xs 2136 (x_lw i) [] h' cs' ss') : x_JL L xs 1856 (x_lw i) [] h cs ss := by
  refine x_wp_okL okL49 [2136] 4 ?_
  refine And.intro (x_ixK (k := 1) hL h6 (by decide)) ?_
  refine And.intro (x_ixK (k := 2) hL h6 (by decide)) ?_
  refine Exists.elim (h2 _ _) (fun PA hAB => ⟨PA, hAB.1, ⟨(show cs + 0 ≤ 600000 by omega), (show ss + 0 ≤ 7302250 by omega)⟩, fun q h1 hp => ?_⟩)
  obtain ⟨v, rfl, PB, hB1, hB2⟩ := hAB.2 q h1 hp
  refine And.intro (x_ixK (k := 1) hL h6 (by decide)) ?_
  refine And.intro (x_ixK (k := 2) hL h6 (by decide)) ?_
  refine ⟨PB, hB1, ⟨(show cs + 0 + 0 ≤ 600000 by omega), (show ss + 0 + 0 ≤ 7302250 by omega)⟩, fun q' h3 hp' => ?_⟩
  obtain ⟨rfl, hI⟩ := hB2 q' h3 hp'
  refine And.intro (fun _ => hk _ _ _ hI (show cs + 0 + 0 ≤ cs + 4 by omega) (show ss + 0 + 0 ≤ ss + 16 by omega)) (fun c => absurd rfl c)
theorem l_case50 {L : Nat} {xs : Nat → Int32} (hL : L ≤ 3072) {Inv : xH → Prop} {i : Nat} {h : xH} {cs ss : Nat} (h6 : i + 6 ≤ L) (hcs : cs ≤ 590000) (hss : ss ≤ 7000000) (h2 : ∀ (a0 : Int32) (a1 : Int32) (a2 : Int32), x_TwoI Inv 147 308 [.int a0, .int a1, .int a2] h) (hk : ∀ (h' : xH) (cs' ss' : Nat), Inv h' → cs' ≤ cs + 4 → ss' ≤ ss + 16 → x_JL L xs 2136 (x_lw i) [] h' cs' ss') : x_JL L xs 1889 (x_lw i) [] h cs ss := by
  refine x_wp_okL okL50 [2136] 4 ?_
  refine And.intro (x_ixK (k := 1) hL h6 (by decide)) ?_
  refine And.intro (x_ixK (k := 2) hL h6 (by decide)) ?_
  refine And.intro (x_ixK (k := 3) hL h6 (by decide)) ?_
  refine Exists.elim (h2 _ _ _) (fun PA hAB => ⟨PA, hAB.1, ⟨(show cs + 0 ≤ 600000 by omega), (show ss + 0 ≤ 7302250 by omega)⟩, fun q h1 hp => ?_⟩)
  obtain ⟨v, rfl, PB, hB1, hB2⟩ := hAB.2 q h1 hp
  refine And.intro (x_ixK (k := 1) hL h6 (by decide)) ?_
  refine And.intro (x_ixK (k := 2) hL h6 (by decide)) ?_
  refine And.intro (x_ixK (k := 3) hL h6 (by decide)) ?_
  refine ⟨PB, hB1, ⟨(show cs + 0 + 0 ≤ 600000 by omega), (show ss + 0 + 0 ≤ 7302250 by omega)⟩, fun q' h3 hp' => ?_⟩
  obtain ⟨rfl, hI⟩ := hB2 q' h3 hp'
  refine And.intro (fun _ => hk _ _ _ hI (show cs + 0 + 0 ≤ cs + 4 by omega) (show ss + 0 + 0 ≤ ss + 16 by omega)) (fun c => absurd rfl c)
theorem l_case51 {L : Nat} {xs : Nat → Int32} (hL : L ≤ 3072) {Inv : xH → Prop} {i : Nat} {h : xH} {cs ss : Nat} (h6 : i + 6 ≤ L) (hcs : cs ≤ 590000) (hss : ss ≤ 7000000) (h2 : ∀ (a0 : Int32) (a1 : Int32) (a2 : Int32), x_TwoI Inv 148 309 [.int a0, .int a1, .int a2] h) (hk : ∀ (h' : xH) (cs' ss' : Nat), Inv h' → cs' ≤ cs + 4 → ss' ≤ ss + 16 → x_JL L xs 2136 (x_lw i) [] h' cs' ss') : x_JL L xs 1932 (x_lw i) [] h cs ss := by
  refine x_wp_okL okL51 [2136] 4 ?_
  refine And.intro (x_ixK (k := 1) hL h6 (by decide)) ?_
  refine And.intro (x_ixK (k := 2) hL h6 (by decide)) ?_
  refine And.intro (x_ixK (k := 3) hL h6 (by decide)) ?_
  refine Exists.elim (h2 _ _ _) (fun PA hAB => ⟨PA, hAB.1, ⟨(show cs + 0 ≤ 600000 by omega), (show ss + 0 ≤ 7302250 by omega)⟩, fun q h1 hp => ?_⟩)
  obtain ⟨v, rfl, PB, hB1, hB2⟩ := hAB.2 q h1 hp
  refine And.intro (x_ixK (k := 1) hL h6 (by decide)) ?_
  refine And.intro (x_ixK (k := 2) hL h6 (by decide)) ?_
  refine And.intro (x_ixK (k := 3) hL h6 (by decide)) ?_
  refine ⟨PB, hB1, ⟨(show cs + 0 + 0 ≤ 600000 by omega), (show ss + 0 + 0 ≤ 7302250 by omega)⟩, fun q' h3 hp' => ?_⟩
  obtain ⟨rfl, hI⟩ := hB2 q' h3 hp'
  refine And.intro (fun _ => hk _ _ _ hI (show cs + 0 + 0 ≤ cs + 4 by omega) (show ss + 0 + 0 ≤ ss + 16 by omega)) (fun c => absurd rfl c)
theorem l_case52 {L : Nat} {xs : Nat → Int32} (hL : L ≤ 3072) {Inv : xH → Prop} {i : Nat} {h : xH} {cs ss : Nat} (h6 : i + 6 ≤ L) (hcs : cs ≤ 590000) (hss : ss ≤ 7000000) (h2 : ∀ (a0 : Int32) (a1 : Int32), x_TwoI Inv 149 310 [.int a0, .int a1] h) (hk : ∀ (h' : xH) (cs' ss' : Nat), Inv h' → cs' ≤ cs + 4 → ss' ≤ ss + 16 → x_JL L xs 2136 (x_lw i) [] h' cs' ss') : x_JL L xs 1975 (x_lw i) [] h cs ss := by
  refine x_wp_okL okL52 [2136] 4 ?_
  refine And.intro (x_ixK (k := 1) hL h6 (by decide)) ?_
  refine And.intro (x_ixK (k := 2) hL h6 (by decide)) ?_
  refine Exists.elim (h2 _ _) (fun PA hAB => ⟨PA, hAB.1, ⟨(show cs + 0 ≤ 600000 by omega), (show ss + 0 ≤ 7302250 by omega)⟩, fun q h1 hp => ?_⟩)
  obtain ⟨v, rfl, PB, hB1, hB2⟩ := hAB.2 q h1 hp
  refine And.intro (x_ixK (k := 1) hL h6 (by decide)) ?_
  refine And.intro (x_ixK (k := 2) hL h6 (by decide)) ?_
  refine ⟨PB, hB1, ⟨(show cs + 0 + 0 ≤ 600000 by omega), (show ss + 0 + 0 ≤ 7302250 by omega)⟩, fun q' h3 hp' => ?_⟩
  obtain ⟨rfl, hI⟩ := hB2 q' h3 hp'
  refine And.intro (fun _ => hk _ _ _ hI (show cs + 0 + 0 ≤ cs + 4 by omega) (show ss + 0 + 0 ≤ ss + 16 by omega)) (fun c => absurd rfl c)
theorem l_case53 {L : Nat} {xs : Nat → Int32} (hL : L ≤ 3072) {Inv : xH → Prop} {i : Nat} {h : xH} {cs ss : Nat} (h6 : i + 6 ≤ L) (hcs : cs ≤ 590000) (hss : ss ≤ 7000000) (h2 : ∀ (a0 : Int32), x_TwoI Inv 150 311 [.int a0] h) (hk : ∀ (h' : xH) (cs' ss' : Nat), Inv h' → cs' ≤ cs + 4 → ss' ≤ ss + 16 → x_JL L xs 2136 (x_lw i) [] h' cs' ss') : x_JL L xs 2008 (x_lw i) [] h cs ss := by
  refine x_wp_okL okL53 [2136] 4 ?_
  refine And.intro (x_ixK (k := 1) hL h6 (by decide)) ?_
  refine Exists.elim (h2 _) (fun PA hAB => ⟨PA, hAB.1, ⟨(show cs + 0 ≤ 600000 by omega), (show ss + 0 ≤ 7302250 by omega)⟩, fun q h1 hp => ?_⟩)
  obtain ⟨v, rfl, PB, hB1, hB2⟩ := hAB.2 q h1 hp
  refine And.intro (x_ixK (k := 1) hL h6 (by decide)) ?_
  refine ⟨PB, hB1, ⟨(show cs + 0 + 0 ≤ 600000 by omega), (show ss + 0 + 0 ≤ 7302250 by omega)⟩, fun q' h3 hp' => ?_⟩
  obtain ⟨rfl, hI⟩ := hB2 q' h3 hp'
  refine And.intro (fun _ => hk _ _ _ hI (show cs + 0 + 0 ≤ cs + 4 by omega) (show ss + 0 + 0 ≤ ss + 16 by omega)) (fun c => absurd rfl c)
theorem l_case54 {L : Nat} {xs : Nat → Int32} (hL : L ≤ 3072) {Inv : xH → Prop} {i : Nat} {h : xH} {cs ss : Nat} (h6 : i + 6 ≤ L) (hcs : cs ≤ 590000) (hss : ss ≤ 7000000) (h2 : ∀ (a0 : Int32), x_TwoI Inv 151 322 [.int a0] h) (hk : ∀ (h' : xH) (cs' ss' : Nat), Inv h' → cs' ≤ cs + 4 → ss' ≤ ss + 16 → x_JL L xs 2136 (x_lw i) [] h' cs' ss') : x_JL L xs 2031 (x_lw i) [] h cs ss := by
  refine x_wp_okL okL54 [2136] 4 ?_
  refine And.intro (x_ixK (k := 1) hL h6 (by decide)) ?_
  refine Exists.elim (h2 _) (fun PA hAB => ⟨PA, hAB.1, ⟨(show cs + 0 ≤ 600000 by omega), (show ss + 0 ≤ 7302250 by omega)⟩, fun q h1 hp => ?_⟩)
  obtain ⟨v, rfl, PB, hB1, hB2⟩ := hAB.2 q h1 hp
  refine And.intro (x_ixK (k := 1) hL h6 (by decide)) ?_
  refine ⟨PB, hB1, ⟨(show cs + 0 + 0 ≤ 600000 by omega), (show ss + 0 + 0 ≤ 7302250 by omega)⟩, fun q' h3 hp' => ?_⟩
  obtain ⟨rfl, hI⟩ := hB2 q' h3 hp'
  refine And.intro (fun _ => hk _ _ _ hI (show cs + 0 + 0 ≤ cs + 4 by omega) (show ss + 0 + 0 ≤ ss + 16 by omega)) (fun c => absurd rfl c)
theorem l_case55 {L : Nat} {xs : Nat → Int32} (hL : L ≤ 3072) {Inv : xH → Prop} {i : Nat} {h : xH} {cs ss : Nat} (h6 : i + 6 ≤ L) (hcs : cs ≤ 590000) (hss : ss ≤ 7000000) (h2 : ∀ (a0 : Int32), x_TwoI Inv 152 323 [.int a0] h) (hk : ∀ (h' : xH) (cs' ss' : Nat), Inv h' → cs' ≤ cs + 4 → ss' ≤ ss + 16 → x_JL L xs 2136 (x_lw i) [] h' cs' ss') : x_JL L xs 2054 (x_lw i) [] h cs ss := by
  refine x_wp_okL okL55 [2136] 4 ?_
  refine And.intro (x_ixK (k := 1) hL h6 (by decide)) ?_
  refine Exists.elim (h2 _) (fun PA hAB => ⟨PA, hAB.1, ⟨(show cs + 0 ≤ 600000 by omega), (show ss + 0 ≤ 7302250 by omega)⟩, fun q h1 hp => ?_⟩)
  obtain ⟨v, rfl, PB, hB1, hB2⟩ := hAB.2 q h1 hp
  refine And.intro (x_ixK (k := 1) hL h6 (by decide)) ?_
  refine ⟨PB, hB1, ⟨(show cs + 0 + 0 ≤ 600000 by omega), (show ss + 0 + 0 ≤ 7302250 by omega)⟩, fun q' h3 hp' => ?_⟩
  obtain ⟨rfl, hI⟩ := hB2 q' h3 hp'
  refine And.intro (fun _ => hk _ _ _ hI (show cs + 0 + 0 ≤ cs + 4 by omega) (show ss + 0 + 0 ≤ ss + 16 by omega)) (fun c => absurd rfl c)
theorem l_case56 {L : Nat} {xs : Nat → Int32} (hL : L ≤ 3072) {Inv : xH → Prop} {i : Nat} {h : xH} {cs ss : Nat} (h6 : i + 6 ≤ L) (hcs : cs ≤ 590000) (hss : ss ≤ 7000000) (h2 : ∀ (a0 : Int32) (a1 : Int32), x_TwoI Inv 153 324 [.int a0, .int a1] h) (hk : ∀ (h' : xH) (cs' ss' : Nat), Inv h' → cs' ≤ cs + 4 → ss' ≤ ss + 16 → x_JL L xs 2136 (x_lw i) [] h' cs' ss') : x_JL L xs 2077 (x_lw i) [] h cs ss := by
  refine x_wp_okL okL56 [2136] 4 ?_
  refine And.intro (x_ixK (k := 1) hL h6 (by decide)) ?_
  refine And.intro (x_ixK (k := 2) hL h6 (by decide)) ?_
  refine Exists.elim (h2 _ _) (fun PA hAB => ⟨PA, hAB.1, ⟨(show cs + 0 ≤ 600000 by omega), (show ss + 0 ≤ 7302250 by omega)⟩, fun q h1 hp => ?_⟩)
  obtain ⟨v, rfl, PB, hB1, hB2⟩ := hAB.2 q h1 hp
  refine And.intro (x_ixK (k := 1) hL h6 (by decide)) ?_
  refine And.intro (x_ixK (k := 2) hL h6 (by decide)) ?_
  refine ⟨PB, hB1, ⟨(show cs + 0 + 0 ≤ 600000 by omega), (show ss + 0 + 0 ≤ 7302250 by omega)⟩, fun q' h3 hp' => ?_⟩
  obtain ⟨rfl, hI⟩ := hB2 q' h3 hp'
  refine And.intro (fun _ => hk _ _ _ hI (show cs + 0 + 0 ≤ cs + 4 by omega) (show ss + 0 + 0 ≤ ss + 16 by omega)) (fun c => absurd rfl c)
theorem l_case57 {L : Nat} {xs : Nat → Int32} (hL : L ≤ 3072) {Inv : xH → Prop} {i : Nat} {h : xH} {cs ss : Nat} (h6 : i + 6 ≤ L) (hcs : cs ≤ 590000) (hss : ss ≤ 7000000) (h2 : x_TwoI Inv 154 326 [] h) (hk : ∀ (h' : xH) (cs' ss' : Nat), Inv h' → cs' ≤ cs + 4 → ss' ≤ ss + 16 → x_JL L xs 2136 (x_lw i) [] h' cs' ss') : x_JL L xs 2110 (x_lw i) [] h cs ss := by
  refine x_wp_okL okL57 [2136] 4 ?_
  refine Exists.elim (h2) (fun PA hAB => ⟨PA, hAB.1, ⟨(show cs + 0 ≤ 600000 by omega), (show ss + 0 ≤ 7302250 by omega)⟩, fun q h1 hp => ?_⟩)
  obtain ⟨v, rfl, PB, hB1, hB2⟩ := hAB.2 q h1 hp
  refine ⟨PB, hB1, ⟨(show cs + 0 + 0 ≤ 600000 by omega), (show ss + 0 + 0 ≤ 7302250 by omega)⟩, fun q' h3 hp' => ?_⟩
  obtain ⟨rfl, hI⟩ := hB2 q' h3 hp'
  refine And.intro (fun _ => hk _ _ _ hI (show cs + 0 + 0 ≤ cs + 4 by omega) (show ss + 0 + 0 ≤ ss + 16 by omega)) (fun c => absurd rfl c)
theorem l_case58 {L : Nat} {xs : Nat → Int32} (hL : L ≤ 3072) {Inv : xH → Prop} {i : Nat} {h : xH} {cs ss : Nat} (h6 : i + 6 ≤ L) (hcs : cs ≤ 590000) (hss : ss ≤ 7000000) (h2 : x_TwoI Inv 155 327 [] h) (hk : ∀ (h' : xH) (cs' ss' : Nat), Inv h' → cs' ≤ cs + 4 → ss' ≤ ss + 16 → x_JL L xs 2136 (x_lw i) [] h' cs' ss') : x_JL L xs 2123 (x_lw i) [] h cs ss := by
  refine x_wp_okL okL58 [2136] 4 ?_
  refine Exists.elim (h2) (fun PA hAB => ⟨PA, hAB.1, ⟨(show cs + 0 ≤ 600000 by omega), (show ss + 0 ≤ 7302250 by omega)⟩, fun q h1 hp => ?_⟩)
  obtain ⟨v, rfl, PB, hB1, hB2⟩ := hAB.2 q h1 hp
  refine ⟨PB, hB1, ⟨(show cs + 0 + 0 ≤ 600000 by omega), (show ss + 0 + 0 ≤ 7302250 by omega)⟩, fun q' h3 hp' => ?_⟩
  obtain ⟨rfl, hI⟩ := hB2 q' h3 hp'
  refine And.intro (fun _ => hk _ _ _ hI (show cs + 0 + 0 ≤ cs + 4 by omega) (show ss + 0 + 0 ≤ ss + 16 by omega)) (fun c => absurd rfl c)
