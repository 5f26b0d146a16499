/-! the law's loop -/
/-- the law's locals at the script's place i -/
def x_lw (i : Nat) : List (Option Value) := [some (.ref 1005), some (.ref 0), some (.ref 500), some (.int (Int32.ofNat i))]
theorem x_law_tail {L : Nat} {xs : Nat → Int32} {i : Nat} {h : xH} {cs ss : Nat} (hk : x_JL L xs 18 (x_lw (i + 6)) [] h cs ss) : x_JL L xs 2136 (x_lw i) [] h cs ss := by
  have he : Int32.ofNat (i + 6) = Int32.ofNat i + 6 := Int32.ofNat_add i 6
  unfold x_lw at hk
  rw [he] at hk
  refine x_wp_okL okL [18] 4 ?_
  exact hk
/-- the loop: cases that keep Inv, four cells and sixteen slots a step -/
theorem x_law_loop {L : Nat} {xs : Nat → Int32} (hL : L ≤ 3072) (Inv : xH → Prop)
    (hcase : ∀ (i : Nat) (h : xH) (cs ss : Nat), Inv h → i + 6 ≤ L → cs ≤ 590000 → ss ≤ 7000000 → ∀ pc ∈ x_lst, (∀ (h' : xH) (cs' ss' : Nat), Inv h' → cs' ≤ cs + 4 → ss' ≤ ss + 16 → x_JL L xs 2136 (x_lw i) [] h' cs' ss') → x_JL L xs pc (x_lw i) [] h cs ss) :
    ∀ (n i : Nat) (h : xH) (cs ss : Nat), Inv h → i ≤ L → L ≤ i + 6 * n → cs + 4 * n ≤ 590000 → ss + 16 * n ≤ 7000000 → x_JL L xs 18 (x_lw i) [] h cs ss
  | 0, i, h, cs, ss, _, hi, hn, hcs, hss => x_law_head hL hi (by omega) (by omega) (fun h6 => by omega)
  | n + 1, i, h, cs, ss, hI, hi, hn, hcs, hss => x_law_head hL hi (by omega) (by omega) (fun h6 pc hp => hcase i h cs ss hI h6 (by omega) (by omega) pc hp (fun h' cs' ss' hI' hc' hs' => x_law_tail (x_law_loop hL Inv hcase n (i + 6) h' cs' ss' hI' h6 (by omega) (by omega) (by omega))))
