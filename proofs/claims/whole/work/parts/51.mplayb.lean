theorem nI_m1o (a : Nat) : nI (a + 1) + Int32.ofInt (-1) = nI a := pk_m1 a
theorem v_gain_le {N T p q i : Nat} {v : xV} {x : Int} (hN : N < 2 ^ 60) (hT : T ≤ 3) (hBn : v_Bn N v) (hp : p < v 2 0 0) (hq : q < v 2 0 0) (h : v_gain (v_lead T) v p q i = some x) : -1000 ≤ x ∧ x ≤ 1000 := by
  unfold v_gain at h
  split at h
  · rename_i hi
    split at h
    · rename_i hc
      obtain ⟨b1, b2, b3, b4⟩ := v_cb_at hc
      have b10 : v 10 i 0 ≤ 99 := (hBn.1 10 i 0 (show i < v 1 0 0 ∧ 0 = 0 from ⟨hi, rfl⟩)).2
      have h2 := v_lead_le hN T _ (v_Bn_tb hBn (v_vec v p (v_S v i 1)) hp hi b2) q p (by rw [d_tb_c (by decide) (by decide) (by decide)]; exact hq) (by rw [d_tb_c (by decide) (by decide) (by decide)]; exact hp)
      cases h
      omega
    · cases h
  · have h2 := v_lead_le hN T v hBn q p hq hp
    cases h
    omega
section C51
variable {f : Nat → Nat → Int32} {g : Nat → Nat → Int64} {r t : Nat} {ρ : Nat → Nat → Option Nat} {dm : List Nat} {n d N : Nat} {v : xV} {h : xH}
theorem m_play {T a b : Nat} {P : Option Value → xH → Prop} (hT : T ≤ 3) (hN : N + 5000 < 2 ^ 60) : ∀ k l, l + (k + 1) = T → ∀ (F : Nat → Nat → Int32) (v : xV) (s : Int) l5 l6, v_M (F 501) (2784 + 96 * l) v → v_Bn (N + 1000 * l) v → a < v 2 0 0 → b < v 2 0 0 → F 514 l = iI s → (-(99 * (l : Int)) ≤ s ∧ s ≤ 99 * (l : Int)) → F 512 l = -1 → F 513 l = 1000000 → (∀ F' l5 l6, x_fr l F F' → F' 512 l = nI (v 1 0 0) → F' 513 l = y_cm l s (y_gm (v_gain (v_lead k) v (x_mv l a b) (x_mv (l + 1) a b)) (v 1 0 0 + 1)) → (l = 0 → ∀ c, y_gm (v_gain (v_lead k) v (x_mv l a b) (x_mv (l + 1) a b)) (v 1 0 0 + 1) = some c → F' 500 31 = nI c.2) → x_J 306 (d + 6) P 50 [some (.ref 500), some (.int (nI a)), some (.int (nI b)), some (.int (nI T)), some (.int (nI l)), l5, l6] [] (F', g, x_HR r t, dm, n) 0 0) → x_J 306 (d + 6) P 50 [some (.ref 500), some (.int (nI a)), some (.int (nI b)), some (.int (nI T)), some (.int (nI l)), l5, l6] [] (F, g, x_HR r t, dm, n) 0 0 := by
  intro k
  induction k with
  | zero =>
    intro l hl F v s l5 l6 hM hBn ha hb hs0 hs hd hc0 K
    have hm2 : x_mv l a b < v 2 0 0 := by unfold x_mv; split <;> assumption
    have hr2 : x_mv (l + 1) a b < v 2 0 0 := by unfold x_mv; split <;> assumption
    refine m_play1 hT hl hN hM hBn ha hb hs0 hs hd hc0 ?_ K l5 l6
    intro j F3 w val x l6 hj a1 a2 a3 a4 hMw hBw haw hbw hw1 v0 v99 hx cont
    have hx : x = val - 0 := hx
    have ev : y_its l s val = y_its l s x := by rw [hx, Int.sub_zero]
    refine x_wp_ok ok306 [50] 6 ?_
    refine And.intro (fun c => ?_) (fun c => ?_)
    · have mw := m_weighs (d := d + 5) (g := g) (r := r) (t := t) (dm := dm) (n := n) (x := x) (j := j) (show l < 4 by omega) a3 (by omega) (by omega) (fun c hc => v_gain_le (by omega) (by omega) hBn hm2 hr2 (y_gm_mem j c hc).1) a2 a4
      rw [← ev] at mw
      refine Exists.intro _ (And.intro mw (And.intro (And.intro (Nat.zero_le _) (Nat.zero_le _)) (fun q h' hpo => ?_)))
      obtain ⟨rfl, F4, rfl, w1, w2, w3, w4, w5, w6⟩ := hpo
      exact cont F4 _ _ (x_fr_tr a1 ⟨fun i hi => ⟨by rw [w2 512 (by decide) (by decide)], w3 i (by omega), by rw [w2 514 (by decide) (by decide)]⟩, by rw [w2 514 (by decide) (by decide)], fun q _ _ => by rw [w2 501 (by decide) (by decide)], fun q hq => by have := x_mk_ne hq; exact w2 q (by omega) (by omega), w4, w5⟩) (by rw [w2 512 (by decide) (by decide)]; exact a2) w1 w6
    · have c : ¬ nI T ≤ nI l + 1 := c
      rw [nI_1, nI_leI (by omega) (by omega)] at c
      omega
  | succ k ihk =>
    intro l hl F v s l5 l6 hM hBn ha hb hs0 hs hd hc0 K
    have hm2 : x_mv l a b < v 2 0 0 := by unfold x_mv; split <;> assumption
    have hr2 : x_mv (l + 1) a b < v 2 0 0 := by unfold x_mv; split <;> assumption
    have hl5 : l + 1 ≤ 5 := by clear hs hs0 hd hc0 K ihk hm2 hr2; omega
    have hNl : N + 1000 * (l + 1) < 2 ^ 60 := Nat.lt_of_le_of_lt (Nat.add_le_add_left (Nat.mul_le_mul_left 1000 hl5) N) hN
    refine m_play1 hT hl hN hM hBn ha hb hs0 hs hd hc0 ?_ K l5 l6
    intro j F3 w val x l6 hj a1 a2 a3 a4 hMw hBw haw hbw hw1 v0 v99 hx cont
    have hBw' := v_Bn_B hBw hNl
    have bGw := v_B_G hBw'
    have hs' : -(99 * ((l + 1 : Nat) : Int)) ≤ y_its l s val ∧ y_its l s val ≤ 99 * ((l + 1 : Nat) : Int) := by
      unfold y_its
      split <;> omega
    refine x_wp_ok ok306 [50] 6 ?_
    refine And.intro (fun c => ?_) (fun c => ?_)
    · have c : nI T ≤ nI l + 1 := c
      rw [nI_1, nI_leI (by omega) (by omega)] at c
      omega
    · refine And.intro (by show x_ix (nI l + 1) 4; rw [nI_1]; exact x_ix_nI (by omega) (by omega)) ?_
      rw [nI_1o, nI_clamp (by omega)]
      refine And.intro (x_ix_nI (by omega) (by omega)) ?_
      rw [nI_clamp (by omega)]
      refine And.intro (x_ix_nI (by omega) (by omega)) ?_
      rw [nI_clamp (by omega)]
      refine Exists.intro _ (And.intro m_levelAt (And.intro (And.intro (Nat.zero_le _) (Nat.zero_le _)) (fun q h' hpo => ?_)))
      obtain ⟨rfl, rfl⟩ := hpo
      refine Exists.intro _ (And.intro (m_keeps (show 96 ≤ 2784 + 96 * (l + 1) by omega) (by omega)) (And.intro (And.intro (Nat.zero_le _) (Nat.zero_le _)) (fun q h' hpo => ?_)))
      obtain ⟨rfl, F5, rfl, k1, k2⟩ := hpo
      have z512 : ∀ i, F5 512 i = if i = l + 1 then -1 else F3 512 i := fun i => by
        rw [k1 512 (by decide)]
        show x_up (x_up (x_up F3 512 (l + 1) (-1)) 513 (l + 1) 1000000) 514 (l + 1) (iI (y_its l s val)) 512 i = _
        rw [x_up_k (by decide), x_up_k (by decide)]
        by_cases hi : i = l + 1
        · rw [hi, x_up_s, if_pos rfl]
        · rw [x_up_j hi, if_neg hi]
      have z513 : ∀ i, F5 513 i = if i = l + 1 then 1000000 else F3 513 i := fun i => by
        rw [k1 513 (by decide)]
        show x_up (x_up (x_up F3 512 (l + 1) (-1)) 513 (l + 1) 1000000) 514 (l + 1) (iI (y_its l s val)) 513 i = _
        rw [x_up_k (by decide)]
        by_cases hi : i = l + 1
        · rw [hi, x_up_s, if_pos rfl]
        · rw [x_up_j hi, if_neg hi, x_up_k (by decide)]
      have z514 : ∀ i, F5 514 i = if i = l + 1 then iI (y_its l s val) else F3 514 i := fun i => by
        rw [k1 514 (by decide)]
        show x_up (x_up (x_up F3 512 (l + 1) (-1)) 513 (l + 1) 1000000) 514 (l + 1) (iI (y_its l s val)) 514 i = _
        by_cases hi : i = l + 1
        · rw [hi, x_up_s, if_pos rfl]
        · rw [x_up_j hi, if_neg hi, x_up_k (by decide), x_up_k (by decide)]
      have zk : ∀ q, q ≠ 501 → q ≠ 512 → q ≠ 513 → q ≠ 514 → F5 q = F3 q := fun q h1 h2 h3 h4 => by
        rw [k1 q h1]
        show x_up (x_up (x_up F3 512 (l + 1) (-1)) 513 (l + 1) 1000000) 514 (l + 1) (iI (y_its l s val)) q = _
        rw [x_up_k h4, x_up_k h3, x_up_k h2]
      have z501 : ∀ q, F5 501 q = if 2784 + 96 * (l + 1) ≤ q ∧ q < 2784 + 96 * (l + 1) + 96 then F3 501 (q - (2784 + 96 * (l + 1))) else F3 501 q := fun q => by
        rw [k2 q]
        show (if _ then x_up (x_up (x_up F3 512 (l + 1) (-1)) 513 (l + 1) 1000000) 514 (l + 1) (iI (y_its l s val)) 501 _ else x_up (x_up (x_up F3 512 (l + 1) (-1)) 513 (l + 1) 1000000) 514 (l + 1) (iI (y_its l s val)) 501 _) = _
        rw [x_up_k (by decide), x_up_k (by decide), x_up_k (by decide)]
      have fr5 : x_fr l F3 F5 := ⟨fun i hi => ⟨by rw [z512, if_neg (by omega)], by rw [z513, if_neg (by omega)], by rw [z514, if_neg (by omega)]⟩, by rw [z514, if_neg (by omega)], fun q _ hq => by rw [z501, if_neg (by omega)], fun q hq => by have := x_mk_ne hq; exact zk q (by omega) (by omega) (by omega) (by omega), fun q _ => by rw [zk 500 (by decide) (by decide) (by decide) (by decide)], fun _ => by rw [zk 500 (by decide) (by decide) (by decide) (by decide)]⟩
      refine ihk (l + 1) (by omega) F5 w (y_its l s val) _ _ (v_M_mv hBw' hMw (fun q hq => by rw [z501, if_pos (by omega), Nat.zero_add, Nat.add_sub_cancel_left])) hBw haw hbw (by rw [z514, if_pos rfl]) hs' (by rw [z512, if_pos rfl]) (by rw [z513, if_pos rfl]) ?_
      intro F6 l5' l6' g1 g2 g3 g4
      have hrw : x_mv (l + 1) a b < w 2 0 0 := by unfold x_mv; split <;> assumption
      have hmw : x_mv l a b < w 2 0 0 := by unfold x_mv; split <;> assumption
      obtain ⟨cc, cc1, cc2⟩ := v_gm_some (v_lead k) w (x_mv (l + 1) a b) (x_mv (l + 1 + 1) a b)
      rw [cc1] at g3
      rw [x_mv_2, ← v_lead_S] at cc2
      have hlw := v_lead_le hNl (k + 1) w hBw (x_mv (l + 1) a b) (x_mv l a b) hrw hmw
      have g3' : F6 513 (l + 1) = iI (y_its l s x) := by
        rw [g3]
        show iI (y_its (l + 1) (y_its l s val) cc.1) = _
        rw [y_its_ch, cc2, hx]
      refine x_wp_ok ok306 [50] 8 ?_
      refine And.intro (fun c0 => ?_) (fun c0 => ?_)
      · have c0 : nI (l + 1) < nI 0 := c0
        rw [nI_ltI (by omega) (by decide)] at c0
        omega
      · refine Exists.intro _ (And.intro m_levelAt (And.intro (And.intro (Nat.zero_le _) (Nat.zero_le _)) (fun q h' hpo => ?_)))
        obtain ⟨rfl, rfl⟩ := hpo
        refine Exists.intro _ (And.intro (m_restores (show 96 ≤ 2784 + 96 * (l + 1) by omega) (by omega)) (And.intro (And.intro (Nat.zero_le _) (Nat.zero_le _)) (fun q h' hpo => ?_)))
        obtain ⟨rfl, F7, rfl, r1, r2⟩ := hpo
        have fr7 : x_fr l F F7 := x_fr_tr (x_fr_tr a1 fr5) (x_fr_tr (x_fr_dn g1) ⟨fun i hi => by rw [r1 512 (by decide), r1 513 (by decide), r1 514 (by decide)]; exact ⟨rfl, rfl, rfl⟩, by rw [r1 514 (by decide)], fun q h1 _ => by rw [r2, if_neg (by omega)], fun q hq => r1 q (by have := x_mk_ne hq; omega), fun q _ => by rw [r1 500 (by decide)], fun _ => by rw [r1 500 (by decide)]⟩)
        have h1' : F7 501 1 = nI (w 1 0 0) := by
          rw [r2, if_pos (by decide), g1.2.2.1 _ (by omega) (by omega), z501, if_pos (by omega)]
          rw [show 2784 + 96 * (l + 1) + 1 - (2784 + 96 * (l + 1)) = 1 by omega]
          exact v_M_at hMw (c := 1) (i := 0) (j := 0) ⟨rfl, rfl⟩
        have e512 : F7 512 (l + 1) + Int32.ofInt 1 = nI (w 1 0 0 + 1) := by
          rw [r1 512 (by decide), g2]
          exact nI_1 _
        refine And.intro (x_ix_nI (by omega) (by omega)) ?_
        rw [nI_clamp (by omega)]
        refine And.intro (x_ix_nI (by omega) (by omega)) ?_
        rw [nI_clamp (by omega)]
        refine And.intro (x_ix_nI (by omega) (by omega)) ?_
        rw [nI_clamp (by omega)]
        refine And.intro (x_ix_nI (j := 1) (by decide) (by decide)) ?_
        refine And.intro (fun c1 => ?_) (fun c1 => ?_)
        · have c1 : x_up F7 512 (l + 1) (F7 512 (l + 1) + Int32.ofInt 1) 512 (l + 1) ≤ x_up F7 512 (l + 1) (F7 512 (l + 1) + Int32.ofInt 1) 501 1 := c1
          rw [x_up_s, x_up_k (by decide), e512, h1', nI_leI (by omega) (by omega)] at c1
          omega
        · refine And.intro (fun c2 => ?_) (fun _ => ?_)
          · have c2 : nI (l + 1) + Int32.ofInt (-1) < nI 0 := c2
            rw [nI_m1o, nI_ltI (by omega) (by decide)] at c2
            omega
          · rw [nI_m1o]
            refine And.intro (by show x_ix (nI l + 1) 4; rw [nI_1]; exact x_ix_nI (by omega) (by omega)) ?_
            rw [nI_1o, nI_clamp (by omega)]
            have t512 : x_up F7 512 (l + 1) (F7 512 (l + 1) + Int32.ofInt 1) 512 l = nI j := by
              rw [x_up_j (by omega), r1 512 (by decide), (g1.1 l (by omega)).1, z512, if_neg (by omega)]
              exact a2
            have t513 : x_up F7 512 (l + 1) (F7 512 (l + 1) + Int32.ofInt 1) 513 l = y_cm l s (y_gm (v_gain (v_lead (k + 1)) v (x_mv l a b) (x_mv (l + 1) a b)) j) := by
              rw [x_up_k (by decide), r1 513 (by decide), (g1.1 l (by omega)).2.1, z513, if_neg (by omega)]
              exact a3
            have t500 : x_up F7 512 (l + 1) (F7 512 (l + 1) + Int32.ofInt 1) 500 31 = F3 500 31 := by
              rw [x_up_k (by decide), r1 500 (by decide), g1.2.2.2.2.2 (by omega), zk 500 (by decide) (by decide) (by decide) (by decide)]
            have hxb : -1000 ≤ x ∧ x ≤ 1000 := by rw [hx]; omega
            have mw := m_weighs (d := d + 5) (g := g) (r := r) (t := t) (dm := dm) (n := n) (x := x) (j := j) (show l < 4 by omega) t513 (by omega) hxb (fun c hc => v_gain_le (by omega) (by omega) hBn hm2 hr2 (y_gm_mem j c hc).1) t512 (fun h0 c hc => by rw [t500]; exact a4 h0 c hc)
            have e7 : x_up F7 512 (l + 1) (F7 512 (l + 1) + Int32.ofInt 1) 513 (l + 1) = iI (y_its l s x) := by
              rw [x_up_k (by decide), r1 513 (by decide)]
              exact g3'
            rw [← e7] at mw
            refine Exists.intro _ (And.intro mw (And.intro (And.intro (Nat.zero_le _) (Nat.zero_le _)) (fun q h' hpo => ?_)))
            obtain ⟨rfl, F8, rfl, w1, w2, w3, w4, w5, w6⟩ := hpo
            have fr8 : x_fr l F7 F8 := ⟨fun i hi => ⟨by rw [w2 512 (by decide) (by decide), x_up_j (by omega)], by rw [w3 i (by omega), x_up_k (by decide)], by rw [w2 514 (by decide) (by decide), x_up_k (by decide)]⟩, by rw [w2 514 (by decide) (by decide), x_up_k (by decide)], fun q _ _ => by rw [w2 501 (by decide) (by decide), x_up_k (by decide)], fun q hq => by have := x_mk_ne hq; rw [w2 q (by omega) (by omega), x_up_k (by omega)], fun q hq => by rw [w4 q hq, x_up_k (by decide)], fun hq => by rw [w5 hq, x_up_k (by decide)]⟩
            exact cont F8 _ _ (x_fr_tr fr7 fr8) (by rw [w2 512 (by decide) (by decide)]; exact t512) w1 w6
def x_PY (f : Nat → Nat → Int32) (g : Nat → Nat → Int64) (ρ : Nat → Nat → Option Nat) (dm : List Nat) (n : Nat) (v : xV) (T a b : Nat) : Option Value → xH → Prop := fun q h' => q = some (.int (iI (v_lead T v a b))) ∧ ∃ F, h' = (F, g, ρ, dm, n) ∧ (∀ j, j < 1856 → F 501 j = f 501 j) ∧ (∀ j, j ≠ 31 → F 500 j = f 500 j) ∧ (∀ k, x_mk k = false → F k = f k) ∧ ∀ T', T = T' + 1 → ∀ c, y_gm (v_gain (v_lead T') v a b) (v 1 0 0 + 1) = some c → F 500 31 = nI c.2
theorem m_playing {T a b : Nat} (hT : T ≤ 3) (hN : N + 5000 < 2 ^ 60) (hM : v_M (f 501) 0 v) (hBn : v_Bn N v) (ha : a < v 2 0 0) (hb : b < v 2 0 0) : x_Ct 306 (d + 6) [.ref 500, .int (nI a), .int (nI b), .int (nI T)] (f, g, x_HR r t, dm, n) (x_PY f g (x_HR r t) dm n v T a b) := by
  have hB := v_Bn_B hBn (by omega)
  have bK := v_B_K hB
  have bG := v_B_G hB
  have bP := v_B_P hB
  refine x_Ct_w (by decide) (Nat.le_of_ble_eq_true rfl) ok306 [50] 6 ?_
  refine And.intro (x_ix_nI (j := 1) (by decide) (by decide)) ?_
  refine And.intro (fun c => ?_) (fun c => ?_)
  · have c : ¬ nI T = nI 0 := c
    rw [nI_eq (by omega) (by decide)] at c
    obtain ⟨k, rfl⟩ : ∃ k, T = k + 1 := ⟨T - 1, by omega⟩
    refine And.intro (x_ix_nI (j := 0) (by decide) (by decide)) ?_
    refine And.intro (x_ix_nI (j := 0) (by decide) (by decide)) ?_
    refine And.intro (x_ix_nI (j := 0) (by decide) (by decide)) ?_
    refine Exists.intro _ (And.intro (m_levelAt (l := 0)) (And.intro (And.intro (Nat.zero_le _) (Nat.zero_le _)) (fun q h' hpo => ?_)))
    obtain ⟨rfl, rfl⟩ := hpo
    refine Exists.intro _ (And.intro (m_keeps (b := 2784 + 96 * 0) (by decide) (by decide)) (And.intro (And.intro (Nat.zero_le _) (Nat.zero_le _)) (fun q h' hpo => ?_)))
    obtain ⟨rfl, F5, rfl, k1, k2⟩ := hpo
    have zs : ∀ q, q ≠ 501 → F5 q = x_up (x_up (x_up (x_up f 500 31 (f 501 1)) 512 0 (-1)) 513 0 1000000) 514 0 (iI 0) q := fun q hq => k1 q hq
    have z501 : ∀ q, F5 501 q = if 2784 ≤ q ∧ q < 2784 + 96 then f 501 (q - 2784) else f 501 q := fun q => by
      rw [k2 q]
      show (if _ then x_up (x_up (x_up (x_up f 500 31 (f 501 1)) 512 0 (-1)) 513 0 1000000) 514 0 (iI 0) 501 _ else x_up (x_up (x_up (x_up f 500 31 (f 501 1)) 512 0 (-1)) 513 0 1000000) 514 0 (iI 0) 501 _) = _
      rw [x_up_k (by decide), x_up_k (by decide), x_up_k (by decide), x_up_k (by decide)]
    refine m_play (d := d) (P := x_PY f g (x_HR r t) dm n v (k + 1) a b) hT hN k 0 (by omega) F5 v 0 _ _ (v_M_mv hB hM (fun q hq => by rw [z501, if_pos (by omega), Nat.zero_add, show 2784 + 96 * 0 + q - 2784 = q by omega])) hBn ha hb (by rw [zs 514 (by decide), x_up_s]) (by decide) (by rw [zs 512 (by decide), x_up_k (by decide), x_up_k (by decide), x_up_s]) (by rw [zs 513 (by decide), x_up_k (by decide), x_up_s]) ?_
    intro F6 l5' l6' g1 g2 g3 g4
    have hx0 : x_mv 0 a b = a := rfl
    have hx1 : x_mv (0 + 1) a b = b := rfl
    rw [hx0, hx1] at g3 g4
    obtain ⟨cc, cc1, cc2⟩ := v_gm_some (v_lead k) v a b
    rw [cc1] at g3
    rw [← v_lead_S] at cc2
    have g3' : F6 513 0 = iI (v_lead (k + 1) v a b) := by
      rw [g3]
      show iI (y_its 0 0 cc.1) = _
      rw [cc2]
      congr 1
      show (if 0 % 2 = 0 then 0 + v_lead (k + 1) v a b else 0 - v_lead (k + 1) v a b) = _
      rw [if_pos rfl, Int.zero_add]
    have fin : ∀ F7 l5 l6, (∀ q, q ≠ 501 → q ≠ 512 → F7 q = F6 q) → (∀ q, 96 ≤ q → q < 2880 → F7 501 q = F6 501 q) → x_J 306 (d + 6) (x_PY f g (x_HR r t) dm n v (k + 1) a b) 50 [some (.ref 500), some (.int (nI a)), some (.int (nI b)), some (.int (nI (k + 1))), some (.int (-1)), l5, l6] [] (F7, g, x_HR r t, dm, n) 0 0 := by
      intro F7 l5 l6 e1 e2
      refine x_wp_ok ok306 [] 6 ?_
      refine And.intro (fun _ => ?_) (fun c => absurd (show (-1 : Int32) < 0 by decide) c)
      refine Exists.intro _ (And.intro (m_levelAt (l := 0)) (And.intro (And.intro (Nat.zero_le _) (Nat.zero_le _)) (fun q h' hpo => ?_)))
      obtain ⟨rfl, rfl⟩ := hpo
      refine Exists.intro _ (And.intro (m_restores (b := 2784 + 96 * 0) (by decide) (by decide)) (And.intro (And.intro (Nat.zero_le _) (Nat.zero_le _)) (fun q h' hpo => ?_)))
      obtain ⟨rfl, F8, rfl, r1, r2⟩ := hpo
      refine And.intro (x_ix_nI (j := 0) (by decide) (by decide)) ?_
      refine And.intro ⟨?_, F8, rfl, fun j hj => ?_, fun j hj => ?_, fun q hq => ?_, fun T' hT' c hc => ?_⟩ ⟨trivial, Nat.le_refl _, Nat.le_refl _⟩
      · have e : F8 513 0 = iI (v_lead (k + 1) v a b) := by rw [r1 513 (by decide), e1 513 (by decide) (by decide)]; exact g3'
        exact congrArg (fun z => some (Value.int z)) e
      · rw [r2]
        by_cases h9 : j < 96
        · rw [if_pos h9, e2 _ (by omega) (by omega), g1.2.2.1 _ (by omega) (by omega), z501, if_pos (by omega), show 2784 + 96 * 0 + j - 2784 = j by omega]
        · rw [if_neg h9, e2 _ (by omega) (by omega), g1.2.2.1 _ (by omega) (by omega), z501, if_neg (by omega)]
      · rw [r1 500 (by decide), e1 500 (by decide) (by decide), g1.2.2.2.2.1 j hj, zs 500 (by decide), x_up_k (by decide), x_up_k (by decide), x_up_k (by decide), x_up_j hj]
      · have := x_mk_ne hq
        rw [r1 q (by omega), e1 q (by omega) (by omega), g1.2.2.2.1 q hq, zs q (by omega), x_up_k (by omega), x_up_k (by omega), x_up_k (by omega), x_up_k (by omega)]
      · obtain rfl : k = T' := by omega
        rw [r1 500 (by decide), e1 500 (by decide) (by decide)]
        exact g4 rfl c hc
    refine x_wp_ok ok306 [50] 8 ?_
    refine And.intro (fun c0 => ?_) (fun c0 => ?_)
    · exact absurd c0 (by decide)
    · refine Exists.intro _ (And.intro (m_levelAt (l := 0)) (And.intro (And.intro (Nat.zero_le _) (Nat.zero_le _)) (fun q h' hpo => ?_)))
      obtain ⟨rfl, rfl⟩ := hpo
      refine Exists.intro _ (And.intro (m_restores (b := 2784 + 96 * 0) (by decide) (by decide)) (And.intro (And.intro (Nat.zero_le _) (Nat.zero_le _)) (fun q h' hpo => ?_)))
      obtain ⟨rfl, F7, rfl, r1, r2⟩ := hpo
      have h1' : F7 501 1 = nI (v 1 0 0) := by
        rw [r2, if_pos (by decide), g1.2.2.1 _ (by decide) (by decide), z501, if_pos (by decide)]
        exact v_M_at hM (c := 1) (i := 0) (j := 0) ⟨rfl, rfl⟩
      have e512 : F7 512 0 + Int32.ofInt 1 = nI (v 1 0 0 + 1) := by
        rw [r1 512 (by decide), g2]
        exact nI_1 _
      refine And.intro (x_ix_nI (j := 0) (by decide) (by decide)) ?_
      refine And.intro (x_ix_nI (j := 0) (by decide) (by decide)) ?_
      refine And.intro (x_ix_nI (j := 0) (by decide) (by decide)) ?_
      refine And.intro (x_ix_nI (j := 1) (by decide) (by decide)) ?_
      refine And.intro (fun c1 => ?_) (fun c1 => ?_)
      · have c1 : x_up F7 512 0 (F7 512 0 + Int32.ofInt 1) 512 0 ≤ x_up F7 512 0 (F7 512 0 + Int32.ofInt 1) 501 1 := c1
        rw [x_up_s, x_up_k (by decide), e512, h1', nI_leI (by omega) (by omega)] at c1
        omega
      · refine And.intro (fun _ => ?_) (fun c2 => absurd (show nI 0 + Int32.ofInt (-1) < nI 0 by decide) c2)
        exact fin (x_up F7 512 0 (F7 512 0 + Int32.ofInt 1)) _ _ (fun q h1 h2 => by rw [x_up_k h2]; exact r1 q h1) (fun q h1 h2 => by rw [x_up_k (by decide), r2, if_neg (by omega)])
  · have c : nI T = nI 0 := c
    rw [nI_eq (by omega) (by decide)] at c
    subst c
    refine And.intro ⟨rfl, _, rfl, fun j _ => ?_, fun j hj => ?_, fun q hq => ?_, fun T' hT' => by omega⟩ ⟨trivial, Nat.le_refl _, Nat.le_refl _⟩
    · show x_up f 500 31 _ 501 j = _
      rw [x_up_k (by decide)]
    · show x_up f 500 31 _ 500 j = _
      rw [x_up_j hj]
    · have := x_mk_ne hq
      show x_up f 500 31 _ q = _
      rw [x_up_k (by omega)]
theorem x_PM_Y {F : Nat → Nat → Int32} {w : Value} {s : Int32} (hM : v_M (f 501) 0 v) (hB : v_B v) (h1 : ∀ j, j < 1856 → F 501 j = f 501 j) (h2 : ∀ j, j ≠ 31 → F 500 j = f 500 j) (h3 : ∀ k, x_mk k = false → F k = f k) : x_PM f g ρ dm n (w, s, v) (some w) (x_up F 500 2 s, g, ρ, dm, n) := by
  refine ⟨_, _, rfl, rfl, ?_, fun j a b => ?_, ?_, x_up_s _ _ _ _, fun j hj hj2 hj3 => ?_, fun k hk => ?_, fun _ _ => rfl⟩
  · rw [x_up_k (by decide)]; exact v_M_mv hB hM (fun q hq => h1 _ (by omega))
  · rw [x_up_k (by decide)]; exact h1 j b
  · rw [x_up_k (by decide)]; exact h1 11 (by decide)
  · rw [x_up_j hj]; exact h2 j hj3
  · have := x_mk_ne hk
    rw [x_up_k (by omega), h3 k hk]
theorem m_isGame {x y z : Int32} {lo : Int32} (hM : v_M (f 501) 0 v) (hB : v_B v) : x_V 307 (d + 1) [.ref 500, .int x, .int y, .int z, .int lo] (f, g, x_HR r t, dm, n) (.int (x_bo ((x_ixb x (v 2 0 0) && (x_ixb y (v 2 0 0) && decide (x ≠ y))) && x_wi z lo 3))) (f, g, x_HR r t, dm, n) := by
  have bK := v_B_K hB
  have bG := v_B_G hB
  have bP := v_B_P hB
  have o2 : v_ok v 2 0 0 := ⟨rfl, rfl⟩
  have h2 : f 501 2 = nI (v 2 0 0) := v_M_at hM o2
  have b2 : v 2 0 0 ≤ 5 := (hB.1 2 0 0 o2).2
  have e1 : x_wl z.toInt64 lo.toInt64 3 = x_wi z lo 3 := x_wl_wi (Int32.toInt_toInt64 lo) rfl
  refine x_Ct_w (by decide) (Nat.le_of_ble_eq_true rfl) ok307 [] 6 ?_
  refine Exists.intro _ (And.intro (m_isPerson h2 (by omega)) (And.intro (And.intro (Nat.zero_le _) (Nat.zero_le _)) (fun q h' hpo => ?_)))
  obtain ⟨rfl, rfl⟩ := hpo
  cases hx : x_ixb x (v 2 0 0) with
  | false =>
    refine And.intro (fun _ => ?_) (fun c => absurd rfl c)
    exact And.intro ⟨rfl, rfl⟩ ⟨Or.inl rfl, Nat.le_refl _, Nat.le_refl _⟩
  | true =>
    refine And.intro (fun c => absurd c (by decide)) (fun _ => ?_)
    refine Exists.intro _ (And.intro (m_isPerson h2 (by omega)) (And.intro (And.intro (Nat.zero_le _) (Nat.zero_le _)) (fun q h' hpo => ?_)))
    obtain ⟨rfl, rfl⟩ := hpo
    cases hy : x_ixb y (v 2 0 0) with
    | false =>
      refine And.intro (fun _ => ?_) (fun c => absurd rfl c)
      exact And.intro ⟨rfl, rfl⟩ ⟨Or.inl rfl, Nat.le_refl _, Nat.le_refl _⟩
    | true =>
      refine And.intro (fun c => absurd c (by decide)) (fun _ => ?_)
      refine And.intro (fun c => ?_) (fun c => ?_)
      · have c : x = y := c
        exact And.intro ⟨(by rw [decide_eq_false (not_not_intro c)]; rfl), rfl⟩ ⟨Or.inl rfl, Nat.le_refl _, Nat.le_refl _⟩
      · have c : ¬ x = y := c
        rw [decide_eq_true (p := x ≠ y) c]
        refine Exists.intro _ (And.intro (m_isFrom (x := z.toInt64) (lo := lo.toInt64) (hi := 3)) (And.intro (And.intro (Nat.zero_le _) (Nat.zero_le _)) (fun q h' hpo => ?_)))
        obtain ⟨rfl, rfl⟩ := hpo
        rw [e1]
        cases hz : x_wi z lo 3 with
        | false =>
          refine And.intro (fun _ => ?_) (fun c => absurd rfl c)
          exact And.intro ⟨rfl, rfl⟩ ⟨Or.inl rfl, Nat.le_refl _, Nat.le_refl _⟩
        | true =>
          refine And.intro (fun c => absurd c (by decide)) (fun _ => ?_)
          exact And.intro ⟨rfl, rfl⟩ ⟨Or.inr rfl, Nat.le_refl _, Nat.le_refl _⟩
theorem m_game {x y z : Int32} (hM : v_M (f 501) 0 v) (hBn : v_Bn N v) (hN : N + 5000 < 2 ^ 60) : x_Ct 308 (d + 7) [.ref 500, .int x, .int y, .int z] (f, g, x_HR r t, dm, n) (x_PM f g (x_HR r t) dm n (sp_game v x y z)) := by
  have hB := v_Bn_B hBn (by omega)
  have bK := v_B_K hB
  have bG := v_B_G hB
  have bP := v_B_P hB
  unfold sp_game
  refine x_Ct_w (by decide) (Nat.le_of_ble_eq_true rfl) ok308 [] 6 ?_
  refine Exists.intro _ (And.intro (m_isGame (lo := 0) hM hB) (And.intro (And.intro (Nat.zero_le _) (Nat.zero_le _)) (fun q h' hpo => ?_)))
  obtain ⟨rfl, rfl⟩ := hpo
  cases hb : ((x_ixb x (v 2 0 0) && (x_ixb y (v 2 0 0) && decide (x ≠ y))) && x_wi z 0 3) with
  | false =>
    refine And.intro (fun c => absurd rfl c) (fun _ => ?_)
    refine Exists.intro _ (And.intro m_refuse (And.intro (And.intro (Nat.zero_le _) (Nat.zero_le _)) (fun q h' hpo => ?_)))
    obtain ⟨rfl, rfl⟩ := hpo
    refine And.intro ?_ ⟨trivial, Nat.le_refl _, Nat.le_refl _⟩
    exact x_PM_0 hM
  | true =>
    refine And.intro (fun _ => ?_) (fun c => absurd c (by decide))
    simp only [Bool.and_eq_true] at hb
    obtain ⟨p, hp, rfl⟩ := x_ixb_t hb.1.1 (by omega)
    obtain ⟨q, hq, rfl⟩ := x_ixb_t hb.1.2.1 (by omega)
    obtain ⟨T, hT1, hT, rfl⟩ := x_wi_t (lo := 0) (hi := 3) hb.2 (by decide) (by decide)
    rw [x_c, x_c, x_c, nI_clamp (by omega), nI_clamp (by omega), nI_clamp (by omega)]
    refine Exists.intro _ (And.intro (m_playing hT hN hM hBn hp hq) (And.intro (And.intro (Nat.zero_le _) (Nat.zero_le _)) (fun q h' hpo => ?_)))
    obtain ⟨rfl, F, rfl, p1, p2, p3, p4⟩ := hpo
    refine Exists.intro _ (And.intro m_gives (And.intro (And.intro (Nat.zero_le _) (Nat.zero_le _)) (fun q h' hpo => ?_)))
    obtain ⟨rfl, rfl⟩ := hpo
    refine And.intro ?_ ⟨trivial, Nat.le_refl _, Nat.le_refl _⟩
    exact x_PM_Y hM hB p1 p2 p3
theorem m_moveOf {x y z : Int32} (hM : v_M (f 501) 0 v) (hBn : v_Bn N v) (hN : N + 5000 < 2 ^ 60) : x_Ct 309 (d + 7) [.ref 500, .int x, .int y, .int z] (f, g, x_HR r t, dm, n) (x_PM f g (x_HR r t) dm n (sp_moveOf v x y z)) := by
  have hB := v_Bn_B hBn (by omega)
  have bK := v_B_K hB
  have bG := v_B_G hB
  have bP := v_B_P hB
  have o1 : v_ok v 1 0 0 := ⟨rfl, rfl⟩
  have h1 : f 501 1 = nI (v 1 0 0) := v_M_at hM o1
  have b1 : v 1 0 0 ≤ 5 := (hB.1 1 0 0 o1).2
  unfold sp_moveOf
  refine x_Ct_w (by decide) (Nat.le_of_ble_eq_true rfl) ok309 [] 6 ?_
  refine Exists.intro _ (And.intro (m_isGame (lo := 1) hM hB) (And.intro (And.intro (Nat.zero_le _) (Nat.zero_le _)) (fun q h' hpo => ?_)))
  obtain ⟨rfl, rfl⟩ := hpo
  cases hb : ((x_ixb x (v 2 0 0) && (x_ixb y (v 2 0 0) && decide (x ≠ y))) && x_wi z 1 3) with
  | false =>
    refine And.intro (fun c => absurd rfl c) (fun _ => ?_)
    refine Exists.intro _ (And.intro m_refuse (And.intro (And.intro (Nat.zero_le _) (Nat.zero_le _)) (fun q h' hpo => ?_)))
    obtain ⟨rfl, rfl⟩ := hpo
    refine And.intro ?_ ⟨trivial, Nat.le_refl _, Nat.le_refl _⟩
    exact x_PM_0 hM
  | true =>
    refine And.intro (fun _ => ?_) (fun c => absurd c (by decide))
    simp only [Bool.and_eq_true] at hb
    obtain ⟨p, hp, rfl⟩ := x_ixb_t hb.1.1 (by omega)
    obtain ⟨q, hq, rfl⟩ := x_ixb_t hb.1.2.1 (by omega)
    obtain ⟨T, hT1, hT, rfl⟩ := x_wi_t (lo := 1) (hi := 3) hb.2 (by decide) (by decide)
    rw [x_c, x_c, x_c, nI_clamp (by omega), nI_clamp (by omega), nI_clamp (by omega)]
    obtain ⟨T, rfl⟩ : ∃ T', T = T' + 1 := ⟨T - 1, by omega⟩
    rw [Nat.add_sub_cancel]
    refine Exists.intro _ (And.intro (m_playing hT hN hM hBn hp hq) (And.intro (And.intro (Nat.zero_le _) (Nat.zero_le _)) (fun q h' hpo => ?_)))
    obtain ⟨rfl, F, rfl, p1, p2, p3, p4⟩ := hpo
    obtain ⟨cc, cc1, -⟩ := v_gm_some (v_lead T) v p q
    have h31 : F 500 31 = nI cc.2 := p4 T rfl cc cc1
    have hcl := (y_gm_mem _ cc cc1).2
    have h1' : F 501 1 = nI (v 1 0 0) := by rw [p1 1 (by decide)]; exact h1
    have es : s_move v T p q = if cc.2 = v 1 0 0 then none else some (nI cc.2, v) := by
      unfold s_move
      rw [cc1]
    rw [es]
    refine And.intro (x_ix_nI (j := 1) (by decide) (by decide)) ?_
    refine And.intro (fun c => ?_) (fun c => ?_)
    · have c : ¬ F 500 31 = F 501 1 := c
      rw [h31, h1', nI_eq (by omega) (by omega)] at c
      rw [if_neg c]
      refine Exists.intro _ (And.intro m_gives (And.intro (And.intro (Nat.zero_le _) (Nat.zero_le _)) (fun q h' hpo => ?_)))
      obtain ⟨rfl, rfl⟩ := hpo
      refine And.intro ?_ ⟨trivial, Nat.le_refl _, Nat.le_refl _⟩
      rw [← h31]
      exact x_PM_Y hM hB p1 p2 p3
    · have c : F 500 31 = F 501 1 := c
      rw [h31, h1', nI_eq (by omega) (by omega)] at c
      rw [if_pos c]
      refine Exists.intro _ (And.intro m_refuse (And.intro (And.intro (Nat.zero_le _) (Nat.zero_le _)) (fun q h' hpo => ?_)))
      obtain ⟨rfl, rfl⟩ := hpo
      refine And.intro ?_ ⟨trivial, Nat.le_refl _, Nat.le_refl _⟩
      exact x_PM_Y hM hB p1 p2 p3
end C51
