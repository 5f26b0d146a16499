section C38
variable {f : Nat → Nat → Int32} {g : Nat → Nat → Int64} {r t : Nat} {ρ : Nat → Nat → Option Nat} {dm : List Nat} {n d N : Nat} {v : xV} {h : xH}
theorem c_buy_12 {x y z : Int32} (hC : v_C f g 12 v) (hBn : v_Bn N v) (hN : N + 1000 < 2 ^ 60) : x_Ct 117 (d + 4) [.ref 0, .int x, .int y, .int z] (f, g, x_HR 12 t, dm, n) (x_PC f g 12 (x_HR 12 t) dm n (sp_buy v x y z)) := by
  have hB := v_Bn_B hBn (by omega)
  have bK := v_B_K hB
  have bG := v_B_G hB
  have bP := v_B_P hB
  have o1 : v_ok v 1 0 0 := ⟨rfl, rfl⟩
  have h1 : f 12 1 = nI (v 1 0 0) := hC.1 1 0 0 o1
  have b1 : v 1 0 0 ≤ 5 := (hB.1 1 0 0 o1).2
  have o2 : v_ok v 2 0 0 := ⟨rfl, rfl⟩
  have h2 : f 12 2 = nI (v 2 0 0) := hC.1 2 0 0 o2
  have b2 : v 2 0 0 ≤ 5 := (hB.1 2 0 0 o2).2
  unfold sp_buy
  refine x_Ct_w (by decide) (Nat.le_of_ble_eq_true rfl) ok117 [] 8 ?_
  refine Exists.intro _ (And.intro (c_hasPerson rfl h2 bP) (And.intro (And.intro (Nat.zero_le _) (Nat.zero_le _)) (fun q h' hpo => ?_)))
  obtain ⟨rfl, rfl⟩ := hpo
  cases hx : x_ixb x (v 2 0 0) with
  | false =>
    refine And.intro (fun _ => ?_) (fun c => absurd rfl c)
    refine Exists.intro _ (And.intro c_refuse (And.intro (And.intro (Nat.zero_le _) (Nat.zero_le _)) (fun q h' hpo => ?_)))
    obtain ⟨rfl, rfl⟩ := hpo
    refine And.intro ?_ ⟨trivial, Nat.le_refl _, Nat.le_refl _⟩
    exact x_PC_0 (by decide) hC
  | true =>
    refine And.intro (fun c => absurd c (by decide)) (fun _ => ?_)
    refine Exists.intro _ (And.intro (c_hasGood rfl h1 bG) (And.intro (And.intro (Nat.zero_le _) (Nat.zero_le _)) (fun q h' hpo => ?_)))
    obtain ⟨rfl, rfl⟩ := hpo
    cases hy : x_ixb y (v 1 0 0) with
    | false =>
      refine And.intro (fun _ => ?_) (fun c => absurd rfl c)
      refine Exists.intro _ (And.intro c_refuse (And.intro (And.intro (Nat.zero_le _) (Nat.zero_le _)) (fun q h' hpo => ?_)))
      obtain ⟨rfl, rfl⟩ := hpo
      refine And.intro ?_ ⟨trivial, Nat.le_refl _, Nat.le_refl _⟩
      exact x_PC_0 (by decide) hC
    | true =>
      refine And.intro (fun c => absurd c (by decide)) (fun _ => ?_)
      refine Exists.intro _ (And.intro c_isAmount (And.intro (And.intro (Nat.zero_le _) (Nat.zero_le _)) (fun q h' hpo => ?_)))
      obtain ⟨rfl, rfl⟩ := hpo
      cases hz : x_wi z 1 999 with
      | false =>
        refine And.intro (fun c => absurd rfl c) (fun _ => ?_)
        refine Exists.intro _ (And.intro c_refuse (And.intro (And.intro (Nat.zero_le _) (Nat.zero_le _)) (fun q h' hpo => ?_)))
        obtain ⟨rfl, rfl⟩ := hpo
        refine And.intro ?_ ⟨trivial, Nat.le_refl _, Nat.le_refl _⟩
        exact x_PC_0 (by decide) hC
      | true =>
        refine And.intro (fun _ => ?_) (fun c => absurd c (by decide))
        obtain ⟨p, hp, rfl⟩ := x_ixb_t hx (by omega)
        obtain ⟨i, hi, rfl⟩ := x_ixb_t hy (by omega)
        obtain ⟨m, hm1, hm, rfl⟩ := x_wi_t (lo := 1) (hi := 999) hz (by decide) (by decide)
        rw [x_c, x_c, x_c, nI_clamp (by omega), nI_clamp (by omega), nI_clamp (by omega)]
        refine Exists.intro _ (And.intro (c_wayToBuy_12 hC hB hp hi hm) (And.intro (And.intro (Nat.zero_le _) (Nat.zero_le _)) (fun q h' hpo => ?_)))
        obtain ⟨rfl, G, rfl, hG⟩ := hpo
        have hL := x_LC_G (L := 12) (by decide) hG hC
        refine Exists.intro _ (And.intro (c_purchase_12 hL.1 hBn hN hp hi hm1 hm) (And.intro (And.intro (Nat.zero_le _) (Nat.zero_le _)) (fun q h' hpo => ?_)))
        obtain ⟨F, G', rfl, rfl, hF⟩ := hpo
        refine Exists.intro _ (And.intro c_ifDone (And.intro (And.intro (Nat.zero_le _) (Nat.zero_le _)) (fun q h' hpo => ?_)))
        obtain ⟨rfl, rfl⟩ := hpo
        refine And.intro ?_ ⟨trivial, Nat.le_refl _, Nat.le_refl _⟩
        exact x_PC_done (by decide) s_buy_ne (x_LC_tr hL hF)
theorem c_sell_12 {x y z : Int32} (hC : v_C f g 12 v) (hBn : v_Bn N v) (hN : N + 1000 < 2 ^ 60) : x_Ct 118 (d + 4) [.ref 0, .int x, .int y, .int z] (f, g, x_HR 12 t, dm, n) (x_PC f g 12 (x_HR 12 t) dm n (sp_sell v x y z)) := by
  have hB := v_Bn_B hBn (by omega)
  have bK := v_B_K hB
  have bG := v_B_G hB
  have bP := v_B_P hB
  have o1 : v_ok v 1 0 0 := ⟨rfl, rfl⟩
  have h1 : f 12 1 = nI (v 1 0 0) := hC.1 1 0 0 o1
  have b1 : v 1 0 0 ≤ 5 := (hB.1 1 0 0 o1).2
  have o2 : v_ok v 2 0 0 := ⟨rfl, rfl⟩
  have h2 : f 12 2 = nI (v 2 0 0) := hC.1 2 0 0 o2
  have b2 : v 2 0 0 ≤ 5 := (hB.1 2 0 0 o2).2
  unfold sp_sell
  refine x_Ct_w (by decide) (Nat.le_of_ble_eq_true rfl) ok118 [] 8 ?_
  refine Exists.intro _ (And.intro (c_hasPerson rfl h2 bP) (And.intro (And.intro (Nat.zero_le _) (Nat.zero_le _)) (fun q h' hpo => ?_)))
  obtain ⟨rfl, rfl⟩ := hpo
  cases hx : x_ixb x (v 2 0 0) with
  | false =>
    refine And.intro (fun _ => ?_) (fun c => absurd rfl c)
    refine Exists.intro _ (And.intro c_refuse (And.intro (And.intro (Nat.zero_le _) (Nat.zero_le _)) (fun q h' hpo => ?_)))
    obtain ⟨rfl, rfl⟩ := hpo
    refine And.intro ?_ ⟨trivial, Nat.le_refl _, Nat.le_refl _⟩
    exact x_PC_0 (by decide) hC
  | true =>
    refine And.intro (fun c => absurd c (by decide)) (fun _ => ?_)
    refine Exists.intro _ (And.intro (c_hasGood rfl h1 bG) (And.intro (And.intro (Nat.zero_le _) (Nat.zero_le _)) (fun q h' hpo => ?_)))
    obtain ⟨rfl, rfl⟩ := hpo
    cases hy : x_ixb y (v 1 0 0) with
    | false =>
      refine And.intro (fun _ => ?_) (fun c => absurd rfl c)
      refine Exists.intro _ (And.intro c_refuse (And.intro (And.intro (Nat.zero_le _) (Nat.zero_le _)) (fun q h' hpo => ?_)))
      obtain ⟨rfl, rfl⟩ := hpo
      refine And.intro ?_ ⟨trivial, Nat.le_refl _, Nat.le_refl _⟩
      exact x_PC_0 (by decide) hC
    | true =>
      refine And.intro (fun c => absurd c (by decide)) (fun _ => ?_)
      refine Exists.intro _ (And.intro c_isAmount (And.intro (And.intro (Nat.zero_le _) (Nat.zero_le _)) (fun q h' hpo => ?_)))
      obtain ⟨rfl, rfl⟩ := hpo
      cases hz : x_wi z 1 999 with
      | false =>
        refine And.intro (fun c => absurd rfl c) (fun _ => ?_)
        refine Exists.intro _ (And.intro c_refuse (And.intro (And.intro (Nat.zero_le _) (Nat.zero_le _)) (fun q h' hpo => ?_)))
        obtain ⟨rfl, rfl⟩ := hpo
        refine And.intro ?_ ⟨trivial, Nat.le_refl _, Nat.le_refl _⟩
        exact x_PC_0 (by decide) hC
      | true =>
        refine And.intro (fun _ => ?_) (fun c => absurd c (by decide))
        obtain ⟨p, hp, rfl⟩ := x_ixb_t hx (by omega)
        obtain ⟨i, hi, rfl⟩ := x_ixb_t hy (by omega)
        obtain ⟨m, hm1, hm, rfl⟩ := x_wi_t (lo := 1) (hi := 999) hz (by decide) (by decide)
        rw [x_c, x_c, x_c, nI_clamp (by omega), nI_clamp (by omega), nI_clamp (by omega)]
        refine Exists.intro _ (And.intro (c_takeGoods_12 hC hBn hN hp hi hm1 hm) (And.intro (And.intro (Nat.zero_le _) (Nat.zero_le _)) (fun q h' hpo => ?_)))
        obtain ⟨F, G', rfl, rfl, hF⟩ := hpo
        refine Exists.intro _ (And.intro c_ifDone (And.intro (And.intro (Nat.zero_le _) (Nat.zero_le _)) (fun q h' hpo => ?_)))
        obtain ⟨rfl, rfl⟩ := hpo
        refine And.intro ?_ ⟨trivial, Nat.le_refl _, Nat.le_refl _⟩
        exact x_PC_done (by decide) s_sell_ne hF
theorem c_fewest_12 {x y : Int32} (hC : v_C f g 12 v) (hB : v_B v) : x_Ct 131 (d + 3) [.ref 0, .int x, .int y] (f, g, x_HR 12 t, dm, n) (x_PC f g 12 (x_HR 12 t) dm n (sp_fewest v x y)) := by
  have bK := v_B_K hB
  have bG := v_B_G hB
  have bP := v_B_P hB
  have o2 : v_ok v 2 0 0 := ⟨rfl, rfl⟩
  have h2 : f 12 2 = nI (v 2 0 0) := hC.1 2 0 0 o2
  have b2 : v 2 0 0 ≤ 5 := (hB.1 2 0 0 o2).2
  unfold sp_fewest
  refine x_Ct_w (by decide) (Nat.le_of_ble_eq_true rfl) ok131 [] 8 ?_
  refine Exists.intro _ (And.intro (c_hasPerson rfl h2 bP) (And.intro (And.intro (Nat.zero_le _) (Nat.zero_le _)) (fun q h' hpo => ?_)))
  obtain ⟨rfl, rfl⟩ := hpo
  cases hx : x_ixb x (v 2 0 0) with
  | false =>
    refine And.intro (fun _ => ?_) (fun c => absurd rfl c)
    refine Exists.intro _ (And.intro c_refuse (And.intro (And.intro (Nat.zero_le _) (Nat.zero_le _)) (fun q h' hpo => ?_)))
    obtain ⟨rfl, rfl⟩ := hpo
    refine And.intro ?_ ⟨trivial, Nat.le_refl _, Nat.le_refl _⟩
    exact x_PC_0 (by decide) hC
  | true =>
    refine And.intro (fun c => absurd c (by decide)) (fun _ => ?_)
    refine Exists.intro _ (And.intro c_isSum (And.intro (And.intro (Nat.zero_le _) (Nat.zero_le _)) (fun q h' hpo => ?_)))
    obtain ⟨rfl, rfl⟩ := hpo
    cases hy : x_wi y 0 999 with
    | false =>
      refine And.intro (fun c => absurd rfl c) (fun _ => ?_)
      refine Exists.intro _ (And.intro c_refuse (And.intro (And.intro (Nat.zero_le _) (Nat.zero_le _)) (fun q h' hpo => ?_)))
      obtain ⟨rfl, rfl⟩ := hpo
      refine And.intro ?_ ⟨trivial, Nat.le_refl _, Nat.le_refl _⟩
      exact x_PC_0 (by decide) hC
    | true =>
      refine And.intro (fun _ => ?_) (fun c => absurd c (by decide))
      obtain ⟨p, hp, rfl⟩ := x_ixb_t hx (by omega)
      obtain ⟨s, hs1, hs, rfl⟩ := x_wi_t (lo := 0) (hi := 999) hy (by decide) (by decide)
      rw [x_c, x_c, nI_clamp (by omega), nI_clamp (by omega)]
      refine Exists.intro _ (And.intro (c_wayFromPurse_12 hC hB hp hs) (And.intro (And.intro (Nat.zero_le _) (Nat.zero_le _)) (fun q h' hpo => ?_)))
      obtain ⟨rfl, G, rfl, hG⟩ := hpo
      have hL := x_LC_G (L := 12) (by decide) hG hC
      have hwl := y_way_le (a := v 13 p) (v_w_1 hB) bK hs
      by_cases hl : v_few v p s < 1000000
      · obtain ⟨y1, y2, y3, y4, y5⟩ := y_way_ok (v_w_1 hB) bK hs hl
        rw [if_pos hl]
        refine And.intro (fun c4 => ?_) (fun c4 => ?_)
        · refine Exists.intro _ (And.intro (c_sheetsIn (d := d + 2) (w := y_way (v_w v) (v 13 p) (v 0 0 0) s) (by omega)) (And.intro (And.intro (Nat.zero_le _) (Nat.zero_le _)) (fun q h' hpo => ?_)))
          obtain ⟨rfl, rfl⟩ := hpo
          rw [y2]
          refine Exists.intro _ (And.intro c_answer (And.intro (And.intro (Nat.zero_le _) (Nat.zero_le _)) (fun q h' hpo => ?_)))
          obtain ⟨rfl, rfl⟩ := hpo
          refine And.intro ?_ ⟨trivial, Nat.le_refl _, Nat.le_refl _⟩
          exact x_PC_L (by decide) hL
        · have c4 : lg_cmp (lN (y_way (v_w v) (v 13 p) (v 0 0 0) s)) (lN 1152921504606846976) = 0 := c4
          rw [x_lg_eq, pk_lEQ (by omega) (by decide)] at c4
          omega
      · have hno : y_way (v_w v) (v 13 p) (v 0 0 0) s = 2 ^ 60 := y_way_no hl
        rw [if_neg hl]
        refine And.intro (fun c4 => ?_) (fun c4 => ?_)
        · have c4 : ¬ lg_cmp (lN (y_way (v_w v) (v 13 p) (v 0 0 0) s)) (lN 1152921504606846976) = 0 := c4
          rw [x_lg_eq, pk_lEQ (by omega) (by decide)] at c4
          exact absurd hno c4
        · refine Exists.intro _ (And.intro c_refuse (And.intro (And.intro (Nat.zero_le _) (Nat.zero_le _)) (fun q h' hpo => ?_)))
          obtain ⟨rfl, rfl⟩ := hpo
          refine And.intro ?_ ⟨trivial, Nat.le_refl _, Nat.le_refl _⟩
          exact x_PC_L (by decide) hL
theorem c_payWith_12 {x y z : Int32} (hC : v_C f g 12 v) (hB : v_B v) : x_Ct 132 (d + 3) [.ref 0, .int x, .int y, .int z] (f, g, x_HR 12 t, dm, n) (x_PC f g 12 (x_HR 12 t) dm n (sp_payWith v x y z)) := by
  have bK := v_B_K hB
  have bG := v_B_G hB
  have bP := v_B_P hB
  have o0 : v_ok v 0 0 0 := ⟨rfl, rfl⟩
  have h0 : f 12 0 = nI (v 0 0 0) := hC.1 0 0 0 o0
  have b0 : v 0 0 0 ≤ 4 := (hB.1 0 0 0 o0).2
  have o2 : v_ok v 2 0 0 := ⟨rfl, rfl⟩
  have h2 : f 12 2 = nI (v 2 0 0) := hC.1 2 0 0 o2
  have b2 : v 2 0 0 ≤ 5 := (hB.1 2 0 0 o2).2
  unfold sp_payWith
  refine x_Ct_w (by decide) (Nat.le_of_ble_eq_true rfl) ok132 [] 8 ?_
  refine Exists.intro _ (And.intro (c_hasPurse rfl h0 bK h2 bP) (And.intro (And.intro (Nat.zero_le _) (Nat.zero_le _)) (fun q h' hpo => ?_)))
  obtain ⟨rfl, rfl⟩ := hpo
  cases hx : (x_ixb x (v 2 0 0) && x_ixb z (v 0 0 0)) with
  | false =>
    refine And.intro (fun _ => ?_) (fun c => absurd rfl c)
    refine Exists.intro _ (And.intro c_refuse (And.intro (And.intro (Nat.zero_le _) (Nat.zero_le _)) (fun q h' hpo => ?_)))
    obtain ⟨rfl, rfl⟩ := hpo
    refine And.intro ?_ ⟨trivial, Nat.le_refl _, Nat.le_refl _⟩
    exact x_PC_0 (by decide) hC
  | true =>
    refine And.intro (fun c => absurd c (by decide)) (fun _ => ?_)
    refine Exists.intro _ (And.intro c_isSum (And.intro (And.intro (Nat.zero_le _) (Nat.zero_le _)) (fun q h' hpo => ?_)))
    obtain ⟨rfl, rfl⟩ := hpo
    cases hy : x_wi y 0 999 with
    | false =>
      refine And.intro (fun c => absurd rfl c) (fun _ => ?_)
      refine Exists.intro _ (And.intro c_refuse (And.intro (And.intro (Nat.zero_le _) (Nat.zero_le _)) (fun q h' hpo => ?_)))
      obtain ⟨rfl, rfl⟩ := hpo
      refine And.intro ?_ ⟨trivial, Nat.le_refl _, Nat.le_refl _⟩
      exact x_PC_0 (by decide) hC
    | true =>
      refine And.intro (fun _ => ?_) (fun c => absurd c (by decide))
      rw [Bool.and_eq_true] at hx
      obtain ⟨p, hp, rfl⟩ := x_ixb_t hx.1 (by omega)
      obtain ⟨k, hk, rfl⟩ := x_ixb_t hx.2 (by omega)
      obtain ⟨s, hs1, hs, rfl⟩ := x_wi_t (lo := 0) (hi := 999) hy (by decide) (by decide)
      rw [x_c, x_c, x_c, nI_clamp (by omega), nI_clamp (by omega), nI_clamp (by omega)]
      refine Exists.intro _ (And.intro (c_wayFromPurse_12 hC hB hp hs) (And.intro (And.intro (Nat.zero_le _) (Nat.zero_le _)) (fun q h' hpo => ?_)))
      obtain ⟨rfl, G, rfl, hG⟩ := hpo
      have hL := x_LC_G (L := 12) (by decide) hG hC
      have hwl := y_way_le (a := v 13 p) (v_w_1 hB) bK hs
      by_cases hl : v_few v p s < 1000000
      · obtain ⟨y1, y2, y3, y4, y5⟩ := y_way_ok (v_w_1 hB) bK hs hl
        rw [if_pos hl]
        refine And.intro (fun c4 => ?_) (fun c4 => ?_)
        · refine Exists.intro _ (And.intro (c_sheetsOfKind (d := d + 1) (w := y_way (v_w v) (v 13 p) (v 0 0 0) s) (k := k) (by omega) (by omega)) (And.intro (And.intro (Nat.zero_le _) (Nat.zero_le _)) (fun q h' hpo => ?_)))
          obtain ⟨rfl, rfl⟩ := hpo
          rw [y3 k hk]
          refine Exists.intro _ (And.intro c_answer (And.intro (And.intro (Nat.zero_le _) (Nat.zero_le _)) (fun q h' hpo => ?_)))
          obtain ⟨rfl, rfl⟩ := hpo
          refine And.intro ?_ ⟨trivial, Nat.le_refl _, Nat.le_refl _⟩
          exact x_PC_L (by decide) hL
        · have c4 : lg_cmp (lN (y_way (v_w v) (v 13 p) (v 0 0 0) s)) (lN 1152921504606846976) = 0 := c4
          rw [x_lg_eq, pk_lEQ (by omega) (by decide)] at c4
          omega
      · have hno : y_way (v_w v) (v 13 p) (v 0 0 0) s = 2 ^ 60 := y_way_no hl
        rw [if_neg hl]
        refine And.intro (fun c4 => ?_) (fun c4 => ?_)
        · have c4 : ¬ lg_cmp (lN (y_way (v_w v) (v 13 p) (v 0 0 0) s)) (lN 1152921504606846976) = 0 := c4
          rw [x_lg_eq, pk_lEQ (by omega) (by decide)] at c4
          exact absurd hno c4
        · refine Exists.intro _ (And.intro c_refuse (And.intro (And.intro (Nat.zero_le _) (Nat.zero_le _)) (fun q h' hpo => ?_)))
          obtain ⟨rfl, rfl⟩ := hpo
          refine And.intro ?_ ⟨trivial, Nat.le_refl _, Nat.le_refl _⟩
          exact x_PC_L (by decide) hL
theorem c_leastSheets_12 {x : Int32} (hC : v_C f g 12 v) (hB : v_B v) : x_Ct 137 (d + 2) [.ref 0, .int x] (f, g, x_HR 12 t, dm, n) (x_PC f g 12 (x_HR 12 t) dm n (sp_leastSheets v x)) := by
  have bK := v_B_K hB
  have bG := v_B_G hB
  have bP := v_B_P hB
  unfold sp_leastSheets
  refine x_Ct_w (by decide) (Nat.le_of_ble_eq_true rfl) ok137 [] 8 ?_
  refine Exists.intro _ (And.intro c_isSum (And.intro (And.intro (Nat.zero_le _) (Nat.zero_le _)) (fun q h' hpo => ?_)))
  obtain ⟨rfl, rfl⟩ := hpo
  cases hy : x_wi x 0 999 with
  | false =>
    refine And.intro (fun c => absurd rfl c) (fun _ => ?_)
    refine Exists.intro _ (And.intro c_refuse (And.intro (And.intro (Nat.zero_le _) (Nat.zero_le _)) (fun q h' hpo => ?_)))
    obtain ⟨rfl, rfl⟩ := hpo
    refine And.intro ?_ ⟨trivial, Nat.le_refl _, Nat.le_refl _⟩
    exact x_PC_0 (by decide) hC
  | true =>
    refine And.intro (fun _ => ?_) (fun c => absurd c (by decide))
    obtain ⟨s, hs1, hs, rfl⟩ := x_wi_t (lo := 0) (hi := 999) hy (by decide) (by decide)
    rw [x_c, nI_clamp (by omega)]
    refine Exists.intro _ (And.intro (c_wayOfPrint_12 hC hB hs) (And.intro (And.intro (Nat.zero_le _) (Nat.zero_le _)) (fun q h' hpo => ?_)))
    obtain ⟨rfl, G, rfl, hG⟩ := hpo
    have hL := x_LC_G (L := 12) (by decide) hG hC
    have hwl := y_way_le (a := fun _ => 999) (v_w_1 hB) bK hs
    by_cases hl : v_fewP v s < 1000000
    · obtain ⟨y1, y2, y3, y4, y5⟩ := y_way_ok (v_w_1 hB) bK hs hl
      rw [if_pos hl]
      refine And.intro (fun c4 => ?_) (fun c4 => ?_)
      · refine Exists.intro _ (And.intro (c_sheetsIn (d := d + 1) (w := y_way (v_w v) (fun _ => 999) (v 0 0 0) s) (by omega)) (And.intro (And.intro (Nat.zero_le _) (Nat.zero_le _)) (fun q h' hpo => ?_)))
        obtain ⟨rfl, rfl⟩ := hpo
        rw [y2]
        refine Exists.intro _ (And.intro c_answer (And.intro (And.intro (Nat.zero_le _) (Nat.zero_le _)) (fun q h' hpo => ?_)))
        obtain ⟨rfl, rfl⟩ := hpo
        refine And.intro ?_ ⟨trivial, Nat.le_refl _, Nat.le_refl _⟩
        exact x_PC_L (by decide) hL
      · have c4 : lg_cmp (lN (y_way (v_w v) (fun _ => 999) (v 0 0 0) s)) (lN 1152921504606846976) = 0 := c4
        rw [x_lg_eq, pk_lEQ (by omega) (by decide)] at c4
        omega
    · have hno : y_way (v_w v) (fun _ => 999) (v 0 0 0) s = 2 ^ 60 := y_way_no hl
      rw [if_neg hl]
      refine And.intro (fun c4 => ?_) (fun c4 => ?_)
      · have c4 : ¬ lg_cmp (lN (y_way (v_w v) (fun _ => 999) (v 0 0 0) s)) (lN 1152921504606846976) = 0 := c4
        rw [x_lg_eq, pk_lEQ (by omega) (by decide)] at c4
        exact absurd hno c4
      · refine Exists.intro _ (And.intro c_refuse (And.intro (And.intro (Nat.zero_le _) (Nat.zero_le _)) (fun q h' hpo => ?_)))
        obtain ⟨rfl, rfl⟩ := hpo
        refine And.intro ?_ ⟨trivial, Nat.le_refl _, Nat.le_refl _⟩
        exact x_PC_L (by decide) hL
/-- the table behind a fill: what can be PAID -/
theorem c_canPay_12 {p s j : Nat} {G : Nat → Nat → Int64} {T : Nat → Nat} (hB : v_B v) (hs : s ≤ 999) (hj : j ≤ s) (h1 : x_tb g G T s) (h2 : ∀ j, T j ≤ 2 ^ 60) (h3 : ∀ j, j ≤ s → y_T (v_w v) (v 13 p) (v 0 0 0) j (T j)) : x_V 70 d [.ref 99, .int (nI j)] (f, G, x_HR 12 t, dm, n) (.int (x_bo (decide (v_few v p j < 1000000)))) (f, G, x_HR 12 t, dm, n) := by
  have e := c_isPayable (d := d) (f := f) (r := 12) (t := t) (dm := dm) (n := n) (show j ≤ 999 by omega) (h1.2 j hj) (h2 j)
  rw [y_T_way (v_w_1 hB) (v_B_K hB) (by omega) (h3 j hj), decide_eq_decide.mpr (y_way_lt (v_w_1 hB) (v_B_K hB) (show j ≤ 999 by omega))] at e
  exact e
theorem c_payable_12 {x : Int32} (hC : v_C f g 12 v) (hB : v_B v) : x_Ct 133 (d + 2) [.ref 0, .int x] (f, g, x_HR 12 t, dm, n) (x_PC f g 12 (x_HR 12 t) dm n (sp_payable v x)) := by
  have bK := v_B_K hB
  have bG := v_B_G hB
  have bP := v_B_P hB
  have o0 : v_ok v 0 0 0 := ⟨rfl, rfl⟩
  have h0 : f 12 0 = nI (v 0 0 0) := hC.1 0 0 0 o0
  have b0 : v 0 0 0 ≤ 4 := (hB.1 0 0 0 o0).2
  have o2 : v_ok v 2 0 0 := ⟨rfl, rfl⟩
  have h2 : f 12 2 = nI (v 2 0 0) := hC.1 2 0 0 o2
  have b2 : v 2 0 0 ≤ 5 := (hB.1 2 0 0 o2).2
  unfold sp_payable
  refine x_Ct_w (by decide) (Nat.le_of_ble_eq_true rfl) ok133 [43] 6 ?_
  refine Exists.intro _ (And.intro (c_hasPerson rfl h2 bP) (And.intro (And.intro (Nat.zero_le _) (Nat.zero_le _)) (fun q h' hpo => ?_)))
  obtain ⟨rfl, rfl⟩ := hpo
  cases hx : x_ixb x (v 2 0 0) with
  | false =>
    refine And.intro (fun c => absurd rfl c) (fun _ => ?_)
    refine Exists.intro _ (And.intro c_refuse (And.intro (And.intro (Nat.zero_le _) (Nat.zero_le _)) (fun q h' hpo => ?_)))
    obtain ⟨rfl, rfl⟩ := hpo
    refine And.intro ?_ ⟨trivial, Nat.le_refl _, Nat.le_refl _⟩
    exact x_PC_0 (by decide) hC
  | true =>
    refine And.intro (fun _ => ?_) (fun c => absurd c (by decide))
    obtain ⟨p, hp, rfl⟩ := x_ixb_t hx (by omega)
    rw [x_c, nI_clamp (by omega)]
    have cf := c_fill_12 (d := d) (r := 12) (t := t) (dm := dm) (n := n) (s := 999) (K := v 0 0 0) hC hB hp (by decide) (Nat.le_refl _)
    rw [← h0] at cf
    refine Exists.intro _ (And.intro cf (And.intro (And.intro (Nat.zero_le _) (Nat.zero_le _)) (fun q h' hpo => ?_)))
    obtain ⟨rfl, G, T, rfl, t1, t2, t3⟩ := hpo
    have hL := x_LC_G (L := 12) (by decide) t1.1 hC
    have loop : ∀ m j, j + 1 + m = 1000 → x_J 133 (d + 2) (x_PC f g 12 (x_HR 12 t) dm n (.int (nI (v_cnt v p 999)), 0, v)) 43 [some (.ref 0), some (.int (nI p)), some (.int (nI (v_cnt v p j))), some (.int (nI (j + 1)))] [] (f, G, x_HR 12 t, dm, n) 0 0 := by
      intro m
      induction m with
      | zero =>
        intro j hj
        obtain rfl : j = 999 := by omega
        refine x_wp_ok ok133 [43] 6 ?_
        refine And.intro (fun c => ?_) (fun c => ?_)
        · refine Exists.intro _ (And.intro c_answer (And.intro (And.intro (Nat.zero_le _) (Nat.zero_le _)) (fun q h' hpo => ?_)))
          obtain ⟨rfl, rfl⟩ := hpo
          refine And.intro ?_ ⟨trivial, Nat.le_refl _, Nat.le_refl _⟩
          exact x_PC_L (by decide) hL
        · exact absurd c (by decide)
      | succ m ih =>
        intro j hj
        have hc := v_cnt_le v p j
        refine x_wp_ok ok133 [43] 6 ?_
        refine And.intro (fun c => ?_) (fun c => ?_)
        · have c : nI 999 < nI (j + 1) := c
          rw [nI_ltI (by omega) (by omega)] at c
          omega
        · refine Exists.intro _ (And.intro (c_canPay_12 hB (by decide) (show j + 1 ≤ 999 by omega) t1 t2 t3) (And.intro (And.intro (Nat.zero_le _) (Nat.zero_le _)) (fun q h' hpo => ?_)))
          obtain ⟨rfl, rfl⟩ := hpo
          have e := ih (j + 1) (by omega)
          rw [nI_succ (j + 1), show v_cnt v p (j + 1) = v_cnt v p j + (if v_few v p (j + 1) < 1000000 then 1 else 0) from rfl] at e
          by_cases hl : v_few v p (j + 1) < 1000000
          · rw [decide_eq_true hl]
            rw [if_pos hl, ← nI_add] at e
            refine And.intro (fun c => absurd c (by decide)) (fun _ => ?_)
            exact e
          · rw [decide_eq_false hl]
            rw [if_neg hl, ← nI_add] at e
            refine And.intro (fun _ => ?_) (fun c => absurd rfl c)
            exact e
    exact loop 999 0 (by decide)
theorem c_firstNot_12 {x : Int32} (hC : v_C f g 12 v) (hB : v_B v) : x_Ct 134 (d + 3) [.ref 0, .int x] (f, g, x_HR 12 t, dm, n) (x_PC f g 12 (x_HR 12 t) dm n (sp_firstNot v x)) := by
  have bK := v_B_K hB
  have bG := v_B_G hB
  have bP := v_B_P hB
  have o0 : v_ok v 0 0 0 := ⟨rfl, rfl⟩
  have h0 : f 12 0 = nI (v 0 0 0) := hC.1 0 0 0 o0
  have b0 : v 0 0 0 ≤ 4 := (hB.1 0 0 0 o0).2
  have o2 : v_ok v 2 0 0 := ⟨rfl, rfl⟩
  have h2 : f 12 2 = nI (v 2 0 0) := hC.1 2 0 0 o2
  have b2 : v 2 0 0 ≤ 5 := (hB.1 2 0 0 o2).2
  unfold sp_firstNot
  refine x_Ct_w (by decide) (Nat.le_of_ble_eq_true rfl) ok134 [54] 6 ?_
  refine Exists.intro _ (And.intro (c_hasPerson rfl h2 bP) (And.intro (And.intro (Nat.zero_le _) (Nat.zero_le _)) (fun q h' hpo => ?_)))
  obtain ⟨rfl, rfl⟩ := hpo
  cases hx : x_ixb x (v 2 0 0) with
  | false =>
    refine And.intro (fun c => absurd rfl c) (fun _ => ?_)
    refine Exists.intro _ (And.intro c_refuse (And.intro (And.intro (Nat.zero_le _) (Nat.zero_le _)) (fun q h' hpo => ?_)))
    obtain ⟨rfl, rfl⟩ := hpo
    refine And.intro ?_ ⟨trivial, Nat.le_refl _, Nat.le_refl _⟩
    exact x_PC_0 (by decide) hC
  | true =>
    refine And.intro (fun _ => ?_) (fun c => absurd c (by decide))
    obtain ⟨p, hp, rfl⟩ := x_ixb_t hx (by omega)
    rw [x_c, nI_clamp (by omega)]
    have hws := v_ws_le4 hB (c := 13) (Or.inl rfl) hp
    obtain ⟨M, hM⟩ : ∃ M, M = min 999 (v_ws v 13 p (v 0 0 0)) := ⟨_, rfl⟩
    have hM9 : M ≤ 999 := by rw [hM]; exact Nat.min_le_left _ _
    rw [← hM]
    have eM : (if nI (v_ws v 13 p (v 0 0 0)) < nI 999 then nI (v_ws v 13 p (v 0 0 0)) else nI 999) = nI M := by rw [x_min_nI (by decide) (by omega), hM]
    have cf := c_fill_12 (d := d + 1) (r := 12) (t := t) (dm := dm) (n := n) (s := M) (K := v 0 0 0) hC hB hp hM9 (Nat.le_refl _)
    have cf2 : x_Ct 73 (d + 2) [.ref 99, .ref 12, .int (nI p), .int (if nI (v_ws v 13 p (v 0 0 0)) < nI 999 then nI (v_ws v 13 p (v 0 0 0)) else nI 999), .int (f 12 0)] (f, g, x_HR 12 t, dm, n) (x_fp g f (x_HR 12 t) dm n (v_w v) (v 13 p) (v 0 0 0) M) := by rw [eM, h0]; exact cf
    refine Exists.intro _ (And.intro (c_wealthOf_12 hC hB hp) (And.intro (And.intro (Nat.zero_le _) (Nat.zero_le _)) (fun q h' hpo => ?_)))
    obtain ⟨rfl, rfl⟩ := hpo
    refine Exists.intro _ (And.intro cf2 (And.intro (And.intro (Nat.zero_le _) (Nat.zero_le _)) (fun q h' hpo => ?_)))
    obtain ⟨rfl, G, T, rfl, t1, t2, t3⟩ := hpo
    have hL := x_LC_G (L := 12) (by decide) t1.1 hC
    have loop : ∀ m j, j + m = M + 1 → x_J 134 (d + 3) (x_PC f g 12 (x_HR 12 t) dm n (x_sq 6 true (v_fnot v p m j) v)) 54 [some (.ref 0), some (.int (nI p)), some (.int (nI M)), some (.int (nI j))] [] (f, G, x_HR 12 t, dm, n) 0 0 := by
      intro m
      induction m with
      | zero =>
        intro j hj
        refine x_wp_ok ok134 [54] 6 ?_
        refine And.intro (fun c => ?_) (fun c => ?_)
        · refine Exists.intro _ (And.intro c_refuse (And.intro (And.intro (Nat.zero_le _) (Nat.zero_le _)) (fun q h' hpo => ?_)))
          obtain ⟨rfl, rfl⟩ := hpo
          refine And.intro ?_ ⟨trivial, Nat.le_refl _, Nat.le_refl _⟩
          exact x_PC_L (by decide) hL
        · have c : ¬ nI M < nI j := c
          rw [nI_ltI (by omega) (by omega)] at c
          omega
      | succ m ih =>
        intro j hj
        refine x_wp_ok ok134 [54] 6 ?_
        refine And.intro (fun c => ?_) (fun c => ?_)
        · have c : nI M < nI j := c
          rw [nI_ltI (by omega) (by omega)] at c
          omega
        · refine Exists.intro _ (And.intro (c_canPay_12 hB hM9 (show j ≤ M by omega) t1 t2 t3) (And.intro (And.intro (Nat.zero_le _) (Nat.zero_le _)) (fun q h' hpo => ?_)))
          obtain ⟨rfl, rfl⟩ := hpo
          rw [show v_fnot v p (m + 1) j = if v_few v p j < 1000000 then v_fnot v p m (j + 1) else some (nI j, v) from rfl]
          by_cases hl : v_few v p j < 1000000
          · rw [decide_eq_true hl, if_pos hl]
            refine And.intro (fun _ => ?_) (fun c => absurd c (by decide))
            have e := ih (j + 1) (by omega)
            rw [nI_succ j] at e
            exact e
          · rw [decide_eq_false hl, if_neg hl]
            refine And.intro (fun c => absurd rfl c) (fun _ => ?_)
            refine Exists.intro _ (And.intro c_answer (And.intro (And.intro (Nat.zero_le _) (Nat.zero_le _)) (fun q h' hpo => ?_)))
            obtain ⟨rfl, rfl⟩ := hpo
            refine And.intro ?_ ⟨trivial, Nat.le_refl _, Nat.le_refl _⟩
            exact x_PC_L (by decide) hL
    have e := loop M 1 (by omega)
    rw [← eM] at e
    exact e
theorem c_couldBuy_12 {x y : Int32} (hC : v_C f g 12 v) (hB : v_B v) : x_Ct 135 (d + 2) [.ref 0, .int x, .int y] (f, g, x_HR 12 t, dm, n) (x_PC f g 12 (x_HR 12 t) dm n (sp_couldBuy v x y)) := by
  have bK := v_B_K hB
  have bG := v_B_G hB
  have bP := v_B_P hB
  have o0 : v_ok v 0 0 0 := ⟨rfl, rfl⟩
  have h0 : f 12 0 = nI (v 0 0 0) := hC.1 0 0 0 o0
  have b0 : v 0 0 0 ≤ 4 := (hB.1 0 0 0 o0).2
  have o1 : v_ok v 1 0 0 := ⟨rfl, rfl⟩
  have h1 : f 12 1 = nI (v 1 0 0) := hC.1 1 0 0 o1
  have b1 : v 1 0 0 ≤ 5 := (hB.1 1 0 0 o1).2
  have o2 : v_ok v 2 0 0 := ⟨rfl, rfl⟩
  have h2 : f 12 2 = nI (v 2 0 0) := hC.1 2 0 0 o2
  have b2 : v 2 0 0 ≤ 5 := (hB.1 2 0 0 o2).2
  unfold sp_couldBuy
  refine x_Ct_w (by decide) (Nat.le_of_ble_eq_true rfl) ok135 [104] 8 ?_
  refine Exists.intro _ (And.intro (c_hasPerson rfl h2 bP) (And.intro (And.intro (Nat.zero_le _) (Nat.zero_le _)) (fun q h' hpo => ?_)))
  obtain ⟨rfl, rfl⟩ := hpo
  cases hx : x_ixb x (v 2 0 0) with
  | false =>
    refine And.intro (fun _ => ?_) (fun c => absurd rfl c)
    refine Exists.intro _ (And.intro c_refuse (And.intro (And.intro (Nat.zero_le _) (Nat.zero_le _)) (fun q h' hpo => ?_)))
    obtain ⟨rfl, rfl⟩ := hpo
    refine And.intro ?_ ⟨trivial, Nat.le_refl _, Nat.le_refl _⟩
    exact x_PC_0 (by decide) hC
  | true =>
    refine And.intro (fun c => absurd c (by decide)) (fun _ => ?_)
    refine Exists.intro _ (And.intro (c_hasGood rfl h1 bG) (And.intro (And.intro (Nat.zero_le _) (Nat.zero_le _)) (fun q h' hpo => ?_)))
    obtain ⟨rfl, rfl⟩ := hpo
    cases hy : x_ixb y (v 1 0 0) with
    | false =>
      refine And.intro (fun c => absurd rfl c) (fun _ => ?_)
      refine Exists.intro _ (And.intro c_refuse (And.intro (And.intro (Nat.zero_le _) (Nat.zero_le _)) (fun q h' hpo => ?_)))
      obtain ⟨rfl, rfl⟩ := hpo
      refine And.intro ?_ ⟨trivial, Nat.le_refl _, Nat.le_refl _⟩
      exact x_PC_0 (by decide) hC
    | true =>
      refine And.intro (fun _ => ?_) (fun c => absurd c (by decide))
      obtain ⟨p, hp, rfl⟩ := x_ixb_t hx (by omega)
      obtain ⟨i, hi, rfl⟩ := x_ixb_t hy (by omega)
      rw [x_c, x_c, nI_clamp (by omega), nI_clamp (by omega)]
      have o11 : v_ok v 11 i 0 := show i < v 1 0 0 ∧ 0 = 0 from ⟨by omega, rfl⟩
      have h11 : f 17 i = nI (v 11 i 0) := hC.1 11 i 0 o11
      have b11 : v 11 i 0 ≤ 9999 := (hB.1 11 i 0 o11).2
      have o15 : v_ok v 15 p i := show 15 = 15 ∧ p < v 2 0 0 ∧ i < v 1 0 0 from ⟨rfl, by omega, by omega⟩
      have h15 : f 21 (5 * p + i) = nI (v 15 p i) := hC.1 15 p i o15
      have b15 : v 15 p i ≤ 9999 := (hB.1 15 p i o15).2
      refine Exists.intro _ (And.intro (c_priceOf_12 hC hB hi) (And.intro (And.intro (Nat.zero_le _) (Nat.zero_le _)) (fun q h' hpo => ?_)))
      obtain ⟨rfl, rfl⟩ := hpo
      refine And.intro (x_ix_nI (by omega) (by omega)) ?_
      rw [nI_clamp (by omega)]
      refine Exists.intro _ (And.intro c_chest (And.intro (And.intro (Nat.zero_le _) (Nat.zero_le _)) (fun q h' hpo => ?_)))
      obtain ⟨rfl, rfl⟩ := hpo
      rw [x_pl5]
      refine And.intro (x_ix_nI (by omega) (by omega)) ?_
      rw [nI_clamp (by omega)]
      have cf := c_fill_12 (d := d) (r := 12) (t := t) (dm := dm) (n := n) (s := 999) (K := v 0 0 0) hC hB hp (by decide) (Nat.le_refl _)
      rw [← h0] at cf
      refine Exists.intro _ (And.intro cf (And.intro (And.intro (Nat.zero_le _) (Nat.zero_le _)) (fun q h' hpo => ?_)))
      obtain ⟨rfl, G, T, rfl, t1, t2, t3⟩ := hpo
      have hL := x_LC_G (L := 12) (by decide) t1.1 hC
      have hmo : v_most v p i ≤ 999 := Nat.le_trans (Nat.min_le_left _ _) (Nat.min_le_left _ _)
      have loop : ∀ j mo, j ≤ 999 → x_J 135 (d + 2) (x_PC f g 12 (x_HR 12 t) dm n (.int (nI (y_top (v_can v p i) j)), 0, v)) 104 [some (.ref 0), some (.int (nI p)), some (.int (nI i)), some (.long (lN (v 10 i 0 * v 7 0 0))), none, some (.int mo), some (.int (nI j))] [] (f, G, x_HR 12 t, dm, n) 0 0 := by
        intro j
        induction j with
        | zero =>
          intro mo hj
          refine x_wp_ok ok135 [104] 8 ?_
          refine And.intro (fun c => ?_) (fun c => ?_)
          · refine Exists.intro _ (And.intro c_answer (And.intro (And.intro (Nat.zero_le _) (Nat.zero_le _)) (fun q h' hpo => ?_)))
            obtain ⟨rfl, rfl⟩ := hpo
            refine And.intro ?_ ⟨trivial, Nat.le_refl _, Nat.le_refl _⟩
            exact x_PC_L (by decide) hL
          · exact absurd (show nI 0 < nI 1 by decide) c
        | succ j ih =>
          intro mo hj
          have hS := v_S_lt hB hi (show j + 1 ≤ 9999 by omega)
          have eS := v_S_l (v := v) (i := i) (show j + 1 ≤ 9999 by omega)
          have e := ih mo (by omega)
          rw [← pk_m1 j] at e
          refine x_wp_ok ok135 [104] 8 ?_
          refine And.intro (fun c => ?_) (fun c => ?_)
          · have c : nI (j + 1) < nI 1 := c
            rw [nI_ltI (by omega) (by decide)] at c
            omega
          · rw [show y_top (v_can v p i) (j + 1) = if v_can v p i (j + 1) then j + 1 else y_top (v_can v p i) j from rfl]
            refine And.intro (fun c2 => ?_) (fun c2 => ?_)
            · have c2 : 0 < lg_cmp ((nI (j + 1)).toInt64 * lN (v 10 i 0 * v 7 0 0)) (lN 999) := c2
              rw [x_lg_gt, eS, pk_lLT (by decide) (by omega)] at c2
              rw [if_neg (by simp only [v_can, decide_eq_false (show ¬ v_S v i (j + 1) ≤ 999 by omega), Bool.false_and]; decide)]
              exact e
            · have c2 : ¬ 0 < lg_cmp ((nI (j + 1)).toInt64 * lN (v 10 i 0 * v 7 0 0)) (lN 999) := c2
              rw [x_lg_gt, eS, pk_lLT (by decide) (by omega)] at c2
              have cp := c_canPay_12 (d := d + 1) (f := f) (t := t) (dm := dm) (n := n) (p := p) hB (by decide) (show v_S v i (j + 1) ≤ 999 by omega) t1 t2 t3
              rw [← lN_i (v_S v i (j + 1)), ← eS] at cp
              refine Exists.intro _ (And.intro cp (And.intro (And.intro (Nat.zero_le _) (Nat.zero_le _)) (fun q h' hpo => ?_)))
              obtain ⟨rfl, rfl⟩ := hpo
              by_cases hl : v_few v p (v_S v i (j + 1)) < 1000000
              · rw [decide_eq_true hl, if_pos (by simp only [v_can, Bool.and_eq_true, decide_eq_true_eq]; exact ⟨by omega, hl⟩)]
                refine And.intro (fun c => absurd c (by decide)) (fun _ => ?_)
                refine Exists.intro _ (And.intro c_answer (And.intro (And.intro (Nat.zero_le _) (Nat.zero_le _)) (fun q h' hpo => ?_)))
                obtain ⟨rfl, rfl⟩ := hpo
                refine And.intro ?_ ⟨trivial, Nat.le_refl _, Nat.le_refl _⟩
                exact x_PC_L (by decide) hL
              · rw [decide_eq_false hl, if_neg (by simp only [v_can, Bool.and_eq_true, decide_eq_true_eq]; exact fun q => hl q.2)]
                refine And.intro (fun _ => ?_) (fun c => absurd rfl c)
                exact e
      have em : (if nI 9999 - f 21 (5 * p + i) < (if f 17 i < nI 999 then f 17 i else nI 999) then nI 9999 - f 21 (5 * p + i) else (if f 17 i < nI 999 then f 17 i else nI 999)) = nI (v_most v p i) := by
        rw [h11, h15, pk_sub b15, x_min_nI (by decide) (by omega), x_min_nI (by omega) (by omega)]
        rfl
      have e := loop (v_most v p i) (nI (v_most v p i)) hmo
      rw [show (.int (nI (y_top (v_can v p i) (v_most v p i))), 0, v) = x_sr true (nI (y_top (v_can v p i) (v_most v p i))) v from rfl] at e
      generalize nI (y_top (v_can v p i) (v_most v p i)) = W at e ⊢
      rw [← em] at e
      exact e
theorem c_buy_22 {x y z : Int32} (hC : v_C f g 22 v) (hBn : v_Bn N v) (hN : N + 1000 < 2 ^ 60) : x_Ct 117 (d + 4) [.ref 0, .int x, .int y, .int z] (f, g, x_HR 22 t, dm, n) (x_PC f g 22 (x_HR 22 t) dm n (sp_buy v x y z)) := by
  have hB := v_Bn_B hBn (by omega)
  have bK := v_B_K hB
  have bG := v_B_G hB
  have bP := v_B_P hB
  have o1 : v_ok v 1 0 0 := ⟨rfl, rfl⟩
  have h1 : f 22 1 = nI (v 1 0 0) := hC.1 1 0 0 o1
  have b1 : v 1 0 0 ≤ 5 := (hB.1 1 0 0 o1).2
  have o2 : v_ok v 2 0 0 := ⟨rfl, rfl⟩
  have h2 : f 22 2 = nI (v 2 0 0) := hC.1 2 0 0 o2
  have b2 : v 2 0 0 ≤ 5 := (hB.1 2 0 0 o2).2
  unfold sp_buy
  refine x_Ct_w (by decide) (Nat.le_of_ble_eq_true rfl) ok117 [] 8 ?_
  refine Exists.intro _ (And.intro (c_hasPerson rfl h2 bP) (And.intro (And.intro (Nat.zero_le _) (Nat.zero_le _)) (fun q h' hpo => ?_)))
  obtain ⟨rfl, rfl⟩ := hpo
  cases hx : x_ixb x (v 2 0 0) with
  | false =>
    refine And.intro (fun _ => ?_) (fun c => absurd rfl c)
    refine Exists.intro _ (And.intro c_refuse (And.intro (And.intro (Nat.zero_le _) (Nat.zero_le _)) (fun q h' hpo => ?_)))
    obtain ⟨rfl, rfl⟩ := hpo
    refine And.intro ?_ ⟨trivial, Nat.le_refl _, Nat.le_refl _⟩
    exact x_PC_0 (by decide) hC
  | true =>
    refine And.intro (fun c => absurd c (by decide)) (fun _ => ?_)
    refine Exists.intro _ (And.intro (c_hasGood rfl h1 bG) (And.intro (And.intro (Nat.zero_le _) (Nat.zero_le _)) (fun q h' hpo => ?_)))
    obtain ⟨rfl, rfl⟩ := hpo
    cases hy : x_ixb y (v 1 0 0) with
    | false =>
      refine And.intro (fun _ => ?_) (fun c => absurd rfl c)
      refine Exists.intro _ (And.intro c_refuse (And.intro (And.intro (Nat.zero_le _) (Nat.zero_le _)) (fun q h' hpo => ?_)))
      obtain ⟨rfl, rfl⟩ := hpo
      refine And.intro ?_ ⟨trivial, Nat.le_refl _, Nat.le_refl _⟩
      exact x_PC_0 (by decide) hC
    | true =>
      refine And.intro (fun c => absurd c (by decide)) (fun _ => ?_)
      refine Exists.intro _ (And.intro c_isAmount (And.intro (And.intro (Nat.zero_le _) (Nat.zero_le _)) (fun q h' hpo => ?_)))
      obtain ⟨rfl, rfl⟩ := hpo
      cases hz : x_wi z 1 999 with
      | false =>
        refine And.intro (fun c => absurd rfl c) (fun _ => ?_)
        refine Exists.intro _ (And.intro c_refuse (And.intro (And.intro (Nat.zero_le _) (Nat.zero_le _)) (fun q h' hpo => ?_)))
        obtain ⟨rfl, rfl⟩ := hpo
        refine And.intro ?_ ⟨trivial, Nat.le_refl _, Nat.le_refl _⟩
        exact x_PC_0 (by decide) hC
      | true =>
        refine And.intro (fun _ => ?_) (fun c => absurd c (by decide))
        obtain ⟨p, hp, rfl⟩ := x_ixb_t hx (by omega)
        obtain ⟨i, hi, rfl⟩ := x_ixb_t hy (by omega)
        obtain ⟨m, hm1, hm, rfl⟩ := x_wi_t (lo := 1) (hi := 999) hz (by decide) (by decide)
        rw [x_c, x_c, x_c, nI_clamp (by omega), nI_clamp (by omega), nI_clamp (by omega)]
        refine Exists.intro _ (And.intro (c_wayToBuy_22 hC hB hp hi hm) (And.intro (And.intro (Nat.zero_le _) (Nat.zero_le _)) (fun q h' hpo => ?_)))
        obtain ⟨rfl, G, rfl, hG⟩ := hpo
        have hL := x_LC_G (L := 22) (by decide) hG hC
        refine Exists.intro _ (And.intro (c_purchase_22 hL.1 hBn hN hp hi hm1 hm) (And.intro (And.intro (Nat.zero_le _) (Nat.zero_le _)) (fun q h' hpo => ?_)))
        obtain ⟨F, G', rfl, rfl, hF⟩ := hpo
        refine Exists.intro _ (And.intro c_ifDone (And.intro (And.intro (Nat.zero_le _) (Nat.zero_le _)) (fun q h' hpo => ?_)))
        obtain ⟨rfl, rfl⟩ := hpo
        refine And.intro ?_ ⟨trivial, Nat.le_refl _, Nat.le_refl _⟩
        exact x_PC_done (by decide) s_buy_ne (x_LC_tr hL hF)
theorem c_sell_22 {x y z : Int32} (hC : v_C f g 22 v) (hBn : v_Bn N v) (hN : N + 1000 < 2 ^ 60) : x_Ct 118 (d + 4) [.ref 0, .int x, .int y, .int z] (f, g, x_HR 22 t, dm, n) (x_PC f g 22 (x_HR 22 t) dm n (sp_sell v x y z)) := by
  have hB := v_Bn_B hBn (by omega)
  have bK := v_B_K hB
  have bG := v_B_G hB
  have bP := v_B_P hB
  have o1 : v_ok v 1 0 0 := ⟨rfl, rfl⟩
  have h1 : f 22 1 = nI (v 1 0 0) := hC.1 1 0 0 o1
  have b1 : v 1 0 0 ≤ 5 := (hB.1 1 0 0 o1).2
  have o2 : v_ok v 2 0 0 := ⟨rfl, rfl⟩
  have h2 : f 22 2 = nI (v 2 0 0) := hC.1 2 0 0 o2
  have b2 : v 2 0 0 ≤ 5 := (hB.1 2 0 0 o2).2
  unfold sp_sell
  refine x_Ct_w (by decide) (Nat.le_of_ble_eq_true rfl) ok118 [] 8 ?_
  refine Exists.intro _ (And.intro (c_hasPerson rfl h2 bP) (And.intro (And.intro (Nat.zero_le _) (Nat.zero_le _)) (fun q h' hpo => ?_)))
  obtain ⟨rfl, rfl⟩ := hpo
  cases hx : x_ixb x (v 2 0 0) with
  | false =>
    refine And.intro (fun _ => ?_) (fun c => absurd rfl c)
    refine Exists.intro _ (And.intro c_refuse (And.intro (And.intro (Nat.zero_le _) (Nat.zero_le _)) (fun q h' hpo => ?_)))
    obtain ⟨rfl, rfl⟩ := hpo
    refine And.intro ?_ ⟨trivial, Nat.le_refl _, Nat.le_refl _⟩
    exact x_PC_0 (by decide) hC
  | true =>
    refine And.intro (fun c => absurd c (by decide)) (fun _ => ?_)
    refine Exists.intro _ (And.intro (c_hasGood rfl h1 bG) (And.intro (And.intro (Nat.zero_le _) (Nat.zero_le _)) (fun q h' hpo => ?_)))
    obtain ⟨rfl, rfl⟩ := hpo
    cases hy : x_ixb y (v 1 0 0) with
    | false =>
      refine And.intro (fun _ => ?_) (fun c => absurd rfl c)
      refine Exists.intro _ (And.intro c_refuse (And.intro (And.intro (Nat.zero_le _) (Nat.zero_le _)) (fun q h' hpo => ?_)))
      obtain ⟨rfl, rfl⟩ := hpo
      refine And.intro ?_ ⟨trivial, Nat.le_refl _, Nat.le_refl _⟩
      exact x_PC_0 (by decide) hC
    | true =>
      refine And.intro (fun c => absurd c (by decide)) (fun _ => ?_)
      refine Exists.intro _ (And.intro c_isAmount (And.intro (And.intro (Nat.zero_le _) (Nat.zero_le _)) (fun q h' hpo => ?_)))
      obtain ⟨rfl, rfl⟩ := hpo
      cases hz : x_wi z 1 999 with
      | false =>
        refine And.intro (fun c => absurd rfl c) (fun _ => ?_)
        refine Exists.intro _ (And.intro c_refuse (And.intro (And.intro (Nat.zero_le _) (Nat.zero_le _)) (fun q h' hpo => ?_)))
        obtain ⟨rfl, rfl⟩ := hpo
        refine And.intro ?_ ⟨trivial, Nat.le_refl _, Nat.le_refl _⟩
        exact x_PC_0 (by decide) hC
      | true =>
        refine And.intro (fun _ => ?_) (fun c => absurd c (by decide))
        obtain ⟨p, hp, rfl⟩ := x_ixb_t hx (by omega)
        obtain ⟨i, hi, rfl⟩ := x_ixb_t hy (by omega)
        obtain ⟨m, hm1, hm, rfl⟩ := x_wi_t (lo := 1) (hi := 999) hz (by decide) (by decide)
        rw [x_c, x_c, x_c, nI_clamp (by omega), nI_clamp (by omega), nI_clamp (by omega)]
        refine Exists.intro _ (And.intro (c_takeGoods_22 hC hBn hN hp hi hm1 hm) (And.intro (And.intro (Nat.zero_le _) (Nat.zero_le _)) (fun q h' hpo => ?_)))
        obtain ⟨F, G', rfl, rfl, hF⟩ := hpo
        refine Exists.intro _ (And.intro c_ifDone (And.intro (And.intro (Nat.zero_le _) (Nat.zero_le _)) (fun q h' hpo => ?_)))
        obtain ⟨rfl, rfl⟩ := hpo
        refine And.intro ?_ ⟨trivial, Nat.le_refl _, Nat.le_refl _⟩
        exact x_PC_done (by decide) s_sell_ne hF
theorem c_fewest_22 {x y : Int32} (hC : v_C f g 22 v) (hB : v_B v) : x_Ct 131 (d + 3) [.ref 0, .int x, .int y] (f, g, x_HR 22 t, dm, n) (x_PC f g 22 (x_HR 22 t) dm n (sp_fewest v x y)) := by
  have bK := v_B_K hB
  have bG := v_B_G hB
  have bP := v_B_P hB
  have o2 : v_ok v 2 0 0 := ⟨rfl, rfl⟩
  have h2 : f 22 2 = nI (v 2 0 0) := hC.1 2 0 0 o2
  have b2 : v 2 0 0 ≤ 5 := (hB.1 2 0 0 o2).2
  unfold sp_fewest
  refine x_Ct_w (by decide) (Nat.le_of_ble_eq_true rfl) ok131 [] 8 ?_
  refine Exists.intro _ (And.intro (c_hasPerson rfl h2 bP) (And.intro (And.intro (Nat.zero_le _) (Nat.zero_le _)) (fun q h' hpo => ?_)))
  obtain ⟨rfl, rfl⟩ := hpo
  cases hx : x_ixb x (v 2 0 0) with
  | false =>
    refine And.intro (fun _ => ?_) (fun c => absurd rfl c)
    refine Exists.intro _ (And.intro c_refuse (And.intro (And.intro (Nat.zero_le _) (Nat.zero_le _)) (fun q h' hpo => ?_)))
    obtain ⟨rfl, rfl⟩ := hpo
    refine And.intro ?_ ⟨trivial, Nat.le_refl _, Nat.le_refl _⟩
    exact x_PC_0 (by decide) hC
  | true =>
    refine And.intro (fun c => absurd c (by decide)) (fun _ => ?_)
    refine Exists.intro _ (And.intro c_isSum (And.intro (And.intro (Nat.zero_le _) (Nat.zero_le _)) (fun q h' hpo => ?_)))
    obtain ⟨rfl, rfl⟩ := hpo
    cases hy : x_wi y 0 999 with
    | false =>
      refine And.intro (fun c => absurd rfl c) (fun _ => ?_)
      refine Exists.intro _ (And.intro c_refuse (And.intro (And.intro (Nat.zero_le _) (Nat.zero_le _)) (fun q h' hpo => ?_)))
      obtain ⟨rfl, rfl⟩ := hpo
      refine And.intro ?_ ⟨trivial, Nat.le_refl _, Nat.le_refl _⟩
      exact x_PC_0 (by decide) hC
    | true =>
      refine And.intro (fun _ => ?_) (fun c => absurd c (by decide))
      obtain ⟨p, hp, rfl⟩ := x_ixb_t hx (by omega)
      obtain ⟨s, hs1, hs, rfl⟩ := x_wi_t (lo := 0) (hi := 999) hy (by decide) (by decide)
      rw [x_c, x_c, nI_clamp (by omega), nI_clamp (by omega)]
      refine Exists.intro _ (And.intro (c_wayFromPurse_22 hC hB hp hs) (And.intro (And.intro (Nat.zero_le _) (Nat.zero_le _)) (fun q h' hpo => ?_)))
      obtain ⟨rfl, G, rfl, hG⟩ := hpo
      have hL := x_LC_G (L := 22) (by decide) hG hC
      have hwl := y_way_le (a := v 13 p) (v_w_1 hB) bK hs
      by_cases hl : v_few v p s < 1000000
      · obtain ⟨y1, y2, y3, y4, y5⟩ := y_way_ok (v_w_1 hB) bK hs hl
        rw [if_pos hl]
        refine And.intro (fun c4 => ?_) (fun c4 => ?_)
        · refine Exists.intro _ (And.intro (c_sheetsIn (d := d + 2) (w := y_way (v_w v) (v 13 p) (v 0 0 0) s) (by omega)) (And.intro (And.intro (Nat.zero_le _) (Nat.zero_le _)) (fun q h' hpo => ?_)))
          obtain ⟨rfl, rfl⟩ := hpo
          rw [y2]
          refine Exists.intro _ (And.intro c_answer (And.intro (And.intro (Nat.zero_le _) (Nat.zero_le _)) (fun q h' hpo => ?_)))
          obtain ⟨rfl, rfl⟩ := hpo
          refine And.intro ?_ ⟨trivial, Nat.le_refl _, Nat.le_refl _⟩
          exact x_PC_L (by decide) hL
        · have c4 : lg_cmp (lN (y_way (v_w v) (v 13 p) (v 0 0 0) s)) (lN 1152921504606846976) = 0 := c4
          rw [x_lg_eq, pk_lEQ (by omega) (by decide)] at c4
          omega
      · have hno : y_way (v_w v) (v 13 p) (v 0 0 0) s = 2 ^ 60 := y_way_no hl
        rw [if_neg hl]
        refine And.intro (fun c4 => ?_) (fun c4 => ?_)
        · have c4 : ¬ lg_cmp (lN (y_way (v_w v) (v 13 p) (v 0 0 0) s)) (lN 1152921504606846976) = 0 := c4
          rw [x_lg_eq, pk_lEQ (by omega) (by decide)] at c4
          exact absurd hno c4
        · refine Exists.intro _ (And.intro c_refuse (And.intro (And.intro (Nat.zero_le _) (Nat.zero_le _)) (fun q h' hpo => ?_)))
          obtain ⟨rfl, rfl⟩ := hpo
          refine And.intro ?_ ⟨trivial, Nat.le_refl _, Nat.le_refl _⟩
          exact x_PC_L (by decide) hL
theorem c_payWith_22 {x y z : Int32} (hC : v_C f g 22 v) (hB : v_B v) : x_Ct 132 (d + 3) [.ref 0, .int x, .int y, .int z] (f, g, x_HR 22 t, dm, n) (x_PC f g 22 (x_HR 22 t) dm n (sp_payWith v x y z)) := by
  have bK := v_B_K hB
  have bG := v_B_G hB
  have bP := v_B_P hB
  have o0 : v_ok v 0 0 0 := ⟨rfl, rfl⟩
  have h0 : f 22 0 = nI (v 0 0 0) := hC.1 0 0 0 o0
  have b0 : v 0 0 0 ≤ 4 := (hB.1 0 0 0 o0).2
  have o2 : v_ok v 2 0 0 := ⟨rfl, rfl⟩
  have h2 : f 22 2 = nI (v 2 0 0) := hC.1 2 0 0 o2
  have b2 : v 2 0 0 ≤ 5 := (hB.1 2 0 0 o2).2
  unfold sp_payWith
  refine x_Ct_w (by decide) (Nat.le_of_ble_eq_true rfl) ok132 [] 8 ?_
  refine Exists.intro _ (And.intro (c_hasPurse rfl h0 bK h2 bP) (And.intro (And.intro (Nat.zero_le _) (Nat.zero_le _)) (fun q h' hpo => ?_)))
  obtain ⟨rfl, rfl⟩ := hpo
  cases hx : (x_ixb x (v 2 0 0) && x_ixb z (v 0 0 0)) with
  | false =>
    refine And.intro (fun _ => ?_) (fun c => absurd rfl c)
    refine Exists.intro _ (And.intro c_refuse (And.intro (And.intro (Nat.zero_le _) (Nat.zero_le _)) (fun q h' hpo => ?_)))
    obtain ⟨rfl, rfl⟩ := hpo
    refine And.intro ?_ ⟨trivial, Nat.le_refl _, Nat.le_refl _⟩
    exact x_PC_0 (by decide) hC
  | true =>
    refine And.intro (fun c => absurd c (by decide)) (fun _ => ?_)
    refine Exists.intro _ (And.intro c_isSum (And.intro (And.intro (Nat.zero_le _) (Nat.zero_le _)) (fun q h' hpo => ?_)))
    obtain ⟨rfl, rfl⟩ := hpo
    cases hy : x_wi y 0 999 with
    | false =>
      refine And.intro (fun c => absurd rfl c) (fun _ => ?_)
      refine Exists.intro _ (And.intro c_refuse (And.intro (And.intro (Nat.zero_le _) (Nat.zero_le _)) (fun q h' hpo => ?_)))
      obtain ⟨rfl, rfl⟩ := hpo
      refine And.intro ?_ ⟨trivial, Nat.le_refl _, Nat.le_refl _⟩
      exact x_PC_0 (by decide) hC
    | true =>
      refine And.intro (fun _ => ?_) (fun c => absurd c (by decide))
      rw [Bool.and_eq_true] at hx
      obtain ⟨p, hp, rfl⟩ := x_ixb_t hx.1 (by omega)
      obtain ⟨k, hk, rfl⟩ := x_ixb_t hx.2 (by omega)
      obtain ⟨s, hs1, hs, rfl⟩ := x_wi_t (lo := 0) (hi := 999) hy (by decide) (by decide)
      rw [x_c, x_c, x_c, nI_clamp (by omega), nI_clamp (by omega), nI_clamp (by omega)]
      refine Exists.intro _ (And.intro (c_wayFromPurse_22 hC hB hp hs) (And.intro (And.intro (Nat.zero_le _) (Nat.zero_le _)) (fun q h' hpo => ?_)))
      obtain ⟨rfl, G, rfl, hG⟩ := hpo
      have hL := x_LC_G (L := 22) (by decide) hG hC
      have hwl := y_way_le (a := v 13 p) (v_w_1 hB) bK hs
      by_cases hl : v_few v p s < 1000000
      · obtain ⟨y1, y2, y3, y4, y5⟩ := y_way_ok (v_w_1 hB) bK hs hl
        rw [if_pos hl]
        refine And.intro (fun c4 => ?_) (fun c4 => ?_)
        · refine Exists.intro _ (And.intro (c_sheetsOfKind (d := d + 1) (w := y_way (v_w v) (v 13 p) (v 0 0 0) s) (k := k) (by omega) (by omega)) (And.intro (And.intro (Nat.zero_le _) (Nat.zero_le _)) (fun q h' hpo => ?_)))
          obtain ⟨rfl, rfl⟩ := hpo
          rw [y3 k hk]
          refine Exists.intro _ (And.intro c_answer (And.intro (And.intro (Nat.zero_le _) (Nat.zero_le _)) (fun q h' hpo => ?_)))
          obtain ⟨rfl, rfl⟩ := hpo
          refine And.intro ?_ ⟨trivial, Nat.le_refl _, Nat.le_refl _⟩
          exact x_PC_L (by decide) hL
        · have c4 : lg_cmp (lN (y_way (v_w v) (v 13 p) (v 0 0 0) s)) (lN 1152921504606846976) = 0 := c4
          rw [x_lg_eq, pk_lEQ (by omega) (by decide)] at c4
          omega
      · have hno : y_way (v_w v) (v 13 p) (v 0 0 0) s = 2 ^ 60 := y_way_no hl
        rw [if_neg hl]
        refine And.intro (fun c4 => ?_) (fun c4 => ?_)
        · have c4 : ¬ lg_cmp (lN (y_way (v_w v) (v 13 p) (v 0 0 0) s)) (lN 1152921504606846976) = 0 := c4
          rw [x_lg_eq, pk_lEQ (by omega) (by decide)] at c4
          exact absurd hno c4
        · refine Exists.intro _ (And.intro c_refuse (And.intro (And.intro (Nat.zero_le _) (Nat.zero_le _)) (fun q h' hpo => ?_)))
          obtain ⟨rfl, rfl⟩ := hpo
          refine And.intro ?_ ⟨trivial, Nat.le_refl _, Nat.le_refl _⟩
          exact x_PC_L (by decide) hL
theorem c_leastSheets_22 {x : Int32} (hC : v_C f g 22 v) (hB : v_B v) : x_Ct 137 (d + 2) [.ref 0, .int x] (f, g, x_HR 22 t, dm, n) (x_PC f g 22 (x_HR 22 t) dm n (sp_leastSheets v x)) := by
  have bK := v_B_K hB
  have bG := v_B_G hB
  have bP := v_B_P hB
  unfold sp_leastSheets
  refine x_Ct_w (by decide) (Nat.le_of_ble_eq_true rfl) ok137 [] 8 ?_
  refine Exists.intro _ (And.intro c_isSum (And.intro (And.intro (Nat.zero_le _) (Nat.zero_le _)) (fun q h' hpo => ?_)))
  obtain ⟨rfl, rfl⟩ := hpo
  cases hy : x_wi x 0 999 with
  | false =>
    refine And.intro (fun c => absurd rfl c) (fun _ => ?_)
    refine Exists.intro _ (And.intro c_refuse (And.intro (And.intro (Nat.zero_le _) (Nat.zero_le _)) (fun q h' hpo => ?_)))
    obtain ⟨rfl, rfl⟩ := hpo
    refine And.intro ?_ ⟨trivial, Nat.le_refl _, Nat.le_refl _⟩
    exact x_PC_0 (by decide) hC
  | true =>
    refine And.intro (fun _ => ?_) (fun c => absurd c (by decide))
    obtain ⟨s, hs1, hs, rfl⟩ := x_wi_t (lo := 0) (hi := 999) hy (by decide) (by decide)
    rw [x_c, nI_clamp (by omega)]
    refine Exists.intro _ (And.intro (c_wayOfPrint_22 hC hB hs) (And.intro (And.intro (Nat.zero_le _) (Nat.zero_le _)) (fun q h' hpo => ?_)))
    obtain ⟨rfl, G, rfl, hG⟩ := hpo
    have hL := x_LC_G (L := 22) (by decide) hG hC
    have hwl := y_way_le (a := fun _ => 999) (v_w_1 hB) bK hs
    by_cases hl : v_fewP v s < 1000000
    · obtain ⟨y1, y2, y3, y4, y5⟩ := y_way_ok (v_w_1 hB) bK hs hl
      rw [if_pos hl]
      refine And.intro (fun c4 => ?_) (fun c4 => ?_)
      · refine Exists.intro _ (And.intro (c_sheetsIn (d := d + 1) (w := y_way (v_w v) (fun _ => 999) (v 0 0 0) s) (by omega)) (And.intro (And.intro (Nat.zero_le _) (Nat.zero_le _)) (fun q h' hpo => ?_)))
        obtain ⟨rfl, rfl⟩ := hpo
        rw [y2]
        refine Exists.intro _ (And.intro c_answer (And.intro (And.intro (Nat.zero_le _) (Nat.zero_le _)) (fun q h' hpo => ?_)))
        obtain ⟨rfl, rfl⟩ := hpo
        refine And.intro ?_ ⟨trivial, Nat.le_refl _, Nat.le_refl _⟩
        exact x_PC_L (by decide) hL
      · have c4 : lg_cmp (lN (y_way (v_w v) (fun _ => 999) (v 0 0 0) s)) (lN 1152921504606846976) = 0 := c4
        rw [x_lg_eq, pk_lEQ (by omega) (by decide)] at c4
        omega
    · have hno : y_way (v_w v) (fun _ => 999) (v 0 0 0) s = 2 ^ 60 := y_way_no hl
      rw [if_neg hl]
      refine And.intro (fun c4 => ?_) (fun c4 => ?_)
      · have c4 : ¬ lg_cmp (lN (y_way (v_w v) (fun _ => 999) (v 0 0 0) s)) (lN 1152921504606846976) = 0 := c4
        rw [x_lg_eq, pk_lEQ (by omega) (by decide)] at c4
        exact absurd hno c4
      · refine Exists.intro _ (And.intro c_refuse (And.intro (And.intro (Nat.zero_le _) (Nat.zero_le _)) (fun q h' hpo => ?_)))
        obtain ⟨rfl, rfl⟩ := hpo
        refine And.intro ?_ ⟨trivial, Nat.le_refl _, Nat.le_refl _⟩
        exact x_PC_L (by decide) hL
/-- the table behind a fill: what can be PAID -/
theorem c_canPay_22 {p s j : Nat} {G : Nat → Nat → Int64} {T : Nat → Nat} (hB : v_B v) (hs : s ≤ 999) (hj : j ≤ s) (h1 : x_tb g G T s) (h2 : ∀ j, T j ≤ 2 ^ 60) (h3 : ∀ j, j ≤ s → y_T (v_w v) (v 13 p) (v 0 0 0) j (T j)) : x_V 70 d [.ref 99, .int (nI j)] (f, G, x_HR 22 t, dm, n) (.int (x_bo (decide (v_few v p j < 1000000)))) (f, G, x_HR 22 t, dm, n) := by
  have e := c_isPayable (d := d) (f := f) (r := 22) (t := t) (dm := dm) (n := n) (show j ≤ 999 by omega) (h1.2 j hj) (h2 j)
  rw [y_T_way (v_w_1 hB) (v_B_K hB) (by omega) (h3 j hj), decide_eq_decide.mpr (y_way_lt (v_w_1 hB) (v_B_K hB) (show j ≤ 999 by omega))] at e
  exact e
theorem c_payable_22 {x : Int32} (hC : v_C f g 22 v) (hB : v_B v) : x_Ct 133 (d + 2) [.ref 0, .int x] (f, g, x_HR 22 t, dm, n) (x_PC f g 22 (x_HR 22 t) dm n (sp_payable v x)) := by
  have bK := v_B_K hB
  have bG := v_B_G hB
  have bP := v_B_P hB
  have o0 : v_ok v 0 0 0 := ⟨rfl, rfl⟩
  have h0 : f 22 0 = nI (v 0 0 0) := hC.1 0 0 0 o0
  have b0 : v 0 0 0 ≤ 4 := (hB.1 0 0 0 o0).2
  have o2 : v_ok v 2 0 0 := ⟨rfl, rfl⟩
  have h2 : f 22 2 = nI (v 2 0 0) := hC.1 2 0 0 o2
  have b2 : v 2 0 0 ≤ 5 := (hB.1 2 0 0 o2).2
  unfold sp_payable
  refine x_Ct_w (by decide) (Nat.le_of_ble_eq_true rfl) ok133 [43] 6 ?_
  refine Exists.intro _ (And.intro (c_hasPerson rfl h2 bP) (And.intro (And.intro (Nat.zero_le _) (Nat.zero_le _)) (fun q h' hpo => ?_)))
  obtain ⟨rfl, rfl⟩ := hpo
  cases hx : x_ixb x (v 2 0 0) with
  | false =>
    refine And.intro (fun c => absurd rfl c) (fun _ => ?_)
    refine Exists.intro _ (And.intro c_refuse (And.intro (And.intro (Nat.zero_le _) (Nat.zero_le _)) (fun q h' hpo => ?_)))
    obtain ⟨rfl, rfl⟩ := hpo
    refine And.intro ?_ ⟨trivial, Nat.le_refl _, Nat.le_refl _⟩
    exact x_PC_0 (by decide) hC
  | true =>
    refine And.intro (fun _ => ?_) (fun c => absurd c (by decide))
    obtain ⟨p, hp, rfl⟩ := x_ixb_t hx (by omega)
    rw [x_c, nI_clamp (by omega)]
    have cf := c_fill_22 (d := d) (r := 22) (t := t) (dm := dm) (n := n) (s := 999) (K := v 0 0 0) hC hB hp (by decide) (Nat.le_refl _)
    rw [← h0] at cf
    refine Exists.intro _ (And.intro cf (And.intro (And.intro (Nat.zero_le _) (Nat.zero_le _)) (fun q h' hpo => ?_)))
    obtain ⟨rfl, G, T, rfl, t1, t2, t3⟩ := hpo
    have hL := x_LC_G (L := 22) (by decide) t1.1 hC
    have loop : ∀ m j, j + 1 + m = 1000 → x_J 133 (d + 2) (x_PC f g 22 (x_HR 22 t) dm n (.int (nI (v_cnt v p 999)), 0, v)) 43 [some (.ref 0), some (.int (nI p)), some (.int (nI (v_cnt v p j))), some (.int (nI (j + 1)))] [] (f, G, x_HR 22 t, dm, n) 0 0 := by
      intro m
      induction m with
      | zero =>
        intro j hj
        obtain rfl : j = 999 := by omega
        refine x_wp_ok ok133 [43] 6 ?_
        refine And.intro (fun c => ?_) (fun c => ?_)
        · refine Exists.intro _ (And.intro c_answer (And.intro (And.intro (Nat.zero_le _) (Nat.zero_le _)) (fun q h' hpo => ?_)))
          obtain ⟨rfl, rfl⟩ := hpo
          refine And.intro ?_ ⟨trivial, Nat.le_refl _, Nat.le_refl _⟩
          exact x_PC_L (by decide) hL
        · exact absurd c (by decide)
      | succ m ih =>
        intro j hj
        have hc := v_cnt_le v p j
        refine x_wp_ok ok133 [43] 6 ?_
        refine And.intro (fun c => ?_) (fun c => ?_)
        · have c : nI 999 < nI (j + 1) := c
          rw [nI_ltI (by omega) (by omega)] at c
          omega
        · refine Exists.intro _ (And.intro (c_canPay_22 hB (by decide) (show j + 1 ≤ 999 by omega) t1 t2 t3) (And.intro (And.intro (Nat.zero_le _) (Nat.zero_le _)) (fun q h' hpo => ?_)))
          obtain ⟨rfl, rfl⟩ := hpo
          have e := ih (j + 1) (by omega)
          rw [nI_succ (j + 1), show v_cnt v p (j + 1) = v_cnt v p j + (if v_few v p (j + 1) < 1000000 then 1 else 0) from rfl] at e
          by_cases hl : v_few v p (j + 1) < 1000000
          · rw [decide_eq_true hl]
            rw [if_pos hl, ← nI_add] at e
            refine And.intro (fun c => absurd c (by decide)) (fun _ => ?_)
            exact e
          · rw [decide_eq_false hl]
            rw [if_neg hl, ← nI_add] at e
            refine And.intro (fun _ => ?_) (fun c => absurd rfl c)
            exact e
    exact loop 999 0 (by decide)
theorem c_firstNot_22 {x : Int32} (hC : v_C f g 22 v) (hB : v_B v) : x_Ct 134 (d + 3) [.ref 0, .int x] (f, g, x_HR 22 t, dm, n) (x_PC f g 22 (x_HR 22 t) dm n (sp_firstNot v x)) := by
  have bK := v_B_K hB
  have bG := v_B_G hB
  have bP := v_B_P hB
  have o0 : v_ok v 0 0 0 := ⟨rfl, rfl⟩
  have h0 : f 22 0 = nI (v 0 0 0) := hC.1 0 0 0 o0
  have b0 : v 0 0 0 ≤ 4 := (hB.1 0 0 0 o0).2
  have o2 : v_ok v 2 0 0 := ⟨rfl, rfl⟩
  have h2 : f 22 2 = nI (v 2 0 0) := hC.1 2 0 0 o2
  have b2 : v 2 0 0 ≤ 5 := (hB.1 2 0 0 o2).2
  unfold sp_firstNot
  refine x_Ct_w (by decide) (Nat.le_of_ble_eq_true rfl) ok134 [54] 6 ?_
  refine Exists.intro _ (And.intro (c_hasPerson rfl h2 bP) (And.intro (And.intro (Nat.zero_le _) (Nat.zero_le _)) (fun q h' hpo => ?_)))
  obtain ⟨rfl, rfl⟩ := hpo
  cases hx : x_ixb x (v 2 0 0) with
  | false =>
    refine And.intro (fun c => absurd rfl c) (fun _ => ?_)
    refine Exists.intro _ (And.intro c_refuse (And.intro (And.intro (Nat.zero_le _) (Nat.zero_le _)) (fun q h' hpo => ?_)))
    obtain ⟨rfl, rfl⟩ := hpo
    refine And.intro ?_ ⟨trivial, Nat.le_refl _, Nat.le_refl _⟩
    exact x_PC_0 (by decide) hC
  | true =>
    refine And.intro (fun _ => ?_) (fun c => absurd c (by decide))
    obtain ⟨p, hp, rfl⟩ := x_ixb_t hx (by omega)
    rw [x_c, nI_clamp (by omega)]
    have hws := v_ws_le4 hB (c := 13) (Or.inl rfl) hp
    obtain ⟨M, hM⟩ : ∃ M, M = min 999 (v_ws v 13 p (v 0 0 0)) := ⟨_, rfl⟩
    have hM9 : M ≤ 999 := by rw [hM]; exact Nat.min_le_left _ _
    rw [← hM]
    have eM : (if nI (v_ws v 13 p (v 0 0 0)) < nI 999 then nI (v_ws v 13 p (v 0 0 0)) else nI 999) = nI M := by rw [x_min_nI (by decide) (by omega), hM]
    have cf := c_fill_22 (d := d + 1) (r := 22) (t := t) (dm := dm) (n := n) (s := M) (K := v 0 0 0) hC hB hp hM9 (Nat.le_refl _)
    have cf2 : x_Ct 73 (d + 2) [.ref 99, .ref 22, .int (nI p), .int (if nI (v_ws v 13 p (v 0 0 0)) < nI 999 then nI (v_ws v 13 p (v 0 0 0)) else nI 999), .int (f 22 0)] (f, g, x_HR 22 t, dm, n) (x_fp g f (x_HR 22 t) dm n (v_w v) (v 13 p) (v 0 0 0) M) := by rw [eM, h0]; exact cf
    refine Exists.intro _ (And.intro (c_wealthOf_22 hC hB hp) (And.intro (And.intro (Nat.zero_le _) (Nat.zero_le _)) (fun q h' hpo => ?_)))
    obtain ⟨rfl, rfl⟩ := hpo
    refine Exists.intro _ (And.intro cf2 (And.intro (And.intro (Nat.zero_le _) (Nat.zero_le _)) (fun q h' hpo => ?_)))
    obtain ⟨rfl, G, T, rfl, t1, t2, t3⟩ := hpo
    have hL := x_LC_G (L := 22) (by decide) t1.1 hC
    have loop : ∀ m j, j + m = M + 1 → x_J 134 (d + 3) (x_PC f g 22 (x_HR 22 t) dm n (x_sq 6 true (v_fnot v p m j) v)) 54 [some (.ref 0), some (.int (nI p)), some (.int (nI M)), some (.int (nI j))] [] (f, G, x_HR 22 t, dm, n) 0 0 := by
      intro m
      induction m with
      | zero =>
        intro j hj
        refine x_wp_ok ok134 [54] 6 ?_
        refine And.intro (fun c => ?_) (fun c => ?_)
        · refine Exists.intro _ (And.intro c_refuse (And.intro (And.intro (Nat.zero_le _) (Nat.zero_le _)) (fun q h' hpo => ?_)))
          obtain ⟨rfl, rfl⟩ := hpo
          refine And.intro ?_ ⟨trivial, Nat.le_refl _, Nat.le_refl _⟩
          exact x_PC_L (by decide) hL
        · have c : ¬ nI M < nI j := c
          rw [nI_ltI (by omega) (by omega)] at c
          omega
      | succ m ih =>
        intro j hj
        refine x_wp_ok ok134 [54] 6 ?_
        refine And.intro (fun c => ?_) (fun c => ?_)
        · have c : nI M < nI j := c
          rw [nI_ltI (by omega) (by omega)] at c
          omega
        · refine Exists.intro _ (And.intro (c_canPay_22 hB hM9 (show j ≤ M by omega) t1 t2 t3) (And.intro (And.intro (Nat.zero_le _) (Nat.zero_le _)) (fun q h' hpo => ?_)))
          obtain ⟨rfl, rfl⟩ := hpo
          rw [show v_fnot v p (m + 1) j = if v_few v p j < 1000000 then v_fnot v p m (j + 1) else some (nI j, v) from rfl]
          by_cases hl : v_few v p j < 1000000
          · rw [decide_eq_true hl, if_pos hl]
            refine And.intro (fun _ => ?_) (fun c => absurd c (by decide))
            have e := ih (j + 1) (by omega)
            rw [nI_succ j] at e
            exact e
          · rw [decide_eq_false hl, if_neg hl]
            refine And.intro (fun c => absurd rfl c) (fun _ => ?_)
            refine Exists.intro _ (And.intro c_answer (And.intro (And.intro (Nat.zero_le _) (Nat.zero_le _)) (fun q h' hpo => ?_)))
            obtain ⟨rfl, rfl⟩ := hpo
            refine And.intro ?_ ⟨trivial, Nat.le_refl _, Nat.le_refl _⟩
            exact x_PC_L (by decide) hL
    have e := loop M 1 (by omega)
    rw [← eM] at e
    exact e
theorem c_couldBuy_22 {x y : Int32} (hC : v_C f g 22 v) (hB : v_B v) : x_Ct 135 (d + 2) [.ref 0, .int x, .int y] (f, g, x_HR 22 t, dm, n) (x_PC f g 22 (x_HR 22 t) dm n (sp_couldBuy v x y)) := by
  have bK := v_B_K hB
  have bG := v_B_G hB
  have bP := v_B_P hB
  have o0 : v_ok v 0 0 0 := ⟨rfl, rfl⟩
  have h0 : f 22 0 = nI (v 0 0 0) := hC.1 0 0 0 o0
  have b0 : v 0 0 0 ≤ 4 := (hB.1 0 0 0 o0).2
  have o1 : v_ok v 1 0 0 := ⟨rfl, rfl⟩
  have h1 : f 22 1 = nI (v 1 0 0) := hC.1 1 0 0 o1
  have b1 : v 1 0 0 ≤ 5 := (hB.1 1 0 0 o1).2
  have o2 : v_ok v 2 0 0 := ⟨rfl, rfl⟩
  have h2 : f 22 2 = nI (v 2 0 0) := hC.1 2 0 0 o2
  have b2 : v 2 0 0 ≤ 5 := (hB.1 2 0 0 o2).2
  unfold sp_couldBuy
  refine x_Ct_w (by decide) (Nat.le_of_ble_eq_true rfl) ok135 [104] 8 ?_
  refine Exists.intro _ (And.intro (c_hasPerson rfl h2 bP) (And.intro (And.intro (Nat.zero_le _) (Nat.zero_le _)) (fun q h' hpo => ?_)))
  obtain ⟨rfl, rfl⟩ := hpo
  cases hx : x_ixb x (v 2 0 0) with
  | false =>
    refine And.intro (fun _ => ?_) (fun c => absurd rfl c)
    refine Exists.intro _ (And.intro c_refuse (And.intro (And.intro (Nat.zero_le _) (Nat.zero_le _)) (fun q h' hpo => ?_)))
    obtain ⟨rfl, rfl⟩ := hpo
    refine And.intro ?_ ⟨trivial, Nat.le_refl _, Nat.le_refl _⟩
    exact x_PC_0 (by decide) hC
  | true =>
    refine And.intro (fun c => absurd c (by decide)) (fun _ => ?_)
    refine Exists.intro _ (And.intro (c_hasGood rfl h1 bG) (And.intro (And.intro (Nat.zero_le _) (Nat.zero_le _)) (fun q h' hpo => ?_)))
    obtain ⟨rfl, rfl⟩ := hpo
    cases hy : x_ixb y (v 1 0 0) with
    | false =>
      refine And.intro (fun c => absurd rfl c) (fun _ => ?_)
      refine Exists.intro _ (And.intro c_refuse (And.intro (And.intro (Nat.zero_le _) (Nat.zero_le _)) (fun q h' hpo => ?_)))
      obtain ⟨rfl, rfl⟩ := hpo
      refine And.intro ?_ ⟨trivial, Nat.le_refl _, Nat.le_refl _⟩
      exact x_PC_0 (by decide) hC
    | true =>
      refine And.intro (fun _ => ?_) (fun c => absurd c (by decide))
      obtain ⟨p, hp, rfl⟩ := x_ixb_t hx (by omega)
      obtain ⟨i, hi, rfl⟩ := x_ixb_t hy (by omega)
      rw [x_c, x_c, nI_clamp (by omega), nI_clamp (by omega)]
      have o11 : v_ok v 11 i 0 := show i < v 1 0 0 ∧ 0 = 0 from ⟨by omega, rfl⟩
      have h11 : f 27 i = nI (v 11 i 0) := hC.1 11 i 0 o11
      have b11 : v 11 i 0 ≤ 9999 := (hB.1 11 i 0 o11).2
      have o15 : v_ok v 15 p i := show 15 = 15 ∧ p < v 2 0 0 ∧ i < v 1 0 0 from ⟨rfl, by omega, by omega⟩
      have h15 : f 31 (5 * p + i) = nI (v 15 p i) := hC.1 15 p i o15
      have b15 : v 15 p i ≤ 9999 := (hB.1 15 p i o15).2
      refine Exists.intro _ (And.intro (c_priceOf_22 hC hB hi) (And.intro (And.intro (Nat.zero_le _) (Nat.zero_le _)) (fun q h' hpo => ?_)))
      obtain ⟨rfl, rfl⟩ := hpo
      refine And.intro (x_ix_nI (by omega) (by omega)) ?_
      rw [nI_clamp (by omega)]
      refine Exists.intro _ (And.intro c_chest (And.intro (And.intro (Nat.zero_le _) (Nat.zero_le _)) (fun q h' hpo => ?_)))
      obtain ⟨rfl, rfl⟩ := hpo
      rw [x_pl5]
      refine And.intro (x_ix_nI (by omega) (by omega)) ?_
      rw [nI_clamp (by omega)]
      have cf := c_fill_22 (d := d) (r := 22) (t := t) (dm := dm) (n := n) (s := 999) (K := v 0 0 0) hC hB hp (by decide) (Nat.le_refl _)
      rw [← h0] at cf
      refine Exists.intro _ (And.intro cf (And.intro (And.intro (Nat.zero_le _) (Nat.zero_le _)) (fun q h' hpo => ?_)))
      obtain ⟨rfl, G, T, rfl, t1, t2, t3⟩ := hpo
      have hL := x_LC_G (L := 22) (by decide) t1.1 hC
      have hmo : v_most v p i ≤ 999 := Nat.le_trans (Nat.min_le_left _ _) (Nat.min_le_left _ _)
      have loop : ∀ j mo, j ≤ 999 → x_J 135 (d + 2) (x_PC f g 22 (x_HR 22 t) dm n (.int (nI (y_top (v_can v p i) j)), 0, v)) 104 [some (.ref 0), some (.int (nI p)), some (.int (nI i)), some (.long (lN (v 10 i 0 * v 7 0 0))), none, some (.int mo), some (.int (nI j))] [] (f, G, x_HR 22 t, dm, n) 0 0 := by
        intro j
        induction j with
        | zero =>
          intro mo hj
          refine x_wp_ok ok135 [104] 8 ?_
          refine And.intro (fun c => ?_) (fun c => ?_)
          · refine Exists.intro _ (And.intro c_answer (And.intro (And.intro (Nat.zero_le _) (Nat.zero_le _)) (fun q h' hpo => ?_)))
            obtain ⟨rfl, rfl⟩ := hpo
            refine And.intro ?_ ⟨trivial, Nat.le_refl _, Nat.le_refl _⟩
            exact x_PC_L (by decide) hL
          · exact absurd (show nI 0 < nI 1 by decide) c
        | succ j ih =>
          intro mo hj
          have hS := v_S_lt hB hi (show j + 1 ≤ 9999 by omega)
          have eS := v_S_l (v := v) (i := i) (show j + 1 ≤ 9999 by omega)
          have e := ih mo (by omega)
          rw [← pk_m1 j] at e
          refine x_wp_ok ok135 [104] 8 ?_
          refine And.intro (fun c => ?_) (fun c => ?_)
          · have c : nI (j + 1) < nI 1 := c
            rw [nI_ltI (by omega) (by decide)] at c
            omega
          · rw [show y_top (v_can v p i) (j + 1) = if v_can v p i (j + 1) then j + 1 else y_top (v_can v p i) j from rfl]
            refine And.intro (fun c2 => ?_) (fun c2 => ?_)
            · have c2 : 0 < lg_cmp ((nI (j + 1)).toInt64 * lN (v 10 i 0 * v 7 0 0)) (lN 999) := c2
              rw [x_lg_gt, eS, pk_lLT (by decide) (by omega)] at c2
              rw [if_neg (by simp only [v_can, decide_eq_false (show ¬ v_S v i (j + 1) ≤ 999 by omega), Bool.false_and]; decide)]
              exact e
            · have c2 : ¬ 0 < lg_cmp ((nI (j + 1)).toInt64 * lN (v 10 i 0 * v 7 0 0)) (lN 999) := c2
              rw [x_lg_gt, eS, pk_lLT (by decide) (by omega)] at c2
              have cp := c_canPay_22 (d := d + 1) (f := f) (t := t) (dm := dm) (n := n) (p := p) hB (by decide) (show v_S v i (j + 1) ≤ 999 by omega) t1 t2 t3
              rw [← lN_i (v_S v i (j + 1)), ← eS] at cp
              refine Exists.intro _ (And.intro cp (And.intro (And.intro (Nat.zero_le _) (Nat.zero_le _)) (fun q h' hpo => ?_)))
              obtain ⟨rfl, rfl⟩ := hpo
              by_cases hl : v_few v p (v_S v i (j + 1)) < 1000000
              · rw [decide_eq_true hl, if_pos (by simp only [v_can, Bool.and_eq_true, decide_eq_true_eq]; exact ⟨by omega, hl⟩)]
                refine And.intro (fun c => absurd c (by decide)) (fun _ => ?_)
                refine Exists.intro _ (And.intro c_answer (And.intro (And.intro (Nat.zero_le _) (Nat.zero_le _)) (fun q h' hpo => ?_)))
                obtain ⟨rfl, rfl⟩ := hpo
                refine And.intro ?_ ⟨trivial, Nat.le_refl _, Nat.le_refl _⟩
                exact x_PC_L (by decide) hL
              · rw [decide_eq_false hl, if_neg (by simp only [v_can, Bool.and_eq_true, decide_eq_true_eq]; exact fun q => hl q.2)]
                refine And.intro (fun _ => ?_) (fun c => absurd rfl c)
                exact e
      have em : (if nI 9999 - f 31 (5 * p + i) < (if f 27 i < nI 999 then f 27 i else nI 999) then nI 9999 - f 31 (5 * p + i) else (if f 27 i < nI 999 then f 27 i else nI 999)) = nI (v_most v p i) := by
        rw [h11, h15, pk_sub b15, x_min_nI (by decide) (by omega), x_min_nI (by omega) (by omega)]
        rfl
      have e := loop (v_most v p i) (nI (v_most v p i)) hmo
      rw [show (.int (nI (y_top (v_can v p i) (v_most v p i))), 0, v) = x_sr true (nI (y_top (v_can v p i) (v_most v p i))) v from rfl] at e
      generalize nI (y_top (v_can v p i) (v_most v p i)) = W at e ⊢
      rw [← em] at e
      exact e
end C38
