theorem y_vec_S {w a : Nat → Nat} {K s : Nat} (hw : ∀ i, i < K → 1 ≤ w i) (hK : K ≤ 4) (hs : s ≤ 999) (hl : y_few w a K 0 s < 1000000) : y_S (y_vec w a K 0 s) K 0 = y_few w a K 0 s := (y_vec_ok K 0 s (fun i _ b => hw i (by omega)) (by omega) hs hl).2.1
/-- only a table of longs has changed; up to s it holds T -/
def x_tq (c : Nat) (g G : Nat → Nat → Int64) (T : Nat → Nat) (s : Nat) : Prop := (∀ k, k ≠ c → G k = g k) ∧ ∀ j, j ≤ s → G c j = lN (T j)
section C43
variable {f : Nat → Nat → Int32} {g : Nat → Nat → Int64} {r t : Nat} {ρ : Nat → Nat → Option Nat} {dm : List Nat} {n d N : Nat} {v : xV} {h : xH}
theorem m_buy {x y z : Int32} (hM : v_M (f 501) 0 v) (hB : v_B v) : x_Ct 254 (d + 5) [.ref 500, .int x, .int y, .int z] (f, g, x_HR r t, dm, n) (x_PM f g (x_HR r t) dm n (sp_buy v x y z)) := by
  have bK := v_B_K hB
  have bG := v_B_G hB
  have bP := v_B_P hB
  have o0 : v_ok v 0 0 0 := ⟨rfl, rfl⟩
  have h0 : f 501 0 = nI (v 0 0 0) := v_M_at hM o0
  have b0 : v 0 0 0 ≤ 4 := (hB.1 0 0 0 o0).2
  have o1 : v_ok v 1 0 0 := ⟨rfl, rfl⟩
  have h1 : f 501 1 = nI (v 1 0 0) := v_M_at hM o1
  have b1 : v 1 0 0 ≤ 5 := (hB.1 1 0 0 o1).2
  have o2 : v_ok v 2 0 0 := ⟨rfl, rfl⟩
  have h2 : f 501 2 = nI (v 2 0 0) := v_M_at hM o2
  have b2 : v 2 0 0 ≤ 5 := (hB.1 2 0 0 o2).2
  unfold sp_buy
  refine x_Ct_w (by decide) (Nat.le_of_ble_eq_true rfl) ok254 [] 8 ?_
  refine Exists.intro _ (And.intro (m_isWare h1 (by omega) h2 (by omega)) (And.intro (And.intro (Nat.zero_le _) (Nat.zero_le _)) (fun q h' hpo => ?_)))
  obtain ⟨rfl, rfl⟩ := hpo
  cases hb : (x_ixb x (v 2 0 0) && x_ixb y (v 1 0 0)) with
  | false =>
    refine And.intro (fun _ => ?_) (fun c => absurd rfl c)
    refine Exists.intro _ (And.intro m_refuse (And.intro (And.intro (Nat.zero_le _) (Nat.zero_le _)) (fun q h' hpo => ?_)))
    obtain ⟨rfl, rfl⟩ := hpo
    refine And.intro ?_ ⟨trivial, Nat.le_refl _, Nat.le_refl _⟩
    exact x_PM_0 hM
  | true =>
    refine And.intro (fun c => absurd c (by decide)) (fun _ => ?_)
    refine Exists.intro _ (And.intro m_isMany (And.intro (And.intro (Nat.zero_le _) (Nat.zero_le _)) (fun q h' hpo => ?_)))
    obtain ⟨rfl, rfl⟩ := hpo
    cases hz : x_wi z 1 999 with
    | false =>
      refine And.intro (fun c => absurd rfl c) (fun _ => ?_)
      refine Exists.intro _ (And.intro m_refuse (And.intro (And.intro (Nat.zero_le _) (Nat.zero_le _)) (fun q h' hpo => ?_)))
      obtain ⟨rfl, rfl⟩ := hpo
      refine And.intro ?_ ⟨trivial, Nat.le_refl _, Nat.le_refl _⟩
      exact x_PM_0 hM
    | true =>
      refine And.intro (fun _ => ?_) (fun c => absurd c (by decide))
      rw [Bool.and_eq_true] at hb
      obtain ⟨p, hp, rfl⟩ := x_ixb_t hb.1 (by omega)
      obtain ⟨i, hi, rfl⟩ := x_ixb_t hb.2 (by omega)
      obtain ⟨m, hm1, hm, rfl⟩ := x_wi_t (lo := 1) (hi := 999) hz (by decide) (by decide)
      rw [x_c, x_c, x_c, nI_clamp (by omega), nI_clamp (by omega), nI_clamp (by omega)]
      refine Exists.intro _ (And.intro (m_buys hM hB hp hi hm) (And.intro (And.intro (Nat.zero_le _) (Nat.zero_le _)) (fun q h' hpo => ?_)))
      obtain ⟨F, rfl, rfl, hF, hF5⟩ := hpo
      by_cases hcb : v_cb v p i m = true
      · have es : s_buy v p i m = some (nI (v_few v p (v_S v i m)), d_buy v p i m) := if_pos hcb
        rw [es] at hF hF5 ⊢
        have hq := hcb
        simp only [v_cb, Bool.and_eq_true, decide_eq_true_eq] at hq
        have e1 := y_vec_S (a := v 13 p) (v_w_1 hB) bK hq.2.2.1 hq.2.2.2
        have hF0 : F 501 0 = nI (v 0 0 0) := (v_M_at hF.1 (c := 0) (i := 0) (j := 0) ⟨rfl, rfl⟩).trans (by first | rw [show x_oV v (some (nI (v_few v p (v_S v i m)), d_buy v p i m)) 0 0 0 = d_tb _ p i m _ 0 0 0 from rfl, d_tb_c (by decide) (by decide) (by decide), v_set_c (by decide)] | rw [show x_oV v (some (nI (v_few v p (v_S v i m)), d_buy v p i m)) 0 0 0 = d_ts _ p i m _ 0 0 0 from rfl, d_ts_c (by decide) (by decide) (by decide), v_set_c (by decide)])
        refine And.intro (fun c => absurd (show (1 : Int32) = 0 from c) (by decide)) (fun _ => ?_)
        have pa := m_payingAll (d := d + 4) (g := g) (r := r) (t := t) (dm := dm) (n := n) hF0 bK (hF5 (by simp))
        rw [show y_S (v_vec v p (v_S v i m)) (v 0 0 0) 0 = v_few v p (v_S v i m) from e1] at pa
        refine Exists.intro _ (And.intro pa (And.intro (And.intro (Nat.zero_le _) (Nat.zero_le _)) (fun q h' hpo => ?_)))
        obtain ⟨rfl, rfl⟩ := hpo
        refine Exists.intro _ (And.intro m_gives (And.intro (And.intro (Nat.zero_le _) (Nat.zero_le _)) (fun q h' hpo => ?_)))
        obtain ⟨rfl, rfl⟩ := hpo
        refine And.intro ?_ ⟨trivial, Nat.le_refl _, Nat.le_refl _⟩
        exact x_PM_L hF
      · have es : s_buy v p i m = none := if_neg hcb
        rw [es] at hF ⊢
        refine And.intro (fun _ => ?_) (fun c => absurd rfl c)
        refine Exists.intro _ (And.intro m_refuse (And.intro (And.intro (Nat.zero_le _) (Nat.zero_le _)) (fun q h' hpo => ?_)))
        obtain ⟨rfl, rfl⟩ := hpo
        refine And.intro ?_ ⟨trivial, Nat.le_refl _, Nat.le_refl _⟩
        exact x_PM_L hF
theorem m_sell {x y z : Int32} (hM : v_M (f 501) 0 v) (hB : v_B v) : x_Ct 256 (d + 5) [.ref 500, .int x, .int y, .int z] (f, g, x_HR r t, dm, n) (x_PM f g (x_HR r t) dm n (sp_sell v x y z)) := by
  have bK := v_B_K hB
  have bG := v_B_G hB
  have bP := v_B_P hB
  have o0 : v_ok v 0 0 0 := ⟨rfl, rfl⟩
  have h0 : f 501 0 = nI (v 0 0 0) := v_M_at hM o0
  have b0 : v 0 0 0 ≤ 4 := (hB.1 0 0 0 o0).2
  have o1 : v_ok v 1 0 0 := ⟨rfl, rfl⟩
  have h1 : f 501 1 = nI (v 1 0 0) := v_M_at hM o1
  have b1 : v 1 0 0 ≤ 5 := (hB.1 1 0 0 o1).2
  have o2 : v_ok v 2 0 0 := ⟨rfl, rfl⟩
  have h2 : f 501 2 = nI (v 2 0 0) := v_M_at hM o2
  have b2 : v 2 0 0 ≤ 5 := (hB.1 2 0 0 o2).2
  unfold sp_sell
  refine x_Ct_w (by decide) (Nat.le_of_ble_eq_true rfl) ok256 [] 8 ?_
  refine Exists.intro _ (And.intro (m_isWare h1 (by omega) h2 (by omega)) (And.intro (And.intro (Nat.zero_le _) (Nat.zero_le _)) (fun q h' hpo => ?_)))
  obtain ⟨rfl, rfl⟩ := hpo
  cases hb : (x_ixb x (v 2 0 0) && x_ixb y (v 1 0 0)) with
  | false =>
    refine And.intro (fun _ => ?_) (fun c => absurd rfl c)
    refine Exists.intro _ (And.intro m_refuse (And.intro (And.intro (Nat.zero_le _) (Nat.zero_le _)) (fun q h' hpo => ?_)))
    obtain ⟨rfl, rfl⟩ := hpo
    refine And.intro ?_ ⟨trivial, Nat.le_refl _, Nat.le_refl _⟩
    exact x_PM_0 hM
  | true =>
    refine And.intro (fun c => absurd c (by decide)) (fun _ => ?_)
    refine Exists.intro _ (And.intro m_isMany (And.intro (And.intro (Nat.zero_le _) (Nat.zero_le _)) (fun q h' hpo => ?_)))
    obtain ⟨rfl, rfl⟩ := hpo
    cases hz : x_wi z 1 999 with
    | false =>
      refine And.intro (fun c => absurd rfl c) (fun _ => ?_)
      refine Exists.intro _ (And.intro m_refuse (And.intro (And.intro (Nat.zero_le _) (Nat.zero_le _)) (fun q h' hpo => ?_)))
      obtain ⟨rfl, rfl⟩ := hpo
      refine And.intro ?_ ⟨trivial, Nat.le_refl _, Nat.le_refl _⟩
      exact x_PM_0 hM
    | true =>
      refine And.intro (fun _ => ?_) (fun c => absurd c (by decide))
      rw [Bool.and_eq_true] at hb
      obtain ⟨p, hp, rfl⟩ := x_ixb_t hb.1 (by omega)
      obtain ⟨i, hi, rfl⟩ := x_ixb_t hb.2 (by omega)
      obtain ⟨m, hm1, hm, rfl⟩ := x_wi_t (lo := 1) (hi := 999) hz (by decide) (by decide)
      rw [x_c, x_c, x_c, nI_clamp (by omega), nI_clamp (by omega), nI_clamp (by omega)]
      refine Exists.intro _ (And.intro (m_sells hM hB hp hi hm) (And.intro (And.intro (Nat.zero_le _) (Nat.zero_le _)) (fun q h' hpo => ?_)))
      obtain ⟨F, rfl, rfl, hF, hF5⟩ := hpo
      by_cases hcb : v_cs v p i m = true
      · have es : s_sell v p i m = some (nI (v_fewP v (v_S v i m)), d_sell v p i m) := if_pos hcb
        rw [es] at hF hF5 ⊢
        have hq := hcb
        simp only [v_cs, Bool.and_eq_true, decide_eq_true_eq] at hq
        have e1 := y_vec_S (a := (fun _ => 999)) (v_w_1 hB) bK hq.2.2.1 hq.2.2.2.1
        have hF0 : F 501 0 = nI (v 0 0 0) := (v_M_at hF.1 (c := 0) (i := 0) (j := 0) ⟨rfl, rfl⟩).trans (by first | rw [show x_oV v (some (nI (v_fewP v (v_S v i m)), d_sell v p i m)) 0 0 0 = d_tb _ p i m _ 0 0 0 from rfl, d_tb_c (by decide) (by decide) (by decide), v_set_c (by decide)] | rw [show x_oV v (some (nI (v_fewP v (v_S v i m)), d_sell v p i m)) 0 0 0 = d_ts _ p i m _ 0 0 0 from rfl, d_ts_c (by decide) (by decide) (by decide), v_set_c (by decide)])
        refine And.intro (fun c => absurd (show (1 : Int32) = 0 from c) (by decide)) (fun _ => ?_)
        have pa := m_payingAll (d := d + 4) (g := g) (r := r) (t := t) (dm := dm) (n := n) hF0 bK (hF5 (by simp))
        rw [show y_S (v_vecP v (v_S v i m)) (v 0 0 0) 0 = v_fewP v (v_S v i m) from e1] at pa
        refine Exists.intro _ (And.intro pa (And.intro (And.intro (Nat.zero_le _) (Nat.zero_le _)) (fun q h' hpo => ?_)))
        obtain ⟨rfl, rfl⟩ := hpo
        refine Exists.intro _ (And.intro m_gives (And.intro (And.intro (Nat.zero_le _) (Nat.zero_le _)) (fun q h' hpo => ?_)))
        obtain ⟨rfl, rfl⟩ := hpo
        refine And.intro ?_ ⟨trivial, Nat.le_refl _, Nat.le_refl _⟩
        exact x_PM_L hF
      · have es : s_sell v p i m = none := if_neg hcb
        rw [es] at hF ⊢
        refine And.intro (fun _ => ?_) (fun c => absurd rfl c)
        refine Exists.intro _ (And.intro m_refuse (And.intro (And.intro (Nat.zero_le _) (Nat.zero_le _)) (fun q h' hpo => ?_)))
        obtain ⟨rfl, rfl⟩ := hpo
        refine And.intro ?_ ⟨trivial, Nat.le_refl _, Nat.le_refl _⟩
        exact x_PM_L hF
theorem m_fewest {x y : Int32} (hM : v_M (f 501) 0 v) (hB : v_B v) : x_Ct 278 (d + 4) [.ref 500, .int x, .int y] (f, g, x_HR r t, dm, n) (x_PM f g (x_HR r t) dm n (sp_fewest v x y)) := by
  have bK := v_B_K hB
  have bG := v_B_G hB
  have bP := v_B_P hB
  have o0 : v_ok v 0 0 0 := ⟨rfl, rfl⟩
  have h0 : f 501 0 = nI (v 0 0 0) := v_M_at hM o0
  have b0 : v 0 0 0 ≤ 4 := (hB.1 0 0 0 o0).2
  have o2 : v_ok v 2 0 0 := ⟨rfl, rfl⟩
  have h2 : f 501 2 = nI (v 2 0 0) := v_M_at hM o2
  have b2 : v 2 0 0 ≤ 5 := (hB.1 2 0 0 o2).2
  unfold sp_fewest
  refine x_Ct_w (by decide) (Nat.le_of_ble_eq_true rfl) ok278 [] 8 ?_
  refine Exists.intro _ (And.intro (m_isPerson h2 (by omega)) (And.intro (And.intro (Nat.zero_le _) (Nat.zero_le _)) (fun q h' hpo => ?_)))
  obtain ⟨rfl, rfl⟩ := hpo
  cases hx : x_ixb x (v 2 0 0) with
  | false =>
    refine And.intro (fun _ => ?_) (fun c => absurd rfl c)
    refine Exists.intro _ (And.intro m_refuse (And.intro (And.intro (Nat.zero_le _) (Nat.zero_le _)) (fun q h' hpo => ?_)))
    obtain ⟨rfl, rfl⟩ := hpo
    refine And.intro ?_ ⟨trivial, Nat.le_refl _, Nat.le_refl _⟩
    exact x_PM_0 hM
  | true =>
    refine And.intro (fun c => absurd c (by decide)) (fun _ => ?_)
    refine Exists.intro _ (And.intro m_isSum (And.intro (And.intro (Nat.zero_le _) (Nat.zero_le _)) (fun q h' hpo => ?_)))
    obtain ⟨rfl, rfl⟩ := hpo
    cases hy : x_wi y 0 999 with
    | false =>
      refine And.intro (fun c => absurd rfl c) (fun _ => ?_)
      refine Exists.intro _ (And.intro m_refuse (And.intro (And.intro (Nat.zero_le _) (Nat.zero_le _)) (fun q h' hpo => ?_)))
      obtain ⟨rfl, rfl⟩ := hpo
      refine And.intro ?_ ⟨trivial, Nat.le_refl _, Nat.le_refl _⟩
      exact x_PM_0 hM
    | true =>
      refine And.intro (fun _ => ?_) (fun c => absurd c (by decide))
      obtain ⟨p, hp, rfl⟩ := x_ixb_t hx (by omega)
      obtain ⟨s, hs1, hs, rfl⟩ := x_wi_t (lo := 0) (hi := 999) hy (by decide) (by decide)
      rw [x_c, x_c, nI_clamp (by omega), nI_clamp (by omega)]
      have lp := m_laysPaying (d := d) (f := f) (g := g) (r := r) (t := t) (dm := dm) (n := n) (S := s) hM hB (Or.inr ⟨p, rfl, hp, rfl⟩) (by omega)
      rw [← nI_l (show s < 2 ^ 31 by omega)] at lp
      refine Exists.intro _ (And.intro lp (And.intro (And.intro (Nat.zero_le _) (Nat.zero_le _)) (fun q h' hpo => ?_)))
      obtain ⟨F, rfl, hF, ⟨rfl, s1, s2, s3⟩ | ⟨rfl, s1⟩⟩ := hpo
      · rw [if_pos (show v_few v p s < 1000000 from s2)]
        have hF0 : F 501 0 = nI (v 0 0 0) := by rw [hF 501 (by decide) (by decide)]; exact h0
        refine And.intro (fun c => absurd (show (1 : Int32) = 0 from c) (by decide)) (fun _ => ?_)
        have pa := m_payingAll (d := d + 3) (g := g) (r := r) (t := t) (dm := dm) (n := n) hF0 bK s3
        rw [y_vec_S (v_w_1 hB) bK hs s2] at pa
        refine Exists.intro _ (And.intro pa (And.intro (And.intro (Nat.zero_le _) (Nat.zero_le _)) (fun q h' hpo => ?_)))
        obtain ⟨rfl, rfl⟩ := hpo
        refine Exists.intro _ (And.intro m_gives (And.intro (And.intro (Nat.zero_le _) (Nat.zero_le _)) (fun q h' hpo => ?_)))
        obtain ⟨rfl, rfl⟩ := hpo
        refine And.intro ?_ ⟨trivial, Nat.le_refl _, Nat.le_refl _⟩
        exact x_PM_L (x_ML_F hF hM)
      · rw [if_neg (show ¬ v_few v p s < 1000000 from fun q => s1 ⟨hs, q⟩)]
        refine And.intro (fun _ => ?_) (fun c => absurd rfl c)
        refine Exists.intro _ (And.intro m_refuse (And.intro (And.intro (Nat.zero_le _) (Nat.zero_le _)) (fun q h' hpo => ?_)))
        obtain ⟨rfl, rfl⟩ := hpo
        refine And.intro ?_ ⟨trivial, Nat.le_refl _, Nat.le_refl _⟩
        exact x_PM_L (x_ML_F hF hM)
theorem m_payWith {x y z : Int32} (hM : v_M (f 501) 0 v) (hB : v_B v) : x_Ct 279 (d + 4) [.ref 500, .int x, .int y, .int z] (f, g, x_HR r t, dm, n) (x_PM f g (x_HR r t) dm n (sp_payWith v x y z)) := by
  have bK := v_B_K hB
  have bG := v_B_G hB
  have bP := v_B_P hB
  have o0 : v_ok v 0 0 0 := ⟨rfl, rfl⟩
  have h0 : f 501 0 = nI (v 0 0 0) := v_M_at hM o0
  have b0 : v 0 0 0 ≤ 4 := (hB.1 0 0 0 o0).2
  have o2 : v_ok v 2 0 0 := ⟨rfl, rfl⟩
  have h2 : f 501 2 = nI (v 2 0 0) := v_M_at hM o2
  have b2 : v 2 0 0 ≤ 5 := (hB.1 2 0 0 o2).2
  unfold sp_payWith
  refine x_Ct_w (by decide) (Nat.le_of_ble_eq_true rfl) ok279 [] 8 ?_
  refine Exists.intro _ (And.intro (m_isSheet h0 (by omega) h2 (by omega)) (And.intro (And.intro (Nat.zero_le _) (Nat.zero_le _)) (fun q h' hpo => ?_)))
  obtain ⟨rfl, rfl⟩ := hpo
  cases hx : (x_ixb x (v 2 0 0) && x_ixb z (v 0 0 0)) with
  | false =>
    refine And.intro (fun _ => ?_) (fun c => absurd rfl c)
    refine Exists.intro _ (And.intro m_refuse (And.intro (And.intro (Nat.zero_le _) (Nat.zero_le _)) (fun q h' hpo => ?_)))
    obtain ⟨rfl, rfl⟩ := hpo
    refine And.intro ?_ ⟨trivial, Nat.le_refl _, Nat.le_refl _⟩
    exact x_PM_0 hM
  | true =>
    refine And.intro (fun c => absurd c (by decide)) (fun _ => ?_)
    refine Exists.intro _ (And.intro m_isSum (And.intro (And.intro (Nat.zero_le _) (Nat.zero_le _)) (fun q h' hpo => ?_)))
    obtain ⟨rfl, rfl⟩ := hpo
    cases hy : x_wi y 0 999 with
    | false =>
      refine And.intro (fun c => absurd rfl c) (fun _ => ?_)
      refine Exists.intro _ (And.intro m_refuse (And.intro (And.intro (Nat.zero_le _) (Nat.zero_le _)) (fun q h' hpo => ?_)))
      obtain ⟨rfl, rfl⟩ := hpo
      refine And.intro ?_ ⟨trivial, Nat.le_refl _, Nat.le_refl _⟩
      exact x_PM_0 hM
    | true =>
      refine And.intro (fun _ => ?_) (fun c => absurd c (by decide))
      rw [Bool.and_eq_true] at hx
      obtain ⟨p, hp, rfl⟩ := x_ixb_t hx.1 (by omega)
      obtain ⟨k, hk, rfl⟩ := x_ixb_t hx.2 (by omega)
      obtain ⟨s, hs1, hs, rfl⟩ := x_wi_t (lo := 0) (hi := 999) hy (by decide) (by decide)
      rw [x_c, x_c, x_c, nI_clamp (by omega), nI_clamp (by omega), nI_clamp (by omega)]
      have lp := m_laysPaying (d := d) (f := f) (g := g) (r := r) (t := t) (dm := dm) (n := n) (S := s) hM hB (Or.inr ⟨p, rfl, hp, rfl⟩) (by omega)
      rw [← nI_l (show s < 2 ^ 31 by omega)] at lp
      refine Exists.intro _ (And.intro lp (And.intro (And.intro (Nat.zero_le _) (Nat.zero_le _)) (fun q h' hpo => ?_)))
      obtain ⟨F, rfl, hF, ⟨rfl, s1, s2, s3⟩ | ⟨rfl, s1⟩⟩ := hpo
      · rw [if_pos (show v_few v p s < 1000000 from s2)]
        refine And.intro (fun c => absurd (show (1 : Int32) = 0 from c) (by decide)) (fun _ => ?_)
        refine And.intro (x_ix_nI (by omega) (by omega)) ?_
        rw [nI_clamp (by omega)]
        refine Exists.intro _ (And.intro m_gives (And.intro (And.intro (Nat.zero_le _) (Nat.zero_le _)) (fun q h' hpo => ?_)))
        obtain ⟨rfl, rfl⟩ := hpo
        refine And.intro ?_ ⟨trivial, Nat.le_refl _, Nat.le_refl _⟩
        rw [show nI (v_vec v p s k) = F 510 k from (s3 k hk).symm]
        exact x_PM_L (x_ML_F hF hM)
      · rw [if_neg (show ¬ v_few v p s < 1000000 from fun q => s1 ⟨hs, q⟩)]
        refine And.intro (fun _ => ?_) (fun c => absurd rfl c)
        refine Exists.intro _ (And.intro m_refuse (And.intro (And.intro (Nat.zero_le _) (Nat.zero_le _)) (fun q h' hpo => ?_)))
        obtain ⟨rfl, rfl⟩ := hpo
        refine And.intro ?_ ⟨trivial, Nat.le_refl _, Nat.le_refl _⟩
        exact x_PM_L (x_ML_F hF hM)
theorem m_leastSheets {x : Int32} (hM : v_M (f 501) 0 v) (hB : v_B v) : x_Ct 286 (d + 4) [.ref 500, .int x] (f, g, x_HR r t, dm, n) (x_PM f g (x_HR r t) dm n (sp_leastSheets v x)) := by
  have bK := v_B_K hB
  have bG := v_B_G hB
  have bP := v_B_P hB
  have o0 : v_ok v 0 0 0 := ⟨rfl, rfl⟩
  have h0 : f 501 0 = nI (v 0 0 0) := v_M_at hM o0
  have b0 : v 0 0 0 ≤ 4 := (hB.1 0 0 0 o0).2
  unfold sp_leastSheets
  refine x_Ct_w (by decide) (Nat.le_of_ble_eq_true rfl) ok286 [] 8 ?_
  refine Exists.intro _ (And.intro m_isSum (And.intro (And.intro (Nat.zero_le _) (Nat.zero_le _)) (fun q h' hpo => ?_)))
  obtain ⟨rfl, rfl⟩ := hpo
  cases hy : x_wi x 0 999 with
  | false =>
    refine And.intro (fun c => absurd rfl c) (fun _ => ?_)
    refine Exists.intro _ (And.intro m_refuse (And.intro (And.intro (Nat.zero_le _) (Nat.zero_le _)) (fun q h' hpo => ?_)))
    obtain ⟨rfl, rfl⟩ := hpo
    refine And.intro ?_ ⟨trivial, Nat.le_refl _, Nat.le_refl _⟩
    exact x_PM_0 hM
  | true =>
    refine And.intro (fun _ => ?_) (fun c => absurd c (by decide))
    obtain ⟨s, hs1, hs, rfl⟩ := x_wi_t (lo := 0) (hi := 999) hy (by decide) (by decide)
    rw [x_c, nI_clamp (by omega)]
    have lp := m_laysPaying (d := d) (f := f) (g := g) (r := r) (t := t) (dm := dm) (n := n) (S := s) hM hB (Or.inl ⟨rfl, rfl⟩) (by omega)
    rw [← nI_l (show s < 2 ^ 31 by omega)] at lp
    refine Exists.intro _ (And.intro lp (And.intro (And.intro (Nat.zero_le _) (Nat.zero_le _)) (fun q h' hpo => ?_)))
    obtain ⟨F, rfl, hF, ⟨rfl, s1, s2, s3⟩ | ⟨rfl, s1⟩⟩ := hpo
    · rw [if_pos (show v_fewP v s < 1000000 from s2)]
      have hF0 : F 501 0 = nI (v 0 0 0) := by rw [hF 501 (by decide) (by decide)]; exact h0
      refine And.intro (fun c => absurd (show (1 : Int32) = 0 from c) (by decide)) (fun _ => ?_)
      have pa := m_payingAll (d := d + 3) (g := g) (r := r) (t := t) (dm := dm) (n := n) hF0 bK s3
      rw [y_vec_S (v_w_1 hB) bK hs s2] at pa
      refine Exists.intro _ (And.intro pa (And.intro (And.intro (Nat.zero_le _) (Nat.zero_le _)) (fun q h' hpo => ?_)))
      obtain ⟨rfl, rfl⟩ := hpo
      refine Exists.intro _ (And.intro m_gives (And.intro (And.intro (Nat.zero_le _) (Nat.zero_le _)) (fun q h' hpo => ?_)))
      obtain ⟨rfl, rfl⟩ := hpo
      refine And.intro ?_ ⟨trivial, Nat.le_refl _, Nat.le_refl _⟩
      exact x_PM_L (x_ML_F hF hM)
    · rw [if_neg (show ¬ v_fewP v s < 1000000 from fun q => s1 ⟨hs, q⟩)]
      refine And.intro (fun _ => ?_) (fun c => absurd rfl c)
      refine Exists.intro _ (And.intro m_refuse (And.intro (And.intro (Nat.zero_le _) (Nat.zero_le _)) (fun q h' hpo => ?_)))
      obtain ⟨rfl, rfl⟩ := hpo
      refine And.intro ?_ ⟨trivial, Nat.le_refl _, Nat.le_refl _⟩
      exact x_PM_L (x_ML_F hF hM)
theorem x_fw_0 {F : Nat → Nat → Int32} {p s : Nat} (h : x_fw F (v_w v) (v 13 p) (v 0 0 0) 0 999) (hs : s ≤ 999) : F 509 s = nI (v_few v p s) := by
  have := h 0 (Nat.le_refl _) (Nat.zero_le _) s hs
  rwa [Nat.mul_zero, Nat.zero_add, Nat.sub_zero] at this
theorem m_payable {x : Int32} (hM : v_M (f 501) 0 v) (hB : v_B v) : x_Ct 280 (d + 3) [.ref 500, .int x] (f, g, x_HR r t, dm, n) (x_PM f g (x_HR r t) dm n (sp_payable v x)) := by
  have bK := v_B_K hB
  have bG := v_B_G hB
  have bP := v_B_P hB
  have o2 : v_ok v 2 0 0 := ⟨rfl, rfl⟩
  have h2 : f 501 2 = nI (v 2 0 0) := v_M_at hM o2
  have b2 : v 2 0 0 ≤ 5 := (hB.1 2 0 0 o2).2
  unfold sp_payable
  refine x_Ct_w (by decide) (Nat.le_of_ble_eq_true rfl) ok280 [26] 6 ?_
  refine Exists.intro _ (And.intro (m_isPerson h2 (by omega)) (And.intro (And.intro (Nat.zero_le _) (Nat.zero_le _)) (fun q h' hpo => ?_)))
  obtain ⟨rfl, rfl⟩ := hpo
  cases hx : x_ixb x (v 2 0 0) with
  | false =>
    refine And.intro (fun c => absurd rfl c) (fun _ => ?_)
    refine Exists.intro _ (And.intro m_refuse (And.intro (And.intro (Nat.zero_le _) (Nat.zero_le _)) (fun q h' hpo => ?_)))
    obtain ⟨rfl, rfl⟩ := hpo
    refine And.intro ?_ ⟨trivial, Nat.le_refl _, Nat.le_refl _⟩
    exact x_PM_0 hM
  | true =>
    refine And.intro (fun _ => ?_) (fun c => absurd c (by decide))
    obtain ⟨p, hp, rfl⟩ := x_ixb_t hx (by omega)
    rw [x_c, nI_clamp (by omega)]
    refine Exists.intro _ (And.intro (m_laysFew (most := 999) hM hB (Or.inr ⟨p, rfl, hp, rfl⟩) (by decide)) (And.intro (And.intro (Nat.zero_le _) (Nat.zero_le _)) (fun q h' hpo => ?_)))
    obtain ⟨rfl, F, rfl, hF, hfw⟩ := hpo
    have hFF : ∀ k, k ≠ 509 → k ≠ 510 → F k = f k := fun k h1 _ => hF k h1
    have loop : ∀ m j, j + 1 + m = 1000 → x_J 280 (d + 3) (x_PM f g (x_HR r t) dm n (.int (nI (v_cnt v p 999)), 0, v)) 26 [some (.ref 500), some (.int (nI p)), some (.int (nI (v_cnt v p j))), some (.int (nI (j + 1)))] [] (F, g, x_HR r t, dm, n) 0 0 := by
      intro m
      induction m with
      | zero =>
        intro j hj
        obtain rfl : j = 999 := by omega
        refine x_wp_ok ok280 [26] 6 ?_
        refine And.intro (fun c => ?_) (fun c => ?_)
        · refine Exists.intro _ (And.intro m_gives (And.intro (And.intro (Nat.zero_le _) (Nat.zero_le _)) (fun q h' hpo => ?_)))
          obtain ⟨rfl, rfl⟩ := hpo
          refine And.intro ?_ ⟨trivial, Nat.le_refl _, Nat.le_refl _⟩
          exact x_PM_L (x_ML_F hFF hM)
        · exact absurd c (by decide)
      | succ m ih =>
        intro j hj
        have hc := v_cnt_le v p j
        have hfe : v_few v p (j + 1) ≤ 1000000 := y_few_le _ _ _ _ _
        have ef := x_fw_0 hfw (show j + 1 ≤ 999 by omega)
        refine x_wp_ok ok280 [26] 6 ?_
        refine And.intro (fun c => ?_) (fun c => ?_)
        · have c : nI 999 < nI (j + 1) := c
          rw [nI_ltI (by omega) (by omega)] at c
          omega
        · have e := ih (j + 1) (by omega)
          rw [nI_succ (j + 1), show v_cnt v p (j + 1) = v_cnt v p j + (if v_few v p (j + 1) < 1000000 then 1 else 0) from rfl] at e
          refine And.intro (x_ix_nI (by omega) (by omega)) ?_
          rw [nI_clamp (by omega)]
          refine And.intro (fun c2 => ?_) (fun c2 => ?_)
          · have c2 : nI 1000000 ≤ F 509 (j + 1) := c2
            rw [ef, nI_leI (by omega) (by omega)] at c2
            rw [if_neg (by omega), ← nI_add] at e
            exact e
          · have c2 : ¬ nI 1000000 ≤ F 509 (j + 1) := c2
            rw [ef, nI_leI (by omega) (by omega)] at c2
            rw [if_pos (by omega), ← nI_add] at e
            exact e
    exact loop 999 0 (by decide)
theorem m_firstNot {x : Int32} (hM : v_M (f 501) 0 v) (hB : v_B v) : x_Ct 281 (d + 3) [.ref 500, .int x] (f, g, x_HR r t, dm, n) (x_PM f g (x_HR r t) dm n (sp_firstNot v x)) := by
  have bK := v_B_K hB
  have bG := v_B_G hB
  have bP := v_B_P hB
  have o2 : v_ok v 2 0 0 := ⟨rfl, rfl⟩
  have h2 : f 501 2 = nI (v 2 0 0) := v_M_at hM o2
  have b2 : v 2 0 0 ≤ 5 := (hB.1 2 0 0 o2).2
  unfold sp_firstNot
  refine x_Ct_w (by decide) (Nat.le_of_ble_eq_true rfl) ok281 [35] 6 ?_
  refine Exists.intro _ (And.intro (m_isPerson h2 (by omega)) (And.intro (And.intro (Nat.zero_le _) (Nat.zero_le _)) (fun q h' hpo => ?_)))
  obtain ⟨rfl, rfl⟩ := hpo
  cases hx : x_ixb x (v 2 0 0) with
  | false =>
    refine And.intro (fun c => absurd rfl c) (fun _ => ?_)
    refine Exists.intro _ (And.intro m_refuse (And.intro (And.intro (Nat.zero_le _) (Nat.zero_le _)) (fun q h' hpo => ?_)))
    obtain ⟨rfl, rfl⟩ := hpo
    refine And.intro ?_ ⟨trivial, Nat.le_refl _, Nat.le_refl _⟩
    exact x_PM_0 hM
  | true =>
    refine And.intro (fun _ => ?_) (fun c => absurd c (by decide))
    obtain ⟨p, hp, rfl⟩ := x_ixb_t hx (by omega)
    rw [x_c, nI_clamp (by omega)]
    have hws := v_ws_le4 hB (c := 13) (Or.inl rfl) hp
    obtain ⟨M, hM2⟩ : ∃ M, M = min 999 (v_ws v 13 p (v 0 0 0)) := ⟨_, rfl⟩
    have hM9 : M ≤ 999 := by rw [hM2]; exact Nat.min_le_left _ _
    have hMw : M ≤ v_ws v 13 p (v 0 0 0) := by rw [hM2]; exact Nat.min_le_right _ _
    have hMm : ∀ s, s ≤ 999 → s ≤ v_ws v 13 p (v 0 0 0) → s ≤ M := fun s h1 h2 => by rw [hM2]; exact Nat.le_min.mpr ⟨h1, h2⟩
    rw [← hM2]
    refine Exists.intro _ (And.intro (m_laysFew (most := 999) hM hB (Or.inr ⟨p, rfl, hp, rfl⟩) (by decide)) (And.intro (And.intro (Nat.zero_le _) (Nat.zero_le _)) (fun q h' hpo => ?_)))
    obtain ⟨rfl, F, rfl, hF, hfw⟩ := hpo
    have hFF : ∀ k, k ≠ 509 → k ≠ 510 → F k = f k := fun k h1 _ => hF k h1
    have hFM : v_M (F 501) 0 v := by rw [hF 501 (by decide)]; exact hM
    refine Exists.intro _ (And.intro (m_wholeAt (k := 0)) (And.intro (And.intro (Nat.zero_le _) (Nat.zero_le _)) (fun q h' hpo => ?_)))
    obtain ⟨rfl, rfl⟩ := hpo
    refine Exists.intro _ (And.intro (m_wholeWorth hFM hB hp) (And.intro (And.intro (Nat.zero_le _) (Nat.zero_le _)) (fun q h' hpo => ?_)))
    obtain ⟨rfl, rfl⟩ := hpo
    have loop : ∀ m j, j + m = M + 1 → 1 ≤ j → x_J 281 (d + 3) (x_PM f g (x_HR r t) dm n (x_sq 6 true (v_fnot v p m j) v)) 35 [some (.ref 500), some (.int (nI p)), some (.int (nI (v_ws v 13 p (v 0 0 0)))), some (.int (nI j))] [] (F, g, x_HR r t, dm, n) 0 0 := by
      intro m
      induction m with
      | zero =>
        intro j hj hj1
        refine x_wp_ok ok281 [35] 8 ?_
        refine And.intro (fun c => ?_) (fun c => ?_)
        · refine Exists.intro _ (And.intro m_refuse (And.intro (And.intro (Nat.zero_le _) (Nat.zero_le _)) (fun q h' hpo => ?_)))
          obtain ⟨rfl, rfl⟩ := hpo
          refine And.intro ?_ ⟨trivial, Nat.le_refl _, Nat.le_refl _⟩
          exact x_PM_L (x_ML_F hFF hM)
        · have c : ¬ nI 999 < nI j := c
          rw [nI_ltI (by omega) (by omega)] at c
          refine And.intro (fun c2 => ?_) (fun c2 => ?_)
          · have c2 : nI j ≤ nI (v_ws v 13 p (v 0 0 0)) := c2
            rw [nI_leI (by omega) (by omega)] at c2
            have := hMm j (by omega) c2
            omega
          · refine Exists.intro _ (And.intro m_refuse (And.intro (And.intro (Nat.zero_le _) (Nat.zero_le _)) (fun q h' hpo => ?_)))
            obtain ⟨rfl, rfl⟩ := hpo
            refine And.intro ?_ ⟨trivial, Nat.le_refl _, Nat.le_refl _⟩
            exact x_PM_L (x_ML_F hFF hM)
      | succ m ih =>
        intro j hj hj1
        have hfe : v_few v p j ≤ 1000000 := y_few_le _ _ _ _ _
        have ef := x_fw_0 hfw (show j ≤ 999 by omega)
        refine x_wp_ok ok281 [35] 8 ?_
        refine And.intro (fun c => ?_) (fun c => ?_)
        · have c : nI 999 < nI j := c
          rw [nI_ltI (by omega) (by omega)] at c
          omega
        · refine And.intro (fun c2 => ?_) (fun c2 => ?_)
          · rw [show v_fnot v p (m + 1) j = if v_few v p j < 1000000 then v_fnot v p m (j + 1) else some (nI j, v) from rfl]
            refine And.intro (x_ix_nI (by omega) (by omega)) ?_
            rw [nI_clamp (by omega)]
            refine And.intro (fun c3 => ?_) (fun c3 => ?_)
            · have c3 : F 509 j < nI 1000000 := c3
              rw [ef, nI_ltI (by omega) (by omega)] at c3
              rw [if_pos c3]
              have e := ih (j + 1) (by omega) (by omega)
              rw [nI_succ j] at e
              exact e
            · have c3 : ¬ F 509 j < nI 1000000 := c3
              rw [ef, nI_ltI (by omega) (by omega)] at c3
              rw [if_neg c3]
              refine Exists.intro _ (And.intro m_gives (And.intro (And.intro (Nat.zero_le _) (Nat.zero_le _)) (fun q h' hpo => ?_)))
              obtain ⟨rfl, rfl⟩ := hpo
              refine And.intro ?_ ⟨trivial, Nat.le_refl _, Nat.le_refl _⟩
              exact x_PM_L (x_ML_F hFF hM)
          · have c2 : ¬ nI j ≤ nI (v_ws v 13 p (v 0 0 0)) := c2
            rw [nI_leI (by omega) (by omega)] at c2
            omega
    exact loop M 1 (by omega) (Nat.le_refl _)
theorem m_couldBuy {x y : Int32} (hM : v_M (f 501) 0 v) (hB : v_B v) : x_Ct 282 (d + 3) [.ref 500, .int x, .int y] (f, g, x_HR r t, dm, n) (x_PM f g (x_HR r t) dm n (sp_couldBuy v x y)) := by
  have bK := v_B_K hB
  have bG := v_B_G hB
  have bP := v_B_P hB
  have o1 : v_ok v 1 0 0 := ⟨rfl, rfl⟩
  have h1 : f 501 1 = nI (v 1 0 0) := v_M_at hM o1
  have b1 : v 1 0 0 ≤ 5 := (hB.1 1 0 0 o1).2
  have o2 : v_ok v 2 0 0 := ⟨rfl, rfl⟩
  have h2 : f 501 2 = nI (v 2 0 0) := v_M_at hM o2
  have b2 : v 2 0 0 ≤ 5 := (hB.1 2 0 0 o2).2
  unfold sp_couldBuy
  refine x_Ct_w (by decide) (Nat.le_of_ble_eq_true rfl) ok282 [68] 8 ?_
  refine Exists.intro _ (And.intro (m_isWare h1 (by omega) h2 (by omega)) (And.intro (And.intro (Nat.zero_le _) (Nat.zero_le _)) (fun q h' hpo => ?_)))
  obtain ⟨rfl, rfl⟩ := hpo
  cases hb : (x_ixb x (v 2 0 0) && x_ixb y (v 1 0 0)) with
  | false =>
    refine And.intro (fun c => absurd rfl c) (fun _ => ?_)
    refine Exists.intro _ (And.intro m_refuse (And.intro (And.intro (Nat.zero_le _) (Nat.zero_le _)) (fun q h' hpo => ?_)))
    obtain ⟨rfl, rfl⟩ := hpo
    refine And.intro ?_ ⟨trivial, Nat.le_refl _, Nat.le_refl _⟩
    exact x_PM_0 hM
  | true =>
    refine And.intro (fun _ => ?_) (fun c => absurd c (by decide))
    rw [Bool.and_eq_true] at hb
    obtain ⟨p, hp, rfl⟩ := x_ixb_t hb.1 (by omega)
    obtain ⟨i, hi, rfl⟩ := x_ixb_t hb.2 (by omega)
    rw [x_c, x_c, nI_clamp (by omega), nI_clamp (by omega)]
    have o11 : v_ok v 11 i 0 := show i < v 1 0 0 ∧ 0 = 0 from ⟨by omega, rfl⟩
    have h11 : f 501 (17 + 2 * i) = nI (v 11 i 0) := v_M_at hM o11
    have b11 : v 11 i 0 ≤ 9999 := (hB.1 11 i 0 o11).2
    have o15 : v_ok v 15 p i := show 15 = 15 ∧ p < v 2 0 0 ∧ i < v 1 0 0 from ⟨rfl, by omega, by omega⟩
    have h15 : f 501 (35 + 14 * p + i) = nI (v 15 p i) := v_M_at hM o15
    have b15 : v 15 p i ≤ 9999 := (hB.1 15 p i o15).2
    refine Exists.intro _ (And.intro (m_laysFew (most := 999) hM hB (Or.inr ⟨p, rfl, hp, rfl⟩) (by decide)) (And.intro (And.intro (Nat.zero_le _) (Nat.zero_le _)) (fun q h' hpo => ?_)))
    obtain ⟨rfl, F, rfl, hF, hfw⟩ := hpo
    have hFF : ∀ k, k ≠ 509 → k ≠ 510 → F k = f k := fun k h1 _ => hF k h1
    have hFM : v_M (F 501) 0 v := by rw [hF 501 (by decide)]; exact hM
    have hmo : v_most v p i ≤ 999 := Nat.le_trans (Nat.min_le_left _ _) (Nat.min_le_left _ _)
    have ehas : nI (26 + 14 * p) + nI 9 + nI i = nI (35 + 14 * p + i) := by
      rw [nI_add, nI_add]
      congr 1
      omega
    have eg : nI (16 + 2 * i) + 1 = nI (17 + 2 * i) := by
      rw [nI_1]
      congr 1
      omega
    refine Exists.intro _ (And.intro m_goodRow (And.intro (And.intro (Nat.zero_le _) (Nat.zero_le _)) (fun q h' hpo => ?_)))
    obtain ⟨rfl, rfl⟩ := hpo
    refine And.intro (by show x_ix (nI (16 + 2 * i) + 1) 3168; rw [eg]; exact x_ix_nI (by omega) (by omega)) ?_
    refine Exists.intro _ (And.intro m_personRow (And.intro (And.intro (Nat.zero_le _) (Nat.zero_le _)) (fun q h' hpo => ?_)))
    obtain ⟨rfl, rfl⟩ := hpo
    refine And.intro (by show x_ix (nI (26 + 14 * p) + nI 9 + nI i) 3168; rw [ehas]; exact x_ix_nI (by omega) (by omega)) ?_
    have loop : ∀ m j l6, j + m = v_most v p i → x_J 282 (d + 3) (x_PM f g (x_HR r t) dm n (.int (nI (y_top (v_can v p i) (v_most v p i))), 0, v)) 68 [some (.ref 500), some (.int (nI p)), some (.int (nI i)), some (.int (nI (v_most v p i))), some (.int (nI (y_top (v_can v p i) j))), some (.int (nI (j + 1))), l6, none] [] (F, g, x_HR r t, dm, n) 0 0 := by
      intro m
      induction m with
      | zero =>
        intro j l6 hj
        obtain rfl : j = v_most v p i := by omega
        refine x_wp_ok ok282 [68] 8 ?_
        refine And.intro (fun c => ?_) (fun c => ?_)
        · refine Exists.intro _ (And.intro m_gives (And.intro (And.intro (Nat.zero_le _) (Nat.zero_le _)) (fun q h' hpo => ?_)))
          obtain ⟨rfl, rfl⟩ := hpo
          refine And.intro ?_ ⟨trivial, Nat.le_refl _, Nat.le_refl _⟩
          exact x_PM_L (x_ML_F hFF hM)
        · have c : ¬ nI (v_most v p i) < nI (v_most v p i + 1) := c
          rw [nI_ltI (by omega) (by omega)] at c
          omega
      | succ m ih =>
        intro j l6 hj
        have hS := v_S_lt hB hi (show j + 1 ≤ 9999 by omega)
        have eS := v_S_l (v := v) (i := i) (show j + 1 ≤ 9999 by omega)
        have hfe : v_few v p (v_S v i (j + 1)) ≤ 1000000 := y_few_le _ _ _ _ _
        have e := ih (j + 1) (some (.long ((nI (j + 1)).toInt64 * lN (v 10 i 0 * v 7 0 0)))) (by omega)
        rw [show y_top (v_can v p i) (j + 1) = if v_can v p i (j + 1) then j + 1 else y_top (v_can v p i) j from rfl, nI_succ (j + 1)] at e
        refine x_wp_ok ok282 [68] 8 ?_
        refine And.intro (fun c => ?_) (fun c => ?_)
        · have c : nI (v_most v p i) < nI (j + 1) := c
          rw [nI_ltI (by omega) (by omega)] at c
          omega
        · refine Exists.intro _ (And.intro (m_priceOf hFM hB hi) (And.intro (And.intro (Nat.zero_le _) (Nat.zero_le _)) (fun q h' hpo => ?_)))
          obtain ⟨rfl, rfl⟩ := hpo
          refine And.intro (fun c2 => ?_) (fun c2 => ?_)
          · have c2 : 0 < lg_cmp ((nI (j + 1)).toInt64 * lN (v 10 i 0 * v 7 0 0)) (lN 999) := c2
            rw [x_lg_gt, eS, pk_lLT (by decide) (by omega)] at c2
            rw [if_neg (by simp only [v_can, decide_eq_false (show ¬ v_S v i (j + 1) ≤ 999 by omega), Bool.false_and]; decide)] at e
            exact e
          · have c2 : ¬ 0 < lg_cmp ((nI (j + 1)).toInt64 * lN (v 10 i 0 * v 7 0 0)) (lN 999) := c2
            rw [x_lg_gt, eS, pk_lLT (by decide) (by omega)] at c2
            have ef := x_fw_0 hfw (show v_S v i (j + 1) ≤ 999 by omega)
            refine And.intro (by show x_ix ((nI (j + 1)).toInt64 * lN (v 10 i 0 * v 7 0 0)).toInt32 5000; rw [eS, lN_i]; exact x_ix_nI (by omega) (by omega)) ?_
            refine And.intro (fun c3 => ?_) (fun c3 => ?_)
            · have c3 : nI 1000000 ≤ F 509 ((nI (j + 1)).toInt64 * lN (v 10 i 0 * v 7 0 0)).toInt32.toNatClampNeg := c3
              rw [eS, lN_i, nI_clamp (by omega), ef, nI_leI (by omega) (by omega)] at c3
              rw [if_neg (by simp only [v_can, Bool.and_eq_true, decide_eq_true_eq]; exact fun q => by omega)] at e
              exact e
            · have c3 : ¬ nI 1000000 ≤ F 509 ((nI (j + 1)).toInt64 * lN (v 10 i 0 * v 7 0 0)).toInt32.toNatClampNeg := c3
              rw [eS, lN_i, nI_clamp (by omega), ef, nI_leI (by omega) (by omega)] at c3
              rw [if_pos (by simp only [v_can, Bool.and_eq_true, decide_eq_true_eq]; exact ⟨by omega, by omega⟩)] at e
              exact e
    have em : (if nI 9999 - F 501 (nI (26 + 14 * p) + nI 9 + nI i).toNatClampNeg < (if F 501 (nI (16 + 2 * i) + 1).toNatClampNeg < nI 999 then F 501 (nI (16 + 2 * i) + 1).toNatClampNeg else nI 999) then nI 9999 - F 501 (nI (26 + 14 * p) + nI 9 + nI i).toNatClampNeg else (if F 501 (nI (16 + 2 * i) + 1).toNatClampNeg < nI 999 then F 501 (nI (16 + 2 * i) + 1).toNatClampNeg else nI 999)) = nI (v_most v p i) := by
      rw [ehas, eg, nI_clamp (by omega), nI_clamp (by omega), hF 501 (by decide), h11, h15, pk_sub b15, x_min_nI (by decide) (by omega), x_min_nI (by omega) (by omega)]
      rfl
    have e := loop (v_most v p i) 0 none (Nat.zero_add _)
    generalize nI (y_top (v_can v p i) (v_most v p i)) = W at e ⊢
    rw [← em] at e
    exact e
end C43
