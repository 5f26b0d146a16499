/-! what is read hangs on the bytes alone -/
section C91a
variable {a b : Nat → Int32} {m : Nat}
theorem g_sa (h : ∀ k, k < m → a k = b k) : y_sa a m = y_sa b m := by
  funext k
  unfold y_sa
  by_cases e : k < m
  · rw [if_pos e, if_pos e, h k e]
  · rw [if_neg e, if_neg e]
theorem g_iz (h : ∀ k, k < m → a k = b k) : y_iz a m = y_iz b m := by
  funext c k
  unfold y_iz
  by_cases e : k < m
  · rw [h k e]
  · rw [decide_eq_false e, Bool.false_and, Bool.false_and]
theorem g_skip (h : ∀ k, k < m → a k = b k) : y_skip a m = y_skip b m := by
  funext p
  unfold y_skip
  rw [g_iz h]
theorem g_end (h : ∀ k, k < m → a k = b k) : y_end a m = y_end b m := by
  funext q
  unfold y_end
  rw [g_sa h, g_iz h]
theorem g_nxt (h : ∀ k, k < m → a k = b k) : y_nxt a m = y_nxt b m := by
  funext q
  unfold y_nxt
  rw [g_skip h, g_end h]
theorem g_tk (h : ∀ k, k < m → a k = b k) : y_tk a m = y_tk b m := by
  funext q
  unfold y_tk
  rw [g_sa h, g_end h]
theorem g_num (h : ∀ k, k < m → a k = b k) {q : Nat} : ∀ n, q + n ≤ m → y_num a q n = y_num b q n
  | 0, _ => rfl
  | n + 1, hn => by
    show 10 * y_num a q n + _ = 10 * y_num b q n + _
    rw [g_num h n (by omega), h (q + n) (by omega)]
theorem g_let (h : ∀ k, k < m → a k = b k) {q : Nat} : ∀ n, q + n ≤ m → y_let a q n = y_let b q n
  | 0, _ => rfl
  | n + 1, hn => by
    have e1 : y_let a q (n + 1) = (y_let a q n <<< ((Int8.ofInt 8).toInt32.toInt64 &&& 63)) ||| (a (q + n)).toInt64 := rfl
    have e2 : y_let b q (n + 1) = (y_let b q n <<< ((Int8.ofInt 8).toInt32.toInt64 &&& 63)) ||| (b (q + n)).toInt64 := rfl
    rw [e1, e2, g_let h n (by omega), h (q + n) (by omega)]
theorem g_wm (h : ∀ k, k < m → a k = b k) : y_wm a m = y_wm b m := by
  funext q
  unfold y_wm
  rw [g_sa h, g_end h]
  by_cases e : y_sa b m q = 1
  · have h1 := y_end_le (a := b) (m := m) (q := q) (by rw [e]; decide)
    rw [if_pos e, if_pos e, y_val_cg (a := a) (b := b) (q := q) (s := q) _ (fun k hk => h _ (by omega))]
  · rw [if_neg e, if_neg e]
theorem g_nm (h : ∀ k, k < m → a k = b k) : y_nm a m = y_nm b m := by
  funext q
  unfold y_nm
  rw [g_sa h, g_wm h, g_end h]
theorem g_fl (h : ∀ k, k < m → a k = b k) : y_fl a m = y_fl b m := by
  funext q k
  unfold y_fl
  rw [g_tk h]
theorem g_sgn (h : ∀ k, k < m → a k = b k) : y_sgn a m = y_sgn b m := by
  funext c q
  unfold y_sgn
  rw [g_tk h, g_nxt h, g_fl h]
theorem g_wrd (h : ∀ k, k < m → a k = b k) : y_wrd a m = y_wrd b m := by
  funext c q
  unfold y_wrd
  rw [g_wm h, g_nxt h, g_fl h]
theorem g_nbr (h : ∀ k, k < m → a k = b k) : y_nbr a m = y_nbr b m := by
  funext lo hi q
  unfold y_nbr
  rw [g_tk h, g_nxt h, g_fl h]
  by_cases e : y_tk b m q = 2
  · have h1 := y_end_le (a := b) (m := m) (q := q) (by rw [y_tk_sa e (by decide)]; decide)
    have e2 : y_nv a m q = y_nv b m q := by
      unfold y_nv
      rw [g_end h, g_num h _ (by omega)]
    rw [if_pos e, if_pos e, e2]
  · rw [if_neg e, if_neg e]
theorem g_lt (h : ∀ k, k < m → a k = b k) {q : Nat} (e : y_nm b m q = true) : y_lt a m q = y_lt b m q := by
  have h1 := y_end_le (a := b) (m := m) (q := q) (by rw [(y_nm_sa e).1]; decide)
  unfold y_lt
  rw [g_end h, g_let h _ (by omega)]
theorem g_old (h : ∀ k, k < m → a k = b k) : y_old a m = y_old b m := by
  funext N b' many q
  unfold y_old
  rw [g_nm h, g_nxt h, g_fl h]
  by_cases e : y_nm b m q = true
  · rw [if_pos e, if_pos e, g_lt h e]
  · rw [if_neg e, if_neg e]
theorem g_new (h : ∀ k, k < m → a k = b k) : y_new a m = y_new b m := by
  funext N n0 n1 n2 pl q
  unfold y_new
  rw [g_nm h, g_nxt h, g_fl h]
  by_cases e : y_nm b m q = true
  · rw [if_pos e, if_pos e, g_lt h e]
  · rw [if_neg e, if_neg e]
theorem g_chc (h : ∀ k, k < m → a k = b k) : y_chc a m = y_chc b m := by
  funext w hi df q
  unfold y_chc
  rw [g_wm h, g_nbr h, g_nxt h]
theorem g_part (h : ∀ k, k < m → a k = b k) : y_part a m = y_part b m := by
  funext S q
  unfold y_part y_rule y_kind y_good y_pers y_has
  simp only [g_wm h, g_nbr h, g_nxt h, g_fl h, g_sgn h, g_new h, g_wrd h, g_chc h, g_old h]
theorem g_parts (h : ∀ k, k < m → a k = b k) : ∀ j S q, y_parts a m j S q = y_parts b m j S q
  | 0, _, _ => rfl
  | j + 1, S, q => by
    show (if y_sa a m q = 3 then _ else _) = (if y_sa b m q = 3 then _ else _)
    rw [g_sa h, g_part h]
    have e : (fun z : xL × Nat => y_parts a m j z.1 z.2) = (fun z : xL × Nat => y_parts b m j z.1 z.2) := funext fun z => g_parts h j z.1 z.2
    rw [e]
theorem g_land (h : ∀ k, k < m → a k = b k) : y_land a m = y_land b m := by
  unfold y_land
  rw [g_parts h, g_skip h]
end C91a
/-! a part, the model's -/
theorem y_TD_f : ∀ τ, τ < 128 → ∀ k, k < 7 → nI τ ||| ((1 : Int32) <<< (nI k &&& 31)) = nI (τ ||| 2 ^ k) ∧ τ ||| 2 ^ k < 128 ∧ ∀ i, i < 3 → (nI (τ ||| 2 ^ k) >>> (nI i &&& 31)) &&& 1 = if i = k then 1 else (nI τ >>> (nI i &&& 31)) &&& 1 := by decide +kernel
theorem y_TD_up {x : Int32} {T : Nat → Bool} {k : Nat} (h : y_TD x T) (hk : k < 7) : y_TD (x ||| ((1 : Int32) <<< (nI k &&& 31))) (fun j => if j = k then true else T j) := by
  obtain ⟨τ, h1, rfl, h2⟩ := h
  obtain ⟨e1, e2, e3⟩ := y_TD_f τ h1 k hk
  refine ⟨τ ||| 2 ^ k, e2, e1, fun i hi => ?_⟩
  rw [e3 i hi]
  show _ = x_bo (if i = k then true else T i)
  by_cases e : i = k
  · rw [if_pos e, if_pos e]
    rfl
  · rw [if_neg e, if_neg e]
    exact h2 i hi
theorem y_TD_cg {x : Int32} {T T' : Nat → Bool} (h : y_TD x T) (he : ∀ i, i < 3 → T' i = T i) : y_TD x T' := by
  obtain ⟨τ, h1, h2, h3⟩ := h
  exact ⟨τ, h1, h2, fun i hi => by rw [he i hi]; exact h3 i hi⟩
def x_fMp (f : Nat → Nat → Int32) (g : Nat → Nat → Int64) (F : Nat → Nat → Int32) (G : Nat → Nat → Int64) : Prop := (∀ c, c ≠ 500 → c ≠ 501 → F c = f c) ∧ (∀ j, j < 12 ∨ j = 16 ∨ j = 19 ∨ 20 < j → F 500 j = f 500 j) ∧ (∀ j, j < 1856 ∨ 2320 ≤ j → F 501 j = f 501 j) ∧ (∀ c, c ≠ 502 → G c = g c) ∧ ∀ j, j < 56 ∨ 70 ≤ j → G 502 j = g 502 j
def x_PMp (a : Nat → Int32) (m : Nat) (f : Nat → Nat → Int32) (g : Nat → Nat → Int64) (ρ : Nat → Nat → Option Nat) (dm : List Nat) (n : Nat) (X : xF (xL × Nat)) (z : Option Value) (h' : xH) : Prop := match X with
  | .inl e => z = some (.int 0) ∧ ∃ F G, h' = (F, G, ρ, dm, n) ∧ x_fMp f g F G ∧ x_FM F e
  | .inr w => z = some (.int 1) ∧ ∃ F G, h' = (F, G, ρ, dm, n) ∧ x_fMp f g F G ∧ x_MS a m w.1 w.2 F G ∧ y_TD (F 500 20) w.1.2.2
section C91
variable {f : Nat → Nat → Int32} {g : Nat → Nat → Int64} {r t : Nat} {dm : List Nat} {n d L : Nat} {v : xV} {a : Nat → Int32} {m q : Nat} {N : Nat → Int64} {S : xL} {ρ : Nat → Nat → Option Nat} {X : xF (xL × Nat)} {z : Option Value} {h' : xH} {e : Nat × Nat} {w : xL × Nat} {F : Nat → Nat → Int32} {G : Nat → Nat → Int64}
theorem x_fMp_r : x_fMp f g f g := ⟨fun _ _ _ => rfl, fun _ _ => rfl, fun _ _ => rfl, fun _ _ => rfl, fun _ _ => rfl⟩
theorem x_fMp_t {F2 : Nat → Nat → Int32} {G2 : Nat → Nat → Int64} (h1 : x_fMp f g F G) (h2 : x_fMp F G F2 G2) : x_fMp f g F2 G2 := ⟨fun c c1 c2 => (h2.1 c c1 c2).trans (h1.1 c c1 c2), fun j hj => (h2.2.1 j hj).trans (h1.2.1 j hj), fun j hj => (h2.2.2.1 j hj).trans (h1.2.2.1 j hj), fun c hc => (h2.2.2.2.1 c hc).trans (h1.2.2.2.1 c hc), fun j hj => (h2.2.2.2.2 j hj).trans (h1.2.2.2.2 j hj)⟩
theorem x_fMp_M (h : x_fM f g F G) : x_fMp f g F G := ⟨h.1, fun j hj => h.2.1 j (by omega), h.2.2.1, h.2.2.2.1, h.2.2.2.2⟩
theorem x_fMp_20 {x : Int32} : x_fMp f g (x_up f 500 20 x) g := ⟨fun c c1 _ => x_up_k c1, fun j hj => x_up_j (by omega), fun j _ => by rw [x_up_k (by decide)], fun _ _ => rfl, fun _ _ => rfl⟩
theorem x_RMt_20 {x : Int32} (hR : x_RMt a m q f) : x_RMt a m q (x_up f 500 20 x) := ⟨(x_up_k (by decide)).trans hR.1, hR.2⟩
theorem x_MS_20 {x : Int32} (hS : x_MS a m S q f g) : x_MS a m S q (x_up f 500 20 x) g := ⟨x_RMt_20 hS.1, by rw [x_up_k (by decide)]; exact hS.2.1, by rw [x_up_k (by decide)]; exact hS.2.2.1, hS.2.2.2⟩
theorem m_landPart (hT : y_TP a m) (hB : v_BA S.1) (hS : x_MS a m S q f g) (hD : y_TD (f 500 20) S.2.2) : x_Ct 217 (d + 9) [.ref 500] (f, g, x_HR r t, dm, n) (x_PMp a m f g (x_HR r t) dm n (y_part a m S q)) := by
  obtain ⟨Po, hPo⟩ : ∃ Po : Option Value → xH → Prop, Po = x_PMp a m f g (x_HR r t) dm n (y_part a m S q) := ⟨_, rfl⟩
  rw [← hPo]
  have jn : ∀ (X1 : xF (xL × Nat)) (b kx : Int32) h' (τ : Int32), x_PMd a m (x_up f 500 20 τ) g (x_HR r t) dm n X1 (some (.int b)) h' → (∀ w, X1 = .inr w → y_TD τ w.1.2.2) → y_part a m S q = y_bd X1 (y_sg a m) → x_J 217 (d + 9) Po 182 [some (.ref 500), some (.int kx), some (.int b)] [] h' 0 0 := by
    intro X1 b kx h' τ hp hd hY
    cases X1 with
    | inl e =>
      obtain ⟨hb, F1, G1, rfl, u1, u2⟩ := hp
      cases hb
      refine x_wp_ok ok217 [] 6 ?_
      refine And.intro (fun _ => ?_) (fun c => absurd rfl c)
      refine And.intro ?_ ⟨Or.inl rfl, Nat.le_refl _, Nat.le_refl _⟩
      rw [hPo, hY]
      exact ⟨rfl, F1, G1, rfl, x_fMp_t x_fMp_20 (x_fMp_M u1), u2⟩
    | inr w =>
      obtain ⟨hb, F1, G1, rfl, u1, u2⟩ := hp
      cases hb
      have hτ : F1 500 20 = τ := (u1.2.1 20 (by decide)).trans (x_up_s _ _ _ _)
      refine x_wp_ok ok217 [] 6 ?_
      refine And.intro (fun c => absurd (show (1 : Int32) = 0 from c) (by decide)) (fun _ => ?_)
      refine Exists.intro _ (And.intro (m_wantSign (c := 59) rfl hT u2.1) (And.intro (And.intro (Nat.zero_le _) (Nat.zero_le _)) (fun zq h' hpo => ?_)))
      cases e1 : y_sgn a m 59 w.2 with
      | inl e =>
        obtain ⟨rfl, F2, rfl, w1, w2⟩ := x_PUm_l e1 hpo
        refine And.intro (fun _ => ?_) (fun c => absurd rfl c)
        refine And.intro ?_ ⟨Or.inl rfl, Nat.le_refl _, Nat.le_refl _⟩
        have eX : y_part a m S q = .inl e := by
          rw [hY]
          show y_bd (y_sgn a m 59 w.2) _ = _
          rw [e1]
          rfl
        rw [hPo, eX]
        exact ⟨rfl, F2, G1, rfl, x_fMp_t (x_fMp_t x_fMp_20 (x_fMp_M u1)) (x_fMp_M (x_fM_5 w1)), w2⟩
      | inr q5 =>
        obtain ⟨rfl, F2, rfl, w2, w1, -⟩ := x_PUm_r e1 hpo
        refine And.intro (fun c => absurd (show (1 : Int32) = 0 from c) (by decide)) (fun _ => ?_)
        refine And.intro ?_ ⟨Or.inr rfl, Nat.le_refl _, Nat.le_refl _⟩
        have eX : y_part a m S q = .inr (w.1, q5) := by
          rw [hY]
          show y_bd (y_sgn a m 59 w.2) _ = _
          rw [e1]
          rfl
        rw [hPo, eX]
        refine ⟨rfl, F2, G1, rfl, x_fMp_t (x_fMp_t x_fMp_20 (x_fMp_M u1)) (x_fMp_M (x_fM_5 w1)), x_MS_5 u2 w1 w2, ?_⟩
        rw [w1.2 20 (by decide), hτ]
        exact hd w rfl
  have bad : ∀ kx, y_part a m S q = .inl (y_fl a m q 2) → x_J 217 (d + 9) Po 17 [some (.ref 500), some (.int kx), none] [] (f, g, x_HR r t, dm, n) 0 0 := by
    intro kx hY
    refine x_wp_ok ok217 [] 6 ?_
    refine Exists.intro _ (And.intro (m_fails (k := 2) hS.1) (And.intro (And.intro (Nat.zero_le _) (Nat.zero_le _)) (fun zq h' hpo => ?_)))
    obtain ⟨rfl, F1, rfl, u1, u2⟩ := hpo
    refine And.intro ?_ ⟨Or.inl rfl, Nat.le_refl _, Nat.le_refl _⟩
    rw [hPo, hY]
    exact ⟨rfl, F1, g, rfl, x_fMp_M (x_fM_5 u1), u2⟩
  refine x_Ct_w (by decide) (Nat.le_of_ble_eq_true rfl) ok217 [7] 6 ?_
  refine Exists.intro _ (And.intro (m_inWords hT hS.1) (And.intro (And.intro (Nat.zero_le _) (Nat.zero_le _)) (fun q h' hpo => ?_)))
  obtain ⟨rfl, rfl⟩ := hpo
  show x_J 217 (d + 9) Po 7 [some (.ref 500), some (.int (y_wm a m q)), none] [] (f, g, x_HR r t, dm, n) 0 0
  rcases y_wm_rg a m q with hw | ⟨i, hi, hw⟩
  · have hY : y_part a m S q = .inl (y_fl a m q 2) := by
      unfold y_part
      rw [hw]
      rfl
    rw [hw]
    refine x_wp_ok ok217 [17] 6 ?_
    exact And.intro (fun _ => bad _ hY) (fun c => absurd (by decide) c)
  · have one : y_sa a m q = 1 := by
      have no : ∀ j, j < 25 → ¬ nI j = -1 := by decide +kernel
      exact y_wm_sa (by rw [hw]; exact no i hi)
    by_cases h7 : 7 ≤ i
    · have hY : y_part a m S q = .inl (y_fl a m q 2) := by
        have e : ∀ k, k < 7 → y_wm a m q ≠ nI k := by
          intro k hk e
          rw [hw, nI_eq (by omega) (by omega)] at e
          omega
        unfold y_part
        rw [if_neg (show ¬ y_wm a m q = 0 from e 0 (by decide)), if_neg (show ¬ y_wm a m q = 1 from e 1 (by decide)), if_neg (show ¬ y_wm a m q = 2 from e 2 (by decide)), if_neg (show ¬ y_wm a m q = 3 from e 3 (by decide)), if_neg (show ¬ y_wm a m q = 4 from e 4 (by decide)), if_neg (show ¬ y_wm a m q = 5 from e 5 (by decide)), if_neg (show ¬ y_wm a m q = 6 from e 6 (by decide))]
      rw [hw]
      refine x_wp_ok ok217 [17] 6 ?_
      refine And.intro (fun c => absurd (show nI i < 0 from c) (nI_pos (by omega))) (fun _ => ?_)
      exact And.intro (fun c => absurd (show nI i ≤ nI 6 from c) (nI_ge (by omega) (by omega))) (fun _ => bad _ hY)
    · have hi7 : i = 0 ∨ i = 1 ∨ i = 2 ∨ i = 3 ∨ i = 4 ∨ i = 5 ∨ i = 6 := by omega
      rw [hw]
      rcases hi7 with rfl | rfl | rfl | rfl | rfl | rfl | rfl
      · have hY : y_part a m S q = y_rule a m 0 S q := by unfold y_part; rw [hw]; rfl
        have hbit : (f 500 20 >>> (nI 0 &&& 31)) &&& 1 = x_bo (S.2.2 0) := by
          obtain ⟨τ, h1, h2, h3⟩ := hD
          rw [h2]
          exact h3 0 (by decide)
        refine x_wp_ok ok217 [182] 6 ?_
        refine And.intro (fun c => absurd c (by decide)) (fun _ => ?_)
        refine And.intro (fun _ => ?_) (fun c => absurd (by decide) c)
        refine And.intro (fun c => absurd c (by decide)) (fun _ => ?_)
        cases hb : S.2.2 0 with
        | true =>
          rw [hb] at hbit
          refine And.intro (fun c => absurd (show (f 500 20 >>> (nI 0 &&& 31)) &&& 1 = 1 from hbit) c) (fun _ => ?_)
          refine Exists.intro _ (And.intro (m_fails (k := 5) hS.1) (And.intro (And.intro (Nat.zero_le _) (Nat.zero_le _)) (fun zq h' hpo => ?_)))
          obtain ⟨rfl, F1, rfl, u1, u2⟩ := hpo
          refine And.intro ?_ ⟨Or.inl rfl, Nat.le_refl _, Nat.le_refl _⟩
          have eX : y_part a m S q = .inl (y_fl a m q 5) := hY.trans (if_pos hb)
          rw [hPo, eX]
          exact ⟨rfl, F1, g, rfl, x_fMp_M (x_fM_5 u1), u2⟩
        | false =>
          rw [hb] at hbit
          refine And.intro (fun _ => ?_) (fun c => absurd (show (f 500 20 >>> (nI 0 &&& 31)) &&& 1 = 1 from c) (by rw [hbit]; decide))
          refine And.intro (fun c => absurd c (by decide)) (fun _ => ?_)
          obtain ⟨τ, hτ⟩ : ∃ τ, τ = f 500 20 ||| ((1 : Int32) <<< (nI 0 &&& 31)) := ⟨_, rfl⟩
          show ∃ P, x_Ct 197 (d + 8) [.ref 500] (x_up f 500 20 (f 500 20 ||| ((1 : Int32) <<< (nI 0 &&& 31))), g, x_HR r t, dm, n) P ∧ _
          rw [← hτ]
          have hS1 := x_MS_20 (x := τ) hS
          refine Exists.intro _ (And.intro (m_ahd hT hS1.1 (by rw [one]; decide)) (And.intro (And.intro (Nat.zero_le _) (Nat.zero_le _)) (fun zq h' hpo => ?_)))
          obtain ⟨rfl, F1, rfl, u1, -, u3⟩ := hpo
          have s1 := x_MS_5 hS1 u1 u3
          have ww : (nI 0).toInt = 0 := rfl
          refine And.intro (And.intro (fun _ => ?_) (And.intro (fun c => absurd (ww.symm.trans c) (by decide)) (And.intro (fun c => absurd (ww.symm.trans c) (by decide)) (And.intro (fun c => absurd (ww.symm.trans c) (by decide)) (And.intro (fun c => absurd (ww.symm.trans c) (by decide)) (And.intro (fun c => absurd (ww.symm.trans c) (by decide)) trivial)))))) (fun c => absurd c (by rw [ww]; decide))
          refine Exists.intro _ (And.intro (m_number (to := 1859) (lo := 10) (hi := 9999) (by decide) (by decide) (by decide) hT u3) (And.intro (And.intro (Nat.zero_le _) (Nat.zero_le _)) (fun zq h' hpo => ?_)))
          have hr := hY.trans (y_rule_1 a m 0 S q hb)
          cases e1 : y_nbr a m 10 9999 (y_nxt a m q) with
          | inl e =>
            obtain ⟨rfl, F2, rfl, w1, w2⟩ := x_PUm_l e1 hpo
            have eX : y_rule1 a m 0 S q = .inl e := by
              unfold y_rule1
              show y_bd (y_nbr a m 10 9999 (y_nxt a m q)) _ = _
              rw [e1]
              rfl
            exact jn (.inl e) 0 _ _ τ ⟨rfl, F2, g, rfl, x_fM_t (x_fM_5 u1) (x_fM_5 w1), w2⟩ (fun w h => by cases h) (by rw [hr, eX])
          | inr x =>
            obtain ⟨rfl, F2, rfl, w2, w1⟩ := x_PUm_r e1 hpo
            have e501 : F2 501 = va_up (F1 501) 1859 (nI x.1) := by rw [w1.1 501 (by decide), x_up_c]
            have eX : y_rule1 a m 0 S q = .inr ((v_set S.1 (3 + 0) 0 0 x.1, S.2.1, fun j => if j = 0 then true else S.2.2 j), x.2) := by
              unfold y_rule1
              show y_bd (y_nbr a m 10 9999 (y_nxt a m q)) _ = _
              rw [e1]
              rfl
            refine jn (.inr ((v_set S.1 (3 + 0) 0 0 x.1, S.2.1, fun j => if j = 0 then true else S.2.2 j), x.2)) 1 _ _ τ ⟨rfl, F2, g, rfl, x_fM_t (x_fM_5 u1) (x_fM_t (x_fM_up (i := 1859) (x := nI x.1) (by decide)) (x_fM_5 w1)), w2, ?_, ⟨?_, fun i hi1 hi2 => ?_⟩, ?_⟩ (fun w h => ?_) (by rw [hr, eX])
            · rw [e501]
              exact v_MA_up s1.2.1 (fun _ _ _ h => h) (v_BA_K hB) (v_BA_G hB) (v_BA_P hB) (c := 3 + 0) (i := 0) (j := 0) ⟨rfl, rfl⟩ (by decide)
            · rw [e501, x_un (by decide)]
              exact s1.2.2.1.1
            · rw [e501, x_un (by omega)]
              refine s1.2.2.1.2 i ?_ hi2
              have hi1 : v_set S.1 (3 + 0) 0 0 x.1 2 0 0 ≤ i := hi1
              rw [v_set_c (by decide)] at hi1
              exact hi1
            · exact y_NR_v s1.2.2.2 (show v_set S.1 (3 + 0) 0 0 x.1 0 0 0 = S.1 0 0 0 from v_set_c (by decide)) (show v_set S.1 (3 + 0) 0 0 x.1 1 0 0 = S.1 1 0 0 from v_set_c (by decide)) (show v_set S.1 (3 + 0) 0 0 x.1 2 0 0 = S.1 2 0 0 from v_set_c (by decide))
            · cases h
              rw [hτ]
              exact y_TD_up hD (by decide)
      · have hY : y_part a m S q = y_rule a m 1 S q := by unfold y_part; rw [hw]; rfl
        have hbit : (f 500 20 >>> (nI 1 &&& 31)) &&& 1 = x_bo (S.2.2 1) := by
          obtain ⟨τ, h1, h2, h3⟩ := hD
          rw [h2]
          exact h3 1 (by decide)
        refine x_wp_ok ok217 [182] 6 ?_
        refine And.intro (fun c => absurd c (by decide)) (fun _ => ?_)
        refine And.intro (fun _ => ?_) (fun c => absurd (by decide) c)
        refine And.intro (fun c => absurd c (by decide)) (fun _ => ?_)
        cases hb : S.2.2 1 with
        | true =>
          rw [hb] at hbit
          refine And.intro (fun c => absurd (show (f 500 20 >>> (nI 1 &&& 31)) &&& 1 = 1 from hbit) c) (fun _ => ?_)
          refine Exists.intro _ (And.intro (m_fails (k := 5) hS.1) (And.intro (And.intro (Nat.zero_le _) (Nat.zero_le _)) (fun zq h' hpo => ?_)))
          obtain ⟨rfl, F1, rfl, u1, u2⟩ := hpo
          refine And.intro ?_ ⟨Or.inl rfl, Nat.le_refl _, Nat.le_refl _⟩
          have eX : y_part a m S q = .inl (y_fl a m q 5) := hY.trans (if_pos hb)
          rw [hPo, eX]
          exact ⟨rfl, F1, g, rfl, x_fMp_M (x_fM_5 u1), u2⟩
        | false =>
          rw [hb] at hbit
          refine And.intro (fun _ => ?_) (fun c => absurd (show (f 500 20 >>> (nI 1 &&& 31)) &&& 1 = 1 from c) (by rw [hbit]; decide))
          refine And.intro (fun c => absurd c (by decide)) (fun _ => ?_)
          obtain ⟨τ, hτ⟩ : ∃ τ, τ = f 500 20 ||| ((1 : Int32) <<< (nI 1 &&& 31)) := ⟨_, rfl⟩
          show ∃ P, x_Ct 197 (d + 8) [.ref 500] (x_up f 500 20 (f 500 20 ||| ((1 : Int32) <<< (nI 1 &&& 31))), g, x_HR r t, dm, n) P ∧ _
          rw [← hτ]
          have hS1 := x_MS_20 (x := τ) hS
          refine Exists.intro _ (And.intro (m_ahd hT hS1.1 (by rw [one]; decide)) (And.intro (And.intro (Nat.zero_le _) (Nat.zero_le _)) (fun zq h' hpo => ?_)))
          obtain ⟨rfl, F1, rfl, u1, -, u3⟩ := hpo
          have s1 := x_MS_5 hS1 u1 u3
          have ww : (nI 1).toInt = 1 := rfl
          refine And.intro (And.intro (fun c => absurd (ww.symm.trans c) (by decide)) (And.intro (fun _ => ?_) (And.intro (fun c => absurd (ww.symm.trans c) (by decide)) (And.intro (fun c => absurd (ww.symm.trans c) (by decide)) (And.intro (fun c => absurd (ww.symm.trans c) (by decide)) (And.intro (fun c => absurd (ww.symm.trans c) (by decide)) trivial)))))) (fun c => absurd c (by rw [ww]; decide))
          refine Exists.intro _ (And.intro (m_number (to := 1860) (lo := 0) (hi := 50) (by decide) (by decide) (by decide) hT u3) (And.intro (And.intro (Nat.zero_le _) (Nat.zero_le _)) (fun zq h' hpo => ?_)))
          have hr := hY.trans (y_rule_1 a m 1 S q hb)
          cases e1 : y_nbr a m 0 50 (y_nxt a m q) with
          | inl e =>
            obtain ⟨rfl, F2, rfl, w1, w2⟩ := x_PUm_l e1 hpo
            have eX : y_rule1 a m 1 S q = .inl e := by
              unfold y_rule1
              show y_bd (y_nbr a m 0 50 (y_nxt a m q)) _ = _
              rw [e1]
              rfl
            exact jn (.inl e) 0 _ _ τ ⟨rfl, F2, g, rfl, x_fM_t (x_fM_5 u1) (x_fM_5 w1), w2⟩ (fun w h => by cases h) (by rw [hr, eX])
          | inr x =>
            obtain ⟨rfl, F2, rfl, w2, w1⟩ := x_PUm_r e1 hpo
            have e501 : F2 501 = va_up (F1 501) 1860 (nI x.1) := by rw [w1.1 501 (by decide), x_up_c]
            have eX : y_rule1 a m 1 S q = .inr ((v_set S.1 (3 + 1) 0 0 x.1, S.2.1, fun j => if j = 1 then true else S.2.2 j), x.2) := by
              unfold y_rule1
              show y_bd (y_nbr a m 0 50 (y_nxt a m q)) _ = _
              rw [e1]
              rfl
            refine jn (.inr ((v_set S.1 (3 + 1) 0 0 x.1, S.2.1, fun j => if j = 1 then true else S.2.2 j), x.2)) 1 _ _ τ ⟨rfl, F2, g, rfl, x_fM_t (x_fM_5 u1) (x_fM_t (x_fM_up (i := 1860) (x := nI x.1) (by decide)) (x_fM_5 w1)), w2, ?_, ⟨?_, fun i hi1 hi2 => ?_⟩, ?_⟩ (fun w h => ?_) (by rw [hr, eX])
            · rw [e501]
              exact v_MA_up s1.2.1 (fun _ _ _ h => h) (v_BA_K hB) (v_BA_G hB) (v_BA_P hB) (c := 3 + 1) (i := 0) (j := 0) ⟨rfl, rfl⟩ (by decide)
            · rw [e501, x_un (by decide)]
              exact s1.2.2.1.1
            · rw [e501, x_un (by omega)]
              refine s1.2.2.1.2 i ?_ hi2
              have hi1 : v_set S.1 (3 + 1) 0 0 x.1 2 0 0 ≤ i := hi1
              rw [v_set_c (by decide)] at hi1
              exact hi1
            · exact y_NR_v s1.2.2.2 (show v_set S.1 (3 + 1) 0 0 x.1 0 0 0 = S.1 0 0 0 from v_set_c (by decide)) (show v_set S.1 (3 + 1) 0 0 x.1 1 0 0 = S.1 1 0 0 from v_set_c (by decide)) (show v_set S.1 (3 + 1) 0 0 x.1 2 0 0 = S.1 2 0 0 from v_set_c (by decide))
            · cases h
              rw [hτ]
              exact y_TD_up hD (by decide)
      · have hY : y_part a m S q = y_rule a m 2 S q := by unfold y_part; rw [hw]; rfl
        have hbit : (f 500 20 >>> (nI 2 &&& 31)) &&& 1 = x_bo (S.2.2 2) := by
          obtain ⟨τ, h1, h2, h3⟩ := hD
          rw [h2]
          exact h3 2 (by decide)
        refine x_wp_ok ok217 [182] 6 ?_
        refine And.intro (fun c => absurd c (by decide)) (fun _ => ?_)
        refine And.intro (fun _ => ?_) (fun c => absurd (by decide) c)
        refine And.intro (fun c => absurd c (by decide)) (fun _ => ?_)
        cases hb : S.2.2 2 with
        | true =>
          rw [hb] at hbit
          refine And.intro (fun c => absurd (show (f 500 20 >>> (nI 2 &&& 31)) &&& 1 = 1 from hbit) c) (fun _ => ?_)
          refine Exists.intro _ (And.intro (m_fails (k := 5) hS.1) (And.intro (And.intro (Nat.zero_le _) (Nat.zero_le _)) (fun zq h' hpo => ?_)))
          obtain ⟨rfl, F1, rfl, u1, u2⟩ := hpo
          refine And.intro ?_ ⟨Or.inl rfl, Nat.le_refl _, Nat.le_refl _⟩
          have eX : y_part a m S q = .inl (y_fl a m q 5) := hY.trans (if_pos hb)
          rw [hPo, eX]
          exact ⟨rfl, F1, g, rfl, x_fMp_M (x_fM_5 u1), u2⟩
        | false =>
          rw [hb] at hbit
          refine And.intro (fun _ => ?_) (fun c => absurd (show (f 500 20 >>> (nI 2 &&& 31)) &&& 1 = 1 from c) (by rw [hbit]; decide))
          refine And.intro (fun c => absurd c (by decide)) (fun _ => ?_)
          obtain ⟨τ, hτ⟩ : ∃ τ, τ = f 500 20 ||| ((1 : Int32) <<< (nI 2 &&& 31)) := ⟨_, rfl⟩
          show ∃ P, x_Ct 197 (d + 8) [.ref 500] (x_up f 500 20 (f 500 20 ||| ((1 : Int32) <<< (nI 2 &&& 31))), g, x_HR r t, dm, n) P ∧ _
          rw [← hτ]
          have hS1 := x_MS_20 (x := τ) hS
          refine Exists.intro _ (And.intro (m_ahd hT hS1.1 (by rw [one]; decide)) (And.intro (And.intro (Nat.zero_le _) (Nat.zero_le _)) (fun zq h' hpo => ?_)))
          obtain ⟨rfl, F1, rfl, u1, -, u3⟩ := hpo
          have s1 := x_MS_5 hS1 u1 u3
          have ww : (nI 2).toInt = 2 := rfl
          refine And.intro (And.intro (fun c => absurd (ww.symm.trans c) (by decide)) (And.intro (fun c => absurd (ww.symm.trans c) (by decide)) (And.intro (fun _ => ?_) (And.intro (fun c => absurd (ww.symm.trans c) (by decide)) (And.intro (fun c => absurd (ww.symm.trans c) (by decide)) (And.intro (fun c => absurd (ww.symm.trans c) (by decide)) trivial)))))) (fun c => absurd c (by rw [ww]; decide))
          refine Exists.intro _ (And.intro (m_number (to := 1861) (lo := 0) (hi := 999) (by decide) (by decide) (by decide) hT u3) (And.intro (And.intro (Nat.zero_le _) (Nat.zero_le _)) (fun zq h' hpo => ?_)))
          have hr := hY.trans (y_rule_1 a m 2 S q hb)
          cases e1 : y_nbr a m 0 999 (y_nxt a m q) with
          | inl e =>
            obtain ⟨rfl, F2, rfl, w1, w2⟩ := x_PUm_l e1 hpo
            have eX : y_rule1 a m 2 S q = .inl e := by
              unfold y_rule1
              show y_bd (y_nbr a m 0 999 (y_nxt a m q)) _ = _
              rw [e1]
              rfl
            exact jn (.inl e) 0 _ _ τ ⟨rfl, F2, g, rfl, x_fM_t (x_fM_5 u1) (x_fM_5 w1), w2⟩ (fun w h => by cases h) (by rw [hr, eX])
          | inr x =>
            obtain ⟨rfl, F2, rfl, w2, w1⟩ := x_PUm_r e1 hpo
            have e501 : F2 501 = va_up (F1 501) 1861 (nI x.1) := by rw [w1.1 501 (by decide), x_up_c]
            have eX : y_rule1 a m 2 S q = .inr ((v_set S.1 (3 + 2) 0 0 x.1, S.2.1, fun j => if j = 2 then true else S.2.2 j), x.2) := by
              unfold y_rule1
              show y_bd (y_nbr a m 0 999 (y_nxt a m q)) _ = _
              rw [e1]
              rfl
            refine jn (.inr ((v_set S.1 (3 + 2) 0 0 x.1, S.2.1, fun j => if j = 2 then true else S.2.2 j), x.2)) 1 _ _ τ ⟨rfl, F2, g, rfl, x_fM_t (x_fM_5 u1) (x_fM_t (x_fM_up (i := 1861) (x := nI x.1) (by decide)) (x_fM_5 w1)), w2, ?_, ⟨?_, fun i hi1 hi2 => ?_⟩, ?_⟩ (fun w h => ?_) (by rw [hr, eX])
            · rw [e501]
              exact v_MA_up s1.2.1 (fun _ _ _ h => h) (v_BA_K hB) (v_BA_G hB) (v_BA_P hB) (c := 3 + 2) (i := 0) (j := 0) ⟨rfl, rfl⟩ (by decide)
            · rw [e501, x_un (by decide)]
              exact s1.2.2.1.1
            · rw [e501, x_un (by omega)]
              refine s1.2.2.1.2 i ?_ hi2
              have hi1 : v_set S.1 (3 + 2) 0 0 x.1 2 0 0 ≤ i := hi1
              rw [v_set_c (by decide)] at hi1
              exact hi1
            · exact y_NR_v s1.2.2.2 (show v_set S.1 (3 + 2) 0 0 x.1 0 0 0 = S.1 0 0 0 from v_set_c (by decide)) (show v_set S.1 (3 + 2) 0 0 x.1 1 0 0 = S.1 1 0 0 from v_set_c (by decide)) (show v_set S.1 (3 + 2) 0 0 x.1 2 0 0 = S.1 2 0 0 from v_set_c (by decide))
            · cases h
              rw [hτ]
              exact y_TD_up hD (by decide)
      · have hY : y_part a m S q = y_kind a m S q := by unfold y_part; rw [hw]; rfl
        refine x_wp_ok ok217 [182] 6 ?_
        refine And.intro (fun c => absurd c (by decide)) (fun _ => ?_)
        refine And.intro (fun _ => ?_) (fun c => absurd (by decide) c)
        refine And.intro (fun _ => ?_) (fun c => absurd (by decide) c)
        refine And.intro (fun _ => ?_) (fun c => absurd (by decide) c)
        obtain ⟨τ, hτ⟩ : ∃ τ, τ = f 500 20 ||| ((1 : Int32) <<< (nI 3 &&& 31)) := ⟨_, rfl⟩
        have ww : (nI 3).toInt = 3 := rfl
        refine And.intro (And.intro (fun c => absurd (ww.symm.trans c) (by decide)) (And.intro (fun c => absurd (ww.symm.trans c) (by decide)) (And.intro (fun c => absurd (ww.symm.trans c) (by decide)) (And.intro (fun _ => ?_) (And.intro (fun c => absurd (ww.symm.trans c) (by decide)) (And.intro (fun c => absurd (ww.symm.trans c) (by decide)) trivial)))))) (fun c => absurd c (by rw [ww]; decide))
        show ∃ P, x_Ct _ (d + 8) [.ref 500] (x_up f 500 20 (f 500 20 ||| ((1 : Int32) <<< (nI 3 &&& 31))), g, x_HR r t, dm, n) P ∧ _
        rw [← hτ]
        have hS1 := x_MS_20 (x := τ) hS
        refine Exists.intro _ (And.intro (m_aKind hT hB hS1 one) (And.intro (And.intro (Nat.zero_le _) (Nat.zero_le _)) (fun zq h' hpo => ?_)))
        obtain ⟨b, rfl⟩ := x_PMd_z hpo
        refine jn _ b _ _ τ hpo (fun w h => ?_) (hY.trans (y_kind_1 a m S q))
        have hT2 : w.1.2.2 = S.2.2 := by
          unfold y_kind1 at h
          by_cases c : S.1 0 0 0 = 4
          · rw [if_pos c] at h
            cases h
          · rw [if_neg c] at h
            obtain ⟨x0, -, h⟩ := y_bd_inr h
            obtain ⟨x1, -, h⟩ := y_bd_inr h
            obtain ⟨x2, -, h⟩ := y_bd_inr h
            cases h
            rfl
        rw [hT2, hτ]
        refine y_TD_cg (y_TD_up hD (k := 3) (by decide)) (fun i hi => ?_)
        exact (if_neg (by omega)).symm
      · have hY : y_part a m S q = y_good a m S q := by unfold y_part; rw [hw]; rfl
        refine x_wp_ok ok217 [182] 6 ?_
        refine And.intro (fun c => absurd c (by decide)) (fun _ => ?_)
        refine And.intro (fun _ => ?_) (fun c => absurd (by decide) c)
        refine And.intro (fun _ => ?_) (fun c => absurd (by decide) c)
        refine And.intro (fun _ => ?_) (fun c => absurd (by decide) c)
        obtain ⟨τ, hτ⟩ : ∃ τ, τ = f 500 20 ||| ((1 : Int32) <<< (nI 4 &&& 31)) := ⟨_, rfl⟩
        have ww : (nI 4).toInt = 4 := rfl
        refine And.intro (And.intro (fun c => absurd (ww.symm.trans c) (by decide)) (And.intro (fun c => absurd (ww.symm.trans c) (by decide)) (And.intro (fun c => absurd (ww.symm.trans c) (by decide)) (And.intro (fun c => absurd (ww.symm.trans c) (by decide)) (And.intro (fun _ => ?_) (And.intro (fun c => absurd (ww.symm.trans c) (by decide)) trivial)))))) (fun c => absurd c (by rw [ww]; decide))
        show ∃ P, x_Ct _ (d + 8) [.ref 500] (x_up f 500 20 (f 500 20 ||| ((1 : Int32) <<< (nI 4 &&& 31))), g, x_HR r t, dm, n) P ∧ _
        rw [← hτ]
        have hS1 := x_MS_20 (x := τ) hS
        refine Exists.intro _ (And.intro (m_aGood hT hB hS1 one) (And.intro (And.intro (Nat.zero_le _) (Nat.zero_le _)) (fun zq h' hpo => ?_)))
        obtain ⟨b, rfl⟩ := x_PMd_z hpo
        refine jn _ b _ _ τ hpo (fun w h => ?_) (hY.trans (y_good_1 a m S q))
        have hT2 : w.1.2.2 = S.2.2 := by
          unfold y_good1 at h
          by_cases c : S.1 1 0 0 = 5
          · rw [if_pos c] at h
            cases h
          · rw [if_neg c] at h
            obtain ⟨x0, -, h⟩ := y_bd_inr h
            obtain ⟨x1, -, h⟩ := y_bd_inr h
            obtain ⟨x2, -, h⟩ := y_bd_inr h
            obtain ⟨x3, -, h⟩ := y_bd_inr h
            cases h
            rfl
        rw [hT2, hτ]
        refine y_TD_cg (y_TD_up hD (k := 4) (by decide)) (fun i hi => ?_)
        exact (if_neg (by omega)).symm
      · have hY : y_part a m S q = y_pers a m S q := by unfold y_part; rw [hw]; rfl
        refine x_wp_ok ok217 [182] 6 ?_
        refine And.intro (fun c => absurd c (by decide)) (fun _ => ?_)
        refine And.intro (fun _ => ?_) (fun c => absurd (by decide) c)
        refine And.intro (fun _ => ?_) (fun c => absurd (by decide) c)
        refine And.intro (fun _ => ?_) (fun c => absurd (by decide) c)
        obtain ⟨τ, hτ⟩ : ∃ τ, τ = f 500 20 ||| ((1 : Int32) <<< (nI 5 &&& 31)) := ⟨_, rfl⟩
        have ww : (nI 5).toInt = 5 := rfl
        refine And.intro (And.intro (fun c => absurd (ww.symm.trans c) (by decide)) (And.intro (fun c => absurd (ww.symm.trans c) (by decide)) (And.intro (fun c => absurd (ww.symm.trans c) (by decide)) (And.intro (fun c => absurd (ww.symm.trans c) (by decide)) (And.intro (fun c => absurd (ww.symm.trans c) (by decide)) (And.intro (fun _ => ?_) trivial)))))) (fun c => absurd c (by rw [ww]; decide))
        show ∃ P, x_Ct _ (d + 8) [.ref 500] (x_up f 500 20 (f 500 20 ||| ((1 : Int32) <<< (nI 5 &&& 31))), g, x_HR r t, dm, n) P ∧ _
        rw [← hτ]
        have hS1 := x_MS_20 (x := τ) hS
        refine Exists.intro _ (And.intro (m_aPerson hT hB hS1 one) (And.intro (And.intro (Nat.zero_le _) (Nat.zero_le _)) (fun zq h' hpo => ?_)))
        obtain ⟨b, rfl⟩ := x_PMd_z hpo
        refine jn _ b _ _ τ hpo (fun w h => ?_) (hY.trans (y_pers_1 a m S q))
        have hT2 : w.1.2.2 = S.2.2 := by
          unfold y_pers1 at h
          by_cases c : S.1 2 0 0 = 5
          · rw [if_pos c] at h
            cases h
          · rw [if_neg c] at h
            obtain ⟨x0, -, h⟩ := y_bd_inr h
            obtain ⟨x1, -, h⟩ := y_bd_inr h
            cases h
            rfl
        rw [hT2, hτ]
        refine y_TD_cg (y_TD_up hD (k := 5) (by decide)) (fun i hi => ?_)
        exact (if_neg (by omega)).symm
      · have hY : y_part a m S q = y_has a m S q := by unfold y_part; rw [hw]; rfl
        refine x_wp_ok ok217 [182] 6 ?_
        refine And.intro (fun c => absurd c (by decide)) (fun _ => ?_)
        refine And.intro (fun _ => ?_) (fun c => absurd (by decide) c)
        refine And.intro (fun _ => ?_) (fun c => absurd (by decide) c)
        refine And.intro (fun _ => ?_) (fun c => absurd (by decide) c)
        obtain ⟨τ, hτ⟩ : ∃ τ, τ = f 500 20 ||| ((1 : Int32) <<< (nI 6 &&& 31)) := ⟨_, rfl⟩
        have ww : (nI 6).toInt = 6 := rfl
        refine And.intro (And.intro (fun c => absurd (ww.symm.trans c) (by decide)) (And.intro (fun c => absurd (ww.symm.trans c) (by decide)) (And.intro (fun c => absurd (ww.symm.trans c) (by decide)) (And.intro (fun c => absurd (ww.symm.trans c) (by decide)) (And.intro (fun c => absurd (ww.symm.trans c) (by decide)) (And.intro (fun c => absurd (ww.symm.trans c) (by decide)) trivial)))))) (fun _ => ?_)
        show ∃ P, x_Ct _ (d + 8) [.ref 500] (x_up f 500 20 (f 500 20 ||| ((1 : Int32) <<< (nI 6 &&& 31))), g, x_HR r t, dm, n) P ∧ _
        rw [← hτ]
        have hS1 := x_MS_20 (x := τ) hS
        refine Exists.intro _ (And.intro (m_hisSheets hT hB hS1 one) (And.intro (And.intro (Nat.zero_le _) (Nat.zero_le _)) (fun zq h' hpo => ?_)))
        obtain ⟨b, rfl⟩ := x_PMd_z hpo
        refine jn _ b _ _ τ hpo (fun w h => ?_) (hY.trans (y_has_1 a m S q))
        have hT2 : w.1.2.2 = S.2.2 := by
          unfold y_has1 at h
          obtain ⟨x0, -, h⟩ := y_bd_inr h
          obtain ⟨x1, -, h⟩ := y_bd_inr h
          obtain ⟨x2, -, h⟩ := y_bd_inr h
          cases h
          rfl
        rw [hT2, hτ]
        refine y_TD_cg (y_TD_up hD (k := 6) (by decide)) (fun i hi => ?_)
        exact (if_neg (by omega)).symm
end C91
