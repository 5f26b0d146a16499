/-! reigns() of the class -/
def x_PRe (T : Nat) (f : Nat → Nat → Int32) (g : Nat → Nat → Int64) (ρ : Nat → Nat → Option Nat) (dm : List Nat) (n : Nat) (X : xF xTr) (z : Option Value) (h' : xH) : Prop := match X with
  | .inl e => z = some (.int 0) ∧ ∃ F G, h' = (F, G, ρ, dm, n) ∧ x_fR T f g F G ∧ x_FL F e
  | .inr S => z = some (.int 1) ∧ ∃ F G, h' = (F, G, ρ, dm, n) ∧ x_fR T f g F G ∧ F T 0 = 1 ∧ F T 1 = nI S.2.2.1 ∧ x_SC F T S.1 S.2.1
theorem x_HR_611 {r t : Nat} : va_up (x_HR r t) 611 (fun _ => none) = x_HR r t := by
  funext c
  by_cases h : c = 611
  · rw [h, x_us]
    rfl
  · rw [x_un h]
theorem x_HR_610 {r t T : Nat} (h : 71 - t = T) : x_up (x_up (x_up (x_up (va_up (x_HR r t) 610 (fun _ => none)) 610 3 (some 611)) 610 0 (some 10)) 610 1 (some r)) 610 2 (some T) = x_HR r t := by
  subst h
  funext c
  by_cases h : c = 610
  · rw [h]
    funext b
    show _ = if b = 0 then some 10 else if b = 1 then some r else if b = 2 then some (71 - t) else if b = 3 then some 611 else none
    by_cases b2 : b = 2
    · subst b2
      exact x_up_s _ _ _ _
    · rw [x_up_j b2]
      by_cases b1 : b = 1
      · subst b1
        exact x_up_s _ _ _ _
      · rw [x_up_j b1]
        by_cases b0 : b = 0
        · subst b0
          exact x_up_s _ _ _ _
        · rw [x_up_j b0, if_neg b0, if_neg b1, if_neg b2]
          by_cases b3 : b = 3
          · subst b3
            exact x_up_s _ _ _ _
          · rw [x_up_j b3, if_neg b3, x_us]
  · rw [x_up_k h, x_up_k h, x_up_k h, x_up_k h, x_un h]
theorem x_HR_ss {r t T c : Nat} (hT : 71 - t = T) (ht : 71 - T = t) (h1 : c ≠ 600) (h2 : c ≠ 610) : x_up (x_up (x_HR r t) 0 10 (some T)) 0 11 (some t) c = x_HR r T c := by
  cases c with
  | zero =>
    funext b
    show _ = x_H0 r T b
    unfold x_H0
    by_cases b11 : b = 11
    · subst b11
      rw [x_up_s, ht]
      rfl
    · rw [x_up_j b11]
      by_cases b10 : b = 10
      · subst b10
        rw [x_up_s]
        rfl
      · rw [x_up_j b10, if_neg b10, if_neg b11]
        show x_H0 r t b = _
        unfold x_H0
        rw [if_neg b10, if_neg b11]
  | succ c =>
    rw [x_up_k (by omega), x_up_k (by omega)]
    funext b
    have e := x_SH_15 h1 h2
    exact x_HO_eq e.1 e.2
def x_frg (T : Nat) (f : Nat → Nat → Int32) (g : Nat → Nat → Int64) (F : Nat → Nat → Int32) (G : Nat → Nat → Int64) : Prop := (∀ j, j ≠ 0 → j ≠ 5 → j ≠ 6 → j ≠ 7 → F 0 j = f 0 j) ∧ (∀ c, c ≠ 0 → c ≠ 10 → c < 600 → ¬ (T ≤ c ∧ c ≤ T + 6) → F c = f c) ∧ ∀ c, c ≠ 10 → c < 600 → G c = g c
def x_QCr (r t T : Nat) (v : xV) (N : Nat → Int64) (f : Nat → Nat → Int32) (g : Nat → Nat → Int64) (dm : List Nat) (n k : Nat) (x : Int32) (z : Option Value) (h' : xH) : Prop := match x_wi x 0 (nI (min k 300)) with
  | false => z = some (.int (-1)) ∧ h' = (x_up f 0 0 1, g, x_HR r t, dm, n)
  | true => match y_reigns (f 11) N (v 2 0 0) (v 0 0 0) (v 1 0 0) (x_c x) with
    | .inl e => z = some (.int (-1)) ∧ ∃ F G, h' = (F, G, x_HR r t, dm, n) ∧ x_frg T f g F G ∧ (F 0 0 = 9 ∧ F 0 5 = 0 ∧ F 0 6 = nI e.1 ∧ F 0 7 = nI e.2)
    | .inr S => z = some (.int (nI S.2.2.1)) ∧ ∃ F G, h' = (F, G, x_HR r T, dm, n) ∧ x_frg T f g F G ∧ (F 0 0 = 0 ∧ F 0 5 = 0 ∧ F 0 6 = 0 ∧ F 0 7 = -1) ∧ F T 0 = 1 ∧ x_SC F T S.1 S.2.1
section C99
variable {f : Nat → Nat → Int32} {g : Nat → Nat → Int64} {r t T k : Nat} {dm : List Nat} {n d L : Nat} {v : xV} {a : Nat → Int32} {m q : Nat} {N : Nat → Int64} {S : xTr} {ρ : Nat → Nat → Option Nat} {e : Nat × Nat} {F : Nat → Nat → Int32} {G : Nat → Nat → Int64} {P K G' w : Nat}
theorem x_RS_SC (hS : x_RS T a m S q f g) (h0 : S.2.2.2.1 = 0) : x_SC f T S.1 S.2.1 := by
  refine ⟨hS.2.2.1, fun k hk => ?_⟩
  obtain ⟨l1, l2, l3, l4, l6⟩ := hS.2.2.2.2.2 k hk
  exact ⟨l1, l2, l3, l4, fun h1 h2 => l6 h1 h2 (fun i hi => absurd hi (by omega))⟩
theorem x_SC_cg {s : xR} {NL : Nat} (h : x_SC f T s NL) (h2 : F T 2 = f T 2) (hc : ∀ c, T + 1 ≤ c → c ≤ T + 6 → F c = f c) : x_SC F T s NL := by
  unfold x_SC at h ⊢
  rw [h2, hc (T + 1) (by omega) (by omega), hc (T + 2) (by omega) (by omega), hc (T + 3) (by omega) (by omega), hc (T + 4) (by omega) (by omega), hc (T + 5) (by omega) (by omega), hc (T + 6) (by omega) (by omega)]
  exact h
theorem c_initR_12_32 (h611 : 611 ∉ dm) : x_Ct 59 (d + 1) [.ref 610, .ref 10, .ref 12, .ref 39] (f, g, va_up (x_HR 12 32) 610 (fun _ => none), dm, 611) (fun z h' => z = none ∧ h' = (va_up f 611 (fun _ => 0), va_up g 611 (fun _ => 0), x_HR 12 32, dm ++ [611], 612)) := by
  refine x_Ct_w (by decide) (Nat.le_of_ble_eq_true rfl) ok59 [] 6 ?_
  refine And.intro ⟨by decide, rfl, h611, show (611 : Nat) < 1000 by decide, by decide⟩ ?_
  refine And.intro ⟨show 0 + 1 ≤ x_mc 59 by decide, show 0 + 3 ≤ x_ms 59 by decide⟩ ?_
  refine And.intro ?_ ⟨trivial, by decide, by decide⟩
  refine ⟨rfl, ?_⟩
  have e : x_up (x_up (x_up (x_up (va_up (va_up (x_HR 12 32) 610 (fun _ => none)) 611 (fun _ => none)) 610 3 (some 611)) 610 0 (some 10)) 610 1 (some 12)) 610 2 (some 39) = x_HR 12 32 := by
    rw [va_up_sw (by decide), x_HR_611]
    exact x_HR_610 rfl
  show (va_up f 611 (fun _ => 0), va_up g 611 (fun _ => 0), x_up (x_up (x_up (x_up (va_up (va_up (x_HR 12 32) 610 (fun _ => none)) 611 (fun _ => none)) 610 3 (some 611)) 610 0 (some 10)) 610 1 (some 12)) 610 2 (some 39), dm ++ [611], 612) = _
  rw [e]
theorem c_isTakenR_12_32 {j0 : Nat} (hT : y_TP a m) (hI : y_RI (v 2 0 0) (v 0 0 0) (v 1 0 0) S) (hS : x_RS 39 a m S q f g) (h0 : f 12 0 = nI (v 0 0 0)) (h1 : f 12 1 = nI (v 1 0 0)) (h2 : f 12 2 = nI (v 2 0 0)) (b0 : v 0 0 0 ≤ 4) (b1 : v 1 0 0 ≤ 5) (b2 : v 2 0 0 ≤ 5) (hN : y_NR (g 14) v N) (hq : q ≤ m) (hj : m - q ≤ j0) : x_Ct 60 (d + 5) [.ref 610] (f, g, x_HR 12 32, dm, n) (x_PRe 39 f g (x_HR 12 32) dm n (y_rns a m N (v 2 0 0) (v 0 0 0) (v 1 0 0) j0 S q)) := by
  obtain ⟨X0, hX0⟩ : ∃ X0, X0 = y_rns a m N (v 2 0 0) (v 0 0 0) (v 1 0 0) j0 S q := ⟨_, rfl⟩
  rw [← hX0]
  obtain ⟨Po, hPo⟩ : ∃ Po : Option Value → xH → Prop, Po = x_PRe 39 f g (x_HR 12 32) dm n X0 := ⟨_, rfl⟩
  rw [← hPo]
  have tl0 : ∀ F G (e : Nat × Nat) x, X0 = .inl e → x_FL F e → x_fR 39 f g F G → x_J 60 (d + 5) Po 76 [some (.ref 610), some (.int 0), some (.int x)] [] (F, G, x_HR 12 32, dm, n) 0 0 := by
    intro F G e x hX he hf
    refine x_wp_ok ok60 [] 6 ?_
    refine And.intro (Or.inl rfl) ?_
    refine And.intro ?_ ⟨Or.inl rfl, Nat.le_refl _, Nat.le_refl _⟩
    rw [hPo, hX]
    exact ⟨rfl, _, G, rfl, x_fR_t hf (x_fR_up (Or.inr (Or.inr (by decide)))), he⟩
  have bad56 : ∀ F G (e : Nat × Nat) x, X0 = .inl e → x_FL F e → x_fR 39 f g F G → x_J 60 (d + 5) Po 56 [some (.ref 610), some (.int 0), some (.int x)] [] (F, G, x_HR 12 32, dm, n) 0 0 := by
    intro F G e x hX he hf
    refine x_wp_ok ok60 [76] 6 ?_
    refine And.intro (fun _ => ?_) (fun c => absurd rfl c)
    exact tl0 F G e x hX he hf
  have end56 : ∀ F G (S : xTr) q x, X0 = (if 0 < S.2.2.2.1 then .inl (y_fl a m q 2) else .inr S) → x_RS 39 a m S q F G → S.2.2.2.1 ≤ 3 → x_fR 39 f g F G → x_J 60 (d + 5) Po 56 [some (.ref 610), some (.int 1), some (.int x)] [] (F, G, x_HR 12 32, dm, n) 0 0 := by
    intro F G S q x hX hS hd3 hf
    have e4 : F 610 4 = nI S.2.2.2.1 := hS.2.2.2.1
    refine x_wp_ok ok60 [76] 6 ?_
    refine And.intro (fun c => absurd (show (1 : Int32) = 0 from c) (by decide)) (fun _ => ?_)
    by_cases hd : 0 < S.2.2.2.1
    · rw [if_pos hd] at hX
      refine And.intro (fun c => absurd (show F 610 4 ≤ 0 from c) (by rw [e4]; exact nI_nle hd (by omega))) (fun _ => ?_)
      refine Exists.intro _ (And.intro (c_fail (k := 2) hS.1) (And.intro (And.intro (Nat.zero_le _) (Nat.zero_le _)) (fun zq h' hpo => ?_)))
      obtain ⟨rfl, F1, rfl, u1, u2⟩ := hpo
      exact tl0 F1 G _ x hX u2 (x_fR_t hf (x_fR_10 u1))
    · rw [if_neg hd] at hX
      have hd0 : S.2.2.2.1 = 0 := by omega
      refine And.intro (fun _ => ?_) (fun c => absurd (show F 610 4 ≤ 0 by rw [e4, hd0]; decide) c)
      refine x_wp_ok ok60 [] 6 ?_
      refine And.intro (Or.inr rfl) ?_
      refine And.intro ?_ ⟨Or.inr rfl, Nat.le_refl _, Nat.le_refl _⟩
      rw [hPo, hX]
      refine ⟨rfl, _, G, rfl, x_fR_t hf (x_fR_up (Or.inr (Or.inr (by decide)))), x_up_s _ _ _ _, ?_, x_SC_cg (x_RS_SC hS hd0) (x_up_j (by decide)) (fun c c1 c2 => x_up_k (by omega))⟩
      rw [x_up_j (by decide)]
      exact hS.2.1
  have loop : ∀ j (S : xTr) q i F G, y_RI (v 2 0 0) (v 0 0 0) (v 1 0 0) S → x_RS 39 a m S q F G → q ≤ m → m - q ≤ j → i ≤ q → x_fR 39 f g F G → y_rns a m N (v 2 0 0) (v 0 0 0) (v 1 0 0) j S q = X0 → x_J 60 (d + 5) Po 4 [some (.ref 610), some (.int 1), some (.int (nI i))] [] (F, G, x_HR 12 32, dm, n) 0 0 := by
    intro j
    induction j with
    | zero =>
      intro S q i F G hI hS hq hj hi hf hX
      have h3 : y_sa a m q = 3 := if_neg (by omega)
      rw [y_rns_3 h3] at hX
      refine x_wp_ok ok60 [4, 56] 6 ?_
      refine And.intro (fun _ => end56 F G S q _ hX.symm hS hI.2.2.1 hf) (fun _ => ?_)
      refine And.intro (fun c => absurd (show (1 : Int32) = 0 from c) (by decide)) (fun _ => ?_)
      refine And.intro (fun _ => end56 F G S q _ hX.symm hS hI.2.2.1 hf) (fun c => absurd (show F 10 4 = 3 by rw [hS.1.2.2.2.1, y_tk_3]; exact h3) c)
    | succ j ih =>
      intro S q i F G hI hS hq hj hi hf hX
      by_cases h3 : y_sa a m q = 3
      · rw [y_rns_3 h3] at hX
        refine x_wp_ok ok60 [4, 56] 6 ?_
        refine And.intro (fun _ => end56 F G S q _ hX.symm hS hI.2.2.1 hf) (fun _ => ?_)
        refine And.intro (fun c => absurd (show (1 : Int32) = 0 from c) (by decide)) (fun _ => ?_)
        refine And.intro (fun _ => end56 F G S q _ hX.symm hS hI.2.2.1 hf) (fun c => absurd (show F 10 4 = 3 by rw [hS.1.2.2.2.1, y_tk_3]; exact h3) c)
      · rw [y_rns_S h3] at hX
        have hlt := y_sa_lt h3
        have hm9 := hT.1
        have jn : ∀ (b : Int32) h', x_PR 39 a m F G (x_HR 12 32) dm n (y_rst a m N (v 2 0 0) (v 0 0 0) (v 1 0 0) S q) (some (.int b)) h' → x_J 60 (d + 5) Po 49 [some (.ref 610), some (.int 1), some (.int (nI i))] [.int b] h' 0 0 := by
          intro b h' hp
          cases hY : y_rst a m N (v 2 0 0) (v 0 0 0) (v 1 0 0) S q with
          | inl e =>
            rw [hY] at hp hX
            obtain ⟨hb, F2, G2, rfl, w1, w2⟩ := hp
            cases hb
            refine x_wp_ok ok60 [56] 6 ?_
            refine And.intro (fun _ => bad56 F2 G2 e _ hX.symm w2 (x_fR_t hf w1)) (fun _ => ?_)
            exact And.intro (fun _ => bad56 F2 G2 e _ hX.symm w2 (x_fR_t hf w1)) (fun c => absurd rfl c)
          | inr w =>
            have k1 := y_rst_ok hI hY
            rw [hY] at hp hX
            obtain ⟨hb, F2, G2, rfl, w1, w2⟩ := hp
            cases hb
            have e0 := ih w.1 w.2 (i + 1) F2 G2 k1.1 w2 k1.2.2 (by omega) (by omega) (x_fR_t hf w1) hX
            rw [← nI_1o] at e0
            refine x_wp_ok ok60 [4] 6 ?_
            exact e0
        refine x_wp_ok ok60 [4, 49, 56] 6 ?_
        refine And.intro (fun c => absurd (show nI 900 ≤ nI i from c) (nI_ge (by omega) (by decide))) (fun _ => ?_)
        refine And.intro (fun c => absurd (show (1 : Int32) = 0 from c) (by decide)) (fun _ => ?_)
        refine And.intro (fun c => absurd (show F 10 4 = 3 from c) (by rw [hS.1.2.2.2.1, y_tk_3]; exact h3)) (fun _ => ?_)
        have hx : F 10 7 = y_tr (y_wm a m q) := hS.1.2.2.2.2.1
        have e23 : F 10 7 = 23 ↔ y_wm a m q = 20 := by
          rw [hx]
          exact y_tr_eq a m q (w := 20) (by decide)
        refine And.intro (fun c => ?_) (fun c => ?_)
        · have c : ¬ F 10 7 = 23 := c
          rw [e23] at c
          refine Exists.intro _ (And.intro (c_readStep_12_32 (v := v) (N := N) hT hI hS (by rw [hf.1 12 (by decide) (by decide) (by decide) (by decide)]; exact h0) (by rw [hf.1 12 (by decide) (by decide) (by decide) (by decide)]; exact h1) (by rw [hf.1 12 (by decide) (by decide) (by decide) (by decide)]; exact h2) b0 b1 b2 (by rw [hf.2 14 (by decide)]; exact hN) c) (And.intro (And.intro (Nat.zero_le _) (Nat.zero_le _)) (fun zq h' hpo => ?_)))
          obtain ⟨b, rfl⟩ := x_PR_z hpo
          exact jn b _ hpo
        · have c : F 10 7 = 23 := c
          rw [e23] at c
          refine Exists.intro _ (And.intro (c_readEnd_12_32 (N := N) hT hI hS c) (And.intro (And.intro (Nat.zero_le _) (Nat.zero_le _)) (fun zq h' hpo => ?_)))
          obtain ⟨b, rfl⟩ := x_PR_z hpo
          exact jn b _ hpo
  refine x_Ct_w (by decide) (Nat.le_of_ble_eq_true rfl) ok60 [4] 6 ?_
  exact loop j0 S q 0 f g hI hS hq hj (Nat.zero_le _) x_fR_r hX0.symm
theorem c_reignsU_12_32 {k : Nat} {x : Int32} (hk : f 0 5 = nI k) (hk9 : k ≤ 900) (hb : ∀ j, j < k → y_byt (f 11 j)) (h0 : f 12 0 = nI (v 0 0 0)) (h1 : f 12 1 = nI (v 1 0 0)) (h2 : f 12 2 = nI (v 2 0 0)) (b0 : v 0 0 0 ≤ 4) (b1 : v 1 0 0 ≤ 5) (b2 : v 2 0 0 ≤ 5) (hN : y_NR (g 14) v N) (h600 : 600 ∉ dm) (h610 : 610 ∉ dm) (h611 : 611 ∉ dm) (hr : ∀ t, t = 32 ∨ t = 39 → ∀ k ∈ dm, ∀ j q, x_HR 12 t k j = some q → x_in1 dm q) : x_Ct 106 (d + 6) [.ref 0, .int x] (f, g, x_HR 12 32, dm, 610) (x_ct (x_QCr 12 32 39 v N f g dm n k x) dm) := by
  obtain ⟨Po, hPo⟩ : ∃ Po : Option Value → xH → Prop, Po = x_ct (x_QCr 12 32 39 v N f g dm n k x) dm := ⟨_, rfl⟩
  rw [← hPo]
  have emin : (if nI 300 < f 0 5 then nI 300 else f 0 5) = nI (min k 300) := by
    rw [hk]
    by_cases h : 300 < k
    · rw [if_pos ((nI_ltI (by decide) (by omega)).mpr h), show min k 300 = 300 by omega]
    · rw [if_neg (fun q => h ((nI_ltI (by decide) (by omega)).mp q)), show min k 300 = k by omega]
  refine x_Ct_w (by decide) (Nat.le_of_ble_eq_true rfl) ok106 [] 6 ?_
  show ∃ P, x_Ct 161 (d + 5) [.int x, .int 0, .int (if nI 300 < f 0 5 then nI 300 else f 0 5)] _ P ∧ _
  rw [emin]
  refine Exists.intro _ (And.intro c_within (And.intro (And.intro (Nat.zero_le _) (Nat.zero_le _)) (fun q h' hpo => ?_)))
  obtain ⟨rfl, rfl⟩ := hpo
  cases hw : x_wi x 0 (nI (min k 300)) with
  | false =>
    refine And.intro (fun c => absurd rfl c) (fun _ => ?_)
    refine Exists.intro _ (And.intro (c_refuse (w := 1)) (And.intro (And.intro (Nat.zero_le _) (Nat.zero_le _)) (fun q h' hpo => ?_)))
    obtain ⟨rfl, rfl⟩ := hpo
    refine And.intro ?_ ⟨trivial, Nat.le_of_ble_eq_true rfl, Nat.le_of_ble_eq_true rfl⟩
    rw [hPo]
    have hq : x_QCr 12 32 39 v N f g dm n k x (some (.int (-1))) (x_up f 0 0 1, g, x_HR 12 32, dm, n) := by
      unfold x_QCr
      rw [hw]
      exact ⟨rfl, rfl⟩
    have e := x_ct_i (P := x_QCr 12 32 39 v N f g dm n k x) (l := []) (ρ := x_HR 12 32) (ρ2 := x_HR 12 32) (n := 610) hq (fun _ _ => rfl) (hr 32 (by decide))
    rw [List.append_nil] at e
    exact e
  | true =>
    obtain ⟨j, -, hj, rfl⟩ := x_wi_t (lo := 0) (hi := min k 300) hw (by omega) (Nat.zero_le _)
    have hc : x_c (nI j) = j := nI_clamp (by omega)
    obtain ⟨a, ha⟩ : ∃ a, a = f 11 := ⟨_, rfl⟩
    have hT : y_TP a j := ⟨by omega, fun i hi => by rw [ha]; exact hb i (by omega)⟩
    have hq := (y_skip_sp a (Nat.zero_le j)).2
    refine And.intro (fun _ => ?_) (fun c => absurd (show (1 : Int32) = 0 from c) (by decide))
    refine Exists.intro _ (And.intro (c_open (k := j) (by omega) (fun i hi => hb i (by omega))) (And.intro (And.intro (Nat.zero_le _) (Nat.zero_le _)) (fun zq h' hpo => ?_)))
    obtain ⟨rfl, F1, G1, rfl, u1, u2⟩ := hpo
    rw [← ha] at u2
    refine Exists.intro _ (And.intro c_clearS_39 (And.intro (And.intro (Nat.zero_le _) (Nat.zero_le _)) (fun q h' hpo => ?_)))
    obtain ⟨rfl, rfl⟩ := hpo
    obtain ⟨F2, hF2⟩ : ∃ F2, F2 = x_up (x_up (x_up F1 39 0 0) 39 1 0) 39 2 0 := ⟨_, rfl⟩
    refine And.intro ⟨rfl, h610, show (610 : Nat) < 1000 by decide⟩ ?_
    refine And.intro ⟨show 0 + 1 ≤ x_mc 106 by decide, show 0 + 5 ≤ x_ms 106 by decide⟩ ?_
    have n611 : 611 ∉ dm ++ [610] := by
      intro h
      rcases List.mem_append.mp h with h | h
      · exact h611 h
      · exact absurd (List.mem_singleton.mp h) (by decide)
    show ∃ P, x_Ct 59 (d + 5) [.ref 610, .ref 10, .ref 12, .ref 39] (va_up (x_up (x_up (x_up F1 39 0 0) 39 1 0) 39 2 0) 610 (fun _ => 0), va_up G1 610 (fun _ => 0), va_up (x_HR 12 32) 610 (fun _ => none), dm ++ [610], 611) P ∧ _
    rw [← hF2]
    refine Exists.intro _ (And.intro (c_initR_12_32 (f := va_up F2 610 (fun _ => 0)) (g := va_up G1 610 (fun _ => 0)) (dm := dm ++ [610]) n611) (And.intro (And.intro (Nat.le_of_ble_eq_true rfl) (Nat.le_of_ble_eq_true rfl)) (fun zq h' hpo => ?_)))
    obtain ⟨rfl, rfl⟩ := hpo
    obtain ⟨F3, hF3⟩ : ∃ F3 : Nat → Nat → Int32, F3 = va_up (va_up F2 610 (fun _ => 0)) 611 (fun _ => 0) := ⟨_, rfl⟩
    obtain ⟨G3, hG3⟩ : ∃ G3 : Nat → Nat → Int64, G3 = va_up (va_up G1 610 (fun _ => 0)) 611 (fun _ => 0) := ⟨_, rfl⟩
    have f3 : ∀ c, c < 600 → F3 c = F2 c := fun c hc => by rw [hF3, x_un (by omega), x_un (by omega)]
    have g3 : ∀ c, c < 600 → G3 c = G1 c := fun c hc => by rw [hG3, x_un (by omega), x_un (by omega)]
    have f2 : ∀ c, c ≠ 39 → F2 c = F1 c := fun c hc => by rw [hF2, x_up_k hc, x_up_k hc, x_up_k hc]
    have hS : x_RS 39 a j y_Tr0 (y_skip a j 0) F3 G3 := by
      refine ⟨⟨?_, ?_⟩, ?_, ?_, ?_, fun i hi => absurd hi (Nat.not_lt_zero _), fun i hi => absurd hi (Nat.not_lt_zero _)⟩
      · rw [f3 11 (by decide), f2 11 (by decide)]
        exact u2.1
      · rw [f3 10 (by decide), f2 10 (by decide), g3 10 (by decide)]
        exact u2.2
      · rw [f3 _ (by decide), hF2]
        rfl
      · rw [f3 _ (by decide), hF2]
        rfl
      · rw [hF3, x_un (by decide), x_us]
        rfl
    show ∃ P, x_Ct 60 (d + 5) [.ref 610] (va_up (va_up F2 610 (fun _ => 0)) 611 (fun _ => 0), va_up (va_up G1 610 (fun _ => 0)) 611 (fun _ => 0), x_HR 12 32, dm ++ [610] ++ [611], 612) P ∧ _
    rw [← hF3, ← hG3]
    have fL : F3 12 = f 12 := by rw [f3 _ (by decide), f2 _ (by decide), u1.1 _ (by decide)]
    have gL : G3 14 = g 14 := by rw [g3 _ (by decide), u1.2 _ (by decide)]
    refine Exists.intro _ (And.intro (c_isTakenR_12_32 (v := v) (N := N) (j0 := j) hT (y_RI_0 _ _ _) hS (by rw [fL]; exact h0) (by rw [fL]; exact h1) (by rw [fL]; exact h2) b0 b1 b2 (by rw [gL]; exact hN) hq (Nat.sub_le _ _)) (And.intro (And.intro (Nat.le_of_ble_eq_true rfl) (Nat.le_of_ble_eq_true rfl)) (fun zq h' hpo => ?_)))
    have fr : ∀ F4 G4, x_fR 39 F3 G3 F4 G4 → (∀ c, c ≠ 10 → c < 600 → ¬ (39 ≤ c ∧ c ≤ 39 + 6) → F4 c = f c) ∧ ∀ c, c ≠ 10 → c < 600 → G4 c = g c := by
      intro F4 G4 h
      refine ⟨fun c c1 c2 c3 => ?_, fun c c1 c2 => ?_⟩
      · rw [h.1 c c1 (by omega) (by omega) c3, f3 c c2, f2 c (by omega), u1.1 c c1]
      · rw [h.2 c c1, g3 c c2, u1.2 c c1]
    have hρ : ∀ k ∈ dm, x_HR 12 39 k = x_up (x_up (x_HR 12 32) 0 10 (some 39)) 0 11 (some 32) k := fun k hk => (x_HR_ss (r := 12) (t := 32) (T := 39) rfl rfl (fun e => h600 (e ▸ hk)) (fun e => h610 (e ▸ hk))).symm
    have hX : y_reigns (f 11) N (v 2 0 0) (v 0 0 0) (v 1 0 0) (x_c (nI j)) = y_rns a j N (v 2 0 0) (v 0 0 0) (v 1 0 0) j y_Tr0 (y_skip a j 0) := by
      rw [hc, ← ha]
      rfl
    cases e1 : y_rns a j N (v 2 0 0) (v 0 0 0) (v 1 0 0) j y_Tr0 (y_skip a j 0) with
    | inl e =>
      rw [e1] at hpo
      obtain ⟨rfl, F4, G4, rfl, o1, o2⟩ := hpo
      obtain ⟨fr1, fr2⟩ := fr F4 G4 o1
      refine Exists.intro _ (And.intro (c_endText (b := false)) (And.intro (And.intro (Nat.le_of_ble_eq_true rfl) (Nat.le_of_ble_eq_true rfl)) (fun zq h' hpo => ?_)))
      obtain ⟨rfl, rfl⟩ := hpo
      refine And.intro (fun c => absurd rfl c) (fun _ => ?_)
      refine Exists.intro _ (And.intro (c_refuse (w := 9)) (And.intro (And.intro (Nat.le_of_ble_eq_true rfl) (Nat.le_of_ble_eq_true rfl)) (fun zq h' hpo => ?_)))
      obtain ⟨rfl, rfl⟩ := hpo
      refine And.intro ?_ ⟨trivial, Nat.le_of_ble_eq_true rfl, Nat.le_of_ble_eq_true rfl⟩
      rw [hPo]
      show x_ct (x_QCr 12 32 39 v N f g dm n k (nI j)) dm (some (.int (-1))) (x_up (x_up (x_up (x_up F4 0 5 0) 0 6 (F4 10 10)) 0 7 (F4 10 11)) 0 0 9, G4, x_HR 12 32, dm ++ [610] ++ [611], 612)
      rw [List.append_assoc]
      refine x_ct_i (ρ2 := x_HR 12 32) (n2 := n) ?_ (fun _ _ => rfl) (hr 32 (by decide))
      unfold x_QCr
      rw [hw, hX, e1]
      refine ⟨rfl, _, G4, rfl, ⟨fun i i0 i5 i6 i7 => ?_, fun c c0 c1 c3 c4 => ?_, fr2⟩, rfl, rfl, o2.1, o2.2⟩
      · rw [x_up_j i0, x_up_j i7, x_up_j i6, x_up_j i5, fr1 0 (by decide) (by decide) (by decide)]
      · rw [x_up_k c0, x_up_k c0, x_up_k c0, x_up_k c0]
        exact fr1 c c1 c3 c4
    | inr S =>
      rw [e1] at hpo
      obtain ⟨rfl, F4, G4, rfl, o1, o2, o3, o4⟩ := hpo
      obtain ⟨fr1, fr2⟩ := fr F4 G4 o1
      refine Exists.intro _ (And.intro (c_endText (b := true)) (And.intro (And.intro (Nat.le_of_ble_eq_true rfl) (Nat.le_of_ble_eq_true rfl)) (fun zq h' hpo => ?_)))
      obtain ⟨rfl, rfl⟩ := hpo
      refine And.intro (fun _ => ?_) (fun c => absurd (show (1 : Int32) = 0 from c) (by decide))
      refine Exists.intro _ (And.intro c_answer (And.intro (And.intro (Nat.le_of_ble_eq_true rfl) (Nat.le_of_ble_eq_true rfl)) (fun zq h' hpo => ?_)))
      obtain ⟨rfl, rfl⟩ := hpo
      refine And.intro ?_ ⟨trivial, Nat.le_of_ble_eq_true rfl, Nat.le_of_ble_eq_true rfl⟩
      rw [hPo]
      show x_ct (x_QCr 12 32 39 v N f g dm n k (nI j)) dm (some (.int (F4 39 1))) (x_up (x_up (x_up (x_up F4 0 5 0) 0 6 0) 0 7 (-1)) 0 0 0, G4, x_up (x_up (x_HR 12 32) 0 10 (some 39)) 0 11 (some 32), dm ++ [610] ++ [611], 612)
      rw [o3, List.append_assoc]
      refine x_ct_i (ρ2 := x_HR 12 39) (n2 := n) ?_ hρ (hr 39 (by decide))
      unfold x_QCr
      rw [hw, hX, e1]
      refine ⟨rfl, _, G4, rfl, ⟨fun i i0 i5 i6 i7 => ?_, fun c c0 c1 c3 c4 => ?_, fr2⟩, ⟨rfl, rfl, rfl, rfl⟩, ?_, x_SC_cg o4 ?_ (fun c c1 c2 => ?_)⟩
      · rw [x_up_j i0, x_up_j i7, x_up_j i6, x_up_j i5, fr1 0 (by decide) (by decide) (by decide)]
      · rw [x_up_k c0, x_up_k c0, x_up_k c0, x_up_k c0]
        exact fr1 c c1 c3 c4
      · rw [x_up_k (by decide), x_up_k (by decide), x_up_k (by decide), x_up_k (by decide)]
        exact o2
      · rw [x_up_k (by decide), x_up_k (by decide), x_up_k (by decide), x_up_k (by decide)]
      · rw [x_up_k (by omega), x_up_k (by omega), x_up_k (by omega), x_up_k (by omega)]
theorem c_reigns_12_32 {k : Nat} {x : Int32} (hk : f 0 5 = nI k) (hk9 : k ≤ 900) (hb : ∀ j, j < k → y_byt (f 11 j)) (h0 : f 12 0 = nI (v 0 0 0)) (h1 : f 12 1 = nI (v 1 0 0)) (h2 : f 12 2 = nI (v 2 0 0)) (b0 : v 0 0 0 ≤ 4) (b1 : v 1 0 0 ≤ 5) (b2 : v 2 0 0 ≤ 5) (hN : y_NR (g 14) v N) (h600 : 600 ∉ dm) (h610 : 610 ∉ dm) (h611 : 611 ∉ dm) (hr : ∀ t, t = 32 ∨ t = 39 → ∀ k ∈ dm, ∀ j q, x_HR 12 t k j = some q → x_in1 dm q) : x_Ct 106 (d + 6) [.ref 0, .int x] (f, g, x_HR 12 32, dm, n) (x_QCr 12 32 39 v N f g dm n k x) := x_Ct_cut (h := (f, g, x_HR 12 32, dm, 610)) (c_reignsU_12_32 hk hk9 hb h0 h1 h2 b0 b1 b2 hN h600 h610 h611 hr) (fun _ _ h => h)
theorem c_initR_12_39 (h611 : 611 ∉ dm) : x_Ct 59 (d + 1) [.ref 610, .ref 10, .ref 12, .ref 32] (f, g, va_up (x_HR 12 39) 610 (fun _ => none), dm, 611) (fun z h' => z = none ∧ h' = (va_up f 611 (fun _ => 0), va_up g 611 (fun _ => 0), x_HR 12 39, dm ++ [611], 612)) := by
  refine x_Ct_w (by decide) (Nat.le_of_ble_eq_true rfl) ok59 [] 6 ?_
  refine And.intro ⟨by decide, rfl, h611, show (611 : Nat) < 1000 by decide, by decide⟩ ?_
  refine And.intro ⟨show 0 + 1 ≤ x_mc 59 by decide, show 0 + 3 ≤ x_ms 59 by decide⟩ ?_
  refine And.intro ?_ ⟨trivial, by decide, by decide⟩
  refine ⟨rfl, ?_⟩
  have e : x_up (x_up (x_up (x_up (va_up (va_up (x_HR 12 39) 610 (fun _ => none)) 611 (fun _ => none)) 610 3 (some 611)) 610 0 (some 10)) 610 1 (some 12)) 610 2 (some 32) = x_HR 12 39 := by
    rw [va_up_sw (by decide), x_HR_611]
    exact x_HR_610 rfl
  show (va_up f 611 (fun _ => 0), va_up g 611 (fun _ => 0), x_up (x_up (x_up (x_up (va_up (va_up (x_HR 12 39) 610 (fun _ => none)) 611 (fun _ => none)) 610 3 (some 611)) 610 0 (some 10)) 610 1 (some 12)) 610 2 (some 32), dm ++ [611], 612) = _
  rw [e]
theorem c_isTakenR_12_39 {j0 : Nat} (hT : y_TP a m) (hI : y_RI (v 2 0 0) (v 0 0 0) (v 1 0 0) S) (hS : x_RS 32 a m S q f g) (h0 : f 12 0 = nI (v 0 0 0)) (h1 : f 12 1 = nI (v 1 0 0)) (h2 : f 12 2 = nI (v 2 0 0)) (b0 : v 0 0 0 ≤ 4) (b1 : v 1 0 0 ≤ 5) (b2 : v 2 0 0 ≤ 5) (hN : y_NR (g 14) v N) (hq : q ≤ m) (hj : m - q ≤ j0) : x_Ct 60 (d + 5) [.ref 610] (f, g, x_HR 12 39, dm, n) (x_PRe 32 f g (x_HR 12 39) dm n (y_rns a m N (v 2 0 0) (v 0 0 0) (v 1 0 0) j0 S q)) := by
  obtain ⟨X0, hX0⟩ : ∃ X0, X0 = y_rns a m N (v 2 0 0) (v 0 0 0) (v 1 0 0) j0 S q := ⟨_, rfl⟩
  rw [← hX0]
  obtain ⟨Po, hPo⟩ : ∃ Po : Option Value → xH → Prop, Po = x_PRe 32 f g (x_HR 12 39) dm n X0 := ⟨_, rfl⟩
  rw [← hPo]
  have tl0 : ∀ F G (e : Nat × Nat) x, X0 = .inl e → x_FL F e → x_fR 32 f g F G → x_J 60 (d + 5) Po 76 [some (.ref 610), some (.int 0), some (.int x)] [] (F, G, x_HR 12 39, dm, n) 0 0 := by
    intro F G e x hX he hf
    refine x_wp_ok ok60 [] 6 ?_
    refine And.intro (Or.inl rfl) ?_
    refine And.intro ?_ ⟨Or.inl rfl, Nat.le_refl _, Nat.le_refl _⟩
    rw [hPo, hX]
    exact ⟨rfl, _, G, rfl, x_fR_t hf (x_fR_up (Or.inr (Or.inr (by decide)))), he⟩
  have bad56 : ∀ F G (e : Nat × Nat) x, X0 = .inl e → x_FL F e → x_fR 32 f g F G → x_J 60 (d + 5) Po 56 [some (.ref 610), some (.int 0), some (.int x)] [] (F, G, x_HR 12 39, dm, n) 0 0 := by
    intro F G e x hX he hf
    refine x_wp_ok ok60 [76] 6 ?_
    refine And.intro (fun _ => ?_) (fun c => absurd rfl c)
    exact tl0 F G e x hX he hf
  have end56 : ∀ F G (S : xTr) q x, X0 = (if 0 < S.2.2.2.1 then .inl (y_fl a m q 2) else .inr S) → x_RS 32 a m S q F G → S.2.2.2.1 ≤ 3 → x_fR 32 f g F G → x_J 60 (d + 5) Po 56 [some (.ref 610), some (.int 1), some (.int x)] [] (F, G, x_HR 12 39, dm, n) 0 0 := by
    intro F G S q x hX hS hd3 hf
    have e4 : F 610 4 = nI S.2.2.2.1 := hS.2.2.2.1
    refine x_wp_ok ok60 [76] 6 ?_
    refine And.intro (fun c => absurd (show (1 : Int32) = 0 from c) (by decide)) (fun _ => ?_)
    by_cases hd : 0 < S.2.2.2.1
    · rw [if_pos hd] at hX
      refine And.intro (fun c => absurd (show F 610 4 ≤ 0 from c) (by rw [e4]; exact nI_nle hd (by omega))) (fun _ => ?_)
      refine Exists.intro _ (And.intro (c_fail (k := 2) hS.1) (And.intro (And.intro (Nat.zero_le _) (Nat.zero_le _)) (fun zq h' hpo => ?_)))
      obtain ⟨rfl, F1, rfl, u1, u2⟩ := hpo
      exact tl0 F1 G _ x hX u2 (x_fR_t hf (x_fR_10 u1))
    · rw [if_neg hd] at hX
      have hd0 : S.2.2.2.1 = 0 := by omega
      refine And.intro (fun _ => ?_) (fun c => absurd (show F 610 4 ≤ 0 by rw [e4, hd0]; decide) c)
      refine x_wp_ok ok60 [] 6 ?_
      refine And.intro (Or.inr rfl) ?_
      refine And.intro ?_ ⟨Or.inr rfl, Nat.le_refl _, Nat.le_refl _⟩
      rw [hPo, hX]
      refine ⟨rfl, _, G, rfl, x_fR_t hf (x_fR_up (Or.inr (Or.inr (by decide)))), x_up_s _ _ _ _, ?_, x_SC_cg (x_RS_SC hS hd0) (x_up_j (by decide)) (fun c c1 c2 => x_up_k (by omega))⟩
      rw [x_up_j (by decide)]
      exact hS.2.1
  have loop : ∀ j (S : xTr) q i F G, y_RI (v 2 0 0) (v 0 0 0) (v 1 0 0) S → x_RS 32 a m S q F G → q ≤ m → m - q ≤ j → i ≤ q → x_fR 32 f g F G → y_rns a m N (v 2 0 0) (v 0 0 0) (v 1 0 0) j S q = X0 → x_J 60 (d + 5) Po 4 [some (.ref 610), some (.int 1), some (.int (nI i))] [] (F, G, x_HR 12 39, dm, n) 0 0 := by
    intro j
    induction j with
    | zero =>
      intro S q i F G hI hS hq hj hi hf hX
      have h3 : y_sa a m q = 3 := if_neg (by omega)
      rw [y_rns_3 h3] at hX
      refine x_wp_ok ok60 [4, 56] 6 ?_
      refine And.intro (fun _ => end56 F G S q _ hX.symm hS hI.2.2.1 hf) (fun _ => ?_)
      refine And.intro (fun c => absurd (show (1 : Int32) = 0 from c) (by decide)) (fun _ => ?_)
      refine And.intro (fun _ => end56 F G S q _ hX.symm hS hI.2.2.1 hf) (fun c => absurd (show F 10 4 = 3 by rw [hS.1.2.2.2.1, y_tk_3]; exact h3) c)
    | succ j ih =>
      intro S q i F G hI hS hq hj hi hf hX
      by_cases h3 : y_sa a m q = 3
      · rw [y_rns_3 h3] at hX
        refine x_wp_ok ok60 [4, 56] 6 ?_
        refine And.intro (fun _ => end56 F G S q _ hX.symm hS hI.2.2.1 hf) (fun _ => ?_)
        refine And.intro (fun c => absurd (show (1 : Int32) = 0 from c) (by decide)) (fun _ => ?_)
        refine And.intro (fun _ => end56 F G S q _ hX.symm hS hI.2.2.1 hf) (fun c => absurd (show F 10 4 = 3 by rw [hS.1.2.2.2.1, y_tk_3]; exact h3) c)
      · rw [y_rns_S h3] at hX
        have hlt := y_sa_lt h3
        have hm9 := hT.1
        have jn : ∀ (b : Int32) h', x_PR 32 a m F G (x_HR 12 39) dm n (y_rst a m N (v 2 0 0) (v 0 0 0) (v 1 0 0) S q) (some (.int b)) h' → x_J 60 (d + 5) Po 49 [some (.ref 610), some (.int 1), some (.int (nI i))] [.int b] h' 0 0 := by
          intro b h' hp
          cases hY : y_rst a m N (v 2 0 0) (v 0 0 0) (v 1 0 0) S q with
          | inl e =>
            rw [hY] at hp hX
            obtain ⟨hb, F2, G2, rfl, w1, w2⟩ := hp
            cases hb
            refine x_wp_ok ok60 [56] 6 ?_
            refine And.intro (fun _ => bad56 F2 G2 e _ hX.symm w2 (x_fR_t hf w1)) (fun _ => ?_)
            exact And.intro (fun _ => bad56 F2 G2 e _ hX.symm w2 (x_fR_t hf w1)) (fun c => absurd rfl c)
          | inr w =>
            have k1 := y_rst_ok hI hY
            rw [hY] at hp hX
            obtain ⟨hb, F2, G2, rfl, w1, w2⟩ := hp
            cases hb
            have e0 := ih w.1 w.2 (i + 1) F2 G2 k1.1 w2 k1.2.2 (by omega) (by omega) (x_fR_t hf w1) hX
            rw [← nI_1o] at e0
            refine x_wp_ok ok60 [4] 6 ?_
            exact e0
        refine x_wp_ok ok60 [4, 49, 56] 6 ?_
        refine And.intro (fun c => absurd (show nI 900 ≤ nI i from c) (nI_ge (by omega) (by decide))) (fun _ => ?_)
        refine And.intro (fun c => absurd (show (1 : Int32) = 0 from c) (by decide)) (fun _ => ?_)
        refine And.intro (fun c => absurd (show F 10 4 = 3 from c) (by rw [hS.1.2.2.2.1, y_tk_3]; exact h3)) (fun _ => ?_)
        have hx : F 10 7 = y_tr (y_wm a m q) := hS.1.2.2.2.2.1
        have e23 : F 10 7 = 23 ↔ y_wm a m q = 20 := by
          rw [hx]
          exact y_tr_eq a m q (w := 20) (by decide)
        refine And.intro (fun c => ?_) (fun c => ?_)
        · have c : ¬ F 10 7 = 23 := c
          rw [e23] at c
          refine Exists.intro _ (And.intro (c_readStep_12_39 (v := v) (N := N) hT hI hS (by rw [hf.1 12 (by decide) (by decide) (by decide) (by decide)]; exact h0) (by rw [hf.1 12 (by decide) (by decide) (by decide) (by decide)]; exact h1) (by rw [hf.1 12 (by decide) (by decide) (by decide) (by decide)]; exact h2) b0 b1 b2 (by rw [hf.2 14 (by decide)]; exact hN) c) (And.intro (And.intro (Nat.zero_le _) (Nat.zero_le _)) (fun zq h' hpo => ?_)))
          obtain ⟨b, rfl⟩ := x_PR_z hpo
          exact jn b _ hpo
        · have c : F 10 7 = 23 := c
          rw [e23] at c
          refine Exists.intro _ (And.intro (c_readEnd_12_39 (N := N) hT hI hS c) (And.intro (And.intro (Nat.zero_le _) (Nat.zero_le _)) (fun zq h' hpo => ?_)))
          obtain ⟨b, rfl⟩ := x_PR_z hpo
          exact jn b _ hpo
  refine x_Ct_w (by decide) (Nat.le_of_ble_eq_true rfl) ok60 [4] 6 ?_
  exact loop j0 S q 0 f g hI hS hq hj (Nat.zero_le _) x_fR_r hX0.symm
theorem c_reignsU_12_39 {k : Nat} {x : Int32} (hk : f 0 5 = nI k) (hk9 : k ≤ 900) (hb : ∀ j, j < k → y_byt (f 11 j)) (h0 : f 12 0 = nI (v 0 0 0)) (h1 : f 12 1 = nI (v 1 0 0)) (h2 : f 12 2 = nI (v 2 0 0)) (b0 : v 0 0 0 ≤ 4) (b1 : v 1 0 0 ≤ 5) (b2 : v 2 0 0 ≤ 5) (hN : y_NR (g 14) v N) (h600 : 600 ∉ dm) (h610 : 610 ∉ dm) (h611 : 611 ∉ dm) (hr : ∀ t, t = 32 ∨ t = 39 → ∀ k ∈ dm, ∀ j q, x_HR 12 t k j = some q → x_in1 dm q) : x_Ct 106 (d + 6) [.ref 0, .int x] (f, g, x_HR 12 39, dm, 610) (x_ct (x_QCr 12 39 32 v N f g dm n k x) dm) := by
  obtain ⟨Po, hPo⟩ : ∃ Po : Option Value → xH → Prop, Po = x_ct (x_QCr 12 39 32 v N f g dm n k x) dm := ⟨_, rfl⟩
  rw [← hPo]
  have emin : (if nI 300 < f 0 5 then nI 300 else f 0 5) = nI (min k 300) := by
    rw [hk]
    by_cases h : 300 < k
    · rw [if_pos ((nI_ltI (by decide) (by omega)).mpr h), show min k 300 = 300 by omega]
    · rw [if_neg (fun q => h ((nI_ltI (by decide) (by omega)).mp q)), show min k 300 = k by omega]
  refine x_Ct_w (by decide) (Nat.le_of_ble_eq_true rfl) ok106 [] 6 ?_
  show ∃ P, x_Ct 161 (d + 5) [.int x, .int 0, .int (if nI 300 < f 0 5 then nI 300 else f 0 5)] _ P ∧ _
  rw [emin]
  refine Exists.intro _ (And.intro c_within (And.intro (And.intro (Nat.zero_le _) (Nat.zero_le _)) (fun q h' hpo => ?_)))
  obtain ⟨rfl, rfl⟩ := hpo
  cases hw : x_wi x 0 (nI (min k 300)) with
  | false =>
    refine And.intro (fun c => absurd rfl c) (fun _ => ?_)
    refine Exists.intro _ (And.intro (c_refuse (w := 1)) (And.intro (And.intro (Nat.zero_le _) (Nat.zero_le _)) (fun q h' hpo => ?_)))
    obtain ⟨rfl, rfl⟩ := hpo
    refine And.intro ?_ ⟨trivial, Nat.le_of_ble_eq_true rfl, Nat.le_of_ble_eq_true rfl⟩
    rw [hPo]
    have hq : x_QCr 12 39 32 v N f g dm n k x (some (.int (-1))) (x_up f 0 0 1, g, x_HR 12 39, dm, n) := by
      unfold x_QCr
      rw [hw]
      exact ⟨rfl, rfl⟩
    have e := x_ct_i (P := x_QCr 12 39 32 v N f g dm n k x) (l := []) (ρ := x_HR 12 39) (ρ2 := x_HR 12 39) (n := 610) hq (fun _ _ => rfl) (hr 39 (by decide))
    rw [List.append_nil] at e
    exact e
  | true =>
    obtain ⟨j, -, hj, rfl⟩ := x_wi_t (lo := 0) (hi := min k 300) hw (by omega) (Nat.zero_le _)
    have hc : x_c (nI j) = j := nI_clamp (by omega)
    obtain ⟨a, ha⟩ : ∃ a, a = f 11 := ⟨_, rfl⟩
    have hT : y_TP a j := ⟨by omega, fun i hi => by rw [ha]; exact hb i (by omega)⟩
    have hq := (y_skip_sp a (Nat.zero_le j)).2
    refine And.intro (fun _ => ?_) (fun c => absurd (show (1 : Int32) = 0 from c) (by decide))
    refine Exists.intro _ (And.intro (c_open (k := j) (by omega) (fun i hi => hb i (by omega))) (And.intro (And.intro (Nat.zero_le _) (Nat.zero_le _)) (fun zq h' hpo => ?_)))
    obtain ⟨rfl, F1, G1, rfl, u1, u2⟩ := hpo
    rw [← ha] at u2
    refine Exists.intro _ (And.intro c_clearS_32 (And.intro (And.intro (Nat.zero_le _) (Nat.zero_le _)) (fun q h' hpo => ?_)))
    obtain ⟨rfl, rfl⟩ := hpo
    obtain ⟨F2, hF2⟩ : ∃ F2, F2 = x_up (x_up (x_up F1 32 0 0) 32 1 0) 32 2 0 := ⟨_, rfl⟩
    refine And.intro ⟨rfl, h610, show (610 : Nat) < 1000 by decide⟩ ?_
    refine And.intro ⟨show 0 + 1 ≤ x_mc 106 by decide, show 0 + 5 ≤ x_ms 106 by decide⟩ ?_
    have n611 : 611 ∉ dm ++ [610] := by
      intro h
      rcases List.mem_append.mp h with h | h
      · exact h611 h
      · exact absurd (List.mem_singleton.mp h) (by decide)
    show ∃ P, x_Ct 59 (d + 5) [.ref 610, .ref 10, .ref 12, .ref 32] (va_up (x_up (x_up (x_up F1 32 0 0) 32 1 0) 32 2 0) 610 (fun _ => 0), va_up G1 610 (fun _ => 0), va_up (x_HR 12 39) 610 (fun _ => none), dm ++ [610], 611) P ∧ _
    rw [← hF2]
    refine Exists.intro _ (And.intro (c_initR_12_39 (f := va_up F2 610 (fun _ => 0)) (g := va_up G1 610 (fun _ => 0)) (dm := dm ++ [610]) n611) (And.intro (And.intro (Nat.le_of_ble_eq_true rfl) (Nat.le_of_ble_eq_true rfl)) (fun zq h' hpo => ?_)))
    obtain ⟨rfl, rfl⟩ := hpo
    obtain ⟨F3, hF3⟩ : ∃ F3 : Nat → Nat → Int32, F3 = va_up (va_up F2 610 (fun _ => 0)) 611 (fun _ => 0) := ⟨_, rfl⟩
    obtain ⟨G3, hG3⟩ : ∃ G3 : Nat → Nat → Int64, G3 = va_up (va_up G1 610 (fun _ => 0)) 611 (fun _ => 0) := ⟨_, rfl⟩
    have f3 : ∀ c, c < 600 → F3 c = F2 c := fun c hc => by rw [hF3, x_un (by omega), x_un (by omega)]
    have g3 : ∀ c, c < 600 → G3 c = G1 c := fun c hc => by rw [hG3, x_un (by omega), x_un (by omega)]
    have f2 : ∀ c, c ≠ 32 → F2 c = F1 c := fun c hc => by rw [hF2, x_up_k hc, x_up_k hc, x_up_k hc]
    have hS : x_RS 32 a j y_Tr0 (y_skip a j 0) F3 G3 := by
      refine ⟨⟨?_, ?_⟩, ?_, ?_, ?_, fun i hi => absurd hi (Nat.not_lt_zero _), fun i hi => absurd hi (Nat.not_lt_zero _)⟩
      · rw [f3 11 (by decide), f2 11 (by decide)]
        exact u2.1
      · rw [f3 10 (by decide), f2 10 (by decide), g3 10 (by decide)]
        exact u2.2
      · rw [f3 _ (by decide), hF2]
        rfl
      · rw [f3 _ (by decide), hF2]
        rfl
      · rw [hF3, x_un (by decide), x_us]
        rfl
    show ∃ P, x_Ct 60 (d + 5) [.ref 610] (va_up (va_up F2 610 (fun _ => 0)) 611 (fun _ => 0), va_up (va_up G1 610 (fun _ => 0)) 611 (fun _ => 0), x_HR 12 39, dm ++ [610] ++ [611], 612) P ∧ _
    rw [← hF3, ← hG3]
    have fL : F3 12 = f 12 := by rw [f3 _ (by decide), f2 _ (by decide), u1.1 _ (by decide)]
    have gL : G3 14 = g 14 := by rw [g3 _ (by decide), u1.2 _ (by decide)]
    refine Exists.intro _ (And.intro (c_isTakenR_12_39 (v := v) (N := N) (j0 := j) hT (y_RI_0 _ _ _) hS (by rw [fL]; exact h0) (by rw [fL]; exact h1) (by rw [fL]; exact h2) b0 b1 b2 (by rw [gL]; exact hN) hq (Nat.sub_le _ _)) (And.intro (And.intro (Nat.le_of_ble_eq_true rfl) (Nat.le_of_ble_eq_true rfl)) (fun zq h' hpo => ?_)))
    have fr : ∀ F4 G4, x_fR 32 F3 G3 F4 G4 → (∀ c, c ≠ 10 → c < 600 → ¬ (32 ≤ c ∧ c ≤ 32 + 6) → F4 c = f c) ∧ ∀ c, c ≠ 10 → c < 600 → G4 c = g c := by
      intro F4 G4 h
      refine ⟨fun c c1 c2 c3 => ?_, fun c c1 c2 => ?_⟩
      · rw [h.1 c c1 (by omega) (by omega) c3, f3 c c2, f2 c (by omega), u1.1 c c1]
      · rw [h.2 c c1, g3 c c2, u1.2 c c1]
    have hρ : ∀ k ∈ dm, x_HR 12 32 k = x_up (x_up (x_HR 12 39) 0 10 (some 32)) 0 11 (some 39) k := fun k hk => (x_HR_ss (r := 12) (t := 39) (T := 32) rfl rfl (fun e => h600 (e ▸ hk)) (fun e => h610 (e ▸ hk))).symm
    have hX : y_reigns (f 11) N (v 2 0 0) (v 0 0 0) (v 1 0 0) (x_c (nI j)) = y_rns a j N (v 2 0 0) (v 0 0 0) (v 1 0 0) j y_Tr0 (y_skip a j 0) := by
      rw [hc, ← ha]
      rfl
    cases e1 : y_rns a j N (v 2 0 0) (v 0 0 0) (v 1 0 0) j y_Tr0 (y_skip a j 0) with
    | inl e =>
      rw [e1] at hpo
      obtain ⟨rfl, F4, G4, rfl, o1, o2⟩ := hpo
      obtain ⟨fr1, fr2⟩ := fr F4 G4 o1
      refine Exists.intro _ (And.intro (c_endText (b := false)) (And.intro (And.intro (Nat.le_of_ble_eq_true rfl) (Nat.le_of_ble_eq_true rfl)) (fun zq h' hpo => ?_)))
      obtain ⟨rfl, rfl⟩ := hpo
      refine And.intro (fun c => absurd rfl c) (fun _ => ?_)
      refine Exists.intro _ (And.intro (c_refuse (w := 9)) (And.intro (And.intro (Nat.le_of_ble_eq_true rfl) (Nat.le_of_ble_eq_true rfl)) (fun zq h' hpo => ?_)))
      obtain ⟨rfl, rfl⟩ := hpo
      refine And.intro ?_ ⟨trivial, Nat.le_of_ble_eq_true rfl, Nat.le_of_ble_eq_true rfl⟩
      rw [hPo]
      show x_ct (x_QCr 12 39 32 v N f g dm n k (nI j)) dm (some (.int (-1))) (x_up (x_up (x_up (x_up F4 0 5 0) 0 6 (F4 10 10)) 0 7 (F4 10 11)) 0 0 9, G4, x_HR 12 39, dm ++ [610] ++ [611], 612)
      rw [List.append_assoc]
      refine x_ct_i (ρ2 := x_HR 12 39) (n2 := n) ?_ (fun _ _ => rfl) (hr 39 (by decide))
      unfold x_QCr
      rw [hw, hX, e1]
      refine ⟨rfl, _, G4, rfl, ⟨fun i i0 i5 i6 i7 => ?_, fun c c0 c1 c3 c4 => ?_, fr2⟩, rfl, rfl, o2.1, o2.2⟩
      · rw [x_up_j i0, x_up_j i7, x_up_j i6, x_up_j i5, fr1 0 (by decide) (by decide) (by decide)]
      · rw [x_up_k c0, x_up_k c0, x_up_k c0, x_up_k c0]
        exact fr1 c c1 c3 c4
    | inr S =>
      rw [e1] at hpo
      obtain ⟨rfl, F4, G4, rfl, o1, o2, o3, o4⟩ := hpo
      obtain ⟨fr1, fr2⟩ := fr F4 G4 o1
      refine Exists.intro _ (And.intro (c_endText (b := true)) (And.intro (And.intro (Nat.le_of_ble_eq_true rfl) (Nat.le_of_ble_eq_true rfl)) (fun zq h' hpo => ?_)))
      obtain ⟨rfl, rfl⟩ := hpo
      refine And.intro (fun _ => ?_) (fun c => absurd (show (1 : Int32) = 0 from c) (by decide))
      refine Exists.intro _ (And.intro c_answer (And.intro (And.intro (Nat.le_of_ble_eq_true rfl) (Nat.le_of_ble_eq_true rfl)) (fun zq h' hpo => ?_)))
      obtain ⟨rfl, rfl⟩ := hpo
      refine And.intro ?_ ⟨trivial, Nat.le_of_ble_eq_true rfl, Nat.le_of_ble_eq_true rfl⟩
      rw [hPo]
      show x_ct (x_QCr 12 39 32 v N f g dm n k (nI j)) dm (some (.int (F4 32 1))) (x_up (x_up (x_up (x_up F4 0 5 0) 0 6 0) 0 7 (-1)) 0 0 0, G4, x_up (x_up (x_HR 12 39) 0 10 (some 32)) 0 11 (some 39), dm ++ [610] ++ [611], 612)
      rw [o3, List.append_assoc]
      refine x_ct_i (ρ2 := x_HR 12 32) (n2 := n) ?_ hρ (hr 32 (by decide))
      unfold x_QCr
      rw [hw, hX, e1]
      refine ⟨rfl, _, G4, rfl, ⟨fun i i0 i5 i6 i7 => ?_, fun c c0 c1 c3 c4 => ?_, fr2⟩, ⟨rfl, rfl, rfl, rfl⟩, ?_, x_SC_cg o4 ?_ (fun c c1 c2 => ?_)⟩
      · rw [x_up_j i0, x_up_j i7, x_up_j i6, x_up_j i5, fr1 0 (by decide) (by decide) (by decide)]
      · rw [x_up_k c0, x_up_k c0, x_up_k c0, x_up_k c0]
        exact fr1 c c1 c3 c4
      · rw [x_up_k (by decide), x_up_k (by decide), x_up_k (by decide), x_up_k (by decide)]
        exact o2
      · rw [x_up_k (by decide), x_up_k (by decide), x_up_k (by decide), x_up_k (by decide)]
      · rw [x_up_k (by omega), x_up_k (by omega), x_up_k (by omega), x_up_k (by omega)]
theorem c_reigns_12_39 {k : Nat} {x : Int32} (hk : f 0 5 = nI k) (hk9 : k ≤ 900) (hb : ∀ j, j < k → y_byt (f 11 j)) (h0 : f 12 0 = nI (v 0 0 0)) (h1 : f 12 1 = nI (v 1 0 0)) (h2 : f 12 2 = nI (v 2 0 0)) (b0 : v 0 0 0 ≤ 4) (b1 : v 1 0 0 ≤ 5) (b2 : v 2 0 0 ≤ 5) (hN : y_NR (g 14) v N) (h600 : 600 ∉ dm) (h610 : 610 ∉ dm) (h611 : 611 ∉ dm) (hr : ∀ t, t = 32 ∨ t = 39 → ∀ k ∈ dm, ∀ j q, x_HR 12 t k j = some q → x_in1 dm q) : x_Ct 106 (d + 6) [.ref 0, .int x] (f, g, x_HR 12 39, dm, n) (x_QCr 12 39 32 v N f g dm n k x) := x_Ct_cut (h := (f, g, x_HR 12 39, dm, 610)) (c_reignsU_12_39 hk hk9 hb h0 h1 h2 b0 b1 b2 hN h600 h610 h611 hr) (fun _ _ h => h)
theorem c_initR_22_32 (h611 : 611 ∉ dm) : x_Ct 59 (d + 1) [.ref 610, .ref 10, .ref 22, .ref 39] (f, g, va_up (x_HR 22 32) 610 (fun _ => none), dm, 611) (fun z h' => z = none ∧ h' = (va_up f 611 (fun _ => 0), va_up g 611 (fun _ => 0), x_HR 22 32, dm ++ [611], 612)) := by
  refine x_Ct_w (by decide) (Nat.le_of_ble_eq_true rfl) ok59 [] 6 ?_
  refine And.intro ⟨by decide, rfl, h611, show (611 : Nat) < 1000 by decide, by decide⟩ ?_
  refine And.intro ⟨show 0 + 1 ≤ x_mc 59 by decide, show 0 + 3 ≤ x_ms 59 by decide⟩ ?_
  refine And.intro ?_ ⟨trivial, by decide, by decide⟩
  refine ⟨rfl, ?_⟩
  have e : x_up (x_up (x_up (x_up (va_up (va_up (x_HR 22 32) 610 (fun _ => none)) 611 (fun _ => none)) 610 3 (some 611)) 610 0 (some 10)) 610 1 (some 22)) 610 2 (some 39) = x_HR 22 32 := by
    rw [va_up_sw (by decide), x_HR_611]
    exact x_HR_610 rfl
  show (va_up f 611 (fun _ => 0), va_up g 611 (fun _ => 0), x_up (x_up (x_up (x_up (va_up (va_up (x_HR 22 32) 610 (fun _ => none)) 611 (fun _ => none)) 610 3 (some 611)) 610 0 (some 10)) 610 1 (some 22)) 610 2 (some 39), dm ++ [611], 612) = _
  rw [e]
theorem c_isTakenR_22_32 {j0 : Nat} (hT : y_TP a m) (hI : y_RI (v 2 0 0) (v 0 0 0) (v 1 0 0) S) (hS : x_RS 39 a m S q f g) (h0 : f 22 0 = nI (v 0 0 0)) (h1 : f 22 1 = nI (v 1 0 0)) (h2 : f 22 2 = nI (v 2 0 0)) (b0 : v 0 0 0 ≤ 4) (b1 : v 1 0 0 ≤ 5) (b2 : v 2 0 0 ≤ 5) (hN : y_NR (g 24) v N) (hq : q ≤ m) (hj : m - q ≤ j0) : x_Ct 60 (d + 5) [.ref 610] (f, g, x_HR 22 32, dm, n) (x_PRe 39 f g (x_HR 22 32) dm n (y_rns a m N (v 2 0 0) (v 0 0 0) (v 1 0 0) j0 S q)) := by
  obtain ⟨X0, hX0⟩ : ∃ X0, X0 = y_rns a m N (v 2 0 0) (v 0 0 0) (v 1 0 0) j0 S q := ⟨_, rfl⟩
  rw [← hX0]
  obtain ⟨Po, hPo⟩ : ∃ Po : Option Value → xH → Prop, Po = x_PRe 39 f g (x_HR 22 32) dm n X0 := ⟨_, rfl⟩
  rw [← hPo]
  have tl0 : ∀ F G (e : Nat × Nat) x, X0 = .inl e → x_FL F e → x_fR 39 f g F G → x_J 60 (d + 5) Po 76 [some (.ref 610), some (.int 0), some (.int x)] [] (F, G, x_HR 22 32, dm, n) 0 0 := by
    intro F G e x hX he hf
    refine x_wp_ok ok60 [] 6 ?_
    refine And.intro (Or.inl rfl) ?_
    refine And.intro ?_ ⟨Or.inl rfl, Nat.le_refl _, Nat.le_refl _⟩
    rw [hPo, hX]
    exact ⟨rfl, _, G, rfl, x_fR_t hf (x_fR_up (Or.inr (Or.inr (by decide)))), he⟩
  have bad56 : ∀ F G (e : Nat × Nat) x, X0 = .inl e → x_FL F e → x_fR 39 f g F G → x_J 60 (d + 5) Po 56 [some (.ref 610), some (.int 0), some (.int x)] [] (F, G, x_HR 22 32, dm, n) 0 0 := by
    intro F G e x hX he hf
    refine x_wp_ok ok60 [76] 6 ?_
    refine And.intro (fun _ => ?_) (fun c => absurd rfl c)
    exact tl0 F G e x hX he hf
  have end56 : ∀ F G (S : xTr) q x, X0 = (if 0 < S.2.2.2.1 then .inl (y_fl a m q 2) else .inr S) → x_RS 39 a m S q F G → S.2.2.2.1 ≤ 3 → x_fR 39 f g F G → x_J 60 (d + 5) Po 56 [some (.ref 610), some (.int 1), some (.int x)] [] (F, G, x_HR 22 32, dm, n) 0 0 := by
    intro F G S q x hX hS hd3 hf
    have e4 : F 610 4 = nI S.2.2.2.1 := hS.2.2.2.1
    refine x_wp_ok ok60 [76] 6 ?_
    refine And.intro (fun c => absurd (show (1 : Int32) = 0 from c) (by decide)) (fun _ => ?_)
    by_cases hd : 0 < S.2.2.2.1
    · rw [if_pos hd] at hX
      refine And.intro (fun c => absurd (show F 610 4 ≤ 0 from c) (by rw [e4]; exact nI_nle hd (by omega))) (fun _ => ?_)
      refine Exists.intro _ (And.intro (c_fail (k := 2) hS.1) (And.intro (And.intro (Nat.zero_le _) (Nat.zero_le _)) (fun zq h' hpo => ?_)))
      obtain ⟨rfl, F1, rfl, u1, u2⟩ := hpo
      exact tl0 F1 G _ x hX u2 (x_fR_t hf (x_fR_10 u1))
    · rw [if_neg hd] at hX
      have hd0 : S.2.2.2.1 = 0 := by omega
      refine And.intro (fun _ => ?_) (fun c => absurd (show F 610 4 ≤ 0 by rw [e4, hd0]; decide) c)
      refine x_wp_ok ok60 [] 6 ?_
      refine And.intro (Or.inr rfl) ?_
      refine And.intro ?_ ⟨Or.inr rfl, Nat.le_refl _, Nat.le_refl _⟩
      rw [hPo, hX]
      refine ⟨rfl, _, G, rfl, x_fR_t hf (x_fR_up (Or.inr (Or.inr (by decide)))), x_up_s _ _ _ _, ?_, x_SC_cg (x_RS_SC hS hd0) (x_up_j (by decide)) (fun c c1 c2 => x_up_k (by omega))⟩
      rw [x_up_j (by decide)]
      exact hS.2.1
  have loop : ∀ j (S : xTr) q i F G, y_RI (v 2 0 0) (v 0 0 0) (v 1 0 0) S → x_RS 39 a m S q F G → q ≤ m → m - q ≤ j → i ≤ q → x_fR 39 f g F G → y_rns a m N (v 2 0 0) (v 0 0 0) (v 1 0 0) j S q = X0 → x_J 60 (d + 5) Po 4 [some (.ref 610), some (.int 1), some (.int (nI i))] [] (F, G, x_HR 22 32, dm, n) 0 0 := by
    intro j
    induction j with
    | zero =>
      intro S q i F G hI hS hq hj hi hf hX
      have h3 : y_sa a m q = 3 := if_neg (by omega)
      rw [y_rns_3 h3] at hX
      refine x_wp_ok ok60 [4, 56] 6 ?_
      refine And.intro (fun _ => end56 F G S q _ hX.symm hS hI.2.2.1 hf) (fun _ => ?_)
      refine And.intro (fun c => absurd (show (1 : Int32) = 0 from c) (by decide)) (fun _ => ?_)
      refine And.intro (fun _ => end56 F G S q _ hX.symm hS hI.2.2.1 hf) (fun c => absurd (show F 10 4 = 3 by rw [hS.1.2.2.2.1, y_tk_3]; exact h3) c)
    | succ j ih =>
      intro S q i F G hI hS hq hj hi hf hX
      by_cases h3 : y_sa a m q = 3
      · rw [y_rns_3 h3] at hX
        refine x_wp_ok ok60 [4, 56] 6 ?_
        refine And.intro (fun _ => end56 F G S q _ hX.symm hS hI.2.2.1 hf) (fun _ => ?_)
        refine And.intro (fun c => absurd (show (1 : Int32) = 0 from c) (by decide)) (fun _ => ?_)
        refine And.intro (fun _ => end56 F G S q _ hX.symm hS hI.2.2.1 hf) (fun c => absurd (show F 10 4 = 3 by rw [hS.1.2.2.2.1, y_tk_3]; exact h3) c)
      · rw [y_rns_S h3] at hX
        have hlt := y_sa_lt h3
        have hm9 := hT.1
        have jn : ∀ (b : Int32) h', x_PR 39 a m F G (x_HR 22 32) dm n (y_rst a m N (v 2 0 0) (v 0 0 0) (v 1 0 0) S q) (some (.int b)) h' → x_J 60 (d + 5) Po 49 [some (.ref 610), some (.int 1), some (.int (nI i))] [.int b] h' 0 0 := by
          intro b h' hp
          cases hY : y_rst a m N (v 2 0 0) (v 0 0 0) (v 1 0 0) S q with
          | inl e =>
            rw [hY] at hp hX
            obtain ⟨hb, F2, G2, rfl, w1, w2⟩ := hp
            cases hb
            refine x_wp_ok ok60 [56] 6 ?_
            refine And.intro (fun _ => bad56 F2 G2 e _ hX.symm w2 (x_fR_t hf w1)) (fun _ => ?_)
            exact And.intro (fun _ => bad56 F2 G2 e _ hX.symm w2 (x_fR_t hf w1)) (fun c => absurd rfl c)
          | inr w =>
            have k1 := y_rst_ok hI hY
            rw [hY] at hp hX
            obtain ⟨hb, F2, G2, rfl, w1, w2⟩ := hp
            cases hb
            have e0 := ih w.1 w.2 (i + 1) F2 G2 k1.1 w2 k1.2.2 (by omega) (by omega) (x_fR_t hf w1) hX
            rw [← nI_1o] at e0
            refine x_wp_ok ok60 [4] 6 ?_
            exact e0
        refine x_wp_ok ok60 [4, 49, 56] 6 ?_
        refine And.intro (fun c => absurd (show nI 900 ≤ nI i from c) (nI_ge (by omega) (by decide))) (fun _ => ?_)
        refine And.intro (fun c => absurd (show (1 : Int32) = 0 from c) (by decide)) (fun _ => ?_)
        refine And.intro (fun c => absurd (show F 10 4 = 3 from c) (by rw [hS.1.2.2.2.1, y_tk_3]; exact h3)) (fun _ => ?_)
        have hx : F 10 7 = y_tr (y_wm a m q) := hS.1.2.2.2.2.1
        have e23 : F 10 7 = 23 ↔ y_wm a m q = 20 := by
          rw [hx]
          exact y_tr_eq a m q (w := 20) (by decide)
        refine And.intro (fun c => ?_) (fun c => ?_)
        · have c : ¬ F 10 7 = 23 := c
          rw [e23] at c
          refine Exists.intro _ (And.intro (c_readStep_22_32 (v := v) (N := N) hT hI hS (by rw [hf.1 22 (by decide) (by decide) (by decide) (by decide)]; exact h0) (by rw [hf.1 22 (by decide) (by decide) (by decide) (by decide)]; exact h1) (by rw [hf.1 22 (by decide) (by decide) (by decide) (by decide)]; exact h2) b0 b1 b2 (by rw [hf.2 24 (by decide)]; exact hN) c) (And.intro (And.intro (Nat.zero_le _) (Nat.zero_le _)) (fun zq h' hpo => ?_)))
          obtain ⟨b, rfl⟩ := x_PR_z hpo
          exact jn b _ hpo
        · have c : F 10 7 = 23 := c
          rw [e23] at c
          refine Exists.intro _ (And.intro (c_readEnd_22_32 (N := N) hT hI hS c) (And.intro (And.intro (Nat.zero_le _) (Nat.zero_le _)) (fun zq h' hpo => ?_)))
          obtain ⟨b, rfl⟩ := x_PR_z hpo
          exact jn b _ hpo
  refine x_Ct_w (by decide) (Nat.le_of_ble_eq_true rfl) ok60 [4] 6 ?_
  exact loop j0 S q 0 f g hI hS hq hj (Nat.zero_le _) x_fR_r hX0.symm
theorem c_reignsU_22_32 {k : Nat} {x : Int32} (hk : f 0 5 = nI k) (hk9 : k ≤ 900) (hb : ∀ j, j < k → y_byt (f 11 j)) (h0 : f 22 0 = nI (v 0 0 0)) (h1 : f 22 1 = nI (v 1 0 0)) (h2 : f 22 2 = nI (v 2 0 0)) (b0 : v 0 0 0 ≤ 4) (b1 : v 1 0 0 ≤ 5) (b2 : v 2 0 0 ≤ 5) (hN : y_NR (g 24) v N) (h600 : 600 ∉ dm) (h610 : 610 ∉ dm) (h611 : 611 ∉ dm) (hr : ∀ t, t = 32 ∨ t = 39 → ∀ k ∈ dm, ∀ j q, x_HR 22 t k j = some q → x_in1 dm q) : x_Ct 106 (d + 6) [.ref 0, .int x] (f, g, x_HR 22 32, dm, 610) (x_ct (x_QCr 22 32 39 v N f g dm n k x) dm) := by
  obtain ⟨Po, hPo⟩ : ∃ Po : Option Value → xH → Prop, Po = x_ct (x_QCr 22 32 39 v N f g dm n k x) dm := ⟨_, rfl⟩
  rw [← hPo]
  have emin : (if nI 300 < f 0 5 then nI 300 else f 0 5) = nI (min k 300) := by
    rw [hk]
    by_cases h : 300 < k
    · rw [if_pos ((nI_ltI (by decide) (by omega)).mpr h), show min k 300 = 300 by omega]
    · rw [if_neg (fun q => h ((nI_ltI (by decide) (by omega)).mp q)), show min k 300 = k by omega]
  refine x_Ct_w (by decide) (Nat.le_of_ble_eq_true rfl) ok106 [] 6 ?_
  show ∃ P, x_Ct 161 (d + 5) [.int x, .int 0, .int (if nI 300 < f 0 5 then nI 300 else f 0 5)] _ P ∧ _
  rw [emin]
  refine Exists.intro _ (And.intro c_within (And.intro (And.intro (Nat.zero_le _) (Nat.zero_le _)) (fun q h' hpo => ?_)))
  obtain ⟨rfl, rfl⟩ := hpo
  cases hw : x_wi x 0 (nI (min k 300)) with
  | false =>
    refine And.intro (fun c => absurd rfl c) (fun _ => ?_)
    refine Exists.intro _ (And.intro (c_refuse (w := 1)) (And.intro (And.intro (Nat.zero_le _) (Nat.zero_le _)) (fun q h' hpo => ?_)))
    obtain ⟨rfl, rfl⟩ := hpo
    refine And.intro ?_ ⟨trivial, Nat.le_of_ble_eq_true rfl, Nat.le_of_ble_eq_true rfl⟩
    rw [hPo]
    have hq : x_QCr 22 32 39 v N f g dm n k x (some (.int (-1))) (x_up f 0 0 1, g, x_HR 22 32, dm, n) := by
      unfold x_QCr
      rw [hw]
      exact ⟨rfl, rfl⟩
    have e := x_ct_i (P := x_QCr 22 32 39 v N f g dm n k x) (l := []) (ρ := x_HR 22 32) (ρ2 := x_HR 22 32) (n := 610) hq (fun _ _ => rfl) (hr 32 (by decide))
    rw [List.append_nil] at e
    exact e
  | true =>
    obtain ⟨j, -, hj, rfl⟩ := x_wi_t (lo := 0) (hi := min k 300) hw (by omega) (Nat.zero_le _)
    have hc : x_c (nI j) = j := nI_clamp (by omega)
    obtain ⟨a, ha⟩ : ∃ a, a = f 11 := ⟨_, rfl⟩
    have hT : y_TP a j := ⟨by omega, fun i hi => by rw [ha]; exact hb i (by omega)⟩
    have hq := (y_skip_sp a (Nat.zero_le j)).2
    refine And.intro (fun _ => ?_) (fun c => absurd (show (1 : Int32) = 0 from c) (by decide))
    refine Exists.intro _ (And.intro (c_open (k := j) (by omega) (fun i hi => hb i (by omega))) (And.intro (And.intro (Nat.zero_le _) (Nat.zero_le _)) (fun zq h' hpo => ?_)))
    obtain ⟨rfl, F1, G1, rfl, u1, u2⟩ := hpo
    rw [← ha] at u2
    refine Exists.intro _ (And.intro c_clearS_39 (And.intro (And.intro (Nat.zero_le _) (Nat.zero_le _)) (fun q h' hpo => ?_)))
    obtain ⟨rfl, rfl⟩ := hpo
    obtain ⟨F2, hF2⟩ : ∃ F2, F2 = x_up (x_up (x_up F1 39 0 0) 39 1 0) 39 2 0 := ⟨_, rfl⟩
    refine And.intro ⟨rfl, h610, show (610 : Nat) < 1000 by decide⟩ ?_
    refine And.intro ⟨show 0 + 1 ≤ x_mc 106 by decide, show 0 + 5 ≤ x_ms 106 by decide⟩ ?_
    have n611 : 611 ∉ dm ++ [610] := by
      intro h
      rcases List.mem_append.mp h with h | h
      · exact h611 h
      · exact absurd (List.mem_singleton.mp h) (by decide)
    show ∃ P, x_Ct 59 (d + 5) [.ref 610, .ref 10, .ref 22, .ref 39] (va_up (x_up (x_up (x_up F1 39 0 0) 39 1 0) 39 2 0) 610 (fun _ => 0), va_up G1 610 (fun _ => 0), va_up (x_HR 22 32) 610 (fun _ => none), dm ++ [610], 611) P ∧ _
    rw [← hF2]
    refine Exists.intro _ (And.intro (c_initR_22_32 (f := va_up F2 610 (fun _ => 0)) (g := va_up G1 610 (fun _ => 0)) (dm := dm ++ [610]) n611) (And.intro (And.intro (Nat.le_of_ble_eq_true rfl) (Nat.le_of_ble_eq_true rfl)) (fun zq h' hpo => ?_)))
    obtain ⟨rfl, rfl⟩ := hpo
    obtain ⟨F3, hF3⟩ : ∃ F3 : Nat → Nat → Int32, F3 = va_up (va_up F2 610 (fun _ => 0)) 611 (fun _ => 0) := ⟨_, rfl⟩
    obtain ⟨G3, hG3⟩ : ∃ G3 : Nat → Nat → Int64, G3 = va_up (va_up G1 610 (fun _ => 0)) 611 (fun _ => 0) := ⟨_, rfl⟩
    have f3 : ∀ c, c < 600 → F3 c = F2 c := fun c hc => by rw [hF3, x_un (by omega), x_un (by omega)]
    have g3 : ∀ c, c < 600 → G3 c = G1 c := fun c hc => by rw [hG3, x_un (by omega), x_un (by omega)]
    have f2 : ∀ c, c ≠ 39 → F2 c = F1 c := fun c hc => by rw [hF2, x_up_k hc, x_up_k hc, x_up_k hc]
    have hS : x_RS 39 a j y_Tr0 (y_skip a j 0) F3 G3 := by
      refine ⟨⟨?_, ?_⟩, ?_, ?_, ?_, fun i hi => absurd hi (Nat.not_lt_zero _), fun i hi => absurd hi (Nat.not_lt_zero _)⟩
      · rw [f3 11 (by decide), f2 11 (by decide)]
        exact u2.1
      · rw [f3 10 (by decide), f2 10 (by decide), g3 10 (by decide)]
        exact u2.2
      · rw [f3 _ (by decide), hF2]
        rfl
      · rw [f3 _ (by decide), hF2]
        rfl
      · rw [hF3, x_un (by decide), x_us]
        rfl
    show ∃ P, x_Ct 60 (d + 5) [.ref 610] (va_up (va_up F2 610 (fun _ => 0)) 611 (fun _ => 0), va_up (va_up G1 610 (fun _ => 0)) 611 (fun _ => 0), x_HR 22 32, dm ++ [610] ++ [611], 612) P ∧ _
    rw [← hF3, ← hG3]
    have fL : F3 22 = f 22 := by rw [f3 _ (by decide), f2 _ (by decide), u1.1 _ (by decide)]
    have gL : G3 24 = g 24 := by rw [g3 _ (by decide), u1.2 _ (by decide)]
    refine Exists.intro _ (And.intro (c_isTakenR_22_32 (v := v) (N := N) (j0 := j) hT (y_RI_0 _ _ _) hS (by rw [fL]; exact h0) (by rw [fL]; exact h1) (by rw [fL]; exact h2) b0 b1 b2 (by rw [gL]; exact hN) hq (Nat.sub_le _ _)) (And.intro (And.intro (Nat.le_of_ble_eq_true rfl) (Nat.le_of_ble_eq_true rfl)) (fun zq h' hpo => ?_)))
    have fr : ∀ F4 G4, x_fR 39 F3 G3 F4 G4 → (∀ c, c ≠ 10 → c < 600 → ¬ (39 ≤ c ∧ c ≤ 39 + 6) → F4 c = f c) ∧ ∀ c, c ≠ 10 → c < 600 → G4 c = g c := by
      intro F4 G4 h
      refine ⟨fun c c1 c2 c3 => ?_, fun c c1 c2 => ?_⟩
      · rw [h.1 c c1 (by omega) (by omega) c3, f3 c c2, f2 c (by omega), u1.1 c c1]
      · rw [h.2 c c1, g3 c c2, u1.2 c c1]
    have hρ : ∀ k ∈ dm, x_HR 22 39 k = x_up (x_up (x_HR 22 32) 0 10 (some 39)) 0 11 (some 32) k := fun k hk => (x_HR_ss (r := 22) (t := 32) (T := 39) rfl rfl (fun e => h600 (e ▸ hk)) (fun e => h610 (e ▸ hk))).symm
    have hX : y_reigns (f 11) N (v 2 0 0) (v 0 0 0) (v 1 0 0) (x_c (nI j)) = y_rns a j N (v 2 0 0) (v 0 0 0) (v 1 0 0) j y_Tr0 (y_skip a j 0) := by
      rw [hc, ← ha]
      rfl
    cases e1 : y_rns a j N (v 2 0 0) (v 0 0 0) (v 1 0 0) j y_Tr0 (y_skip a j 0) with
    | inl e =>
      rw [e1] at hpo
      obtain ⟨rfl, F4, G4, rfl, o1, o2⟩ := hpo
      obtain ⟨fr1, fr2⟩ := fr F4 G4 o1
      refine Exists.intro _ (And.intro (c_endText (b := false)) (And.intro (And.intro (Nat.le_of_ble_eq_true rfl) (Nat.le_of_ble_eq_true rfl)) (fun zq h' hpo => ?_)))
      obtain ⟨rfl, rfl⟩ := hpo
      refine And.intro (fun c => absurd rfl c) (fun _ => ?_)
      refine Exists.intro _ (And.intro (c_refuse (w := 9)) (And.intro (And.intro (Nat.le_of_ble_eq_true rfl) (Nat.le_of_ble_eq_true rfl)) (fun zq h' hpo => ?_)))
      obtain ⟨rfl, rfl⟩ := hpo
      refine And.intro ?_ ⟨trivial, Nat.le_of_ble_eq_true rfl, Nat.le_of_ble_eq_true rfl⟩
      rw [hPo]
      show x_ct (x_QCr 22 32 39 v N f g dm n k (nI j)) dm (some (.int (-1))) (x_up (x_up (x_up (x_up F4 0 5 0) 0 6 (F4 10 10)) 0 7 (F4 10 11)) 0 0 9, G4, x_HR 22 32, dm ++ [610] ++ [611], 612)
      rw [List.append_assoc]
      refine x_ct_i (ρ2 := x_HR 22 32) (n2 := n) ?_ (fun _ _ => rfl) (hr 32 (by decide))
      unfold x_QCr
      rw [hw, hX, e1]
      refine ⟨rfl, _, G4, rfl, ⟨fun i i0 i5 i6 i7 => ?_, fun c c0 c1 c3 c4 => ?_, fr2⟩, rfl, rfl, o2.1, o2.2⟩
      · rw [x_up_j i0, x_up_j i7, x_up_j i6, x_up_j i5, fr1 0 (by decide) (by decide) (by decide)]
      · rw [x_up_k c0, x_up_k c0, x_up_k c0, x_up_k c0]
        exact fr1 c c1 c3 c4
    | inr S =>
      rw [e1] at hpo
      obtain ⟨rfl, F4, G4, rfl, o1, o2, o3, o4⟩ := hpo
      obtain ⟨fr1, fr2⟩ := fr F4 G4 o1
      refine Exists.intro _ (And.intro (c_endText (b := true)) (And.intro (And.intro (Nat.le_of_ble_eq_true rfl) (Nat.le_of_ble_eq_true rfl)) (fun zq h' hpo => ?_)))
      obtain ⟨rfl, rfl⟩ := hpo
      refine And.intro (fun _ => ?_) (fun c => absurd (show (1 : Int32) = 0 from c) (by decide))
      refine Exists.intro _ (And.intro c_answer (And.intro (And.intro (Nat.le_of_ble_eq_true rfl) (Nat.le_of_ble_eq_true rfl)) (fun zq h' hpo => ?_)))
      obtain ⟨rfl, rfl⟩ := hpo
      refine And.intro ?_ ⟨trivial, Nat.le_of_ble_eq_true rfl, Nat.le_of_ble_eq_true rfl⟩
      rw [hPo]
      show x_ct (x_QCr 22 32 39 v N f g dm n k (nI j)) dm (some (.int (F4 39 1))) (x_up (x_up (x_up (x_up F4 0 5 0) 0 6 0) 0 7 (-1)) 0 0 0, G4, x_up (x_up (x_HR 22 32) 0 10 (some 39)) 0 11 (some 32), dm ++ [610] ++ [611], 612)
      rw [o3, List.append_assoc]
      refine x_ct_i (ρ2 := x_HR 22 39) (n2 := n) ?_ hρ (hr 39 (by decide))
      unfold x_QCr
      rw [hw, hX, e1]
      refine ⟨rfl, _, G4, rfl, ⟨fun i i0 i5 i6 i7 => ?_, fun c c0 c1 c3 c4 => ?_, fr2⟩, ⟨rfl, rfl, rfl, rfl⟩, ?_, x_SC_cg o4 ?_ (fun c c1 c2 => ?_)⟩
      · rw [x_up_j i0, x_up_j i7, x_up_j i6, x_up_j i5, fr1 0 (by decide) (by decide) (by decide)]
      · rw [x_up_k c0, x_up_k c0, x_up_k c0, x_up_k c0]
        exact fr1 c c1 c3 c4
      · rw [x_up_k (by decide), x_up_k (by decide), x_up_k (by decide), x_up_k (by decide)]
        exact o2
      · rw [x_up_k (by decide), x_up_k (by decide), x_up_k (by decide), x_up_k (by decide)]
      · rw [x_up_k (by omega), x_up_k (by omega), x_up_k (by omega), x_up_k (by omega)]
theorem c_reigns_22_32 {k : Nat} {x : Int32} (hk : f 0 5 = nI k) (hk9 : k ≤ 900) (hb : ∀ j, j < k → y_byt (f 11 j)) (h0 : f 22 0 = nI (v 0 0 0)) (h1 : f 22 1 = nI (v 1 0 0)) (h2 : f 22 2 = nI (v 2 0 0)) (b0 : v 0 0 0 ≤ 4) (b1 : v 1 0 0 ≤ 5) (b2 : v 2 0 0 ≤ 5) (hN : y_NR (g 24) v N) (h600 : 600 ∉ dm) (h610 : 610 ∉ dm) (h611 : 611 ∉ dm) (hr : ∀ t, t = 32 ∨ t = 39 → ∀ k ∈ dm, ∀ j q, x_HR 22 t k j = some q → x_in1 dm q) : x_Ct 106 (d + 6) [.ref 0, .int x] (f, g, x_HR 22 32, dm, n) (x_QCr 22 32 39 v N f g dm n k x) := x_Ct_cut (h := (f, g, x_HR 22 32, dm, 610)) (c_reignsU_22_32 hk hk9 hb h0 h1 h2 b0 b1 b2 hN h600 h610 h611 hr) (fun _ _ h => h)
theorem c_initR_22_39 (h611 : 611 ∉ dm) : x_Ct 59 (d + 1) [.ref 610, .ref 10, .ref 22, .ref 32] (f, g, va_up (x_HR 22 39) 610 (fun _ => none), dm, 611) (fun z h' => z = none ∧ h' = (va_up f 611 (fun _ => 0), va_up g 611 (fun _ => 0), x_HR 22 39, dm ++ [611], 612)) := by
  refine x_Ct_w (by decide) (Nat.le_of_ble_eq_true rfl) ok59 [] 6 ?_
  refine And.intro ⟨by decide, rfl, h611, show (611 : Nat) < 1000 by decide, by decide⟩ ?_
  refine And.intro ⟨show 0 + 1 ≤ x_mc 59 by decide, show 0 + 3 ≤ x_ms 59 by decide⟩ ?_
  refine And.intro ?_ ⟨trivial, by decide, by decide⟩
  refine ⟨rfl, ?_⟩
  have e : x_up (x_up (x_up (x_up (va_up (va_up (x_HR 22 39) 610 (fun _ => none)) 611 (fun _ => none)) 610 3 (some 611)) 610 0 (some 10)) 610 1 (some 22)) 610 2 (some 32) = x_HR 22 39 := by
    rw [va_up_sw (by decide), x_HR_611]
    exact x_HR_610 rfl
  show (va_up f 611 (fun _ => 0), va_up g 611 (fun _ => 0), x_up (x_up (x_up (x_up (va_up (va_up (x_HR 22 39) 610 (fun _ => none)) 611 (fun _ => none)) 610 3 (some 611)) 610 0 (some 10)) 610 1 (some 22)) 610 2 (some 32), dm ++ [611], 612) = _
  rw [e]
theorem c_isTakenR_22_39 {j0 : Nat} (hT : y_TP a m) (hI : y_RI (v 2 0 0) (v 0 0 0) (v 1 0 0) S) (hS : x_RS 32 a m S q f g) (h0 : f 22 0 = nI (v 0 0 0)) (h1 : f 22 1 = nI (v 1 0 0)) (h2 : f 22 2 = nI (v 2 0 0)) (b0 : v 0 0 0 ≤ 4) (b1 : v 1 0 0 ≤ 5) (b2 : v 2 0 0 ≤ 5) (hN : y_NR (g 24) v N) (hq : q ≤ m) (hj : m - q ≤ j0) : x_Ct 60 (d + 5) [.ref 610] (f, g, x_HR 22 39, dm, n) (x_PRe 32 f g (x_HR 22 39) dm n (y_rns a m N (v 2 0 0) (v 0 0 0) (v 1 0 0) j0 S q)) := by
  obtain ⟨X0, hX0⟩ : ∃ X0, X0 = y_rns a m N (v 2 0 0) (v 0 0 0) (v 1 0 0) j0 S q := ⟨_, rfl⟩
  rw [← hX0]
  obtain ⟨Po, hPo⟩ : ∃ Po : Option Value → xH → Prop, Po = x_PRe 32 f g (x_HR 22 39) dm n X0 := ⟨_, rfl⟩
  rw [← hPo]
  have tl0 : ∀ F G (e : Nat × Nat) x, X0 = .inl e → x_FL F e → x_fR 32 f g F G → x_J 60 (d + 5) Po 76 [some (.ref 610), some (.int 0), some (.int x)] [] (F, G, x_HR 22 39, dm, n) 0 0 := by
    intro F G e x hX he hf
    refine x_wp_ok ok60 [] 6 ?_
    refine And.intro (Or.inl rfl) ?_
    refine And.intro ?_ ⟨Or.inl rfl, Nat.le_refl _, Nat.le_refl _⟩
    rw [hPo, hX]
    exact ⟨rfl, _, G, rfl, x_fR_t hf (x_fR_up (Or.inr (Or.inr (by decide)))), he⟩
  have bad56 : ∀ F G (e : Nat × Nat) x, X0 = .inl e → x_FL F e → x_fR 32 f g F G → x_J 60 (d + 5) Po 56 [some (.ref 610), some (.int 0), some (.int x)] [] (F, G, x_HR 22 39, dm, n) 0 0 := by
    intro F G e x hX he hf
    refine x_wp_ok ok60 [76] 6 ?_
    refine And.intro (fun _ => ?_) (fun c => absurd rfl c)
    exact tl0 F G e x hX he hf
  have end56 : ∀ F G (S : xTr) q x, X0 = (if 0 < S.2.2.2.1 then .inl (y_fl a m q 2) else .inr S) → x_RS 32 a m S q F G → S.2.2.2.1 ≤ 3 → x_fR 32 f g F G → x_J 60 (d + 5) Po 56 [some (.ref 610), some (.int 1), some (.int x)] [] (F, G, x_HR 22 39, dm, n) 0 0 := by
    intro F G S q x hX hS hd3 hf
    have e4 : F 610 4 = nI S.2.2.2.1 := hS.2.2.2.1
    refine x_wp_ok ok60 [76] 6 ?_
    refine And.intro (fun c => absurd (show (1 : Int32) = 0 from c) (by decide)) (fun _ => ?_)
    by_cases hd : 0 < S.2.2.2.1
    · rw [if_pos hd] at hX
      refine And.intro (fun c => absurd (show F 610 4 ≤ 0 from c) (by rw [e4]; exact nI_nle hd (by omega))) (fun _ => ?_)
      refine Exists.intro _ (And.intro (c_fail (k := 2) hS.1) (And.intro (And.intro (Nat.zero_le _) (Nat.zero_le _)) (fun zq h' hpo => ?_)))
      obtain ⟨rfl, F1, rfl, u1, u2⟩ := hpo
      exact tl0 F1 G _ x hX u2 (x_fR_t hf (x_fR_10 u1))
    · rw [if_neg hd] at hX
      have hd0 : S.2.2.2.1 = 0 := by omega
      refine And.intro (fun _ => ?_) (fun c => absurd (show F 610 4 ≤ 0 by rw [e4, hd0]; decide) c)
      refine x_wp_ok ok60 [] 6 ?_
      refine And.intro (Or.inr rfl) ?_
      refine And.intro ?_ ⟨Or.inr rfl, Nat.le_refl _, Nat.le_refl _⟩
      rw [hPo, hX]
      refine ⟨rfl, _, G, rfl, x_fR_t hf (x_fR_up (Or.inr (Or.inr (by decide)))), x_up_s _ _ _ _, ?_, x_SC_cg (x_RS_SC hS hd0) (x_up_j (by decide)) (fun c c1 c2 => x_up_k (by omega))⟩
      rw [x_up_j (by decide)]
      exact hS.2.1
  have loop : ∀ j (S : xTr) q i F G, y_RI (v 2 0 0) (v 0 0 0) (v 1 0 0) S → x_RS 32 a m S q F G → q ≤ m → m - q ≤ j → i ≤ q → x_fR 32 f g F G → y_rns a m N (v 2 0 0) (v 0 0 0) (v 1 0 0) j S q = X0 → x_J 60 (d + 5) Po 4 [some (.ref 610), some (.int 1), some (.int (nI i))] [] (F, G, x_HR 22 39, dm, n) 0 0 := by
    intro j
    induction j with
    | zero =>
      intro S q i F G hI hS hq hj hi hf hX
      have h3 : y_sa a m q = 3 := if_neg (by omega)
      rw [y_rns_3 h3] at hX
      refine x_wp_ok ok60 [4, 56] 6 ?_
      refine And.intro (fun _ => end56 F G S q _ hX.symm hS hI.2.2.1 hf) (fun _ => ?_)
      refine And.intro (fun c => absurd (show (1 : Int32) = 0 from c) (by decide)) (fun _ => ?_)
      refine And.intro (fun _ => end56 F G S q _ hX.symm hS hI.2.2.1 hf) (fun c => absurd (show F 10 4 = 3 by rw [hS.1.2.2.2.1, y_tk_3]; exact h3) c)
    | succ j ih =>
      intro S q i F G hI hS hq hj hi hf hX
      by_cases h3 : y_sa a m q = 3
      · rw [y_rns_3 h3] at hX
        refine x_wp_ok ok60 [4, 56] 6 ?_
        refine And.intro (fun _ => end56 F G S q _ hX.symm hS hI.2.2.1 hf) (fun _ => ?_)
        refine And.intro (fun c => absurd (show (1 : Int32) = 0 from c) (by decide)) (fun _ => ?_)
        refine And.intro (fun _ => end56 F G S q _ hX.symm hS hI.2.2.1 hf) (fun c => absurd (show F 10 4 = 3 by rw [hS.1.2.2.2.1, y_tk_3]; exact h3) c)
      · rw [y_rns_S h3] at hX
        have hlt := y_sa_lt h3
        have hm9 := hT.1
        have jn : ∀ (b : Int32) h', x_PR 32 a m F G (x_HR 22 39) dm n (y_rst a m N (v 2 0 0) (v 0 0 0) (v 1 0 0) S q) (some (.int b)) h' → x_J 60 (d + 5) Po 49 [some (.ref 610), some (.int 1), some (.int (nI i))] [.int b] h' 0 0 := by
          intro b h' hp
          cases hY : y_rst a m N (v 2 0 0) (v 0 0 0) (v 1 0 0) S q with
          | inl e =>
            rw [hY] at hp hX
            obtain ⟨hb, F2, G2, rfl, w1, w2⟩ := hp
            cases hb
            refine x_wp_ok ok60 [56] 6 ?_
            refine And.intro (fun _ => bad56 F2 G2 e _ hX.symm w2 (x_fR_t hf w1)) (fun _ => ?_)
            exact And.intro (fun _ => bad56 F2 G2 e _ hX.symm w2 (x_fR_t hf w1)) (fun c => absurd rfl c)
          | inr w =>
            have k1 := y_rst_ok hI hY
            rw [hY] at hp hX
            obtain ⟨hb, F2, G2, rfl, w1, w2⟩ := hp
            cases hb
            have e0 := ih w.1 w.2 (i + 1) F2 G2 k1.1 w2 k1.2.2 (by omega) (by omega) (x_fR_t hf w1) hX
            rw [← nI_1o] at e0
            refine x_wp_ok ok60 [4] 6 ?_
            exact e0
        refine x_wp_ok ok60 [4, 49, 56] 6 ?_
        refine And.intro (fun c => absurd (show nI 900 ≤ nI i from c) (nI_ge (by omega) (by decide))) (fun _ => ?_)
        refine And.intro (fun c => absurd (show (1 : Int32) = 0 from c) (by decide)) (fun _ => ?_)
        refine And.intro (fun c => absurd (show F 10 4 = 3 from c) (by rw [hS.1.2.2.2.1, y_tk_3]; exact h3)) (fun _ => ?_)
        have hx : F 10 7 = y_tr (y_wm a m q) := hS.1.2.2.2.2.1
        have e23 : F 10 7 = 23 ↔ y_wm a m q = 20 := by
          rw [hx]
          exact y_tr_eq a m q (w := 20) (by decide)
        refine And.intro (fun c => ?_) (fun c => ?_)
        · have c : ¬ F 10 7 = 23 := c
          rw [e23] at c
          refine Exists.intro _ (And.intro (c_readStep_22_39 (v := v) (N := N) hT hI hS (by rw [hf.1 22 (by decide) (by decide) (by decide) (by decide)]; exact h0) (by rw [hf.1 22 (by decide) (by decide) (by decide) (by decide)]; exact h1) (by rw [hf.1 22 (by decide) (by decide) (by decide) (by decide)]; exact h2) b0 b1 b2 (by rw [hf.2 24 (by decide)]; exact hN) c) (And.intro (And.intro (Nat.zero_le _) (Nat.zero_le _)) (fun zq h' hpo => ?_)))
          obtain ⟨b, rfl⟩ := x_PR_z hpo
          exact jn b _ hpo
        · have c : F 10 7 = 23 := c
          rw [e23] at c
          refine Exists.intro _ (And.intro (c_readEnd_22_39 (N := N) hT hI hS c) (And.intro (And.intro (Nat.zero_le _) (Nat.zero_le _)) (fun zq h' hpo => ?_)))
          obtain ⟨b, rfl⟩ := x_PR_z hpo
          exact jn b _ hpo
  refine x_Ct_w (by decide) (Nat.le_of_ble_eq_true rfl) ok60 [4] 6 ?_
  exact loop j0 S q 0 f g hI hS hq hj (Nat.zero_le _) x_fR_r hX0.symm
theorem c_reignsU_22_39 {k : Nat} {x : Int32} (hk : f 0 5 = nI k) (hk9 : k ≤ 900) (hb : ∀ j, j < k → y_byt (f 11 j)) (h0 : f 22 0 = nI (v 0 0 0)) (h1 : f 22 1 = nI (v 1 0 0)) (h2 : f 22 2 = nI (v 2 0 0)) (b0 : v 0 0 0 ≤ 4) (b1 : v 1 0 0 ≤ 5) (b2 : v 2 0 0 ≤ 5) (hN : y_NR (g 24) v N) (h600 : 600 ∉ dm) (h610 : 610 ∉ dm) (h611 : 611 ∉ dm) (hr : ∀ t, t = 32 ∨ t = 39 → ∀ k ∈ dm, ∀ j q, x_HR 22 t k j = some q → x_in1 dm q) : x_Ct 106 (d + 6) [.ref 0, .int x] (f, g, x_HR 22 39, dm, 610) (x_ct (x_QCr 22 39 32 v N f g dm n k x) dm) := by
  obtain ⟨Po, hPo⟩ : ∃ Po : Option Value → xH → Prop, Po = x_ct (x_QCr 22 39 32 v N f g dm n k x) dm := ⟨_, rfl⟩
  rw [← hPo]
  have emin : (if nI 300 < f 0 5 then nI 300 else f 0 5) = nI (min k 300) := by
    rw [hk]
    by_cases h : 300 < k
    · rw [if_pos ((nI_ltI (by decide) (by omega)).mpr h), show min k 300 = 300 by omega]
    · rw [if_neg (fun q => h ((nI_ltI (by decide) (by omega)).mp q)), show min k 300 = k by omega]
  refine x_Ct_w (by decide) (Nat.le_of_ble_eq_true rfl) ok106 [] 6 ?_
  show ∃ P, x_Ct 161 (d + 5) [.int x, .int 0, .int (if nI 300 < f 0 5 then nI 300 else f 0 5)] _ P ∧ _
  rw [emin]
  refine Exists.intro _ (And.intro c_within (And.intro (And.intro (Nat.zero_le _) (Nat.zero_le _)) (fun q h' hpo => ?_)))
  obtain ⟨rfl, rfl⟩ := hpo
  cases hw : x_wi x 0 (nI (min k 300)) with
  | false =>
    refine And.intro (fun c => absurd rfl c) (fun _ => ?_)
    refine Exists.intro _ (And.intro (c_refuse (w := 1)) (And.intro (And.intro (Nat.zero_le _) (Nat.zero_le _)) (fun q h' hpo => ?_)))
    obtain ⟨rfl, rfl⟩ := hpo
    refine And.intro ?_ ⟨trivial, Nat.le_of_ble_eq_true rfl, Nat.le_of_ble_eq_true rfl⟩
    rw [hPo]
    have hq : x_QCr 22 39 32 v N f g dm n k x (some (.int (-1))) (x_up f 0 0 1, g, x_HR 22 39, dm, n) := by
      unfold x_QCr
      rw [hw]
      exact ⟨rfl, rfl⟩
    have e := x_ct_i (P := x_QCr 22 39 32 v N f g dm n k x) (l := []) (ρ := x_HR 22 39) (ρ2 := x_HR 22 39) (n := 610) hq (fun _ _ => rfl) (hr 39 (by decide))
    rw [List.append_nil] at e
    exact e
  | true =>
    obtain ⟨j, -, hj, rfl⟩ := x_wi_t (lo := 0) (hi := min k 300) hw (by omega) (Nat.zero_le _)
    have hc : x_c (nI j) = j := nI_clamp (by omega)
    obtain ⟨a, ha⟩ : ∃ a, a = f 11 := ⟨_, rfl⟩
    have hT : y_TP a j := ⟨by omega, fun i hi => by rw [ha]; exact hb i (by omega)⟩
    have hq := (y_skip_sp a (Nat.zero_le j)).2
    refine And.intro (fun _ => ?_) (fun c => absurd (show (1 : Int32) = 0 from c) (by decide))
    refine Exists.intro _ (And.intro (c_open (k := j) (by omega) (fun i hi => hb i (by omega))) (And.intro (And.intro (Nat.zero_le _) (Nat.zero_le _)) (fun zq h' hpo => ?_)))
    obtain ⟨rfl, F1, G1, rfl, u1, u2⟩ := hpo
    rw [← ha] at u2
    refine Exists.intro _ (And.intro c_clearS_32 (And.intro (And.intro (Nat.zero_le _) (Nat.zero_le _)) (fun q h' hpo => ?_)))
    obtain ⟨rfl, rfl⟩ := hpo
    obtain ⟨F2, hF2⟩ : ∃ F2, F2 = x_up (x_up (x_up F1 32 0 0) 32 1 0) 32 2 0 := ⟨_, rfl⟩
    refine And.intro ⟨rfl, h610, show (610 : Nat) < 1000 by decide⟩ ?_
    refine And.intro ⟨show 0 + 1 ≤ x_mc 106 by decide, show 0 + 5 ≤ x_ms 106 by decide⟩ ?_
    have n611 : 611 ∉ dm ++ [610] := by
      intro h
      rcases List.mem_append.mp h with h | h
      · exact h611 h
      · exact absurd (List.mem_singleton.mp h) (by decide)
    show ∃ P, x_Ct 59 (d + 5) [.ref 610, .ref 10, .ref 22, .ref 32] (va_up (x_up (x_up (x_up F1 32 0 0) 32 1 0) 32 2 0) 610 (fun _ => 0), va_up G1 610 (fun _ => 0), va_up (x_HR 22 39) 610 (fun _ => none), dm ++ [610], 611) P ∧ _
    rw [← hF2]
    refine Exists.intro _ (And.intro (c_initR_22_39 (f := va_up F2 610 (fun _ => 0)) (g := va_up G1 610 (fun _ => 0)) (dm := dm ++ [610]) n611) (And.intro (And.intro (Nat.le_of_ble_eq_true rfl) (Nat.le_of_ble_eq_true rfl)) (fun zq h' hpo => ?_)))
    obtain ⟨rfl, rfl⟩ := hpo
    obtain ⟨F3, hF3⟩ : ∃ F3 : Nat → Nat → Int32, F3 = va_up (va_up F2 610 (fun _ => 0)) 611 (fun _ => 0) := ⟨_, rfl⟩
    obtain ⟨G3, hG3⟩ : ∃ G3 : Nat → Nat → Int64, G3 = va_up (va_up G1 610 (fun _ => 0)) 611 (fun _ => 0) := ⟨_, rfl⟩
    have f3 : ∀ c, c < 600 → F3 c = F2 c := fun c hc => by rw [hF3, x_un (by omega), x_un (by omega)]
    have g3 : ∀ c, c < 600 → G3 c = G1 c := fun c hc => by rw [hG3, x_un (by omega), x_un (by omega)]
    have f2 : ∀ c, c ≠ 32 → F2 c = F1 c := fun c hc => by rw [hF2, x_up_k hc, x_up_k hc, x_up_k hc]
    have hS : x_RS 32 a j y_Tr0 (y_skip a j 0) F3 G3 := by
      refine ⟨⟨?_, ?_⟩, ?_, ?_, ?_, fun i hi => absurd hi (Nat.not_lt_zero _), fun i hi => absurd hi (Nat.not_lt_zero _)⟩
      · rw [f3 11 (by decide), f2 11 (by decide)]
        exact u2.1
      · rw [f3 10 (by decide), f2 10 (by decide), g3 10 (by decide)]
        exact u2.2
      · rw [f3 _ (by decide), hF2]
        rfl
      · rw [f3 _ (by decide), hF2]
        rfl
      · rw [hF3, x_un (by decide), x_us]
        rfl
    show ∃ P, x_Ct 60 (d + 5) [.ref 610] (va_up (va_up F2 610 (fun _ => 0)) 611 (fun _ => 0), va_up (va_up G1 610 (fun _ => 0)) 611 (fun _ => 0), x_HR 22 39, dm ++ [610] ++ [611], 612) P ∧ _
    rw [← hF3, ← hG3]
    have fL : F3 22 = f 22 := by rw [f3 _ (by decide), f2 _ (by decide), u1.1 _ (by decide)]
    have gL : G3 24 = g 24 := by rw [g3 _ (by decide), u1.2 _ (by decide)]
    refine Exists.intro _ (And.intro (c_isTakenR_22_39 (v := v) (N := N) (j0 := j) hT (y_RI_0 _ _ _) hS (by rw [fL]; exact h0) (by rw [fL]; exact h1) (by rw [fL]; exact h2) b0 b1 b2 (by rw [gL]; exact hN) hq (Nat.sub_le _ _)) (And.intro (And.intro (Nat.le_of_ble_eq_true rfl) (Nat.le_of_ble_eq_true rfl)) (fun zq h' hpo => ?_)))
    have fr : ∀ F4 G4, x_fR 32 F3 G3 F4 G4 → (∀ c, c ≠ 10 → c < 600 → ¬ (32 ≤ c ∧ c ≤ 32 + 6) → F4 c = f c) ∧ ∀ c, c ≠ 10 → c < 600 → G4 c = g c := by
      intro F4 G4 h
      refine ⟨fun c c1 c2 c3 => ?_, fun c c1 c2 => ?_⟩
      · rw [h.1 c c1 (by omega) (by omega) c3, f3 c c2, f2 c (by omega), u1.1 c c1]
      · rw [h.2 c c1, g3 c c2, u1.2 c c1]
    have hρ : ∀ k ∈ dm, x_HR 22 32 k = x_up (x_up (x_HR 22 39) 0 10 (some 32)) 0 11 (some 39) k := fun k hk => (x_HR_ss (r := 22) (t := 39) (T := 32) rfl rfl (fun e => h600 (e ▸ hk)) (fun e => h610 (e ▸ hk))).symm
    have hX : y_reigns (f 11) N (v 2 0 0) (v 0 0 0) (v 1 0 0) (x_c (nI j)) = y_rns a j N (v 2 0 0) (v 0 0 0) (v 1 0 0) j y_Tr0 (y_skip a j 0) := by
      rw [hc, ← ha]
      rfl
    cases e1 : y_rns a j N (v 2 0 0) (v 0 0 0) (v 1 0 0) j y_Tr0 (y_skip a j 0) with
    | inl e =>
      rw [e1] at hpo
      obtain ⟨rfl, F4, G4, rfl, o1, o2⟩ := hpo
      obtain ⟨fr1, fr2⟩ := fr F4 G4 o1
      refine Exists.intro _ (And.intro (c_endText (b := false)) (And.intro (And.intro (Nat.le_of_ble_eq_true rfl) (Nat.le_of_ble_eq_true rfl)) (fun zq h' hpo => ?_)))
      obtain ⟨rfl, rfl⟩ := hpo
      refine And.intro (fun c => absurd rfl c) (fun _ => ?_)
      refine Exists.intro _ (And.intro (c_refuse (w := 9)) (And.intro (And.intro (Nat.le_of_ble_eq_true rfl) (Nat.le_of_ble_eq_true rfl)) (fun zq h' hpo => ?_)))
      obtain ⟨rfl, rfl⟩ := hpo
      refine And.intro ?_ ⟨trivial, Nat.le_of_ble_eq_true rfl, Nat.le_of_ble_eq_true rfl⟩
      rw [hPo]
      show x_ct (x_QCr 22 39 32 v N f g dm n k (nI j)) dm (some (.int (-1))) (x_up (x_up (x_up (x_up F4 0 5 0) 0 6 (F4 10 10)) 0 7 (F4 10 11)) 0 0 9, G4, x_HR 22 39, dm ++ [610] ++ [611], 612)
      rw [List.append_assoc]
      refine x_ct_i (ρ2 := x_HR 22 39) (n2 := n) ?_ (fun _ _ => rfl) (hr 39 (by decide))
      unfold x_QCr
      rw [hw, hX, e1]
      refine ⟨rfl, _, G4, rfl, ⟨fun i i0 i5 i6 i7 => ?_, fun c c0 c1 c3 c4 => ?_, fr2⟩, rfl, rfl, o2.1, o2.2⟩
      · rw [x_up_j i0, x_up_j i7, x_up_j i6, x_up_j i5, fr1 0 (by decide) (by decide) (by decide)]
      · rw [x_up_k c0, x_up_k c0, x_up_k c0, x_up_k c0]
        exact fr1 c c1 c3 c4
    | inr S =>
      rw [e1] at hpo
      obtain ⟨rfl, F4, G4, rfl, o1, o2, o3, o4⟩ := hpo
      obtain ⟨fr1, fr2⟩ := fr F4 G4 o1
      refine Exists.intro _ (And.intro (c_endText (b := true)) (And.intro (And.intro (Nat.le_of_ble_eq_true rfl) (Nat.le_of_ble_eq_true rfl)) (fun zq h' hpo => ?_)))
      obtain ⟨rfl, rfl⟩ := hpo
      refine And.intro (fun _ => ?_) (fun c => absurd (show (1 : Int32) = 0 from c) (by decide))
      refine Exists.intro _ (And.intro c_answer (And.intro (And.intro (Nat.le_of_ble_eq_true rfl) (Nat.le_of_ble_eq_true rfl)) (fun zq h' hpo => ?_)))
      obtain ⟨rfl, rfl⟩ := hpo
      refine And.intro ?_ ⟨trivial, Nat.le_of_ble_eq_true rfl, Nat.le_of_ble_eq_true rfl⟩
      rw [hPo]
      show x_ct (x_QCr 22 39 32 v N f g dm n k (nI j)) dm (some (.int (F4 32 1))) (x_up (x_up (x_up (x_up F4 0 5 0) 0 6 0) 0 7 (-1)) 0 0 0, G4, x_up (x_up (x_HR 22 39) 0 10 (some 32)) 0 11 (some 39), dm ++ [610] ++ [611], 612)
      rw [o3, List.append_assoc]
      refine x_ct_i (ρ2 := x_HR 22 32) (n2 := n) ?_ hρ (hr 32 (by decide))
      unfold x_QCr
      rw [hw, hX, e1]
      refine ⟨rfl, _, G4, rfl, ⟨fun i i0 i5 i6 i7 => ?_, fun c c0 c1 c3 c4 => ?_, fr2⟩, ⟨rfl, rfl, rfl, rfl⟩, ?_, x_SC_cg o4 ?_ (fun c c1 c2 => ?_)⟩
      · rw [x_up_j i0, x_up_j i7, x_up_j i6, x_up_j i5, fr1 0 (by decide) (by decide) (by decide)]
      · rw [x_up_k c0, x_up_k c0, x_up_k c0, x_up_k c0]
        exact fr1 c c1 c3 c4
      · rw [x_up_k (by decide), x_up_k (by decide), x_up_k (by decide), x_up_k (by decide)]
        exact o2
      · rw [x_up_k (by decide), x_up_k (by decide), x_up_k (by decide), x_up_k (by decide)]
      · rw [x_up_k (by omega), x_up_k (by omega), x_up_k (by omega), x_up_k (by omega)]
theorem c_reigns_22_39 {k : Nat} {x : Int32} (hk : f 0 5 = nI k) (hk9 : k ≤ 900) (hb : ∀ j, j < k → y_byt (f 11 j)) (h0 : f 22 0 = nI (v 0 0 0)) (h1 : f 22 1 = nI (v 1 0 0)) (h2 : f 22 2 = nI (v 2 0 0)) (b0 : v 0 0 0 ≤ 4) (b1 : v 1 0 0 ≤ 5) (b2 : v 2 0 0 ≤ 5) (hN : y_NR (g 24) v N) (h600 : 600 ∉ dm) (h610 : 610 ∉ dm) (h611 : 611 ∉ dm) (hr : ∀ t, t = 32 ∨ t = 39 → ∀ k ∈ dm, ∀ j q, x_HR 22 t k j = some q → x_in1 dm q) : x_Ct 106 (d + 6) [.ref 0, .int x] (f, g, x_HR 22 39, dm, n) (x_QCr 22 39 32 v N f g dm n k x) := x_Ct_cut (h := (f, g, x_HR 22 39, dm, 610)) (c_reignsU_22_39 hk hk9 hb h0 h1 h2 b0 b1 b2 hN h600 h610 h611 hr) (fun _ _ h => h)
end C99
