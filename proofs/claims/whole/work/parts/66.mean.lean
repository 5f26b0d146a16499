/-! mean() -/
def y_ms (v : xV) (p : xR × Nat) (x : Nat) : Nat → Nat
  | 0 => 0
  | i + 1 => y_ms v p x i + v_out (y_life v p (x + i)).2.2.1
def y_fr (a b : Nat) (g0 : Nat → Int64) (o : Option (Nat × Nat)) : Nat → Int64 := match o with
  | none => g0
  | some w => va_up (va_up g0 a (lN w.1)) b (lN w.2)
def y_mok (x y : Int32) : Bool := x_wi x 0 9999 && (x_wi y 1 20 && decide (x_c x + x_c y ≤ 10000))
def y_mf (v : xV) (S : xP) (x m : Nat) : Int32 × Option (Nat × Nat) := match S with
  | none => (6, none)
  | some p => (0, some (y_ms v p x m / Nat.gcd (y_ms v p x m) m, m / Nat.gcd (y_ms v p x m) m))
def sp_mean (v : xV) (S : xP) (x y : Int32) : Int32 × Option (Nat × Nat) := match y_mok x y with
  | false => (1, none)
  | true => y_mf v S (x_c x) (x_c y)
def x_QC (f : Nat → Nat → Int32) (g : Nat → Nat → Int64) (L : Nat) (ρ : Nat → Nat → Option Nat) (dm : List Nat) (n : Nat) (R : Int32 × Option (Nat × Nat)) : Option Value → xH → Prop := fun q h' => ∃ F G, h' = (F, G, ρ, dm, n) ∧ q = some (.int (x_bo R.2.isSome)) ∧ F 0 0 = R.1 ∧ (∀ j, j ≠ 0 → F 0 j = f 0 j) ∧ G 0 = y_fr 1 2 (g 0) R.2 ∧ ∀ c, c ≠ 0 → c < L ∨ L + 9 < c → c ≠ 100 → c ≠ 104 → c ≠ 105 → F c = f c ∧ G c = g c
def x_QD (f : Nat → Nat → Int32) (g : Nat → Nat → Int64) (ρ : Nat → Nat → Option Nat) (dm : List Nat) (n : Nat) (R : Int32 × Option (Nat × Nat)) : Option Value → xH → Prop := fun q h' => ∃ F G, h' = (F, G, ρ, dm, n) ∧ q = some (.int (x_bo R.2.isSome)) ∧ F 500 2 = R.1 ∧ (∀ j, j ≠ 2 → j ≠ 32 → j ≠ 33 → F 500 j = f 500 j) ∧ (∀ j, j < 2320 → F 501 j = f 501 j) ∧ G 500 = y_fr 3 4 (g 500) R.2 ∧ (∀ c, c ≠ 500 → G c = g c) ∧ ∀ c, c ≠ 500 → c ≠ 501 → c ≠ 509 → c ≠ 510 → c ≠ 515 → c ≠ 516 → F c = f c
theorem x_SM_fr2 {a a' : Nat → Int32} {s : xR} {NL : Nat} (h : x_SM a s NL) (hNL : NL ≤ 60) (h1 : a' 11 = a 11) (h2 : ∀ j, 96 ≤ j → j < 456 → a' j = a j) : x_SM a' s NL := by
  refine ⟨h1.trans h.1, fun k hk => ?_⟩
  rw [h2 (96 + 6 * k) (by omega) (by omega), h2 (96 + 6 * k + 1) (by omega) (by omega), h2 (96 + 6 * k + 2) (by omega) (by omega), h2 (96 + 6 * k + 3) (by omega) (by omega), h2 (96 + 6 * k + 4) (by omega) (by omega), h2 (96 + 6 * k + 5) (by omega) (by omega)]
  exact h.2 k hk
theorem y_life_B {N : Nat} {v : xV} {p : xR × Nat} {seed : Nat} (hS : y_SV p.1 p.2 (v 2 0 0) (v 0 0 0) (v 1 0 0)) (hBn : v_Bn N v) (hN : N + 2 ^ 33 < 2 ^ 60) (hs : seed < 65536) : v_B (y_life v p seed).2.2.1 := by
  have h := y_life_in hS hBn hN hs
  obtain ⟨E, hE⟩ : ∃ E, E = y_life v p seed := ⟨_, rfl⟩
  rw [← hE] at h ⊢
  obtain ⟨k, R, v1, ch, st, mi, mo, bo, le⟩ := E
  have h1 : st ≤ 300 := h.2.1
  have h2 : v_Bn (N + 998001 * st) v1 := h.2.2.2.2.2.2.1
  exact v_Bn_B h2 (by omega)
theorem y_ms_le {N : Nat} {v : xV} {p : xR × Nat} {x : Nat} (hS : y_SV p.1 p.2 (v 2 0 0) (v 0 0 0) (v 1 0 0)) (hBn : v_Bn N v) (hN : N + 2 ^ 33 < 2 ^ 60) : ∀ i, x + i ≤ 60000 → y_ms v p x i ≤ i * 209969001
  | 0, _ => Nat.zero_le _
  | i + 1, h => by
    have h1 := y_ms_le (x := x) hS hBn hN i (by omega)
    have h2 := v_out_le (y_life_B (p := p) (seed := x + i) hS hBn hN (by omega))
    show y_ms v p x i + v_out (y_life v p (x + i)).2.2.1 ≤ _
    omega
section C66
variable {f : Nat → Nat → Int32} {g : Nat → Nat → Int64} {r t : Nat} {dm : List Nat} {n d N : Nat} {v : xV} {ρ : Nat → Nat → Option Nat} {S : xP}
theorem x_QC_0 {L : Nat} {e : Int32} : x_QC f g L ρ dm n (e, none) (some (.int 0)) (x_up f 0 0 e, g, ρ, dm, n) := ⟨_, g, rfl, rfl, x_up_s _ _ _ _, fun j a => x_up_j a, rfl, fun c a _ _ _ _ => ⟨x_up_k a, rfl⟩⟩
theorem x_QD_0 {e : Int32} : x_QD f g ρ dm n (e, none) (some (.int 0)) (x_up f 500 2 e, g, ρ, dm, n) := ⟨_, g, rfl, rfl, x_up_s _ _ _ _, fun j a _ _ => x_up_j a, fun _ _ => rfl, rfl, fun _ _ => rfl, fun c a _ _ _ _ _ => x_up_k a⟩
theorem c_mean_12_32 {x y : Int32} (hC : v_C f g 12 v) (hBn : v_Bn N v) (hN : N + 2 ^ 33 < 2 ^ 60) (hS : x_SO f 32 S) (hV : y_SO v S) : x_Ct 153 (d + 6) [.ref 0, .int x, .int y] (f, g, x_HR 12 32, dm, n) (x_QC f g 22 (x_HR 12 32) dm n (sp_mean v S x y)) := by
  have hB := v_Bn_B hBn (by omega)
  unfold sp_mean
  refine x_Ct_w (by decide) (Nat.le_of_ble_eq_true rfl) ok153 [60] 6 ?_
  refine Exists.intro _ (And.intro (c_within (x := x) (lo := 0) (hi := 9999)) (And.intro (And.intro (Nat.zero_le _) (Nat.zero_le _)) (fun q h' hpo => ?_)))
  obtain ⟨rfl, rfl⟩ := hpo
  cases hx : x_wi x 0 9999 with
  | false =>
    refine And.intro (fun _ => ?_) (fun c => absurd rfl c)
    refine Exists.intro _ (And.intro c_refused (And.intro (And.intro (Nat.zero_le _) (Nat.zero_le _)) (fun q h' hpo => ?_)))
    obtain ⟨rfl, rfl⟩ := hpo
    refine And.intro ?_ ⟨Or.inl rfl, Nat.le_refl _, Nat.le_refl _⟩
    rw [show y_mok x y = false by unfold y_mok; rw [hx]; rfl]
    exact x_QC_0
  | true =>
    refine And.intro (fun c => absurd c (by decide)) (fun _ => ?_)
    refine Exists.intro _ (And.intro (c_within (x := y) (lo := 1) (hi := 20)) (And.intro (And.intro (Nat.zero_le _) (Nat.zero_le _)) (fun q h' hpo => ?_)))
    obtain ⟨rfl, rfl⟩ := hpo
    cases hy : x_wi y 1 20 with
    | false =>
      refine And.intro (fun _ => ?_) (fun c => absurd rfl c)
      refine Exists.intro _ (And.intro c_refused (And.intro (And.intro (Nat.zero_le _) (Nat.zero_le _)) (fun q h' hpo => ?_)))
      obtain ⟨rfl, rfl⟩ := hpo
      refine And.intro ?_ ⟨Or.inl rfl, Nat.le_refl _, Nat.le_refl _⟩
      rw [show y_mok x y = false by unfold y_mok; rw [hx, hy]; rfl]
      exact x_QC_0
    | true =>
      refine And.intro (fun c => absurd c (by decide)) (fun _ => ?_)
      obtain ⟨a, _, ha, rfl⟩ := x_wi_t (lo := 0) (hi := 9999) hx (by decide) (by decide)
      obtain ⟨m, hm1, hm, rfl⟩ := x_wi_t (lo := 1) (hi := 20) hy (by decide) (by decide)
      have ea : x_c (nI a) = a := nI_clamp (by omega)
      have em : x_c (nI m) = m := nI_clamp (by omega)
      have eq : nI a + nI m - nI 1 = nI (a + m - 1) := by rw [nI_add, pk_sub (by omega)]
      refine And.intro (fun c => ?_) (fun c => ?_)
      · have c : nI a + nI m - nI 1 ≤ nI 9999 := c
        rw [eq, nI_leI (by omega) (by decide)] at c
        rw [show y_mok (nI a) (nI m) = true by unfold y_mok; rw [hx, hy, ea, em, decide_eq_true (by omega)]; rfl, ea, em]
        cases S with
        | none =>
          have h0 : f 32 0 = 0 := hS
          refine And.intro (fun c => absurd h0 c) (fun _ => ?_)
          refine Exists.intro _ (And.intro c_refused (And.intro (And.intro (Nat.zero_le _) (Nat.zero_le _)) (fun q h' hpo => ?_)))
          obtain ⟨rfl, rfl⟩ := hpo
          refine And.intro ?_ ⟨Or.inl rfl, Nat.le_refl _, Nat.le_refl _⟩
          exact x_QC_0
        | some p =>
          have h0 : f 32 0 = 1 := hS.1
          have hSC : x_SC f 32 p.1 p.2 := hS.2
          have hV : y_SV p.1 p.2 (v 2 0 0) (v 0 0 0) (v 1 0 0) := hV
          refine And.intro (fun _ => ?_) (fun c => absurd (h0.symm.trans (show f 32 0 = 0 from c)) (by decide))
          obtain ⟨Po, hPo⟩ : ∃ Po : Option Value → xH → Prop, Po = x_QC f g 22 (x_HR 12 32) dm n (y_mf v (some p) a m) := ⟨_, rfl⟩
          have loop : ∀ q i F G, i + q = m → (∀ c, c < 22 ∨ 22 + 9 < c → c ≠ 100 → c ≠ 104 → c ≠ 105 → F c = f c ∧ G c = g c) → x_J 153 (d + 6) Po 60 [some (.ref 0), some (.int (nI a)), some (.int (nI m)), some (.long (lN (y_ms v p a i))), none, some (.int (nI i))] [] (F, G, x_HR 12 32, dm, n) 0 0 := by
            intro q
            induction q with
            | zero =>
              intro i F G hi h1
              obtain rfl : i = m := by omega
              have hms := y_ms_le hV hBn hN (x := a) i (by omega)
              refine x_wp_ok ok153 [60] 6 ?_
              refine And.intro (fun _ => ?_) (fun c => absurd (nI_le (Nat.le_refl i) (by omega)) c)
              have tl := c_tell (d := d + 4) (f := F) (g := G) (ρ := x_HR 12 32) (dm := dm) (n := n) (a := y_ms v p a i) (b := i) (by omega) (by omega) (by omega)
              rw [← nI_l (show i < 2 ^ 31 by omega)] at tl
              refine Exists.intro _ (And.intro tl (And.intro (And.intro (Nat.zero_le _) (Nat.zero_le _)) (fun q h' hpo => ?_)))
              obtain ⟨rfl, rfl⟩ := hpo
              refine Exists.intro _ (And.intro c_agreed (And.intro (And.intro (Nat.zero_le _) (Nat.zero_le _)) (fun q h' hpo => ?_)))
              obtain ⟨rfl, rfl⟩ := hpo
              refine And.intro ?_ ⟨Or.inr rfl, Nat.le_refl _, Nat.le_refl _⟩
              rw [hPo]
              refine ⟨_, _, rfl, rfl, x_up_s _ _ _ _, fun j z => (x_up_j z).trans (by rw [(h1 0 (by decide) (by decide) (by decide) (by decide)).1]), ?_, fun c z0 z1 z2 z3 z4 => ⟨(x_up_k z0).trans (h1 c z1 z2 z3 z4).1, (x_up_k z0).trans ((x_up_k z0).trans (h1 c z1 z2 z3 z4).2)⟩⟩
              rw [x_up_c, x_up_c, (h1 0 (by decide) (by decide) (by decide) (by decide)).2]
              rfl
            | succ q ih =>
              intro i F G hi h1
              have hC1 : v_C F G 12 v := v_C_fr hC (fun k _ _ => (h1 k (by omega) (by omega) (by omega) (by omega)).1) (h1 12 (by decide) (by decide) (by decide) (by decide)).2
              refine x_wp_ok ok153 [60] 6 ?_
              refine And.intro (fun c => absurd (show nI m ≤ nI i from c) (nI_ge (by omega) (by omega))) (fun _ => ?_)
              refine Exists.intro _ (And.intro (c_copyL_22_12 (d := d + 4)) (And.intro (And.intro (Nat.zero_le _) (Nat.zero_le _)) (fun q h' hpo => ?_)))
              obtain ⟨rfl, F1, G1, rfl, hcp⟩ := hpo
              have hC2 := x_CP_v hcp hC1 hB
              have hSC1 : x_SC F1 32 p.1 p.2 := x_SC_fr hSC (fun c q1 q2 => (hcp.2.2.2.2.2.1 c (by omega)).trans (h1 c (by omega) (by omega) (by omega) (by omega)).1)
              have un := c_unfold_22_32_104 (d := d) (f := F1) (g := G1) (r := 12) (t := 32) (dm := dm) (n := n) (s := p.1) (NL := p.2) (seed := a + i) hC2 hBn hN hSC1 hV (by omega)
              rw [← nI_add] at un
              refine Exists.intro _ (And.intro un (And.intro (And.intro (Nat.zero_le _) (Nat.zero_le _)) (fun q h' hpo => ?_)))
              obtain ⟨F2, G2, rfl, rfl, hF, _⟩ := hpo
              have hF : x_EC F1 G1 22 104 p.1 p.2 F2 G2 (y_life v p (a + i)) := hF
              have hBE := y_life_B (p := p) (seed := a + i) hV hBn hN (by omega)
              have hbo := v_out_le hBE
              have hvE : v_C F2 G2 22 (y_life v p (a + i)).2.2.1 := hF.1
              have fr1 := hF.2.2.2.2.2.2.2.2.1
              have fr2 := hF.2.2.2.2.2.2.2.2.2.1
              refine Exists.intro _ (And.intro (c_outNow_22 (d := d + 3) hvE hBE) (And.intro (And.intro (Nat.zero_le _) (Nat.zero_le _)) (fun q h' hpo => ?_)))
              obtain ⟨rfl, rfl⟩ := hpo
              have e := ih (i + 1) F2 G2 (by omega) (fun c z1 z2 z3 z4 => ⟨(fr1 c z1 z2 z3 z4).trans ((hcp.2.2.2.2.2.1 c z1).trans (h1 c z1 z2 z3 z4).1), (fr2 c z1 z2 z3).trans ((hcp.2.2.2.2.2.2 c (by omega) (by omega)).trans (h1 c z1 z2 z3 z4).2)⟩)
              rw [← nI_1o, show y_ms v p a (i + 1) = y_ms v p a i + v_out (y_life v p (a + i)).2.2.1 from rfl, ← lN_add, ← nI_l (show v_out (y_life v p (a + i)).2.2.1 < 2 ^ 31 by omega)] at e
              exact e
          rw [← hPo]
          exact loop m 0 f g (by omega) (fun _ _ _ _ _ => ⟨rfl, rfl⟩)
      · have c : ¬ nI a + nI m - nI 1 ≤ nI 9999 := c
        rw [eq, nI_leI (by omega) (by decide)] at c
        rw [show y_mok (nI a) (nI m) = false by unfold y_mok; rw [hx, hy, ea, em, decide_eq_false (by omega)]; rfl]
        refine Exists.intro _ (And.intro c_refused (And.intro (And.intro (Nat.zero_le _) (Nat.zero_le _)) (fun q h' hpo => ?_)))
        obtain ⟨rfl, rfl⟩ := hpo
        refine And.intro ?_ ⟨Or.inl rfl, Nat.le_refl _, Nat.le_refl _⟩
        exact x_QC_0
theorem c_mean_22_32 {x y : Int32} (hC : v_C f g 22 v) (hBn : v_Bn N v) (hN : N + 2 ^ 33 < 2 ^ 60) (hS : x_SO f 32 S) (hV : y_SO v S) : x_Ct 153 (d + 6) [.ref 0, .int x, .int y] (f, g, x_HR 22 32, dm, n) (x_QC f g 12 (x_HR 22 32) dm n (sp_mean v S x y)) := by
  have hB := v_Bn_B hBn (by omega)
  unfold sp_mean
  refine x_Ct_w (by decide) (Nat.le_of_ble_eq_true rfl) ok153 [60] 6 ?_
  refine Exists.intro _ (And.intro (c_within (x := x) (lo := 0) (hi := 9999)) (And.intro (And.intro (Nat.zero_le _) (Nat.zero_le _)) (fun q h' hpo => ?_)))
  obtain ⟨rfl, rfl⟩ := hpo
  cases hx : x_wi x 0 9999 with
  | false =>
    refine And.intro (fun _ => ?_) (fun c => absurd rfl c)
    refine Exists.intro _ (And.intro c_refused (And.intro (And.intro (Nat.zero_le _) (Nat.zero_le _)) (fun q h' hpo => ?_)))
    obtain ⟨rfl, rfl⟩ := hpo
    refine And.intro ?_ ⟨Or.inl rfl, Nat.le_refl _, Nat.le_refl _⟩
    rw [show y_mok x y = false by unfold y_mok; rw [hx]; rfl]
    exact x_QC_0
  | true =>
    refine And.intro (fun c => absurd c (by decide)) (fun _ => ?_)
    refine Exists.intro _ (And.intro (c_within (x := y) (lo := 1) (hi := 20)) (And.intro (And.intro (Nat.zero_le _) (Nat.zero_le _)) (fun q h' hpo => ?_)))
    obtain ⟨rfl, rfl⟩ := hpo
    cases hy : x_wi y 1 20 with
    | false =>
      refine And.intro (fun _ => ?_) (fun c => absurd rfl c)
      refine Exists.intro _ (And.intro c_refused (And.intro (And.intro (Nat.zero_le _) (Nat.zero_le _)) (fun q h' hpo => ?_)))
      obtain ⟨rfl, rfl⟩ := hpo
      refine And.intro ?_ ⟨Or.inl rfl, Nat.le_refl _, Nat.le_refl _⟩
      rw [show y_mok x y = false by unfold y_mok; rw [hx, hy]; rfl]
      exact x_QC_0
    | true =>
      refine And.intro (fun c => absurd c (by decide)) (fun _ => ?_)
      obtain ⟨a, _, ha, rfl⟩ := x_wi_t (lo := 0) (hi := 9999) hx (by decide) (by decide)
      obtain ⟨m, hm1, hm, rfl⟩ := x_wi_t (lo := 1) (hi := 20) hy (by decide) (by decide)
      have ea : x_c (nI a) = a := nI_clamp (by omega)
      have em : x_c (nI m) = m := nI_clamp (by omega)
      have eq : nI a + nI m - nI 1 = nI (a + m - 1) := by rw [nI_add, pk_sub (by omega)]
      refine And.intro (fun c => ?_) (fun c => ?_)
      · have c : nI a + nI m - nI 1 ≤ nI 9999 := c
        rw [eq, nI_leI (by omega) (by decide)] at c
        rw [show y_mok (nI a) (nI m) = true by unfold y_mok; rw [hx, hy, ea, em, decide_eq_true (by omega)]; rfl, ea, em]
        cases S with
        | none =>
          have h0 : f 32 0 = 0 := hS
          refine And.intro (fun c => absurd h0 c) (fun _ => ?_)
          refine Exists.intro _ (And.intro c_refused (And.intro (And.intro (Nat.zero_le _) (Nat.zero_le _)) (fun q h' hpo => ?_)))
          obtain ⟨rfl, rfl⟩ := hpo
          refine And.intro ?_ ⟨Or.inl rfl, Nat.le_refl _, Nat.le_refl _⟩
          exact x_QC_0
        | some p =>
          have h0 : f 32 0 = 1 := hS.1
          have hSC : x_SC f 32 p.1 p.2 := hS.2
          have hV : y_SV p.1 p.2 (v 2 0 0) (v 0 0 0) (v 1 0 0) := hV
          refine And.intro (fun _ => ?_) (fun c => absurd (h0.symm.trans (show f 32 0 = 0 from c)) (by decide))
          obtain ⟨Po, hPo⟩ : ∃ Po : Option Value → xH → Prop, Po = x_QC f g 12 (x_HR 22 32) dm n (y_mf v (some p) a m) := ⟨_, rfl⟩
          have loop : ∀ q i F G, i + q = m → (∀ c, c < 12 ∨ 12 + 9 < c → c ≠ 100 → c ≠ 104 → c ≠ 105 → F c = f c ∧ G c = g c) → x_J 153 (d + 6) Po 60 [some (.ref 0), some (.int (nI a)), some (.int (nI m)), some (.long (lN (y_ms v p a i))), none, some (.int (nI i))] [] (F, G, x_HR 22 32, dm, n) 0 0 := by
            intro q
            induction q with
            | zero =>
              intro i F G hi h1
              obtain rfl : i = m := by omega
              have hms := y_ms_le hV hBn hN (x := a) i (by omega)
              refine x_wp_ok ok153 [60] 6 ?_
              refine And.intro (fun _ => ?_) (fun c => absurd (nI_le (Nat.le_refl i) (by omega)) c)
              have tl := c_tell (d := d + 4) (f := F) (g := G) (ρ := x_HR 22 32) (dm := dm) (n := n) (a := y_ms v p a i) (b := i) (by omega) (by omega) (by omega)
              rw [← nI_l (show i < 2 ^ 31 by omega)] at tl
              refine Exists.intro _ (And.intro tl (And.intro (And.intro (Nat.zero_le _) (Nat.zero_le _)) (fun q h' hpo => ?_)))
              obtain ⟨rfl, rfl⟩ := hpo
              refine Exists.intro _ (And.intro c_agreed (And.intro (And.intro (Nat.zero_le _) (Nat.zero_le _)) (fun q h' hpo => ?_)))
              obtain ⟨rfl, rfl⟩ := hpo
              refine And.intro ?_ ⟨Or.inr rfl, Nat.le_refl _, Nat.le_refl _⟩
              rw [hPo]
              refine ⟨_, _, rfl, rfl, x_up_s _ _ _ _, fun j z => (x_up_j z).trans (by rw [(h1 0 (by decide) (by decide) (by decide) (by decide)).1]), ?_, fun c z0 z1 z2 z3 z4 => ⟨(x_up_k z0).trans (h1 c z1 z2 z3 z4).1, (x_up_k z0).trans ((x_up_k z0).trans (h1 c z1 z2 z3 z4).2)⟩⟩
              rw [x_up_c, x_up_c, (h1 0 (by decide) (by decide) (by decide) (by decide)).2]
              rfl
            | succ q ih =>
              intro i F G hi h1
              have hC1 : v_C F G 22 v := v_C_fr hC (fun k _ _ => (h1 k (by omega) (by omega) (by omega) (by omega)).1) (h1 22 (by decide) (by decide) (by decide) (by decide)).2
              refine x_wp_ok ok153 [60] 6 ?_
              refine And.intro (fun c => absurd (show nI m ≤ nI i from c) (nI_ge (by omega) (by omega))) (fun _ => ?_)
              refine Exists.intro _ (And.intro (c_copyL_12_22 (d := d + 4)) (And.intro (And.intro (Nat.zero_le _) (Nat.zero_le _)) (fun q h' hpo => ?_)))
              obtain ⟨rfl, F1, G1, rfl, hcp⟩ := hpo
              have hC2 := x_CP_v hcp hC1 hB
              have hSC1 : x_SC F1 32 p.1 p.2 := x_SC_fr hSC (fun c q1 q2 => (hcp.2.2.2.2.2.1 c (by omega)).trans (h1 c (by omega) (by omega) (by omega) (by omega)).1)
              have un := c_unfold_12_32_104 (d := d) (f := F1) (g := G1) (r := 22) (t := 32) (dm := dm) (n := n) (s := p.1) (NL := p.2) (seed := a + i) hC2 hBn hN hSC1 hV (by omega)
              rw [← nI_add] at un
              refine Exists.intro _ (And.intro un (And.intro (And.intro (Nat.zero_le _) (Nat.zero_le _)) (fun q h' hpo => ?_)))
              obtain ⟨F2, G2, rfl, rfl, hF, _⟩ := hpo
              have hF : x_EC F1 G1 12 104 p.1 p.2 F2 G2 (y_life v p (a + i)) := hF
              have hBE := y_life_B (p := p) (seed := a + i) hV hBn hN (by omega)
              have hbo := v_out_le hBE
              have hvE : v_C F2 G2 12 (y_life v p (a + i)).2.2.1 := hF.1
              have fr1 := hF.2.2.2.2.2.2.2.2.1
              have fr2 := hF.2.2.2.2.2.2.2.2.2.1
              refine Exists.intro _ (And.intro (c_outNow_12 (d := d + 3) hvE hBE) (And.intro (And.intro (Nat.zero_le _) (Nat.zero_le _)) (fun q h' hpo => ?_)))
              obtain ⟨rfl, rfl⟩ := hpo
              have e := ih (i + 1) F2 G2 (by omega) (fun c z1 z2 z3 z4 => ⟨(fr1 c z1 z2 z3 z4).trans ((hcp.2.2.2.2.2.1 c z1).trans (h1 c z1 z2 z3 z4).1), (fr2 c z1 z2 z3).trans ((hcp.2.2.2.2.2.2 c (by omega) (by omega)).trans (h1 c z1 z2 z3 z4).2)⟩)
              rw [← nI_1o, show y_ms v p a (i + 1) = y_ms v p a i + v_out (y_life v p (a + i)).2.2.1 from rfl, ← lN_add, ← nI_l (show v_out (y_life v p (a + i)).2.2.1 < 2 ^ 31 by omega)] at e
              exact e
          rw [← hPo]
          exact loop m 0 f g (by omega) (fun _ _ _ _ _ => ⟨rfl, rfl⟩)
      · have c : ¬ nI a + nI m - nI 1 ≤ nI 9999 := c
        rw [eq, nI_leI (by omega) (by decide)] at c
        rw [show y_mok (nI a) (nI m) = false by unfold y_mok; rw [hx, hy, ea, em, decide_eq_false (by omega)]; rfl]
        refine Exists.intro _ (And.intro c_refused (And.intro (And.intro (Nat.zero_le _) (Nat.zero_le _)) (fun q h' hpo => ?_)))
        obtain ⟨rfl, rfl⟩ := hpo
        refine And.intro ?_ ⟨Or.inl rfl, Nat.le_refl _, Nat.le_refl _⟩
        exact x_QC_0
theorem c_mean_12_39 {x y : Int32} (hC : v_C f g 12 v) (hBn : v_Bn N v) (hN : N + 2 ^ 33 < 2 ^ 60) (hS : x_SO f 39 S) (hV : y_SO v S) : x_Ct 153 (d + 6) [.ref 0, .int x, .int y] (f, g, x_HR 12 39, dm, n) (x_QC f g 22 (x_HR 12 39) dm n (sp_mean v S x y)) := by
  have hB := v_Bn_B hBn (by omega)
  unfold sp_mean
  refine x_Ct_w (by decide) (Nat.le_of_ble_eq_true rfl) ok153 [60] 6 ?_
  refine Exists.intro _ (And.intro (c_within (x := x) (lo := 0) (hi := 9999)) (And.intro (And.intro (Nat.zero_le _) (Nat.zero_le _)) (fun q h' hpo => ?_)))
  obtain ⟨rfl, rfl⟩ := hpo
  cases hx : x_wi x 0 9999 with
  | false =>
    refine And.intro (fun _ => ?_) (fun c => absurd rfl c)
    refine Exists.intro _ (And.intro c_refused (And.intro (And.intro (Nat.zero_le _) (Nat.zero_le _)) (fun q h' hpo => ?_)))
    obtain ⟨rfl, rfl⟩ := hpo
    refine And.intro ?_ ⟨Or.inl rfl, Nat.le_refl _, Nat.le_refl _⟩
    rw [show y_mok x y = false by unfold y_mok; rw [hx]; rfl]
    exact x_QC_0
  | true =>
    refine And.intro (fun c => absurd c (by decide)) (fun _ => ?_)
    refine Exists.intro _ (And.intro (c_within (x := y) (lo := 1) (hi := 20)) (And.intro (And.intro (Nat.zero_le _) (Nat.zero_le _)) (fun q h' hpo => ?_)))
    obtain ⟨rfl, rfl⟩ := hpo
    cases hy : x_wi y 1 20 with
    | false =>
      refine And.intro (fun _ => ?_) (fun c => absurd rfl c)
      refine Exists.intro _ (And.intro c_refused (And.intro (And.intro (Nat.zero_le _) (Nat.zero_le _)) (fun q h' hpo => ?_)))
      obtain ⟨rfl, rfl⟩ := hpo
      refine And.intro ?_ ⟨Or.inl rfl, Nat.le_refl _, Nat.le_refl _⟩
      rw [show y_mok x y = false by unfold y_mok; rw [hx, hy]; rfl]
      exact x_QC_0
    | true =>
      refine And.intro (fun c => absurd c (by decide)) (fun _ => ?_)
      obtain ⟨a, _, ha, rfl⟩ := x_wi_t (lo := 0) (hi := 9999) hx (by decide) (by decide)
      obtain ⟨m, hm1, hm, rfl⟩ := x_wi_t (lo := 1) (hi := 20) hy (by decide) (by decide)
      have ea : x_c (nI a) = a := nI_clamp (by omega)
      have em : x_c (nI m) = m := nI_clamp (by omega)
      have eq : nI a + nI m - nI 1 = nI (a + m - 1) := by rw [nI_add, pk_sub (by omega)]
      refine And.intro (fun c => ?_) (fun c => ?_)
      · have c : nI a + nI m - nI 1 ≤ nI 9999 := c
        rw [eq, nI_leI (by omega) (by decide)] at c
        rw [show y_mok (nI a) (nI m) = true by unfold y_mok; rw [hx, hy, ea, em, decide_eq_true (by omega)]; rfl, ea, em]
        cases S with
        | none =>
          have h0 : f 39 0 = 0 := hS
          refine And.intro (fun c => absurd h0 c) (fun _ => ?_)
          refine Exists.intro _ (And.intro c_refused (And.intro (And.intro (Nat.zero_le _) (Nat.zero_le _)) (fun q h' hpo => ?_)))
          obtain ⟨rfl, rfl⟩ := hpo
          refine And.intro ?_ ⟨Or.inl rfl, Nat.le_refl _, Nat.le_refl _⟩
          exact x_QC_0
        | some p =>
          have h0 : f 39 0 = 1 := hS.1
          have hSC : x_SC f 39 p.1 p.2 := hS.2
          have hV : y_SV p.1 p.2 (v 2 0 0) (v 0 0 0) (v 1 0 0) := hV
          refine And.intro (fun _ => ?_) (fun c => absurd (h0.symm.trans (show f 39 0 = 0 from c)) (by decide))
          obtain ⟨Po, hPo⟩ : ∃ Po : Option Value → xH → Prop, Po = x_QC f g 22 (x_HR 12 39) dm n (y_mf v (some p) a m) := ⟨_, rfl⟩
          have loop : ∀ q i F G, i + q = m → (∀ c, c < 22 ∨ 22 + 9 < c → c ≠ 100 → c ≠ 104 → c ≠ 105 → F c = f c ∧ G c = g c) → x_J 153 (d + 6) Po 60 [some (.ref 0), some (.int (nI a)), some (.int (nI m)), some (.long (lN (y_ms v p a i))), none, some (.int (nI i))] [] (F, G, x_HR 12 39, dm, n) 0 0 := by
            intro q
            induction q with
            | zero =>
              intro i F G hi h1
              obtain rfl : i = m := by omega
              have hms := y_ms_le hV hBn hN (x := a) i (by omega)
              refine x_wp_ok ok153 [60] 6 ?_
              refine And.intro (fun _ => ?_) (fun c => absurd (nI_le (Nat.le_refl i) (by omega)) c)
              have tl := c_tell (d := d + 4) (f := F) (g := G) (ρ := x_HR 12 39) (dm := dm) (n := n) (a := y_ms v p a i) (b := i) (by omega) (by omega) (by omega)
              rw [← nI_l (show i < 2 ^ 31 by omega)] at tl
              refine Exists.intro _ (And.intro tl (And.intro (And.intro (Nat.zero_le _) (Nat.zero_le _)) (fun q h' hpo => ?_)))
              obtain ⟨rfl, rfl⟩ := hpo
              refine Exists.intro _ (And.intro c_agreed (And.intro (And.intro (Nat.zero_le _) (Nat.zero_le _)) (fun q h' hpo => ?_)))
              obtain ⟨rfl, rfl⟩ := hpo
              refine And.intro ?_ ⟨Or.inr rfl, Nat.le_refl _, Nat.le_refl _⟩
              rw [hPo]
              refine ⟨_, _, rfl, rfl, x_up_s _ _ _ _, fun j z => (x_up_j z).trans (by rw [(h1 0 (by decide) (by decide) (by decide) (by decide)).1]), ?_, fun c z0 z1 z2 z3 z4 => ⟨(x_up_k z0).trans (h1 c z1 z2 z3 z4).1, (x_up_k z0).trans ((x_up_k z0).trans (h1 c z1 z2 z3 z4).2)⟩⟩
              rw [x_up_c, x_up_c, (h1 0 (by decide) (by decide) (by decide) (by decide)).2]
              rfl
            | succ q ih =>
              intro i F G hi h1
              have hC1 : v_C F G 12 v := v_C_fr hC (fun k _ _ => (h1 k (by omega) (by omega) (by omega) (by omega)).1) (h1 12 (by decide) (by decide) (by decide) (by decide)).2
              refine x_wp_ok ok153 [60] 6 ?_
              refine And.intro (fun c => absurd (show nI m ≤ nI i from c) (nI_ge (by omega) (by omega))) (fun _ => ?_)
              refine Exists.intro _ (And.intro (c_copyL_22_12 (d := d + 4)) (And.intro (And.intro (Nat.zero_le _) (Nat.zero_le _)) (fun q h' hpo => ?_)))
              obtain ⟨rfl, F1, G1, rfl, hcp⟩ := hpo
              have hC2 := x_CP_v hcp hC1 hB
              have hSC1 : x_SC F1 39 p.1 p.2 := x_SC_fr hSC (fun c q1 q2 => (hcp.2.2.2.2.2.1 c (by omega)).trans (h1 c (by omega) (by omega) (by omega) (by omega)).1)
              have un := c_unfold_22_39_104 (d := d) (f := F1) (g := G1) (r := 12) (t := 39) (dm := dm) (n := n) (s := p.1) (NL := p.2) (seed := a + i) hC2 hBn hN hSC1 hV (by omega)
              rw [← nI_add] at un
              refine Exists.intro _ (And.intro un (And.intro (And.intro (Nat.zero_le _) (Nat.zero_le _)) (fun q h' hpo => ?_)))
              obtain ⟨F2, G2, rfl, rfl, hF, _⟩ := hpo
              have hF : x_EC F1 G1 22 104 p.1 p.2 F2 G2 (y_life v p (a + i)) := hF
              have hBE := y_life_B (p := p) (seed := a + i) hV hBn hN (by omega)
              have hbo := v_out_le hBE
              have hvE : v_C F2 G2 22 (y_life v p (a + i)).2.2.1 := hF.1
              have fr1 := hF.2.2.2.2.2.2.2.2.1
              have fr2 := hF.2.2.2.2.2.2.2.2.2.1
              refine Exists.intro _ (And.intro (c_outNow_22 (d := d + 3) hvE hBE) (And.intro (And.intro (Nat.zero_le _) (Nat.zero_le _)) (fun q h' hpo => ?_)))
              obtain ⟨rfl, rfl⟩ := hpo
              have e := ih (i + 1) F2 G2 (by omega) (fun c z1 z2 z3 z4 => ⟨(fr1 c z1 z2 z3 z4).trans ((hcp.2.2.2.2.2.1 c z1).trans (h1 c z1 z2 z3 z4).1), (fr2 c z1 z2 z3).trans ((hcp.2.2.2.2.2.2 c (by omega) (by omega)).trans (h1 c z1 z2 z3 z4).2)⟩)
              rw [← nI_1o, show y_ms v p a (i + 1) = y_ms v p a i + v_out (y_life v p (a + i)).2.2.1 from rfl, ← lN_add, ← nI_l (show v_out (y_life v p (a + i)).2.2.1 < 2 ^ 31 by omega)] at e
              exact e
          rw [← hPo]
          exact loop m 0 f g (by omega) (fun _ _ _ _ _ => ⟨rfl, rfl⟩)
      · have c : ¬ nI a + nI m - nI 1 ≤ nI 9999 := c
        rw [eq, nI_leI (by omega) (by decide)] at c
        rw [show y_mok (nI a) (nI m) = false by unfold y_mok; rw [hx, hy, ea, em, decide_eq_false (by omega)]; rfl]
        refine Exists.intro _ (And.intro c_refused (And.intro (And.intro (Nat.zero_le _) (Nat.zero_le _)) (fun q h' hpo => ?_)))
        obtain ⟨rfl, rfl⟩ := hpo
        refine And.intro ?_ ⟨Or.inl rfl, Nat.le_refl _, Nat.le_refl _⟩
        exact x_QC_0
theorem c_mean_22_39 {x y : Int32} (hC : v_C f g 22 v) (hBn : v_Bn N v) (hN : N + 2 ^ 33 < 2 ^ 60) (hS : x_SO f 39 S) (hV : y_SO v S) : x_Ct 153 (d + 6) [.ref 0, .int x, .int y] (f, g, x_HR 22 39, dm, n) (x_QC f g 12 (x_HR 22 39) dm n (sp_mean v S x y)) := by
  have hB := v_Bn_B hBn (by omega)
  unfold sp_mean
  refine x_Ct_w (by decide) (Nat.le_of_ble_eq_true rfl) ok153 [60] 6 ?_
  refine Exists.intro _ (And.intro (c_within (x := x) (lo := 0) (hi := 9999)) (And.intro (And.intro (Nat.zero_le _) (Nat.zero_le _)) (fun q h' hpo => ?_)))
  obtain ⟨rfl, rfl⟩ := hpo
  cases hx : x_wi x 0 9999 with
  | false =>
    refine And.intro (fun _ => ?_) (fun c => absurd rfl c)
    refine Exists.intro _ (And.intro c_refused (And.intro (And.intro (Nat.zero_le _) (Nat.zero_le _)) (fun q h' hpo => ?_)))
    obtain ⟨rfl, rfl⟩ := hpo
    refine And.intro ?_ ⟨Or.inl rfl, Nat.le_refl _, Nat.le_refl _⟩
    rw [show y_mok x y = false by unfold y_mok; rw [hx]; rfl]
    exact x_QC_0
  | true =>
    refine And.intro (fun c => absurd c (by decide)) (fun _ => ?_)
    refine Exists.intro _ (And.intro (c_within (x := y) (lo := 1) (hi := 20)) (And.intro (And.intro (Nat.zero_le _) (Nat.zero_le _)) (fun q h' hpo => ?_)))
    obtain ⟨rfl, rfl⟩ := hpo
    cases hy : x_wi y 1 20 with
    | false =>
      refine And.intro (fun _ => ?_) (fun c => absurd rfl c)
      refine Exists.intro _ (And.intro c_refused (And.intro (And.intro (Nat.zero_le _) (Nat.zero_le _)) (fun q h' hpo => ?_)))
      obtain ⟨rfl, rfl⟩ := hpo
      refine And.intro ?_ ⟨Or.inl rfl, Nat.le_refl _, Nat.le_refl _⟩
      rw [show y_mok x y = false by unfold y_mok; rw [hx, hy]; rfl]
      exact x_QC_0
    | true =>
      refine And.intro (fun c => absurd c (by decide)) (fun _ => ?_)
      obtain ⟨a, _, ha, rfl⟩ := x_wi_t (lo := 0) (hi := 9999) hx (by decide) (by decide)
      obtain ⟨m, hm1, hm, rfl⟩ := x_wi_t (lo := 1) (hi := 20) hy (by decide) (by decide)
      have ea : x_c (nI a) = a := nI_clamp (by omega)
      have em : x_c (nI m) = m := nI_clamp (by omega)
      have eq : nI a + nI m - nI 1 = nI (a + m - 1) := by rw [nI_add, pk_sub (by omega)]
      refine And.intro (fun c => ?_) (fun c => ?_)
      · have c : nI a + nI m - nI 1 ≤ nI 9999 := c
        rw [eq, nI_leI (by omega) (by decide)] at c
        rw [show y_mok (nI a) (nI m) = true by unfold y_mok; rw [hx, hy, ea, em, decide_eq_true (by omega)]; rfl, ea, em]
        cases S with
        | none =>
          have h0 : f 39 0 = 0 := hS
          refine And.intro (fun c => absurd h0 c) (fun _ => ?_)
          refine Exists.intro _ (And.intro c_refused (And.intro (And.intro (Nat.zero_le _) (Nat.zero_le _)) (fun q h' hpo => ?_)))
          obtain ⟨rfl, rfl⟩ := hpo
          refine And.intro ?_ ⟨Or.inl rfl, Nat.le_refl _, Nat.le_refl _⟩
          exact x_QC_0
        | some p =>
          have h0 : f 39 0 = 1 := hS.1
          have hSC : x_SC f 39 p.1 p.2 := hS.2
          have hV : y_SV p.1 p.2 (v 2 0 0) (v 0 0 0) (v 1 0 0) := hV
          refine And.intro (fun _ => ?_) (fun c => absurd (h0.symm.trans (show f 39 0 = 0 from c)) (by decide))
          obtain ⟨Po, hPo⟩ : ∃ Po : Option Value → xH → Prop, Po = x_QC f g 12 (x_HR 22 39) dm n (y_mf v (some p) a m) := ⟨_, rfl⟩
          have loop : ∀ q i F G, i + q = m → (∀ c, c < 12 ∨ 12 + 9 < c → c ≠ 100 → c ≠ 104 → c ≠ 105 → F c = f c ∧ G c = g c) → x_J 153 (d + 6) Po 60 [some (.ref 0), some (.int (nI a)), some (.int (nI m)), some (.long (lN (y_ms v p a i))), none, some (.int (nI i))] [] (F, G, x_HR 22 39, dm, n) 0 0 := by
            intro q
            induction q with
            | zero =>
              intro i F G hi h1
              obtain rfl : i = m := by omega
              have hms := y_ms_le hV hBn hN (x := a) i (by omega)
              refine x_wp_ok ok153 [60] 6 ?_
              refine And.intro (fun _ => ?_) (fun c => absurd (nI_le (Nat.le_refl i) (by omega)) c)
              have tl := c_tell (d := d + 4) (f := F) (g := G) (ρ := x_HR 22 39) (dm := dm) (n := n) (a := y_ms v p a i) (b := i) (by omega) (by omega) (by omega)
              rw [← nI_l (show i < 2 ^ 31 by omega)] at tl
              refine Exists.intro _ (And.intro tl (And.intro (And.intro (Nat.zero_le _) (Nat.zero_le _)) (fun q h' hpo => ?_)))
              obtain ⟨rfl, rfl⟩ := hpo
              refine Exists.intro _ (And.intro c_agreed (And.intro (And.intro (Nat.zero_le _) (Nat.zero_le _)) (fun q h' hpo => ?_)))
              obtain ⟨rfl, rfl⟩ := hpo
              refine And.intro ?_ ⟨Or.inr rfl, Nat.le_refl _, Nat.le_refl _⟩
              rw [hPo]
              refine ⟨_, _, rfl, rfl, x_up_s _ _ _ _, fun j z => (x_up_j z).trans (by rw [(h1 0 (by decide) (by decide) (by decide) (by decide)).1]), ?_, fun c z0 z1 z2 z3 z4 => ⟨(x_up_k z0).trans (h1 c z1 z2 z3 z4).1, (x_up_k z0).trans ((x_up_k z0).trans (h1 c z1 z2 z3 z4).2)⟩⟩
              rw [x_up_c, x_up_c, (h1 0 (by decide) (by decide) (by decide) (by decide)).2]
              rfl
            | succ q ih =>
              intro i F G hi h1
              have hC1 : v_C F G 22 v := v_C_fr hC (fun k _ _ => (h1 k (by omega) (by omega) (by omega) (by omega)).1) (h1 22 (by decide) (by decide) (by decide) (by decide)).2
              refine x_wp_ok ok153 [60] 6 ?_
              refine And.intro (fun c => absurd (show nI m ≤ nI i from c) (nI_ge (by omega) (by omega))) (fun _ => ?_)
              refine Exists.intro _ (And.intro (c_copyL_12_22 (d := d + 4)) (And.intro (And.intro (Nat.zero_le _) (Nat.zero_le _)) (fun q h' hpo => ?_)))
              obtain ⟨rfl, F1, G1, rfl, hcp⟩ := hpo
              have hC2 := x_CP_v hcp hC1 hB
              have hSC1 : x_SC F1 39 p.1 p.2 := x_SC_fr hSC (fun c q1 q2 => (hcp.2.2.2.2.2.1 c (by omega)).trans (h1 c (by omega) (by omega) (by omega) (by omega)).1)
              have un := c_unfold_12_39_104 (d := d) (f := F1) (g := G1) (r := 22) (t := 39) (dm := dm) (n := n) (s := p.1) (NL := p.2) (seed := a + i) hC2 hBn hN hSC1 hV (by omega)
              rw [← nI_add] at un
              refine Exists.intro _ (And.intro un (And.intro (And.intro (Nat.zero_le _) (Nat.zero_le _)) (fun q h' hpo => ?_)))
              obtain ⟨F2, G2, rfl, rfl, hF, _⟩ := hpo
              have hF : x_EC F1 G1 12 104 p.1 p.2 F2 G2 (y_life v p (a + i)) := hF
              have hBE := y_life_B (p := p) (seed := a + i) hV hBn hN (by omega)
              have hbo := v_out_le hBE
              have hvE : v_C F2 G2 12 (y_life v p (a + i)).2.2.1 := hF.1
              have fr1 := hF.2.2.2.2.2.2.2.2.1
              have fr2 := hF.2.2.2.2.2.2.2.2.2.1
              refine Exists.intro _ (And.intro (c_outNow_12 (d := d + 3) hvE hBE) (And.intro (And.intro (Nat.zero_le _) (Nat.zero_le _)) (fun q h' hpo => ?_)))
              obtain ⟨rfl, rfl⟩ := hpo
              have e := ih (i + 1) F2 G2 (by omega) (fun c z1 z2 z3 z4 => ⟨(fr1 c z1 z2 z3 z4).trans ((hcp.2.2.2.2.2.1 c z1).trans (h1 c z1 z2 z3 z4).1), (fr2 c z1 z2 z3).trans ((hcp.2.2.2.2.2.2 c (by omega) (by omega)).trans (h1 c z1 z2 z3 z4).2)⟩)
              rw [← nI_1o, show y_ms v p a (i + 1) = y_ms v p a i + v_out (y_life v p (a + i)).2.2.1 from rfl, ← lN_add, ← nI_l (show v_out (y_life v p (a + i)).2.2.1 < 2 ^ 31 by omega)] at e
              exact e
          rw [← hPo]
          exact loop m 0 f g (by omega) (fun _ _ _ _ _ => ⟨rfl, rfl⟩)
      · have c : ¬ nI a + nI m - nI 1 ≤ nI 9999 := c
        rw [eq, nI_leI (by omega) (by decide)] at c
        rw [show y_mok (nI a) (nI m) = false by unfold y_mok; rw [hx, hy, ea, em, decide_eq_false (by omega)]; rfl]
        refine Exists.intro _ (And.intro c_refused (And.intro (And.intro (Nat.zero_le _) (Nat.zero_le _)) (fun q h' hpo => ?_)))
        obtain ⟨rfl, rfl⟩ := hpo
        refine And.intro ?_ ⟨Or.inl rfl, Nat.le_refl _, Nat.le_refl _⟩
        exact x_QC_0
theorem m_mean {x y : Int32} (hM : v_M (f 501) 0 v) (hBn : v_Bn N v) (hN : N + 2 ^ 33 < 2 ^ 60) (hS : x_SN (f 501) S) (hV : y_SO v S) : x_Ct 324 (d + 9) [.ref 500, .int x, .int y] (f, g, x_HR r t, dm, n) (x_QD f g (x_HR r t) dm n (sp_mean v S x y)) := by
  have hB := v_Bn_B hBn (by omega)
  unfold sp_mean
  refine x_Ct_w (by decide) (Nat.le_of_ble_eq_true rfl) ok324 [71] 6 ?_
  refine Exists.intro _ (And.intro (m_isFrom (lo := 0) (hi := 9999)) (And.intro (And.intro (Nat.zero_le _) (Nat.zero_le _)) (fun q h' hpo => ?_)))
  obtain ⟨rfl, rfl⟩ := hpo
  rw [x_wl_wi (lo' := 0) (hi' := 9999) rfl rfl]
  cases hx : x_wi x 0 9999 with
  | false =>
    refine And.intro (fun _ => ?_) (fun c => absurd rfl c)
    refine Exists.intro _ (And.intro (m_is (w := 1)) (And.intro (And.intro (Nat.zero_le _) (Nat.zero_le _)) (fun q h' hpo => ?_)))
    obtain ⟨rfl, rfl⟩ := hpo
    refine And.intro ?_ ⟨Or.inl rfl, Nat.le_refl _, Nat.le_refl _⟩
    rw [show y_mok x y = false by unfold y_mok; rw [hx]; rfl]
    exact x_QD_0
  | true =>
    refine And.intro (fun c => absurd c (by decide)) (fun _ => ?_)
    refine Exists.intro _ (And.intro (m_isFrom (lo := 1) (hi := 20)) (And.intro (And.intro (Nat.zero_le _) (Nat.zero_le _)) (fun q h' hpo => ?_)))
    obtain ⟨rfl, rfl⟩ := hpo
    rw [x_wl_wi (lo' := 1) (hi' := 20) rfl rfl]
    cases hy : x_wi y 1 20 with
    | false =>
      refine And.intro (fun _ => ?_) (fun c => absurd rfl c)
      refine Exists.intro _ (And.intro (m_is (w := 1)) (And.intro (And.intro (Nat.zero_le _) (Nat.zero_le _)) (fun q h' hpo => ?_)))
      obtain ⟨rfl, rfl⟩ := hpo
      refine And.intro ?_ ⟨Or.inl rfl, Nat.le_refl _, Nat.le_refl _⟩
      rw [show y_mok x y = false by unfold y_mok; rw [hx, hy]; rfl]
      exact x_QD_0
    | true =>
      refine And.intro (fun c => absurd c (by decide)) (fun _ => ?_)
      obtain ⟨a, _, ha, rfl⟩ := x_wi_t (lo := 0) (hi := 9999) hx (by decide) (by decide)
      obtain ⟨m, hm1, hm, rfl⟩ := x_wi_t (lo := 1) (hi := 20) hy (by decide) (by decide)
      have ea : x_c (nI a) = a := nI_clamp (by omega)
      have em : x_c (nI m) = m := nI_clamp (by omega)
      have eq : nI a + nI m - nI 1 = nI (a + m - 1) := by rw [nI_add, pk_sub (by omega)]
      refine And.intro (fun c => ?_) (fun c => ?_)
      · have c : nI a + nI m - nI 1 ≤ nI 9999 := c
        rw [eq, nI_leI (by omega) (by decide)] at c
        rw [show y_mok (nI a) (nI m) = true by unfold y_mok; rw [hx, hy, ea, em, decide_eq_true (by omega)]; rfl, ea, em]
        refine And.intro (x_ix_nI (j := 11) (by decide) (by decide)) ?_
        cases S with
        | none =>
          have h0 : f 501 11 = -1 := hS
          refine And.intro (fun c => absurd h0 c) (fun _ => ?_)
          refine Exists.intro _ (And.intro (m_is (w := 6)) (And.intro (And.intro (Nat.zero_le _) (Nat.zero_le _)) (fun q h' hpo => ?_)))
          obtain ⟨rfl, rfl⟩ := hpo
          refine And.intro ?_ ⟨Or.inl rfl, Nat.le_refl _, Nat.le_refl _⟩
          exact x_QD_0
        | some p =>
          have hS : x_SM (f 501) p.1 p.2 := hS
          have hV : y_SV p.1 p.2 (v 2 0 0) (v 0 0 0) (v 1 0 0) := hV
          have hNL := hV.1
          refine And.intro (fun _ => ?_) (fun c => absurd (show f 501 11 = -1 from c) (by rw [hS.1]; exact x_nIm (by omega)))
          obtain ⟨Po, hPo⟩ : ∃ Po : Option Value → xH → Prop, Po = x_QD f g (x_HR r t) dm n (y_mf v (some p) a m) := ⟨_, rfl⟩
          have loop : ∀ q i F, i + q = m → (∀ j, F 501 j = if 2320 ≤ j ∧ j < 2416 then f 501 (j - 2320) else f 501 j) → (∀ j, j ≠ 32 → j ≠ 33 → F 500 j = f 500 j) → (∀ c, c ≠ 500 → c ≠ 501 → c ≠ 509 → c ≠ 510 → c ≠ 515 → c ≠ 516 → F c = f c) → x_J 324 (d + 9) Po 71 [some (.ref 500), some (.int (nI a)), some (.int (nI m)), some (.long (lN (y_ms v p a i))), none, some (.int (nI i))] [] (F, g, x_HR r t, dm, n) 0 0 := by
            intro q
            induction q with
            | zero =>
              intro i F hi h1 h2 h3
              obtain rfl : i = m := by omega
              have hms := y_ms_le hV hBn hN (x := a) i (by omega)
              refine x_wp_ok ok324 [71] 6 ?_
              refine And.intro (fun _ => ?_) (fun c => absurd (nI_le (Nat.le_refl i) (by omega)) c)
              have tl := m_tells (d := d + 7) (f := F) (g := g) (ρ := x_HR r t) (dm := dm) (n := n) (a := y_ms v p a i) (b := i) (by omega) (by omega) (by omega)
              rw [← nI_l (show i < 2 ^ 31 by omega)] at tl
              refine Exists.intro _ (And.intro tl (And.intro (And.intro (Nat.zero_le _) (Nat.zero_le _)) (fun q h' hpo => ?_)))
              obtain ⟨rfl, rfl⟩ := hpo
              refine And.intro ?_ ⟨Or.inr rfl, Nat.le_refl _, Nat.le_refl _⟩
              rw [hPo]
              refine ⟨_, _, rfl, rfl, x_up_s _ _ _ _, fun j z1 z2 z3 => (x_up_j z1).trans (h2 j z2 z3), fun j z => ?_, ?_, fun c z => (x_up_k z).trans (x_up_k z), fun c z0 z1 z2 z3 z4 z5 => (x_up_k z0).trans (h3 c z0 z1 z2 z3 z4 z5)⟩
              · show F 501 j = f 501 j
                rw [h1 j, if_neg (by omega)]
              · rw [x_up_c, x_up_c]
                rfl
            | succ q ih =>
              intro i F hi h1 h2 h3
              have hM1 : v_M (F 501) 0 v := v_M_mv hB hM (fun j hj => by rw [h1 (0 + j), if_neg (by omega)])
              have hS1 : x_SM (F 501) p.1 p.2 := x_SM_fr2 hS hNL (by rw [h1 11, if_neg (by decide)]) (fun j z1 z2 => by rw [h1 j, if_neg (by omega)])
              refine x_wp_ok ok324 [71] 6 ?_
              refine And.intro (fun c => absurd (show nI m ≤ nI i from c) (nI_ge (by omega) (by omega))) (fun _ => ?_)
              have lv := m_lives (d := d) (f := F) (g := g) (r := r) (t := t) (dm := dm) (n := n) (s := p.1) (NL := p.2) (seed := a + i) hM1 hBn hN hS1 hV (by omega)
              rw [← nI_add] at lv
              refine Exists.intro _ (And.intro lv (And.intro (And.intro (Nat.zero_le _) (Nat.zero_le _)) (fun q h' hpo => ?_)))
              obtain ⟨F1, rfl, rfl, hF⟩ := hpo
              have hvE : v_M (F1 501) 0 (y_life v p (a + i)).2.2.1 := hF.1
              have g1 := hF.2.1
              have g2 := hF.2.2.2.1
              have g3 := hF.2.2.2.2.2.2.2.2.2.2.2
              have hBE := y_life_B (p := p) (seed := a + i) hV hBn hN (by omega)
              have hbo := v_out_le hBE
              refine Exists.intro _ (And.intro (m_out (d := d + 6) hvE hBE) (And.intro (And.intro (Nat.zero_le _) (Nat.zero_le _)) (fun q h' hpo => ?_)))
              obtain ⟨rfl, rfl⟩ := hpo
              refine Exists.intro _ (And.intro (m_restores (d := d + 8) (b := 2320) (by decide) (by decide)) (And.intro (And.intro (Nat.zero_le _) (Nat.zero_le _)) (fun q h' hpo => ?_)))
              obtain ⟨rfl, F2, rfl, k1, k2⟩ := hpo
              have e := ih (i + 1) F2 (by omega) (fun j => by
                rw [k2 j]
                by_cases z : j < 96
                · rw [if_pos z, if_neg (by omega), g1 (2320 + j) (by omega), h1 (2320 + j), if_pos (by omega), Nat.add_sub_cancel_left]
                · rw [if_neg z, g1 j (by omega), h1 j]) (fun j z1 z2 => by rw [k1 500 (by decide)]; exact (g3 j z1 z2).trans (h2 j z1 z2)) (fun c z0 z1 z2 z3 z4 z5 => (k1 c z1).trans ((g2 c z1 z2 z3 z4 z5 z0).trans (h3 c z0 z1 z2 z3 z4 z5)))
              rw [← nI_1o, show y_ms v p a (i + 1) = y_ms v p a i + v_out (y_life v p (a + i)).2.2.1 from rfl, ← lN_add, ← nI_l (show v_out (y_life v p (a + i)).2.2.1 < 2 ^ 31 by omega)] at e
              exact e
          refine Exists.intro _ (And.intro (m_keeps (d := d + 8) (b := 2320) (by decide) (by decide)) (And.intro (And.intro (Nat.zero_le _) (Nat.zero_le _)) (fun q h' hpo => ?_)))
          obtain ⟨rfl, F, rfl, k1, k2⟩ := hpo
          rw [← hPo]
          exact loop m 0 F (by omega) k2 (fun j _ _ => by rw [k1 500 (by decide)]) (fun c _ z _ _ _ _ => k1 c z)
      · have c : ¬ nI a + nI m - nI 1 ≤ nI 9999 := c
        rw [eq, nI_leI (by omega) (by decide)] at c
        rw [show y_mok (nI a) (nI m) = false by unfold y_mok; rw [hx, hy, ea, em, decide_eq_false (by omega)]; rfl]
        refine Exists.intro _ (And.intro (m_is (w := 1)) (And.intro (And.intro (Nat.zero_le _) (Nat.zero_le _)) (fun q h' hpo => ?_)))
        obtain ⟨rfl, rfl⟩ := hpo
        refine And.intro ?_ ⟨Or.inl rfl, Nat.le_refl _, Nat.le_refl _⟩
        exact x_QD_0
end C66
