/-- what a deed of the model leaves: its answer, STATUS, its view; the marks' slots, the REIGNS and all else stay -/
def x_mk (k : Nat) : Bool := k == 500 || (k == 501 || (decide (509 ≤ k) && decide (k ≤ 514)))
def x_PM (f : Nat → Nat → Int32) (g : Nat → Nat → Int64) (ρ : Nat → Nat → Option Nat) (dm : List Nat) (n : Nat) (w : Value) (s : Int32) (v' : xV) : Option Value → xH → Prop := fun q h' =>
  ∃ f' g', h' = (f', g', ρ, dm, n) ∧ q = some w ∧ v_M (f' 501) 0 v' ∧ (∀ j, 96 ≤ j → j < 1856 → f' 501 j = f 501 j) ∧ f' 501 11 = f 501 11 ∧ f' 500 2 = s ∧ (∀ j, j ≠ 2 → j ≠ 27 → j ≠ 31 → f' 500 j = f 500 j) ∧ (∀ k, x_mk k = false → f' k = f k) ∧ (∀ k, k ≠ 511 → g' k = g k)
theorem x_mk_ne {k : Nat} (h : x_mk k = false) : k ≠ 500 ∧ k ≠ 501 ∧ ¬ (509 ≤ k ∧ k ≤ 514) := by
  simp only [x_mk, Bool.or_eq_false_iff, beq_eq_false_iff_ne, Bool.and_eq_false_iff, decide_eq_false_iff_not] at h
  omega
theorem v_M_16 {a : Nat → Int32} {v : xV} (h : v_M a 0 v) (hB : v_B v) (x : Nat) : v_M (va_up a 9 (nI (min 999999999 x))) 0 (v_set v 16 0 0 x) := by
  refine ⟨fun c i j hv => ?_, by rw [v_set_s]; exact x_us, by rw [v_set_c (by decide)]; exact (x_un (by decide)).trans h.2.2⟩
  have hv := (v_ok_set (v := v) (c := 16) (by decide)).mp hv
  have := v_ok_le hv
  obtain ⟨-, n9, -, -⟩ := v_pm_lt (v_B_K hB) (v_B_G hB) (v_B_P hB) hv
  rw [v_set_c (by omega), x_un (by omega)]
  exact h.1 c i j hv
theorem v_M_17 {a : Nat → Int32} {v : xV} (h : v_M a 0 v) (hB : v_B v) (x : Nat) : v_M (va_up a 10 (nI (min 999999999 x))) 0 (v_set v 17 0 0 x) := by
  refine ⟨fun c i j hv => ?_, by rw [v_set_c (by decide)]; exact (x_un (by decide)).trans h.2.1, by rw [v_set_s]; exact x_us⟩
  have hv := (v_ok_set (v := v) (c := 17) (by decide)).mp hv
  have := v_ok_le hv
  obtain ⟨-, -, n10, -⟩ := v_pm_lt (v_B_K hB) (v_B_G hB) (v_B_P hB) hv
  rw [v_set_c (by omega), x_un (by omega)]
  exact h.1 c i j hv
/-- the answer, STATUS, and what is then, of a call that asks whether its numbers can be (1) and whether it can be (7) -/
def x_sp (ok : Bool) (cant : Bool) (w : Int32) (v' v : xV) : Int32 × Int32 × xV := match ok, cant with
  | false, _ => (-1, 1, v)
  | true, true => (-1, 7, v)
  | true, false => (w, 0, v')
section C22
variable {f : Nat → Nat → Int32} {g : Nat → Nat → Int64} {r t : Nat} {dm : List Nat} {n d : Nat} {v : xV} {h : xH}
/-- the same state, with STATUS told -/
theorem x_PM_st {v0 v' : xV} {a' : Nat → Int32} {w : Value} {s : Int32} (hM : v_M a' 0 v') (h1 : ∀ j, 96 ≤ j → a' j = f 501 j) (h2 : a' 11 = f 501 11) {f' : Nat → Nat → Int32} (e1 : f' 501 = a') (e2 : ∀ j, f' 500 j = if j = 2 then s else f 500 j) (e3 : ∀ k, k ≠ 500 → k ≠ 501 → f' k = f k) : x_PM f g (x_HR r t) dm n w s v' (some w) (f', g, x_HR r t, dm, n) :=
  ⟨f', g, rfl, rfl, by rw [e1]; exact hM, fun j hj _ => by rw [e1]; exact h1 j hj, by rw [e1]; exact h2, by rw [e2]; exact if_pos rfl, fun j hj _ _ => by rw [e2]; exact if_neg hj, fun k hk => e3 k (x_mk_ne hk).1 (x_mk_ne hk).2.1, fun _ _ => rfl⟩
theorem x_s500 {F : Nat → Nat → Int32} {s : Int32} (hF : F 500 = f 500) : ∀ j, x_up F 500 2 s 500 j = if j = 2 then s else f 500 j := by
  intro j
  by_cases hj : j = 2
  · subst hj
    rw [if_pos rfl, x_up_s]
  · rw [if_neg hj, x_up_j hj, hF]
theorem m_worthV {k w : Nat} (hk : k < 100) (hw : f 501 (12 + k) = nI w) : x_V 232 d [.ref 500, .int (nI k)] (f, g, x_HR r t, dm, n) (.int (nI w)) (f, g, x_HR r t, dm, n) := hw ▸ m_worthOf hk
theorem m_addsTo {W A m : Nat} {y : Int32} (hW : W = 9 ∨ W = 10) (hA : f 501 W = nI (min 999999999 A)) (hy : y = nI m) (hm : m ≤ 100000000) : x_V 250 (d + 1) [.ref 500, .int (nI W), .int y] (f, g, x_HR r t, dm, n) (.int y) (x_up f 501 W (nI (min 999999999 (A + m))), g, x_HR r t, dm, n) := by
  subst hy
  have hb : min 999999999 A ≤ 999999999 := Nat.min_le_left _ _
  have e : (if f 501 W + nI m < nI 999999999 then f 501 W + nI m else nI 999999999) = nI (min 999999999 (A + m)) := by
    rw [hA, nI_add, x_min_nI (by decide) (by omega)]
    congr 1
    omega
  refine x_Ct_w (by decide) (Nat.le_of_ble_eq_true rfl) ok250 [] 2 ?_
  refine And.intro (x_ix_nI (by omega) (by omega)) ?_
  rw [nI_clamp (by omega)]
  refine And.intro (x_ix_nI (by omega) (by omega)) ?_
  refine And.intro ⟨rfl, ?_⟩ ⟨trivial, Nat.le_refl _, Nat.le_refl _⟩
  show (x_up f 501 (nI W).toNatClampNeg (if f 501 W + nI m < nI 999999999 then f 501 W + nI m else nI 999999999), g, x_HR r t, dm, n) = _
  rw [e, nI_clamp (by omega)]
theorem m_pays {p k m : Nat} (hM : v_M (f 501) 0 v) (hB : v_B v) (hp : p < v 2 0 0) (hk : k < v 0 0 0) (hm : m ≤ 999) : x_Ct 251 (d + 2) [.ref 500, .int (nI p), .int (nI k), .int (nI m)] (f, g, x_HR r t, dm, n) (if 9999 < v 13 p k + m then (fun q h' => q = some (.int 0) ∧ h' = (f, g, x_HR r t, dm, n)) else (fun q h' => q = some (.int 1) ∧ h' = (va_up f 501 (va_up (va_up (f 501) (27 + 14 * p + k) (nI (v 13 p k + m))) 9 (nI (min 999999999 (v 16 0 0 + m * v 9 k 0)))), g, x_HR r t, dm, n))) := by
  have bK := v_B_K hB
  have bP := v_B_P hB
  have o13 : v_ok v 13 p k := show p < v 2 0 0 ∧ k < v 0 0 0 from ⟨hp, hk⟩
  have o9 : v_ok v 9 k 0 := show k < v 0 0 0 ∧ 0 = 0 from ⟨hk, rfl⟩
  have h13 : f 501 (27 + 14 * p + k) = nI (v 13 p k) := v_M_at hM o13
  have h9 : f 501 (12 + k) = nI (v 9 k 0) := v_M_at hM o9
  have h16 : f 501 9 = nI (min 999999999 (v 16 0 0)) := hM.2.1
  have b13 : v 13 p k ≤ 9999 := (hB.1 13 p k o13).2
  have b9 : v 9 k 0 ≤ 500 := (hB.1 9 k 0 o9).2
  have bm : m * v 9 k 0 ≤ 999 * 500 := Nat.mul_le_mul hm b9
  refine x_Ct_w (by decide) (Nat.le_of_ble_eq_true rfl) ok251 [] 6 ?_
  refine Exists.intro _ (And.intro m_wholeAt (And.intro (And.intro (Nat.zero_le _) (Nat.zero_le _)) (fun q h' hpo => ?_)))
  obtain ⟨rfl, rfl⟩ := hpo
  refine And.intro (x_ix_nI (by omega) (by omega)) ?_
  rw [nI_clamp (by omega)]
  refine And.intro (fun c => ?_) (fun c => ?_)
  · have c : f 501 (27 + 14 * p + k) + nI m ≤ nI 9999 := c
    rw [h13, nI_add, nI_leI (by omega) (by omega)] at c
    rw [if_neg (by omega)]
    refine And.intro (x_ix_nI (by omega) (by omega)) ?_
    rw [nI_clamp (by omega)]
    refine And.intro (x_ix_nI (by omega) (by omega)) ?_
    rw [nI_clamp (by omega)]
    refine Exists.intro _ (And.intro (m_worthV (w := v 9 k 0) (by omega) ((x_up_j (by omega)).trans h9)) (And.intro (And.intro (Nat.zero_le _) (Nat.zero_le _)) (fun q h' hpo => ?_)))
    obtain ⟨rfl, rfl⟩ := hpo
    refine Exists.intro _ (And.intro (m_addsTo (W := 9) (A := v 16 0 0) (m := m * v 9 k 0) (Or.inl rfl) ((x_up_j (by omega)).trans h16) (pk_mul m (v 9 k 0)) (by omega)) (And.intro (And.intro (Nat.zero_le _) (Nat.zero_le _)) (fun q h' hpo => ?_)))
    obtain ⟨rfl, rfl⟩ := hpo
    refine And.intro ⟨rfl, ?_⟩ ⟨Or.inr rfl, Nat.le_refl _, Nat.le_refl _⟩
    show (x_up (x_up f 501 (27 + 14 * p + k) (f 501 (27 + 14 * p + k) + nI m)) 501 9 _, g, x_HR r t, dm, n) = _
    rw [h13, nI_add]
    congr 1
    funext a
    by_cases ha : a = 501
    · subst ha
      rw [x_up_c, x_up_c, x_us]
    · rw [x_up_k ha, x_up_k ha, x_un ha]
  · have c : ¬ f 501 (27 + 14 * p + k) + nI m ≤ nI 9999 := c
    rw [h13, nI_add, nI_leI (by omega) (by omega)] at c
    rw [if_pos (by omega)]
    exact And.intro ⟨rfl, rfl⟩ ⟨Or.inl rfl, Nat.le_refl _, Nat.le_refl _⟩
/-- a model's state after stores to 'at' alone, and STATUS -/
theorem x_PM_at {v' : xV} {a' : Nat → Int32} {w : Value} {s : Int32} (hM : v_M a' 0 v') (h1 : ∀ j, 96 ≤ j → a' j = f 501 j) (h2 : a' 11 = f 501 11) : x_PM f g (x_HR r t) dm n w s v' (some w) (x_up (va_up f 501 a') 500 2 s, g, x_HR r t, dm, n) :=
  x_PM_st (v0 := v') hM h1 h2 (by rw [x_up_k (by decide), x_us]) (x_s500 (x_un (by decide))) (fun k h1 h2 => by rw [x_up_k h1, x_un h2])
theorem x_PM_0 {w : Value} {s : Int32} (hM : v_M (f 501) 0 v) : x_PM f g (x_HR r t) dm n w s v (some w) (x_up f 500 2 s, g, x_HR r t, dm, n) :=
  x_PM_st (v0 := v) hM (fun _ _ => rfl) rfl (x_up_k (by decide)) (x_s500 rfl) (fun k h1 _ => x_up_k h1)
def sp_pay (v : xV) (x y z : Int32) : Int32 × Int32 × xV := x_sp ((x_ixb x (v 2 0 0) && x_ixb y (v 0 0 0)) && x_wi z 1 999) (decide (9999 < v 13 x.toNatClampNeg y.toNatClampNeg + z.toNatClampNeg)) (nI (v 13 x.toNatClampNeg y.toNatClampNeg + z.toNatClampNeg)) (d_pay v x.toNatClampNeg y.toNatClampNeg z.toNatClampNeg) v
theorem m_pay {x y z : Int32} (hM : v_M (f 501) 0 v) (hB : v_B v) : x_Ct 252 (d + 4) [.ref 500, .int x, .int y, .int z] (f, g, x_HR r t, dm, n) (x_PM f g (x_HR r t) dm n (.int (sp_pay v x y z).1) (sp_pay v x y z).2.1 (sp_pay v x y z).2.2) := by
  have bK := v_B_K hB
  have bP := v_B_P hB
  have hK : f 501 0 = nI (v 0 0 0) := v_M_at hM (c := 0) (i := 0) (j := 0) ⟨rfl, rfl⟩
  have hP : f 501 2 = nI (v 2 0 0) := v_M_at hM (c := 2) (i := 0) (j := 0) ⟨rfl, rfl⟩
  unfold sp_pay
  refine x_Ct_w (by decide) (Nat.le_of_ble_eq_true rfl) ok252 [] 8 ?_
  refine Exists.intro _ (And.intro (m_isSheet hK (by omega) hP (by omega)) (And.intro (And.intro (Nat.zero_le _) (Nat.zero_le _)) (fun q h' hpo => ?_)))
  obtain ⟨rfl, rfl⟩ := hpo
  cases hb : (x_ixb x (v 2 0 0) && x_ixb y (v 0 0 0)) with
  | false =>
    refine And.intro (fun _ => ?_) (fun c => absurd rfl c)
    refine Exists.intro _ (And.intro m_refuse (And.intro (And.intro (Nat.zero_le _) (Nat.zero_le _)) (fun q h' hpo => ?_)))
    obtain ⟨rfl, rfl⟩ := hpo
    refine And.intro ?_ ⟨trivial, Nat.le_refl _, Nat.le_refl _⟩
    exact x_PM_0 hM
  | true =>
    refine And.intro (fun c => absurd c (by decide)) (fun _ => ?_)
    refine Exists.intro _ (And.intro m_isMany (And.intro (And.intro (Nat.zero_le _) (Nat.zero_le _)) (fun q h' hpo => ?_)))
    obtain ⟨rfl, rfl⟩ := hpo
    cases hz : x_wi z 1 999 with
    | false =>
      refine And.intro (fun c => absurd rfl c) (fun _ => ?_)
      refine Exists.intro _ (And.intro m_refuse (And.intro (And.intro (Nat.zero_le _) (Nat.zero_le _)) (fun q h' hpo => ?_)))
      obtain ⟨rfl, rfl⟩ := hpo
      refine And.intro ?_ ⟨trivial, Nat.le_refl _, Nat.le_refl _⟩
      exact x_PM_0 hM
    | true =>
      refine And.intro (fun _ => ?_) (fun c => absurd c (by decide))
      rw [Bool.and_eq_true] at hb
      obtain ⟨p, hp, rfl⟩ := x_ixb_t hb.1 (by omega)
      obtain ⟨k, hk, rfl⟩ := x_ixb_t hb.2 (by omega)
      obtain ⟨m, hm1, hm, rfl⟩ := x_wi_t (lo := 1) (hi := 999) hz (by decide) (by decide)
      rw [nI_clamp (by omega), nI_clamp (by omega), nI_clamp (by omega)]
      have o13 : v_ok v 13 p k := show p < v 2 0 0 ∧ k < v 0 0 0 from ⟨hp, hk⟩
      refine Exists.intro _ (And.intro (m_pays hM hB hp hk hm) (And.intro (And.intro (Nat.zero_le _) (Nat.zero_le _)) (fun q h' hpo => ?_)))
      by_cases hc : 9999 < v 13 p k + m
      · rw [if_pos hc] at hpo
        obtain ⟨rfl, rfl⟩ := hpo
        rw [decide_eq_true hc]
        refine And.intro (fun _ => ?_) (fun c => absurd rfl c)
        refine Exists.intro _ (And.intro m_refuse (And.intro (And.intro (Nat.zero_le _) (Nat.zero_le _)) (fun q h' hpo => ?_)))
        obtain ⟨rfl, rfl⟩ := hpo
        refine And.intro ?_ ⟨trivial, Nat.le_refl _, Nat.le_refl _⟩
        exact x_PM_0 hM
      · rw [if_neg hc] at hpo
        obtain ⟨rfl, rfl⟩ := hpo
        rw [decide_eq_false hc]
        refine And.intro (fun c => absurd c (by decide)) (fun _ => ?_)
        refine Exists.intro _ (And.intro m_wholeAt (And.intro (And.intro (Nat.zero_le _) (Nat.zero_le _)) (fun q h' hpo => ?_)))
        obtain ⟨rfl, rfl⟩ := hpo
        refine And.intro (x_ix_nI (by omega) (by omega)) ?_
        rw [nI_clamp (by omega)]
        refine Exists.intro _ (And.intro m_gives (And.intro (And.intro (Nat.zero_le _) (Nat.zero_le _)) (fun q h' hpo => ?_)))
        obtain ⟨rfl, rfl⟩ := hpo
        refine And.intro ?_ ⟨trivial, Nat.le_refl _, Nat.le_refl _⟩
        have e1 : va_up f 501 (va_up (va_up (f 501) (27 + 14 * p + k) (nI (v 13 p k + m))) 9 (nI (min 999999999 (v 16 0 0 + m * v 9 k 0)))) 501 (27 + 14 * p + k) = nI (v 13 p k + m) := by rw [x_us, x_un (by omega), x_us]
        show x_PM f g (x_HR r t) dm n (.int (nI (v 13 p k + m))) 0 (d_pay v p k m) (some (.int (va_up f 501 (va_up (va_up (f 501) (27 + 14 * p + k) (nI (v 13 p k + m))) 9 (nI (min 999999999 (v 16 0 0 + m * v 9 k 0)))) 501 (27 + 14 * p + k)))) _
        rw [e1]
        have b13 : v 13 p k + m ≤ 9999 := by omega
        exact x_PM_at (v_M_16 (v_M_s0 hM hB o13 (by decide)) (v_B_set hB o13 (by decide) (by decide) (by decide) (Nat.zero_le _) b13) _) (fun j hj => by rw [x_un (by omega), x_un (by omega)]) (by rw [x_un (by decide), x_un (by omega)])
end C22
