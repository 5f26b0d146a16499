/-! WHAT A CALL ANSWERS: (answer, STATUS, the view then) -/
abbrev xS : Type := Value × Int32 × xV
def x_sq (e : Int32) (ok : Bool) (o : Option (Int32 × xV)) (v : xV) : xS := match ok, o with
  | false, _ => (.int (-1), 1, v)
  | true, none => (.int (-1), e, v)
  | true, some S => (.int S.1, 0, S.2)
def x_sr (ok : Bool) (w : Int32) (v : xV) : xS := x_sq 7 ok (some (w, v)) v
def x_oW (w0 : Int32) (o : Option (Int32 × xV)) : Int32 := match o with
  | none => w0
  | some S => S.1
def x_oB (o : Option (Int32 × xV)) : Int32 := match o with
  | none => 0
  | some _ => 1
def x_oV (v : xV) (o : Option (Int32 × xV)) : xV := match o with
  | none => v
  | some S => S.2
def s_pay (v : xV) (p k m : Nat) : Option (Int32 × xV) := if 9999 < v 13 p k + m then none else some (nI (v 13 p k + m), d_pay v p k m)
def d_tear (v : xV) (p k m : Nat) : xV := v_set (v_set v 13 p k (v 13 p k - m)) 14 p k (v 14 p k + m)
def s_tear (v : xV) (p k m : Nat) : Option (Int32 × xV) := if v 13 p k < m ∨ 9999 < v 14 p k + m then none else some (nI (v 14 p k + m), d_tear v p k m)
def s_mend (v : xV) (p k m : Nat) : Option (Int32 × xV) := if v 14 p k < m then none else some (nI (d_back v p k m), d_mend v p k m)
def s_burn (v : xV) (p k m : Nat) : Option (Int32 × xV) := if v 13 p k < m then none else some (nI (v 13 p k - m), d_burn v p k m)
def s_cross (v : xV) (p k m : Nat) : Option (Int32 × xV) := if v 13 p k < m ∨ 99999 < v 12 p 0 + d_got v k m then none else some (nI (d_got v k m), d_cross v p k m)
def s_give (v : xV) (p p2 k m : Nat) : Option (Int32 × xV) := if v 13 p k < m ∨ 9999 < v 13 p2 k + m then none else some (1, d_give v p p2 k m)
abbrev x_c (x : Int32) : Nat := x.toNatClampNeg
def sp_pay (v : xV) (x y z : Int32) : xS := x_sq 7 ((x_ixb x (v 2 0 0) && x_ixb y (v 0 0 0)) && x_wi z 1 999) (s_pay v (x_c x) (x_c y) (x_c z)) v
def sp_tear (v : xV) (x y z : Int32) : xS := x_sq 7 ((x_ixb x (v 2 0 0) && x_ixb y (v 0 0 0)) && x_wi z 1 999) (s_tear v (x_c x) (x_c y) (x_c z)) v
def sp_mend (v : xV) (x y z : Int32) : xS := x_sq 7 ((x_ixb x (v 2 0 0) && x_ixb y (v 0 0 0)) && x_wi z 1 999) (s_mend v (x_c x) (x_c y) (x_c z)) v
def sp_burn (v : xV) (x y z : Int32) : xS := x_sq 7 ((x_ixb x (v 2 0 0) && x_ixb y (v 0 0 0)) && x_wi z 1 999) (s_burn v (x_c x) (x_c y) (x_c z)) v
def sp_cross (v : xV) (x y z : Int32) : xS := x_sq 7 ((x_ixb x (v 2 0 0) && x_ixb y (v 0 0 0)) && x_wi z 1 999) (s_cross v (x_c x) (x_c y) (x_c z)) v
/-! what a deed of the model leaves: its answer, STATUS, its view; the marks' slots, the REIGNS and all else stay -/
def x_mk (k : Nat) : Bool := k == 500 || (k == 501 || (decide (509 ≤ k) && decide (k ≤ 514)))
theorem x_mk_ne {k : Nat} (h : x_mk k = false) : k ≠ 500 ∧ k ≠ 501 ∧ ¬ (509 ≤ k ∧ k ≤ 514) := by
  simp only [x_mk, Bool.or_eq_false_iff, beq_eq_false_iff_ne, Bool.and_eq_false_iff, decide_eq_false_iff_not] at h
  omega
def x_PM (f : Nat → Nat → Int32) (g : Nat → Nat → Int64) (ρ : Nat → Nat → Option Nat) (dm : List Nat) (n : Nat) (S : xS) : Option Value → xH → Prop := fun q h' =>
  ∃ F G, h' = (F, G, ρ, dm, n) ∧ q = some S.1 ∧ v_M (F 501) 0 S.2.2 ∧ (∀ j, 96 ≤ j → j < 1856 → F 501 j = f 501 j) ∧ F 501 11 = f 501 11 ∧ F 500 2 = S.2.1 ∧ (∀ j, j ≠ 2 → j ≠ 27 → j ≠ 31 → F 500 j = f 500 j) ∧ (∀ k, x_mk k = false → F k = f k) ∧ (∀ k, k ≠ 511 → G k = g k)
/-- the model's land is now v'; else nothing but the rows of sums -/
def x_ML (f F : Nat → Nat → Int32) (v' : xV) : Prop := v_M (F 501) 0 v' ∧ (∀ j, 96 ≤ j → F 501 j = f 501 j) ∧ F 501 11 = f 501 11 ∧ ∀ k, k ≠ 501 → k ≠ 509 → k ≠ 510 → F k = f k
def x_PD (f : Nat → Nat → Int32) (g : Nat → Nat → Int64) (ρ : Nat → Nat → Option Nat) (dm : List Nat) (n : Nat) (w : Int32) (v' : xV) : Option Value → xH → Prop := fun q h' => ∃ F, h' = (F, g, ρ, dm, n) ∧ q = some (.int w) ∧ x_ML f F v'
theorem v_M_16 {a : Nat → Int32} {v : xV} (h : v_M a 0 v) (bK : v 0 0 0 ≤ 4) (bG : v 1 0 0 ≤ 5) (bP : v 2 0 0 ≤ 5) (x : Nat) : v_M (va_up a 9 (nI (min 999999999 x))) 0 (v_set v 16 0 0 x) := by
  refine ⟨fun c i j hv => ?_, by rw [v_set_s]; exact x_us, by rw [v_set_c (by decide)]; exact (x_un (by decide)).trans h.2.2⟩
  have hv := (v_ok_set (v := v) (c := 16) (by decide)).mp hv
  have := v_ok_le hv
  obtain ⟨-, n9, -, -⟩ := v_pm_lt bK bG bP hv
  rw [v_set_c (by omega), x_un (by omega)]
  exact h.1 c i j hv
theorem v_M_17 {a : Nat → Int32} {v : xV} (h : v_M a 0 v) (bK : v 0 0 0 ≤ 4) (bG : v 1 0 0 ≤ 5) (bP : v 2 0 0 ≤ 5) (x : Nat) : v_M (va_up a 10 (nI (min 999999999 x))) 0 (v_set v 17 0 0 x) := by
  refine ⟨fun c i j hv => ?_, by rw [v_set_c (by decide)]; exact (x_un (by decide)).trans h.2.1, by rw [v_set_s]; exact x_us⟩
  have hv := (v_ok_set (v := v) (c := 17) (by decide)).mp hv
  have := v_ok_le hv
  obtain ⟨-, -, n10, -⟩ := v_pm_lt bK bG bP hv
  rw [v_set_c (by omega), x_un (by omega)]
  exact h.1 c i j hv
section C22
variable {f : Nat → Nat → Int32} {g : Nat → Nat → Int64} {r t : Nat} {ρ : Nat → Nat → Option Nat} {dm : List Nat} {n d : Nat} {v : xV} {h : xH}
theorem x_ML_0 (hM : v_M (f 501) 0 v) : x_ML f f v := ⟨hM, fun _ _ => rfl, rfl, fun _ _ _ _ => rfl⟩
theorem x_ML_tr {F1 F2 : Nat → Nat → Int32} {v1 v2 : xV} (h1 : x_ML f F1 v1) (h2 : x_ML F1 F2 v2) : x_ML f F2 v2 := ⟨h2.1, fun j a => (h2.2.1 j a).trans (h1.2.1 j a), h2.2.2.1.trans h1.2.2.1, fun k a b c => (h2.2.2.2 k a b c).trans (h1.2.2.2 k a b c)⟩
theorem x_ML_up {F : Nat → Nat → Int32} {j : Nat} {x : Int32} {v0 v' : xV} (h : x_ML f F v0) (hM : v_M (va_up (F 501) j x) 0 v') (hj : j < 96) (hj2 : j ≠ 11) : x_ML f (x_up F 501 j x) v' := by
  refine ⟨by rw [x_up_c]; exact hM, fun i h1 => ?_, ?_, fun k h1 h2 h3 => ?_⟩
  · rw [x_up_j (by omega)]
    exact h.2.1 i h1
  · rw [x_up_j (by omega)]
    exact h.2.2.1
  · rw [x_up_k h1]
    exact h.2.2.2 k h1 h2 h3
theorem x_ML_set {F : Nat → Nat → Int32} {v0 : xV} (h : x_ML f F v0) (bK : v0 0 0 0 ≤ 4) (bG : v0 1 0 0 ≤ 5) (bP : v0 2 0 0 ≤ 5) {c i j x : Nat} (hv : v_ok v0 c i j) (hc : 3 ≤ c) : x_ML f (x_up F 501 (v_pm c i j) (nI x)) (v_set v0 c i j x) := by
  obtain ⟨l1, -, -, l4⟩ := v_pm_lt bK bG bP hv
  have e := v_M_set h.1 bK bG bP hv hc (x := x)
  rw [Nat.zero_add] at e
  exact x_ML_up h e l1 l4
theorem x_ML_16 {F : Nat → Nat → Int32} {v0 : xV} (h : x_ML f F v0) (bK : v0 0 0 0 ≤ 4) (bG : v0 1 0 0 ≤ 5) (bP : v0 2 0 0 ≤ 5) (x : Nat) : x_ML f (x_up F 501 9 (nI (min 999999999 x))) (v_set v0 16 0 0 x) := x_ML_up h (v_M_16 h.1 bK bG bP x) (by decide) (by decide)
theorem x_ML_17 {F : Nat → Nat → Int32} {v0 : xV} (h : x_ML f F v0) (bK : v0 0 0 0 ≤ 4) (bG : v0 1 0 0 ≤ 5) (bP : v0 2 0 0 ≤ 5) (x : Nat) : x_ML f (x_up F 501 10 (nI (min 999999999 x))) (v_set v0 17 0 0 x) := x_ML_up h (v_M_17 h.1 bK bG bP x) (by decide) (by decide)
theorem x_PM_L {F : Nat → Nat → Int32} {v' : xV} {w : Value} {s : Int32} (h : x_ML f F v') : x_PM f g ρ dm n (w, s, v') (some w) (x_up F 500 2 s, g, ρ, dm, n) := by
  refine ⟨_, _, rfl, rfl, ?_, fun j a b => ?_, ?_, x_up_s _ _ _ _, fun j hj _ _ => ?_, fun k hk => ?_, fun _ _ => rfl⟩
  · rw [x_up_k (by decide)]; exact h.1
  · rw [x_up_k (by decide)]; exact h.2.1 j a
  · rw [x_up_k (by decide)]; exact h.2.2.1
  · rw [x_up_j hj, h.2.2.2 500 (by decide) (by decide) (by decide)]
  · have := x_mk_ne hk
    rw [x_up_k (by omega), h.2.2.2 k (by omega) (by omega) (by omega)]
theorem x_PM_0 {w : Value} {s : Int32} (hM : v_M (f 501) 0 v) : x_PM f g ρ dm n (w, s, v) (some w) (x_up f 500 2 s, g, ρ, dm, n) := x_PM_L (x_ML_0 hM)
theorem m_worthV {k w : Nat} (hk : k < 100) (hw : f 501 (12 + k) = nI w) : x_V 232 d [.ref 500, .int (nI k)] (f, g, x_HR r t, dm, n) (.int (nI w)) (f, g, x_HR r t, dm, n) := hw ▸ m_worthOf hk
theorem m_addsTo {W A m : Nat} {y : Int32} (hW : W = 9 ∨ W = 10) (hA : f 501 W = nI (min 999999999 A)) (hy : y = nI m) (hm : m ≤ 100000000) : x_V 250 (d + 1) [.ref 500, .int (nI W), .int y] (f, g, x_HR r t, dm, n) (.int y) (x_up f 501 W (nI (min 999999999 (A + m))), g, x_HR r t, dm, n) := by
  subst hy
  have hb : min 999999999 A ≤ 999999999 := Nat.min_le_left _ _
  have e : (if f 501 W + nI m < nI 999999999 then f 501 W + nI m else nI 999999999) = nI (min 999999999 (A + m)) := by
    rw [hA, nI_add, x_min_nI (by decide) (by omega)]
    congr 1
    omega
  refine x_Ct_w (by decide) (Nat.le_of_ble_eq_true rfl) ok250 [] 2 ?_
  refine And.intro (x_ix_nI (by omega) (by omega)) ?_
  rw [nI_clamp (by omega)]
  refine And.intro (x_ix_nI (by omega) (by omega)) ?_
  refine And.intro ⟨rfl, ?_⟩ ⟨trivial, Nat.le_refl _, Nat.le_refl _⟩
  show (x_up f 501 (nI W).toNatClampNeg (if f 501 W + nI m < nI 999999999 then f 501 W + nI m else nI 999999999), g, x_HR r t, dm, n) = _
  rw [e, nI_clamp (by omega)]
theorem m_pays {p k m : Nat} (hM : v_M (f 501) 0 v) (hB : v_B v) (hp : p < v 2 0 0) (hk : k < v 0 0 0) (hm : m ≤ 999) : x_Ct 251 (d + 2) [.ref 500, .int (nI p), .int (nI k), .int (nI m)] (f, g, x_HR r t, dm, n) (x_PD f g (x_HR r t) dm n (x_oB (s_pay v p k m)) (x_oV v (s_pay v p k m))) := by
  have bK := v_B_K hB
  have bG := v_B_G hB
  have bP := v_B_P hB
  have o13 : v_ok v 13 p k := show p < v 2 0 0 ∧ k < v 0 0 0 from ⟨by omega, by omega⟩
  have h13 : f 501 (27 + 14 * p + k) = nI (v 13 p k) := v_M_at hM o13
  have b13 : v 13 p k ≤ 9999 := (hB.1 13 p k o13).2
  have o9 : v_ok v 9 k 0 := show k < v 0 0 0 ∧ 0 = 0 from ⟨by omega, rfl⟩
  have h9 : f 501 (12 + k) = nI (v 9 k 0) := v_M_at hM o9
  have b9 : v 9 k 0 ≤ 500 := (hB.1 9 k 0 o9).2
  have l9 : 1 ≤ v 9 k 0 := (hB.1 9 k 0 o9).1
  have h16 : f 501 9 = nI (min 999999999 (v 16 0 0)) := hM.2.1
  have bm : m * v 9 k 0 ≤ 999 * 500 := Nat.mul_le_mul hm b9
  unfold s_pay
  refine x_Ct_w (by decide) (Nat.le_of_ble_eq_true rfl) ok251 [] 6 ?_
  refine Exists.intro _ (And.intro m_wholeAt (And.intro (And.intro (Nat.zero_le _) (Nat.zero_le _)) (fun q h' hpo => ?_)))
  obtain ⟨rfl, rfl⟩ := hpo
  refine And.intro (x_ix_nI (by omega) (by omega)) ?_
  rw [nI_clamp (by omega)]
  refine And.intro (fun c => ?_) (fun c => ?_)
  · have c : f 501 (27 + 14 * p + k) + nI m ≤ nI 9999 := c
    rw [h13, nI_add, nI_leI (by omega) (by omega)] at c
    rw [if_neg (by omega)]
    refine And.intro (x_ix_nI (by omega) (by omega)) ?_
    rw [nI_clamp (by omega)]
    refine And.intro (x_ix_nI (by omega) (by omega)) ?_
    rw [nI_clamp (by omega)]
    refine Exists.intro _ (And.intro (m_worthV (w := v 9 k 0) (by omega) ((x_up_j (by omega)).trans h9)) (And.intro (And.intro (Nat.zero_le _) (Nat.zero_le _)) (fun q h' hpo => ?_)))
    obtain ⟨rfl, rfl⟩ := hpo
    refine Exists.intro _ (And.intro (m_addsTo (W := 9) (A := v 16 0 0) (m := m * v 9 k 0) (Or.inl rfl) ((x_up_j (by omega)).trans h16) (pk_mul m (v 9 k 0)) (by omega)) (And.intro (And.intro (Nat.zero_le _) (Nat.zero_le _)) (fun q h' hpo => ?_)))
    obtain ⟨rfl, rfl⟩ := hpo
    refine And.intro ?_ ⟨Or.inr rfl, Nat.le_refl _, Nat.le_refl _⟩
    refine ⟨_, rfl, rfl, ?_⟩
    have e := x_ML_16 (x_ML_set (x_ML_0 hM) bK bG bP o13 (x := v 13 p k + m) (by decide)) bK bG bP (v 16 0 0 + m * v 9 k 0)
    rw [← nI_add (v 13 p k), ← h13] at e
    exact e
  · have c : ¬ f 501 (27 + 14 * p + k) + nI m ≤ nI 9999 := c
    rw [h13, nI_add, nI_leI (by omega) (by omega)] at c
    rw [if_pos (by omega)]
    refine And.intro ?_ ⟨Or.inl rfl, Nat.le_refl _, Nat.le_refl _⟩
    exact ⟨_, rfl, rfl, x_ML_0 hM⟩
theorem m_tears {p k m : Nat} (hM : v_M (f 501) 0 v) (hB : v_B v) (hp : p < v 2 0 0) (hk : k < v 0 0 0) (hm : m ≤ 999) : x_Ct 257 (d + 2) [.ref 500, .int (nI p), .int (nI k), .int (nI m)] (f, g, x_HR r t, dm, n) (x_PD f g (x_HR r t) dm n (x_oB (s_tear v p k m)) (x_oV v (s_tear v p k m))) := by
  have bK := v_B_K hB
  have bG := v_B_G hB
  have bP := v_B_P hB
  have o13 : v_ok v 13 p k := show p < v 2 0 0 ∧ k < v 0 0 0 from ⟨by omega, by omega⟩
  have h13 : f 501 (27 + 14 * p + k) = nI (v 13 p k) := v_M_at hM o13
  have b13 : v 13 p k ≤ 9999 := (hB.1 13 p k o13).2
  have o14 : v_ok v 14 p k := show p < v 2 0 0 ∧ k < v 0 0 0 from ⟨by omega, by omega⟩
  have h14 : f 501 (31 + 14 * p + k) = nI (v 14 p k) := v_M_at hM o14
  have b14 : v 14 p k ≤ 9999 := (hB.1 14 p k o14).2
  unfold s_tear
  refine x_Ct_w (by decide) (Nat.le_of_ble_eq_true rfl) ok257 [] 6 ?_
  refine Exists.intro _ (And.intro m_wholeAt (And.intro (And.intro (Nat.zero_le _) (Nat.zero_le _)) (fun q h' hpo => ?_)))
  obtain ⟨rfl, rfl⟩ := hpo
  refine And.intro (x_ix_nI (by omega) (by omega)) ?_
  rw [nI_clamp (by omega)]
  refine And.intro (fun c => ?_) (fun c => ?_)
  · have c : f 501 (27 + 14 * p + k) < nI m := c
    rw [h13, nI_ltI (by omega) (by omega)] at c
    rw [if_pos (by omega)]
    refine And.intro ?_ ⟨Or.inl rfl, Nat.le_refl _, Nat.le_refl _⟩
    exact ⟨_, rfl, rfl, x_ML_0 hM⟩
  · have c : ¬ f 501 (27 + 14 * p + k) < nI m := c
    rw [h13, nI_ltI (by omega) (by omega)] at c
    refine Exists.intro _ (And.intro m_tornAt (And.intro (And.intro (Nat.zero_le _) (Nat.zero_le _)) (fun q h' hpo => ?_)))
    obtain ⟨rfl, rfl⟩ := hpo
    refine And.intro (x_ix_nI (by omega) (by omega)) ?_
    rw [nI_clamp (by omega)]
    refine And.intro (fun c2 => ?_) (fun c2 => ?_)
    · have c2 : f 501 (31 + 14 * p + k) + nI m ≤ nI 9999 := c2
      rw [h14, nI_add, nI_leI (by omega) (by omega)] at c2
      rw [if_neg (by omega)]
      refine Exists.intro _ (And.intro m_wholeAt (And.intro (And.intro (Nat.zero_le _) (Nat.zero_le _)) (fun q h' hpo => ?_)))
      obtain ⟨rfl, rfl⟩ := hpo
      refine And.intro (x_ix_nI (by omega) (by omega)) ?_
      rw [nI_clamp (by omega)]
      refine And.intro (x_ix_nI (by omega) (by omega)) ?_
      rw [nI_clamp (by omega)]
      refine Exists.intro _ (And.intro m_tornAt (And.intro (And.intro (Nat.zero_le _) (Nat.zero_le _)) (fun q h' hpo => ?_)))
      obtain ⟨rfl, rfl⟩ := hpo
      refine And.intro (x_ix_nI (by omega) (by omega)) ?_
      rw [nI_clamp (by omega)]
      refine And.intro (x_ix_nI (by omega) (by omega)) ?_
      rw [nI_clamp (by omega)]
      refine And.intro ?_ ⟨Or.inr rfl, Nat.le_refl _, Nat.le_refl _⟩
      refine ⟨_, rfl, rfl, ?_⟩
      have e := x_ML_set (x_ML_set (x_ML_0 hM) bK bG bP o13 (x := v 13 p k - m) (by decide)) bK bG bP (c := 14) (i := p) (j := k) (x := v 14 p k + m) ((v_ok_set (by decide)).mpr o14) (by decide)
      have e14 : x_up f 501 (27 + 14 * p + k) (f 501 (27 + 14 * p + k) - nI m) 501 (31 + 14 * p + k) = nI (v 14 p k) := (x_up_j (by omega)).trans h14
      rw [← pk_sub (by omega), ← h13, ← nI_add (v 14 p k), ← e14] at e
      exact e
    · have c2 : ¬ f 501 (31 + 14 * p + k) + nI m ≤ nI 9999 := c2
      rw [h14, nI_add, nI_leI (by omega) (by omega)] at c2
      rw [if_pos (by omega)]
      refine And.intro ?_ ⟨Or.inl rfl, Nat.le_refl _, Nat.le_refl _⟩
      exact ⟨_, rfl, rfl, x_ML_0 hM⟩
theorem m_keptBy {m : Nat} (hM : v_M (f 501) 0 v) (hB : v_B v) (hm : m ≤ 9999) : x_V 259 d [.ref 500, .int (nI m)] (f, g, x_HR r t, dm, n) (.int (nI (d_kept v m))) (f, g, x_HR r t, dm, n) := by
  have o4 : v_ok v 4 0 0 := ⟨rfl, rfl⟩
  have h4 : f 501 4 = nI (v 4 0 0) := v_M_at hM o4
  have b4 : v 4 0 0 ≤ 50 := (hB.1 4 0 0 o4).2
  have bm : m * v 4 0 0 ≤ 9999 * 50 := Nat.mul_le_mul hm b4
  refine x_Ct_w (by decide) (Nat.le_of_ble_eq_true rfl) ok259 [] 2 ?_
  refine And.intro (x_ix_nI (j := 4) (by decide) (by decide)) ?_
  refine And.intro (by decide) ?_
  exact And.intro ⟨(by show some (Value.int ((nI m * f 501 4 + nI 99) / nI 100)) = _; rw [h4, pk_mul, nI_add, pk_div (by omega) (by decide) (by decide)]; rfl), rfl⟩ ⟨trivial, Nat.le_refl _, Nat.le_refl _⟩
theorem m_mends {p k m : Nat} (hM : v_M (f 501) 0 v) (hB : v_B v) (hp : p < v 2 0 0) (hk : k < v 0 0 0) (hm : m ≤ 999) : x_Ct 260 (d + 2) [.ref 500, .int (nI p), .int (nI k), .int (nI m)] (f, g, x_HR r t, dm, n) (x_PD f g (x_HR r t) dm n (x_oW (-1) (s_mend v p k m)) (x_oV v (s_mend v p k m))) := by
  have bK := v_B_K hB
  have bG := v_B_G hB
  have bP := v_B_P hB
  have o13 : v_ok v 13 p k := show p < v 2 0 0 ∧ k < v 0 0 0 from ⟨by omega, by omega⟩
  have h13 : f 501 (27 + 14 * p + k) = nI (v 13 p k) := v_M_at hM o13
  have b13 : v 13 p k ≤ 9999 := (hB.1 13 p k o13).2
  have o14 : v_ok v 14 p k := show p < v 2 0 0 ∧ k < v 0 0 0 from ⟨by omega, by omega⟩
  have h14 : f 501 (31 + 14 * p + k) = nI (v 14 p k) := v_M_at hM o14
  have b14 : v 14 p k ≤ 9999 := (hB.1 14 p k o14).2
  have o9 : v_ok v 9 k 0 := show k < v 0 0 0 ∧ 0 = 0 from ⟨by omega, rfl⟩
  have h9 : f 501 (12 + k) = nI (v 9 k 0) := v_M_at hM o9
  have b9 : v 9 k 0 ≤ 500 := (hB.1 9 k 0 o9).2
  have l9 : 1 ≤ v 9 k 0 := (hB.1 9 k 0 o9).1
  have h17 : f 501 10 = nI (min 999999999 (v 17 0 0)) := hM.2.2
  have hkm := d_kept_le v hB hm
  unfold s_mend
  refine x_Ct_w (by decide) (Nat.le_of_ble_eq_true rfl) ok260 [] 6 ?_
  refine Exists.intro _ (And.intro m_tornAt (And.intro (And.intro (Nat.zero_le _) (Nat.zero_le _)) (fun q h' hpo => ?_)))
  obtain ⟨rfl, rfl⟩ := hpo
  refine And.intro (x_ix_nI (by omega) (by omega)) ?_
  rw [nI_clamp (by omega)]
  refine And.intro (fun c => ?_) (fun c => ?_)
  · have c : nI m ≤ f 501 (31 + 14 * p + k) := c
    rw [h14, nI_leI (by omega) (by omega)] at c
    rw [if_neg (by omega)]
    refine Exists.intro _ (And.intro (m_keptBy hM hB (by omega)) (And.intro (And.intro (Nat.zero_le _) (Nat.zero_le _)) (fun q h' hpo => ?_)))
    obtain ⟨rfl, rfl⟩ := hpo
    refine Exists.intro _ (And.intro m_wholeAt (And.intro (And.intro (Nat.zero_le _) (Nat.zero_le _)) (fun q h' hpo => ?_)))
    obtain ⟨rfl, rfl⟩ := hpo
    refine And.intro (x_ix_nI (by omega) (by omega)) ?_
    rw [nI_clamp (by omega)]
    refine Exists.intro _ (And.intro m_tornAt (And.intro (And.intro (Nat.zero_le _) (Nat.zero_le _)) (fun q h' hpo => ?_)))
    obtain ⟨rfl, rfl⟩ := hpo
    refine And.intro (x_ix_nI (by omega) (by omega)) ?_
    rw [nI_clamp (by omega)]
    refine And.intro (x_ix_nI (by omega) (by omega)) ?_
    rw [nI_clamp (by omega)]
    refine Exists.intro _ (And.intro m_wholeAt (And.intro (And.intro (Nat.zero_le _) (Nat.zero_le _)) (fun q h' hpo => ?_)))
    obtain ⟨rfl, rfl⟩ := hpo
    refine And.intro (x_ix_nI (by omega) (by omega)) ?_
    rw [nI_clamp (by omega)]
    refine And.intro (x_ix_nI (by omega) (by omega)) ?_
    rw [nI_clamp (by omega)]
    have eb : (if nI 9999 - f 501 (27 + 14 * p + k) < nI m - nI (d_kept v m) then nI 9999 - f 501 (27 + 14 * p + k) else nI m - nI (d_kept v m)) = nI (d_back v p k m) := by
      rw [h13, pk_sub (by omega), pk_sub (by omega), x_min_nI (by omega) (by omega)]
      rfl
    have bb : d_back v p k m ≤ m - d_kept v m := Nat.min_le_left _ _
    have bb2 : d_back v p k m ≤ 9999 - v 13 p k := Nat.min_le_right _ _
    have bm : (m - d_back v p k m) * v 9 k 0 ≤ 999 * 500 := Nat.mul_le_mul (by omega) b9
    refine Exists.intro _ (And.intro (m_worthV (w := v 9 k 0) (by omega) ((x_up_j (by omega)).trans ((x_up_j (by omega)).trans h9))) (And.intro (And.intro (Nat.zero_le _) (Nat.zero_le _)) (fun q h' hpo => ?_)))
    obtain ⟨rfl, rfl⟩ := hpo
    have ey : (nI m - (if nI 9999 - f 501 (27 + 14 * p + k) < nI m - nI (d_kept v m) then nI 9999 - f 501 (27 + 14 * p + k) else nI m - nI (d_kept v m))) * nI (v 9 k 0) = nI ((m - d_back v p k m) * v 9 k 0) := by
      rw [eb, pk_sub (by omega), pk_mul]
    refine Exists.intro _ (And.intro (m_addsTo (W := 10) (A := v 17 0 0) (m := (m - d_back v p k m) * v 9 k 0) (Or.inr rfl) ((x_up_j (by omega)).trans ((x_up_j (by omega)).trans h17)) ey (by omega)) (And.intro (And.intro (Nat.zero_le _) (Nat.zero_le _)) (fun q h' hpo => ?_)))
    obtain ⟨rfl, rfl⟩ := hpo
    refine And.intro ?_ ⟨trivial, Nat.le_refl _, Nat.le_refl _⟩
    refine ⟨_, rfl, congrArg (fun z => some (Value.int z)) eb, ?_⟩
    have e := x_ML_17 (x_ML_set (x_ML_set (x_ML_0 hM) bK bG bP o14 (x := v 14 p k - m) (by decide)) bK bG bP (c := 13) (i := p) (j := k) (x := v 13 p k + d_back v p k m) ((v_ok_set (by decide)).mpr o13) (by decide)) bK bG bP (v 17 0 0 + (m - d_back v p k m) * v 9 k 0)
    have e13 : x_up f 501 (31 + 14 * p + k) (f 501 (31 + 14 * p + k) - nI m) 501 (27 + 14 * p + k) = nI (v 13 p k) := (x_up_j (by omega)).trans h13
    rw [← pk_sub (a := v 14 p k) (by omega), ← h14, ← nI_add (v 13 p k), ← e13, ← eb] at e
    exact e
  · have c : ¬ nI m ≤ f 501 (31 + 14 * p + k) := c
    rw [h14, nI_leI (by omega) (by omega)] at c
    rw [if_pos (by omega)]
    refine And.intro ?_ ⟨trivial, Nat.le_refl _, Nat.le_refl _⟩
    exact ⟨_, rfl, rfl, x_ML_0 hM⟩
end C22
