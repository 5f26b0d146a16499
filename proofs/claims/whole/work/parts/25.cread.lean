/-! specs of the calls that ask -/
def x_sb (e : Int32) (ok : Bool) (o : Option xV) (v : xV) : xS := match ok, o with
  | false, _ => (.int 0, 1, v)
  | true, none => (.int 0, e, v)
  | true, some v' => (.int 1, 0, v')
def v_told (v : xV) (j : Nat) : Int32 := if j < 8 then nI (v j 0 0) else if j = 8 then nI (v_out v) else if j = 9 then nI (v 8 0 0) else if j = 10 then nI (min 999999999 (v 16 0 0)) else nI (min 999999999 (v 17 0 0))
def sp_told (v : xV) (x : Int32) : xS := x_sr (x_wi x 0 11) (v_told v (x_c x)) v
def sp_kind (v : xV) (x : Int32) : xS := x_sr (x_ixb x (v 0 0 0)) (nI (v 9 (x_c x) 0)) v
def v_good (v : xV) (i j : Nat) : Nat := if j = 0 then v 10 i 0 else if j = 1 then v 11 i 0 else v 10 i 0 * v 7 0 0
def sp_good (v : xV) (x y : Int32) : xS := x_sr (x_ixb x (v 1 0 0) && x_wi y 0 2) (nI (v_good v (x_c x) (x_c y))) v
def sp_sheets (v : xV) (x y z : Int32) : xS := x_sr ((x_ixb x (v 2 0 0) && x_ixb y (v 0 0 0)) && x_wi z 0 1) (nI (if x_c z = 0 then v 13 (x_c x) (x_c y) else v 14 (x_c x) (x_c y))) v
def sp_goods (v : xV) (x y : Int32) : xS := x_sr (x_ixb x (v 2 0 0) && x_ixb y (v 1 0 0)) (nI (v 15 (x_c x) (x_c y))) v
def sp_silver (v : xV) (x : Int32) : xS := x_sr (x_ixb x (v 2 0 0)) (nI (v 12 (x_c x) 0)) v
def sp_worth (v : xV) (x y : Int32) : xS := x_sr (x_ixb x (v 2 0 0) && x_wi y 0 1) (nI (if x_c y = 0 then v_ws v 13 (x_c x) (v 0 0 0) else v_ws v 14 (x_c x) (v 0 0 0))) v
def v_rich (v : xV) : Nat → Nat
  | 0 => 0
  | p + 1 => if p = 0 then 0 else if v_ws v 13 (v_rich v p) (v 0 0 0) < v_ws v 13 p (v 0 0 0) then p else v_rich v p
def sp_richest (v : xV) : xS := x_sq 6 true (if v 2 0 0 = 0 then none else some (nI (v_rich v (v 2 0 0)), v)) v
def sp_give (v : xV) (x y z w : Int32) : xS := x_sb 7 ((x_ixb x (v 2 0 0) && x_ixb z (v 0 0 0)) && (x_ixb y (v 2 0 0) && (decide (x ≠ y) && x_wi w 1 999))) (if v 13 (x_c x) (x_c z) < x_c w ∨ 9999 < v 13 (x_c y) (x_c z) + x_c w then none else some (d_give v (x_c x) (x_c y) (x_c z) (x_c w))) v
def v_rlo (j : Nat) : Nat := if j = 0 then 10 else 0
def v_rhi (j : Nat) : Nat := if j = 0 then 9999 else if j = 1 then 50 else 999
def sp_rule (v : xV) (x y : Int32) : xS := x_sb 7 (x_wi x 0 2 && x_wi y (nI (v_rlo (x_c x))) (nI (v_rhi (x_c x)))) (some (v_set v (3 + x_c x) 0 0 (x_c y))) v
def s_bring (v : xV) (i m : Nat) : Option (Int32 × xV) := if 9999 < v 11 i 0 + m then none else some (nI (v 11 i 0 + m), v_set v 11 i 0 (v 11 i 0 + m))
def sp_bring (v : xV) (x y : Int32) : xS := x_sq 7 (x_ixb x (v 1 0 0) && x_wi y 1 999) (s_bring v (x_c x) (x_c y)) v
def sp_room (v : xV) : xS := x_sr true (nI (min 999999999 (v 7 0 0 * v 3 0 0 - 1 - v_out v))) v
def v_lvl (v : xV) (m : Nat) : Nat := 1 + (v_out v + m * v 5 0 0) / v 3 0 0
def sp_levelIn (v : xV) (x : Int32) : xS := x_sr (x_wi x 0 999) (nI (if x_c x = 0 then v 7 0 0 else v_lvl v (x_c x))) v
def v_till (v : xV) (l : Nat) : Nat → Nat → Option (Int32 × xV)
  | 0, _ => none
  | m + 1, i => if l < v_lvl v i then some (nI i, v) else v_till v l m (i + 1)
def sp_monthsTill (v : xV) (x : Int32) : xS := x_sq 6 (x_wi x 1 999) (v_till v (x_c x) 999 1) v
def sp_keptOf (v : xV) (x : Int32) : xS := x_sr (x_wi x 1 9999) (nI (d_kept v (x_c x))) v
def v_loss (v : xV) (p k : Nat) : Int32 := nI ((v 13 p k + v 14 p k) * v 9 k 0) - nI (d_ren v p k * v 9 (k + 1) 0)
def sp_loses (v : xV) (x y : Int32) : xS := x_sq 7 (x_ixb x (v 2 0 0) && x_ixb y (v 0 0 0)) (if x_c y + 1 < v 0 0 0 then some (v_loss v (x_c x) (x_c y), v) else none) v
def v_losers (v : xV) (k : Nat) : Nat → Int32
  | 0 => 0
  | p + 1 => if 0 < v_loss v p k then v_losers v k p ||| (1 : Int32) <<< (nI p &&& 31) else v_losers v k p
def sp_losers (v : xV) (x : Int32) : xS := x_sq 7 (x_ixb x (v 0 0 0)) (if x_c x + 1 < v 0 0 0 then some (v_losers v (x_c x) (v 2 0 0), v) else none) v
theorem v_lvl_le {v : xV} (hB : v_B v) {m : Nat} (hm : m ≤ 999) : v_lvl v m ≤ 22000000 := by
  have h1 := v_out_le hB
  have h2 : v 5 0 0 ≤ 999 := (hB.1 5 0 0 ⟨rfl, rfl⟩).2
  have h3 : 10 ≤ v 3 0 0 := (hB.1 3 0 0 ⟨rfl, rfl⟩).1
  have h4 : m * v 5 0 0 ≤ 999 * 999 := Nat.mul_le_mul hm h2
  have h5 : (v_out v + m * v 5 0 0) / v 3 0 0 ≤ (v_out v + m * v 5 0 0) / 10 := Nat.div_le_div_left h3 (by decide)
  unfold v_lvl
  omega
theorem v_ws_le4 {v : xV} (h : v_B v) {c p : Nat} (hc : c = 13 ∨ c = 14) (hp : p < v 2 0 0) : v_ws v c p (v 0 0 0) ≤ 20000000 := by
  have h1 := v_ws_le h hc hp (v 0 0 0) (Nat.le_refl _)
  have h2 := v_B_K h
  omega
theorem v_rich_lt (v : xV) : ∀ q, 0 < q → v_rich v q < q
  | 0, h => by omega
  | 1, _ => by simp [v_rich]
  | q + 2, _ => by
    have := v_rich_lt v (q + 1) (by omega)
    rw [show v_rich v (q + 2) = if q + 1 = 0 then 0 else if v_ws v 13 (v_rich v (q + 1)) (v 0 0 0) < v_ws v 13 (q + 1) (v 0 0 0) then q + 1 else v_rich v (q + 1) from rfl]
    split
    · omega
    · split <;> omega
/-- max(0, a - b) of longs -/
theorem x_lsub0 {a b : Nat} (ha : a < 2 ^ 62) (hb : b < 2 ^ 62) : (if lN a - lN b < 0 then 0 else lN a - lN b) = lN (a - b) := by
  by_cases h : b ≤ a
  · rw [lN_sub h, if_neg]
    show ¬ lN (a - b) < lN 0
    rw [pk_lLT (by omega) (by decide)]
    omega
  · have h0 : a - b = 0 := by omega
    have h1 : (lN a - lN b).toInt = (a : Int) - b := by
      rw [Int64.toInt_sub, pk_lT (by omega), pk_lT (by omega), Int.bmod_eq_of_le (by omega) (by omega)]
    rw [h0, if_pos]
    · rfl
    · rw [Int64.lt_iff_toInt_lt, h1]
      show (a : Int) - b < 0
      omega
theorem x_lmin {a b : Nat} (ha : a < 2 ^ 63) (hb : b < 2 ^ 63) : (if lN b < lN a then lN b else lN a) = lN (min a b) := by
  by_cases h : b < a
  · rw [if_pos ((pk_lLT hb ha).mpr h), Nat.min_eq_right (by omega)]
  · rw [if_neg (fun c => h ((pk_lLT hb ha).mp c)), Nat.min_eq_left (by omega)]
/-- the land at L is now v'; else nothing but the table of sums -/
def x_LC (f : Nat → Nat → Int32) (g : Nat → Nat → Int64) (L : Nat) (F : Nat → Nat → Int32) (G : Nat → Nat → Int64) (v' : xV) : Prop := v_C F G L v' ∧ G (L + 2) = g (L + 2) ∧ ∀ k, k < L ∨ L + 9 < k → k ≠ 100 → F k = f k ∧ G k = g k
section C25
variable {f : Nat → Nat → Int32} {g : Nat → Nat → Int64} {r t : Nat} {ρ : Nat → Nat → Option Nat} {dm : List Nat} {n d : Nat} {v : xV} {h : xH}
theorem x_LC_0 {L : Nat} (hC : v_C f g L v) : x_LC f g L f g v := ⟨hC, rfl, fun _ _ _ => ⟨rfl, rfl⟩⟩
theorem x_LC_tr {L : Nat} {F1 F2 : Nat → Nat → Int32} {G1 G2 : Nat → Nat → Int64} {v1 v2 : xV} (h1 : x_LC f g L F1 G1 v1) (h2 : x_LC F1 G1 L F2 G2 v2) : x_LC f g L F2 G2 v2 :=
  ⟨h2.1, h2.2.1.trans h1.2.1, fun k a b => ⟨(h2.2.2 k a b).1.trans (h1.2.2 k a b).1, (h2.2.2 k a b).2.trans (h1.2.2 k a b).2⟩⟩
theorem x_LC_set {L : Nat} {F : Nat → Nat → Int32} {G : Nat → Nat → Int64} {v0 : xV} (h : x_LC f g L F G v0) (bK : v0 0 0 0 ≤ 4) (bG : v0 1 0 0 ≤ 5) {c i j x : Nat} (hv : v_ok v0 c i j) (hc : 3 ≤ c) : x_LC f g L (x_up F (v_cell L c) (v_pl c i j) (nI x)) G (v_set v0 c i j x) := by
  refine ⟨v_C_set h.1 bK bG hv hc, h.2.1, fun k a b => ⟨?_, (h.2.2 k a b).2⟩⟩
  have := v_cell_in L hv
  rw [x_up_k (by omega), (h.2.2 k a b).1]
theorem x_LC_16 {L : Nat} {F : Nat → Nat → Int32} {G : Nat → Nat → Int64} {v0 : xV} (h : x_LC f g L F G v0) (x : Nat) : x_LC f g L F (x_up G L 6 (lN x)) (v_set v0 16 0 0 x) :=
  ⟨v_C_16 h.1 x, by rw [x_up_k (by omega)]; exact h.2.1, fun k a b => ⟨(h.2.2 k a b).1, by rw [x_up_k (by omega)]; exact (h.2.2 k a b).2⟩⟩
theorem x_LC_17 {L : Nat} {F : Nat → Nat → Int32} {G : Nat → Nat → Int64} {v0 : xV} (h : x_LC f g L F G v0) (x : Nat) : x_LC f g L F (x_up G L 7 (lN x)) (v_set v0 17 0 0 x) :=
  ⟨v_C_17 h.1 x, by rw [x_up_k (by omega)]; exact h.2.1, fun k a b => ⟨(h.2.2 k a b).1, by rw [x_up_k (by omega)]; exact (h.2.2 k a b).2⟩⟩
theorem x_PC_L {L : Nat} (hL : 0 < L) {F : Nat → Nat → Int32} {G : Nat → Nat → Int64} {w : Value} {s : Int32} {v' : xV} (h : x_LC f g L F G v') : x_PC f g L ρ dm n (w, s, v') (some w) (x_up F 0 0 s, G, ρ, dm, n) := x_PC_F hL h.1 h.2.1 h.2.2
theorem c_kind_12 {x : Int32} (hC : v_C f g 12 v) (hB : v_B v) : x_Ct 109 (d + 2) [.ref 0, .int x] (f, g, x_HR 12 t, dm, n) (x_PC f g 12 (x_HR 12 t) dm n (sp_kind v x)) := by
  have bK := v_B_K hB
  have bG := v_B_G hB
  have bP := v_B_P hB
  have o0 : v_ok v 0 0 0 := ⟨rfl, rfl⟩
  have h0 : f 12 0 = nI (v 0 0 0) := hC.1 0 0 0 o0
  have b0 : v 0 0 0 ≤ 4 := (hB.1 0 0 0 o0).2
  unfold sp_kind
  refine x_Ct_w (by decide) (Nat.le_of_ble_eq_true rfl) ok109 [] 4 ?_
  refine Exists.intro _ (And.intro (c_hasKind rfl h0 bK) (And.intro (And.intro (Nat.zero_le _) (Nat.zero_le _)) (fun q h' hpo => ?_)))
  obtain ⟨rfl, rfl⟩ := hpo
  cases hb : x_ixb x (v 0 0 0) with
  | false =>
    refine And.intro (fun c => absurd rfl c) (fun _ => ?_)
    refine Exists.intro _ (And.intro c_refuse (And.intro (And.intro (Nat.zero_le _) (Nat.zero_le _)) (fun q h' hpo => ?_)))
    obtain ⟨rfl, rfl⟩ := hpo
    refine And.intro ?_ ⟨trivial, Nat.le_refl _, Nat.le_refl _⟩
    exact x_PC_0 (by decide) hC
  | true =>
    refine And.intro (fun _ => ?_) (fun c => absurd c (by decide))
    obtain ⟨k, hk, rfl⟩ := x_ixb_t hb (by omega)
    have o9 : v_ok v 9 k 0 := show k < v 0 0 0 ∧ 0 = 0 from ⟨by omega, rfl⟩
    have h9 : f 15 k = nI (v 9 k 0) := hC.1 9 k 0 o9
    have b9 : v 9 k 0 ≤ 500 := (hB.1 9 k 0 o9).2
    have l9 : 1 ≤ v 9 k 0 := (hB.1 9 k 0 o9).1
    rw [x_c, nI_clamp (by omega)]
    refine And.intro (x_ix_nI (by omega) (by omega)) ?_
    rw [nI_clamp (by omega)]
    refine Exists.intro _ (And.intro c_answer (And.intro (And.intro (Nat.zero_le _) (Nat.zero_le _)) (fun q h' hpo => ?_)))
    obtain ⟨rfl, rfl⟩ := hpo
    refine And.intro ?_ ⟨trivial, Nat.le_refl _, Nat.le_refl _⟩
    rw [← h9]
    exact x_PC_0 (by decide) hC
theorem c_silver_12 {x : Int32} (hC : v_C f g 12 v) (hB : v_B v) : x_Ct 113 (d + 2) [.ref 0, .int x] (f, g, x_HR 12 t, dm, n) (x_PC f g 12 (x_HR 12 t) dm n (sp_silver v x)) := by
  have bK := v_B_K hB
  have bG := v_B_G hB
  have bP := v_B_P hB
  have o2 : v_ok v 2 0 0 := ⟨rfl, rfl⟩
  have h2 : f 12 2 = nI (v 2 0 0) := hC.1 2 0 0 o2
  have b2 : v 2 0 0 ≤ 5 := (hB.1 2 0 0 o2).2
  unfold sp_silver
  refine x_Ct_w (by decide) (Nat.le_of_ble_eq_true rfl) ok113 [] 4 ?_
  refine Exists.intro _ (And.intro (c_hasPerson rfl h2 bP) (And.intro (And.intro (Nat.zero_le _) (Nat.zero_le _)) (fun q h' hpo => ?_)))
  obtain ⟨rfl, rfl⟩ := hpo
  cases hb : x_ixb x (v 2 0 0) with
  | false =>
    refine And.intro (fun c => absurd rfl c) (fun _ => ?_)
    refine Exists.intro _ (And.intro c_refuse (And.intro (And.intro (Nat.zero_le _) (Nat.zero_le _)) (fun q h' hpo => ?_)))
    obtain ⟨rfl, rfl⟩ := hpo
    refine And.intro ?_ ⟨trivial, Nat.le_refl _, Nat.le_refl _⟩
    exact x_PC_0 (by decide) hC
  | true =>
    refine And.intro (fun _ => ?_) (fun c => absurd c (by decide))
    obtain ⟨p, hp, rfl⟩ := x_ixb_t hb (by omega)
    have o12 : v_ok v 12 p 0 := show p < v 2 0 0 ∧ 0 = 0 from ⟨by omega, rfl⟩
    have h12 : f 18 p = nI (v 12 p 0) := hC.1 12 p 0 o12
    have b12 : v 12 p 0 ≤ 99999 := (hB.1 12 p 0 o12).2
    rw [x_c, nI_clamp (by omega)]
    refine And.intro (x_ix_nI (by omega) (by omega)) ?_
    rw [nI_clamp (by omega)]
    refine Exists.intro _ (And.intro c_answer (And.intro (And.intro (Nat.zero_le _) (Nat.zero_le _)) (fun q h' hpo => ?_)))
    obtain ⟨rfl, rfl⟩ := hpo
    refine And.intro ?_ ⟨trivial, Nat.le_refl _, Nat.le_refl _⟩
    rw [← h12]
    exact x_PC_0 (by decide) hC
theorem c_goods_12 {x y : Int32} (hC : v_C f g 12 v) (hB : v_B v) : x_Ct 112 (d + 2) [.ref 0, .int x, .int y] (f, g, x_HR 12 t, dm, n) (x_PC f g 12 (x_HR 12 t) dm n (sp_goods v x y)) := by
  have bK := v_B_K hB
  have bG := v_B_G hB
  have bP := v_B_P hB
  have o2 : v_ok v 2 0 0 := ⟨rfl, rfl⟩
  have h2 : f 12 2 = nI (v 2 0 0) := hC.1 2 0 0 o2
  have b2 : v 2 0 0 ≤ 5 := (hB.1 2 0 0 o2).2
  have o1 : v_ok v 1 0 0 := ⟨rfl, rfl⟩
  have h1 : f 12 1 = nI (v 1 0 0) := hC.1 1 0 0 o1
  have b1 : v 1 0 0 ≤ 5 := (hB.1 1 0 0 o1).2
  unfold sp_goods
  refine x_Ct_w (by decide) (Nat.le_of_ble_eq_true rfl) ok112 [] 6 ?_
  refine Exists.intro _ (And.intro (c_hasPerson rfl h2 bP) (And.intro (And.intro (Nat.zero_le _) (Nat.zero_le _)) (fun q h' hpo => ?_)))
  obtain ⟨rfl, rfl⟩ := hpo
  cases hb : x_ixb x (v 2 0 0) with
  | false =>
    refine And.intro (fun _ => ?_) (fun c => absurd rfl c)
    refine Exists.intro _ (And.intro c_refuse (And.intro (And.intro (Nat.zero_le _) (Nat.zero_le _)) (fun q h' hpo => ?_)))
    obtain ⟨rfl, rfl⟩ := hpo
    refine And.intro ?_ ⟨trivial, Nat.le_refl _, Nat.le_refl _⟩
    exact x_PC_0 (by decide) hC
  | true =>
    refine And.intro (fun c => absurd c (by decide)) (fun _ => ?_)
    refine Exists.intro _ (And.intro (c_hasGood rfl h1 bG) (And.intro (And.intro (Nat.zero_le _) (Nat.zero_le _)) (fun q h' hpo => ?_)))
    obtain ⟨rfl, rfl⟩ := hpo
    cases hb2 : x_ixb y (v 1 0 0) with
    | false =>
      refine And.intro (fun c => absurd rfl c) (fun _ => ?_)
      refine Exists.intro _ (And.intro c_refuse (And.intro (And.intro (Nat.zero_le _) (Nat.zero_le _)) (fun q h' hpo => ?_)))
      obtain ⟨rfl, rfl⟩ := hpo
      refine And.intro ?_ ⟨trivial, Nat.le_refl _, Nat.le_refl _⟩
      exact x_PC_0 (by decide) hC
    | true =>
      refine And.intro (fun _ => ?_) (fun c => absurd c (by decide))
      obtain ⟨p, hp, rfl⟩ := x_ixb_t hb (by omega)
      obtain ⟨i, hi, rfl⟩ := x_ixb_t hb2 (by omega)
      have o15 : v_ok v 15 p i := show 15 = 15 ∧ p < v 2 0 0 ∧ i < v 1 0 0 from ⟨rfl, by omega, by omega⟩
      have h15 : f 21 (5 * p + i) = nI (v 15 p i) := hC.1 15 p i o15
      have b15 : v 15 p i ≤ 9999 := (hB.1 15 p i o15).2
      rw [x_c, x_c, nI_clamp (by omega), nI_clamp (by omega)]
      refine Exists.intro _ (And.intro c_chest (And.intro (And.intro (Nat.zero_le _) (Nat.zero_le _)) (fun q h' hpo => ?_)))
      obtain ⟨rfl, rfl⟩ := hpo
      rw [x_pl5]
      refine And.intro (x_ix_nI (by omega) (by omega)) ?_
      rw [nI_clamp (by omega)]
      refine Exists.intro _ (And.intro c_answer (And.intro (And.intro (Nat.zero_le _) (Nat.zero_le _)) (fun q h' hpo => ?_)))
      obtain ⟨rfl, rfl⟩ := hpo
      refine And.intro ?_ ⟨trivial, Nat.le_refl _, Nat.le_refl _⟩
      rw [← h15]
      exact x_PC_0 (by decide) hC
theorem c_sheets_12 {x y z : Int32} (hC : v_C f g 12 v) (hB : v_B v) : x_Ct 111 (d + 3) [.ref 0, .int x, .int y, .int z] (f, g, x_HR 12 t, dm, n) (x_PC f g 12 (x_HR 12 t) dm n (sp_sheets v x y z)) := by
  have bK := v_B_K hB
  have bG := v_B_G hB
  have bP := v_B_P hB
  have o0 : v_ok v 0 0 0 := ⟨rfl, rfl⟩
  have h0 : f 12 0 = nI (v 0 0 0) := hC.1 0 0 0 o0
  have b0 : v 0 0 0 ≤ 4 := (hB.1 0 0 0 o0).2
  have o2 : v_ok v 2 0 0 := ⟨rfl, rfl⟩
  have h2 : f 12 2 = nI (v 2 0 0) := hC.1 2 0 0 o2
  have b2 : v 2 0 0 ≤ 5 := (hB.1 2 0 0 o2).2
  unfold sp_sheets
  refine x_Ct_w (by decide) (Nat.le_of_ble_eq_true rfl) ok111 [] 8 ?_
  refine Exists.intro _ (And.intro (c_hasPurse rfl h0 bK h2 bP) (And.intro (And.intro (Nat.zero_le _) (Nat.zero_le _)) (fun q h' hpo => ?_)))
  obtain ⟨rfl, rfl⟩ := hpo
  cases hb : (x_ixb x (v 2 0 0) && x_ixb y (v 0 0 0)) with
  | false =>
    refine And.intro (fun _ => ?_) (fun c => absurd rfl c)
    refine Exists.intro _ (And.intro c_refuse (And.intro (And.intro (Nat.zero_le _) (Nat.zero_le _)) (fun q h' hpo => ?_)))
    obtain ⟨rfl, rfl⟩ := hpo
    refine And.intro ?_ ⟨trivial, Nat.le_refl _, Nat.le_refl _⟩
    exact x_PC_0 (by decide) hC
  | true =>
    refine And.intro (fun c => absurd c (by decide)) (fun _ => ?_)
    refine Exists.intro _ (And.intro (c_within (lo := 0) (hi := 1)) (And.intro (And.intro (Nat.zero_le _) (Nat.zero_le _)) (fun q h' hpo => ?_)))
    obtain ⟨rfl, rfl⟩ := hpo
    cases hz : x_wi z 0 1 with
    | false =>
      refine And.intro (fun c => absurd rfl c) (fun _ => ?_)
      refine Exists.intro _ (And.intro c_refuse (And.intro (And.intro (Nat.zero_le _) (Nat.zero_le _)) (fun q h' hpo => ?_)))
      obtain ⟨rfl, rfl⟩ := hpo
      refine And.intro ?_ ⟨trivial, Nat.le_refl _, Nat.le_refl _⟩
      exact x_PC_0 (by decide) hC
    | true =>
      refine And.intro (fun _ => ?_) (fun c => absurd c (by decide))
      rw [Bool.and_eq_true] at hb
      obtain ⟨p, hp, rfl⟩ := x_ixb_t hb.1 (by omega)
      obtain ⟨k, hk, rfl⟩ := x_ixb_t hb.2 (by omega)
      obtain ⟨m, hm1, hm, rfl⟩ := x_wi_t (lo := 0) (hi := 1) hz (by decide) (by decide)
      have o13 : v_ok v 13 p k := show p < v 2 0 0 ∧ k < v 0 0 0 from ⟨by omega, by omega⟩
      have h13 : f 19 (4 * p + k) = nI (v 13 p k) := hC.1 13 p k o13
      have b13 : v 13 p k ≤ 9999 := (hB.1 13 p k o13).2
      have o14 : v_ok v 14 p k := show p < v 2 0 0 ∧ k < v 0 0 0 from ⟨by omega, by omega⟩
      have h14 : f 20 (4 * p + k) = nI (v 14 p k) := hC.1 14 p k o14
      have b14 : v 14 p k ≤ 9999 := (hB.1 14 p k o14).2
      rw [x_c, x_c, x_c, nI_clamp (by omega), nI_clamp (by omega), nI_clamp (by omega)]
      refine Exists.intro _ (And.intro c_purse (And.intro (And.intro (Nat.zero_le _) (Nat.zero_le _)) (fun q h' hpo => ?_)))
      obtain ⟨rfl, rfl⟩ := hpo
      rw [x_pl4]
      refine And.intro (fun c => ?_) (fun c => ?_)
      · have c : ¬ nI m = nI 0 := c
        rw [nI_eq (by omega) (by decide)] at c
        rw [if_neg c]
        refine And.intro (x_ix_nI (by omega) (by omega)) ?_
        rw [nI_clamp (by omega)]
        refine Exists.intro _ (And.intro c_answer (And.intro (And.intro (Nat.zero_le _) (Nat.zero_le _)) (fun q h' hpo => ?_)))
        obtain ⟨rfl, rfl⟩ := hpo
        refine And.intro ?_ ⟨trivial, Nat.le_refl _, Nat.le_refl _⟩
        rw [← h14]
        exact x_PC_0 (by decide) hC
      · have c : nI m = nI 0 := c
        rw [nI_eq (by omega) (by decide)] at c
        rw [if_pos c]
        refine And.intro (x_ix_nI (by omega) (by omega)) ?_
        rw [nI_clamp (by omega)]
        refine Exists.intro _ (And.intro c_answer (And.intro (And.intro (Nat.zero_le _) (Nat.zero_le _)) (fun q h' hpo => ?_)))
        obtain ⟨rfl, rfl⟩ := hpo
        refine And.intro ?_ ⟨trivial, Nat.le_refl _, Nat.le_refl _⟩
        rw [← h13]
        exact x_PC_0 (by decide) hC
theorem c_worth_12 {x y : Int32} (hC : v_C f g 12 v) (hB : v_B v) : x_Ct 114 (d + 3) [.ref 0, .int x, .int y] (f, g, x_HR 12 t, dm, n) (x_PC f g 12 (x_HR 12 t) dm n (sp_worth v x y)) := by
  have bK := v_B_K hB
  have bG := v_B_G hB
  have bP := v_B_P hB
  have o0 : v_ok v 0 0 0 := ⟨rfl, rfl⟩
  have h0 : f 12 0 = nI (v 0 0 0) := hC.1 0 0 0 o0
  have b0 : v 0 0 0 ≤ 4 := (hB.1 0 0 0 o0).2
  have o2 : v_ok v 2 0 0 := ⟨rfl, rfl⟩
  have h2 : f 12 2 = nI (v 2 0 0) := hC.1 2 0 0 o2
  have b2 : v 2 0 0 ≤ 5 := (hB.1 2 0 0 o2).2
  unfold sp_worth
  refine x_Ct_w (by decide) (Nat.le_of_ble_eq_true rfl) ok114 [] 8 ?_
  refine Exists.intro _ (And.intro (c_hasPerson rfl h2 bP) (And.intro (And.intro (Nat.zero_le _) (Nat.zero_le _)) (fun q h' hpo => ?_)))
  obtain ⟨rfl, rfl⟩ := hpo
  cases hb : x_ixb x (v 2 0 0) with
  | false =>
    refine And.intro (fun _ => ?_) (fun c => absurd rfl c)
    refine Exists.intro _ (And.intro c_refuse (And.intro (And.intro (Nat.zero_le _) (Nat.zero_le _)) (fun q h' hpo => ?_)))
    obtain ⟨rfl, rfl⟩ := hpo
    refine And.intro ?_ ⟨trivial, Nat.le_refl _, Nat.le_refl _⟩
    exact x_PC_0 (by decide) hC
  | true =>
    refine And.intro (fun c => absurd c (by decide)) (fun _ => ?_)
    refine Exists.intro _ (And.intro (c_within (lo := 0) (hi := 1)) (And.intro (And.intro (Nat.zero_le _) (Nat.zero_le _)) (fun q h' hpo => ?_)))
    obtain ⟨rfl, rfl⟩ := hpo
    cases hz : x_wi y 0 1 with
    | false =>
      refine And.intro (fun c => absurd rfl c) (fun _ => ?_)
      refine Exists.intro _ (And.intro c_refuse (And.intro (And.intro (Nat.zero_le _) (Nat.zero_le _)) (fun q h' hpo => ?_)))
      obtain ⟨rfl, rfl⟩ := hpo
      refine And.intro ?_ ⟨trivial, Nat.le_refl _, Nat.le_refl _⟩
      exact x_PC_0 (by decide) hC
    | true =>
      refine And.intro (fun _ => ?_) (fun c => absurd c (by decide))
      obtain ⟨p, hp, rfl⟩ := x_ixb_t hb (by omega)
      obtain ⟨m, hm1, hm, rfl⟩ := x_wi_t (lo := 0) (hi := 1) hz (by decide) (by decide)
      rw [x_c, x_c, nI_clamp (by omega), nI_clamp (by omega)]
      refine And.intro (fun c => ?_) (fun c => ?_)
      · have c : ¬ nI m = nI 0 := c
        rw [nI_eq (by omega) (by decide)] at c
        rw [if_neg c]
        refine Exists.intro _ (And.intro (c_worthOf_12_20 h0 bK (by omega)) (And.intro (And.intro (Nat.zero_le _) (Nat.zero_le _)) (fun q h' hpo => ?_)))
        obtain ⟨rfl, rfl⟩ := hpo
        refine Exists.intro _ (And.intro c_answer (And.intro (And.intro (Nat.zero_le _) (Nat.zero_le _)) (fun q h' hpo => ?_)))
        obtain ⟨rfl, rfl⟩ := hpo
        refine And.intro ?_ ⟨trivial, Nat.le_refl _, Nat.le_refl _⟩
        rw [← v_C_ws hC (Or.inr rfl) hp _ (Nat.le_refl _)]
        exact x_PC_0 (by decide) hC
      · have c : nI m = nI 0 := c
        rw [nI_eq (by omega) (by decide)] at c
        rw [if_pos c]
        refine Exists.intro _ (And.intro (c_worthOf_12_19 h0 bK (by omega)) (And.intro (And.intro (Nat.zero_le _) (Nat.zero_le _)) (fun q h' hpo => ?_)))
        obtain ⟨rfl, rfl⟩ := hpo
        refine Exists.intro _ (And.intro c_answer (And.intro (And.intro (Nat.zero_le _) (Nat.zero_le _)) (fun q h' hpo => ?_)))
        obtain ⟨rfl, rfl⟩ := hpo
        refine And.intro ?_ ⟨trivial, Nat.le_refl _, Nat.le_refl _⟩
        rw [← v_C_ws hC (Or.inl rfl) hp _ (Nat.le_refl _)]
        exact x_PC_0 (by decide) hC
theorem c_good_12 {x y : Int32} (hC : v_C f g 12 v) (hB : v_B v) : x_Ct 110 (d + 2) [.ref 0, .int x, .int y] (f, g, x_HR 12 t, dm, n) (x_PC f g 12 (x_HR 12 t) dm n (sp_good v x y)) := by
  have bK := v_B_K hB
  have bG := v_B_G hB
  have bP := v_B_P hB
  have o1 : v_ok v 1 0 0 := ⟨rfl, rfl⟩
  have h1 : f 12 1 = nI (v 1 0 0) := hC.1 1 0 0 o1
  have b1 : v 1 0 0 ≤ 5 := (hB.1 1 0 0 o1).2
  unfold sp_good
  refine x_Ct_w (by decide) (Nat.le_of_ble_eq_true rfl) ok110 [] 9 ?_
  refine Exists.intro _ (And.intro (c_hasGood rfl h1 bG) (And.intro (And.intro (Nat.zero_le _) (Nat.zero_le _)) (fun q h' hpo => ?_)))
  obtain ⟨rfl, rfl⟩ := hpo
  cases hb : x_ixb x (v 1 0 0) with
  | false =>
    refine And.intro (fun _ => ?_) (fun c => absurd rfl c)
    refine Exists.intro _ (And.intro c_refuse (And.intro (And.intro (Nat.zero_le _) (Nat.zero_le _)) (fun q h' hpo => ?_)))
    obtain ⟨rfl, rfl⟩ := hpo
    refine And.intro ?_ ⟨trivial, Nat.le_refl _, Nat.le_refl _⟩
    exact x_PC_0 (by decide) hC
  | true =>
    refine And.intro (fun c => absurd c (by decide)) (fun _ => ?_)
    refine Exists.intro _ (And.intro (c_within (lo := 0) (hi := 2)) (And.intro (And.intro (Nat.zero_le _) (Nat.zero_le _)) (fun q h' hpo => ?_)))
    obtain ⟨rfl, rfl⟩ := hpo
    cases hz : x_wi y 0 2 with
    | false =>
      refine And.intro (fun c => absurd rfl c) (fun _ => ?_)
      refine Exists.intro _ (And.intro c_refuse (And.intro (And.intro (Nat.zero_le _) (Nat.zero_le _)) (fun q h' hpo => ?_)))
      obtain ⟨rfl, rfl⟩ := hpo
      refine And.intro ?_ ⟨trivial, Nat.le_refl _, Nat.le_refl _⟩
      exact x_PC_0 (by decide) hC
    | true =>
      refine And.intro (fun _ => ?_) (fun c => absurd c (by decide))
      obtain ⟨i, hi, rfl⟩ := x_ixb_t hb (by omega)
      obtain ⟨m, hm1, hm, rfl⟩ := x_wi_t (lo := 0) (hi := 2) hz (by decide) (by decide)
      have o10 : v_ok v 10 i 0 := show i < v 1 0 0 ∧ 0 = 0 from ⟨by omega, rfl⟩
      have h10 : f 16 i = nI (v 10 i 0) := hC.1 10 i 0 o10
      have b10 : v 10 i 0 ≤ 99 := (hB.1 10 i 0 o10).2
      have l10 : 1 ≤ v 10 i 0 := (hB.1 10 i 0 o10).1
      have o11 : v_ok v 11 i 0 := show i < v 1 0 0 ∧ 0 = 0 from ⟨by omega, rfl⟩
      have h11 : f 17 i = nI (v 11 i 0) := hC.1 11 i 0 o11
      have b11 : v 11 i 0 ≤ 9999 := (hB.1 11 i 0 o11).2
      rw [x_c, x_c, nI_clamp (by omega), nI_clamp (by omega)]
      unfold v_good
      refine And.intro (fun c => ?_) (fun c => ?_)
      · have c : ¬ nI m = nI 0 := c
        rw [nI_eq (by omega) (by decide)] at c
        rw [if_neg c]
        refine And.intro (fun c2 => ?_) (fun c2 => ?_)
        · have c2 : ¬ nI m = nI 1 := c2
          rw [nI_eq (by omega) (by decide)] at c2
          rw [if_neg c2]
          refine Exists.intro _ (And.intro (c_priceOf_12 hC hB hi) (And.intro (And.intro (Nat.zero_le _) (Nat.zero_le _)) (fun q h' hpo => ?_)))
          obtain ⟨rfl, rfl⟩ := hpo
          refine Exists.intro _ (And.intro c_answer (And.intro (And.intro (Nat.zero_le _) (Nat.zero_le _)) (fun q h' hpo => ?_)))
          obtain ⟨rfl, rfl⟩ := hpo
          refine And.intro ?_ ⟨trivial, Nat.le_refl _, Nat.le_refl _⟩
          rw [← lN_i]
          exact x_PC_0 (by decide) hC
        · have c2 : nI m = nI 1 := c2
          rw [nI_eq (by omega) (by decide)] at c2
          rw [if_pos c2]
          refine And.intro (x_ix_nI (by omega) (by omega)) ?_
          rw [nI_clamp (by omega)]
          refine Exists.intro _ (And.intro c_answer (And.intro (And.intro (Nat.zero_le _) (Nat.zero_le _)) (fun q h' hpo => ?_)))
          obtain ⟨rfl, rfl⟩ := hpo
          refine And.intro ?_ ⟨trivial, Nat.le_refl _, Nat.le_refl _⟩
          rw [← h11]
          exact x_PC_0 (by decide) hC
      · have c : nI m = nI 0 := c
        rw [nI_eq (by omega) (by decide)] at c
        rw [if_pos c]
        refine And.intro (x_ix_nI (by omega) (by omega)) ?_
        rw [nI_clamp (by omega)]
        refine Exists.intro _ (And.intro c_answer (And.intro (And.intro (Nat.zero_le _) (Nat.zero_le _)) (fun q h' hpo => ?_)))
        obtain ⟨rfl, rfl⟩ := hpo
        refine And.intro ?_ ⟨trivial, Nat.le_refl _, Nat.le_refl _⟩
        rw [← h10]
        exact x_PC_0 (by decide) hC
theorem c_keptOf_12 {x : Int32} (hC : v_C f g 12 v) (hB : v_B v) : x_Ct 142 (d + 2) [.ref 0, .int x] (f, g, x_HR 12 t, dm, n) (x_PC f g 12 (x_HR 12 t) dm n (sp_keptOf v x)) := by
  unfold sp_keptOf
  refine x_Ct_w (by decide) (Nat.le_of_ble_eq_true rfl) ok142 [] 4 ?_
  refine Exists.intro _ (And.intro (c_within (lo := 1) (hi := 9999)) (And.intro (And.intro (Nat.zero_le _) (Nat.zero_le _)) (fun q h' hpo => ?_)))
  obtain ⟨rfl, rfl⟩ := hpo
  cases hz : x_wi x 1 9999 with
  | false =>
    refine And.intro (fun c => absurd rfl c) (fun _ => ?_)
    refine Exists.intro _ (And.intro c_refuse (And.intro (And.intro (Nat.zero_le _) (Nat.zero_le _)) (fun q h' hpo => ?_)))
    obtain ⟨rfl, rfl⟩ := hpo
    refine And.intro ?_ ⟨trivial, Nat.le_refl _, Nat.le_refl _⟩
    exact x_PC_0 (by decide) hC
  | true =>
    refine And.intro (fun _ => ?_) (fun c => absurd c (by decide))
    obtain ⟨m, hm1, hm, rfl⟩ := x_wi_t (lo := 1) (hi := 9999) hz (by decide) (by decide)
    rw [x_c, nI_clamp (by omega)]
    refine Exists.intro _ (And.intro (c_keptFrom_12 hC hB hm) (And.intro (And.intro (Nat.zero_le _) (Nat.zero_le _)) (fun q h' hpo => ?_)))
    obtain ⟨rfl, rfl⟩ := hpo
    refine Exists.intro _ (And.intro c_answer (And.intro (And.intro (Nat.zero_le _) (Nat.zero_le _)) (fun q h' hpo => ?_)))
    obtain ⟨rfl, rfl⟩ := hpo
    refine And.intro ?_ ⟨trivial, Nat.le_refl _, Nat.le_refl _⟩
    exact x_PC_0 (by decide) hC
theorem c_room_12 (hC : v_C f g 12 v) (hB : v_B v) : x_Ct 128 (d + 3) [.ref 0] (f, g, x_HR 12 t, dm, n) (x_PC f g 12 (x_HR 12 t) dm n (sp_room v)) := by
  have o7 : v_ok v 7 0 0 := ⟨rfl, rfl⟩
  have h7 : f 12 4 = nI (v 7 0 0) := hC.1 7 0 0 o7
  have b7 : v 7 0 0 ≤ 21000000 := (hB.1 7 0 0 o7).2
  have l7 : 1 ≤ v 7 0 0 := (hB.1 7 0 0 o7).1
  have o3 : v_ok v 3 0 0 := ⟨rfl, rfl⟩
  have h3 : f 13 0 = nI (v 3 0 0) := hC.1 3 0 0 o3
  have b3 : v 3 0 0 ≤ 9999 := (hB.1 3 0 0 o3).2
  have l3 : 10 ≤ v 3 0 0 := (hB.1 3 0 0 o3).1
  have bo := v_out_le hB
  have bm : v 7 0 0 * v 3 0 0 ≤ 21000000 * 9999 := Nat.mul_le_mul b7 b3
  have bm2 : 1 * 10 ≤ v 7 0 0 * v 3 0 0 := Nat.mul_le_mul l7 l3
  unfold sp_room
  refine x_Ct_w (by decide) (Nat.le_of_ble_eq_true rfl) ok128 [] 2 ?_
  refine And.intro (x_ix_nI (j := 0) (by decide) (by decide)) ?_
  refine Exists.intro _ (And.intro (c_outNow_12 hC hB) (And.intro (And.intro (Nat.zero_le _) (Nat.zero_le _)) (fun q h' hpo => ?_)))
  obtain ⟨rfl, rfl⟩ := hpo
  have e : (if (if (f 12 4).toInt64 * (f 13 0).toInt64 - lN 1 - (nI (v_out v)).toInt64 < 0 then 0 else (f 12 4).toInt64 * (f 13 0).toInt64 - lN 1 - (nI (v_out v)).toInt64) < lN 999999999 then (if (f 12 4).toInt64 * (f 13 0).toInt64 - lN 1 - (nI (v_out v)).toInt64 < 0 then 0 else (f 12 4).toInt64 * (f 13 0).toInt64 - lN 1 - (nI (v_out v)).toInt64) else lN 999999999).toInt32 = nI (min 999999999 (v 7 0 0 * v 3 0 0 - 1 - v_out v)) := by
    rw [h7, h3, nI_l (by omega), nI_l (by omega), nI_l (by omega), lN_mul, lN_sub (by omega), x_lsub0 (by omega) (by omega), x_lmin (by decide) (by omega), lN_i]
  refine Exists.intro _ (And.intro c_answer (And.intro (And.intro (Nat.zero_le _) (Nat.zero_le _)) (fun q h' hpo => ?_)))
  obtain ⟨rfl, rfl⟩ := hpo
  refine And.intro ?_ ⟨trivial, Nat.le_refl _, Nat.le_refl _⟩
  rw [← e]
  exact x_PC_0 (by decide) hC
theorem c_levelIn_12 {x : Int32} (hC : v_C f g 12 v) (hB : v_B v) : x_Ct 129 (d + 3) [.ref 0, .int x] (f, g, x_HR 12 t, dm, n) (x_PC f g 12 (x_HR 12 t) dm n (sp_levelIn v x)) := by
  have o7 : v_ok v 7 0 0 := ⟨rfl, rfl⟩
  have h7 : f 12 4 = nI (v 7 0 0) := hC.1 7 0 0 o7
  have b7 : v 7 0 0 ≤ 21000000 := (hB.1 7 0 0 o7).2
  have l7 : 1 ≤ v 7 0 0 := (hB.1 7 0 0 o7).1
  have bo := v_out_le hB
  unfold sp_levelIn
  refine x_Ct_w (by decide) (Nat.le_of_ble_eq_true rfl) ok129 [] 8 ?_
  refine Exists.intro _ (And.intro (c_within (lo := 0) (hi := 999)) (And.intro (And.intro (Nat.zero_le _) (Nat.zero_le _)) (fun q h' hpo => ?_)))
  obtain ⟨rfl, rfl⟩ := hpo
  cases hz : x_wi x 0 999 with
  | false =>
    refine And.intro (fun c => absurd rfl c) (fun _ => ?_)
    refine Exists.intro _ (And.intro c_refuse (And.intro (And.intro (Nat.zero_le _) (Nat.zero_le _)) (fun q h' hpo => ?_)))
    obtain ⟨rfl, rfl⟩ := hpo
    refine And.intro ?_ ⟨trivial, Nat.le_refl _, Nat.le_refl _⟩
    exact x_PC_0 (by decide) hC
  | true =>
    refine And.intro (fun _ => ?_) (fun c => absurd c (by decide))
    obtain ⟨m, hm1, hm, rfl⟩ := x_wi_t (lo := 0) (hi := 999) hz (by decide) (by decide)
    rw [x_c, nI_clamp (by omega)]
    refine And.intro (fun c => ?_) (fun c => ?_)
    · have c : ¬ nI m = nI 0 := c
      rw [nI_eq (by omega) (by decide)] at c
      rw [if_neg c]
      refine Exists.intro _ (And.intro (c_outNow_12 hC hB) (And.intro (And.intro (Nat.zero_le _) (Nat.zero_le _)) (fun q h' hpo => ?_)))
      obtain ⟨rfl, rfl⟩ := hpo
      refine Exists.intro _ (And.intro (c_levelAfter_12 hC hB hm (by omega)) (And.intro (And.intro (Nat.zero_le _) (Nat.zero_le _)) (fun q h' hpo => ?_)))
      obtain ⟨rfl, rfl⟩ := hpo
      refine Exists.intro _ (And.intro c_answer (And.intro (And.intro (Nat.zero_le _) (Nat.zero_le _)) (fun q h' hpo => ?_)))
      obtain ⟨rfl, rfl⟩ := hpo
      refine And.intro ?_ ⟨trivial, Nat.le_refl _, Nat.le_refl _⟩
      exact x_PC_0 (by decide) hC
    · have c : nI m = nI 0 := c
      rw [nI_eq (by omega) (by decide)] at c
      rw [if_pos c]
      refine Exists.intro _ (And.intro c_answer (And.intro (And.intro (Nat.zero_le _) (Nat.zero_le _)) (fun q h' hpo => ?_)))
      obtain ⟨rfl, rfl⟩ := hpo
      refine And.intro ?_ ⟨trivial, Nat.le_refl _, Nat.le_refl _⟩
      rw [← h7]
      exact x_PC_0 (by decide) hC
theorem c_bring_12 {x y : Int32} (hC : v_C f g 12 v) (hB : v_B v) : x_Ct 127 (d + 2) [.ref 0, .int x, .int y] (f, g, x_HR 12 t, dm, n) (x_PC f g 12 (x_HR 12 t) dm n (sp_bring v x y)) := by
  have bK := v_B_K hB
  have bG := v_B_G hB
  have bP := v_B_P hB
  have o1 : v_ok v 1 0 0 := ⟨rfl, rfl⟩
  have h1 : f 12 1 = nI (v 1 0 0) := hC.1 1 0 0 o1
  have b1 : v 1 0 0 ≤ 5 := (hB.1 1 0 0 o1).2
  unfold sp_bring
  refine x_Ct_w (by decide) (Nat.le_of_ble_eq_true rfl) ok127 [] 9 ?_
  refine Exists.intro _ (And.intro (c_hasGood rfl h1 bG) (And.intro (And.intro (Nat.zero_le _) (Nat.zero_le _)) (fun q h' hpo => ?_)))
  obtain ⟨rfl, rfl⟩ := hpo
  cases hb : x_ixb x (v 1 0 0) with
  | false =>
    refine And.intro (fun _ => ?_) (fun c => absurd rfl c)
    refine Exists.intro _ (And.intro c_refuse (And.intro (And.intro (Nat.zero_le _) (Nat.zero_le _)) (fun q h' hpo => ?_)))
    obtain ⟨rfl, rfl⟩ := hpo
    refine And.intro ?_ ⟨trivial, Nat.le_refl _, Nat.le_refl _⟩
    exact x_PC_0 (by decide) hC
  | true =>
    refine And.intro (fun c => absurd c (by decide)) (fun _ => ?_)
    refine Exists.intro _ (And.intro c_isAmount (And.intro (And.intro (Nat.zero_le _) (Nat.zero_le _)) (fun q h' hpo => ?_)))
    obtain ⟨rfl, rfl⟩ := hpo
    cases hz : x_wi y 1 999 with
    | false =>
      refine And.intro (fun c => absurd rfl c) (fun _ => ?_)
      refine Exists.intro _ (And.intro c_refuse (And.intro (And.intro (Nat.zero_le _) (Nat.zero_le _)) (fun q h' hpo => ?_)))
      obtain ⟨rfl, rfl⟩ := hpo
      refine And.intro ?_ ⟨trivial, Nat.le_refl _, Nat.le_refl _⟩
      exact x_PC_0 (by decide) hC
    | true =>
      refine And.intro (fun _ => ?_) (fun c => absurd c (by decide))
      obtain ⟨i, hi, rfl⟩ := x_ixb_t hb (by omega)
      obtain ⟨m, hm1, hm, rfl⟩ := x_wi_t (lo := 1) (hi := 999) hz (by decide) (by decide)
      have o11 : v_ok v 11 i 0 := show i < v 1 0 0 ∧ 0 = 0 from ⟨by omega, rfl⟩
      have h11 : f 17 i = nI (v 11 i 0) := hC.1 11 i 0 o11
      have b11 : v 11 i 0 ≤ 9999 := (hB.1 11 i 0 o11).2
      rw [x_c, x_c, nI_clamp (by omega), nI_clamp (by omega)]
      unfold s_bring
      refine And.intro (x_ix_nI (by omega) (by omega)) ?_
      rw [nI_clamp (by omega)]
      refine And.intro (fun c => ?_) (fun c => ?_)
      · have c : f 17 i + nI m ≤ nI 9999 := c
        rw [h11, nI_add, nI_leI (by omega) (by omega)] at c
        rw [if_neg (by omega)]
        refine And.intro (x_ix_nI (by omega) (by omega)) ?_
        rw [nI_clamp (by omega)]
        refine And.intro (x_ix_nI (by omega) (by omega)) ?_
        rw [nI_clamp (by omega)]
        refine And.intro (x_ix_nI (by omega) (by omega)) ?_
        rw [nI_clamp (by omega)]
        refine Exists.intro _ (And.intro c_answer (And.intro (And.intro (Nat.zero_le _) (Nat.zero_le _)) (fun q h' hpo => ?_)))
        obtain ⟨rfl, rfl⟩ := hpo
        refine And.intro ?_ ⟨trivial, Nat.le_refl _, Nat.le_refl _⟩
        have e1 : x_up f 17 i (f 17 i + nI m) 17 i = nI (v 11 i 0 + m) := by rw [x_up_s, h11, nI_add]
        have e := x_LC_set (x_LC_0 hC) bK bG o11 (x := v 11 i 0 + m) (by decide)
        rw [← nI_add (v 11 i 0), ← h11] at e
        show x_PC f g 12 (x_HR 12 t) dm n (.int (nI (v 11 i 0 + m)), 0, v_set v 11 i 0 (v 11 i 0 + m)) (some (.int (x_up f 17 i (f 17 i + nI m) 17 i))) _
        rw [e1]
        exact x_PC_L (by decide) e
      · have c : ¬ f 17 i + nI m ≤ nI 9999 := c
        rw [h11, nI_add, nI_leI (by omega) (by omega)] at c
        rw [if_pos (by omega)]
        refine Exists.intro _ (And.intro c_refuse (And.intro (And.intro (Nat.zero_le _) (Nat.zero_le _)) (fun q h' hpo => ?_)))
        obtain ⟨rfl, rfl⟩ := hpo
        refine And.intro ?_ ⟨trivial, Nat.le_refl _, Nat.le_refl _⟩
        exact x_PC_0 (by decide) hC
theorem c_kind_22 {x : Int32} (hC : v_C f g 22 v) (hB : v_B v) : x_Ct 109 (d + 2) [.ref 0, .int x] (f, g, x_HR 22 t, dm, n) (x_PC f g 22 (x_HR 22 t) dm n (sp_kind v x)) := by
  have bK := v_B_K hB
  have bG := v_B_G hB
  have bP := v_B_P hB
  have o0 : v_ok v 0 0 0 := ⟨rfl, rfl⟩
  have h0 : f 22 0 = nI (v 0 0 0) := hC.1 0 0 0 o0
  have b0 : v 0 0 0 ≤ 4 := (hB.1 0 0 0 o0).2
  unfold sp_kind
  refine x_Ct_w (by decide) (Nat.le_of_ble_eq_true rfl) ok109 [] 4 ?_
  refine Exists.intro _ (And.intro (c_hasKind rfl h0 bK) (And.intro (And.intro (Nat.zero_le _) (Nat.zero_le _)) (fun q h' hpo => ?_)))
  obtain ⟨rfl, rfl⟩ := hpo
  cases hb : x_ixb x (v 0 0 0) with
  | false =>
    refine And.intro (fun c => absurd rfl c) (fun _ => ?_)
    refine Exists.intro _ (And.intro c_refuse (And.intro (And.intro (Nat.zero_le _) (Nat.zero_le _)) (fun q h' hpo => ?_)))
    obtain ⟨rfl, rfl⟩ := hpo
    refine And.intro ?_ ⟨trivial, Nat.le_refl _, Nat.le_refl _⟩
    exact x_PC_0 (by decide) hC
  | true =>
    refine And.intro (fun _ => ?_) (fun c => absurd c (by decide))
    obtain ⟨k, hk, rfl⟩ := x_ixb_t hb (by omega)
    have o9 : v_ok v 9 k 0 := show k < v 0 0 0 ∧ 0 = 0 from ⟨by omega, rfl⟩
    have h9 : f 25 k = nI (v 9 k 0) := hC.1 9 k 0 o9
    have b9 : v 9 k 0 ≤ 500 := (hB.1 9 k 0 o9).2
    have l9 : 1 ≤ v 9 k 0 := (hB.1 9 k 0 o9).1
    rw [x_c, nI_clamp (by omega)]
    refine And.intro (x_ix_nI (by omega) (by omega)) ?_
    rw [nI_clamp (by omega)]
    refine Exists.intro _ (And.intro c_answer (And.intro (And.intro (Nat.zero_le _) (Nat.zero_le _)) (fun q h' hpo => ?_)))
    obtain ⟨rfl, rfl⟩ := hpo
    refine And.intro ?_ ⟨trivial, Nat.le_refl _, Nat.le_refl _⟩
    rw [← h9]
    exact x_PC_0 (by decide) hC
theorem c_silver_22 {x : Int32} (hC : v_C f g 22 v) (hB : v_B v) : x_Ct 113 (d + 2) [.ref 0, .int x] (f, g, x_HR 22 t, dm, n) (x_PC f g 22 (x_HR 22 t) dm n (sp_silver v x)) := by
  have bK := v_B_K hB
  have bG := v_B_G hB
  have bP := v_B_P hB
  have o2 : v_ok v 2 0 0 := ⟨rfl, rfl⟩
  have h2 : f 22 2 = nI (v 2 0 0) := hC.1 2 0 0 o2
  have b2 : v 2 0 0 ≤ 5 := (hB.1 2 0 0 o2).2
  unfold sp_silver
  refine x_Ct_w (by decide) (Nat.le_of_ble_eq_true rfl) ok113 [] 4 ?_
  refine Exists.intro _ (And.intro (c_hasPerson rfl h2 bP) (And.intro (And.intro (Nat.zero_le _) (Nat.zero_le _)) (fun q h' hpo => ?_)))
  obtain ⟨rfl, rfl⟩ := hpo
  cases hb : x_ixb x (v 2 0 0) with
  | false =>
    refine And.intro (fun c => absurd rfl c) (fun _ => ?_)
    refine Exists.intro _ (And.intro c_refuse (And.intro (And.intro (Nat.zero_le _) (Nat.zero_le _)) (fun q h' hpo => ?_)))
    obtain ⟨rfl, rfl⟩ := hpo
    refine And.intro ?_ ⟨trivial, Nat.le_refl _, Nat.le_refl _⟩
    exact x_PC_0 (by decide) hC
  | true =>
    refine And.intro (fun _ => ?_) (fun c => absurd c (by decide))
    obtain ⟨p, hp, rfl⟩ := x_ixb_t hb (by omega)
    have o12 : v_ok v 12 p 0 := show p < v 2 0 0 ∧ 0 = 0 from ⟨by omega, rfl⟩
    have h12 : f 28 p = nI (v 12 p 0) := hC.1 12 p 0 o12
    have b12 : v 12 p 0 ≤ 99999 := (hB.1 12 p 0 o12).2
    rw [x_c, nI_clamp (by omega)]
    refine And.intro (x_ix_nI (by omega) (by omega)) ?_
    rw [nI_clamp (by omega)]
    refine Exists.intro _ (And.intro c_answer (And.intro (And.intro (Nat.zero_le _) (Nat.zero_le _)) (fun q h' hpo => ?_)))
    obtain ⟨rfl, rfl⟩ := hpo
    refine And.intro ?_ ⟨trivial, Nat.le_refl _, Nat.le_refl _⟩
    rw [← h12]
    exact x_PC_0 (by decide) hC
theorem c_goods_22 {x y : Int32} (hC : v_C f g 22 v) (hB : v_B v) : x_Ct 112 (d + 2) [.ref 0, .int x, .int y] (f, g, x_HR 22 t, dm, n) (x_PC f g 22 (x_HR 22 t) dm n (sp_goods v x y)) := by
  have bK := v_B_K hB
  have bG := v_B_G hB
  have bP := v_B_P hB
  have o2 : v_ok v 2 0 0 := ⟨rfl, rfl⟩
  have h2 : f 22 2 = nI (v 2 0 0) := hC.1 2 0 0 o2
  have b2 : v 2 0 0 ≤ 5 := (hB.1 2 0 0 o2).2
  have o1 : v_ok v 1 0 0 := ⟨rfl, rfl⟩
  have h1 : f 22 1 = nI (v 1 0 0) := hC.1 1 0 0 o1
  have b1 : v 1 0 0 ≤ 5 := (hB.1 1 0 0 o1).2
  unfold sp_goods
  refine x_Ct_w (by decide) (Nat.le_of_ble_eq_true rfl) ok112 [] 6 ?_
  refine Exists.intro _ (And.intro (c_hasPerson rfl h2 bP) (And.intro (And.intro (Nat.zero_le _) (Nat.zero_le _)) (fun q h' hpo => ?_)))
  obtain ⟨rfl, rfl⟩ := hpo
  cases hb : x_ixb x (v 2 0 0) with
  | false =>
    refine And.intro (fun _ => ?_) (fun c => absurd rfl c)
    refine Exists.intro _ (And.intro c_refuse (And.intro (And.intro (Nat.zero_le _) (Nat.zero_le _)) (fun q h' hpo => ?_)))
    obtain ⟨rfl, rfl⟩ := hpo
    refine And.intro ?_ ⟨trivial, Nat.le_refl _, Nat.le_refl _⟩
    exact x_PC_0 (by decide) hC
  | true =>
    refine And.intro (fun c => absurd c (by decide)) (fun _ => ?_)
    refine Exists.intro _ (And.intro (c_hasGood rfl h1 bG) (And.intro (And.intro (Nat.zero_le _) (Nat.zero_le _)) (fun q h' hpo => ?_)))
    obtain ⟨rfl, rfl⟩ := hpo
    cases hb2 : x_ixb y (v 1 0 0) with
    | false =>
      refine And.intro (fun c => absurd rfl c) (fun _ => ?_)
      refine Exists.intro _ (And.intro c_refuse (And.intro (And.intro (Nat.zero_le _) (Nat.zero_le _)) (fun q h' hpo => ?_)))
      obtain ⟨rfl, rfl⟩ := hpo
      refine And.intro ?_ ⟨trivial, Nat.le_refl _, Nat.le_refl _⟩
      exact x_PC_0 (by decide) hC
    | true =>
      refine And.intro (fun _ => ?_) (fun c => absurd c (by decide))
      obtain ⟨p, hp, rfl⟩ := x_ixb_t hb (by omega)
      obtain ⟨i, hi, rfl⟩ := x_ixb_t hb2 (by omega)
      have o15 : v_ok v 15 p i := show 15 = 15 ∧ p < v 2 0 0 ∧ i < v 1 0 0 from ⟨rfl, by omega, by omega⟩
      have h15 : f 31 (5 * p + i) = nI (v 15 p i) := hC.1 15 p i o15
      have b15 : v 15 p i ≤ 9999 := (hB.1 15 p i o15).2
      rw [x_c, x_c, nI_clamp (by omega), nI_clamp (by omega)]
      refine Exists.intro _ (And.intro c_chest (And.intro (And.intro (Nat.zero_le _) (Nat.zero_le _)) (fun q h' hpo => ?_)))
      obtain ⟨rfl, rfl⟩ := hpo
      rw [x_pl5]
      refine And.intro (x_ix_nI (by omega) (by omega)) ?_
      rw [nI_clamp (by omega)]
      refine Exists.intro _ (And.intro c_answer (And.intro (And.intro (Nat.zero_le _) (Nat.zero_le _)) (fun q h' hpo => ?_)))
      obtain ⟨rfl, rfl⟩ := hpo
      refine And.intro ?_ ⟨trivial, Nat.le_refl _, Nat.le_refl _⟩
      rw [← h15]
      exact x_PC_0 (by decide) hC
theorem c_sheets_22 {x y z : Int32} (hC : v_C f g 22 v) (hB : v_B v) : x_Ct 111 (d + 3) [.ref 0, .int x, .int y, .int z] (f, g, x_HR 22 t, dm, n) (x_PC f g 22 (x_HR 22 t) dm n (sp_sheets v x y z)) := by
  have bK := v_B_K hB
  have bG := v_B_G hB
  have bP := v_B_P hB
  have o0 : v_ok v 0 0 0 := ⟨rfl, rfl⟩
  have h0 : f 22 0 = nI (v 0 0 0) := hC.1 0 0 0 o0
  have b0 : v 0 0 0 ≤ 4 := (hB.1 0 0 0 o0).2
  have o2 : v_ok v 2 0 0 := ⟨rfl, rfl⟩
  have h2 : f 22 2 = nI (v 2 0 0) := hC.1 2 0 0 o2
  have b2 : v 2 0 0 ≤ 5 := (hB.1 2 0 0 o2).2
  unfold sp_sheets
  refine x_Ct_w (by decide) (Nat.le_of_ble_eq_true rfl) ok111 [] 8 ?_
  refine Exists.intro _ (And.intro (c_hasPurse rfl h0 bK h2 bP) (And.intro (And.intro (Nat.zero_le _) (Nat.zero_le _)) (fun q h' hpo => ?_)))
  obtain ⟨rfl, rfl⟩ := hpo
  cases hb : (x_ixb x (v 2 0 0) && x_ixb y (v 0 0 0)) with
  | false =>
    refine And.intro (fun _ => ?_) (fun c => absurd rfl c)
    refine Exists.intro _ (And.intro c_refuse (And.intro (And.intro (Nat.zero_le _) (Nat.zero_le _)) (fun q h' hpo => ?_)))
    obtain ⟨rfl, rfl⟩ := hpo
    refine And.intro ?_ ⟨trivial, Nat.le_refl _, Nat.le_refl _⟩
    exact x_PC_0 (by decide) hC
  | true =>
    refine And.intro (fun c => absurd c (by decide)) (fun _ => ?_)
    refine Exists.intro _ (And.intro (c_within (lo := 0) (hi := 1)) (And.intro (And.intro (Nat.zero_le _) (Nat.zero_le _)) (fun q h' hpo => ?_)))
    obtain ⟨rfl, rfl⟩ := hpo
    cases hz : x_wi z 0 1 with
    | false =>
      refine And.intro (fun c => absurd rfl c) (fun _ => ?_)
      refine Exists.intro _ (And.intro c_refuse (And.intro (And.intro (Nat.zero_le _) (Nat.zero_le _)) (fun q h' hpo => ?_)))
      obtain ⟨rfl, rfl⟩ := hpo
      refine And.intro ?_ ⟨trivial, Nat.le_refl _, Nat.le_refl _⟩
      exact x_PC_0 (by decide) hC
    | true =>
      refine And.intro (fun _ => ?_) (fun c => absurd c (by decide))
      rw [Bool.and_eq_true] at hb
      obtain ⟨p, hp, rfl⟩ := x_ixb_t hb.1 (by omega)
      obtain ⟨k, hk, rfl⟩ := x_ixb_t hb.2 (by omega)
      obtain ⟨m, hm1, hm, rfl⟩ := x_wi_t (lo := 0) (hi := 1) hz (by decide) (by decide)
      have o13 : v_ok v 13 p k := show p < v 2 0 0 ∧ k < v 0 0 0 from ⟨by omega, by omega⟩
      have h13 : f 29 (4 * p + k) = nI (v 13 p k) := hC.1 13 p k o13
      have b13 : v 13 p k ≤ 9999 := (hB.1 13 p k o13).2
      have o14 : v_ok v 14 p k := show p < v 2 0 0 ∧ k < v 0 0 0 from ⟨by omega, by omega⟩
      have h14 : f 30 (4 * p + k) = nI (v 14 p k) := hC.1 14 p k o14
      have b14 : v 14 p k ≤ 9999 := (hB.1 14 p k o14).2
      rw [x_c, x_c, x_c, nI_clamp (by omega), nI_clamp (by omega), nI_clamp (by omega)]
      refine Exists.intro _ (And.intro c_purse (And.intro (And.intro (Nat.zero_le _) (Nat.zero_le _)) (fun q h' hpo => ?_)))
      obtain ⟨rfl, rfl⟩ := hpo
      rw [x_pl4]
      refine And.intro (fun c => ?_) (fun c => ?_)
      · have c : ¬ nI m = nI 0 := c
        rw [nI_eq (by omega) (by decide)] at c
        rw [if_neg c]
        refine And.intro (x_ix_nI (by omega) (by omega)) ?_
        rw [nI_clamp (by omega)]
        refine Exists.intro _ (And.intro c_answer (And.intro (And.intro (Nat.zero_le _) (Nat.zero_le _)) (fun q h' hpo => ?_)))
        obtain ⟨rfl, rfl⟩ := hpo
        refine And.intro ?_ ⟨trivial, Nat.le_refl _, Nat.le_refl _⟩
        rw [← h14]
        exact x_PC_0 (by decide) hC
      · have c : nI m = nI 0 := c
        rw [nI_eq (by omega) (by decide)] at c
        rw [if_pos c]
        refine And.intro (x_ix_nI (by omega) (by omega)) ?_
        rw [nI_clamp (by omega)]
        refine Exists.intro _ (And.intro c_answer (And.intro (And.intro (Nat.zero_le _) (Nat.zero_le _)) (fun q h' hpo => ?_)))
        obtain ⟨rfl, rfl⟩ := hpo
        refine And.intro ?_ ⟨trivial, Nat.le_refl _, Nat.le_refl _⟩
        rw [← h13]
        exact x_PC_0 (by decide) hC
theorem c_worth_22 {x y : Int32} (hC : v_C f g 22 v) (hB : v_B v) : x_Ct 114 (d + 3) [.ref 0, .int x, .int y] (f, g, x_HR 22 t, dm, n) (x_PC f g 22 (x_HR 22 t) dm n (sp_worth v x y)) := by
  have bK := v_B_K hB
  have bG := v_B_G hB
  have bP := v_B_P hB
  have o0 : v_ok v 0 0 0 := ⟨rfl, rfl⟩
  have h0 : f 22 0 = nI (v 0 0 0) := hC.1 0 0 0 o0
  have b0 : v 0 0 0 ≤ 4 := (hB.1 0 0 0 o0).2
  have o2 : v_ok v 2 0 0 := ⟨rfl, rfl⟩
  have h2 : f 22 2 = nI (v 2 0 0) := hC.1 2 0 0 o2
  have b2 : v 2 0 0 ≤ 5 := (hB.1 2 0 0 o2).2
  unfold sp_worth
  refine x_Ct_w (by decide) (Nat.le_of_ble_eq_true rfl) ok114 [] 8 ?_
  refine Exists.intro _ (And.intro (c_hasPerson rfl h2 bP) (And.intro (And.intro (Nat.zero_le _) (Nat.zero_le _)) (fun q h' hpo => ?_)))
  obtain ⟨rfl, rfl⟩ := hpo
  cases hb : x_ixb x (v 2 0 0) with
  | false =>
    refine And.intro (fun _ => ?_) (fun c => absurd rfl c)
    refine Exists.intro _ (And.intro c_refuse (And.intro (And.intro (Nat.zero_le _) (Nat.zero_le _)) (fun q h' hpo => ?_)))
    obtain ⟨rfl, rfl⟩ := hpo
    refine And.intro ?_ ⟨trivial, Nat.le_refl _, Nat.le_refl _⟩
    exact x_PC_0 (by decide) hC
  | true =>
    refine And.intro (fun c => absurd c (by decide)) (fun _ => ?_)
    refine Exists.intro _ (And.intro (c_within (lo := 0) (hi := 1)) (And.intro (And.intro (Nat.zero_le _) (Nat.zero_le _)) (fun q h' hpo => ?_)))
    obtain ⟨rfl, rfl⟩ := hpo
    cases hz : x_wi y 0 1 with
    | false =>
      refine And.intro (fun c => absurd rfl c) (fun _ => ?_)
      refine Exists.intro _ (And.intro c_refuse (And.intro (And.intro (Nat.zero_le _) (Nat.zero_le _)) (fun q h' hpo => ?_)))
      obtain ⟨rfl, rfl⟩ := hpo
      refine And.intro ?_ ⟨trivial, Nat.le_refl _, Nat.le_refl _⟩
      exact x_PC_0 (by decide) hC
    | true =>
      refine And.intro (fun _ => ?_) (fun c => absurd c (by decide))
      obtain ⟨p, hp, rfl⟩ := x_ixb_t hb (by omega)
      obtain ⟨m, hm1, hm, rfl⟩ := x_wi_t (lo := 0) (hi := 1) hz (by decide) (by decide)
      rw [x_c, x_c, nI_clamp (by omega), nI_clamp (by omega)]
      refine And.intro (fun c => ?_) (fun c => ?_)
      · have c : ¬ nI m = nI 0 := c
        rw [nI_eq (by omega) (by decide)] at c
        rw [if_neg c]
        refine Exists.intro _ (And.intro (c_worthOf_22_30 h0 bK (by omega)) (And.intro (And.intro (Nat.zero_le _) (Nat.zero_le _)) (fun q h' hpo => ?_)))
        obtain ⟨rfl, rfl⟩ := hpo
        refine Exists.intro _ (And.intro c_answer (And.intro (And.intro (Nat.zero_le _) (Nat.zero_le _)) (fun q h' hpo => ?_)))
        obtain ⟨rfl, rfl⟩ := hpo
        refine And.intro ?_ ⟨trivial, Nat.le_refl _, Nat.le_refl _⟩
        rw [← v_C_ws hC (Or.inr rfl) hp _ (Nat.le_refl _)]
        exact x_PC_0 (by decide) hC
      · have c : nI m = nI 0 := c
        rw [nI_eq (by omega) (by decide)] at c
        rw [if_pos c]
        refine Exists.intro _ (And.intro (c_worthOf_22_29 h0 bK (by omega)) (And.intro (And.intro (Nat.zero_le _) (Nat.zero_le _)) (fun q h' hpo => ?_)))
        obtain ⟨rfl, rfl⟩ := hpo
        refine Exists.intro _ (And.intro c_answer (And.intro (And.intro (Nat.zero_le _) (Nat.zero_le _)) (fun q h' hpo => ?_)))
        obtain ⟨rfl, rfl⟩ := hpo
        refine And.intro ?_ ⟨trivial, Nat.le_refl _, Nat.le_refl _⟩
        rw [← v_C_ws hC (Or.inl rfl) hp _ (Nat.le_refl _)]
        exact x_PC_0 (by decide) hC
theorem c_good_22 {x y : Int32} (hC : v_C f g 22 v) (hB : v_B v) : x_Ct 110 (d + 2) [.ref 0, .int x, .int y] (f, g, x_HR 22 t, dm, n) (x_PC f g 22 (x_HR 22 t) dm n (sp_good v x y)) := by
  have bK := v_B_K hB
  have bG := v_B_G hB
  have bP := v_B_P hB
  have o1 : v_ok v 1 0 0 := ⟨rfl, rfl⟩
  have h1 : f 22 1 = nI (v 1 0 0) := hC.1 1 0 0 o1
  have b1 : v 1 0 0 ≤ 5 := (hB.1 1 0 0 o1).2
  unfold sp_good
  refine x_Ct_w (by decide) (Nat.le_of_ble_eq_true rfl) ok110 [] 9 ?_
  refine Exists.intro _ (And.intro (c_hasGood rfl h1 bG) (And.intro (And.intro (Nat.zero_le _) (Nat.zero_le _)) (fun q h' hpo => ?_)))
  obtain ⟨rfl, rfl⟩ := hpo
  cases hb : x_ixb x (v 1 0 0) with
  | false =>
    refine And.intro (fun _ => ?_) (fun c => absurd rfl c)
    refine Exists.intro _ (And.intro c_refuse (And.intro (And.intro (Nat.zero_le _) (Nat.zero_le _)) (fun q h' hpo => ?_)))
    obtain ⟨rfl, rfl⟩ := hpo
    refine And.intro ?_ ⟨trivial, Nat.le_refl _, Nat.le_refl _⟩
    exact x_PC_0 (by decide) hC
  | true =>
    refine And.intro (fun c => absurd c (by decide)) (fun _ => ?_)
    refine Exists.intro _ (And.intro (c_within (lo := 0) (hi := 2)) (And.intro (And.intro (Nat.zero_le _) (Nat.zero_le _)) (fun q h' hpo => ?_)))
    obtain ⟨rfl, rfl⟩ := hpo
    cases hz : x_wi y 0 2 with
    | false =>
      refine And.intro (fun c => absurd rfl c) (fun _ => ?_)
      refine Exists.intro _ (And.intro c_refuse (And.intro (And.intro (Nat.zero_le _) (Nat.zero_le _)) (fun q h' hpo => ?_)))
      obtain ⟨rfl, rfl⟩ := hpo
      refine And.intro ?_ ⟨trivial, Nat.le_refl _, Nat.le_refl _⟩
      exact x_PC_0 (by decide) hC
    | true =>
      refine And.intro (fun _ => ?_) (fun c => absurd c (by decide))
      obtain ⟨i, hi, rfl⟩ := x_ixb_t hb (by omega)
      obtain ⟨m, hm1, hm, rfl⟩ := x_wi_t (lo := 0) (hi := 2) hz (by decide) (by decide)
      have o10 : v_ok v 10 i 0 := show i < v 1 0 0 ∧ 0 = 0 from ⟨by omega, rfl⟩
      have h10 : f 26 i = nI (v 10 i 0) := hC.1 10 i 0 o10
      have b10 : v 10 i 0 ≤ 99 := (hB.1 10 i 0 o10).2
      have l10 : 1 ≤ v 10 i 0 := (hB.1 10 i 0 o10).1
      have o11 : v_ok v 11 i 0 := show i < v 1 0 0 ∧ 0 = 0 from ⟨by omega, rfl⟩
      have h11 : f 27 i = nI (v 11 i 0) := hC.1 11 i 0 o11
      have b11 : v 11 i 0 ≤ 9999 := (hB.1 11 i 0 o11).2
      rw [x_c, x_c, nI_clamp (by omega), nI_clamp (by omega)]
      unfold v_good
      refine And.intro (fun c => ?_) (fun c => ?_)
      · have c : ¬ nI m = nI 0 := c
        rw [nI_eq (by omega) (by decide)] at c
        rw [if_neg c]
        refine And.intro (fun c2 => ?_) (fun c2 => ?_)
        · have c2 : ¬ nI m = nI 1 := c2
          rw [nI_eq (by omega) (by decide)] at c2
          rw [if_neg c2]
          refine Exists.intro _ (And.intro (c_priceOf_22 hC hB hi) (And.intro (And.intro (Nat.zero_le _) (Nat.zero_le _)) (fun q h' hpo => ?_)))
          obtain ⟨rfl, rfl⟩ := hpo
          refine Exists.intro _ (And.intro c_answer (And.intro (And.intro (Nat.zero_le _) (Nat.zero_le _)) (fun q h' hpo => ?_)))
          obtain ⟨rfl, rfl⟩ := hpo
          refine And.intro ?_ ⟨trivial, Nat.le_refl _, Nat.le_refl _⟩
          rw [← lN_i]
          exact x_PC_0 (by decide) hC
        · have c2 : nI m = nI 1 := c2
          rw [nI_eq (by omega) (by decide)] at c2
          rw [if_pos c2]
          refine And.intro (x_ix_nI (by omega) (by omega)) ?_
          rw [nI_clamp (by omega)]
          refine Exists.intro _ (And.intro c_answer (And.intro (And.intro (Nat.zero_le _) (Nat.zero_le _)) (fun q h' hpo => ?_)))
          obtain ⟨rfl, rfl⟩ := hpo
          refine And.intro ?_ ⟨trivial, Nat.le_refl _, Nat.le_refl _⟩
          rw [← h11]
          exact x_PC_0 (by decide) hC
      · have c : nI m = nI 0 := c
        rw [nI_eq (by omega) (by decide)] at c
        rw [if_pos c]
        refine And.intro (x_ix_nI (by omega) (by omega)) ?_
        rw [nI_clamp (by omega)]
        refine Exists.intro _ (And.intro c_answer (And.intro (And.intro (Nat.zero_le _) (Nat.zero_le _)) (fun q h' hpo => ?_)))
        obtain ⟨rfl, rfl⟩ := hpo
        refine And.intro ?_ ⟨trivial, Nat.le_refl _, Nat.le_refl _⟩
        rw [← h10]
        exact x_PC_0 (by decide) hC
theorem c_keptOf_22 {x : Int32} (hC : v_C f g 22 v) (hB : v_B v) : x_Ct 142 (d + 2) [.ref 0, .int x] (f, g, x_HR 22 t, dm, n) (x_PC f g 22 (x_HR 22 t) dm n (sp_keptOf v x)) := by
  unfold sp_keptOf
  refine x_Ct_w (by decide) (Nat.le_of_ble_eq_true rfl) ok142 [] 4 ?_
  refine Exists.intro _ (And.intro (c_within (lo := 1) (hi := 9999)) (And.intro (And.intro (Nat.zero_le _) (Nat.zero_le _)) (fun q h' hpo => ?_)))
  obtain ⟨rfl, rfl⟩ := hpo
  cases hz : x_wi x 1 9999 with
  | false =>
    refine And.intro (fun c => absurd rfl c) (fun _ => ?_)
    refine Exists.intro _ (And.intro c_refuse (And.intro (And.intro (Nat.zero_le _) (Nat.zero_le _)) (fun q h' hpo => ?_)))
    obtain ⟨rfl, rfl⟩ := hpo
    refine And.intro ?_ ⟨trivial, Nat.le_refl _, Nat.le_refl _⟩
    exact x_PC_0 (by decide) hC
  | true =>
    refine And.intro (fun _ => ?_) (fun c => absurd c (by decide))
    obtain ⟨m, hm1, hm, rfl⟩ := x_wi_t (lo := 1) (hi := 9999) hz (by decide) (by decide)
    rw [x_c, nI_clamp (by omega)]
    refine Exists.intro _ (And.intro (c_keptFrom_22 hC hB hm) (And.intro (And.intro (Nat.zero_le _) (Nat.zero_le _)) (fun q h' hpo => ?_)))
    obtain ⟨rfl, rfl⟩ := hpo
    refine Exists.intro _ (And.intro c_answer (And.intro (And.intro (Nat.zero_le _) (Nat.zero_le _)) (fun q h' hpo => ?_)))
    obtain ⟨rfl, rfl⟩ := hpo
    refine And.intro ?_ ⟨trivial, Nat.le_refl _, Nat.le_refl _⟩
    exact x_PC_0 (by decide) hC
theorem c_room_22 (hC : v_C f g 22 v) (hB : v_B v) : x_Ct 128 (d + 3) [.ref 0] (f, g, x_HR 22 t, dm, n) (x_PC f g 22 (x_HR 22 t) dm n (sp_room v)) := by
  have o7 : v_ok v 7 0 0 := ⟨rfl, rfl⟩
  have h7 : f 22 4 = nI (v 7 0 0) := hC.1 7 0 0 o7
  have b7 : v 7 0 0 ≤ 21000000 := (hB.1 7 0 0 o7).2
  have l7 : 1 ≤ v 7 0 0 := (hB.1 7 0 0 o7).1
  have o3 : v_ok v 3 0 0 := ⟨rfl, rfl⟩
  have h3 : f 23 0 = nI (v 3 0 0) := hC.1 3 0 0 o3
  have b3 : v 3 0 0 ≤ 9999 := (hB.1 3 0 0 o3).2
  have l3 : 10 ≤ v 3 0 0 := (hB.1 3 0 0 o3).1
  have bo := v_out_le hB
  have bm : v 7 0 0 * v 3 0 0 ≤ 21000000 * 9999 := Nat.mul_le_mul b7 b3
  have bm2 : 1 * 10 ≤ v 7 0 0 * v 3 0 0 := Nat.mul_le_mul l7 l3
  unfold sp_room
  refine x_Ct_w (by decide) (Nat.le_of_ble_eq_true rfl) ok128 [] 2 ?_
  refine And.intro (x_ix_nI (j := 0) (by decide) (by decide)) ?_
  refine Exists.intro _ (And.intro (c_outNow_22 hC hB) (And.intro (And.intro (Nat.zero_le _) (Nat.zero_le _)) (fun q h' hpo => ?_)))
  obtain ⟨rfl, rfl⟩ := hpo
  have e : (if (if (f 22 4).toInt64 * (f 23 0).toInt64 - lN 1 - (nI (v_out v)).toInt64 < 0 then 0 else (f 22 4).toInt64 * (f 23 0).toInt64 - lN 1 - (nI (v_out v)).toInt64) < lN 999999999 then (if (f 22 4).toInt64 * (f 23 0).toInt64 - lN 1 - (nI (v_out v)).toInt64 < 0 then 0 else (f 22 4).toInt64 * (f 23 0).toInt64 - lN 1 - (nI (v_out v)).toInt64) else lN 999999999).toInt32 = nI (min 999999999 (v 7 0 0 * v 3 0 0 - 1 - v_out v)) := by
    rw [h7, h3, nI_l (by omega), nI_l (by omega), nI_l (by omega), lN_mul, lN_sub (by omega), x_lsub0 (by omega) (by omega), x_lmin (by decide) (by omega), lN_i]
  refine Exists.intro _ (And.intro c_answer (And.intro (And.intro (Nat.zero_le _) (Nat.zero_le _)) (fun q h' hpo => ?_)))
  obtain ⟨rfl, rfl⟩ := hpo
  refine And.intro ?_ ⟨trivial, Nat.le_refl _, Nat.le_refl _⟩
  rw [← e]
  exact x_PC_0 (by decide) hC
theorem c_levelIn_22 {x : Int32} (hC : v_C f g 22 v) (hB : v_B v) : x_Ct 129 (d + 3) [.ref 0, .int x] (f, g, x_HR 22 t, dm, n) (x_PC f g 22 (x_HR 22 t) dm n (sp_levelIn v x)) := by
  have o7 : v_ok v 7 0 0 := ⟨rfl, rfl⟩
  have h7 : f 22 4 = nI (v 7 0 0) := hC.1 7 0 0 o7
  have b7 : v 7 0 0 ≤ 21000000 := (hB.1 7 0 0 o7).2
  have l7 : 1 ≤ v 7 0 0 := (hB.1 7 0 0 o7).1
  have bo := v_out_le hB
  unfold sp_levelIn
  refine x_Ct_w (by decide) (Nat.le_of_ble_eq_true rfl) ok129 [] 8 ?_
  refine Exists.intro _ (And.intro (c_within (lo := 0) (hi := 999)) (And.intro (And.intro (Nat.zero_le _) (Nat.zero_le _)) (fun q h' hpo => ?_)))
  obtain ⟨rfl, rfl⟩ := hpo
  cases hz : x_wi x 0 999 with
  | false =>
    refine And.intro (fun c => absurd rfl c) (fun _ => ?_)
    refine Exists.intro _ (And.intro c_refuse (And.intro (And.intro (Nat.zero_le _) (Nat.zero_le _)) (fun q h' hpo => ?_)))
    obtain ⟨rfl, rfl⟩ := hpo
    refine And.intro ?_ ⟨trivial, Nat.le_refl _, Nat.le_refl _⟩
    exact x_PC_0 (by decide) hC
  | true =>
    refine And.intro (fun _ => ?_) (fun c => absurd c (by decide))
    obtain ⟨m, hm1, hm, rfl⟩ := x_wi_t (lo := 0) (hi := 999) hz (by decide) (by decide)
    rw [x_c, nI_clamp (by omega)]
    refine And.intro (fun c => ?_) (fun c => ?_)
    · have c : ¬ nI m = nI 0 := c
      rw [nI_eq (by omega) (by decide)] at c
      rw [if_neg c]
      refine Exists.intro _ (And.intro (c_outNow_22 hC hB) (And.intro (And.intro (Nat.zero_le _) (Nat.zero_le _)) (fun q h' hpo => ?_)))
      obtain ⟨rfl, rfl⟩ := hpo
      refine Exists.intro _ (And.intro (c_levelAfter_22 hC hB hm (by omega)) (And.intro (And.intro (Nat.zero_le _) (Nat.zero_le _)) (fun q h' hpo => ?_)))
      obtain ⟨rfl, rfl⟩ := hpo
      refine Exists.intro _ (And.intro c_answer (And.intro (And.intro (Nat.zero_le _) (Nat.zero_le _)) (fun q h' hpo => ?_)))
      obtain ⟨rfl, rfl⟩ := hpo
      refine And.intro ?_ ⟨trivial, Nat.le_refl _, Nat.le_refl _⟩
      exact x_PC_0 (by decide) hC
    · have c : nI m = nI 0 := c
      rw [nI_eq (by omega) (by decide)] at c
      rw [if_pos c]
      refine Exists.intro _ (And.intro c_answer (And.intro (And.intro (Nat.zero_le _) (Nat.zero_le _)) (fun q h' hpo => ?_)))
      obtain ⟨rfl, rfl⟩ := hpo
      refine And.intro ?_ ⟨trivial, Nat.le_refl _, Nat.le_refl _⟩
      rw [← h7]
      exact x_PC_0 (by decide) hC
theorem c_bring_22 {x y : Int32} (hC : v_C f g 22 v) (hB : v_B v) : x_Ct 127 (d + 2) [.ref 0, .int x, .int y] (f, g, x_HR 22 t, dm, n) (x_PC f g 22 (x_HR 22 t) dm n (sp_bring v x y)) := by
  have bK := v_B_K hB
  have bG := v_B_G hB
  have bP := v_B_P hB
  have o1 : v_ok v 1 0 0 := ⟨rfl, rfl⟩
  have h1 : f 22 1 = nI (v 1 0 0) := hC.1 1 0 0 o1
  have b1 : v 1 0 0 ≤ 5 := (hB.1 1 0 0 o1).2
  unfold sp_bring
  refine x_Ct_w (by decide) (Nat.le_of_ble_eq_true rfl) ok127 [] 9 ?_
  refine Exists.intro _ (And.intro (c_hasGood rfl h1 bG) (And.intro (And.intro (Nat.zero_le _) (Nat.zero_le _)) (fun q h' hpo => ?_)))
  obtain ⟨rfl, rfl⟩ := hpo
  cases hb : x_ixb x (v 1 0 0) with
  | false =>
    refine And.intro (fun _ => ?_) (fun c => absurd rfl c)
    refine Exists.intro _ (And.intro c_refuse (And.intro (And.intro (Nat.zero_le _) (Nat.zero_le _)) (fun q h' hpo => ?_)))
    obtain ⟨rfl, rfl⟩ := hpo
    refine And.intro ?_ ⟨trivial, Nat.le_refl _, Nat.le_refl _⟩
    exact x_PC_0 (by decide) hC
  | true =>
    refine And.intro (fun c => absurd c (by decide)) (fun _ => ?_)
    refine Exists.intro _ (And.intro c_isAmount (And.intro (And.intro (Nat.zero_le _) (Nat.zero_le _)) (fun q h' hpo => ?_)))
    obtain ⟨rfl, rfl⟩ := hpo
    cases hz : x_wi y 1 999 with
    | false =>
      refine And.intro (fun c => absurd rfl c) (fun _ => ?_)
      refine Exists.intro _ (And.intro c_refuse (And.intro (And.intro (Nat.zero_le _) (Nat.zero_le _)) (fun q h' hpo => ?_)))
      obtain ⟨rfl, rfl⟩ := hpo
      refine And.intro ?_ ⟨trivial, Nat.le_refl _, Nat.le_refl _⟩
      exact x_PC_0 (by decide) hC
    | true =>
      refine And.intro (fun _ => ?_) (fun c => absurd c (by decide))
      obtain ⟨i, hi, rfl⟩ := x_ixb_t hb (by omega)
      obtain ⟨m, hm1, hm, rfl⟩ := x_wi_t (lo := 1) (hi := 999) hz (by decide) (by decide)
      have o11 : v_ok v 11 i 0 := show i < v 1 0 0 ∧ 0 = 0 from ⟨by omega, rfl⟩
      have h11 : f 27 i = nI (v 11 i 0) := hC.1 11 i 0 o11
      have b11 : v 11 i 0 ≤ 9999 := (hB.1 11 i 0 o11).2
      rw [x_c, x_c, nI_clamp (by omega), nI_clamp (by omega)]
      unfold s_bring
      refine And.intro (x_ix_nI (by omega) (by omega)) ?_
      rw [nI_clamp (by omega)]
      refine And.intro (fun c => ?_) (fun c => ?_)
      · have c : f 27 i + nI m ≤ nI 9999 := c
        rw [h11, nI_add, nI_leI (by omega) (by omega)] at c
        rw [if_neg (by omega)]
        refine And.intro (x_ix_nI (by omega) (by omega)) ?_
        rw [nI_clamp (by omega)]
        refine And.intro (x_ix_nI (by omega) (by omega)) ?_
        rw [nI_clamp (by omega)]
        refine And.intro (x_ix_nI (by omega) (by omega)) ?_
        rw [nI_clamp (by omega)]
        refine Exists.intro _ (And.intro c_answer (And.intro (And.intro (Nat.zero_le _) (Nat.zero_le _)) (fun q h' hpo => ?_)))
        obtain ⟨rfl, rfl⟩ := hpo
        refine And.intro ?_ ⟨trivial, Nat.le_refl _, Nat.le_refl _⟩
        have e1 : x_up f 27 i (f 27 i + nI m) 27 i = nI (v 11 i 0 + m) := by rw [x_up_s, h11, nI_add]
        have e := x_LC_set (x_LC_0 hC) bK bG o11 (x := v 11 i 0 + m) (by decide)
        rw [← nI_add (v 11 i 0), ← h11] at e
        show x_PC f g 22 (x_HR 22 t) dm n (.int (nI (v 11 i 0 + m)), 0, v_set v 11 i 0 (v 11 i 0 + m)) (some (.int (x_up f 27 i (f 27 i + nI m) 27 i))) _
        rw [e1]
        exact x_PC_L (by decide) e
      · have c : ¬ f 27 i + nI m ≤ nI 9999 := c
        rw [h11, nI_add, nI_leI (by omega) (by omega)] at c
        rw [if_pos (by omega)]
        refine Exists.intro _ (And.intro c_refuse (And.intro (And.intro (Nat.zero_le _) (Nat.zero_le _)) (fun q h' hpo => ?_)))
        obtain ⟨rfl, rfl⟩ := hpo
        refine And.intro ?_ ⟨trivial, Nat.le_refl _, Nat.le_refl _⟩
        exact x_PC_0 (by decide) hC
end C25
