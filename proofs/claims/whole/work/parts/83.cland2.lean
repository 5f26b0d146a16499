/-! land() of the class -/
def y_v0 : xV := fun c _ _ => if c = 3 then 500 else if c = 4 then 3 else if c = 7 then 1 else 0
def y_S0 : xL := (y_v0, fun _ => 0, fun _ => false)
theorem y_v0_BA : v_BA y_v0 := by
  refine ⟨fun c i j hv => ?_, rfl, rfl, rfl, rfl, rfl⟩
  have h := v_all_le hv
  have e : ∀ c, c ≤ 15 → (c ≤ 8 ∨ 12 < c) → v_lo c ≤ y_v0 c 0 0 ∧ y_v0 c 0 0 ≤ v_hi c := by decide
  refine e c h ?_
  unfold v_all at hv
  have e0 : y_v0 0 0 0 = 0 := rfl
  have e1 : y_v0 1 0 0 = 0 := rfl
  have e2 : y_v0 2 0 0 = 0 := rfl
  rw [e0, e1, e2] at hv
  repeat' split at hv
  all_goals omega
theorem v_CA_clear {f F : Nat → Nat → Int32} {g G : Nat → Nat → Int64} {L : Nat} (h : x_CL0 f g L F G) : v_CA F G L y_v0 := by
  obtain ⟨⟨a0, a1, a2, a3, a4, a5⟩, ⟨b0, b1, b2⟩, ⟨c6, c7⟩, h7, h9, -, -⟩ := h
  refine ⟨fun c i j hv => ?_, c6, c7⟩
  have hle := v_all_le hv
  have e0 : y_v0 0 0 0 = 0 := rfl
  have e1 : y_v0 1 0 0 = 0 := rfl
  have e2 : y_v0 2 0 0 = 0 := rfl
  unfold v_all at hv
  rw [e0, e1, e2] at hv
  have hc : (c ≤ 8 ∧ i = 0 ∧ j = 0) ∨ ((c = 13 ∨ c = 14) ∧ i < 5 ∧ j < 4) ∨ (c = 15 ∧ i < 5 ∧ j < 5) := by
    repeat' split at hv
    all_goals omega
  rcases hc with ⟨h8, rfl, rfl⟩ | ⟨rfl | rfl, hi, hj⟩ | ⟨rfl, hi, hj⟩
  · have : c = 0 ∨ c = 1 ∨ c = 2 ∨ c = 3 ∨ c = 4 ∨ c = 5 ∨ c = 6 ∨ c = 7 ∨ c = 8 := by omega
    rcases this with rfl | rfl | rfl | rfl | rfl | rfl | rfl | rfl | rfl
    · exact a0
    · exact a1
    · exact a2
    · exact b0
    · exact b1
    · exact b2
    · exact a3
    · exact a4
    · exact a5
  · exact (h7 (4 * i + j) (by omega)).1
  · exact (h7 (4 * i + j) (by omega)).2
  · exact h9 (5 * i + j) (by omega)
section C83
variable {f : Nat → Nat → Int32} {g : Nat → Nat → Int64} {r t : Nat} {dm : List Nat} {n d L : Nat} {v : xV} {a : Nat → Int32} {m q : Nat} {N : Nat → Int64} {S : xL} {ρ : Nat → Nat → Option Nat} {z : Option Value} {h' : xH} {e : Nat × Nat} {F : Nat → Nat → Int32} {G : Nat → Nat → Int64}
theorem c_endText {b : Bool} : x_V 169 d [.ref 0, .int (x_bo b)] (f, g, x_HR r t, dm, n) (.int (x_bo b)) (x_up (x_up (x_up f 0 5 0) 0 6 (if b = true then 0 else f 10 10)) 0 7 (if b = true then -1 else f 10 11), g, x_HR r t, dm, n) := by
  cases b with
  | false =>
    refine x_Ct_w (by decide) (Nat.le_of_ble_eq_true rfl) ok169 [] 6 ?_
    refine And.intro (fun _ => ?_) (fun c => absurd rfl c)
    refine And.intro (fun _ => ?_) (fun c => absurd rfl c)
    refine And.intro ?_ ⟨Or.inl rfl, Nat.le_refl _, Nat.le_refl _⟩
    exact ⟨rfl, rfl⟩
  | true =>
    refine x_Ct_w (by decide) (Nat.le_of_ble_eq_true rfl) ok169 [] 6 ?_
    refine And.intro (fun c => absurd (show (1 : Int32) = 0 from c) (by decide)) (fun _ => ?_)
    refine And.intro (fun c => absurd (show (1 : Int32) = 0 from c) (by decide)) (fun _ => ?_)
    refine And.intro ?_ ⟨Or.inr rfl, Nat.le_refl _, Nat.le_refl _⟩
    exact ⟨rfl, rfl⟩
theorem x_HR_601 {r t : Nat} : va_up (x_HR r t) 601 (fun _ => none) = x_HR r t := by
  funext c
  by_cases h : c = 601
  · rw [h, x_us]
    rfl
  · rw [x_un h]
theorem x_HR_600 {r t L : Nat} (h : 34 - r = L) : x_up (x_up (x_up (va_up (x_HR r t) 600 (fun _ => none)) 600 2 (some 601)) 600 0 (some 10)) 600 1 (some L) = x_HR r t := by
  subst h
  funext c
  by_cases h : c = 600
  · rw [h]
    funext b
    show _ = if b = 0 then some 10 else if b = 1 then some (34 - r) else if b = 2 then some 601 else none
    by_cases b1 : b = 1
    · subst b1
      exact x_up_s _ _ _ _
    · rw [x_up_j b1]
      by_cases b0 : b = 0
      · subst b0
        exact x_up_s _ _ _ _
      · rw [x_up_j b0, if_neg b0, if_neg b1]
        by_cases b2 : b = 2
        · subst b2
          exact x_up_s _ _ _ _
        · rw [x_up_j b2, if_neg b2, x_us]
  · rw [x_up_k h, x_up_k h, x_up_k h, x_un h]
theorem va_up_sw {α : Type} {f : Nat → α} {c1 c2 : Nat} {u w : α} (h : c1 ≠ c2) : va_up (va_up f c1 u) c2 w = va_up (va_up f c2 w) c1 u := by
  funext k
  by_cases h1 : k = c1
  · rw [h1, x_un h, x_us, x_us]
  · by_cases h2 : k = c2
    · rw [h2, x_us, x_un (Ne.symm h), x_us]
    · rw [x_un h2, x_un h1, x_un h1, x_un h2]
theorem c_initL_22 (h601 : 601 ∉ dm) : x_Ct 35 (d + 1) [.ref 600, .ref 10, .ref 22] (f, g, va_up (x_HR 12 t) 600 (fun _ => none), dm, 601) (fun z h' => z = none ∧ h' = (va_up f 601 (fun _ => 0), va_up g 601 (fun _ => 0), x_HR 12 t, dm ++ [601], 602)) := by
  refine x_Ct_w (by decide) (Nat.le_of_ble_eq_true rfl) ok35 [] 6 ?_
  refine And.intro ⟨by decide, rfl, h601, show (601 : Nat) < 1000 by decide, by decide⟩ ?_
  refine And.intro ⟨show 0 + 1 ≤ x_mc 35 by decide, show 0 + 3 ≤ x_ms 35 by decide⟩ ?_
  refine And.intro ?_ ⟨trivial, by decide, by decide⟩
  refine ⟨rfl, ?_⟩
  have e : x_up (x_up (x_up (va_up (va_up (x_HR 12 t) 600 (fun _ => none)) 601 (fun _ => none)) 600 2 (some 601)) 600 0 (some 10)) 600 1 (some 22) = x_HR 12 t := by
    rw [va_up_sw (by decide), x_HR_601]
    exact x_HR_600 rfl
  show (va_up f 601 (fun _ => 0), va_up g 601 (fun _ => 0), x_up (x_up (x_up (va_up (va_up (x_HR 12 t) 600 (fun _ => none)) 601 (fun _ => none)) 600 2 (some 601)) 600 0 (some 10)) 600 1 (some 22), dm ++ [601], 602) = _
  rw [e]
theorem c_initL_12 (h601 : 601 ∉ dm) : x_Ct 35 (d + 1) [.ref 600, .ref 10, .ref 12] (f, g, va_up (x_HR 22 t) 600 (fun _ => none), dm, 601) (fun z h' => z = none ∧ h' = (va_up f 601 (fun _ => 0), va_up g 601 (fun _ => 0), x_HR 22 t, dm ++ [601], 602)) := by
  refine x_Ct_w (by decide) (Nat.le_of_ble_eq_true rfl) ok35 [] 6 ?_
  refine And.intro ⟨by decide, rfl, h601, show (601 : Nat) < 1000 by decide, by decide⟩ ?_
  refine And.intro ⟨show 0 + 1 ≤ x_mc 35 by decide, show 0 + 3 ≤ x_ms 35 by decide⟩ ?_
  refine And.intro ?_ ⟨trivial, by decide, by decide⟩
  refine ⟨rfl, ?_⟩
  have e : x_up (x_up (x_up (va_up (va_up (x_HR 22 t) 600 (fun _ => none)) 601 (fun _ => none)) 600 2 (some 601)) 600 0 (some 10)) 600 1 (some 12) = x_HR 22 t := by
    rw [va_up_sw (by decide), x_HR_601]
    exact x_HR_600 rfl
  show (va_up f 601 (fun _ => 0), va_up g 601 (fun _ => 0), x_up (x_up (x_up (va_up (va_up (x_HR 22 t) 600 (fun _ => none)) 601 (fun _ => none)) 600 2 (some 601)) 600 0 (some 10)) 600 1 (some 12), dm ++ [601], 602) = _
  rw [e]
theorem c_clearSr {t : Nat} (ht : t = 32 ∨ t = 39) : x_Ct 57 d [.ref t] (f, g, ρ, dm, n) (fun q h' => q = none ∧ h' = (x_up (x_up (x_up f t 0 0) t 1 0) t 2 0, g, ρ, dm, n)) := by
  rcases ht with rfl | rfl
  · refine x_Ct_w (by decide) (Nat.le_of_ble_eq_true rfl) ok57 [] 6 ?_
    refine And.intro (Or.inl rfl) ?_
    exact And.intro ⟨rfl, rfl⟩ ⟨trivial, Nat.le_refl _, Nat.le_refl _⟩
  · refine x_Ct_w (by decide) (Nat.le_of_ble_eq_true rfl) ok57 [] 6 ?_
    refine And.intro (Or.inl rfl) ?_
    exact And.intro ⟨rfl, rfl⟩ ⟨trivial, Nat.le_refl _, Nat.le_refl _⟩
/-- cells that are of no use any more are forgotten -/
theorem x_Rep_cut {D : va_G} {A : Nat → Prop} {ad : Nat → Nat} {ac : Nat → ClassId} {h h2 : xH} {U : State} {H : Heap} {l : List Nat} (hR : x_Rep D A ad ac h U H) (hd : x_d h = x_d h2 ++ l) (hc : ∀ k ∈ x_d h2, x_i h2 k = x_i h k ∧ x_l h2 k = x_l h k ∧ x_r h2 k = x_r h k) (hr : ∀ k ∈ x_d h2, ∀ j q, x_r h2 k j = some q → x_in1 (x_d h2) q) : x_Rep D A ad ac h2 U H := by
  obtain ⟨h1, h3, h4, h5, h6⟩ := hR
  have hw : x_ws ad ac h = x_ws ad ac h2 ++ l.map (fun k => (ad k, x_cell ad ac h k)) := by
    unfold x_ws
    rw [hd, List.map_append]
    congr 1
    refine List.map_congr_left fun k hk => ?_
    obtain ⟨e1, e2, e3⟩ := hc k hk
    rw [x_cell_cg (h := h2) (h' := h) e1.symm e2.symm (fun j => by rw [e3]) rfl]
  have pre : ∀ (k : Nat) (q : Nat × va_E), (x_ws ad ac h2)[k]? = some q → (x_ws ad ac h)[k]? = some q := by
    intro k q hq
    rw [hw]
    have hlt : k < (x_ws ad ac h2).length := (List.getElem?_eq_some_iff.mp hq).1
    rw [List.getElem?_append_left hlt]
    exact hq
  refine ⟨fun k q hq => h1 k q (pre k q hq), ⟨fun i j p q hi hj e => h3.1 i j p q (pre i p hi) (pre j q hj) e, fun k q hq => h3.2 k q (pre k q hq)⟩, h4, fun k hk => h5 k (by rw [hd]; exact List.mem_append_left _ hk), hr⟩
theorem x_Ct_cut {i d : Nat} {As : List Value} {h : xH} {P P' : Option Value → xH → Prop} (hc : x_Ct i d As h P) (hm : ∀ z h', P z h' → ∃ h2 l, P' z h2 ∧ x_d h' = x_d h2 ++ l ∧ (∀ k ∈ x_d h2, x_i h2 k = x_i h' k ∧ x_l h2 k = x_l h' k ∧ x_r h2 k = x_r h' k) ∧ (∀ k ∈ x_d h2, ∀ j q, x_r h2 k j = some q → x_in1 (x_d h2) q) ∧ (∀ k ∈ x_d h, k ∈ x_d h2) ∧ ∀ k, z ≠ some (.ref k)) : x_Ct i d As h P' := by
  intro l D ad ac sz p e h1 h2 h3 s m args below h4 h5 h6 h7
  obtain ⟨k, o, a1, a2, a3, ⟨⟨r, h', ad', ac', b1, b2, b3, b4, b5, b6⟩, b7⟩, a5⟩ := hc l D ad ac sz p e h1 h2 h3 s m args below h4 h5 h6 h7
  obtain ⟨h2', l', c1, c2, c3, c4, c5, c6⟩ := hm _ _ b2
  exact ⟨k, o, a1, a2, a3, ⟨⟨r, h2', ad', ac', b1, c1, x_Rep_cut b3 c2 c3 c4, b4, c5, fun v hv k' hk => by subst hk; exact absurd hv (c6 k')⟩, b7⟩, a5⟩
theorem x_SH_15 {c : Nat} (h1 : c ≠ 600) (h2 : c ≠ 610) : (x_SH c).1 ≠ 1 ∧ (x_SH c).1 ≠ 5 := by
  by_cases h : c < 1000
  · have e : ∀ c, c < 1000 → c ≠ 600 → c ≠ 610 → (x_SH c).1 ≠ 1 ∧ (x_SH c).1 ≠ 5 := by decide +kernel
    exact e c h h1 h2
  · rw [x_SH_far (by omega)]
    decide
theorem x_HO_eq {r t r' t' a b : Nat} (h1 : (x_SH a).1 ≠ 1) (h5 : (x_SH a).1 ≠ 5) : x_HO r t a b = x_HO r' t' a b := by
  unfold x_HO
  split <;> first | rfl | (rename_i e; exact absurd e h1) | (rename_i e; exact absurd e h5)
/-- the two lands have changed their places -/
theorem x_HR_sw {r t L c : Nat} (hL : 34 - r = L) (hr : 34 - L = r) (h1 : c ≠ 600) (h2 : c ≠ 610) : x_up (x_up (x_HR r t) 0 8 (some L)) 0 9 (some r) c = x_HR L t c := by
  cases c with
  | zero =>
    funext b
    show _ = x_H0 L t b
    unfold x_H0
    by_cases b9 : b = 9
    · subst b9
      rw [x_up_s, hr]
      rfl
    · rw [x_up_j b9]
      by_cases b8 : b = 8
      · subst b8
        rw [x_up_s]
        rfl
      · rw [x_up_j b8, if_neg b8, if_neg b9]
        show x_H0 r t b = _
        unfold x_H0
        rw [if_neg b8, if_neg b9]
  | succ c =>
    rw [x_up_k (by omega), x_up_k (by omega)]
    funext b
    have e := x_SH_15 h1 h2
    exact x_HO_eq e.1 e.2
end C83
