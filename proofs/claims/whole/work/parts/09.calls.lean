section XA
variable {SI : Nat → Option (Nat × (Nat → Int32))} {i : Nat} {R : Room} {QQ : xQ} {pc pc' : Nat} {lv : List (Option Value)} {st st' r : List Value} {h : xH} {cs ss k a b ix : Nat}
/-! new cells -/
def x_okty : FieldType → Bool
  | .int => true
  | .boolean => true
  | .long => true
  | .array _ => true
  | .object _ => true
  | _ => false
theorem x_okty_all : (List.range 11).all (fun ci => (List.range (x_nF ci)).all (fun k => x_okty (x_tys ci k))) = true := by decide +kernel
theorem x_okty_at {ci k : Nat} (h1 : ci < 11) (h2 : k < x_nF ci) : x_okty (x_tys ci k) = true := List.all_eq_true.mp (List.all_eq_true.mp x_okty_all ci (List.mem_range.mpr h1)) k (List.mem_range.mpr h2)
theorem x_val0 (ad : Nat → Nat) {h : xH} {k j : Nat} {ty : FieldType} (ht : x_okty ty = true) (h1 : x_i h k j = 0) (h2 : x_l h k j = 0) (h3 : x_r h k j = none) : x_val ad h k j (x_tc ty) = defaultValue ty := by
  cases ty with
  | int => show Value.int _ = _; rw [h1]; rfl
  | boolean => show Value.int _ = _; rw [h1]; rfl
  | long => show Value.long _ = _; rw [h2]; rfl
  | array t => show va_rf _ = _; rw [h3]; rfl
  | object c => show va_rf _ = _; rw [h3]; rfl
  | _ => simp [x_okty] at ht
theorem x_r_new (hC : x_isC (x_ow i) ix a = true) (hs : (x_SH (x_n h)).1 = a) (hn : x_n h ∉ x_d h) (hlt : x_n h < 1000) (h1 : cs + 1 ≤ R.cells) (h2 : ss + x_nF a ≤ R.slots) (hdg : decode (x_bc i) pc = .ok (.new ix, 3)) (hN : x_G SI i R QQ (pc + 3) lv (.ref (x_n h) :: st) (x_new0 h) (cs + 1) (ss + x_nF a)) : x_G SI i R QQ pc lv st h cs ss := by
  obtain ⟨ha, hlk⟩ := x_isC_ok hC
  intro l p e s m args below meth c D A dm0 ad0 C ad ac H locs ls hR hag hdm hcs hss hS hL hst hlv
  have hts := C.2.2.2.2.1
  refine va_new (ci := a) (cl := x_CL) (D := D) (tys := []) (fs := (List.range (x_nF a)).map (fun j => defaultValue (x_tys a j))) (C := x_R a) (T := x_TT a) (N := x_nF a) C.1 C.2.1 hts (x_uws a ha) (x_tys a) (x_tyok a ha) C.2.2.2.1 (hts _ hlk) (hts _ (x_inst ha)) (hts _ (x_ini (by omega))) hR.2.2.1 hR.1 hR.2.1 hS C.2.2.2.2.2.2.2.2.2.1 (x_CL_at a ha) (fun j hj => by
    unfold vp_V
    rw [List.getD_eq_getElem?_getD, List.getElem?_map, List.getElem?_range hj]
    rfl) h1 h2 hdg (fun q H1 hP1 hD1 hS1 => ?_)
  obtain ⟨hR1, hag1⟩ := x_Rep_n (cA := ac (x_n h)) (q := q) hR hn hlt (fun h9 => absurd h9 (by rw [hs]; omega)) (by
    rw [x_cell_o hs ha]
    congr 2
    refine List.map_congr_left fun j hj => ?_
    exact x_val0 _ (x_okty_at ha (List.mem_range.mp hj)) (by show va_up (x_i h) (x_n h) _ (x_n h) j = 0; rw [x_us]) (by show va_up (x_l h) (x_n h) _ (x_n h) j = 0; rw [x_us]) (by show va_up (x_r h) (x_n h) _ (x_n h) j = none; rw [x_us])) hP1 hD1
  have hdm1 : ∀ k ∈ x_d h, k ∈ x_d (x_new0 h) := fun k hk => List.mem_append_left _ hk
  have := hN l p e s m args below meth c D A dm0 ad0 C _ _ H1 locs ls hR1 (fun k hk => (hag1 k (hk.imp (hdm k) id)).trans (hag k hk)) (fun k hk => hdm1 k (hdm k hk)) h1 h2 hS1 (x_L_ag hL hag1 hlv) (x_okS_c (x_ok1_r (Or.inl (List.mem_append_right _ List.mem_cons_self))) (x_okS_m hdm1 hst)) (x_okL_m hdm1 hlv)
  have e2 : (Value.ref (x_n h) :: st).map (x_cv (va_up ad (x_n h) q)) = .ref q :: st.map (x_cv ad) := by
    rw [List.map_cons, x_map_ag hag1 hst]
    show Value.ref (va_up ad (x_n h) q (x_n h)) :: _ = _
    rw [x_us]
  rw [e2] at this
  exact this
theorem x_arrw (t : ArrayType) (ht : x_at t ≠ 99) : Cond.arrayClass (newarray.typeOf t) ∈ x_gd ∧ newarray.typeOf t = x_ty (x_at t) ∧ componentBytes (newarray.typeOf t) ≤ 8 := by
  cases t with
  | int => exact ⟨List.mem_filter.mpr ⟨by decide +kernel, rfl⟩, rfl, by decide⟩
  | long => exact ⟨List.mem_filter.mpr ⟨by decide +kernel, rfl⟩, rfl, by decide⟩
  | byte => exact ⟨List.mem_filter.mpr ⟨by decide +kernel, rfl⟩, rfl, by decide⟩
  | boolean => exact ⟨List.mem_filter.mpr ⟨by decide +kernel, rfl⟩, rfl, by decide⟩
  | _ => exact absurd rfl ht
theorem x_r_newa {t : ArrayType} {n : Int32} {N : Nat} (ht : x_at t ≠ 99) (hs : x_SH (x_n h) = (x_at t, N)) (hN0 : n.toNatClampNeg = N) (hn0 : ¬ n < 0) (hn : x_n h ∉ x_d h) (hlt : x_n h < 1000) (hbig : N ≤ 1000000) (h1 : cs + 1 ≤ R.cells) (h2 : ss + N ≤ R.slots) (hdg : decode (x_bc i) pc = .ok (.newarray t, 2)) (hN : x_G SI i R QQ (pc + 2) lv (.ref (x_n h) :: r) (x_new0 h) (cs + 1) (ss + N)) : x_G SI i R QQ pc lv (.int n :: r) h cs ss := by
  obtain ⟨hw, hty, hby⟩ := x_arrw t ht
  intro l p e s m args below meth c D A dm0 ad0 C ad ac H locs ls hR hag hdm hcs hss hS hL hst hlv
  have hts := C.2.2.2.2.1
  have hst := x_okS_t hst
  refine va_newa (cl := x_CL) (D := D) (tys := []) (a0 := (N, x_arr ad (x_new0 h) (x_n h) (x_at t))) C.1 C.2.1 (hts _ hw) hty hR.2.2.1 hR.1 hR.2.1 hS C.2.2.2.2.2.2.2.2.2.1 (N' := N) (fun cA => by
    have e1 : x_i (x_new0 h) (x_n h) = fun _ => 0 := x_us
    have e2 : x_l (x_new0 h) (x_n h) = fun _ => 0 := x_us
    cases t with
    | int => show vp_cell cA (N, .inl (x_i (x_new0 h) (x_n h))) = _; rw [e1]; rfl
    | long => show vp_cell cA (N, .inr (.inl (x_l (x_new0 h) (x_n h)))) = _; rw [e2]; rfl
    | byte => show vp_cell cA (N, .inl (x_i (x_new0 h) (x_n h))) = _; rw [e1]; rfl
    | boolean => show vp_cell cA (N, .inl (x_i (x_new0 h) (x_n h))) = _; rw [e1]; rfl
    | _ => exact absurd rfl ht) hn0 hN0 (by rw [← hty]; exact Nat.le_trans (Nat.mul_le_mul hbig hby) (by decide)) h1 h2 hdg (fun q cA H1 hK1 hP1 hD1 hS1 => ?_)
  have hlo : 100 ≤ x_at t ∧ x_at t < 110 := by cases t <;> first | exact absurd rfl ht | decide
  obtain ⟨hR1, hag1⟩ := x_Rep_n (cA := cA) (q := q) hR hn hlt (fun _ => by rw [hs]; exact hK1.2 0 _ rfl) (by
    have e : decide ((x_at t) < 100) = false := decide_eq_false (by omega)
    simp only [x_cell, hs, e]
    rw [x_us]
    congr 3
    cases t <;> first | exact absurd rfl ht | rfl) hP1 hD1
  have hdm1 : ∀ k ∈ x_d h, k ∈ x_d (x_new0 h) := fun k hk => List.mem_append_left _ hk
  have := hN l p e s m args below meth c D A dm0 ad0 C _ _ H1 locs ls hR1 (fun k hk => (hag1 k (hk.imp (hdm k) id)).trans (hag k hk)) (fun k hk => hdm1 k (hdm k hk)) h1 h2 hS1 (x_L_ag hL hag1 hlv) (x_okS_c (x_ok1_r (Or.inl (List.mem_append_right _ List.mem_cons_self))) (x_okS_m hdm1 hst)) (x_okL_m hdm1 hlv)
  have e2 : (Value.ref (x_n h) :: r).map (x_cv (va_up ad (x_n h) q)) = .ref q :: r.map (x_cv ad) := by
    rw [List.map_cons, x_map_ag hag1 hst]
    show Value.ref (va_up ad (x_n h) q (x_n h)) :: _ = _
    rw [x_us]
  rw [e2] at this
  exact this
theorem x_r_newq {n : Int32} {N : Nat} (hC : x_isC (x_ow i) ix a = true) (ha : a = 8 ∨ a = 0 ∨ a = 4) (hs : x_SH (x_n h) = (110 + a, N)) (hN0 : n.toNatClampNeg = N) (hn0 : ¬ n < 0) (hn : x_n h ∉ x_d h) (hlt : x_n h < 1000) (hbig : N ≤ 1000000) (h1 : cs + 1 ≤ R.cells) (h2 : ss + N ≤ R.slots) (hdg : decode (x_bc i) pc = .ok (.anewarray ix, 3)) (hN : x_G SI i R QQ (pc + 3) lv (.ref (x_n h) :: r) (x_new0 h) (cs + 1) (ss + N)) : x_G SI i R QQ pc lv (.int n :: r) h cs ss := by
  obtain ⟨ha2, hlk⟩ := x_isC_ok hC
  intro l p e s m args below meth c D A dm0 ad0 C ad ac H locs ls hR hag hdm hcs hss hS hL hst hlv
  have hts := C.2.2.2.2.1
  have hst := x_okS_t hst
  have hNw := C.2.2.2.2.2.1
  have hov : va_AO (x_R a) s := by
    rcases ha with rfl | rfl | rfl
    · exact hNw.2.1
    · exact hNw.2.2.1
    · exact hNw.2.2.2
  refine va_newq (cl := x_CL) (D := D) (tys := []) C.1 C.2.1 C.2.2.2.1 (hts _ hlk) hov hR.2.2.1 hR.1 hR.2.1 hS C.2.2.2.2.2.2.2.2.2.1 (N' := N) hn0 hN0 (by omega) h1 h2 hdg (fun q cA H1 hK1 hP1 hD1 hS1 => ?_)
  obtain ⟨hR1, hag1⟩ := x_Rep_n (cA := cA) (q := q) hR hn hlt (fun _ => by rw [hs, x_ty_q (by omega), show 110 + a - 110 = a by omega]; exact hK1.2 0 _ rfl) (by
    rw [x_cell_q hs (by omega), x_us]
    congr 7
    funext j
    show (va_up (x_r h) (x_n h) (fun _ => none) (x_n h) j).map _ = none
    rw [x_us]
    rfl) hP1 hD1
  have hdm1 : ∀ k ∈ x_d h, k ∈ x_d (x_new0 h) := fun k hk => List.mem_append_left _ hk
  have := hN l p e s m args below meth c D A dm0 ad0 C _ _ H1 locs ls hR1 (fun k hk => (hag1 k (hk.imp (hdm k) id)).trans (hag k hk)) (fun k hk => hdm1 k (hdm k hk)) h1 h2 hS1 (x_L_ag hL hag1 hlv) (x_okS_c (x_ok1_r (Or.inl (List.mem_append_right _ List.mem_cons_self))) (x_okS_m hdm1 hst)) (x_okL_m hdm1 hlv)
  have e2 : (Value.ref (x_n h) :: r).map (x_cv (va_up ad (x_n h) q)) = .ref q :: r.map (x_cv ad) := by
    rw [List.map_cons, x_map_ag hag1 hst]
    show Value.ref (va_up ad (x_n h) q (x_n h)) :: _ = _
    rw [x_us]
  rw [e2] at this
  exact this
end XA
