section XH
variable {SI : Nat → Option (Nat × (Nat → Int32))} {i : Nat} {R : Room} {QQ : xQ} {pc pc' : Nat} {lv : List (Option Value)} {st st' r : List Value} {h : xH} {cs ss k a b ix : Nat}
theorem x_r_get {v : Value} (hF : x_isF (x_ow i) ix a b = true) (hk : (x_SH k).1 = a) (hdg : decode (x_bc i) pc = .ok (.getfield ix, 3)) (hv : ∀ ad : Nat → Nat, x_val ad h k b (x_tc (x_tys a b)) = x_cv ad v) (hok : (∀ k2 ∈ x_d h, ∀ j q, x_r h k2 j = some q → x_in1 (x_d h) q) → k ∈ x_d h → x_ok1 (x_d h) v) (hN : x_G SI i R QQ (pc + 3) lv (v :: r) h cs ss) : x_G SI i R QQ pc lv (.ref k :: r) h cs ss := by
  obtain ⟨ha, hb, hlk⟩ := x_isF_ok hF
  intro l p e s m args below meth c D A dm0 ad0 C ad ac H locs ls hR hag hdm hcs hss hS hL hst hlv
  have hkd : k ∈ x_d h := x_inD (x_okS_h hst k rfl) (by rw [hk]; omega)
  obtain ⟨q0, hq, hw⟩ := x_ws_at (ad := ad) (ac := ac) hkd
  rw [x_cell_o hk ha] at hw
  refine va_get (D := D) (cl := x_CL) (tys := []) (ci := a) (C := x_R a) (T := x_TT a) (N := x_nF a) C.1 C.2.1 C.2.2.2.2.1 (x_uws a ha) C.2.2.2.1 hR.2.2.1 hR.1 q0 hw (x_CL_at a ha) b hb (C.2.2.2.2.1 _ hlk) (fun _ h => h) (x_fs_at hb) hdg ?_
  rw [hv ad]
  exact hN l p e s m args below meth c D A dm0 ad0 C ad ac H locs ls hR hag hdm hcs hss hS hL (x_okS_c (hok hR.2.2.2.2 hkd) (x_okS_t hst)) hlv
/-- a field's store, whatever its kind: what the new heap must be -/
theorem x_r_put {v : Value} {h' : xH} (hF : x_isF (x_ow i) ix a b = true) (hfin : (x_TT a b).2.2.2 = true → (x_y i).name = "<init>" ∧ (x_TT a b).1 = x_own i) (hk : (x_SH k).1 = a) (hdg : decode (x_bc i) pc = .ok (.putfield ix, 3)) (hnar : ∀ ad : Nat → Nat, narrow (x_tys a b) (x_cv ad v) = x_cv ad v) (hfit : ∀ ad : Nat → Nat, fits (x_tys a b) (x_cv ad v) = true)
    (hd : x_d h' = x_d h) (hRep : ∀ (D : va_G) (A : Nat → Prop) (ad : Nat → Nat) (ac : Nat → ClassId) (U : State) (H H1 : Heap) (q0 : Nat), x_Rep D A ad ac h U H → x_okS (x_d h) (v :: .ref k :: r) → (x_d h)[q0]? = some k → a < 11 → b < x_nF a → va_P D x_CL ((x_ws ad ac h).set q0 (ad k, .inr (a, (x_fs ad h k a).set b (x_cv ad v)))) H1 → va_D A ((x_ws ad ac h).set q0 (ad k, .inr (a, (x_fs ad h k a).set b (x_cv ad v)))) → x_Rep D A ad ac h' U H1)
    (hN : x_G SI i R QQ (pc + 3) lv r h' cs ss) : x_G SI i R QQ pc lv (v :: .ref k :: r) h cs ss := by
  obtain ⟨ha, hb, hlk⟩ := x_isF_ok hF
  intro l p e s m args below meth c D A dm0 ad0 C ad ac H locs ls hR hag hdm hcs hss hS hL hst hlv
  have hkd : k ∈ x_d h := x_inD (x_okS_h (x_okS_t hst) k rfl) (by rw [hk]; omega)
  obtain ⟨q0, hq, hw⟩ := x_ws_at (ad := ad) (ac := ac) hkd
  rw [x_cell_o hk ha] at hw
  have hl : b < (x_fs ad h k a).length := by simpa [x_fs] using hb
  have go : ∀ (H1 : Heap) (locs1 : List Loc), va_P D x_CL ((x_ws ad ac h).set q0 (ad k, .inr (a, (x_fs ad h k a).set b (x_cv ad v)))) H1 → va_D A ((x_ws ad ac h).set q0 (ad k, .inr (a, (x_fs ad h k a).set b (x_cv ad v)))) → va_S A s.heap H1 locs1 → W p l e R s m args below meth c H1 locs1 cs ss (QQ below args s D A dm0 ad0) (F0 m (pc + 3) ls (r.map (x_cv ad))) := by
    intro H1 locs1 hP1 hD1 hS1
    have hR1 := hRep D A ad ac s H H1 q0 hR hst hq ha hb hP1 hD1
    exact hN l p e s m args below meth c D A dm0 ad0 C ad ac H1 locs1 ls hR1 hag (by rw [hd]; exact hdm) hcs hss hS1 hL (by rw [hd]; exact x_okS_t (x_okS_t hst)) (by rw [hd]; exact hlv)
  cases hf : (x_TT a b).2.2.2 with
  | false => exact va_put (D := D) (cl := x_CL) (tys := []) (ci := a) (C := x_R a) (T := x_TT a) (N := x_nF a) (v := x_cv ad v) C.1 C.2.1 C.2.2.2.2.1 (x_uws a ha) (x_tys a) (x_tyok a ha) (x_nm a ha) C.2.2.2.1 hR.2.2.1 hR.1 hR.2.1 hS q0 hw (x_CL_at a ha) b hb (C.2.2.2.2.1 _ hlk) (fun _ h => h) hf (x_tyok a ha b hb) (hnar ad) (hfit ad) hl hdg go
  | true => exact va_putF (D := D) (cl := x_CL) (tys := []) (ci := a) (C := x_R a) (T := x_TT a) (N := x_nF a) (v := x_cv ad v) C.1 C.2.1 C.2.2.2.2.1 (x_uws a ha) (x_tys a) (x_tyok a ha) (x_nm a ha) C.2.2.2.1 hR.2.2.1 hR.1 hR.2.1 hS q0 hw (x_CL_at a ha) b hb (C.2.2.2.2.1 _ hlk) (fun _ h => h) hf (by rw [C.2.2.2.2.2.2.2.2.1]; exact (hfin hf).1) (hfin hf).2 (x_tyok a ha b hb) (hnar ad) (hfit ad) hl hdg go
theorem x_ix_vp {j : Int32} {N : Nat} (hj : x_ix j N) : vp_in j N := vp_in_iff.mpr hj
theorem x_r_iald {j : Int32} {N : Nat} (hk : x_SH k = (100, N)) (hj : x_ix j N) (hdg : decode (x_bc i) pc = .ok (.iaload, 1)) (hN : x_G SI i R QQ (pc + 1) lv (.int (x_i h k j.toNatClampNeg) :: r) h cs ss) : x_G SI i R QQ pc lv (.int j :: .ref k :: r) h cs ss := by
  intro l p e s m args below meth c D A dm0 ad0 C ad ac H locs ls hR hag hdm hcs hss hS hL hst hlv
  have hkd : k ∈ x_d h := x_inD (x_okS_h (x_okS_t hst) k rfl) (by rw [hk]; show (100 : Nat) ≠ 99; decide)
  obtain ⟨q0, hq, hw⟩ := x_ws_at (ad := ad) (ac := ac) hkd
  rw [x_cell_i hk (by decide) (by decide) (by decide)] at hw
  exact va_iald C.1 C.2.1 (x_K1 hR hkd hk (by decide)) hR.1 q0 0 hw rfl (x_ix_vp hj) hdg (hN l p e s m args below meth c D A dm0 ad0 C ad ac H locs ls hR hag hdm hcs hss hS hL (x_okS_c (x_ok1_i _ _) (x_okS_t (x_okS_t hst))) hlv)
theorem x_r_bald {j : Int32} {N : Nat} (hk : x_SH k = (102, N)) (hj : x_ix j N) (hdg : decode (x_bc i) pc = .ok (.baload, 1)) (hN : x_G SI i R QQ (pc + 1) lv (.int (x_i h k j.toNatClampNeg) :: r) h cs ss) : x_G SI i R QQ pc lv (.int j :: .ref k :: r) h cs ss := by
  intro l p e s m args below meth c D A dm0 ad0 C ad ac H locs ls hR hag hdm hcs hss hS hL hst hlv
  have hkd : k ∈ x_d h := x_inD (x_okS_h (x_okS_t hst) k rfl) (by rw [hk]; show (102 : Nat) ≠ 99; decide)
  obtain ⟨q0, hq, hw⟩ := x_ws_at (ad := ad) (ac := ac) hkd
  rw [x_cell_i hk (by decide) (by decide) (by decide)] at hw
  exact va_bald C.1 C.2.1 (x_K1 hR hkd hk (by decide)) hR.1 q0 0 hw rfl (x_ix_vp hj) hdg (hN l p e s m args below meth c D A dm0 ad0 C ad ac H locs ls hR hag hdm hcs hss hS hL (x_okS_c (x_ok1_i _ _) (x_okS_t (x_okS_t hst))) hlv)
theorem x_r_zald {j : Int32} {N : Nat} (hk : x_SH k = (103, N)) (hj : x_ix j N) (hdg : decode (x_bc i) pc = .ok (.baload, 1)) (hN : x_G SI i R QQ (pc + 1) lv (.int (x_i h k j.toNatClampNeg) :: r) h cs ss) : x_G SI i R QQ pc lv (.int j :: .ref k :: r) h cs ss := by
  intro l p e s m args below meth c D A dm0 ad0 C ad ac H locs ls hR hag hdm hcs hss hS hL hst hlv
  have hkd : k ∈ x_d h := x_inD (x_okS_h (x_okS_t hst) k rfl) (by rw [hk]; show (103 : Nat) ≠ 99; decide)
  obtain ⟨q0, hq, hw⟩ := x_ws_at (ad := ad) (ac := ac) hkd
  rw [x_cell_i hk (by decide) (by decide) (by decide)] at hw
  exact va_zald C.1 C.2.1 (x_K1 hR hkd hk (by decide)) hR.1 q0 0 hw rfl (x_ix_vp hj) hdg (hN l p e s m args below meth c D A dm0 ad0 C ad ac H locs ls hR hag hdm hcs hss hS hL (x_okS_c (x_ok1_i _ _) (x_okS_t (x_okS_t hst))) hlv)
theorem x_r_lald {j : Int32} {N : Nat} (hk : x_SH k = (101, N)) (hj : x_ix j N) (hdg : decode (x_bc i) pc = .ok (.laload, 1)) (hN : x_G SI i R QQ (pc + 1) lv (.long (x_l h k j.toNatClampNeg) :: r) h cs ss) : x_G SI i R QQ pc lv (.int j :: .ref k :: r) h cs ss := by
  intro l p e s m args below meth c D A dm0 ad0 C ad ac H locs ls hR hag hdm hcs hss hS hL hst hlv
  have hkd : k ∈ x_d h := x_inD (x_okS_h (x_okS_t hst) k rfl) (by rw [hk]; show (101 : Nat) ≠ 99; decide)
  obtain ⟨q0, hq, hw⟩ := x_ws_at (ad := ad) (ac := ac) hkd
  rw [x_cell_l hk] at hw
  exact va_lald C.1 C.2.1 (x_K1 hR hkd hk (by decide)) hR.1 q0 0 hw rfl (x_ix_vp hj) hdg (hN l p e s m args below meth c D A dm0 ad0 C ad ac H locs ls hR hag hdm hcs hss hS hL (x_okS_c (x_ok1_l _ _) (x_okS_t (x_okS_t hst))) hlv)
theorem x_ty_q {c : Nat} (hc : 110 ≤ c) : x_ty c = .object (x_R (c - 110)) := by
  unfold x_ty
  split <;> first | omega | rfl
theorem x_r_aald {j : Int32} {c N q : Nat} (hk : x_SH k = (c, N)) (hc : 110 ≤ c) (hj : x_ix j N) (hq2 : x_r h k j.toNatClampNeg = some q) (hdg : decode (x_bc i) pc = .ok (.aaload, 1)) (hN : x_G SI i R QQ (pc + 1) lv (.ref q :: r) h cs ss) : x_G SI i R QQ pc lv (.int j :: .ref k :: r) h cs ss := by
  intro l p e s m args below meth c0 D A dm0 ad0 C ad ac H locs ls hR hag hdm hcs hss hS hL hst hlv
  have hkd : k ∈ x_d h := x_inD (x_okS_h (x_okS_t hst) k rfl) (by rw [hk]; show c ≠ 99; omega)
  obtain ⟨q0, hq, hw⟩ := x_ws_at (ad := ad) (ac := ac) hkd
  rw [x_cell_q hk hc] at hw
  have hK := x_K1 hR hkd hk (by omega)
  rw [x_ty_q hc] at hK
  refine va_aldq C.1 C.2.1 hK hR.1 q0 0 hw rfl (x_ix_vp hj) hdg ?_
  rw [hq2]
  exact hN l p e s m args below meth c0 D A dm0 ad0 C ad ac H locs ls hR hag hdm hcs hss hS hL (x_okS_c (x_ok1_r (hR.2.2.2.2 k hkd _ q hq2)) (x_okS_t (x_okS_t hst))) hlv
theorem x_r_iast {j x : Int32} {N : Nat} (hk : x_SH k = (100, N)) (hj : x_ix j N) (hdg : decode (x_bc i) pc = .ok (.iastore, 1)) (hN : x_G SI i R QQ (pc + 1) lv r (x_up (x_i h) k j.toNatClampNeg x, x_l h, x_r h, x_d h, x_n h) cs ss) : x_G SI i R QQ pc lv (.int x :: .int j :: .ref k :: r) h cs ss := by
  intro l p e s m args below meth c D A dm0 ad0 C ad ac H locs ls hR hag hdm hcs hss hS hL hst hlv
  have hkd : k ∈ x_d h := x_inD (x_okS_h (x_okS_t (x_okS_t hst)) k rfl) (by rw [hk]; show (100 : Nat) ≠ 99; decide)
  obtain ⟨q0, hq, hw⟩ := x_ws_at (ad := ad) (ac := ac) hkd
  rw [x_cell_i hk (by decide) (by decide) (by decide)] at hw
  refine va_iast C.1 C.2.1 (x_K1 hR hkd hk (by decide)) hR.1 hR.2.1 hS q0 0 hw rfl (x_ix_vp hj) hdg (fun H1 locs1 hP1 hD1 hS1 => ?_)
  exact hN l p e s m args below meth c D A dm0 ad0 C ad ac H1 locs1 ls (x_Rep_i hR hq ((x_cell_i hk (by decide) (by decide) (by decide)).trans (by show Sum.inl (ac k, N, Sum.inl (va_up (x_i h) k _ k)) = _; rw [x_us]; rfl)) hP1 hD1) hag hdm hcs hss hS1 hL (x_okS_t (x_okS_t (x_okS_t hst))) hlv
theorem x_r_bast {j x : Int32} {N : Nat} (hk : x_SH k = (102, N)) (hj : x_ix j N) (hdg : decode (x_bc i) pc = .ok (.bastore, 1)) (hN : x_G SI i R QQ (pc + 1) lv r (x_up (x_i h) k j.toNatClampNeg x.toInt8.toInt32, x_l h, x_r h, x_d h, x_n h) cs ss) : x_G SI i R QQ pc lv (.int x :: .int j :: .ref k :: r) h cs ss := by
  intro l p e s m args below meth c D A dm0 ad0 C ad ac H locs ls hR hag hdm hcs hss hS hL hst hlv
  have hkd : k ∈ x_d h := x_inD (x_okS_h (x_okS_t (x_okS_t hst)) k rfl) (by rw [hk]; show (102 : Nat) ≠ 99; decide)
  obtain ⟨q0, hq, hw⟩ := x_ws_at (ad := ad) (ac := ac) hkd
  rw [x_cell_i hk (by decide) (by decide) (by decide)] at hw
  refine va_bast C.1 C.2.1 (x_K1 hR hkd hk (by decide)) hR.1 hR.2.1 hS q0 0 hw rfl (x_ix_vp hj) hdg (fun H1 locs1 hP1 hD1 hS1 => ?_)
  exact hN l p e s m args below meth c D A dm0 ad0 C ad ac H1 locs1 ls (x_Rep_i hR hq ((x_cell_i hk (by decide) (by decide) (by decide)).trans (by show Sum.inl (ac k, N, Sum.inl (va_up (x_i h) k _ k)) = _; rw [x_us]; rfl)) hP1 hD1) hag hdm hcs hss hS1 hL (x_okS_t (x_okS_t (x_okS_t hst))) hlv
theorem x_r_zast {j x : Int32} {N : Nat} (hk : x_SH k = (103, N)) (hj : x_ix j N) (hdg : decode (x_bc i) pc = .ok (.bastore, 1)) (hN : x_G SI i R QQ (pc + 1) lv r (x_up (x_i h) k j.toNatClampNeg (vp_nar .boolean x), x_l h, x_r h, x_d h, x_n h) cs ss) : x_G SI i R QQ pc lv (.int x :: .int j :: .ref k :: r) h cs ss := by
  intro l p e s m args below meth c D A dm0 ad0 C ad ac H locs ls hR hag hdm hcs hss hS hL hst hlv
  have hkd : k ∈ x_d h := x_inD (x_okS_h (x_okS_t (x_okS_t hst)) k rfl) (by rw [hk]; show (103 : Nat) ≠ 99; decide)
  obtain ⟨q0, hq, hw⟩ := x_ws_at (ad := ad) (ac := ac) hkd
  rw [x_cell_i hk (by decide) (by decide) (by decide)] at hw
  refine va_zast C.1 C.2.1 (x_K1 hR hkd hk (by decide)) hR.1 hR.2.1 hS q0 0 hw rfl (x_ix_vp hj) hdg (fun H1 locs1 hP1 hD1 hS1 => ?_)
  exact hN l p e s m args below meth c D A dm0 ad0 C ad ac H1 locs1 ls (x_Rep_i hR hq ((x_cell_i hk (by decide) (by decide) (by decide)).trans (by show Sum.inl (ac k, N, Sum.inl (va_up (x_i h) k _ k)) = _; rw [x_us]; rfl)) hP1 hD1) hag hdm hcs hss hS1 hL (x_okS_t (x_okS_t (x_okS_t hst))) hlv
theorem x_r_last {j : Int32} {x : Int64} {N : Nat} (hk : x_SH k = (101, N)) (hj : x_ix j N) (hdg : decode (x_bc i) pc = .ok (.lastore, 1)) (hN : x_G SI i R QQ (pc + 1) lv r (x_i h, x_up (x_l h) k j.toNatClampNeg x, x_r h, x_d h, x_n h) cs ss) : x_G SI i R QQ pc lv (.long x :: .int j :: .ref k :: r) h cs ss := by
  intro l p e s m args below meth c D A dm0 ad0 C ad ac H locs ls hR hag hdm hcs hss hS hL hst hlv
  have hkd : k ∈ x_d h := x_inD (x_okS_h (x_okS_t (x_okS_t hst)) k rfl) (by rw [hk]; show (101 : Nat) ≠ 99; decide)
  obtain ⟨q0, hq, hw⟩ := x_ws_at (ad := ad) (ac := ac) hkd
  rw [x_cell_l hk] at hw
  refine va_last C.1 C.2.1 (x_K1 hR hkd hk (by decide)) hR.1 hR.2.1 hS q0 0 hw rfl (x_ix_vp hj) hdg (fun H1 locs1 hP1 hD1 hS1 => ?_)
  exact hN l p e s m args below meth c D A dm0 ad0 C ad ac H1 locs1 ls (x_Rep_l hR hq ((x_cell_l hk).trans (by show Sum.inl (ac k, N, Sum.inr (Sum.inl (va_up (x_l h) k _ k))) = _; rw [x_us]; rfl)) hP1 hD1) hag hdm hcs hss hS1 hL (x_okS_t (x_okS_t (x_okS_t hst))) hlv
theorem x_r_aast {j : Int32} {c N v : Nat} (hk : x_SH k = (c, N)) (hc : 110 ≤ c) (hv : (x_SH v).1 = c - 110) (hv2 : c < 121) (hj : x_ix j N) (hdg : decode (x_bc i) pc = .ok (.aastore, 1)) (hN : x_G SI i R QQ (pc + 1) lv r (x_i h, x_l h, x_up (x_r h) k j.toNatClampNeg (some v), x_d h, x_n h) cs ss) : x_G SI i R QQ pc lv (.ref v :: .int j :: .ref k :: r) h cs ss := by
  intro l p e s m args below meth c0 D A dm0 ad0 C ad ac H locs ls hR hag hdm hcs hss hS hL hst hlv
  have hkd : k ∈ x_d h := x_inD (x_okS_h (x_okS_t (x_okS_t hst)) k rfl) (by rw [hk]; show c ≠ 99; omega)
  have hvd : v ∈ x_d h := x_inD (x_okS_h hst v rfl) (by rw [hv]; omega)
  obtain ⟨q0, hq, hw⟩ := x_ws_at (ad := ad) (ac := ac) hkd
  obtain ⟨q1, hq1, hw1⟩ := x_ws_at (ad := ad) (ac := ac) hvd
  rw [x_cell_q hk hc] at hw
  rw [x_cell_o hv (by omega)] at hw1
  have hK := x_K1 hR hkd hk (by omega)
  rw [x_ty_q hc] at hK
  refine va_astq (r := (x_R (c - 110), x_TT (c - 110), x_nF (c - 110))) C.1 C.2.1 hK hR.1 hR.2.1 hS q0 0 q1 (c - 110) hw rfl hw1 (x_CL_at (c - 110) (by omega)) (x_ix_vp hj) hdg (fun H1 locs1 hP1 hD1 hS1 => ?_)
  refine hN l p e s m args below meth c0 D A dm0 ad0 C ad ac H1 locs1 ls (x_Rep_r hR hq (x_okS_h hst v rfl) ?_ hP1 hD1) hag hdm hcs hss hS1 hL (x_okS_t (x_okS_t (x_okS_t hst))) hlv
  rw [x_cell_q hk hc]
  congr 7
  funext z
  show (x_up (x_r h) k j.toNatClampNeg (some v) k z).map ad = va_up (fun j => (x_r h k j).map ad) j.toNatClampNeg (some (ad v)) z
  unfold x_up
  rw [x_us]
  by_cases hz : z = j.toNatClampNeg
  · subst hz; rw [x_us, x_us]; rfl
  · rw [x_un hz, x_un hz]
theorem x_r_alen {c N : Nat} (hk : x_SH k = (c, N)) (hc : 100 ≤ c) (hdg : decode (x_bc i) pc = .ok (.arraylength, 1)) (hN : x_G SI i R QQ (pc + 1) lv (.int (Int32.ofNat N) :: r) h cs ss) : x_G SI i R QQ pc lv (.ref k :: r) h cs ss := by
  intro l p e s m args below meth c0 D A dm0 ad0 C ad ac H locs ls hR hag hdm hcs hss hS hL hst hlv
  have hkd : k ∈ x_d h := x_inD (x_okS_h hst k rfl) (by rw [hk]; show c ≠ 99; omega)
  obtain ⟨q0, hq, hw⟩ := x_ws_at (ad := ad) (ac := ac) hkd
  have hcell : x_cell ad ac h k = .inl (ac k, N, x_arr ad h k c) := by
    have e : decide (c < 100) = false := decide_eq_false (by omega)
    simp only [x_cell, hk, e]
  rw [hcell] at hw
  exact va_alen C.1 C.2.1 (x_K1 hR hkd hk hc) hR.1 q0 0 hw rfl rfl hdg (hN l p e s m args below meth c0 D A dm0 ad0 C ad ac H locs ls hR hag hdm hcs hss hS hL (x_okS_c (x_ok1_i _ _) (x_okS_t hst)) hlv)
/-! constants -/
theorem x_r_ti {j : Int32} {N : Nat} {f : Nat → Int32} (hk : SI k = some (N, f)) (hj : x_ix j N) (hdg : decode (x_bc i) pc = .ok (.iaload, 1)) (hN : x_G SI i R QQ (pc + 1) lv (.int (f j.toNatClampNeg) :: r) h cs ss) : x_G SI i R QQ pc lv (.int j :: .ref k :: r) h cs ss := by
  intro l p e s m args below meth c D A dm0 ad0 C ad ac H locs ls hR hag hdm hcs hss hS hL hst hlv
  obtain ⟨hk1, hT⟩ := C.2.2.2.2.2.2.2.2.2.2.1 k N f hk
  rw [← hag k (Or.inr hk1)] at hT
  exact va_ti C.1 C.2.1 hT hS (x_ix_vp hj) rfl hdg (hN l p e s m args below meth c D A dm0 ad0 C ad ac H locs ls hR hag hdm hcs hss hS hL (x_okS_c (x_ok1_i _ _) (x_okS_t (x_okS_t hst))) hlv)
theorem x_r_tl {j : Int32} (hj : x_ix j 25) (hdg : decode (x_bc i) pc = .ok (.laload, 1)) (hN : x_G SI i R QQ (pc + 1) lv (.long (x_wds.getD j.toNatClampNeg 0) :: r) h cs ss) : x_G SI i R QQ pc lv (.int j :: .ref 1002 :: r) h cs ss := by
  intro l p e s m args below meth c D A dm0 ad0 C ad ac H locs ls hR hag hdm hcs hss hS hL hst hlv
  have hT := C.2.2.2.2.2.2.2.2.2.2.2.2.2.2.1
  rw [← hag 1002 (Or.inr (by decide))] at hT
  exact va_tl C.1 C.2.1 hT hS (x_ix_vp hj) rfl hdg (hN l p e s m args below meth c D A dm0 ad0 C ad ac H locs ls hR hag hdm hcs hss hS hL (x_okS_c (x_ok1_l _ _) (x_okS_t (x_okS_t hst))) hlv)
theorem x_r_tlen {N : Nat} {f : Nat → Int32} (hk : SI k = some (N, f)) (hdg : decode (x_bc i) pc = .ok (.arraylength, 1)) (hN : x_G SI i R QQ (pc + 1) lv (.int (Int32.ofNat N) :: r) h cs ss) : x_G SI i R QQ pc lv (.ref k :: r) h cs ss := by
  intro l p e s m args below meth c D A dm0 ad0 C ad ac H locs ls hR hag hdm hcs hss hS hL hst hlv
  obtain ⟨hk1, hT⟩ := C.2.2.2.2.2.2.2.2.2.2.1 k N f hk
  rw [← hag k (Or.inr hk1)] at hT
  exact va_tlen C.1 C.2.1 hT hS rfl hdg (hN l p e s m args below meth c D A dm0 ad0 C ad ac H locs ls hR hag hdm hcs hss hS hL (x_okS_c (x_ok1_i _ _) (x_okS_t hst)) hlv)
theorem x_r_tlenL (hdg : decode (x_bc i) pc = .ok (.arraylength, 1)) (hN : x_G SI i R QQ (pc + 1) lv (.int (Int32.ofNat 25) :: r) h cs ss) : x_G SI i R QQ pc lv (.ref 1002 :: r) h cs ss := by
  intro l p e s m args below meth c D A dm0 ad0 C ad ac H locs ls hR hag hdm hcs hss hS hL hst hlv
  have hT := C.2.2.2.2.2.2.2.2.2.2.2.2.2.2.1
  rw [← hag 1002 (Or.inr (by decide))] at hT
  exact va_tlen C.1 C.2.1 hT hS rfl hdg (hN l p e s m args below meth c D A dm0 ad0 C ad ac H locs ls hR hag hdm hcs hss hS hL (x_okS_c (x_ok1_i _ _) (x_okS_t hst)) hlv)
theorem x_r_ldcS (ho : x_ow i = 10) (hdg : decode (x_bc i) pc = .ok (.ldc 177, 2)) (hN : x_G SI i R QQ (pc + 2) lv (.ref 1003 :: st) h cs ss) : x_G SI i R QQ pc lv st h cs ss := by
  intro l p e s m args below meth c D A dm0 ad0 C ad ac H locs ls hR hag hdm hcs hss hS hL hst hlv
  have hT := C.2.2.2.2.2.2.2.2.2.2.2.2.2.2.2.1
  rw [← hag 1003 (Or.inr (by decide))] at hT
  refine va_ldcS (own := "BarkMoneyModel") C.1 C.2.1 ?_ hT hdg (hN l p e s m args below meth c D A dm0 ad0 C ad ac H locs ls hR hag hdm hcs hss hS hL (x_okS_c (x_ok1_r (Or.inr (by decide))) hst) hlv)
  have h1 := C.2.2.2.1
  unfold x_own at h1
  rw [ho] at h1
  exact h1
end XH
