section XJ
variable {SI : Nat → Option (Nat × (Nat → Int32))} {i d : Nat} {R : Room} {QQ : xQ} {pc pc' : Nat} {lv : List (Option Value)} {st st' r As : List Value} {h : xH} {cs ss k a b ix : Nat} {P : Option Value → xH → Prop}
theorem x_r_max {x y : Int32} (hd : 1 ≤ R.frames ∧ 64 ≤ R.locals) (hJ : x_isJ (x_ow i) ix 1 = true) (hc : (r.map fun v => v.category).sum ≤ 8) (hdg : decode (x_bc i) pc = .ok (.invokestatic ix, 3)) (hN : x_G SI i R QQ (pc + 3) lv (.int (if x < y then y else x) :: r) h cs ss) : x_G SI i R QQ pc lv (.int y :: .int x :: r) h cs ss := by
  intro l p e s m args below meth c D A dm0 ad0 C ad ac H locs ls hR hag hdm hcs hss hS hL hst hlv
  have hts := C.2.2.2.2.1
  exact va_mmax C.1 C.2.1 (by rw [C.2.2.1, hL.2.1]) C.2.2.2.1 (hts _ (x_isJ_ok hJ)) (hts _ x_js1) (hts _ x_iniMath) (hts _ x_jc1) hd.1 (by show ((r.map (x_cv ad)).map fun v => v.category).sum + 13 ≤ _; rw [x_cats]; omega) hcs hss hdg (hN l p e s m args below meth c D A dm0 ad0 C ad ac H locs ls hR hag hdm hcs hss hS hL (x_okS_c (x_ok1_i _ _) (x_okS_t (x_okS_t hst))) hlv)
theorem x_r_min {x y : Int32} (hd : 1 ≤ R.frames ∧ 64 ≤ R.locals) (hJ : x_isJ (x_ow i) ix 2 = true) (hc : (r.map fun v => v.category).sum ≤ 8) (hdg : decode (x_bc i) pc = .ok (.invokestatic ix, 3)) (hN : x_G SI i R QQ (pc + 3) lv (.int (if y < x then y else x) :: r) h cs ss) : x_G SI i R QQ pc lv (.int y :: .int x :: r) h cs ss := by
  intro l p e s m args below meth c D A dm0 ad0 C ad ac H locs ls hR hag hdm hcs hss hS hL hst hlv
  have hts := C.2.2.2.2.1
  exact va_mmin C.1 C.2.1 (by rw [C.2.2.1, hL.2.1]) C.2.2.2.1 (hts _ (x_isJ_ok hJ)) (hts _ x_js2) (hts _ x_iniMath) (hts _ x_jc2) hd.1 (by show ((r.map (x_cv ad)).map fun v => v.category).sum + 13 ≤ _; rw [x_cats]; omega) hcs hss hdg (hN l p e s m args below meth c D A dm0 ad0 C ad ac H locs ls hR hag hdm hcs hss hS hL (x_okS_c (x_ok1_i _ _) (x_okS_t (x_okS_t hst))) hlv)
theorem x_r_maxL {x y : Int64} (hd : 1 ≤ R.frames ∧ 64 ≤ R.locals) (hJ : x_isJ (x_ow i) ix 3 = true) (hc : (r.map fun v => v.category).sum ≤ 8) (hdg : decode (x_bc i) pc = .ok (.invokestatic ix, 3)) (hN : x_G SI i R QQ (pc + 3) lv (.long (if y < x then x else y) :: r) h cs ss) : x_G SI i R QQ pc lv (.long y :: .long x :: r) h cs ss := by
  intro l p e s m args below meth c D A dm0 ad0 C ad ac H locs ls hR hag hdm hcs hss hS hL hst hlv
  have hts := C.2.2.2.2.1
  exact va_mmax_long C.1 C.2.1 (by rw [C.2.2.1, hL.2.1]) C.2.2.2.1 (hts _ (x_isJ_ok hJ)) (hts _ x_js3) (hts _ x_iniMath) (hts _ x_jc3) hd.1 (by show ((r.map (x_cv ad)).map fun v => v.category).sum + 15 ≤ _; rw [x_cats]; omega) hcs hss hdg (hN l p e s m args below meth c D A dm0 ad0 C ad ac H locs ls hR hag hdm hcs hss hS hL (x_okS_c (x_ok1_l _ _) (x_okS_t (x_okS_t hst))) hlv)
theorem x_r_minL {x y : Int64} (hd : 1 ≤ R.frames ∧ 64 ≤ R.locals) (hJ : x_isJ (x_ow i) ix 4 = true) (hc : (r.map fun v => v.category).sum ≤ 8) (hdg : decode (x_bc i) pc = .ok (.invokestatic ix, 3)) (hN : x_G SI i R QQ (pc + 3) lv (.long (if y < x then y else x) :: r) h cs ss) : x_G SI i R QQ pc lv (.long y :: .long x :: r) h cs ss := by
  intro l p e s m args below meth c D A dm0 ad0 C ad ac H locs ls hR hag hdm hcs hss hS hL hst hlv
  have hts := C.2.2.2.2.1
  exact va_mmin_long C.1 C.2.1 (by rw [C.2.2.1, hL.2.1]) C.2.2.2.1 (hts _ (x_isJ_ok hJ)) (hts _ x_js4) (hts _ x_iniMath) (hts _ x_jc4) hd.1 (by show ((r.map (x_cv ad)).map fun v => v.category).sum + 15 ≤ _; rw [x_cats]; omega) hcs hss hdg (hN l p e s m args below meth c D A dm0 ad0 C ad ac H locs ls hR hag hdm hcs hss hS hL (x_okS_c (x_ok1_l _ _) (x_okS_t (x_okS_t hst))) hlv)
theorem x_r_copyI {sp dp n : Int32} {k0 k1 n0 n1 : Nat} (hd : 1 ≤ R.frames ∧ 64 ≤ R.locals) (hJ : x_isJ (x_ow i) ix 5 = true) (hc : (r.map fun v => v.category).sum ≤ 8) (hk0 : x_SH k0 = (100, n0)) (hk1 : x_SH k1 = (100, n1)) (hcp : x_cp sp dp n n0 n1) (hdg : decode (x_bc i) pc = .ok (.invokestatic ix, 3)) (hN : x_G SI i R QQ (pc + 3) lv r (va_up (x_i h) k1 (va_cpy (x_i h k0) (x_i h k1) sp.toNatClampNeg dp.toNatClampNeg n.toNatClampNeg), x_l h, x_r h, x_d h, x_n h) cs ss) : x_G SI i R QQ pc lv (.int n :: .int dp :: .ref k1 :: .int sp :: .ref k0 :: r) h cs ss := by
  obtain ⟨c1, c2, c3, c4, c5⟩ := hcp
  obtain ⟨e1, e2⟩ := x_nn c1
  obtain ⟨e3, e4⟩ := x_nn c2
  obtain ⟨e5, e6⟩ := x_nn c3
  intro l p e s m args below meth c D A dm0 ad0 C ad ac H locs ls hR hag hdm hcs hss hS hL hst hlv
  have hts := C.2.2.2.2.1
  have hd0 : k0 ∈ x_d h := x_inD (x_okS_h (x_okS_t (x_okS_t (x_okS_t (x_okS_t hst)))) k0 rfl) (by rw [hk0]; show (100 : Nat) ≠ 99; decide)
  have hd1 : k1 ∈ x_d h := x_inD (x_okS_h (x_okS_t (x_okS_t hst)) k1 rfl) (by rw [hk1]; show (100 : Nat) ≠ 99; decide)
  obtain ⟨q0, hq0, hw0⟩ := x_ws_at (ad := ad) (ac := ac) hd0
  obtain ⟨q1, hq1, hw1⟩ := x_ws_at (ad := ad) (ac := ac) hd1
  rw [x_cell_i hk0 (by decide) (by decide) (by decide)] at hw0
  rw [x_cell_i hk1 (by decide) (by decide) (by decide)] at hw1
  refine va_copyi C.1 C.2.1 (by rw [C.2.2.1, hL.2.1]) C.2.2.2.1 (hts _ (x_isJ_ok hJ)) (hts _ x_jn5) (hts _ x_js5) (hts _ x_iniSys) (x_K2 hR hd0 hk0 (by decide) hd1 hk1 (by decide)) hR.1 hR.2.1 hS q0 q1 0 1 hw0 hw1 rfl rfl rfl e1 e3 e5 (by omega) (by omega) (fun _ _ => rfl) hd.1 (by show ((r.map (x_cv ad)).map fun v => v.category).sum + 18 ≤ _; rw [x_cats]; omega) hdg (fun H1 locs1 hP1 hD1 hS1 => ?_)
  exact hN l p e s m args below meth c D A dm0 ad0 C ad ac H1 locs1 ls (x_Rep_i hR hq1 ((x_cell_i hk1 (by decide) (by decide) (by decide)).trans (by show Sum.inl (ac k1, n1, Sum.inl (va_up (x_i h) k1 _ k1)) = _; rw [x_us])) hP1 hD1) hag hdm hcs hss hS1 hL (x_okS_t (x_okS_t (x_okS_t (x_okS_t (x_okS_t hst))))) hlv
theorem x_r_copyL {sp dp n : Int32} {k0 k1 n0 n1 : Nat} (hd : 1 ≤ R.frames ∧ 64 ≤ R.locals) (hJ : x_isJ (x_ow i) ix 5 = true) (hc : (r.map fun v => v.category).sum ≤ 8) (hk0 : x_SH k0 = (101, n0)) (hk1 : x_SH k1 = (101, n1)) (hcp : x_cp sp dp n n0 n1) (hdg : decode (x_bc i) pc = .ok (.invokestatic ix, 3)) (hN : x_G SI i R QQ (pc + 3) lv r (x_i h, va_up (x_l h) k1 (va_cpy (x_l h k0) (x_l h k1) sp.toNatClampNeg dp.toNatClampNeg n.toNatClampNeg), x_r h, x_d h, x_n h) cs ss) : x_G SI i R QQ pc lv (.int n :: .int dp :: .ref k1 :: .int sp :: .ref k0 :: r) h cs ss := by
  obtain ⟨c1, c2, c3, c4, c5⟩ := hcp
  obtain ⟨e1, e2⟩ := x_nn c1
  obtain ⟨e3, e4⟩ := x_nn c2
  obtain ⟨e5, e6⟩ := x_nn c3
  intro l p e s m args below meth c D A dm0 ad0 C ad ac H locs ls hR hag hdm hcs hss hS hL hst hlv
  have hts := C.2.2.2.2.1
  have hd0 : k0 ∈ x_d h := x_inD (x_okS_h (x_okS_t (x_okS_t (x_okS_t (x_okS_t hst)))) k0 rfl) (by rw [hk0]; show (101 : Nat) ≠ 99; decide)
  have hd1 : k1 ∈ x_d h := x_inD (x_okS_h (x_okS_t (x_okS_t hst)) k1 rfl) (by rw [hk1]; show (101 : Nat) ≠ 99; decide)
  obtain ⟨q0, hq0, hw0⟩ := x_ws_at (ad := ad) (ac := ac) hd0
  obtain ⟨q1, hq1, hw1⟩ := x_ws_at (ad := ad) (ac := ac) hd1
  rw [x_cell_l hk0] at hw0
  rw [x_cell_l hk1] at hw1
  refine va_copyl C.1 C.2.1 (by rw [C.2.2.1, hL.2.1]) C.2.2.2.1 (hts _ (x_isJ_ok hJ)) (hts _ x_jn5) (hts _ x_js5) (hts _ x_iniSys) (x_K2 hR hd0 hk0 (by decide) hd1 hk1 (by decide)) hR.1 hR.2.1 hS q0 q1 0 1 hw0 hw1 rfl rfl rfl e1 e3 e5 (by omega) (by omega) (fun _ _ => rfl) hd.1 (by show ((r.map (x_cv ad)).map fun v => v.category).sum + 18 ≤ _; rw [x_cats]; omega) hdg (fun H1 locs1 hP1 hD1 hS1 => ?_)
  exact hN l p e s m args below meth c D A dm0 ad0 C ad ac H1 locs1 ls (x_Rep_l hR hq1 ((x_cell_l hk1).trans (by show Sum.inl (ac k1, n1, Sum.inr (Sum.inl (va_up (x_l h) k1 _ k1))) = _; rw [x_us])) hP1 hD1) hag hdm hcs hss hS1 hL (x_okS_t (x_okS_t (x_okS_t (x_okS_t (x_okS_t hst))))) hlv
theorem x_r_obj {x : Nat} (hd : 1 ≤ R.frames ∧ 64 ≤ R.locals) (hJ : x_isJ (x_ow i) ix 6 = true) (hc : (r.map fun v => v.category).sum ≤ 8) (hdg : decode (x_bc i) pc = .ok (.invokespecial ix, 3)) (hN : x_G SI i R QQ (pc + 3) lv r h cs ss) : x_G SI i R QQ pc lv (.ref x :: r) h cs ss := by
  intro l p e s m args below meth c D A dm0 ad0 C ad ac H locs ls hR hag hdm hcs hss hS hL hst hlv
  have hts := C.2.2.2.2.1
  refine W.objInit C.1 C.2.1 C.2.2.2.1 (hts _ (x_isJ_ok hJ)) (hts _ x_ji6) (hts _ x_jc6) rfl (by rw [C.2.2.1]; exact hL.2.1) rfl hdg hd.1 (by show 2 * 0 + ((r.map (x_cv ad)).map fun v => v.category).sum + 12 ≤ _; rw [x_cats]; omega) ?_
  exact hN l p e s m args below meth c D A dm0 ad0 C ad ac H locs ls hR hag hdm hcs hss hS hL (x_okS_t hst) hlv
/-! static fields -/
def x_isS (o ix a : Nat) : Bool := (o == 9 && (ix == 309 && a == 1000)) || ((o == 9 && (ix == 312 && a == 1001)) || ((o == 1 && (ix == 68 && a == 1000)) || ((o == 1 && (ix == 72 && a == 1001)) || (o == 7 && (ix == 63 && a == 1002)))))
theorem x_isS_inv {o ix a : Nat} (h : x_isS o ix a = true) : (o = 9 ∧ ix = 309 ∧ a = 1000) ∨ (o = 9 ∧ ix = 312 ∧ a = 1001) ∨ (o = 1 ∧ ix = 68 ∧ a = 1000) ∨ (o = 1 ∧ ix = 72 ∧ a = 1001) ∨ (o = 7 ∧ ix = 63 ∧ a = 1002) := by
  simpa only [x_isS, Bool.or_eq_true, Bool.and_eq_true, beq_iff_eq] using h
theorem x_fl309 : Cond.fieldLink (x_R 9) 309 "BarkMoney" "LEAST_RULE" "[I" ∈ x_gd := x_gd_at 983 (by decide +kernel) (by decide +kernel)
theorem x_fl312 : Cond.fieldLink (x_R 9) 312 "BarkMoney" "MOST_RULE" "[I" ∈ x_gd := x_gd_at 984 (by decide +kernel) (by decide +kernel)
theorem x_fl63 : Cond.fieldLink (x_R 7) 63 "BarkMoney$TextReader" "WORDS" "[J" ∈ x_gd := x_gd_at 555 (by decide +kernel) (by decide +kernel)
theorem x_fl68 : Cond.fieldLinkNest (x_R 1) 68 "BarkMoney" "LEAST_RULE" "[I" "BarkMoney" ∈ lw_tbl := List.mem_of_getElem? (i := 592) (by decide +kernel)
theorem x_fl72 : Cond.fieldLinkNest (x_R 1) 72 "BarkMoney" "MOST_RULE" "[I" "BarkMoney" ∈ lw_tbl := List.mem_of_getElem? (i := 594) (by decide +kernel)
theorem x_r_gets (hs : x_isS (x_ow i) ix a = true) (hdg : decode (x_bc i) pc = .ok (.getstatic ix, 3)) (hN : x_G SI i R QQ (pc + 3) lv (.ref a :: st) h cs ss) : x_G SI i R QQ pc lv st h cs ss := by
  intro l p e s m args below meth c D A dm0 ad0 C ad ac H locs ls hR hag hdm hcs hss hS hL hst hlv
  have hts := C.2.2.2.2.1
  have hZ := C.2.2.2.2.2.2.2.2.2.2
  have ha : 1000 ≤ a := by rcases x_isS_inv hs with h | h | h | h | h <;> omega
  have hk := hN l p e s m args below meth c D A dm0 ad0 C ad ac H locs ls hR hag hdm hcs hss hS hL (x_okS_c (x_ok1_r (Or.inr ha)) hst) hlv
  have hown := C.2.2.2.1
  unfold x_own at hown
  rcases x_isS_inv hs with ⟨ho, rfl, rfl⟩ | ⟨ho, rfl, rfl⟩ | ⟨ho, rfl, rfl⟩ | ⟨ho, rfl, rfl⟩ | ⟨ho, rfl, rfl⟩
  · rw [ho] at hown
    have hz := hZ.2.1
    rw [← hag 1000 (Or.inr ha)] at hz
    exact va_gets C.1 C.2.1 hz hS hown (hts _ x_fl309) (fun _ h => h) hdg hk
  · rw [ho] at hown
    have hz := hZ.2.2.1
    rw [← hag 1001 (Or.inr ha)] at hz
    exact va_gets C.1 C.2.1 hz hS hown (hts _ x_fl312) (fun _ h => h) hdg hk
  · rw [ho] at hown
    have hz := hZ.2.1
    rw [← hag 1000 (Or.inr ha)] at hz
    exact va_getsN C.1 C.2.1 hz hS hown (va_Nw.use rfl (C.2.2.2.2.2.1.1 _ x_fl68 rfl)) (fun _ h => h) hdg hk
  · rw [ho] at hown
    have hz := hZ.2.2.1
    rw [← hag 1001 (Or.inr ha)] at hz
    exact va_getsN C.1 C.2.1 hz hS hown (va_Nw.use rfl (C.2.2.2.2.2.1.1 _ x_fl72 rfl)) (fun _ h => h) hdg hk
  · rw [ho] at hown
    have hz := hZ.2.2.2.1
    rw [← hag 1002 (Or.inr ha)] at hz
    exact va_gets C.1 C.2.1 hz hS hown (hts _ x_fl63) (fun _ h => h) hdg hk
theorem x_SF_of {p : Program} {s U : State} {m : MethodId} {args : Array Value} {meth : Method} {c : Code} {A : Nat → Prop} {ad0 ad : Nat → Nat} {H : Heap} {locs : List Loc} {dm0 : List Nat} (C : x_C SI i p s m args meth c A ad0) (hag : ∀ k, x_in1 dm0 k → ad k = ad0 k) (hS : va_S A s.heap H locs) (hU : U.heap = H) (hvm : s.vm.Alike U.vm) : x_SF (ad 1003) (ad 1004) U := by
  have kp : ∀ a : Nat, a < s.heap.size → ¬ A a → H[a]? = s.heap[a]? := hS.2.1
  obtain ⟨-, -, -, -, -, -, h6, h7, h8⟩ := C.2.2.2.2.2.2.2.2.2.2
  rw [hag 1003 (Or.inr (by decide)), hag 1004 (Or.inr (by decide))]
  have h6 := ((h6.kept kp).moved hvm).narrow (B := xs_F) (fun _ h => h.elim)
  obtain ⟨g1, g2, g3, g4⟩ := h6.1 0 (by decide)
  unfold x_SF
  rw [hU]
  exact ⟨((h7.kept kp).moved hvm).narrow (fun _ h => h.elim), g1, g2, g3, g4, ((h8.kept kp).moved hvm).narrow (fun _ h => h.elim)⟩
theorem x_r_slen (hd : 4 ≤ R.frames ∧ 256 ≤ R.locals) (ho : x_ow i = 10) (hc : (r.map fun v => v.category).sum ≤ 8) (hdg : decode (x_bc i) pc = .ok (.invokevirtual 144, 3)) (hN : x_G SI i R QQ (pc + 3) lv (.int 129 :: r) h cs ss) : x_G SI i R QQ pc lv (.ref 1003 :: r) h cs ss := by
  intro l p e s m args below meth c D A dm0 ad0 C ad ac H locs ls hR hag hdm hcs hss hS hL hst hlv
  have ht := C.2.2.2.2.1
  have hown := C.2.2.2.1
  unfold x_own at hown
  rw [ho] at hown
  obtain ⟨cell, o1, o2, o3, -⟩ := (x_SF_of (U := { s with heap := H }) C hag hS rfl (Vm.Alike.refl _)).2.1
  refine x_callK (r := some (.int 129)) (rest := r.map (x_cv ad)) (W.runV (C := "java/lang/String") (b := ad 1003) (As := []) (own := "BarkMoneyModel") (cc := x_bc i) (nL := x_ml i) (Ts := x_gd) ⟨C.1, C.2.1, C.2.2.1, hown, ht⟩ (xs_length l (ad 1003) (ad 1004)) ⟨callB_of 0 ht (fun w hw => (List.mem_cons.mp hw).elim (fun e => e ▸ x_good_gd _ xs_c3) (x_good_gd w)) rfl rfl rfl (ht _ xs_i1) (ht _ xs_m3) (by decide +kernel) ⟨by show 1 + 1 ≤ _; omega, by show 8 + (1 + 11) + 20 ≤ _; omega⟩, ht _ xs_k3, ht _ xs_s3⟩ ⟨x_Pf_blind _ _ _, ⟨cell, o1, o2, o3⟩, fun U hU hW => ⟨rfl, x_SF_of C hag hS hU hW.alike⟩⟩ rfl rfl hL.2.1 rfl (by show 2 * 0 + ((r.map (x_cv ad)).map fun v => v.category).sum ≤ 8; rw [x_cats]; omega) hdg ⟨by omega, by omega⟩) ?_
  exact hN l p e s m args below meth c D A dm0 ad0 C ad ac H locs ls hR hag hdm hcs hss hS hL (x_okS_c (x_ok1_i _ _) (x_okS_t hst)) hlv
theorem x_r_schar {j : Int32} (hd : 4 ≤ R.frames ∧ 256 ≤ R.locals) (ho : x_ow i = 10) (hc : (r.map fun v => v.category).sum ≤ 8) (hj : x_ix j 129) (hdg : decode (x_bc i) pc = .ok (.invokevirtual 150, 3)) (hN : x_G SI i R QQ (pc + 3) lv (.int (x_key.getD j.toNatClampNeg 0) :: r) h cs ss) : x_G SI i R QQ pc lv (.int j :: .ref 1003 :: r) h cs ss := by
  intro l p e s m args below meth c D A dm0 ad0 C ad ac H locs ls hR hag hdm hcs hss hS hL hst hlv
  have ht := C.2.2.2.2.1
  have hown := C.2.2.2.1
  unfold x_own at hown
  rw [ho] at hown
  obtain ⟨cell, o1, o2, o3, -⟩ := (x_SF_of (U := { s with heap := H }) C hag hS rfl (Vm.Alike.refl _)).2.1
  refine x_callK (r := some (.int (x_key.getD j.toNatClampNeg 0))) (rest := r.map (x_cv ad)) (W.runV (C := "java/lang/String") (b := ad 1003) (As := [.int j]) (own := "BarkMoneyModel") (cc := x_bc i) (nL := x_ml i) (Ts := x_gd) ⟨C.1, C.2.1, C.2.2.1, hown, ht⟩ (xs_char l (ad 1003) (ad 1004) j hj) ⟨callB_of 1 ht (fun w hw => (List.mem_cons.mp hw).elim (fun e => e ▸ x_good_gd _ xs_c4) (x_good_gd w)) rfl rfl rfl (ht _ xs_i1) (ht _ xs_m4) (by decide +kernel) ⟨by show 3 + 1 ≤ _; omega, by show 8 + (2 + 11) + 100 ≤ _; omega⟩, ht _ xs_k4, ht _ xs_s4⟩ ⟨x_Pf_blind _ _ _, ⟨cell, o1, o2, o3⟩, fun U hU hW => ⟨rfl, x_SF_of C hag hS hU hW.alike⟩⟩ rfl rfl hL.2.1 rfl (by show 2 * 0 + ((r.map (x_cv ad)).map fun v => v.category).sum ≤ 8; rw [x_cats]; omega) hdg ⟨by omega, by omega⟩) ?_
  exact hN l p e s m args below meth c D A dm0 ad0 C ad ac H locs ls hR hag hdm hcs hss hS hL (x_okS_c (x_ok1_i _ _) (x_okS_t (x_okS_t hst))) hlv
/-! returns, and a contract out of the judgement -/
def x_rk (ty : Option FieldType) (r : Option Value) : Prop := match ty, r with
  | none, none => True
  | some .int, some (.int _) => True
  | some .boolean, some (.int v) => v = 0 ∨ v = 1
  | some .long, some (.long _) => True
  | _, _ => False
/-- what a return asks: the answer's kind, the post, the room -/
def x_RT (i : Nat) (Post : Option Value → xH → Prop) (r : Option Value) (h : xH) (cs ss : Nat) : Prop := Post r h ∧ x_rk (x_rt i) r ∧ cs ≤ x_mc i ∧ ss ≤ x_ms i
theorem x_r_ret {p : Program} {l : Launch} {e : Env} {s : State} {m : MethodId} {args : Array Value} {below : List Frame} {meth : Method} {c : Code} {H : Heap} {locs : List Loc} {D : va_G} {A : Nat → Prop} {dm0 : List Nat} {ad0 ad : Nat → Nat} {ac : Nat → ClassId} {rv : Option Value} (hp : P rv h) (hR : x_Rep D A ad ac h s H) (hag : ∀ k, x_in1 dm0 k → ad k = ad0 k) (hdm : ∀ k ∈ dm0, k ∈ x_d h) (hS : va_S A s.heap H locs) (hok : ∀ v, rv = some v → x_ok1 (x_d h) v) (t : State) (ht : t.heap = H) (hW : s.WarmedH t.vm) : x_Q P D A dm0 ad0 args s (.returned (rv.map (x_cv ad))) t :=
  ⟨⟨rv, h, ad, ac, rfl, hp, by rw [ht]; exact x_Rep_move hW.alike (fun _ h => h) hR, hag, hdm, hok⟩, hS.F ht⟩
theorem x_r_iret {v : Int32} (hdg : decode (x_bc i) pc = .ok (.ireturn, 1)) (hrt : x_RT i P (some (.int v)) h cs ss) : x_G SI i R (x_QQ i P) pc lv [.int v] h cs ss := by
  obtain ⟨hp, hk, h1, h2⟩ := hrt
  intro l p e s m args below meth c D A dm0 ad0 C ad ac H locs ls hR hag hdm hcs hss hS hL hst hlv
  refine W.widen h1 h2 ?_
  have hr := C.2.2.2.2.2.2.1
  have hlk : meth.locks = false := C.2.2.2.2.2.2.2.1
  unfold x_rk at hk
  split at hk
  · rename_i e2; cases e2
  · rename_i e1 e2
    rw [e1] at hr
    exact W.iret (Qc := x_Q P D A dm0 ad0) (free := A) C.1 C.2.1 hr (x_r_ret (l := l) (p := p) (e := e) (m := m) (below := below) (meth := meth) (c := c) hp hR hag hdm hS (fun w hw => by cases hw; exact x_ok1_i _ _)) hS.2.2 hdg hlk
  · rename_i e1 e2
    rw [e1] at hr
    cases e2
    exact W.zret (Qc := x_Q P D A dm0 ad0) (free := A) C.1 C.2.1 hr (by rcases hk with rfl | rfl <;> rfl) (x_r_ret (l := l) (p := p) (e := e) (m := m) (below := below) (meth := meth) (c := c) hp hR hag hdm hS (fun w hw => by cases hw; exact x_ok1_i _ _)) hS.2.2 hdg hlk
  · rename_i e2; cases e2
  · exact hk.elim
theorem x_r_lret {v : Int64} (hdg : decode (x_bc i) pc = .ok (.lreturn, 1)) (hrt : x_RT i P (some (.long v)) h cs ss) : x_G SI i R (x_QQ i P) pc lv [.long v] h cs ss := by
  obtain ⟨hp, hk, h1, h2⟩ := hrt
  intro l p e s m args below meth c D A dm0 ad0 C ad ac H locs ls hR hag hdm hcs hss hS hL hst hlv
  refine W.widen h1 h2 ?_
  have hr := C.2.2.2.2.2.2.1
  have hlk : meth.locks = false := C.2.2.2.2.2.2.2.1
  unfold x_rk at hk
  split at hk
  · rename_i e2; cases e2
  · rename_i e2; cases e2
  · rename_i e2; cases e2
  · rename_i e1 e2
    rw [e1] at hr
    exact W.lret (Qc := x_Q P D A dm0 ad0) (free := A) C.1 C.2.1 hr (x_r_ret (l := l) (p := p) (e := e) (m := m) (below := below) (meth := meth) (c := c) hp hR hag hdm hS (fun w hw => by cases hw; exact x_ok1_l _ _)) hS.2.2 hdg hlk
  · exact hk.elim
theorem x_r_vret (hdg : decode (x_bc i) pc = .ok (.return_, 1)) (hrt : x_RT i P none h cs ss) : x_G SI i R (x_QQ i P) pc lv [] h cs ss := by
  obtain ⟨hp, hk, h1, h2⟩ := hrt
  intro l p e s m args below meth c D A dm0 ad0 C ad ac H locs ls hR hag hdm hcs hss hS hL hst hlv
  refine W.widen h1 h2 ?_
  have hr := C.2.2.2.2.2.2.1
  have hlk : meth.locks = false := C.2.2.2.2.2.2.2.1
  unfold x_rk at hk
  split at hk
  · rename_i e1 e2
    rw [e1] at hr
    exact W.vret (Qc := x_Q P D A dm0 ad0) (free := A) C.1 C.2.1 hr (x_r_ret (l := l) (p := p) (e := e) (m := m) (below := below) (meth := meth) (c := c) (rv := none) hp hR hag hdm hS (fun w hw => by cases hw)) hS.2.2 hdg hlk
  · rename_i e2; cases e2
  · rename_i e2; cases e2
  · rename_i e2; cases e2
  · exact hk.elim
theorem x_Ct_of (ha : i < 328) (hn : (x_sl As).length ≤ x_ml i) (hG : x_G x_SI i (x_rm i d) (x_QQ i P) 0 (x_ent (x_ml i) As) [] h 0 0) : x_Ct i d As h P := by
  obtain ⟨z1, z2, z3, z4, z5, z6, z7⟩ := x_ckZ_at ha
  intro l D ad ac sz
  refine Met.ofW (cc := x_bc i) (maxL := x_ml i) (ret := x_rt i) z4 rfl ?_
  intro p e s m args below meth c s₁ B hml hv
  obtain ⟨rfl, hsz, hR, hAs, hNw, hZ⟩ := hv
  subst hsz
  have hts := atoms_spec (ws := x_wd i) B.pre
  rw [lg_entry_eq]
  have hown : s.vm.findClass (x_own i) = some m.cls := by
    rw [← z1]
    exact findClass_of_methodNamed B.named
  have hD := hR.2.1.self (sz := s.heap.size)
  exact hG l p e s m _ below meth c D (va_A (x_ws ad ac h) s.heap.size) (x_d h) ad ⟨B.exec, B.bytes, hml, hown, fun w hw => hts w (List.mem_cons_of_mem _ hw), hNw, B.returns, B.notSynchronized, (name_of_methodNamed B.named B.method).1, fun q hq => Or.inr hq, hZ⟩ ad ac s.heap [] _ ⟨hR.1, hD, hR.2.2.1, hR.2.2.2.1, hR.2.2.2.2⟩ (fun _ _ => rfl) (fun _ hk => hk) (Nat.zero_le _) (Nat.zero_le _) va_S.rf (x_ent_L ad As hn) (fun _ hv => absurd hv List.not_mem_nil) (x_ent_ok _ hAs)
/-- a weaker post -/
theorem x_G_post {Q : Option Value → xH → Prop} : True := trivial
end XJ
