theorem x_nn {z : Int32} (h : 0 ≤ z.toInt) : ¬ z < 0 ∧ (z.toNatClampNeg : Int) = z.toInt := by
  refine ⟨fun h1 => ?_, ?_⟩
  · have h2 := Int32.lt_iff_toInt_lt.mp h1
    have e : (0 : Int32).toInt = 0 := rfl
    omega
  · show ((z.toInt.toNat : Nat) : Int) = z.toInt
    exact Int.toNat_of_nonneg h
theorem x_cats (ad : Nat → Nat) (r : List Value) : ((r.map (x_cv ad)).map fun v => v.category) = r.map fun v => v.category := by
  rw [List.map_map]
  exact List.map_congr_left fun v _ => x_cv_cat ad v
theorem x_dd_inv {d : Nat} {r : List Value} {P : Prop} (h : x_dd d r P) : 1 ≤ d ∧ (r.map fun v => v.category).sum ≤ 8 ∧ P := by
  cases d with
  | zero => exact h.elim
  | succ d =>
    obtain ⟨h1, h2⟩ := x_b_inv h
    exact ⟨by omega, of_decide_eq_true h1, h2⟩
theorem x_Rep_move {D : va_G} {A B : Nat → Prop} {ad : Nat → Nat} {ac : Nat → ClassId} {h : xH} {u U : State} {H : Heap} (hvm : u.vm.Alike U.vm) (hAB : ∀ q, A q → B q) (hR : x_Rep D A ad ac h u H) : x_Rep D B ad ac h U H :=
  ⟨hR.1, hR.2.1.weaken (fun _ _ _ h => hAB _ h), va_K.moved hvm hR.2.2.1, fun k hk h1 => ⟨arrOfT_moved hvm (hR.2.2.2.1 k hk h1).1, (hR.2.2.2.1 k hk h1).2.moved hvm⟩, hR.2.2.2.2⟩
theorem x_good_gd : ∀ w ∈ x_gd, w ∈ x_gd ∧ ((w.onTables && w.keeps) = true ∨ ∃ ty, w = .arrayClass ty) := fun w hw => ⟨hw, good_of_word (List.mem_filter.mp hw).2⟩
theorem x_good_wd {a : Nat} (ha : a < 328) (hk : x_kd a ≠ 0) : GoodIn x_gd (x_wd a) := fun w hw => (List.mem_cons.mp hw).elim (fun e => e ▸ x_good_gd _ (x_code (by omega) hk)) (x_good_gd w)
theorem x_ckZ_at {a : Nat} (ha : a < 328) : (x_y a).cls = x_own a ∧ x_ow a < 12 ∧ x_ml a ≤ 40 ∧ plainName (x_y a).cls = true ∧ (x_y a).cls ≠ "java/lang/invoke/MethodHandle" ∧ (x_y a).cls ≠ "java/lang/invoke/VarHandle" ∧ (parseMethodDescriptor (x_y a).desc).map (fun d => d.parameters.length) = some (match x_kd a with | 1 => x_na a | _ => x_na a - 1) := by
  have h := x_ckZ_all (a := a) (by omega)
  unfold x_ckZ at h
  simp only [Bool.and_eq_true, decide_eq_true_eq] at h
  exact ⟨h.1.1, h.1.2.1, h.1.2.2.1, h.1.2.2.2, h.2.1.1, h.2.1.2, h.2.2⟩
section XCALL
variable {p : Program} {l : Launch} {e : Env} {R : Room} {s : State} {m : MethodId} {args : Array Value} {below : List Frame} {meth : Method} {c : Code} {H : Heap} {locs : List Loc} {cells slots : Nat} {Q : State → Prop}
variable {pc : Nat} {ls : Array Slot} {rest st0 : List Value} {a : Array Value} {A0 A1 : Nat → Prop} {mc ms : Nat} {free : Addr → Prop} {P : Option Value → xH → Prop} {D : va_G} {dm : List Nat} {ad : Nat → Nat}
theorem x_callW (hr : va_Run p l e R s m args below meth c H locs cells slots mc ms (F0 m pc ls st0) rest (x_Q P D A1 dm ad a) free) (hS : va_S A0 s.heap H locs) (hA : ∀ q, A1 q → A0 q) (hf : ∀ q, free q → A0 q)
    (kk : ∀ (r : Option Value) (h' : xH) (ad' : Nat → Nat) (ac' : Nat → ClassId) (H1 : Heap) (locs1 : List Loc), P r h' → x_Rep D A0 ad' ac' h' s H1 → (∀ k, x_in1 dm k → ad' k = ad k) → (∀ k ∈ dm, k ∈ x_d h') → (∀ v, r = some v → x_ok1 (x_d h') v) → va_S A0 s.heap H1 locs1 → W p l e R s m args below meth c H1 locs1 (cells + mc) (slots + ms) Q (F0 m (pc + 3) ls (r.toList.map (x_cv ad') ++ rest))) : W p l e R s m args below meth c H locs cells slots Q (F0 m pc ls st0) := by
  intro T hT X
  obtain ⟨v, st₀, t, T', L, h0, X', hL, e1, e2, ⟨⟨r, h', ad', ac', hv, hp, hRep, hag, hdm, hok⟩, hz, hk⟩, st⟩ := hr T hT X
  have hv : v = r.map (x_cv ad') := Outcome.returned.inj hv
  subst hv
  rw [h0] at hz hk
  have hal : s.vm.Alike t.vm := by rw [← e2]; exact X'.warmed.alike
  have hS1 : va_S A0 s.heap T'.heap (locs ++ L) := ⟨Nat.le_trans hS.1 (by rw [e1]; exact hz), fun q h1 h2 => by rw [e1, hk q (Nat.lt_of_lt_of_le h1 hS.1) (fun z => h2 (hA q z))]; exact hS.2.1 q h1 h2, fun q hq => by
      rcases List.mem_append.mp hq with h | h
      · exact hS.2.2 q h
      · exact hf _ (hL q h)⟩
  have hRep1 : x_Rep D A0 ad' ac' h' s T'.heap := by
    rw [e1]
    exact x_Rep_move hal.symm hA hRep
  obtain ⟨t2, a1, b1⟩ := kk r h' ad' ac' T'.heap (locs ++ L) hp hRep1 hag hdm hok hS1 T' rfl X'
  refine ⟨t2, st t2 ?_, b1⟩
  have e3 : (r.map (x_cv ad')).toList = r.toList.map (x_cv ad') := by cases r <;> rfl
  rw [e3]
  exact a1
end XCALL
section XCL
variable {SI : Nat → Option (Nat × (Nat → Int32))} {i d : Nat} {R : Room} {QQ : xQ} {pc pc' : Nat} {lv : List (Option Value)} {st st' r As : List Value} {h : xH} {cs ss k a b ix : Nat} {P : Option Value → xH → Prop}
theorem x_Pre_blind (D : va_G) (ad : Nat → Nat) (ac : Nat → ClassId) (h : xH) (As : List Value) (A : Nat → Prop) (sz : Nat) (av : List Value) : FrameBlind (va_Pc av (fun U => U.heap.size = sz ∧ x_Pre D ad ac h As A U)) := by
  intro v U g mk hq
  obtain ⟨h1, h2, h3, h4, h5, h6⟩ := hq
  exact ⟨h1, h2, x_Rep_move (u := U) (U := U.calling g mk v) (Vm.Alike.refl U.vm) (fun _ h => h) h3, h4, x_Nw_same (u := U) (U := U.calling g mk v) rfl h5, x_Z_same (u := U) (U := U.calling g mk v) rfl rfl h6⟩
/-- what a call needs of the caller's frame -/
theorem x_pre_of {p : Program} {s : State} {m : MethodId} {args : Array Value} {meth : Method} {c : Code} {D : va_G} {A : Nat → Prop} {ad0 ad : Nat → Nat} {ac : Nat → ClassId} {H : Heap} {locs : List Loc} {dm0 : List Nat} (hsub : ∀ k q, x_SI k = some q → SI k = some q) (C : x_C SI i p s m args meth c A ad0) (hR : x_Rep D A ad ac h s H) (hag : ∀ k, x_in1 dm0 k → ad k = ad0 k) (hS : va_S A s.heap H locs) (hAs : x_okS (x_d h) As) :
    (∀ q, va_A (x_ws ad ac h) H.size q → A q) ∧ ∀ U : State, U.heap = H → s.WarmedH U.vm → va_Pc (As.map (x_cv ad)) (fun U => U.heap.size = H.size ∧ x_Pre D ad ac h As (va_A (x_ws ad ac h) H.size) U) (As.map (x_cv ad)).toArray U := by
  have hA : ∀ q, va_A (x_ws ad ac h) H.size q → A q := fun q hq => by
    rcases hq with ⟨k, e, hk⟩ | hq
    · exact hR.2.1.2 k (q, e) hk
    · exact C.2.2.2.2.2.2.2.2.2.1 q (Nat.le_trans hS.1 hq)
  refine ⟨hA, fun U hU hW => ⟨rfl, by rw [hU], ?_, hAs, x_Nw_warm hW C.2.2.2.2.2.1, ?_⟩⟩
  · rw [hU]
    exact x_Rep_move hW.alike (fun _ _ => trivial) hR
  · exact x_Z_pass C.2.2.2.2.2.2.2.2.2.2 hsub hS hW hU hA (fun k hk => hag k (Or.inr hk))
theorem x_r_callS (hsub : ∀ k q, x_SI k = some q → SI k = some q) (hd : d + 1 ≤ R.frames ∧ 64 * (d + 1) ≤ R.locals) (ha : a < 328) (hk : x_kd a = 1) (hlk : x_isM (x_ow i) ix a = true ∨ x_isN (x_ow i) ix a = true) (hct : x_Ct a d As h P) (hst0 : st = As.reverse ++ r) (hn : As.length = x_na a) (hcat : (r.map fun v => v.category).sum ≤ 8) (h1 : cs + x_mc a ≤ R.cells) (h2 : ss + x_ms a ≤ R.slots) (hdg : decode (x_bc i) pc = .ok (.invokestatic ix, 3))
    (hN : ∀ (q : Option Value) (h' : xH), P q h' → x_G SI i R QQ (pc + 3) lv (q.toList ++ r) h' (cs + x_mc a) (ss + x_ms a)) : x_G SI i R QQ pc lv st h cs ss := by
  subst hst0
  obtain ⟨z1, z2, z3, z4, z5, z6, z7⟩ := x_ckZ_at ha
  intro l p e s m args below meth c D A dm0 ad0 C ad ac H locs ls hR hag hdm hcs hss hS hL hst hlv
  have hts := C.2.2.2.2.1
  have hrok : x_okS (x_d h) r := fun v hv => hst v (List.mem_append_right _ hv)
  have hAs : x_okS (x_d h) As := fun v hv => hst v (List.mem_append_left _ (List.mem_reverse.mpr hv))
  obtain ⟨hA, hPc⟩ := x_pre_of (As := As) hsub C hR hag hS hAs
  have hkd : x_kd a ≠ 0 := by omega
  have hini : (Cond.initialized (x_y a).cls).before args s = true := by rw [z1]; exact hts _ (x_ini z2)
  have hstat : (Cond.static (x_y a)).before args s = true := by
    have h9 := x_ckY_all (a := a) (by omega)
    unfold x_ckY at h9
    have hk' : (x_cpY.getD a (0, 0, 0, 0)).2.2.2 = 1 := hk
    simp only [hk'] at h9
    exact hts _ (x_ckw_ok h9)
  rw [hk] at z7
  have hR0 : (x_rm a d).frames + 1 ≤ R.frames ∧ 8 + (x_ml a + 11) + (x_rm a d).locals ≤ R.locals := ⟨hd.1, by show 8 + (x_ml a + 11) + 64 * d ≤ _; omega⟩
  have hrun : va_Run p l e R s m args below meth c H locs cs ss (x_mc a) (x_ms a) (F0 m pc ls ((As.reverse ++ r).map (x_cv ad))) (r.map (x_cv ad)) (x_Q P D (va_A (x_ws ad ac h) H.size) (x_d h) ad (As.map (x_cv ad)).toArray) (va_A (x_ws ad ac h) H.size) := by
    have hM := hct l D ad ac H.size
    rcases hlk with hlk | hlk
    · exact va_runS (S := ⟨C.1, C.2.1, C.2.2.1, C.2.2.2.1, hts⟩) hM ⟨callB_of (x_na a) hts (x_good_wd ha hkd) rfl rfl rfl hini (hts _ (x_isM_ok hlk)) ⟨z5, z6, z7⟩ hR0, hstat⟩ ⟨x_Pre_blind _ _ _ _ _ _ _ _, hPc⟩ rfl (by simpa using hn) hL.2.1 (by simp) (by show 2 * 0 + _ ≤ 8; rw [x_cats]; omega) hdg ⟨h1, h2⟩
    · exact va_runSN (S := ⟨C.1, C.2.1, C.2.2.1, C.2.2.2.1, hts⟩) hM ⟨va_cnB (x_na a) hts (x_good_wd ha hkd) rfl rfl rfl (C.2.2.2.2.2.1.1 _ (x_isN_ok hlk) rfl) hini ⟨z5, z6, z7⟩ hR0, hstat, trivial⟩ ⟨x_Pre_blind _ _ _ _ _ _ _ _, hPc⟩ rfl (by simpa using hn) hL.2.1 (by simp) (by show 2 * 0 + _ ≤ 8; rw [x_cats]; omega) hdg ⟨h1, h2⟩
  refine x_callW hrun hS hA hA (fun q h' ad' ac' H1 locs1 hP hR1 hag1 hdm1 hok1 hS1 => ?_)
  have := hN q h' hP l p e s m args below meth c D A dm0 ad0 C ad' ac' H1 locs1 ls hR1 (fun k hk => (hag1 k (hk.imp (hdm k) id)).trans (hag k hk)) (fun k hk => hdm1 k (hdm k hk)) h1 h2 hS1 (x_L_ag hL hag1 hlv) (fun v hv => by
    rcases List.mem_append.mp hv with hv | hv
    · exact hok1 v (by cases q <;> simp at hv; rw [hv])
    · exact x_ok1_m hdm1 (hrok v hv)) (x_okL_m hdm1 hlv)
  rw [List.map_append, x_map_ag hag1 hrok] at this
  exact this
theorem x_r_callI (hsub : ∀ k q, x_SI k = some q → SI k = some q) (hd : d + 1 ≤ R.frames ∧ 64 * (d + 1) ≤ R.locals) (ha : a < 328) (hk : x_kd a = 2) (hnm : (x_y a).name = "<init>" ∧ x_rt a = none) (hlk : x_isM (x_ow i) ix a = true ∨ x_isN (x_ow i) ix a = true) (hct : x_Ct a d (.ref k :: As) h P) (hst0 : st = As.reverse ++ .ref k :: r) (hn : As.length + 1 = x_na a) (hcat : (r.map fun v => v.category).sum ≤ 8) (h1 : cs + x_mc a ≤ R.cells) (h2 : ss + x_ms a ≤ R.slots) (hdg : decode (x_bc i) pc = .ok (.invokespecial ix, 3))
    (hN : ∀ (q : Option Value) (h' : xH), P q h' → x_G SI i R QQ (pc + 3) lv (q.toList ++ r) h' (cs + x_mc a) (ss + x_ms a)) : x_G SI i R QQ pc lv st h cs ss := by
  subst hst0
  obtain ⟨z1, z2, z3, z4, z5, z6, z7⟩ := x_ckZ_at ha
  intro l p e s m args below meth c D A dm0 ad0 C ad ac H locs ls hR hag hdm hcs hss hS hL hst hlv
  have hts := C.2.2.2.2.1
  have hrok : x_okS (x_d h) r := fun v hv => hst v (List.mem_append_right _ (List.mem_cons_of_mem _ hv))
  have hAs : x_okS (x_d h) (.ref k :: As) := x_okS_c (hst _ (List.mem_append_right _ List.mem_cons_self)) (fun v hv => hst v (List.mem_append_left _ (List.mem_reverse.mpr hv)))
  obtain ⟨hA, hPc⟩ := x_pre_of (As := .ref k :: As) hsub C hR hag hS hAs
  have hkd : x_kd a ≠ 0 := by omega
  have hini : (Cond.initialized (x_y a).cls).before args s = true := by rw [z1]; exact hts _ (x_ini z2)
  have hinst : (Cond.instanceMethod (x_y a)).before args s = true := by
    have h9 := x_ckY_all (a := a) (by omega)
    unfold x_ckY at h9
    have hk' : (x_cpY.getD a (0, 0, 0, 0)).2.2.2 = 2 := hk
    simp only [hk'] at h9
    exact hts _ (x_ckw_ok h9)
  rw [hk] at z7
  have hR0 : (x_rm a d).frames + 1 ≤ R.frames ∧ 8 + (x_ml a + 11) + (x_rm a d).locals ≤ R.locals := ⟨hd.1, by show 8 + (x_ml a + 11) + 64 * d ≤ _; omega⟩
  have hrun : va_Run p l e R s m args below meth c H locs cs ss (x_mc a) (x_ms a) (F0 m pc ls ((As.reverse ++ .ref k :: r).map (x_cv ad))) (r.map (x_cv ad)) (x_Q P D (va_A (x_ws ad ac h) H.size) (x_d h) ad ((.ref k :: As).map (x_cv ad)).toArray) (va_A (x_ws ad ac h) H.size) := by
    have hM := hct l D ad ac H.size
    rcases hlk with hlk | hlk
    · exact va_runI (As := As.map (x_cv ad)) (b := ad k) (S := ⟨C.1, C.2.1, C.2.2.1, C.2.2.2.1, hts⟩) hM ⟨callB_of (x_na a - 1) hts (x_good_wd ha hkd) (by unfold x_wd; rw [hnm.2]) rfl rfl hini (hts _ (x_isM_ok hlk)) ⟨z5, z6, z7⟩ hR0, hnm.1, hinst⟩ ⟨x_Pre_blind _ _ _ _ _ _ _ _, hPc⟩ rfl (by simp; omega) hL.2.1 (by simp [x_cv]) (by show 2 * 0 + _ ≤ 8; rw [x_cats]; omega) hdg ⟨h1, h2⟩
    · exact va_runIN (As := As.map (x_cv ad)) (b := ad k) (S := ⟨C.1, C.2.1, C.2.2.1, C.2.2.2.1, hts⟩) hM ⟨va_cnB (x_na a - 1) hts (x_good_wd ha hkd) (by unfold x_wd; rw [hnm.2]) rfl rfl (C.2.2.2.2.2.1.1 _ (x_isN_ok hlk) rfl) hini ⟨z5, z6, z7⟩ hR0, hnm.1, hinst⟩ ⟨x_Pre_blind _ _ _ _ _ _ _ _, hPc⟩ rfl (by simp; omega) hL.2.1 (by simp [x_cv]) (by show 2 * 0 + _ ≤ 8; rw [x_cats]; omega) hdg ⟨h1, h2⟩
  refine x_callW hrun hS hA hA (fun q h' ad' ac' H1 locs1 hP hR1 hag1 hdm1 hok1 hS1 => ?_)
  have := hN q h' hP l p e s m args below meth c D A dm0 ad0 C ad' ac' H1 locs1 ls hR1 (fun k hk => (hag1 k (hk.imp (hdm k) id)).trans (hag k hk)) (fun k hk => hdm1 k (hdm k hk)) h1 h2 hS1 (x_L_ag hL hag1 hlv) (fun v hv => by
    rcases List.mem_append.mp hv with hv | hv
    · exact hok1 v (by cases q <;> simp at hv; rw [hv])
    · exact x_ok1_m hdm1 (hrok v hv)) (x_okL_m hdm1 hlv)
  rw [List.map_append, x_map_ag hag1 hrok] at this
  exact this
theorem x_r_callV (hsub : ∀ k q, x_SI k = some q → SI k = some q) (hd : d + 1 ≤ R.frames ∧ 64 * (d + 1) ≤ R.locals) (ha : a < 328) (hk : x_kd a = 3) (hlk : x_isM (x_ow i) ix a = true ∨ x_isN (x_ow i) ix a = true) (hrc : (x_SH k).1 = x_ow a) (hct : x_Ct a d (.ref k :: As) h P) (hst0 : st = As.reverse ++ .ref k :: r) (hn : As.length + 1 = x_na a) (hcat : (r.map fun v => v.category).sum ≤ 8) (h1 : cs + x_mc a ≤ R.cells) (h2 : ss + x_ms a ≤ R.slots) (hdg : decode (x_bc i) pc = .ok (.invokevirtual ix, 3)) (hcl : x_ow a < 11)
    (hN : ∀ (q : Option Value) (h' : xH), P q h' → x_G SI i R QQ (pc + 3) lv (q.toList ++ r) h' (cs + x_mc a) (ss + x_ms a)) : x_G SI i R QQ pc lv st h cs ss := by
  subst hst0
  obtain ⟨z1, z2, z3, z4, z5, z6, z7⟩ := x_ckZ_at ha
  intro l p e s m args below meth c D A dm0 ad0 C ad ac H locs ls hR hag hdm hcs hss hS hL hst hlv
  have hts := C.2.2.2.2.1
  have hrok : x_okS (x_d h) r := fun v hv => hst v (List.mem_append_right _ (List.mem_cons_of_mem _ hv))
  have hAs : x_okS (x_d h) (.ref k :: As) := x_okS_c (hst _ (List.mem_append_right _ List.mem_cons_self)) (fun v hv => hst v (List.mem_append_left _ (List.mem_reverse.mpr hv)))
  obtain ⟨hA, hPc⟩ := x_pre_of (As := .ref k :: As) hsub C hR hag hS hAs
  have hkd : x_kd a ≠ 0 := by omega
  have hini : (Cond.initialized (x_y a).cls).before args s = true := by rw [z1]; exact hts _ (x_ini z2)
  have hinst : (Cond.instanceMethod (x_y a)).before args s = true ∧ (Cond.selects (x_own a) (x_y a) (x_y a)).before args s = true := by
    have h9 := x_ckY_all (a := a) (by omega)
    unfold x_ckY at h9
    have hk' : (x_cpY.getD a (0, 0, 0, 0)).2.2.2 = 3 := hk
    simp only [hk', Bool.and_eq_true] at h9
    exact ⟨hts _ (x_ckw_ok h9.1), hts _ (x_ckw_ok h9.2)⟩
  rw [hk] at z7
  have hR0 : (x_rm a d).frames + 1 ≤ R.frames ∧ 8 + (x_ml a + 11) + (x_rm a d).locals ≤ R.locals := ⟨hd.1, by show 8 + (x_ml a + 11) + 64 * d ≤ _; omega⟩
  have hkm : k ∈ x_d h := x_inD (hAs _ List.mem_cons_self k rfl) (by rw [hrc]; omega)
  obtain ⟨q0, hq, hw⟩ := x_ws_at (ad := ad) (ac := ac) hkm
  rw [x_cell_o hrc hcl] at hw
  have hrecv := va_recv hR.2.2.1 hR.1 (x_CL_at (x_ow a) hcl) hw
  have hrun : va_Run p l e R s m args below meth c H locs cs ss (x_mc a) (x_ms a) (F0 m pc ls ((As.reverse ++ .ref k :: r).map (x_cv ad))) (r.map (x_cv ad)) (x_Q P D (va_A (x_ws ad ac h) H.size) (x_d h) ad ((.ref k :: As).map (x_cv ad)).toArray) (va_A (x_ws ad ac h) H.size) := by
    have hM := hct l D ad ac H.size
    rcases hlk with hlk | hlk
    · exact va_runV (As := As.map (x_cv ad)) (b := ad k) (C := x_own a) (S := ⟨C.1, C.2.1, C.2.2.1, C.2.2.2.1, hts⟩) hM ⟨callB_of (x_na a - 1) hts (x_good_wd ha hkd) rfl rfl rfl hini (hts _ (x_isM_ok hlk)) ⟨z5, z6, z7⟩ hR0, hinst⟩ ⟨x_Pre_blind _ _ _ _ _ _ _ _, hrecv, hPc⟩ rfl (by simp; omega) hL.2.1 (by simp [x_cv]) (by show 2 * 0 + _ ≤ 8; rw [x_cats]; omega) hdg ⟨h1, h2⟩
    · exact va_runVN (As := As.map (x_cv ad)) (b := ad k) (C := x_own a) (S := ⟨C.1, C.2.1, C.2.2.1, C.2.2.2.1, hts⟩) hM ⟨va_cnB (x_na a - 1) hts (x_good_wd ha hkd) rfl rfl rfl (C.2.2.2.2.2.1.1 _ (x_isN_ok hlk) rfl) hini ⟨z5, z6, z7⟩ hR0, hinst⟩ ⟨x_Pre_blind _ _ _ _ _ _ _ _, hrecv, hPc⟩ rfl (by simp; omega) hL.2.1 (by simp [x_cv]) (by show 2 * 0 + _ ≤ 8; rw [x_cats]; omega) hdg ⟨h1, h2⟩
  refine x_callW hrun hS hA hA (fun q h' ad' ac' H1 locs1 hP hR1 hag1 hdm1 hok1 hS1 => ?_)
  have := hN q h' hP l p e s m args below meth c D A dm0 ad0 C ad' ac' H1 locs1 ls hR1 (fun k hk => (hag1 k (hk.imp (hdm k) id)).trans (hag k hk)) (fun k hk => hdm1 k (hdm k hk)) h1 h2 hS1 (x_L_ag hL hag1 hlv) (fun v hv => by
    rcases List.mem_append.mp hv with hv | hv
    · exact hok1 v (by cases q <;> simp at hv; rw [hv])
    · exact x_ok1_m hdm1 (hrok v hv)) (x_okL_m hdm1 hlv)
  rw [List.map_append, x_map_ag hag1 hrok] at this
  exact this
end XCL
