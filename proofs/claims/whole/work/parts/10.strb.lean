theorem xs_latin (l : Launch) (q v : Nat) : Met l ys_latin (.code ys_latin prog_14_method_154_code 1 (some .boolean) :: x_gd) (xs_rm 0 0) (x_Pf [.ref q] q v) (x_Qk (some (.int 1))) 0 0 (fun _ => False) := by
  refine Met.ofW (cc := prog_14_method_154_code) (maxL := 1) (ret := (some .boolean)) (by decide) rfl ?_
  intro p e s m args below meth c s₁ B hml hv
  obtain ⟨rfl, hSF⟩ := hv
  obtain ⟨hZ, hO, hC, hV, hT, hF⟩ := id hSF
  have hx := B.exec
  have hb := B.bytes
  have hr := B.returns
  have hts := fun w hw => atoms_spec (ws := .code ys_latin prog_14_method_154_code 1 (some .boolean) :: x_gd) B.pre w (List.mem_cons_of_mem _ hw)
  have hown : s.vm.findClass (ys_latin).cls = some m.cls := findClass_of_methodNamed B.named
  have hlocks := B.notSynchronized
  have hS : va_S xs_F s.heap s.heap [] := va_S.rf
  have hl := lv_entry ([.ref q]) (n := 1) (Nat.le_of_ble_eq_true rfl)
  rw [lg_entry_eq]
  generalize (lg_sl ([.ref q]) ++ List.replicate (1 - (lg_sl ([.ref q])).length) Slot.unset).toArray = ls at hl ⊢
  have hl : lv_has ls 1 [(0, .ref q)] := hl
  refine va_gets hx hb hZ hS hown (hts _ xs_f1) (fun _ h => h) (by decide +kernel) ?_
  refine lv_if_eq (tgt := 17) hx hb (off := 14) (by decide +kernel) (by decide) (fun h => absurd h (by decide)) (fun _ => ?_)
  refine lv_aload_n hx hb (k := 0) (by decide +kernel) rfl (lv_at hl 0 rfl) ?_
  refine vk_getf hx hb hC hS hown (hts _ xs_f3) (fun _ h => h) (by decide +kernel) ?_
  refine lv_if_ne (tgt := 17) hx hb (off := 7) (by decide +kernel) (by decide) (fun h => absurd rfl h) (fun _ => ?_)
  refine lv_iconst (v := 1) hx hb (n := 1) (by decide +kernel) (by decide) ?_
  refine lv_goto (tgt := 18) hx hb (off := 4) (by decide +kernel) (by decide) ?_
  exact W.zret hx hb hr rfl (fun t ht hW => ⟨rfl, ht⟩) (fun _ h => absurd h List.not_mem_nil) (by decide +kernel)
theorem xs_length (l : Launch) (q v : Nat) : Met l ys_len (.code ys_len prog_14_method_54_code 1 (some .int) :: x_gd) (xs_rm 1 20) (x_Pf [.ref q] q v) (x_Qk (some (.int 129))) 0 0 (fun _ => False) := by
  refine Met.ofW (cc := prog_14_method_54_code) (maxL := 1) (ret := (some .int)) (by decide) rfl ?_
  intro p e s m args below meth c s₁ B hml hv
  obtain ⟨rfl, hSF⟩ := hv
  obtain ⟨hZ, hO, hC, hV, hT, hF⟩ := id hSF
  have hx := B.exec
  have hb := B.bytes
  have hr := B.returns
  have hts := fun w hw => atoms_spec (ws := .code ys_len prog_14_method_54_code 1 (some .int) :: x_gd) B.pre w (List.mem_cons_of_mem _ hw)
  have hown : s.vm.findClass (ys_len).cls = some m.cls := findClass_of_methodNamed B.named
  have hlocks := B.notSynchronized
  have hS : va_S xs_F s.heap s.heap [] := va_S.rf
  have hl := lv_entry ([.ref q]) (n := 1) (Nat.le_of_ble_eq_true rfl)
  rw [lg_entry_eq]
  generalize (lg_sl ([.ref q]) ++ List.replicate (1 - (lg_sl ([.ref q])).length) Slot.unset).toArray = ls at hl ⊢
  have hl : lv_has ls 1 [(0, .ref q)] := hl
  refine lv_aload_n hx hb (k := 0) (by decide +kernel) rfl (lv_at hl 0 rfl) ?_
  refine vk_getf hx hb hV hS hown (hts _ xs_f2) (fun _ h => h) (by decide +kernel) ?_
  refine va_tlen hx hb hT hS (v := 129) rfl (by decide +kernel) ?_
  refine lv_aload_n hx hb (k := 0) (by decide +kernel) rfl (lv_at hl 0 rfl) ?_
  refine xs_callV (n := 0) (As := []) (rest := [.int 129]) ⟨hx, hb, hml, hown, hts⟩ (xs_len_coder l q v) ⟨rfl, rfl⟩ ⟨Nat.le_of_ble_eq_true rfl, Nat.le_of_ble_eq_true rfl⟩ ⟨Nat.zero_le _, Nat.zero_le _⟩ xs_c1 xs_i1 xs_l1 xs_k1 xs_s1 (by decide +kernel) hSF rfl hl.1 (Nat.le_of_ble_eq_true rfl) (by decide +kernel) ?_
  refine lv_ishr hx hb (by decide +kernel) ?_
  exact W.iret (v := 129) hx hb hr (fun t ht hW => ⟨rfl, ht⟩) (fun _ h => absurd h List.not_mem_nil) (by decide +kernel)
theorem xs_pck (l : Launch) (q v : Nat) (i n : Int32) (w : Value) (hw : w.category = 1) (h0 : ¬ i < 0) (h1 : i < n) : Met l ys_pck (.code ys_pck prog_18_method_11_code 3 (some .int) :: x_gd) (xs_rm 0 0) (x_Pf [.int i, .int n, w] q v) (x_Qk (some (.int i))) 0 0 (fun _ => False) := by
  refine Met.ofW (cc := prog_18_method_11_code) (maxL := 3) (ret := (some .int)) (by decide) rfl ?_
  intro p e s m args below meth c s₁ B hml hv
  obtain ⟨rfl, hSF⟩ := hv
  obtain ⟨hZ, hO, hC, hV, hT, hF⟩ := id hSF
  have hx := B.exec
  have hb := B.bytes
  have hr := B.returns
  have hts := fun w hw => atoms_spec (ws := .code ys_pck prog_18_method_11_code 3 (some .int) :: x_gd) B.pre w (List.mem_cons_of_mem _ hw)
  have hown : s.vm.findClass (ys_pck).cls = some m.cls := findClass_of_methodNamed B.named
  have hlocks := B.notSynchronized
  have hS : va_S xs_F s.heap s.heap [] := va_S.rf
  have hl := lv_entry ([.int i, .int n, w]) (n := 3) (by simp only [lg_sl, List.flatMap_cons, List.flatMap_nil, hw]; exact Nat.le_refl 3)
  rw [lg_entry_eq]
  generalize (lg_sl ([.int i, .int n, w]) ++ List.replicate (3 - (lg_sl ([.int i, .int n, w])).length) Slot.unset).toArray = ls at hl ⊢
  have hl : lv_has ls 3 [(0, .int i), (1, .int n), (2, w)] := hl
  refine lv_iload_n hx hb (k := 0) (by decide +kernel) rfl (lv_at hl 0 rfl) ?_
  refine lv_if_lt (tgt := 9) hx hb (off := 8) (by decide +kernel) (by decide) (fun h => absurd h h0) (fun _ => ?_)
  refine lv_iload_n hx hb (k := 0) (by decide +kernel) rfl (lv_at hl 0 rfl) ?_
  refine lv_iload_n hx hb (k := 1) (by decide +kernel) rfl (lv_at hl 1 rfl) ?_
  refine lv_icmp_lt (tgt := 16) hx hb (off := 10) (by decide +kernel) (by decide) (fun _ => ?_) (fun h => absurd h1 h)
  refine lv_iload_n hx hb (k := 0) (by decide +kernel) rfl (lv_at hl 0 rfl) ?_
  exact W.iret (v := i) hx hb hr (fun t ht hW => ⟨rfl, ht⟩) (fun _ h => absurd h List.not_mem_nil) (by decide +kernel)
theorem xs_ck (l : Launch) (q v : Nat) (i n : Int32) (h0 : ¬ i < 0) (h1 : i < n) : Met l ys_ck (.code ys_ck prog_14_method_155_code 2 none :: x_gd) (xs_rm 1 22) (x_Pf [.int i, .int n] q v) (x_Qk none) 0 0 (fun _ => False) := by
  refine Met.ofW (cc := prog_14_method_155_code) (maxL := 2) (ret := none) (by decide) rfl ?_
  intro p e s m args below meth c s₁ B hml hv
  obtain ⟨rfl, hSF⟩ := hv
  obtain ⟨hZ, hO, hC, hV, hT, hF⟩ := id hSF
  have hx := B.exec
  have hb := B.bytes
  have hr := B.returns
  have hts := fun w hw => atoms_spec (ws := .code ys_ck prog_14_method_155_code 2 none :: x_gd) B.pre w (List.mem_cons_of_mem _ hw)
  have hown : s.vm.findClass (ys_ck).cls = some m.cls := findClass_of_methodNamed B.named
  have hlocks := B.notSynchronized
  have hS : va_S xs_F s.heap s.heap [] := va_S.rf
  have hl := lv_entry ([.int i, .int n]) (n := 2) (Nat.le_of_ble_eq_true rfl)
  rw [lg_entry_eq]
  generalize (lg_sl ([.int i, .int n]) ++ List.replicate (2 - (lg_sl ([.int i, .int n])).length) Slot.unset).toArray = ls at hl ⊢
  have hl : lv_has ls 2 [(0, .int i), (1, .int n)] := hl
  refine lv_iload_n hx hb (k := 0) (by decide +kernel) rfl (lv_at hl 0 rfl) ?_
  refine lv_iload_n hx hb (k := 1) (by decide +kernel) rfl (lv_at hl 1 rfl) ?_
  rcases hF with hF | ⟨w, hF⟩
  · refine va_gets hx hb hF hS hown (hts _ xs_f4) (fun _ h => h) (by decide +kernel) ?_
    refine xs_callS (n := 3) (As := [.int i, .int n, .null]) (rest := []) ⟨hx, hb, hml, hown, hts⟩ (xs_pck l q v i n .null rfl h0 h1) ⟨rfl, rfl⟩ ⟨Nat.le_of_ble_eq_true rfl, Nat.le_of_ble_eq_true rfl⟩ ⟨Nat.zero_le _, Nat.zero_le _⟩ xs_c7 xs_i3 xs_l7 xs_k7 (by decide +kernel) hSF rfl hl.1 (Nat.zero_le _) (by decide +kernel) ?_
    refine lv_pop hx hb (by decide +kernel) rfl ?_
    exact W.vret hx hb hr (fun t ht hW => ⟨rfl, ht⟩) (fun _ h => absurd h List.not_mem_nil) (by decide +kernel)
  · refine va_gets hx hb hF hS hown (hts _ xs_f4) (fun _ h => h) (by decide +kernel) ?_
    refine xs_callS (n := 3) (As := [.int i, .int n, (.ref w)]) (rest := []) ⟨hx, hb, hml, hown, hts⟩ (xs_pck l q v i n (.ref w) rfl h0 h1) ⟨rfl, rfl⟩ ⟨Nat.le_of_ble_eq_true rfl, Nat.le_of_ble_eq_true rfl⟩ ⟨Nat.zero_le _, Nat.zero_le _⟩ xs_c7 xs_i3 xs_l7 xs_k7 (by decide +kernel) hSF rfl hl.1 (Nat.zero_le _) (by decide +kernel) ?_
    refine lv_pop hx hb (by decide +kernel) rfl ?_
    exact W.vret hx hb hr (fun t ht hW => ⟨rfl, ht⟩) (fun _ h => absurd h List.not_mem_nil) (by decide +kernel)
def xs_kc (j : Nat) : Int32 := x_key.getD j 0
theorem xs_kc_all : (List.range 129).all (fun j => decide (((x_key.getD j 0 &&& 255).toUInt32 % 65536).toInt32 = x_key.getD j 0)) = true := by decide +kernel
theorem xs_kc_at {j : Nat} (h : j < 129) : ((x_key.getD j 0 &&& 255).toUInt32 % 65536).toInt32 = x_key.getD j 0 := of_decide_eq_true (List.all_eq_true.mp xs_kc_all j (List.mem_range.mpr h))
theorem xs_kn {j : Nat} (h : j < 129) : narrow .char (.int (x_key.getD j 0)) = .int (x_key.getD j 0) := by
  rw [← xs_kc_at h]
  exact pk_nc _
theorem xs_lchar (l : Launch) (q v : Nat) (i : Int32) (hi : x_ix i 129) : Met l ys_lchar (.code ys_lchar prog_15_method_2_code 2 (some .char) :: x_gd) (xs_rm 2 60) (x_Pf [.ref v, .int i] q v) (x_Qk (some (.int (x_key.getD i.toNatClampNeg 0)))) 0 0 (fun _ => False) := by
  refine Met.ofW (cc := prog_15_method_2_code) (maxL := 2) (ret := (some .char)) (by decide) rfl ?_
  intro p e s m args below meth c s₁ B hml hv
  obtain ⟨rfl, hSF⟩ := hv
  obtain ⟨hZ, hO, hC, hV, hT, hF⟩ := id hSF
  have hx := B.exec
  have hb := B.bytes
  have hr := B.returns
  have hts := fun w hw => atoms_spec (ws := .code ys_lchar prog_15_method_2_code 2 (some .char) :: x_gd) B.pre w (List.mem_cons_of_mem _ hw)
  have hown : s.vm.findClass (ys_lchar).cls = some m.cls := findClass_of_methodNamed B.named
  have hlocks := B.notSynchronized
  have hS : va_S xs_F s.heap s.heap [] := va_S.rf
  have hl := lv_entry ([.ref v, .int i]) (n := 2) (Nat.le_of_ble_eq_true rfl)
  rw [lg_entry_eq]
  generalize (lg_sl ([.ref v, .int i]) ++ List.replicate (2 - (lg_sl ([.ref v, .int i])).length) Slot.unset).toArray = ls at hl ⊢
  have hl : lv_has ls 2 [(0, .ref v), (1, .int i)] := hl
  obtain ⟨g1, g2⟩ := x_nn hi.1
  have h1 : i < 129 := Int32.lt_iff_toInt_lt.mpr (by have e9 : (129 : Int32).toInt = 129 := rfl; rw [e9]; exact hi.2)
  have hj : i.toNatClampNeg < 129 := by have := hi.2; omega
  refine lv_iload_n hx hb (k := 1) (by decide +kernel) rfl (lv_at hl 1 rfl) ?_
  refine lv_aload_n hx hb (k := 0) (by decide +kernel) rfl (lv_at hl 0 rfl) ?_
  refine va_tlen hx hb hT hS (v := 129) rfl (by decide +kernel) ?_
  refine xs_callS (n := 2) (As := [.int i, .int 129]) (rest := []) ⟨hx, hb, hml, hown, hts⟩ (xs_ck l q v i 129 g1 h1) ⟨rfl, rfl⟩ ⟨Nat.le_of_ble_eq_true rfl, Nat.le_of_ble_eq_true rfl⟩ ⟨Nat.zero_le _, Nat.zero_le _⟩ xs_c6 xs_i1 xs_l6 xs_k6 (by decide +kernel) hSF rfl hl.1 (Nat.zero_le _) (by decide +kernel) ?_
  refine lv_aload_n hx hb (k := 0) (by decide +kernel) rfl (lv_at hl 0 rfl) ?_
  refine lv_iload_n hx hb (k := 1) (by decide +kernel) rfl (lv_at hl 1 rfl) ?_
  refine va_tb hx hb hT hS (vp_in_iff.mpr hi) rfl (by decide +kernel) ?_
  refine lv_sipush (v := 255) hx hb (n := 255) (by decide +kernel) (by decide) ?_
  refine lv_iand hx hb (by decide +kernel) ?_
  refine lv_i2c hx hb (by decide +kernel) (xs_kc_at hj) ?_
  exact W.zret hx hb hr (xs_kn hj) (fun t ht hW => ⟨rfl, ht⟩) (fun _ h => absurd h List.not_mem_nil) (by decide +kernel)
theorem xs_char (l : Launch) (q v : Nat) (i : Int32) (hi : x_ix i 129) : Met l ys_char (.code ys_char prog_14_method_56_code 2 (some .char) :: x_gd) (xs_rm 3 100) (x_Pf [.ref q, .int i] q v) (x_Qk (some (.int (x_key.getD i.toNatClampNeg 0)))) 0 0 (fun _ => False) := by
  refine Met.ofW (cc := prog_14_method_56_code) (maxL := 2) (ret := (some .char)) (by decide) rfl ?_
  intro p e s m args below meth c s₁ B hml hv
  obtain ⟨rfl, hSF⟩ := hv
  obtain ⟨hZ, hO, hC, hV, hT, hF⟩ := id hSF
  have hx := B.exec
  have hb := B.bytes
  have hr := B.returns
  have hts := fun w hw => atoms_spec (ws := .code ys_char prog_14_method_56_code 2 (some .char) :: x_gd) B.pre w (List.mem_cons_of_mem _ hw)
  have hown : s.vm.findClass (ys_char).cls = some m.cls := findClass_of_methodNamed B.named
  have hlocks := B.notSynchronized
  have hS : va_S xs_F s.heap s.heap [] := va_S.rf
  have hl := lv_entry ([.ref q, .int i]) (n := 2) (Nat.le_of_ble_eq_true rfl)
  rw [lg_entry_eq]
  generalize (lg_sl ([.ref q, .int i]) ++ List.replicate (2 - (lg_sl ([.ref q, .int i])).length) Slot.unset).toArray = ls at hl ⊢
  have hl : lv_has ls 2 [(0, .ref q), (1, .int i)] := hl
  have hj : i.toNatClampNeg < 129 := by obtain ⟨g1, g2⟩ := x_nn hi.1; have := hi.2; omega
  refine lv_aload_n hx hb (k := 0) (by decide +kernel) rfl (lv_at hl 0 rfl) ?_
  refine xs_callV (n := 0) (As := []) (rest := []) ⟨hx, hb, hml, hown, hts⟩ (xs_latin l q v) ⟨rfl, rfl⟩ ⟨Nat.le_of_ble_eq_true rfl, Nat.le_of_ble_eq_true rfl⟩ ⟨Nat.zero_le _, Nat.zero_le _⟩ xs_c2 xs_i1 xs_l2 xs_k2 xs_s2 (by decide +kernel) hSF rfl hl.1 (Nat.zero_le _) (by decide +kernel) ?_
  refine lv_if_eq (tgt := 16) hx hb (off := 12) (by decide +kernel) (by decide) (fun h => absurd h (by decide)) (fun _ => ?_)
  refine lv_aload_n hx hb (k := 0) (by decide +kernel) rfl (lv_at hl 0 rfl) ?_
  refine vk_getf hx hb hV hS hown (hts _ xs_f2) (fun _ h => h) (by decide +kernel) ?_
  refine lv_iload_n hx hb (k := 1) (by decide +kernel) rfl (lv_at hl 1 rfl) ?_
  refine xs_callS (n := 2) (As := [.ref v, .int i]) (rest := []) ⟨hx, hb, hml, hown, hts⟩ (xs_lchar l q v i hi) ⟨rfl, rfl⟩ ⟨Nat.le_of_ble_eq_true rfl, Nat.le_of_ble_eq_true rfl⟩ ⟨Nat.zero_le _, Nat.zero_le _⟩ xs_c5 xs_i2 xs_l5 xs_k5 (by decide +kernel) hSF rfl hl.1 (Nat.zero_le _) (by decide +kernel) ?_
  exact W.zret hx hb hr (xs_kn hj) (fun t ht hW => ⟨rfl, ht⟩) (fun _ h => absurd h List.not_mem_nil) (by decide +kernel)
