/-! THE JDK's String.length() and charAt() over the model's one text -/
def xs_F : Nat → Prop := fun _ => False
def x_SF (q v : Nat) (U : State) : Prop := va_Z "java/lang/String" "COMPACT_STRINGS" "Z" (.int 1) xs_F U U.heap ∧ va_O "java/lang/String" q xs_F U U.heap ∧ va_OF "java/lang/String" "coder" "B" (.int 0) q xs_F U U.heap ∧ va_OF "java/lang/String" "value" "[B" (.ref v) q xs_F U U.heap ∧ va_T .byte v 129 (fun j => .int (x_key.getD j 0)) xs_F U U.heap ∧ va_Zq "jdk/internal/util/Preconditions" "SIOOBE_FORMATTER" "Ljava/util/function/BiFunction;" xs_F U U.heap
theorem x_SF_mv {q v : Nat} {u U : State} (hvm : u.vm.Alike U.vm) (hh : U.heap = u.heap) (h : x_SF q v u) : x_SF q v U := by
  obtain ⟨h1, h2, h3, h4, h5, h6⟩ := h
  unfold x_SF
  rw [hh]
  exact ⟨h1.moved hvm, h2.moved hvm, h3.moved hvm, h4.moved hvm, h5.moved hvm, h6.moved hvm⟩
def x_Pf (av : List Value) (q v : Nat) : Array Value → State → Prop := fun a U => a = av.toArray ∧ x_SF q v U
theorem x_Pf_blind (av : List Value) (q v : Nat) : FrameBlind (x_Pf av q v) := fun a U g mk h => ⟨h.1, x_SF_mv (u := U) (U := U.calling g mk a) (Vm.Alike.refl U.vm) rfl h.2⟩
def x_Qk (r : Option Value) : Array Value → State → Outcome → State → Prop := fun _ st o t => o = .returned r ∧ t.heap = st.heap
def xs_rm (f n : Nat) : Room := { frames := f, cells := 0, slots := 0, locals := n }
section XST
variable {p : Program} {l : Launch} {e : Env} {R : Room} {s : State} {m : MethodId} {args : Array Value} {below : List Frame} {meth : Method} {c : Code} {H : Heap} {locs : List Loc} {cells slots : Nat} {Q : State → Prop} {g : JFrame} {rest : List Value} {a : Array Value}
theorem x_callK {r : Option Value} (hr : CallRun p l e R s m args below meth c H locs cells slots 0 0 g rest (x_Qk r a) (fun _ => False)) (kk : W p l e R s m args below meth c H locs cells slots Q { g with pc := g.pc + 3, stack := r.toList ++ rest }) : W p l e R s m args below meth c H locs cells slots Q g := by
  intro T hT X
  obtain ⟨v, st₀, t, T', L, h0, X', hL, e1, ⟨hv, hh⟩, st⟩ := hr T hT X
  cases hv
  obtain ⟨t2, a1, b1⟩ := kk T' (by rw [e1, hh, h0]) (Stand.forget X' (fun q h => (hL q h).elim))
  exact ⟨t2, st t2 a1, b1⟩
variable {y : MethodName} {bytes cc : ByteArray} {maxL nL n index : Nat} {ret : Option FieldType} {rm : Room} {own C : String} {q v b : Nat} {As : List Value} {pc : Nat} {ls : Array Slot} {r : Option Value}
theorem xs_callS (S : CallFix p m c cc nL s args x_gd own) (hM : Met l y (.code y bytes maxL ret :: x_gd) rm (x_Pf As q v) (x_Qk r) 0 0 (fun _ => False)) (hrm : rm.cells = 0 ∧ rm.slots = 0) (hR : rm.frames + 1 ≤ R.frames ∧ 8 + (maxL + 11) + rm.locals ≤ R.locals) (hc : cells ≤ R.cells ∧ slots ≤ R.slots) (hcode : Cond.code y bytes maxL ret ∈ x_gd) (hini : Cond.initialized y.cls ∈ x_gd) (hlk : Cond.methodLink own index y ∈ x_gd) (hst : Cond.static y ∈ x_gd) (hd : y.cls ≠ "java/lang/invoke/MethodHandle" ∧ y.cls ≠ "java/lang/invoke/VarHandle" ∧ (parseMethodDescriptor y.desc).map (fun d => d.parameters.length) = some n) (hSF : x_SF q v s) (hn : As.length = n) (hsz : ls.size = nL) (hcat : (rest.map fun v => v.category).sum ≤ 8) (hdg : decode cc pc = .ok (.invokestatic index, 3))
    (kk : W p l e R s m args below meth c s.heap locs cells slots Q (F0 m (pc + 3) ls (r.toList ++ rest))) : W p l e R s m args below meth c s.heap locs cells slots Q (F0 m pc ls (As.reverse ++ rest)) := by
  have ht := S.2.2.2.2
  refine x_callK (W.runS S hM ⟨callB_of n ht (fun w hw => (List.mem_cons.mp hw).elim (fun e => e ▸ x_good_gd _ hcode) (x_good_gd w)) rfl hrm.1 hrm.2 (ht _ hini) (ht _ hlk) hd hR, ht _ hst⟩ ⟨x_Pf_blind As q v, fun U hU hW => ⟨rfl, x_SF_mv hW.alike hU hSF⟩⟩ rfl hn hsz rfl (by show 2 * 0 + _ ≤ 8; omega) hdg ⟨by omega, by omega⟩) kk
theorem xs_callV (S : CallFix p m c cc nL s args x_gd own) (hM : Met l y (.code y bytes maxL ret :: x_gd) rm (x_Pf (.ref q :: As) q v) (x_Qk r) 0 0 (fun _ => False)) (hrm : rm.cells = 0 ∧ rm.slots = 0) (hR : rm.frames + 1 ≤ R.frames ∧ 8 + (maxL + 11) + rm.locals ≤ R.locals) (hc : cells ≤ R.cells ∧ slots ≤ R.slots) (hcode : Cond.code y bytes maxL ret ∈ x_gd) (hini : Cond.initialized y.cls ∈ x_gd) (hlk : Cond.methodLink own index y ∈ x_gd) (hst : Cond.instanceMethod y ∈ x_gd) (hse : Cond.selects "java/lang/String" y y ∈ x_gd) (hd : y.cls ≠ "java/lang/invoke/MethodHandle" ∧ y.cls ≠ "java/lang/invoke/VarHandle" ∧ (parseMethodDescriptor y.desc).map (fun d => d.parameters.length) = some n) (hSF : x_SF q v s) (hn : As.length = n) (hsz : ls.size = nL) (hcat : (rest.map fun v => v.category).sum ≤ 8) (hdg : decode cc pc = .ok (.invokevirtual index, 3))
    (kk : W p l e R s m args below meth c s.heap locs cells slots Q (F0 m (pc + 3) ls (r.toList ++ rest))) : W p l e R s m args below meth c s.heap locs cells slots Q (F0 m pc ls (As.reverse ++ .ref q :: rest)) := by
  have ht := S.2.2.2.2
  obtain ⟨cell, o1, o2, o3, -⟩ := hSF.2.1
  refine x_callK (W.runV (C := "java/lang/String") S hM ⟨callB_of n ht (fun w hw => (List.mem_cons.mp hw).elim (fun e => e ▸ x_good_gd _ hcode) (x_good_gd w)) rfl hrm.1 hrm.2 (ht _ hini) (ht _ hlk) hd hR, ht _ hst, ht _ hse⟩ ⟨x_Pf_blind _ q v, ⟨cell, o1, o2, o3⟩, fun U hU hW => ⟨rfl, x_SF_mv hW.alike hU hSF⟩⟩ rfl hn hsz rfl (by show 2 * 0 + _ ≤ 8; omega) hdg ⟨by omega, by omega⟩) kk
end XST
def ys_coder : MethodName := ⟨"java/lang/String", "coder", "()B"⟩
def ys_latin : MethodName := ⟨"java/lang/String", "isLatin1", "()Z"⟩
def ys_len : MethodName := ⟨"java/lang/String", "length", "()I"⟩
def ys_char : MethodName := ⟨"java/lang/String", "charAt", "(I)C"⟩
def ys_lchar : MethodName := ⟨"java/lang/StringLatin1", "charAt", "([BI)C"⟩
def ys_ck : MethodName := ⟨"java/lang/String", "checkIndex", "(II)V"⟩
def ys_pck : MethodName := ⟨"jdk/internal/util/Preconditions", "checkIndex", "(IILjava/util/function/BiFunction;)I"⟩
theorem xs_c1 : Cond.code ys_coder prog_14_method_152_code 1 (some .byte) ∈ x_gd := x_gd_at 1453 (by decide +kernel) (by decide +kernel)
theorem xs_c2 : Cond.code ys_latin prog_14_method_154_code 1 (some .boolean) ∈ x_gd := x_gd_at 1463 (by decide +kernel) (by decide +kernel)
theorem xs_c3 : Cond.code ys_len prog_14_method_54_code 1 (some .int) ∈ x_gd := x_gd_at 1449 (by decide +kernel) (by decide +kernel)
theorem xs_c4 : Cond.code ys_char prog_14_method_56_code 2 (some .char) ∈ x_gd := x_gd_at 1459 (by decide +kernel) (by decide +kernel)
theorem xs_c5 : Cond.code ys_lchar prog_15_method_2_code 2 (some .char) ∈ x_gd := x_gd_at 1466 (by decide +kernel) (by decide +kernel)
theorem xs_c6 : Cond.code ys_ck prog_14_method_155_code 2 none ∈ x_gd := x_gd_at 1469 (by decide +kernel) (by decide +kernel)
theorem xs_c7 : Cond.code ys_pck prog_18_method_11_code 3 (some .int) ∈ x_gd := x_gd_at 1474 (by decide +kernel) (by decide +kernel)
theorem xs_i1 : Cond.initialized "java/lang/String" ∈ x_gd := x_gd_at 106 (by decide +kernel) (by decide +kernel)
theorem xs_i2 : Cond.initialized "java/lang/StringLatin1" ∈ x_gd := x_gd_at 107 (by decide +kernel) (by decide +kernel)
theorem xs_i3 : Cond.initialized "jdk/internal/util/Preconditions" ∈ x_gd := x_gd_at 108 (by decide +kernel) (by decide +kernel)
theorem xs_l1 : Cond.methodLink "java/lang/String" 335 ys_coder ∈ x_gd := x_gd_at 1450 (by decide +kernel) (by decide +kernel)
theorem xs_l2 : Cond.methodLink "java/lang/String" 492 ys_latin ∈ x_gd := x_gd_at 1460 (by decide +kernel) (by decide +kernel)
theorem xs_l5 : Cond.methodLink "java/lang/String" 495 ys_lchar ∈ x_gd := x_gd_at 1464 (by decide +kernel) (by decide +kernel)
theorem xs_l6 : Cond.methodLink "java/lang/StringLatin1" 9 ys_ck ∈ x_gd := x_gd_at 1467 (by decide +kernel) (by decide +kernel)
theorem xs_l7 : Cond.methodLink "java/lang/String" 1059 ys_pck ∈ x_gd := x_gd_at 1472 (by decide +kernel) (by decide +kernel)
theorem xs_k1 : Cond.instanceMethod ys_coder ∈ x_gd := x_gd_at 1451 (by decide +kernel) (by decide +kernel)
theorem xs_k2 : Cond.instanceMethod ys_latin ∈ x_gd := x_gd_at 1461 (by decide +kernel) (by decide +kernel)
theorem xs_k3 : Cond.instanceMethod ys_len ∈ x_gd := x_gd_at 1447 (by decide +kernel) (by decide +kernel)
theorem xs_k4 : Cond.instanceMethod ys_char ∈ x_gd := x_gd_at 1457 (by decide +kernel) (by decide +kernel)
theorem xs_k5 : Cond.static ys_lchar ∈ x_gd := x_gd_at 1465 (by decide +kernel) (by decide +kernel)
theorem xs_k6 : Cond.static ys_ck ∈ x_gd := x_gd_at 1468 (by decide +kernel) (by decide +kernel)
theorem xs_k7 : Cond.static ys_pck ∈ x_gd := x_gd_at 1473 (by decide +kernel) (by decide +kernel)
theorem xs_s1 : Cond.selects "java/lang/String" ys_coder ys_coder ∈ x_gd := x_gd_at 1452 (by decide +kernel) (by decide +kernel)
theorem xs_s2 : Cond.selects "java/lang/String" ys_latin ys_latin ∈ x_gd := x_gd_at 1462 (by decide +kernel) (by decide +kernel)
theorem xs_s3 : Cond.selects "java/lang/String" ys_len ys_len ∈ x_gd := x_gd_at 1448 (by decide +kernel) (by decide +kernel)
theorem xs_s4 : Cond.selects "java/lang/String" ys_char ys_char ∈ x_gd := x_gd_at 1458 (by decide +kernel) (by decide +kernel)
theorem xs_m3 : Cond.methodLink "BarkMoneyModel" 144 ys_len ∈ x_gd := x_gd_at 1446 (by decide +kernel) (by decide +kernel)
theorem xs_m4 : Cond.methodLink "BarkMoneyModel" 150 ys_char ∈ x_gd := x_gd_at 1456 (by decide +kernel) (by decide +kernel)
theorem xs_f1 : Cond.fieldLink "java/lang/String" 38 "java/lang/String" "COMPACT_STRINGS" "Z" ∈ x_gd := x_gd_at 1454 (by decide +kernel) (by decide +kernel)
theorem xs_f2 : Cond.fieldLink "java/lang/String" 9 "java/lang/String" "value" "[B" ∈ x_gd := x_gd_at 2018 (by decide +kernel) (by decide +kernel)
theorem xs_f3 : Cond.fieldLink "java/lang/String" 15 "java/lang/String" "coder" "B" ∈ x_gd := x_gd_at 2019 (by decide +kernel) (by decide +kernel)
theorem xs_f4 : Cond.fieldLink "java/lang/String" 1053 "jdk/internal/util/Preconditions" "SIOOBE_FORMATTER" "Ljava/util/function/BiFunction;" ∈ x_gd := x_gd_at 1470 (by decide +kernel) (by decide +kernel)
theorem xs_len_coder (l : Launch) (q v : Nat) : Met l ys_coder (.code ys_coder prog_14_method_152_code 1 (some .byte) :: x_gd) (xs_rm 0 0) (x_Pf [.ref q] q v) (x_Qk (some (.int 0))) 0 0 (fun _ => False) := by
  refine Met.ofW (cc := prog_14_method_152_code) (maxL := 1) (ret := some .byte) (by decide) rfl ?_
  intro p e s m args below meth c s₁ B hml hv
  obtain ⟨rfl, hZ, hO, hC, hV, hT, hF⟩ := hv
  have hx := B.exec
  have hb := B.bytes
  have hr := B.returns
  have hts := fun w hw => atoms_spec (ws := .code ys_coder prog_14_method_152_code 1 (some .byte) :: x_gd) B.pre w (List.mem_cons_of_mem _ hw)
  have hown : s.vm.findClass "java/lang/String" = some m.cls := findClass_of_methodNamed B.named
  have hlocks := B.notSynchronized
  have hS : va_S xs_F s.heap s.heap [] := va_S.rf
  have hl := lv_entry ([.ref q]) (n := 1) (Nat.le_of_ble_eq_true rfl)
  rw [lg_entry_eq]
  generalize (lg_sl ([.ref q]) ++ List.replicate (1 - (lg_sl ([.ref q])).length) Slot.unset).toArray = ls at hl ⊢
  have hl : lv_has ls 1 [(0, .ref q)] := hl
  refine va_gets hx hb hZ hS hown (hts _ xs_f1) (fun _ h => h) (by decide +kernel) ?_
  refine lv_if_eq (tgt := 13) hx hb (off := 10) (by decide +kernel) (by decide) (fun h => absurd h (by decide)) (fun _ => ?_)
  refine lv_aload_n hx hb (k := 0) (by decide +kernel) rfl (lv_at hl 0 rfl) ?_
  refine vk_getf hx hb hC hS hown (hts _ xs_f3) (fun _ h => h) (by decide +kernel) ?_
  refine lv_goto (tgt := 14) hx hb (off := 4) (by decide +kernel) (by decide) ?_
  exact W.zret hx hb hr rfl (fun t ht hW => ⟨rfl, ht⟩) (fun _ h => absurd h List.not_mem_nil) (by decide +kernel)
