/-! the law's entry: the world before its first row -/
theorem z_at {w : Cond} {args : Array Value} {s : State} (h : (Jvm.Cond.and given_1 narrow_1).before args s = true) {k : Nat} (hk : z_fl[k]? = some w) : w.before args s = true := flat_of_before _ h w (List.mem_of_getElem? hk)
theorem z_known {s : State} {args : Array Value} (hts : ∀ w ∈ lw_tbl, w.before args s = true) : ∃ D : va_G, va_K D x_CL [] s := by
  have hg : ∀ w ∈ x_gd, w.before args s = true := fun w hw => hts w (List.mem_filter.mp hw).1
  have h0 : ∀ ci : Nat, ci < 11 → ∃ q : ClassId × (Nat → Nat), u_Kn s (x_R ci) (x_TT ci) (x_nF ci) q.1 q.2 := fun ci hc => by
    obtain ⟨cC, iS, hK⟩ := u_known (C := x_R ci) (T := x_TT ci) (N := x_nF ci) hg (x_uws ci hc) (hg _ (x_inst hc))
    exact ⟨(cC, iS), hK⟩
  obtain ⟨q0, -⟩ := h0 0 (by decide)
  have h : ∀ ci : Nat, ∃ q : ClassId × (Nat → Nat), ci < 11 → u_Kn s (x_R ci) (x_TT ci) (x_nF ci) q.1 q.2 := fun ci => by
    by_cases hc : ci < 11
    · obtain ⟨q, hq⟩ := h0 ci hc
      exact ⟨q, fun _ => hq⟩
    · exact ⟨q0, fun h => absurd h hc⟩
  obtain ⟨D, hD⟩ := Classical.axiomOfChoice h
  refine ⟨(fun k => (D k).1, fun k => (D k).2), fun k q hq => ?_, fun k q h => by simp at h⟩
  have hk : k < 11 := (List.getElem?_eq_some_iff.mp hq).1
  rw [x_CL_at k hk] at hq
  cases hq
  exact hD k hk
theorem z_Nw {s : State} {args : Array Value} (hts : ∀ w ∈ lw_tbl, w.before args s = true) : x_Nw s := by
  refine ⟨fun w hw hn => ?_, va_AO.of (hts _ z_tb_ao8), va_AO.of (hts _ z_tb_ao0), va_AO.of (hts _ z_tb_ao4)⟩
  have h := hts w hw
  cases w with
  | fieldLinkNest a i b n d e => exact va_Nw.of rfl h
  | methodLinkNest a i x e => exact va_Nw.of rfl h
  | _ => simp [x_nw] at hn
theorem z_cons {s : State} {b L : Nat} {xs : Nat → Int32} (hts : ∀ w ∈ lw_tbl, w.before #[Value.ref b] s = true) (hgv : (Jvm.Cond.and given_1 narrow_1).before #[Value.ref b] s = true) (hX : va_X b L xs s s.heap) (hbl : b < s.heap.size) : ∃ ad : Nat → Nat, ad 1005 = b ∧ x_Z (x_SL L xs) (fun q => s.heap.size ≤ q) ad s s.heap := by
  have hA : ∀ a : Nat, a < s.heap.size → ¬ (fun q : Nat => s.heap.size ≤ q) a := fun a h => Nat.not_le.mpr h
  obtain ⟨t0, e0, h0⟩ := va_Tof (N := 3) (f := fun j => .int (x_si0.getD j 0)) (A := fun q : Nat => s.heap.size ≤ q) (by decide) (z_at hgv z_fl_aL) (va_eqt (z_at hgv z_fl_lL)) (fun j hj => va_eqt (z_at hgv (z_fl_si0 j hj))) hA
  obtain ⟨t1, e1, h1⟩ := va_Tof (N := 3) (f := fun j => .int (x_si1.getD j 0)) (A := fun q : Nat => s.heap.size ≤ q) (by decide) (z_at hgv z_fl_aM) (va_eqt (z_at hgv z_fl_lM)) (fun j hj => va_eqt (z_at hgv (z_fl_si1 j hj))) hA
  obtain ⟨t2, e2, h2⟩ := va_Tof (N := 25) (f := fun j => .long (x_wds.getD j 0)) (A := fun q : Nat => s.heap.size ≤ q) (by decide) (z_at hgv z_fl_aW) (va_eqt (z_at hgv z_fl_lW)) (fun j hj => va_eqtl (z_at hgv (z_fl_wds j hj))) hA
  obtain ⟨adK, adV, hS, eS⟩ := vk_Sof (args := #[Value.ref b]) (s := s) (N := 1) (tm := fun _ => .string "BarkMoneyModel" 177) (len := [129]) (byt := [x_key]) (A := fun q : Nat => s.heap.size ≤ q) (fun i hi => by
    obtain rfl : i = 0 := by omega
    decide) (fun i _ => z_at hgv z_fl_ex) (fun i _ => z_at hgv z_fl_co) (fun i _ => z_at hgv z_fl_aV) (fun i hi => by
    obtain rfl : i = 0 := by omega
    exact z_at hgv z_fl_lV) (fun i hi j hj => by
    obtain rfl : i = 0 := by omega
    exact z_at hgv (z_fl_key j hj)) (fun i j hi hj hne => absurd (show i = j by omega) hne) hA
  obtain ⟨ad, a0, a1, a2, a3, a4, a5⟩ : ∃ ad : Nat → Nat, ad 1000 = t0 ∧ ad 1001 = t1 ∧ ad 1002 = t2 ∧ ad 1003 = adK 0 ∧ ad 1004 = adV 0 ∧ ad 1005 = b := ⟨fun k => if k = 1000 then t0 else if k = 1001 then t1 else if k = 1002 then t2 else if k = 1003 then adK 0 else if k = 1004 then adV 0 else b, by simp, by simp, by simp, by simp, by simp, by simp⟩
  refine ⟨ad, a5, fun k N f h => ?_, ?_, ?_, ?_, ?_, ?_, ?_, va_Zof (hts _ z_tb_lC) (hts _ z_tb_iC) (va_eqt (z_at hgv z_fl_cs)) hA, va_Zqof (hts _ z_tb_lS) (hts _ z_tb_iS) (z_at hgv z_fl_sf) hA⟩
  · unfold x_SL at h
    split at h
    · cases h
      rw [a0]
      exact ⟨by decide, h0⟩
    · cases h
      rw [a1]
      exact ⟨by decide, h1⟩
    · cases h
      rw [a5]
      obtain ⟨scr, q1, q2, q3, q4, q5⟩ := hX
      exact ⟨by decide, scr, q1, q2, q3, Nat.le_of_eq q4.symm, by rw [q4], q5, hA b hbl⟩
    · cases h
  · rw [a0]; exact va_Zof (hts _ z_tb_lL) (hts _ z_tb_iL) e0 hA
  · rw [a1]; exact va_Zof (hts _ z_tb_lM) (hts _ z_tb_iM) e1 hA
  · rw [a2]; exact va_Zof (hts _ z_tb_lW) (hts _ z_tb_iW) e2 hA
  · rw [a2]; exact h2
  · rw [a3]; exact vk_R.of (hts _ z_tb_sr) (eS 0 (by decide))
  · rw [a3, a4]
    exact ⟨fun i hi => by
      obtain rfl : i = 0 := by omega
      exact hS.1 0 hi, fun i j hi hj _ => by omega⟩
/-- from the entry, for every script of at most 3072 ints, the law comes to its end with true -/
theorem whole_start {p : Program} {e : Env} {s : State} {m : MethodId} {below : List Frame} {meth : Method} {c : Code} (l : Launch) {b L : Nat} {xs : Nat → Int32} (hL : L ≤ 3072) (C0 : lw_At p s m meth c b L xs) (hnm : meth.name = "law") : W p l e room_1 s m #[Value.ref b] below meth c s.heap [] 0 0 (lw_Z below #[Value.ref b] s) (entryFrame m ([Value.ref b] : List Value).toArray 4) := by
  obtain ⟨hx, hb, hr, hml, hown, hts, hX, hbl, hlocks, hgv⟩ := C0
  obtain ⟨ad, e5, hZ⟩ := z_cons hts hgv hX hbl
  obtain ⟨D, hK⟩ := z_known hts
  subst e5
  rw [lg_entry_eq]
  have hC : x_C (x_SL L xs) 328 p s m #[Value.ref (ad 1005)] meth c (fun q => s.heap.size ≤ q) ad := ⟨hx, hb.trans x_bcL.symm, hml, hown, fun w hw => hts w (List.mem_filter.mp hw).1, z_Nw hts, hr.trans x_rtL.symm, hlocks, hnm, fun q hq => hq, hZ⟩
  have hR : x_Rep D (fun q => s.heap.size ≤ q) ad (fun _ => m.cls) ((fun _ _ => 0, fun _ _ => 0, x_HR 12 32, [], 0) : xH) s s.heap := ⟨show va_P D x_CL [] s.heap from fun k q h => by simp at h, show va_D (fun q => s.heap.size ≤ q) [] from ⟨fun i j p q h => by simp at h, fun k q h => by simp at h⟩, hK, fun k hk => absurd hk List.not_mem_nil, fun k hk => absurd hk List.not_mem_nil⟩
  have hok : x_okS [] [.ref 1005] := x_okS_c (x_ok1_r (Or.inr (by decide))) (fun v hv => absurd hv List.not_mem_nil)
  have hw := z_law (L := L) (xs := xs) hL l p e s m #[Value.ref (ad 1005)] below meth c D (fun q => s.heap.size ≤ q) [] ad hC ad (fun _ => m.cls) s.heap [] _ hR (fun _ _ => rfl) (fun _ hk => hk) (Nat.zero_le _) (Nat.zero_le _) va_S.rf (x_ent_L ad [.ref 1005] (n := 4) (by decide)) (fun v hv => absurd hv List.not_mem_nil) (x_ent_ok 4 hok)
  intro T hT X
  obtain ⟨t, a, q⟩ := hw T hT X
  exact ⟨t, a, q ⟨rfl, fun _ h => h⟩⟩
