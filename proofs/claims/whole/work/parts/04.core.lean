/-! THE ABSTRACT HEAP. A heap is four tables and a list: ints, longs, references by (cell, place); the cells that are there; the next one's number.
A reference in it is a cell's number (below 1000) or a constant's (from 1000 on); 'ad' says which address each has. -/
abbrev xH : Type := (Nat → Nat → Int32) × (Nat → Nat → Int64) × (Nat → Nat → Option Nat) × List Nat × Nat
abbrev x_i (h : xH) : Nat → Nat → Int32 := h.1
abbrev x_l (h : xH) : Nat → Nat → Int64 := h.2.1
abbrev x_r (h : xH) : Nat → Nat → Option Nat := h.2.2.1
abbrev x_d (h : xH) : List Nat := h.2.2.2.1
abbrev x_n (h : xH) : Nat := h.2.2.2.2
theorem x_us {α : Type} {f : Nat → α} {k : Nat} {v : α} : va_up f k v k = v := va_up_self f k v
theorem x_un {α : Type} {f : Nat → α} {k j : Nat} {v : α} (h : j ≠ k) : va_up f k v j = f j := va_up_ne f v h
def x_up {α : Type} (f : Nat → Nat → α) (k j : Nat) (v : α) : Nat → Nat → α := va_up f k (va_up (f k) j v)
def x_cv (ad : Nat → Nat) (v : Value) : Value := match v with
  | .ref k => .ref (ad k)
  | w => w
theorem x_cv_cat (ad : Nat → Nat) (v : Value) : (x_cv ad v).category = v.category := by cases v <;> rfl
def x_val (ad : Nat → Nat) (h : xH) (k j t : Nat) : Value := match t with
  | 0 => .int (x_i h k j)
  | 1 => .long (x_l h k j)
  | _ => va_rf ((x_r h k j).map ad)
def x_arr (ad : Nat → Nat) (h : xH) (k c : Nat) : (Nat → Int32) ⊕ (Nat → Int64) ⊕ (Nat → UInt32) ⊕ (Nat → UInt64) ⊕ (Nat → Option Nat) := match decide (c = 101), decide (c < 110) with
  | true, _ => .inr (.inl (x_l h k))
  | false, true => .inl (x_i h k)
  | false, false => .inr (.inr (.inr (.inr (fun j => (x_r h k j).map ad))))
def x_fs (ad : Nat → Nat) (h : xH) (k ci : Nat) : List Value := (List.range (x_nF ci)).map (fun j => x_val ad h k j (x_tc (x_tys ci j)))
def x_cell (ad : Nat → Nat) (ac : Nat → ClassId) (h : xH) (k : Nat) : va_E := match decide ((x_SH k).1 < 100) with
  | true => .inr ((x_SH k).1, x_fs ad h k (x_SH k).1)
  | false => .inl (ac k, (x_SH k).2, x_arr ad h k (x_SH k).1)
def x_ws (ad : Nat → Nat) (ac : Nat → ClassId) (h : xH) : va_W := (x_d h).map (fun k => (ad k, x_cell ad ac h k))
theorem x_cell_o {ad : Nat → Nat} {ac : Nat → ClassId} {h : xH} {k ci : Nat} (hk : (x_SH k).1 = ci) (hc : ci < 11) : x_cell ad ac h k = .inr (ci, x_fs ad h k ci) := by
  subst hk
  have e : decide ((x_SH k).1 < 100) = true := decide_eq_true (by omega)
  simp only [x_cell, e]
theorem x_cell_i {ad : Nat → Nat} {ac : Nat → ClassId} {h : xH} {k c N : Nat} (hk : x_SH k = (c, N)) (hc : 100 ≤ c) (h1 : c ≠ 101) (h2 : c < 110) : x_cell ad ac h k = .inl (ac k, N, .inl (x_i h k)) := by
  have e : decide (c < 100) = false := decide_eq_false (by omega)
  have e1 : decide (c = 101) = false := decide_eq_false h1
  have e2 : decide (c < 110) = true := decide_eq_true h2
  simp only [x_cell, hk, e, x_arr, e1, e2]
theorem x_cell_l {ad : Nat → Nat} {ac : Nat → ClassId} {h : xH} {k N : Nat} (hk : x_SH k = (101, N)) : x_cell ad ac h k = .inl (ac k, N, .inr (.inl (x_l h k))) := by
  have e : decide (101 < 100) = false := rfl
  simp only [x_cell, hk, e, x_arr, decide_true]
theorem x_cell_q {ad : Nat → Nat} {ac : Nat → ClassId} {h : xH} {k c N : Nat} (hk : x_SH k = (c, N)) (hc : 110 ≤ c) : x_cell ad ac h k = .inl (ac k, N, .inr (.inr (.inr (.inr (fun j => (x_r h k j).map ad))))) := by
  have e : decide (c < 100) = false := decide_eq_false (by omega)
  have e1 : decide (c = 101) = false := decide_eq_false (by omega)
  have e2 : decide (c < 110) = false := decide_eq_false (by omega)
  simp only [x_cell, hk, e, x_arr, e1, e2]
theorem x_val_cg {ad ad' : Nat → Nat} {h h' : xH} {k j : Nat} (h1 : x_i h' k j = x_i h k j) (h2 : x_l h' k j = x_l h k j) (h3 : (x_r h' k j).map ad' = (x_r h k j).map ad) : ∀ t, x_val ad' h' k j t = x_val ad h k j t
  | 0 => by show Value.int _ = Value.int _; rw [h1]
  | 1 => by show Value.long _ = Value.long _; rw [h2]
  | _ + 2 => by show va_rf _ = va_rf _; rw [h3]
theorem x_cell_cg {ad ad' : Nat → Nat} {ac ac' : Nat → ClassId} {h h' : xH} {k : Nat} (h1 : x_i h' k = x_i h k) (h2 : x_l h' k = x_l h k) (h3 : ∀ j, (x_r h' k j).map ad' = (x_r h k j).map ad) (h4 : ac' k = ac k) : x_cell ad' ac' h' k = x_cell ad ac h k := by
  have e1 : x_fs ad' h' k (x_SH k).1 = x_fs ad h k (x_SH k).1 := List.map_congr_left fun j _ => x_val_cg (by rw [h1]) (by rw [h2]) (h3 j) _
  have e2 : x_arr ad' h' k (x_SH k).1 = x_arr ad h k (x_SH k).1 := by simp only [x_arr, h1, h2, h3]
  simp only [x_cell, e1, e2, h4]
theorem x_map_ad {ad ad' : Nat → Nat} {o : Option Nat} (h : ∀ q, o = some q → ad' q = ad q) : o.map ad' = o.map ad := by
  cases o with
  | none => rfl
  | some q => simp [h q rfl]
/-- a reference that is there -/
def x_in1 (dm : List Nat) (k : Nat) : Prop := k ∈ dm ∨ 1000 ≤ k
def x_ok1 (dm : List Nat) (v : Value) : Prop := ∀ k, v = .ref k → x_in1 dm k
def x_okS (dm : List Nat) (st : List Value) : Prop := ∀ v ∈ st, x_ok1 dm v
def x_okL (dm : List Nat) (lv : List (Option Value)) : Prop := ∀ v, some v ∈ lv → x_ok1 dm v
theorem x_ok1_i (dm : List Nat) (x : Int32) : x_ok1 dm (.int x) := fun _ h => by cases h
theorem x_ok1_l (dm : List Nat) (x : Int64) : x_ok1 dm (.long x) := fun _ h => by cases h
theorem x_ok1_r {dm : List Nat} {k : Nat} (h : x_in1 dm k) : x_ok1 dm (.ref k) := fun _ e => by cases e; exact h
theorem x_okS_c {dm : List Nat} {v : Value} {st : List Value} (h1 : x_ok1 dm v) (h2 : x_okS dm st) : x_okS dm (v :: st) := fun w hw => (List.mem_cons.mp hw).elim (fun e => e ▸ h1) (h2 w)
theorem x_okS_t {dm : List Nat} {v : Value} {st : List Value} (h : x_okS dm (v :: st)) : x_okS dm st := fun w hw => h w (List.mem_cons_of_mem _ hw)
theorem x_okS_h {dm : List Nat} {v : Value} {st : List Value} (h : x_okS dm (v :: st)) : x_ok1 dm v := h v List.mem_cons_self
theorem x_ok1_m {dm dm' : List Nat} (hm : ∀ k ∈ dm, k ∈ dm') {v : Value} (h : x_ok1 dm v) : x_ok1 dm' v := fun k e => (h k e).imp (hm k) id
theorem x_okS_m {dm dm' : List Nat} (hm : ∀ k ∈ dm, k ∈ dm') {st : List Value} (h : x_okS dm st) : x_okS dm' st := fun v hv => x_ok1_m hm (h v hv)
theorem x_okL_m {dm dm' : List Nat} (hm : ∀ k ∈ dm, k ∈ dm') {lv : List (Option Value)} (h : x_okL dm lv) : x_okL dm' lv := fun v hv => x_ok1_m hm (h v hv)
theorem x_cv_ag {dm : List Nat} {ad ad' : Nat → Nat} (ha : ∀ k, x_in1 dm k → ad' k = ad k) {v : Value} (h : x_ok1 dm v) : x_cv ad' v = x_cv ad v := by
  cases v with
  | ref k => show Value.ref _ = Value.ref _; rw [ha k (h k rfl)]
  | _ => rfl
theorem x_map_ag {dm : List Nat} {ad ad' : Nat → Nat} (ha : ∀ k, x_in1 dm k → ad' k = ad k) {st : List Value} (h : x_okS dm st) : st.map (x_cv ad') = st.map (x_cv ad) := List.map_congr_left fun v hv => x_cv_ag ha (h v hv)
/-- the machine's heap holds the abstract one -/
def x_Rep (D : va_G) (A : Nat → Prop) (ad : Nat → Nat) (ac : Nat → ClassId) (h : xH) (U : State) (H : Heap) : Prop :=
  va_P D x_CL (x_ws ad ac h) H ∧ va_D A (x_ws ad ac h) ∧ va_K D x_CL [] U ∧ (∀ k ∈ x_d h, 100 ≤ (x_SH k).1 → ArrOfT U (ac k) (x_ty (x_SH k).1) ∧ va_RA U (ac k) (x_ty (x_SH k).1)) ∧ (∀ k ∈ x_d h, ∀ j q, x_r h k j = some q → x_in1 (x_d h) q)
theorem x_ws_at {ad : Nat → Nat} {ac : Nat → ClassId} {h : xH} {k : Nat} (hk : k ∈ x_d h) : ∃ q0 : Nat, (x_d h)[q0]? = some k ∧ (x_ws ad ac h)[q0]? = some (ad k, x_cell ad ac h k) := by
  obtain ⟨q0, hq⟩ := List.getElem?_of_mem hk
  exact ⟨q0, hq, by unfold x_ws; rw [List.getElem?_map, hq]; rfl⟩
theorem x_ws_set {A : Nat → Prop} {ad : Nat → Nat} {ac : Nat → ClassId} {h h' : xH} (hD : va_D A (x_ws ad ac h)) {q0 k : Nat} (hq : (x_d h)[q0]? = some k) (hd : x_d h' = x_d h) {v : va_E} (hv : x_cell ad ac h' k = v) (ho : ∀ j, j ≠ k → x_cell ad ac h' j = x_cell ad ac h j) : (x_ws ad ac h).set q0 (ad k, v) = x_ws ad ac h' := by
  unfold x_ws at hD ⊢
  rw [hd]
  apply List.ext_getElem?
  intro i
  rw [List.getElem?_set]
  have hlt : q0 < (x_d h).length := (List.getElem?_eq_some_iff.mp hq).1
  by_cases hi : q0 = i
  · subst hi
    rw [if_pos rfl, if_pos (by simpa using hlt), List.getElem?_map, hq]
    simp [hv]
  · rw [if_neg hi, List.getElem?_map, List.getElem?_map]
    cases hj : (x_d h)[i]? with
    | none => rfl
    | some j =>
      have hjk : j ≠ k := by
        intro e
        subst e
        exact hi (hD.1 q0 i (ad j, x_cell ad ac h j) (ad j, x_cell ad ac h j) (by rw [List.getElem?_map, hq]; rfl) (by rw [List.getElem?_map, hj]; rfl) rfl)
      simp [ho j hjk]
theorem x_K1 {D : va_G} {A : Nat → Prop} {ad : Nat → Nat} {ac : Nat → ClassId} {h : xH} {U : State} {H : Heap} (hR : x_Rep D A ad ac h U H) {k c N : Nat} (hk : k ∈ x_d h) (hs : x_SH k = (c, N)) (hc : 100 ≤ c) : va_K D x_CL [(ac k, x_ty c)] U := by
  obtain ⟨-, -, hK, hT, -⟩ := hR
  have h1 := hT k hk (by rw [hs]; exact hc)
  rw [hs] at h1
  refine ⟨hK.1, fun j q hq => ?_⟩
  have hj : j = 0 := by
    have := (List.getElem?_eq_some_iff.mp hq).1
    simp at this
    exact this
  subst hj
  cases hq
  exact h1
theorem x_K2 {D : va_G} {A : Nat → Prop} {ad : Nat → Nat} {ac : Nat → ClassId} {h : xH} {U : State} {H : Heap} (hR : x_Rep D A ad ac h U H) {k c N k2 c2 N2 : Nat} (hk : k ∈ x_d h) (hs : x_SH k = (c, N)) (hc : 100 ≤ c) (hk2 : k2 ∈ x_d h) (hs2 : x_SH k2 = (c2, N2)) (hc2 : 100 ≤ c2) : va_K D x_CL [(ac k, x_ty c), (ac k2, x_ty c2)] U := (x_K1 hR hk hs hc).app (x_K1 hR hk2 hs2 hc2)
/-- a cell's ints have changed -/
theorem x_Rep_i {D : va_G} {A : Nat → Prop} {ad : Nat → Nat} {ac : Nat → ClassId} {h : xH} {U : State} {H H1 : Heap} (hR : x_Rep D A ad ac h U H) {q0 k : Nat} (hq : (x_d h)[q0]? = some k) {f : Nat → Int32} {e : va_E} (he : x_cell ad ac (va_up (x_i h) k f, x_l h, x_r h, x_d h, x_n h) k = e) (hP : va_P D x_CL ((x_ws ad ac h).set q0 (ad k, e)) H1) (hD : va_D A ((x_ws ad ac h).set q0 (ad k, e))) : x_Rep D A ad ac (va_up (x_i h) k f, x_l h, x_r h, x_d h, x_n h) U H1 := by
  have hw := x_ws_set hR.2.1 (h' := (va_up (x_i h) k f, x_l h, x_r h, x_d h, x_n h)) hq rfl he (fun j hj => x_cell_cg (x_un hj) rfl (fun _ => rfl) rfl)
  rw [hw] at hP hD
  exact ⟨hP, hD, hR.2.2.1, hR.2.2.2.1, hR.2.2.2.2⟩
theorem x_Rep_l {D : va_G} {A : Nat → Prop} {ad : Nat → Nat} {ac : Nat → ClassId} {h : xH} {U : State} {H H1 : Heap} (hR : x_Rep D A ad ac h U H) {q0 k : Nat} (hq : (x_d h)[q0]? = some k) {f : Nat → Int64} {e : va_E} (he : x_cell ad ac (x_i h, va_up (x_l h) k f, x_r h, x_d h, x_n h) k = e) (hP : va_P D x_CL ((x_ws ad ac h).set q0 (ad k, e)) H1) (hD : va_D A ((x_ws ad ac h).set q0 (ad k, e))) : x_Rep D A ad ac (x_i h, va_up (x_l h) k f, x_r h, x_d h, x_n h) U H1 := by
  have hw := x_ws_set hR.2.1 (h' := (x_i h, va_up (x_l h) k f, x_r h, x_d h, x_n h)) hq rfl he (fun j hj => x_cell_cg rfl (x_un hj) (fun _ => rfl) rfl)
  rw [hw] at hP hD
  exact ⟨hP, hD, hR.2.2.1, hR.2.2.2.1, hR.2.2.2.2⟩
theorem x_Rep_r {D : va_G} {A : Nat → Prop} {ad : Nat → Nat} {ac : Nat → ClassId} {h : xH} {U : State} {H H1 : Heap} (hR : x_Rep D A ad ac h U H) {q0 k jj v : Nat} (hq : (x_d h)[q0]? = some k) (hv : x_in1 (x_d h) v) {e : va_E} (he : x_cell ad ac (x_i h, x_l h, x_up (x_r h) k jj (some v), x_d h, x_n h) k = e) (hP : va_P D x_CL ((x_ws ad ac h).set q0 (ad k, e)) H1) (hD : va_D A ((x_ws ad ac h).set q0 (ad k, e))) : x_Rep D A ad ac (x_i h, x_l h, x_up (x_r h) k jj (some v), x_d h, x_n h) U H1 := by
  have hw := x_ws_set hR.2.1 (h' := (x_i h, x_l h, x_up (x_r h) k jj (some v), x_d h, x_n h)) hq rfl he (fun j hj => x_cell_cg rfl rfl (fun i => by show (x_up (x_r h) k jj (some v) j i).map ad = _; unfold x_up; rw [x_un hj]) rfl)
  rw [hw] at hP hD
  refine ⟨hP, hD, hR.2.2.1, hR.2.2.2.1, fun k2 hk2 j2 q2 h2 => ?_⟩
  have h2 : x_up (x_r h) k jj (some v) k2 j2 = some q2 := h2
  unfold x_up at h2
  by_cases h3 : k2 = k
  · subst h3
    rw [x_us] at h2
    by_cases h4 : j2 = jj
    · subst h4
      rw [x_us] at h2
      cases h2
      exact hv
    · rw [x_un h4] at h2
      exact hR.2.2.2.2 k2 hk2 j2 q2 h2
  · rw [x_un h3] at h2
    exact hR.2.2.2.2 k2 hk2 j2 q2 h2
/-- a new cell -/
theorem x_Rep_n {D : va_G} {A : Nat → Prop} {ad : Nat → Nat} {ac : Nat → ClassId} {h : xH} {U : State} {H H1 : Heap} (hR : x_Rep D A ad ac h U H) (hn : x_n h ∉ x_d h) (hlt : x_n h < 1000) {q : Nat} {cA : ClassId} {e : va_E}
    (hT : 100 ≤ (x_SH (x_n h)).1 → ArrOfT U cA (x_ty (x_SH (x_n h)).1) ∧ va_RA U cA (x_ty (x_SH (x_n h)).1))
    (he : x_cell (va_up ad (x_n h) q) (va_up ac (x_n h) cA) (va_up (x_i h) (x_n h) (fun _ => 0), va_up (x_l h) (x_n h) (fun _ => 0), va_up (x_r h) (x_n h) (fun _ => none), x_d h ++ [x_n h], x_n h + 1) (x_n h) = e)
    (hP : va_P D x_CL (x_ws ad ac h ++ [(q, e)]) H1) (hD : va_D A (x_ws ad ac h ++ [(q, e)])) :
    x_Rep D A (va_up ad (x_n h) q) (va_up ac (x_n h) cA) (va_up (x_i h) (x_n h) (fun _ => 0), va_up (x_l h) (x_n h) (fun _ => 0), va_up (x_r h) (x_n h) (fun _ => none), x_d h ++ [x_n h], x_n h + 1) U H1 ∧ (∀ k, x_in1 (x_d h) k → va_up ad (x_n h) q k = ad k) := by
  have hag : ∀ k, x_in1 (x_d h) k → va_up ad (x_n h) q k = ad k := fun k hk => x_un (fun e => by
    subst e
    rcases hk with h1 | h1
    · exact hn h1
    · omega)
  have hw : x_ws ad ac h ++ [(q, e)] = x_ws (va_up ad (x_n h) q) (va_up ac (x_n h) cA) (va_up (x_i h) (x_n h) (fun _ => 0), va_up (x_l h) (x_n h) (fun _ => 0), va_up (x_r h) (x_n h) (fun _ => none), x_d h ++ [x_n h], x_n h + 1) := by
    show (x_d h).map (fun k => (ad k, x_cell ad ac h k)) ++ [(q, e)] = (x_d h ++ [x_n h]).map _
    rw [List.map_append]
    congr 1
    · refine List.map_congr_left fun k hk => ?_
      have hne : k ≠ x_n h := fun e => hn (e ▸ hk)
      rw [hag k (Or.inl hk), x_cell_cg (ad' := va_up ad (x_n h) q) (ac' := va_up ac (x_n h) cA) (h := h) (ad := ad) (ac := ac) (x_un hne) (x_un hne) (fun j => by
        show (va_up (x_r h) (x_n h) (fun _ => none) k j).map _ = _
        rw [x_un hne]
        exact x_map_ad (fun q2 h2 => hag q2 (hR.2.2.2.2 k hk j q2 h2))) (x_un hne)]
    · show [(q, e)] = [(va_up ad (x_n h) q (x_n h), _)]
      rw [he, x_us]
  rw [hw] at hP hD
  refine ⟨⟨hP, hD, hR.2.2.1, fun k hk h1 => ?_, fun k hk j q2 h2 => ?_⟩, hag⟩
  · rcases List.mem_append.mp hk with hk | hk
    · have hne : k ≠ x_n h := fun e => hn (e ▸ hk)
      rw [x_un hne]
      exact hR.2.2.2.1 k hk h1
    · have e := List.mem_singleton.mp hk
      subst e
      rw [x_us]
      exact hT h1
  · have h2 : va_up (x_r h) (x_n h) (fun _ => none) k j = some q2 := h2
    rcases List.mem_append.mp hk with hk | hk
    · have hne : k ≠ x_n h := fun e => hn (e ▸ hk)
      rw [x_un hne] at h2
      exact (hR.2.2.2.2 k hk j q2 h2).imp (fun h => List.mem_append_left _ h) id
    · have e := List.mem_singleton.mp hk
      subst e
      rw [x_us] at h2
      cases h2
