/-! LOCALS by place, CONSTANTS, CONTEXTS, THE JUDGEMENT x_G, CONTRACTS x_Ct, and the weakest precondition x_wp by evaluation -/
def x_L (nL : Nat) (ad : Nat → Nat) (lv : List (Option Value)) (ls : Array Slot) : Prop := lv.length = nL ∧ ls.size = nL ∧ lv_wf ls ∧ ∀ (i : Nat) (v : Value), lv[i]? = some (some v) → ls[i]? = some (.val (x_cv ad v))
def x_as (ad : Nat → Nat) (lv : List (Option Value)) : List (Nat × Value) := lv.zipIdx.filterMap (fun q => q.1.map (fun v => (q.2, x_cv ad v)))
theorem x_as_mem {ad : Nat → Nat} {lv : List (Option Value)} {q : Nat × Value} : q ∈ x_as ad lv ↔ ∃ v, lv[q.1]? = some (some v) ∧ q.2 = x_cv ad v := by
  unfold x_as
  rw [List.mem_filterMap]
  constructor
  · rintro ⟨⟨o, i⟩, h1, h2⟩
    have h3 := List.mem_zipIdx_iff_getElem?.mp h1
    cases o with
    | none => cases h2
    | some v => cases h2; exact ⟨v, h3, rfl⟩
  · rintro ⟨v, h1, h2⟩
    refine ⟨(some v, q.1), List.mem_zipIdx_iff_getElem?.mpr h1, ?_⟩
    show some (q.1, x_cv ad v) = some q
    rw [← h2]
theorem x_L_has {nL : Nat} {ad : Nat → Nat} {lv : List (Option Value)} {ls : Array Slot} (h : x_L nL ad lv ls) : lv_has ls nL (x_as ad lv) := by
  refine ⟨h.2.1, h.2.2.1, fun q hq => ?_⟩
  obtain ⟨v, h1, h2⟩ := x_as_mem.mp hq
  rw [h2]
  exact h.2.2.2 q.1 v h1
def x_clr (lv : List (Option Value)) (i : Nat) : List (Option Value) := match i with
  | 0 => lv
  | j + 1 => match lv[j]? with
    | some (some (.long _)) => lv.set j none
    | some (some (.double _)) => lv.set j none
    | _ => lv
def x_st1 (lv : List (Option Value)) (i : Nat) (v : Value) : List (Option Value) := (x_clr lv i).set i (some v)
def x_st2 (lv : List (Option Value)) (i : Nat) (v : Value) : List (Option Value) := ((x_clr lv i).set i (some v)).set (i + 1) none
theorem x_clr_len (lv : List (Option Value)) (i : Nat) : (x_clr lv i).length = lv.length := by
  unfold x_clr
  split
  · rfl
  · split <;> simp
theorem x_clr_at {lv : List (Option Value)} {i j : Nat} {w : Value} (h : (x_clr lv i)[j]? = some (some w)) : lv[j]? = some (some w) ∧ ¬ (j + 1 = i ∧ w.category = 2) := by
  unfold x_clr at h
  split at h
  · exact ⟨h, fun e => by omega⟩
  · rename_i k
    by_cases hjk : j = k
    · subst hjk
      split at h
      · rw [List.getElem?_set_self'] at h
        rename_i e
        rw [e] at h
        simp at h
      · rw [List.getElem?_set_self'] at h
        rename_i e
        rw [e] at h
        simp at h
      · rename_i h1 h2
        refine ⟨h, fun e => ?_⟩
        cases w with
        | long x => exact h1 x h
        | double x => exact h2 x h
        | _ => simp [Value.category] at e
    · have hh : lv[j]? = some (some w) := by
        split at h
        · rwa [List.getElem?_set_ne (fun e => hjk e.symm)] at h
        · rwa [List.getElem?_set_ne (fun e => hjk e.symm)] at h
        · exact h
      exact ⟨hh, fun e => hjk (by omega)⟩
theorem x_L_st1 {nL : Nat} {ad : Nat → Nat} {lv : List (Option Value)} {ls ls' : Array Slot} {i : Nat} {v : Value} (h : x_L nL ad lv ls) (h' : lv_has ls' nL ((i, x_cv ad v) :: (x_as ad lv).filter (fun q => !(q.1 == i) && !(q.1 + 1 == i && q.2.category == 2)))) : x_L nL ad (x_st1 lv i v) ls' := by
  refine ⟨by simp [x_st1, x_clr_len, h.1], h'.1, h'.2.1, fun j w hj => ?_⟩
  unfold x_st1 at hj
  by_cases hji : i = j
  · subst hji
    rw [List.getElem?_set_self'] at hj
    have e : v = w := by
      cases hc : (x_clr lv i)[i]? with
      | none => rw [hc] at hj; simp at hj
      | some z => rw [hc] at hj; simpa using hj
    subst e
    exact h'.2.2 _ List.mem_cons_self
  · rw [List.getElem?_set_ne hji] at hj
    obtain ⟨h1, h2⟩ := x_clr_at hj
    refine h'.2.2 (j, x_cv ad w) (List.mem_cons_of_mem _ (List.mem_filter.mpr ⟨x_as_mem.mpr ⟨w, h1, rfl⟩, ?_⟩))
    simp only [x_cv_cat, Bool.and_eq_true, Bool.not_eq_true', beq_eq_false_iff_ne, Bool.and_eq_false_iff]
    refine ⟨fun e => hji e.symm, ?_⟩
    by_cases e : j + 1 = i
    · exact Or.inr (fun e2 => h2 ⟨e, e2⟩)
    · exact Or.inl e
theorem x_L_st2 {nL : Nat} {ad : Nat → Nat} {lv : List (Option Value)} {ls ls' : Array Slot} {i : Nat} {v : Value} (h : x_L nL ad lv ls) (h' : lv_has ls' nL ((i, x_cv ad v) :: (x_as ad lv).filter (fun q => !(q.1 == i) && (!(q.1 == i + 1) && !(q.1 + 1 == i && q.2.category == 2))))) : x_L nL ad (x_st2 lv i v) ls' := by
  refine ⟨by simp [x_st2, x_clr_len, h.1], h'.1, h'.2.1, fun j w hj => ?_⟩
  unfold x_st2 at hj
  by_cases hj2 : i + 1 = j
  · subst hj2
    rw [List.getElem?_set_self'] at hj
    cases hc : ((x_clr lv i).set i (some v))[i + 1]? with
    | none => rw [hc] at hj; simp at hj
    | some z => rw [hc] at hj; simp at hj
  rw [List.getElem?_set_ne hj2] at hj
  by_cases hji : i = j
  · subst hji
    rw [List.getElem?_set_self'] at hj
    have e : v = w := by
      cases hc : (x_clr lv i)[i]? with
      | none => rw [hc] at hj; simp at hj
      | some z => rw [hc] at hj; simpa using hj
    subst e
    exact h'.2.2 _ List.mem_cons_self
  · rw [List.getElem?_set_ne hji] at hj
    obtain ⟨h1, h2⟩ := x_clr_at hj
    refine h'.2.2 (j, x_cv ad w) (List.mem_cons_of_mem _ (List.mem_filter.mpr ⟨x_as_mem.mpr ⟨w, h1, rfl⟩, ?_⟩))
    simp only [x_cv_cat, Bool.and_eq_true, Bool.not_eq_true', beq_eq_false_iff_ne, Bool.and_eq_false_iff]
    refine ⟨fun e => hji e.symm, fun e => hj2 e.symm, ?_⟩
    by_cases e : j + 1 = i
    · exact Or.inr (fun e2 => h2 ⟨e, e2⟩)
    · exact Or.inl e
theorem x_mem_set {α : Type} {l : List α} {i : Nat} {a x : α} (h : x ∈ l.set i a) : x ∈ l ∨ x = a := by
  obtain ⟨j, hj⟩ := List.getElem?_of_mem h
  by_cases e : i = j
  · subst e
    rw [List.getElem?_set_self'] at hj
    cases hc : l[i]? with
    | none => rw [hc] at hj; simp at hj
    | some z => rw [hc] at hj; exact Or.inr (by simpa using hj.symm)
  · rw [List.getElem?_set_ne e] at hj
    exact Or.inl (List.mem_of_getElem? hj)
theorem x_okL_clr {dm : List Nat} {lv : List (Option Value)} (i : Nat) (h : x_okL dm lv) : x_okL dm (x_clr lv i) := by
  intro w hw
  obtain ⟨j, hj⟩ := List.getElem?_of_mem hw
  exact h w (List.mem_of_getElem? (x_clr_at hj).1)
theorem x_okL_st1 {dm : List Nat} {lv : List (Option Value)} (i : Nat) {v : Value} (h : x_okL dm lv) (hv : x_ok1 dm v) : x_okL dm (x_st1 lv i v) := by
  intro w hw
  rcases x_mem_set hw with h1 | h1
  · exact x_okL_clr i h w h1
  · cases h1; exact hv
theorem x_okL_st2 {dm : List Nat} {lv : List (Option Value)} (i : Nat) {v : Value} (h : x_okL dm lv) (hv : x_ok1 dm v) : x_okL dm (x_st2 lv i v) := by
  intro w hw
  rcases x_mem_set hw with h1 | h1
  · rcases x_mem_set h1 with h1 | h1
    · exact x_okL_clr i h w h1
    · cases h1; exact hv
  · cases h1
theorem x_L_ag {nL : Nat} {dm : List Nat} {ad ad' : Nat → Nat} {lv : List (Option Value)} {ls : Array Slot} (h : x_L nL ad lv ls) (ha : ∀ k, x_in1 dm k → ad' k = ad k) (hk : x_okL dm lv) : x_L nL ad' lv ls :=
  ⟨h.1, h.2.1, h.2.2.1, fun i v hv => by rw [x_cv_ag ha (hk v (List.mem_of_getElem? hv))]; exact h.2.2.2 i v hv⟩
/-- the locals at a method's entry -/
def x_sl (vs : List Value) : List (Option Value) := vs.flatMap fun v => if v.category = 2 then [some v, none] else [some v]
def x_ent (n : Nat) (vs : List Value) : List (Option Value) := x_sl vs ++ List.replicate (n - (x_sl vs).length) none
theorem x_sl_eq (ad : Nat → Nat) : ∀ vs : List Value, (lg_sl (vs.map (x_cv ad))).length = (x_sl vs).length ∧ ∀ (i : Nat) (v : Value), (x_sl vs)[i]? = some (some v) → (lg_sl (vs.map (x_cv ad)))[i]? = some (.val (x_cv ad v))
  | [] => ⟨rfl, fun i v h => by simp [x_sl] at h⟩
  | w :: vs => by
    obtain ⟨h1, h2⟩ := x_sl_eq ad vs
    have e1 : lg_sl ((w :: vs).map (x_cv ad)) = (if w.category = 2 then [.val (x_cv ad w), .second] else [.val (x_cv ad w)]) ++ lg_sl (vs.map (x_cv ad)) := by
      simp [lg_sl, x_cv_cat]
    have e2 : x_sl (w :: vs) = (if w.category = 2 then [some w, none] else [some w]) ++ x_sl vs := by simp [x_sl]
    rw [e1, e2]
    by_cases hc : w.category = 2
    · rw [if_pos hc, if_pos hc]
      refine ⟨by simp [h1], fun i v h => ?_⟩
      match i, h with
      | 0, h => simp at h ⊢; rw [h]
      | 1, h => simp at h
      | i + 2, h => exact h2 i v (by simpa using h)
    · rw [if_neg hc, if_neg hc]
      refine ⟨by simp [h1], fun i v h => ?_⟩
      match i, h with
      | 0, h => simp at h ⊢; rw [h]
      | i + 1, h => exact h2 i v (by simpa using h)
theorem x_ent_L (ad : Nat → Nat) (vs : List Value) {n : Nat} (hn : (x_sl vs).length ≤ n) : x_L n ad (x_ent n vs) ((lg_sl (vs.map (x_cv ad)) ++ List.replicate (n - (lg_sl (vs.map (x_cv ad))).length) Slot.unset).toArray) := by
  obtain ⟨h1, h2⟩ := x_sl_eq ad vs
  have hl := lv_entry (vs.map (x_cv ad)) (n := n) (by rw [h1]; exact hn)
  refine ⟨by simp [x_ent]; omega, hl.1, hl.2.1, fun i v h => ?_⟩
  rw [List.getElem?_toArray]
  unfold x_ent at h
  by_cases hi : i < (x_sl vs).length
  · rw [List.getElem?_append_left hi] at h
    rw [List.getElem?_append_left (by rw [h1]; exact hi)]
    exact h2 i v h
  · rw [List.getElem?_append_right (by omega), List.getElem?_replicate] at h
    split at h <;> simp at h
theorem x_ent_ok {dm : List Nat} {vs : List Value} (n : Nat) (h : x_okS dm vs) : x_okL dm (x_ent n vs) := by
  intro v hv
  unfold x_ent at hv
  rcases List.mem_append.mp hv with hv | hv
  · unfold x_sl at hv
    obtain ⟨w, hw, h2⟩ := List.mem_flatMap.mp hv
    split at h2
    · simp at h2; rw [h2]; exact h w hw
    · simp at h2; rw [h2]; exact h w hw
  · have := (List.mem_replicate.mp hv).2
    cases this
/-! constants of the classes, and the words that don't ride with a method's own -/
def x_si0 : List Int32 := [10, 0, 0]
def x_si1 : List Int32 := [9999, 50, 999]
def x_SI (k : Nat) : Option (Nat × (Nat → Int32)) := match k with
  | 1000 => some (3, fun j => x_si0.getD j 0)
  | 1001 => some (3, fun j => x_si1.getD j 0)
  | _ => none
def x_wds : List Int64 := [1667329133, 6710629, 7823730, 1802071652, 512970880104, 1735356260, 508440638821, 495874696043, 123581014175598, 126896628458866, 6840691, 7364985, 6452601, 1936026732, 1952801138, 1835363940, 470020945000, 6385273, 2003330414, 465558725996, 448545973363, 1818584692, 1819242352, 6647396, 1937010544]
def x_key : List Int32 := [32, 99, 97, 108, 109, 32, 102, 101, 101, 32, 119, 97, 114, 32, 107, 105, 110, 100, 32, 103, 111, 111, 100, 32, 112, 101, 114, 115, 111, 110, 32, 104, 97, 115, 32, 119, 111, 114, 116, 104, 32, 118, 97, 108, 117, 101, 32, 115, 116, 111, 99, 107, 32, 115, 105, 108, 118, 101, 114, 32, 112, 97, 121, 32, 98, 117, 121, 32, 115, 101, 108, 108, 32, 116, 101, 97, 114, 32, 109, 101, 110, 100, 32, 109, 111, 110, 116, 104, 32, 97, 110, 121, 32, 119, 104, 101, 110, 32, 108, 111, 111, 112, 32, 101, 110, 100, 32, 115, 116, 111, 112, 32, 108, 101, 118, 101, 108, 32, 104, 111, 108, 100, 115, 32, 108, 101, 102, 116, 32]
def x_ktx : String := " calm fee war kind good person has worth value stock silver pay buy sell tear mend month any when loop end stop level holds left "
def x_nw : Cond → Bool
  | .fieldLinkNest .. => true
  | .methodLinkNest .. => true
  | _ => false
def x_Nw (U : State) : Prop := (∀ w ∈ lw_tbl, x_nw w = true → va_Nw w U) ∧ va_AO RX8 U ∧ va_AO RX0 U ∧ va_AO RX4 U
theorem x_Nw_warm {s U : State} (hW : s.WarmedH U.vm) (h : x_Nw s) : x_Nw U := by
  refine ⟨fun w hw hn => ?_, va_AO.moved hW.alike h.2.1, va_AO.moved hW.alike h.2.2.1, va_AO.moved hW.alike h.2.2.2⟩
  cases w with
  | fieldLinkNest a i b n d e => exact va_Nw.warmF hW (h.1 _ hw hn)
  | methodLinkNest a i x e => exact va_Nw.warmM hW (h.1 _ hw hn)
  | _ => simp [x_nw] at hn
theorem x_Nw_same {u U : State} (hv : U.vm = u.vm) (h : x_Nw u) : x_Nw U := by
  refine ⟨fun w hw hn => ?_, va_AO.moved (by rw [hv]; exact Vm.Alike.refl _) h.2.1, va_AO.moved (by rw [hv]; exact Vm.Alike.refl _) h.2.2.1, va_AO.moved (by rw [hv]; exact Vm.Alike.refl _) h.2.2.2⟩
  cases w with
  | fieldLinkNest a i b n d e => exact va_Nw.same rfl hv.symm (h.1 _ hw hn)
  | methodLinkNest a i x e => exact va_Nw.same rfl hv.symm (h.1 _ hw hn)
  | _ => simp [x_nw] at hn
def x_Z (SI : Nat → Option (Nat × (Nat → Int32))) (A : Nat → Prop) (ad : Nat → Nat) (U : State) (H : Heap) : Prop :=
  (∀ (k N : Nat) (f : Nat → Int32), SI k = some (N, f) → 1000 ≤ k ∧ va_T .int (ad k) N (fun j => .int (f j)) A U H) ∧
  va_Z "BarkMoney" "LEAST_RULE" "[I" (.ref (ad 1000)) A U H ∧ va_Z "BarkMoney" "MOST_RULE" "[I" (.ref (ad 1001)) A U H ∧ va_Z "BarkMoney$TextReader" "WORDS" "[J" (.ref (ad 1002)) A U H ∧
  va_T .long (ad 1002) 25 (fun j => .long (x_wds.getD j 0)) A U H ∧ vk_R "BarkMoneyModel" 177 x_ktx (ad 1003) U ∧ vk_S 1 [129] [x_key] (fun _ => ad 1003) (fun _ => ad 1004) A U H ∧ va_Z "java/lang/String" "COMPACT_STRINGS" "Z" (.int 1) A U H ∧ va_Zq "jdk/internal/util/Preconditions" "SIOOBE_FORMATTER" "Ljava/util/function/BiFunction;" A U H
theorem x_Z_pass {SI : Nat → Option (Nat × (Nat → Int32))} {A B : Nat → Prop} {ad ad' : Nat → Nat} {s U : State} {H : Heap} {locs : List Loc} (h : x_Z SI A ad s s.heap) (hsub : ∀ k q, x_SI k = some q → SI k = some q) (hS : va_S A s.heap H locs) (hW : s.WarmedH U.vm) (hU : U.heap = H) (hBA : ∀ q, B q → A q) (hag : ∀ k, 1000 ≤ k → ad' k = ad k) : x_Z x_SI B ad' U U.heap := by
  subst hU
  have kp : ∀ a : Nat, a < s.heap.size → ¬ A a → U.heap[a]? = s.heap[a]? := hS.2.1
  obtain ⟨h0, h1, h2, h3, h4, h5, h6, h7, h8⟩ := h
  refine ⟨fun k N f hk => ?_, ?_, ?_, ?_, ?_, ?_, ?_, ((h7.kept kp).moved hW.alike).narrow hBA, ((h8.kept kp).moved hW.alike).narrow hBA⟩
  · obtain ⟨g1, g2⟩ := h0 k N f (hsub k _ hk)
    rw [hag k g1]
    exact ⟨g1, ((g2.kept kp).moved hW.alike).narrow hBA⟩
  · rw [hag 1000 (by omega)]; exact ((h1.kept kp).moved hW.alike).narrow hBA
  · rw [hag 1001 (by omega)]; exact ((h2.kept kp).moved hW.alike).narrow hBA
  · rw [hag 1002 (by omega)]; exact ((h3.kept kp).moved hW.alike).narrow hBA
  · rw [hag 1002 (by omega)]; exact ((h4.kept kp).moved hW.alike).narrow hBA
  · rw [hag 1003 (by omega)]; exact h5.warm hW
  · rw [hag 1003 (by omega), hag 1004 (by omega)]; exact ((h6.kept kp).moved hW.alike).narrow hBA
theorem x_Z_same {SI : Nat → Option (Nat × (Nat → Int32))} {A : Nat → Prop} {ad : Nat → Nat} {u U : State} (hv : U.vm = u.vm) (hh : U.heap = u.heap) (h : x_Z SI A ad u u.heap) : x_Z SI A ad U U.heap := by
  rw [hh]
  have al : u.vm.Alike U.vm := by rw [hv]; exact Vm.Alike.refl _
  obtain ⟨h0, h1, h2, h3, h4, h5, h6, h7, h8⟩ := h
  exact ⟨fun k N f hk => ⟨(h0 k N f hk).1, (h0 k N f hk).2.moved al⟩, h1.moved al, h2.moved al, h3.moved al, h4.moved al, h5.same hv, h6.moved al, h7.moved al, h8.moved al⟩
