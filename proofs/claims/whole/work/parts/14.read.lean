theorem wc_nat : (Cond.native ⟨"java/lang/Object", "clone", "()Ljava/lang/Object;"⟩ : Cond) ∈ WT := wt (tbin_3 _ (List.mem_of_getElem? (i := 148) rfl)) rfl
theorem wc_im : (Cond.instanceMethod ⟨"java/lang/Object", "clone", "()Ljava/lang/Object;"⟩ : Cond) ∈ WT := wt (tbin_3 _ (List.mem_of_getElem? (i := 149) rfl)) rfl
theorem wc_se : (Cond.selects "[I" ⟨"[I", "clone", "()Ljava/lang/Object;"⟩ ⟨"java/lang/Object", "clone", "()Ljava/lang/Object;"⟩ : Cond) ∈ WT := wt (tbin_3 _ (List.mem_of_getElem? (i := 150) rfl)) rfl
theorem wc_same : (Cond.sameMethod "[I" "java/lang/Object" "clone" "()Ljava/lang/Object;" : Cond) ∈ WT := wt (tbin_3 _ (List.mem_of_getElem? (i := 147) rfl)) rfl

/-- what clone wants of the tables -/
abbrev NC (U : State) : Prop := va_Nw (.castable "[I" "java/lang/Cloneable") U
set_option maxRecDepth 100000 in
set_option maxHeartbeats 8000000 in
/-- Arrays.copyOf(int[], k), k at most its length -/
theorem kJ7_copyOf (l : Launch) (D : va_G) (P0 : Nat → Prop) (tys : List (ClassId × FieldType)) (ws : va_W) (p0 t0 a n : Nat) (cA : ClassId) (f : Nat → Int32) (k : Int32) (hp : ws[p0]? = some (a, .inl (cA, n, .inl f))) (ht : tys[t0]? = some (cA, .int)) (hk0 : ¬ k < 0) (hkn : ix k ≤ n) (hn : n ≤ 400) :
    Met l yJ7_copyOf_59c91 (Cond.code yJ7_copyOf_59c91 cJ7_copyOf_59c91 3 (some (.array .int)) :: WT) (rmN 1 1 400) (va_Pc [.ref a, .int k] (fun U => va_K D vwCl tys U ∧ va_P D vwCl ws U.heap ∧ va_D P0 ws ∧ NC U ∧ ∀ x, U.heap.size ≤ x → P0 x))
      (fun _ st oc t => (∃ (r : Nat) (g : Nat → Int32), oc = .returned (some (.ref r)) ∧ (∀ j, j < ix k → g j = f j) ∧ va_P D vwCl (ws ++ [(r, .inl (cA, ix k, .inl g))]) t.heap ∧ va_D P0 (ws ++ [(r, .inl (cA, ix k, .inl g))])) ∧ va_F P0 st t) 1 400 P0 := by
  refine Met.ofW (cc := cJ7_copyOf_59c91) (maxL := 3) (ret := some (.array .int)) rfl rfl ?_
  intro p e s m args below meth c s₁ B0 hml hv
  obtain ⟨rfl, hK, hP, hD, hC, hA⟩ := hv
  have hts := atoms_spec (ws := Cond.code yJ7_copyOf_59c91 cJ7_copyOf_59c91 3 (some (.array .int)) :: WT) B0.pre
  have C : Cx p s m [Value.ref a, Value.int k].toArray meth c cJ7_copyOf_59c91 3 RJ7 (some (.array .int)) := ⟨B0.exec, B0.bytes, hml, findClass_of_methodNamed B0.named, fun w hw => hts w (List.mem_cons_of_mem _ hw), B0.returns, B0.notSynchronized⟩
  have hS : va_S P0 s.heap s.heap [] := va_S.rf
  have hfc : s.vm.findClass "[I" = some cA := (hK.2 t0 _ ht).2
  have hend : ∀ (v : Value), (ws ++ [(0, (.inr (0, []) : va_E))])[ws.length]? = some (0, .inr (0, [])) := fun _ => by rw [List.getElem?_append_right (Nat.le_refl _)]; simp
  have hlast : ∀ (x : Nat × va_E), (ws ++ [x])[ws.length]? = some x := fun x => by rw [List.getElem?_append_right (Nat.le_refl _)]; simp
  have hkn' : k = nI (ix k) := by
    obtain ⟨j, hj, e⟩ := nI_of hk0
    rw [e]; show nI j = nI (nI j).toNatClampNeg; rw [nI_clamp hj]
  rw [lg_entry_eq]
  have hl := lv_entry [.ref a, .int k] (n := 3) (Nat.le_of_ble_eq_true rfl)
  generalize (lg_sl ([.ref a, .int k]) ++ List.replicate (3 - (lg_sl ([.ref a, .int k])).length) Slot.unset).toArray = ls at hl ⊢
  have hl : lv_has ls 3 [(0, .ref a), (1, .int k)] := hl
  refine lv_iload_n C.1 C.2.1 dJ7_copyOf_59c91_0 rfl (lv_at hl 1 rfl) ?_
  refine lv_aload_n C.1 C.2.1 dJ7_copyOf_59c91_1 rfl (lv_at hl 0 rfl) ?_
  refine va_alen (D := D) (v := nI n) C.1 C.2.1 hK hP p0 t0 hp ht rfl dJ7_copyOf_59c91_2 ?_
  refine lv_icmp_ne (tgt := 14) C.1 C.2.1 dJ7_copyOf_59c91_3 (by decide) (fun cn => ?_) (fun cn => ?_)
  · refine lv_iload_n C.1 C.2.1 dJ7_copyOf_59c91_14 rfl (lv_at hl 1 rfl) ?_
    refine va_newa (D := D) (atype := .int) (a0 := (ix k, .inl (fun _ => 0))) C.1 C.2.1 (C.2.2.2.2.1 _ arrayClass__int) (ty := .int) rfl hK hP hD hS hA (fun _ => rfl) hk0 rfl (by show ix k * 4 ≤ _; omega) (Nat.le_refl 1) (by show 0 + ix k ≤ 400; omega) dJ7_copyOf_59c91_15 (fun r cB H hK1 hP hD hS => ?_)
    have e1 : cB = cA := RA_inj (hK1.2 tys.length (cB, .int) (by rw [List.getElem?_append_right (Nat.le_refl _)]; simp)).2 (hK.2 t0 _ ht).2
    subst e1
    refine lv_astore_n (lv' := [(2, .ref r), (0, .ref a), (1, .int k)]) C.1 C.2.1 dJ7_copyOf_59c91_17 rfl hl (by decide) rfl (fun ls hl => ?_)
    refine lv_aload_n C.1 C.2.1 dJ7_copyOf_59c91_18 rfl (lv_at hl 1 rfl) ?_
    refine lv_iconst (v := 0) C.1 C.2.1 dJ7_copyOf_59c91_19 (by decide) ?_
    refine lv_aload_n C.1 C.2.1 dJ7_copyOf_59c91_20 rfl (lv_at hl 0 rfl) ?_
    refine lv_iconst (v := 0) C.1 C.2.1 dJ7_copyOf_59c91_21 (by decide) ?_
    refine lv_aload_n C.1 C.2.1 dJ7_copyOf_59c91_22 rfl (lv_at hl 1 rfl) ?_
    have hp1 : (ws ++ [(r, (.inl (cB, ix k, .inl (fun _ => 0)) : va_E))])[p0]? = some (a, .inl (cB, n, .inl f)) := by rw [List.getElem?_append_left (List.getElem?_eq_some_iff.mp hp).1]; exact hp
    refine va_alen (D := D) (v := nI n) C.1 C.2.1 hK hP p0 t0 hp1 ht rfl dJ7_copyOf_59c91_23 ?_
    refine lv_iload_n C.1 C.2.1 dJ7_copyOf_59c91_24 rfl (lv_at hl 2 rfl) ?_
    refine va_mmin C.1 C.2.1 (C.2.2.1.trans hl.1.symm) C.2.2.2.1 (C.2.2.2.2.1 _ ml_J7_304) (C.2.2.2.2.1 _ st_Lib_Math_min_name) (C.2.2.2.2.1 _ ini_java_lang_Math) (C.2.2.2.2.1 _ co_Lib_Math_min_name) (Nat.le_refl 1) (Nat.le_of_ble_eq_true rfl) (Nat.le_of_ble_eq_true rfl) (by show 0 + ix k ≤ 400; omega) dJ7_copyOf_59c91_25 ?_
    have hlt : k < nI n := by
      rw [hkn'] at cn ⊢
      have : ix k ≠ n := fun q => cn (by rw [q])
      exact nI_lt (by omega) (by omega)
    rw [if_pos hlt]
    refine va_copyi (D := D) (ty := .int) C.1 C.2.1 (C.2.2.1.trans hl.1.symm) C.2.2.2.1 (C.2.2.2.2.1 _ ml_J7_150) (C.2.2.2.2.1 _ nat_copy) (C.2.2.2.2.1 _ st_arraycopyName) (C.2.2.2.2.1 _ ini_java_lang_System) hK hP hD hS p0 ws.length t0 t0 hp1 (hlast _) ht ht rfl (by decide) (by decide) hk0 (by show 0 + ix k ≤ n; omega) (by show 0 + ix k ≤ ix k; omega) (fun _ _ => rfl) (Nat.le_refl 1) (by decide) dJ7_copyOf_59c91_28 (fun H locs hP hD hS => ?_)
    refine lv_aload_n C.1 C.2.1 dJ7_copyOf_59c91_31 rfl (lv_at hl 0 rfl) ?_
    have es : (ws ++ [(r, (.inl (cB, ix k, .inl (fun _ => 0)) : va_E))]).set ws.length (r, .inl (cB, ix k, .inl (va_cpy f (fun _ => 0) (0 : Int32).toNatClampNeg (0 : Int32).toNatClampNeg k.toNatClampNeg))) = ws ++ [(r, .inl (cB, ix k, .inl (va_cpy f (fun _ => 0) 0 0 (ix k))))] := by
      rw [List.set_append_right _ _ (Nat.le_refl _)]; simp
    rw [es] at hP hD
    refine W.widen (k := 1) (n := 400) (Nat.le_refl 1) (by show 0 + ix k ≤ 400; omega) ?_
    exact W.aret C.1 C.2.1 C.2.2.2.2.2.1 (Or.inr ⟨_, rfl⟩) (Or.inr ⟨_, rfl⟩) (fun t ht _ => ⟨⟨r, _, rfl, fun j hj => by rw [pk_cpy_in (by omega) (by omega)]; congr 1; omega, by rw [ht]; exact hP, hD⟩, hS.F ht⟩) hS.2.2 dJ7_copyOf_59c91_32 (hlocks := C.2.2.2.2.2.2)
  · have hkk : ix k = n := by rw [cn]; exact nI_clamp (by omega)
    refine lv_aload_n C.1 C.2.1 dJ7_copyOf_59c91_6 rfl (lv_at hl 0 rfl) ?_
    refine va_clone (D := D) (ad := "[I") C.1 C.2.1 (C.2.2.1.trans hl.1.symm) C.2.2.2.1 (C.2.2.2.2.1 _ ml_J7_316) (C.2.2.2.2.1 _ wc_same) (C.2.2.2.2.1 _ wc_nat) (C.2.2.2.2.1 _ wc_im) (C.2.2.2.2.1 _ wc_se) hC hK hP hD hS hA p0 t0 hp ht hfc (fun i v hv => by
        have hv2 : (arrV cA n (fun j => .int (f j))).slots[i]? = some v := hv
        rcases Nat.lt_or_ge i n with hi | hi
        · rw [arrV_read _ _ hi] at hv2; cases hv2; rfl
        · have : (arrV cA n (fun j => .int (f j))).slots.size ≤ i := by rw [arrV_size]; exact hi
          rw [Array.getElem?_eq_none this] at hv2; cases hv2) (Nat.le_refl 1) (Nat.le_of_ble_eq_true rfl) (Nat.le_refl 1) (by show 0 + n ≤ 400; omega) dJ7_copyOf_59c91_7 (fun r H hK1 hP hD hS => ?_)
    refine va_castA (D := D) C.1 C.2.1 C.2.2.2.1 (C.2.2.2.2.1 _ cl_J7_317) hP ws.length (hlast _) hfc dJ7_copyOf_59c91_10 ?_
    refine W.widen (k := 1) (n := 400) (Nat.le_refl 1) (by show 0 + n ≤ 400; omega) ?_
    exact W.aret C.1 C.2.1 C.2.2.2.2.2.1 (Or.inr ⟨_, rfl⟩) (Or.inr ⟨_, rfl⟩) (fun t ht _ => ⟨⟨r, f, rfl, fun j hj => rfl, by rw [ht, hkk]; exact hP, by rw [hkk]; exact hD⟩, hS.F ht⟩) hS.2.2 dJ7_copyOf_59c91_13 (hlocks := C.2.2.2.2.2.2)

set_option maxRecDepth 100000 in
set_option maxHeartbeats 8000000 in
theorem kX6_init (l : Launch) (D : va_G) (cy : Nat → ClassId) (P0 : Nat → Prop) (z : Nat → Nat) (tl : va_W) (a : Nat) (x1 x2 : Nat) : McN l yX6_init cX6_init 3 1 0 0 [.ref a, .ref x1, .ref x2] D cy P0 z tl [(a, .inr (6, [.null, .null]))] (fun ws => ws = [(a, .inr (6, [.ref x1, .ref x2]))]) := by
  refine N_start rfl rfl (Nat.le_of_ble_eq_true rfl) ?_
  intro p e s m args below meth c H locs C hnm hK hP hD hS hF hA ls hl
  have hl : lv_has ls 3 [(0, .ref a), (1, .ref x1), (2, .ref x2)] := hl
  refine lv_aload_n C.1 C.2.1 dX6_init_0 rfl (lv_at hl 0 rfl) ?_
  refine N_objInit C ml_X6_1 hl.1 dX6_init_1 (Nat.le_of_ble_eq_true rfl) (Nat.le_of_ble_eq_true rfl) (Nat.le_of_ble_eq_true rfl) ?_
  refine lv_aload_n C.1 C.2.1 dX6_init_4 rfl (lv_at hl 0 rfl) ?_
  refine lv_aload_n C.1 C.2.1 dX6_init_5 rfl (lv_at hl 1 rfl) ?_
  refine va_putF (D := D) (ci := 6) (v := .ref x1) (ty := (.array .int)) (C := RX6) (T := TX6) (N := 2) C.1 C.2.1 C.2.2.2.2.1 inlX6 tyX6 tyX6_ok nmX6 C.2.2.2.1 hK hP hD hS 0 rfl rfl 0 (by decide) (C.2.2.2.2.1 _ fl_X6_7) (fun _ h => h) rfl hnm rfl (by decide +kernel) rfl rfl (Nat.le_of_ble_eq_true rfl) dX6_init_6 (fun H locs hP hD hS => ?_)
  have hP : va_P D vwCl ([(a, .inr (6, [.ref x1, .null]))] ++ tl) H := hP
  have hD : va_D P0 ([(a, .inr (6, [.ref x1, .null]))] ++ tl) := hD
  refine lv_aload_n C.1 C.2.1 dX6_init_9 rfl (lv_at hl 0 rfl) ?_
  refine lv_aload_n C.1 C.2.1 dX6_init_10 rfl (lv_at hl 2 rfl) ?_
  refine va_putF (D := D) (ci := 6) (v := .ref x2) (ty := (.array .int)) (C := RX6) (T := TX6) (N := 2) C.1 C.2.1 C.2.2.2.2.1 inlX6 tyX6 tyX6_ok nmX6 C.2.2.2.1 hK hP hD hS 0 rfl rfl 1 (by decide) (C.2.2.2.2.1 _ fl_X6_13) (fun _ h => h) rfl hnm rfl (by decide +kernel) rfl rfl (Nat.le_of_ble_eq_true rfl) dX6_init_11 (fun H locs hP hD hS => ?_)
  have hP : va_P D vwCl ([(a, .inr (6, [.ref x1, .ref x2]))] ++ tl) H := hP
  have hD : va_D P0 ([(a, .inr (6, [.ref x1, .ref x2]))] ++ tl) := hD
  exact N_vret (ws := [(a, .inr (6, [.ref x1, .ref x2]))]) C rfl hP hD hS (by decide) (by decide) dX6_init_14

