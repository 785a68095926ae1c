
/-- rule: what it answers, 1 if a text came, the numbers and rows behind it -/
def sX7_rule (I : Nat → Int32) (J : Nat → Int64) (A : Nat → Nat → Int32) (B : Nat → Nat → Int64) : Option (Int32 × Int32 × (Nat → Int32) × (Nat → Nat → Int32)) :=
  (sX7_takeTape I J A B).bind fun (r_1, I) =>
  if (I 23) < (8 : Int32) then
    (sX3_read r_1 I J A B).bind fun (rr, I, A) =>
    if rr = 0 then
      gv (upd I 8 (I 80)) fun I =>
      (sX7_refuse (-6 : Int32) I J A B).bind fun (r, I) => some (r, (0 : Int32), I, A)
    else
      gv (upd I 8 (-1 : Int32)) fun I =>
      ck (inB (I 23) 8) <|
      gv (upd I 23 ((I 23) + (1 : Int32))) fun I =>
      (sX7_accept ((I 23) - (1 : Int32)) I J A B).bind fun (r, I) => some (r, (1 : Int32), I, A)
  else
    (sX7_refuse (-5 : Int32) I J A B).bind fun (r, I) => some (r, (2 : Int32), I, A)
/-- what rule leaves -/
abbrev uQ (D : va_G) (cy : Nat → ClassId) (P0 : Nat → Prop) (q : Nat → Nat) (tl : va_W) (xx : (Nat → Option Nat) × (Nat → Option Nat) × Nat) (r kd : Int32) (I : Nat → Int32) (J : Nat → Int64) (A : Nat → Nat → Int32) (B : Nat → Nat → Int64) : Array Value → State → Outcome → State → Prop := fun _ st oc t =>
  (oc = .returned (some (.int r)) ∧ ∃ (tn : va_W) (xx2 : (Nat → Option Nat) × (Nat → Option Nat) × Nat), ((¬ kd = 1 ∧ tn = [] ∧ xx2.1 = xx.1 ∧ xx2.2.1 = xx.2.1) ∨ (kd = 1 ∧ ∃ (ta tb tc : Nat) (fb fc : Nat → Int32), tn = TC cy ta tb tc (ix (I 88 * 4)) (ix (I 90)) fb fc ∧ (∀ j, j < ix (I 88 * 4) → fb j = A 87 j) ∧ (∀ j, j < ix (I 90) → fc j = A 89 j) ∧ xx2.1 = va_up xx.1 (ix (I 23 - 1)) (some ta) ∧ xx2.2.1 = xx.2.1)) ∧ va_P D vwCl (CW cy q xx2 I J A B ++ (tn ++ tl)) t.heap ∧ va_D P0 (CW cy q xx2 I J A B ++ (tn ++ tl))) ∧ va_F P0 st t
section CU
variable {p : Program} {l : Launch} {e : Env} {s : State} {m : MethodId} {args : Array Value} {below : List Frame} {meth : Method} {c : Code} {H H0 : Heap} {locs : List Loc} {cells slots nL idx : Nat} {Q : State → Prop} {cc : ByteArray} {pc : Nat} {ls : Array Slot} {rest : List Value} {ret : Option FieldType} {R : Room}
variable {D : va_G} {cy : Nat → ClassId} {P0 : Nat → Prop} {q z : Nat → Nat} {tl tn : va_W} {xx xx2 : (Nat → Option Nat) × (Nat → Option Nat) × Nat} {I I2 : Nat → Int32} {J J2 : Nat → Int64} {A A2 : Nat → Nat → Int32} {B B2 : Nat → Nat → Int64}
theorem u_ret {r kd : Int32} (C : Cx p s m args meth c cc nL RX7 (some .int)) (hI : CI D cy s P0 s.heap H locs q z (tn ++ tl) xx2 I J A B) (hx : (¬ kd = 1 ∧ tn = [] ∧ xx2.1 = xx.1 ∧ xx2.2.1 = xx.2.1) ∨ (kd = 1 ∧ ∃ (ta tb tc : Nat) (fb fc : Nat → Int32), tn = TC cy ta tb tc (ix (I 88 * 4)) (ix (I 90)) fb fc ∧ (∀ j, j < ix (I 88 * 4) → fb j = A 87 j) ∧ (∀ j, j < ix (I 90) → fc j = A 89 j) ∧ xx2.1 = va_up xx.1 (ix (I 23 - 1)) (some ta) ∧ xx2.2.1 = xx.2.1)) (hc : cells ≤ 3 ∧ slots ≤ 850) (hd : decode cc pc = .ok (.ireturn, 1)) :
    W p l e R s m args below meth c H locs cells slots (MQ below (uQ D cy P0 q tl xx r kd I J A B) args s 3 850 P0) (F0 m pc ls [.int r]) :=
  W.widen hc.1 hc.2 (W.iret C.1 C.2.1 C.2.2.2.2.2.1 (fun t ht _ => ⟨⟨rfl, tn, xx2, hx, by rw [ht]; exact hI.2.1, hI.2.2.1⟩, hI.2.2.2.1.F ht⟩) hI.2.2.2.1.2.2 hd (hlocks := C.2.2.2.2.2.2))
theorem c_read {x2 rr : Int32} (C : Cx p s m args meth c cc nL RX7 ret) (hI : CI D cy s P0 s.heap H locs q z tl xx I J A B) (hF : NX P0 s s.heap z) (hC : NC s) (hA : ∀ x, s.heap.size ≤ x → P0 x) (hs : sX3_read x2 I J A B = some (rr, I2, A2)) (hR : 92 ≤ R.frames ∧ 8 + (4 + 11) + 60 * 91 ≤ R.locals ∧ cells + 3 ≤ R.cells ∧ slots + 850 ≤ R.slots) (hsz : ls.size = nL) (hW : (rest.map fun v => v.category).sum ≤ 8) (hd : decode cc pc = .ok (.invokevirtual 175, 3))
    (kk : ∀ (v : Option Nat) (tn : va_W) (H1 : Heap) (locs1 : List Loc), ((rr = 0 ∧ v = none ∧ tn = []) ∨ (rr = 1 ∧ ∃ (ta tb tc : Nat) (fb fc : Nat → Int32), v = some ta ∧ tn = TC cy ta tb tc (ix (I2 88 * 4)) (ix (I2 90)) fb fc ∧ (∀ j, j < ix (I2 88 * 4) → fb j = A2 87 j) ∧ ∀ j, j < ix (I2 90) → fc j = A2 89 j)) → CI D cy s P0 s.heap H1 locs1 q z (tn ++ tl) (xx.1, xx.2.1, q 6) I2 J A2 B → W p l e R s m args below meth c H1 locs1 (cells + 3) (slots + 850) Q (F0 m (pc + 3) ls (va_rf v :: rest))) :
    W p l e R s m args below meth c H locs cells slots Q (F0 m pc ls (.int x2 :: .ref (q 6) :: .ref (q 4) :: rest)) := by
  have hrv := rv_X3 hI
  obtain ⟨hK, hP, hD, hS, hSF⟩ := hI
  have hr := run_V (l := l) (e := e) (below := below) (H := H) (locs := locs) (cells := cells) (slots := slots) (R := R) (rm := rmN 91 3 850) (C := RX3) (b := q 4) (As := [.ref (q 6), .int x2]) (rest := rest) C (kX3_read l D cy P0 q z tl xx x2 I J A B rr I2 A2 hs) (wt_callB (rm := rmN 91 3 850) C ml_X7_175 ini_X3 co_X3_read rfl rfl hyX3_read ⟨hR.1, hR.2.1⟩) im_X3_read se_X3_read
    ⟨fun a U g mk z => by
      obtain ⟨z0, z1, z2, z3, z4, z5, z6⟩ := z
      exact ⟨z0, va_K.moved (u := U) (U := U.calling g mk a) (Vm.Alike.refl U.vm) z1, z2, z3, NX.same (u := U) (U := U.calling g mk a) rfl z4, va_Nw.same (u := U) (U := U.calling g mk a) rfl rfl z5, z6⟩, hrv, fun U hU hW => ⟨rfl, va_K.moved hW.alike hK, by rw [hU]; exact hP, hD, by rw [hU]; exact NX.warm hW (hF.kept (fun a h1 h2 => hS.2.1 a h1 h2)), va_Nw.warmC hW hC, fun x hx => hA x (by rw [hU] at hx; exact Nat.le_trans hS.1 hx)⟩⟩ rfl hsz rfl hW hd ⟨hR.2.2.1, hR.2.2.2⟩
  intro T hT X
  obtain ⟨v0, st₀, t, T', L, h0, X', hL, e1, e2, ⟨⟨v, tn, hcs, hv, hP1, hD1⟩, hz, hk⟩, st⟩ := hr T hT X
  cases hv
  rw [h0] at hz hk
  obtain ⟨t2, a1, b1⟩ := kk v tn T'.heap (locs ++ L) hcs ⟨hK, by rw [e1]; exact hP1, hD1, ⟨Nat.le_trans hS.1 (by rw [e1]; exact hz), fun x h1 h2 => by rw [e1, hk x (Nat.lt_of_lt_of_le h1 hS.1) h2]; exact hS.2.1 x h1 h2, fun x hx => by
      rcases List.mem_append.mp hx with h | h
      · exact hS.2.2 x h
      · exact hL x h⟩, hSF⟩ T' rfl X'
  exact ⟨t2, st t2 a1, b1⟩
end CU
set_option maxRecDepth 100000 in
set_option maxHeartbeats 8000000 in
theorem kX7_rule (l : Launch) (D : va_G) (cy : Nat → ClassId) (P0 : Nat → Prop) (q z : Nat → Nat) (tl : va_W) (xx : (Nat → Option Nat) × (Nat → Option Nat) × Nat) (I : Nat → Int32) (J : Nat → Int64) (A : Nat → Nat → Int32) (B : Nat → Nat → Int64) (r kd : Int32) (I2 : Nat → Int32) (A2 : Nat → Nat → Int32) (hs : sX7_rule I J A B = some (r, kd, I2, A2)) :
    Met l yX7_rule (Cond.code yX7_rule cX7_rule 3 (some .int) :: WT) (rmN 93 3 850) (va_Pc [.ref (q 99)] (fun U => va_K D vwCl (tys6 cy) U ∧ va_P D vwCl (CW cy q xx I J A B ++ tl) U.heap ∧ va_D P0 (CW cy q xx I J A B ++ tl) ∧ NX P0 U U.heap z ∧ NC U ∧ ∀ x, U.heap.size ≤ x → P0 x)) (uQ D cy P0 q tl xx r kd I2 J A2 B) 3 850 P0 := by
  refine Met.ofW (cc := cX7_rule) (maxL := 3) (ret := some .int) rfl rfl ?_
  intro p e s m args below meth c s₁ B0 hml hv
  obtain ⟨rfl, hK, hP, hD, hF, hC, hA⟩ := hv
  have hts := atoms_spec (ws := Cond.code yX7_rule cX7_rule 3 (some .int) :: WT) B0.pre
  have C : Cx p s m [Value.ref (q 99)].toArray meth c cX7_rule 3 RX7 (some .int) := ⟨B0.exec, B0.bytes, hml, findClass_of_methodNamed B0.named, fun w hw => hts w (List.mem_cons_of_mem _ hw), B0.returns, B0.notSynchronized⟩
  have hI : CI D cy s P0 s.heap s.heap [] q z tl xx I J A B := ⟨hK, hP, hD, va_S.rf, hF.1⟩
  rw [lg_entry_eq]
  have hl := lv_entry [.ref (q 99)] (n := 3) (Nat.le_of_ble_eq_true rfl)
  generalize (lg_sl ([.ref (q 99)]) ++ List.replicate (3 - (lg_sl ([.ref (q 99)])).length) Slot.unset).toArray = ls at hl ⊢
  generalize [Value.ref (q 99)].toArray = args at C ⊢
  have hl : lv_has ls 3 [(0, .ref (q 99))] := hl
  rw [sX7_rule] at hs
  refine lv_aload_n C.1 C.2.1 dX7_rule_0 rfl (lv_at hl 0 rfl) ?_
  obtain ⟨⟨r_1, I⟩, hc, hs⟩ := bd_e hs
  refine C_callR C hI (kX7_takeTape l D cy P0 q z tl xx _ _ _ _ _ _ hc) (rv_X7 hI) ml_X7_168 im_X7_takeTape se_X7_takeTape ini_X7 co_X7_takeTape hyX7_takeTape rfl ⟨by decide, by decide, by decide, by decide⟩ hl.1 rfl (Nat.le_of_ble_eq_true rfl) dX7_rule_1 (fun H locs hI => ?_)
  refine lv_istore_n (lv' := [(1, .int r_1), (0, .ref (q 99))]) C.1 C.2.1 dX7_rule_4 rfl hl (by decide) rfl (fun ls hl => ?_)
  refine lv_aload_n C.1 C.2.1 dX7_rule_5 rfl (lv_at hl 1 rfl) ?_
  refine cg_X7_0 C hI dX7_rule_6 ?_
  refine cg_X7_23 C hI dX7_rule_9 ?_
  refine lv_bipush (v := 8) C.1 C.2.1 dX7_rule_12 (by decide) ?_
  refine lv_icmp_lt (tgt := 24) C.1 C.2.1 dX7_rule_14 (by decide) (fun cn => ?_) (fun cn => ?_)
  · have hs := if_t cn hs
    refine lv_aload_n C.1 C.2.1 dX7_rule_24 rfl (lv_at hl 1 rfl) ?_
    refine cg_X7_4 C hI dX7_rule_25 ?_
    refine lv_aload_n C.1 C.2.1 dX7_rule_28 rfl (lv_at hl 1 rfl) ?_
    refine cg_X7_6 C hI dX7_rule_29 ?_
    refine lv_iload_n C.1 C.2.1 dX7_rule_32 rfl (lv_at hl 0 rfl) ?_
    obtain ⟨⟨rr, I, A⟩, hc, hs⟩ := bd_e hs
    refine c_read C hI hF hC hA hc ⟨by decide, by decide, by decide, by decide⟩ hl.1 (Nat.le_of_ble_eq_true rfl) dX7_rule_33 (fun v tn H locs hcs hI => ?_)
    rcases hcs with ⟨rfl, rfl, rfl⟩ | ⟨rfl, ta, tb, tc, fb, fc, rfl, rfl, hfb, hfc⟩
    · have hs := if_t rfl hs
      refine lv_astore_nN (lv' := [(2, .null), (1, .int r_1), (0, .ref (q 99))]) C.1 C.2.1 dX7_rule_36 rfl hl (by decide) rfl (fun ls hl => ?_)
      refine lv_aload_nN C.1 C.2.1 dX7_rule_37 rfl (lv_at hl 0 rfl) ?_
      refine lv_ifnonnullN C.1 C.2.1 dX7_rule_38 ?_
      refine lv_aload_n C.1 C.2.1 dX7_rule_41 rfl (lv_at hl 2 rfl) ?_
      refine lv_aload_n C.1 C.2.1 dX7_rule_42 rfl (lv_at hl 2 rfl) ?_
      refine cg_X7_4 C hI dX7_rule_43 ?_
      refine cg_X7_80 C hI dX7_rule_46 ?_
      refine cp_X7_8 C hI dX7_rule_49 (fun H locs hI => ?_)
      have hs := gv_be hs
      refine lv_aload_n C.1 C.2.1 dX7_rule_52 rfl (lv_at hl 2 rfl) ?_
      refine lv_bipush (v := -6) C.1 C.2.1 dX7_rule_53 (by decide) ?_
      obtain ⟨⟨r_2, I⟩, hc, hs⟩ := bd_e hs
      refine C_callR C hI (kX7_refuse l D cy P0 q z _ _ _ _ _ _ _ _ _ hc) (rv_X7 hI) ml_X7_70 im_X7_refuse se_X7_refuse ini_X7 co_X7_refuse hyX7_refuse rfl ⟨by decide, by decide, by decide, by decide⟩ hl.1 rfl (Nat.le_of_ble_eq_true rfl) dX7_rule_55 (fun H locs hI => ?_)
      obtain ⟨rfl, rfl, rfl, rfl⟩ := so4 hs
      exact u_ret C hI (Or.inl ⟨by decide, rfl, rfl, rfl⟩) ⟨by decide, by decide⟩ dX7_rule_58
    · have hs := if_f (by decide) hs
      refine lv_astore_n (lv' := [(2, .ref ta), (1, .int r_1), (0, .ref (q 99))]) C.1 C.2.1 dX7_rule_36 rfl hl (by decide) rfl (fun ls hl => ?_)
      refine lv_aload_n C.1 C.2.1 dX7_rule_37 rfl (lv_at hl 0 rfl) ?_
      refine lv_ifnonnull (tgt := 59) C.1 C.2.1 dX7_rule_38 (by decide) ?_
      refine lv_aload_n C.1 C.2.1 dX7_rule_59 rfl (lv_at hl 2 rfl) ?_
      refine lv_iconst (v := -1) C.1 C.2.1 dX7_rule_60 (by decide) ?_
      refine cp_X7_8 C hI dX7_rule_61 (fun H locs hI => ?_)
      have hs := gv_be hs
      obtain ⟨hk, hs⟩ := ck_e hs
      refine lv_aload_n C.1 C.2.1 dX7_rule_64 rfl (lv_at hl 2 rfl) ?_
      refine cg_X7_0 C hI dX7_rule_65 ?_
      refine cg_X7_22 C hI dX7_rule_68 ?_
      refine lv_aload_n C.1 C.2.1 dX7_rule_71 rfl (lv_at hl 2 rfl) ?_
      refine cg_X7_0 C hI dX7_rule_72 ?_
      refine cg_X7_23 C hI dX7_rule_75 ?_
      refine lv_aload_n C.1 C.2.1 dX7_rule_78 rfl (lv_at hl 0 rfl) ?_
      refine va_astq (D := D) C.1 C.2.1 hI.1 hI.2.1 hI.2.2.1 hI.2.2.2.1 20 5 48 6 rfl (r := (RX6, TX6, 2)) rfl rfl rfl (inB_in hk) dX7_rule_79 (fun H locs hP hD hS => ?_)
      have hI : CI D cy s P0 s.heap H locs q z (TC cy ta tb tc (ix (I 88 * 4)) (ix (I 90)) fb fc ++ tl) (va_up xx.1 (ix (upd I 8 (-1) 23)) (some ta), xx.2.1, q 6) (upd I 8 (-1)) J A B := ⟨hI.1, hP, hD, hS, hI.2.2.2.2⟩
      refine lv_aload_n C.1 C.2.1 dX7_rule_80 rfl (lv_at hl 2 rfl) ?_
      refine cg_X7_0 C hI dX7_rule_81 ?_
      refine lv_dup C.1 C.2.1 dX7_rule_84 rfl ?_
      refine cg_X7_23 C hI dX7_rule_85 ?_
      refine lv_iconst (v := 1) C.1 C.2.1 dX7_rule_88 (by decide) ?_
      refine lv_iadd C.1 C.2.1 dX7_rule_89 ?_
      refine cp_X7_23 C hI dX7_rule_90 (fun H locs hI => ?_)
      have hs := gv_be hs
      refine lv_aload_n C.1 C.2.1 dX7_rule_93 rfl (lv_at hl 2 rfl) ?_
      refine lv_aload_n C.1 C.2.1 dX7_rule_94 rfl (lv_at hl 2 rfl) ?_
      refine cg_X7_0 C hI dX7_rule_95 ?_
      refine cg_X7_23 C hI dX7_rule_98 ?_
      refine lv_iconst (v := 1) C.1 C.2.1 dX7_rule_101 (by decide) ?_
      refine lv_isub C.1 C.2.1 dX7_rule_102 ?_
      obtain ⟨⟨r_2, I3⟩, hc, hs⟩ := bd_e hs
      have hcx := hc
      refine C_callR C hI (kX7_accept l D cy P0 q z _ _ _ _ _ _ _ _ _ hc) (rv_X7 hI) ml_X7_77 im_X7_accept se_X7_accept ini_X7 co_X7_accept hyX7_accept rfl ⟨by decide, by decide, by decide, by decide⟩ hl.1 rfl (Nat.le_of_ble_eq_true rfl) dX7_rule_103 (fun H locs hI => ?_)
      obtain ⟨rfl, rfl, rfl, rfl⟩ := so4 hs
      have eI : I3 = upd (upd (upd I 8 (-1)) 23 (upd I 8 (-1) 23 + 1)) 9 0 := by
        rw [sX7_accept] at hcx
        exact (so2 (gv_be hcx)).2.symm
      subst eI
      refine u_ret C hI (Or.inr ⟨rfl, ta, tb, tc, fb, fc, rfl, hfb, hfc, ?_, rfl⟩) ⟨by decide, by decide⟩ dX7_rule_106
      show va_up xx.1 (ix (I 23)) (some ta) = va_up xx.1 (ix (I 23 + 1 - 1)) (some ta)
      rw [Int32.add_sub_cancel]
  · have hs := if_f cn hs
    refine lv_aload_n C.1 C.2.1 dX7_rule_17 rfl (lv_at hl 1 rfl) ?_
    refine lv_bipush (v := -5) C.1 C.2.1 dX7_rule_18 (by decide) ?_
    obtain ⟨⟨r_2, I⟩, hc, hs⟩ := bd_e hs
    refine C_callR C hI (kX7_refuse l D cy P0 q z _ _ _ _ _ _ _ _ _ hc) (rv_X7 hI) ml_X7_70 im_X7_refuse se_X7_refuse ini_X7 co_X7_refuse hyX7_refuse rfl ⟨by decide, by decide, by decide, by decide⟩ hl.1 rfl (Nat.le_of_ble_eq_true rfl) dX7_rule_20 (fun H locs hI => ?_)
    obtain ⟨rfl, rfl, rfl, rfl⟩ := so4 hs
    exact u_ret (tn := []) C hI (Or.inl ⟨by decide, rfl, rfl, rfl⟩) ⟨by decide, by decide⟩ dX7_rule_23
