
/-- a text: its object, its clauses, its code -/
def TC (cy : Nat → ClassId) (ta tb tc nb nc : Nat) (fb fc : Nat → Int32) : va_W := [(ta, .inr (6, [.ref tb, .ref tc])), (tb, .inl (cy 1, nb, .inl fb)), (tc, .inl (cy 1, nc, .inl fc))]
/-- which text a number names -/
def txt (xx : (Nat → Option Nat) × (Nat → Option Nat) × Nat) (I : Nat → Int32) (x : Int32) : Option Nat := if x < 0 then none else if I 23 ≤ x then none else if 8 ≤ x then none else xx.1 (ix x)
section CText
variable {p : Program} {l : Launch} {e : Env} {s : State} {m : MethodId} {args : Array Value} {below : List Frame} {meth : Method} {c : Code} {H H0 : Heap} {locs : List Loc} {cells slots h h' n idx nL maxL : Nat} {Q : State → Prop} {cc bytes : ByteArray} {pc : Nat} {ls : Array Slot} {rest As st0 : List Value} {ret ret' : Option FieldType} {y : MethodName} {R : Room} {own Cn : String} {b : Addr}
variable {D : va_G} {cy : Nat → ClassId} {P0 : Nat → Prop} {q z : Nat → Nat} {tl : va_W} {xx xx2 : (Nat → Option Nat) × (Nat → Option Nat) × Nat} {I I2 : Nat → Int32} {J J2 : Nat → Int64} {A A2 : Nat → Nat → Int32} {B B2 : Nat → Nat → Int64} {ta tb tc nb nc : Nat} {fb fc : Nat → Int32}
theorem cg_X0_text_b (C : Cx p s m args meth c cc nL RX0 ret) (hI : CI D cy s P0 s.heap H locs q z (TC cy ta tb tc nb nc fb fc ++ tl) xx I J A B) (hd : decode cc pc = .ok (.getfield 68, 3)) (kk : W p l e R s m args below meth c H locs cells slots Q (F0 m (pc + 3) ls (.ref tb :: rest))) : W p l e R s m args below meth c H locs cells slots Q (F0 m pc ls (.ref ta :: rest)) :=
  va_get (D := D) (ci := 6) (C := RX6) (T := TX6) (N := 2) C.1 C.2.1 C.2.2.2.2.1 inlX6 C.2.2.2.1 hI.1 hI.2.1 48 rfl rfl 0 (by decide) (C.2.2.2.2.1 _ fl_X0_68) (fun _ h => h) rfl hd kk
theorem ca_text_b (C : Cx p s m args meth c cc nL own ret) (hI : CI D cy s P0 s.heap H locs q z (TC cy ta tb tc nb nc fb fc ++ tl) xx I J A B) {i : Int32} (hi : inB i nb = true) (hd : decode cc pc = .ok (.iaload, 1)) (kk : W p l e R s m args below meth c H locs cells slots Q (F0 m (pc + 1) ls (.int (fb (ix i)) :: rest))) : W p l e R s m args below meth c H locs cells slots Q (F0 m pc ls (.int i :: .ref tb :: rest)) :=
  va_iald (D := D) C.1 C.2.1 hI.1 hI.2.1 49 1 rfl rfl (inB_in hi) hd kk
theorem cl_text_b (C : Cx p s m args meth c cc nL own ret) (hI : CI D cy s P0 s.heap H locs q z (TC cy ta tb tc nb nc fb fc ++ tl) xx I J A B) (hd : decode cc pc = .ok (.arraylength, 1)) (kk : W p l e R s m args below meth c H locs cells slots Q (F0 m (pc + 1) ls (.int (Int32.ofNat nb) :: rest))) : W p l e R s m args below meth c H locs cells slots Q (F0 m pc ls (.ref tb :: rest)) :=
  va_alen (D := D) C.1 C.2.1 hI.1 hI.2.1 49 1 rfl rfl rfl hd kk
theorem cg_X0_text_c (C : Cx p s m args meth c cc nL RX0 ret) (hI : CI D cy s P0 s.heap H locs q z (TC cy ta tb tc nb nc fb fc ++ tl) xx I J A B) (hd : decode cc pc = .ok (.getfield 75, 3)) (kk : W p l e R s m args below meth c H locs cells slots Q (F0 m (pc + 3) ls (.ref tc :: rest))) : W p l e R s m args below meth c H locs cells slots Q (F0 m pc ls (.ref ta :: rest)) :=
  va_get (D := D) (ci := 6) (C := RX6) (T := TX6) (N := 2) C.1 C.2.1 C.2.2.2.2.1 inlX6 C.2.2.2.1 hI.1 hI.2.1 48 rfl rfl 1 (by decide) (C.2.2.2.2.1 _ fl_X0_75) (fun _ h => h) rfl hd kk
theorem ca_text_c (C : Cx p s m args meth c cc nL own ret) (hI : CI D cy s P0 s.heap H locs q z (TC cy ta tb tc nb nc fb fc ++ tl) xx I J A B) {i : Int32} (hi : inB i nc = true) (hd : decode cc pc = .ok (.iaload, 1)) (kk : W p l e R s m args below meth c H locs cells slots Q (F0 m (pc + 1) ls (.int (fc (ix i)) :: rest))) : W p l e R s m args below meth c H locs cells slots Q (F0 m pc ls (.int i :: .ref tc :: rest)) :=
  va_iald (D := D) C.1 C.2.1 hI.1 hI.2.1 50 1 rfl rfl (inB_in hi) hd kk
theorem cl_text_c (C : Cx p s m args meth c cc nL own ret) (hI : CI D cy s P0 s.heap H locs q z (TC cy ta tb tc nb nc fb fc ++ tl) xx I J A B) (hd : decode cc pc = .ok (.arraylength, 1)) (kk : W p l e R s m args below meth c H locs cells slots Q (F0 m (pc + 1) ls (.int (Int32.ofNat nc) :: rest))) : W p l e R s m args below meth c H locs cells slots Q (F0 m pc ls (.ref tc :: rest)) :=
  va_alen (D := D) C.1 C.2.1 hI.1 hI.2.1 50 1 rfl rfl rfl hd kk
theorem C_aret {rt : FieldType} (C : Cx p s m args meth c cc nL own (some rt)) (hrt : (∃ n, rt = .object n) ∨ ∃ t, rt = .array t) (hI : CI D cy s P0 s.heap H locs q z tl xx I J A B) (r : Option Nat) (hd : decode cc pc = .ok (.areturn, 1)) :
    W p l e R s m args below meth c H locs 0 0 (MQ below (cQ D cy P0 q tl (some (va_rf r)) xx I J A B) args s 0 0 P0) (F0 m pc ls [va_rf r]) :=
  W.aret C.1 C.2.1 C.2.2.2.2.2.1 hrt (by cases r with | none => exact Or.inl rfl | some a => exact Or.inr ⟨a, rfl⟩) (fun t ht _ => ⟨⟨rfl, by rw [ht]; exact hI.2.1, hI.2.2.1⟩, hI.2.2.2.1.F ht⟩) hI.2.2.2.1.2.2 hd (hlocks := C.2.2.2.2.2.2)
end CText
set_option maxRecDepth 100000 in
set_option maxHeartbeats 8000000 in
theorem kX7_textAt (l : Launch) (D : va_G) (cy : Nat → ClassId) (P0 : Nat → Prop) (q z : Nat → Nat) (tl : va_W) (xx : (Nat → Option Nat) × (Nat → Option Nat) × Nat) (x1 : Int32) (I : Nat → Int32) (J : Nat → Int64) (A : Nat → Nat → Int32) (B : Nat → Nat → Int64) : McC l yX7_textAt cX7_textAt 2 (some (.object "CornerWinds$Text")) 0 [.ref (q 99), .int x1] D cy P0 q z tl xx I J A B (some (va_rf (txt xx I x1))) xx I J A B := by
  refine C_start rfl (Nat.le_of_ble_eq_true rfl) ?_
  intro p e s m args below meth c H locs C hI ls hl
  have hl : lv_has ls 2 [(0, .ref (q 99)), (1, .int x1)] := hl
  have KN : txt xx I x1 = none → W p l e (rmL 0) s m args below meth c H locs 0 0 (MQ below (cQ D cy P0 q tl (some (va_rf (txt xx I x1))) xx I J A B) args s 0 0 P0) (F0 m 33 ls []) := by
    intro hn
    refine lv_null C.1 C.2.1 dX7_textAt_33 ?_
    rw [hn]
    exact C_aret C (Or.inl ⟨_, rfl⟩) hI none dX7_textAt_34
  refine lv_iload_n C.1 C.2.1 dX7_textAt_0 rfl (lv_at hl 1 rfl) ?_
  refine lv_if_lt (tgt := 33) C.1 C.2.1 dX7_textAt_1 (by decide) (fun cn => KN (by rw [txt, if_pos cn])) (fun c1 => ?_)
  refine lv_iload_n C.1 C.2.1 dX7_textAt_4 rfl (lv_at hl 1 rfl) ?_
  refine lv_aload_n C.1 C.2.1 dX7_textAt_5 rfl (lv_at hl 0 rfl) ?_
  refine cg_X7_0 C hI dX7_textAt_6 ?_
  refine cg_X7_23 C hI dX7_textAt_9 ?_
  refine lv_icmp_ge (tgt := 33) C.1 C.2.1 dX7_textAt_12 (by decide) (fun cn => KN (by rw [txt, if_neg c1, if_pos cn])) (fun c2 => ?_)
  refine lv_iload_n C.1 C.2.1 dX7_textAt_15 rfl (lv_at hl 1 rfl) ?_
  refine lv_bipush (v := 8) C.1 C.2.1 dX7_textAt_16 (by decide) ?_
  refine lv_icmp_ge (tgt := 33) C.1 C.2.1 dX7_textAt_18 (by decide) (fun cn => KN (by rw [txt, if_neg c1, if_neg c2, if_pos cn])) (fun c3 => ?_)
  refine lv_aload_n C.1 C.2.1 dX7_textAt_21 rfl (lv_at hl 0 rfl) ?_
  refine cg_X7_0 C hI dX7_textAt_22 ?_
  refine cg_X7_22 C hI dX7_textAt_25 ?_
  refine lv_iload_n C.1 C.2.1 dX7_textAt_28 rfl (lv_at hl 1 rfl) ?_
  have hin : vp_in x1 8 := by
    rw [vp_in_iff]
    have a1 : ¬ x1.toInt < (0 : Int32).toInt := fun h => c1 (Int32.lt_iff_toInt_lt.mpr h)
    have a3 : ¬ (8 : Int32).toInt ≤ x1.toInt := fun h => c3 (Int32.le_iff_toInt_le.mpr h)
    have e0 : (0 : Int32).toInt = 0 := rfl
    have e8 : (8 : Int32).toInt = 8 := rfl
    omega
  refine va_aldq (D := D) (C := "CornerWinds$Text") C.1 C.2.1 hI.1 hI.2.1 20 5 rfl rfl hin dX7_textAt_29 ?_
  refine lv_goto (tgt := 34) C.1 C.2.1 dX7_textAt_30 (by decide) ?_
  rw [show txt xx I x1 = xx.1 (ix x1) from by rw [txt, if_neg c1, if_neg c2, if_neg c3]]
  exact C_aret C (Or.inl ⟨_, rfl⟩) hI _ dX7_textAt_34
section CText2
variable {p : Program} {l : Launch} {e : Env} {s : State} {m : MethodId} {args : Array Value} {below : List Frame} {meth : Method} {c : Code} {H H0 : Heap} {locs : List Loc} {h n idx nL : Nat} {Q : State → Prop} {cc : ByteArray} {pc : Nat} {ls : Array Slot} {rest : List Value} {ret : Option FieldType}
variable {D : va_G} {cy : Nat → ClassId} {P0 : Nat → Prop} {q z : Nat → Nat} {tl : va_W} {xx : (Nat → Option Nat) × (Nat → Option Nat) × Nat} {I : Nat → Int32} {J : Nat → Int64} {A : Nat → Nat → Int32} {B : Nat → Nat → Int64} {ta : Nat} {x : Int32}
theorem c_textAt_S (C : Cx p s m args meth c cc nL RX7 ret) (hI : CI D cy s P0 s.heap H locs q z tl xx I J A B) (htx : txt xx I x = some ta) (w1 : Cond.methodLink RX7 idx yX7_textAt ∈ WT) (hf : 1 ≤ h) (hsz : ls.size = nL) (hW : (rest.map fun v => v.category).sum ≤ 8) (hd : decode cc pc = .ok (.invokevirtual idx, 3)) (kk : ∀ {H : Heap} {locs : List Loc} (hI : CI D cy s P0 s.heap H locs q z tl xx I J A B), W p l e (rmL h) s m args below meth c H locs 0 0 Q (F0 m (pc + 3) ls (.ref ta :: rest))) : W p l e (rmL h) s m args below meth c H locs 0 0 Q (F0 m pc ls (.int x :: .ref (q 99) :: rest)) := by
  have hM := kX7_textAt l D cy P0 q z tl xx x I J A B
  rw [htx] at hM
  exact C_call C hI hM (rv_X7 hI) w1 im_X7_textAt se_X7_textAt ini_X7 co_X7_textAt hyX7_textAt rfl ⟨hf, by decide⟩ hsz rfl hW hd (fun H1 locs1 hI => kk hI)
theorem c_textAt_N (C : Cx p s m args meth c cc nL RX7 ret) (hI : CI D cy s P0 s.heap H locs q z tl xx I J A B) (htx : txt xx I x = none) (w1 : Cond.methodLink RX7 idx yX7_textAt ∈ WT) (hf : 1 ≤ h) (hsz : ls.size = nL) (hW : (rest.map fun v => v.category).sum ≤ 8) (hd : decode cc pc = .ok (.invokevirtual idx, 3)) (kk : ∀ {H : Heap} {locs : List Loc} (hI : CI D cy s P0 s.heap H locs q z tl xx I J A B), W p l e (rmL h) s m args below meth c H locs 0 0 Q (F0 m (pc + 3) ls (.null :: rest))) : W p l e (rmL h) s m args below meth c H locs 0 0 Q (F0 m pc ls (.int x :: .ref (q 99) :: rest)) := by
  have hM := kX7_textAt l D cy P0 q z tl xx x I J A B
  rw [htx] at hM
  exact C_call C hI hM (rv_X7 hI) w1 im_X7_textAt se_X7_textAt ini_X7 co_X7_textAt hyX7_textAt rfl ⟨hf, by decide⟩ hsz rfl hW hd (fun H1 locs1 hI => kk hI)
end CText2
def lX0_works_20 (nb nc : Nat) (fb fc : Nat → Int32) : Nat → Int32 → Int32 → (Nat → Int32) → (Nat → Int64) → (Nat → Nat → Int32) → (Nat → Nat → Int64) → Option (((Nat → Int32) × (Nat → Nat → Int64)) ⊕ ((Nat → Int32) × (Nat → Nat → Int64)))
  | 0, _, _, _, _, _, _ => none
  | n + 1, x4, x5, I, J, A, B =>
    if x4 ≤ (x5 + (1 : Int32)) then
    (some (.inr (I, B)))
    else
    ck (inB x5 nc) <|
    gv (fc (ix x5)) fun x6_33 =>
    ck (inB (x5 + (1 : Int32)) nc) <|
    gv (fc (ix (x5 + (1 : Int32)))) fun x7_41 =>
    if x6_33 = 0 then
    ((sX0_push (x7_41.toInt64) I J A B).bind fun (I, B) =>
    gv (x5 + 2) fun x5_170 =>
    lX0_works_20 nb nc fb fc n x4 x5_170 I J A B)
    else
    if x6_33 = (1 : Int32) then
    ((sX0_valueOf x7_41 I J A B).bind fun r_68 =>
    (sX0_push (r_68.toInt64) I J A B).bind fun (I, B) =>
    gv (x5 + 2) fun x5_170 =>
    lX0_works_20 nb nc fb fc n x4 x5_170 I J A B)
    else
    if x6_33 = (2 : Int32) then
    ((sX0_pop  I J A B).bind fun (r_87, I) =>
    (sX0_push ((1 : Int64) - r_87) I J A B).bind fun (I, B) =>
    gv (x5 + 2) fun x5_170 =>
    lX0_works_20 nb nc fb fc n x4 x5_170 I J A B)
    else
    gv (fun (I : Nat → Int32) (B : Nat → Nat → Int64) =>
    (sX0_pop  I J A B).bind fun (r_114, I) =>
    gv (if x6_33 = (260 : Int32) then (1 : Int32) else (0 : Int32)) fun v_134 =>
    if (lg_cmp r_114 (v_134.toInt64)) = 0 then
    ((sX0_push r_114 I J A B).bind fun (I, B) =>
    gv (if x5 < (x7_41 - (2 : Int32)) then (x7_41 - (2 : Int32)) else x5) fun x5_154 =>
    gv (x5_154 + 2) fun x5_170 =>
    lX0_works_20 nb nc fb fc n x4 x5_170 I J A B)
    else
    gv (x5 + 2) fun x5_170 =>
    lX0_works_20 nb nc fb fc n x4 x5_170 I J A B) fun k_113 =>
    if x6_33 = (261 : Int32) then
    (k_113 I B)
    else
    if x6_33 = (260 : Int32) then
    (k_113 I B)
    else
    (sX0_joins x6_33 I J A B).bind fun (r_162, I, B) =>
    if r_162 = 0 then
    (some (.inl (I, B)))
    else
    gv (x5 + 2) fun x5_170 =>
    lX0_works_20 nb nc fb fc n x4 x5_170 I J A B
def sX0_works (nb nc : Nat) (fb fc : Nat → Int32) (x2 : Int32) (x3 : Int32) (I : Nat → Int32) (J : Nat → Int64) (A : Nat → Nat → Int32) (B : Nat → Nat → Int64) : Option ((Int32) × (Nat → Int32) × (Nat → Nat → Int64)) :=
gv (upd I 98 (0 : Int32)) fun I =>
gv (if (Int32.ofNat nc) < x3 then (Int32.ofNat nc) else x3) fun x4_11 =>
gv (if x2 < (0 : Int32) then (0 : Int32) else x2) fun x5_18 =>
(lX0_works_20 nb nc fb fc FU x4_11 x5_18 I J A B).bind fun o_20 => match o_20 with
| .inl (I, B) =>
some ((0 : Int32), I, B)
| .inr (I, B) =>
some ((1 : Int32), I, B)
set_option maxRecDepth 100000 in
set_option maxHeartbeats 8000000 in
theorem kX0_works (l : Launch) (D : va_G) (cy : Nat → ClassId) (P0 : Nat → Prop) (q z : Nat → Nat) (tl : va_W) (xx : (Nat → Option Nat) × (Nat → Option Nat) × Nat) (ta tb tc nb nc : Nat) (fb fc : Nat → Int32) (x2 : Int32) (x3 : Int32) (I : Nat → Int32) (J : Nat → Int64) (A : Nat → Nat → Int32) (B : Nat → Nat → Int64) (r : Int32) (I2 : Nat → Int32) (B2 : Nat → Nat → Int64) (hs : sX0_works nb nc fb fc x2 x3 I J A B = some (r, I2, B2)) : McC l yX0_works cX0_works 10 (some .boolean) 2 [.ref (q 5), .ref tc, .int x2, .int x3] D cy P0 q z (TC cy ta tb tc nb nc fb fc ++ tl) xx I J A B (some (.int r)) xx I2 J A B2 := by
  refine C_start rfl (Nat.le_of_ble_eq_true rfl) ?_
  intro p e s m args below meth c H locs C hI ls hl
  have hl : lv_has ls 10 [(0, .ref (q 5)), (1, .ref tc), (2, .int x2), (3, .int x3)] := hl
  rw [sX0_works] at hs
  refine lv_aload_n C.1 C.2.1 dX0_works_0 rfl (lv_at hl 0 rfl) ?_
  refine lv_iconst (v := 0) C.1 C.2.1 dX0_works_1 (by decide) ?_
  refine cp_X0_98 C hI dX0_works_2 (fun H locs hI => ?_)
  have hs := gv_be hs
  refine lv_iload_n C.1 C.2.1 dX0_works_5 rfl (lv_at hl 3 rfl) ?_
  refine lv_aload_n C.1 C.2.1 dX0_works_6 rfl (lv_at hl 1 rfl) ?_
  refine cl_text_c C hI dX0_works_7 ?_
  refine c_min C hl.1 ml_X0_82 (by decide) (Nat.le_of_ble_eq_true rfl) dX0_works_8 ?_
  refine lv_topi (fun x4_11 ex4_11 => ?_)
  have hs := gv_at ex4_11 hs
  refine lv_istore (lv' := [(4, .int x4_11), (0, .ref (q 5)), (1, .ref tc), (2, .int x2), (3, .int x3)]) C.1 C.2.1 dX0_works_11 hl (by decide) rfl (fun ls hl => ?_)
  refine lv_iload_n C.1 C.2.1 dX0_works_13 rfl (lv_at hl 3 rfl) ?_
  refine lv_iconst (v := 0) C.1 C.2.1 dX0_works_14 (by decide) ?_
  refine c_max C hl.1 ml_X0_87 (by decide) (Nat.le_of_ble_eq_true rfl) dX0_works_15 ?_
  refine lv_topi (fun x5_18 ex5_18 => ?_)
  have hs := gv_at ex5_18 hs
  refine lv_istore (lv' := [(5, .int x5_18), (4, .int x4_11), (0, .ref (q 5)), (1, .ref tc), (2, .int x2), (3, .int x3)]) C.1 C.2.1 dX0_works_18 hl (by decide) rfl (fun ls hl => ?_)
  have KL_20 : ∀ (n : Nat) (x4 : Int32) (x5 : Int32) (I : Nat → Int32) (J : Nat → Int64) (A : Nat → Nat → Int32) (B : Nat → Nat → Int64) (o : ((Nat → Int32) × (Nat → Nat → Int64)) ⊕ ((Nat → Int32) × (Nat → Nat → Int64))) (Q : State → Prop) (H : Heap) (locs : List Loc) (ls : Array Slot), lX0_works_20 nb nc fb fc n x4 x5 I J A B = some o → CI D cy s P0 s.heap H locs q z (TC cy ta tb tc nb nc fb fc ++ tl) xx I J A B → lv_has ls 10 [(0, .ref (q 5)), (1, .ref tc), (4, .int x4), (5, .int x5)] → (∀ (I_0 : Nat → Int32) (B_0 : Nat → Nat → Int64) (H : Heap) (locs : List Loc) (ls : Array Slot), o = (.inl (I_0, B_0)) → CI D cy s P0 s.heap H locs q z (TC cy ta tb tc nb nc fb fc ++ tl) xx I_0 J A B_0 → lv_has ls 10 [] → W p l e (rmL 2) s m args below meth c H locs 0 0 Q (F0 m 168 ls [])) → (∀ (I_1 : Nat → Int32) (B_1 : Nat → Nat → Int64) (H : Heap) (locs : List Loc) (ls : Array Slot), o = (.inr (I_1, B_1)) → CI D cy s P0 s.heap H locs q z (TC cy ta tb tc nb nc fb fc ++ tl) xx I_1 J A B_1 → lv_has ls 10 [] → W p l e (rmL 2) s m args below meth c H locs 0 0 Q (F0 m 176 ls [])) → W p l e (rmL 2) s m args below meth c H locs 0 0 Q (F0 m 20 ls []) := by
    intro n; induction n with
    | zero => intro x4 x5 I J A B o Q H locs ls hs; rw [lX0_works_20] at hs; cases hs
    | succ n ih =>
      intro x4 x5 I J A B o Q H locs ls hs hI hl kk0 kk1
      rw [lX0_works_20] at hs
      refine lv_iload C.1 C.2.1 dX0_works_20 (lv_at hl 3 rfl) ?_
      refine lv_iconst (v := 1) C.1 C.2.1 dX0_works_22 (by decide) ?_
      refine lv_iadd C.1 C.2.1 dX0_works_23 ?_
      refine lv_iload C.1 C.2.1 dX0_works_24 (lv_at hl 2 rfl) ?_
      refine lv_icmp_ge (tgt := 176) C.1 C.2.1 dX0_works_26 (by decide) (fun cn => ?_) (fun cn => ?_)
      · have hs := if_t cn hs
        have eo := (Option.some.inj hs).symm
        exact kk1 _ _ _ _ _ eo hI (lv_sub hl [] rfl)
      · have hs := if_f cn hs
        refine lv_aload_n C.1 C.2.1 dX0_works_29 rfl (lv_at hl 1 rfl) ?_
        refine lv_iload C.1 C.2.1 dX0_works_30 (lv_at hl 3 rfl) ?_
        obtain ⟨hk, hs⟩ := ck_e hs
        refine ca_text_c C hI hk dX0_works_32 ?_
        refine lv_topi (fun x6_33 ex6_33 => ?_)
        have hs := gv_at ex6_33 hs
        refine lv_istore (lv' := [(6, .int x6_33), (0, .ref (q 5)), (1, .ref tc), (4, .int x4), (5, .int x5)]) C.1 C.2.1 dX0_works_33 hl (by decide) rfl (fun ls hl => ?_)
        refine lv_aload_n C.1 C.2.1 dX0_works_35 rfl (lv_at hl 2 rfl) ?_
        refine lv_iload C.1 C.2.1 dX0_works_36 (lv_at hl 4 rfl) ?_
        refine lv_iconst (v := 1) C.1 C.2.1 dX0_works_38 (by decide) ?_
        refine lv_iadd C.1 C.2.1 dX0_works_39 ?_
        obtain ⟨hk, hs⟩ := ck_e hs
        refine ca_text_c C hI hk dX0_works_40 ?_
        refine lv_topi (fun x7_41 ex7_41 => ?_)
        have hs := gv_at ex7_41 hs
        refine lv_istore (lv' := [(7, .int x7_41), (6, .int x6_33), (0, .ref (q 5)), (1, .ref tc), (4, .int x4), (5, .int x5)]) C.1 C.2.1 dX0_works_41 hl (by decide) rfl (fun ls hl => ?_)
        refine lv_iload C.1 C.2.1 dX0_works_43 (lv_at hl 1 rfl) ?_
        refine lv_if_ne (tgt := 58) C.1 C.2.1 dX0_works_45 (by decide) (fun cn => ?_) (fun cn => ?_)
        · have hs := if_f cn hs
          refine lv_iload C.1 C.2.1 dX0_works_58 (lv_at hl 1 rfl) ?_
          refine lv_iconst (v := 1) C.1 C.2.1 dX0_works_60 (by decide) ?_
          refine lv_icmp_ne (tgt := 78) C.1 C.2.1 dX0_works_61 (by decide) (fun cn => ?_) (fun cn => ?_)
          · have hs := if_f cn hs
            refine lv_iload C.1 C.2.1 dX0_works_78 (lv_at hl 1 rfl) ?_
            refine lv_iconst (v := 2) C.1 C.2.1 dX0_works_80 (by decide) ?_
            refine lv_icmp_ne (tgt := 97) C.1 C.2.1 dX0_works_81 (by decide) (fun cn => ?_) (fun cn => ?_)
            · have hs := if_f cn hs
              refine lv_iload C.1 C.2.1 dX0_works_97 (lv_at hl 1 rfl) ?_
              refine lv_sipush (v := 261) C.1 C.2.1 dX0_works_99 (by decide) ?_
              obtain ⟨k_113, ek_113, hs⟩ := gv_ex hs
              have KJ_113 : ∀ (I : Nat → Int32) (B : Nat → Nat → Int64) (H : Heap) (locs : List Loc) (ls : Array Slot), k_113 I B = some o → CI D cy s P0 s.heap H locs q z (TC cy ta tb tc nb nc fb fc ++ tl) xx I J A B → lv_has ls 10 [(0, .ref (q 5)), (1, .ref tc), (4, .int x4), (5, .int x5), (6, .int x6_33), (7, .int x7_41)] → W p l e (rmL 2) s m args below meth c H locs 0 0 Q (F0 m 113 ls []) := by
                intro I B H locs ls hs hI hl
                rw [ek_113] at hs
                refine lv_aload_n C.1 C.2.1 dX0_works_113 rfl (lv_at hl 0 rfl) ?_
                obtain ⟨⟨r_114, I⟩, hc, hs⟩ := bd_e hs
                refine C_call C hI (kX0_pop l D cy P0 q z _ xx _ _ _ _ _ _ hc) (rv_X0 hI) ml_X0_97 im_X0_pop se_X0_pop ini_X0 co_X0_pop hyX0_pop rfl ⟨by decide, by decide⟩ hl.1 rfl (Nat.le_of_ble_eq_true rfl) dX0_works_114 (fun H locs hI => ?_)
                refine lv_lstore (lv' := [(8, .long r_114), (0, .ref (q 5)), (1, .ref tc), (4, .int x4), (5, .int x5), (6, .int x6_33), (7, .int x7_41)]) C.1 C.2.1 dX0_works_117 hl (by decide) rfl (fun ls hl => ?_)
                refine lv_lload C.1 C.2.1 dX0_works_119 (lv_at hl 0 rfl) ?_
                refine lv_iload C.1 C.2.1 dX0_works_121 (lv_at hl 5 rfl) ?_
                refine lv_sipush (v := 260) C.1 C.2.1 dX0_works_123 (by decide) ?_
                obtain ⟨v_134, ev_134, hs⟩ := gv_ex hs
                have KP_134 : W p l e (rmL 2) s m args below meth c H locs 0 0 Q (F0 m 134 ls [.int v_134, .long r_114]) := by
                  refine lv_i2l C.1 C.2.1 dX0_works_134 rfl ?_
                  refine W.lcmp C.1 C.2.1 dX0_works_135 ?_
                  refine lv_if_ne (tgt := 156) C.1 C.2.1 dX0_works_136 (by decide) (fun cn => ?_) (fun cn => ?_)
                  · have hs := if_f cn hs
                    refine lv_goto (tgt := 170) C.1 C.2.1 dX0_works_156 (by decide) ?_
                    obtain ⟨x5_170, ex5_170⟩ : ∃ y : Int32, y = (x5 + 2) := ⟨_, rfl⟩
                    have hs := gv_at ex5_170 hs
                    refine lv_iinc (v := x5_170) (lv' := [(5, .int x5_170), (8, .long r_114), (0, .ref (q 5)), (1, .ref tc), (4, .int x4), (6, .int x6_33), (7, .int x7_41)]) C.1 C.2.1 dX0_works_170 hl (k := 4) rfl (by rw [ex5_170]; rfl) (by decide) rfl (fun ls hl => ?_)
                    refine lv_goto (tgt := 20) C.1 C.2.1 dX0_works_173 (by decide) ?_
                    exact ih _ _ _ _ _ _ _ _ _ _ _ hs hI (lv_sub hl [2, 3, 4, 0] rfl) kk0 kk1
                  · have hs := if_t cn hs
                    refine lv_aload_n C.1 C.2.1 dX0_works_139 rfl (lv_at hl 1 rfl) ?_
                    refine lv_lload C.1 C.2.1 dX0_works_140 (lv_at hl 0 rfl) ?_
                    obtain ⟨⟨I, B⟩, hc, hs⟩ := bd_e hs
                    refine C_call C hI (kX0_push l D cy P0 q z _ xx _ _ _ _ _ _ _ hc) (rv_X0 hI) ml_X0_90 im_X0_push se_X0_push ini_X0 co_X0_push hyX0_push rfl ⟨by decide, by decide⟩ hl.1 rfl (Nat.le_of_ble_eq_true rfl) dX0_works_142 (fun H locs hI => ?_)
                    refine lv_iload C.1 C.2.1 dX0_works_145 (lv_at hl 4 rfl) ?_
                    refine lv_iload C.1 C.2.1 dX0_works_147 (lv_at hl 6 rfl) ?_
                    refine lv_iconst (v := 2) C.1 C.2.1 dX0_works_149 (by decide) ?_
                    refine lv_isub C.1 C.2.1 dX0_works_150 ?_
                    refine c_max C hl.1 ml_X0_87 (by decide) (Nat.le_of_ble_eq_true rfl) dX0_works_151 ?_
                    refine lv_topi (fun x5_154 ex5_154 => ?_)
                    have hs := gv_at ex5_154 hs
                    refine lv_istore (lv' := [(5, .int x5_154), (8, .long r_114), (0, .ref (q 5)), (1, .ref tc), (4, .int x4), (6, .int x6_33), (7, .int x7_41)]) C.1 C.2.1 dX0_works_154 hl (by decide) rfl (fun ls hl => ?_)
                    refine lv_goto (tgt := 170) C.1 C.2.1 dX0_works_156 (by decide) ?_
                    obtain ⟨x5_170, ex5_170⟩ : ∃ y : Int32, y = (x5_154 + 2) := ⟨_, rfl⟩
                    have hs := gv_at ex5_170 hs
                    refine lv_iinc (v := x5_170) (lv' := [(5, .int x5_170), (8, .long r_114), (0, .ref (q 5)), (1, .ref tc), (4, .int x4), (6, .int x6_33), (7, .int x7_41)]) C.1 C.2.1 dX0_works_170 hl (k := 0) rfl (by rw [ex5_170]; rfl) (by decide) rfl (fun ls hl => ?_)
                    refine lv_goto (tgt := 20) C.1 C.2.1 dX0_works_173 (by decide) ?_
                    exact ih _ _ _ _ _ _ _ _ _ _ _ hs hI (lv_sub hl [2, 3, 4, 0] rfl) kk0 kk1
                refine lv_icmp_ne (tgt := 133) C.1 C.2.1 dX0_works_126 (by decide) (fun cn => ?_) (fun cn => ?_)
                · have ev_134 := if_f' cn ev_134
                  refine lv_iconst (v := 0) C.1 C.2.1 dX0_works_133 (by decide) ?_
                  subst ev_134
                  exact KP_134
                · have ev_134 := if_t' cn ev_134
                  refine lv_iconst (v := 1) C.1 C.2.1 dX0_works_129 (by decide) ?_
                  refine lv_goto (tgt := 134) C.1 C.2.1 dX0_works_130 (by decide) ?_
                  subst ev_134
                  exact KP_134
              refine lv_icmp_eq (tgt := 113) C.1 C.2.1 dX0_works_102 (by decide) (fun cn => ?_) (fun cn => ?_)
              · have hs := if_t cn hs
                exact KJ_113 _ _ _ _ _ hs hI (lv_sub hl [2, 3, 4, 5, 1, 0] rfl)
              · have hs := if_f cn hs
                refine lv_iload C.1 C.2.1 dX0_works_105 (lv_at hl 1 rfl) ?_
                refine lv_sipush (v := 260) C.1 C.2.1 dX0_works_107 (by decide) ?_
                refine lv_icmp_ne (tgt := 159) C.1 C.2.1 dX0_works_110 (by decide) (fun cn => ?_) (fun cn => ?_)
                · have hs := if_f cn hs
                  refine lv_aload_n C.1 C.2.1 dX0_works_159 rfl (lv_at hl 2 rfl) ?_
                  refine lv_iload C.1 C.2.1 dX0_works_160 (lv_at hl 1 rfl) ?_
                  obtain ⟨⟨r_162, I, B⟩, hc, hs⟩ := bd_e hs
                  refine C_call C hI (kX0_joins l D cy P0 q z _ xx _ _ _ _ _ _ _ _ hc) (rv_X0 hI) ml_X0_103 im_X0_joins se_X0_joins ini_X0 co_X0_joins hyX0_joins rfl ⟨by decide, by decide⟩ hl.1 rfl (Nat.le_of_ble_eq_true rfl) dX0_works_162 (fun H locs hI => ?_)
                  refine lv_if_ne (tgt := 170) C.1 C.2.1 dX0_works_165 (by decide) (fun cn => ?_) (fun cn => ?_)
                  · have hs := if_f cn hs
                    obtain ⟨x5_170, ex5_170⟩ : ∃ y : Int32, y = (x5 + 2) := ⟨_, rfl⟩
                    have hs := gv_at ex5_170 hs
                    refine lv_iinc (v := x5_170) (lv' := [(5, .int x5_170), (7, .int x7_41), (6, .int x6_33), (0, .ref (q 5)), (1, .ref tc), (4, .int x4)]) C.1 C.2.1 dX0_works_170 hl (k := 5) rfl (by rw [ex5_170]; rfl) (by decide) rfl (fun ls hl => ?_)
                    refine lv_goto (tgt := 20) C.1 C.2.1 dX0_works_173 (by decide) ?_
                    exact ih _ _ _ _ _ _ _ _ _ _ _ hs hI (lv_sub hl [3, 4, 5, 0] rfl) kk0 kk1
                  · have hs := if_t cn hs
                    have eo := (Option.some.inj hs).symm
                    exact kk0 _ _ _ _ _ eo hI (lv_sub hl [] rfl)
                · have hs := if_t cn hs
                  exact KJ_113 _ _ _ _ _ hs hI (lv_sub hl [2, 3, 4, 5, 1, 0] rfl)
            · have hs := if_t cn hs
              refine lv_aload_n C.1 C.2.1 dX0_works_84 rfl (lv_at hl 2 rfl) ?_
              refine lv_lconst (v := 1) C.1 C.2.1 dX0_works_85 (by decide) ?_
              refine lv_aload_n C.1 C.2.1 dX0_works_86 rfl (lv_at hl 2 rfl) ?_
              obtain ⟨⟨r_87, I⟩, hc, hs⟩ := bd_e hs
              refine C_call C hI (kX0_pop l D cy P0 q z _ xx _ _ _ _ _ _ hc) (rv_X0 hI) ml_X0_97 im_X0_pop se_X0_pop ini_X0 co_X0_pop hyX0_pop rfl ⟨by decide, by decide⟩ hl.1 rfl (Nat.le_of_ble_eq_true rfl) dX0_works_87 (fun H locs hI => ?_)
              refine lv_lsub C.1 C.2.1 dX0_works_90 ?_
              obtain ⟨⟨I, B⟩, hc, hs⟩ := bd_e hs
              refine C_call C hI (kX0_push l D cy P0 q z _ xx _ _ _ _ _ _ _ hc) (rv_X0 hI) ml_X0_90 im_X0_push se_X0_push ini_X0 co_X0_push hyX0_push rfl ⟨by decide, by decide⟩ hl.1 rfl (Nat.le_of_ble_eq_true rfl) dX0_works_91 (fun H locs hI => ?_)
              refine lv_goto (tgt := 170) C.1 C.2.1 dX0_works_94 (by decide) ?_
              obtain ⟨x5_170, ex5_170⟩ : ∃ y : Int32, y = (x5 + 2) := ⟨_, rfl⟩
              have hs := gv_at ex5_170 hs
              refine lv_iinc (v := x5_170) (lv' := [(5, .int x5_170), (7, .int x7_41), (6, .int x6_33), (0, .ref (q 5)), (1, .ref tc), (4, .int x4)]) C.1 C.2.1 dX0_works_170 hl (k := 5) rfl (by rw [ex5_170]; rfl) (by decide) rfl (fun ls hl => ?_)
              refine lv_goto (tgt := 20) C.1 C.2.1 dX0_works_173 (by decide) ?_
              exact ih _ _ _ _ _ _ _ _ _ _ _ hs hI (lv_sub hl [3, 4, 5, 0] rfl) kk0 kk1
          · have hs := if_t cn hs
            refine lv_aload_n C.1 C.2.1 dX0_works_64 rfl (lv_at hl 2 rfl) ?_
            refine lv_aload_n C.1 C.2.1 dX0_works_65 rfl (lv_at hl 2 rfl) ?_
            refine lv_iload C.1 C.2.1 dX0_works_66 (lv_at hl 0 rfl) ?_
            obtain ⟨r_68, hc, hs⟩ := bd_e hs
            refine C_call C hI (kX0_valueOf l D cy P0 q z _ xx _ _ _ _ _ _ hc) (rv_X0 hI) ml_X0_94 im_X0_valueOf se_X0_valueOf ini_X0 co_X0_valueOf hyX0_valueOf rfl ⟨by decide, by decide⟩ hl.1 rfl (Nat.le_of_ble_eq_true rfl) dX0_works_68 (fun H locs hI => ?_)
            refine lv_i2l C.1 C.2.1 dX0_works_71 rfl ?_
            obtain ⟨⟨I, B⟩, hc, hs⟩ := bd_e hs
            refine C_call C hI (kX0_push l D cy P0 q z _ xx _ _ _ _ _ _ _ hc) (rv_X0 hI) ml_X0_90 im_X0_push se_X0_push ini_X0 co_X0_push hyX0_push rfl ⟨by decide, by decide⟩ hl.1 rfl (Nat.le_of_ble_eq_true rfl) dX0_works_72 (fun H locs hI => ?_)
            refine lv_goto (tgt := 170) C.1 C.2.1 dX0_works_75 (by decide) ?_
            obtain ⟨x5_170, ex5_170⟩ : ∃ y : Int32, y = (x5 + 2) := ⟨_, rfl⟩
            have hs := gv_at ex5_170 hs
            refine lv_iinc (v := x5_170) (lv' := [(5, .int x5_170), (7, .int x7_41), (6, .int x6_33), (0, .ref (q 5)), (1, .ref tc), (4, .int x4)]) C.1 C.2.1 dX0_works_170 hl (k := 5) rfl (by rw [ex5_170]; rfl) (by decide) rfl (fun ls hl => ?_)
            refine lv_goto (tgt := 20) C.1 C.2.1 dX0_works_173 (by decide) ?_
            exact ih _ _ _ _ _ _ _ _ _ _ _ hs hI (lv_sub hl [3, 4, 5, 0] rfl) kk0 kk1
        · have hs := if_t cn hs
          refine lv_aload_n C.1 C.2.1 dX0_works_48 rfl (lv_at hl 2 rfl) ?_
          refine lv_iload C.1 C.2.1 dX0_works_49 (lv_at hl 0 rfl) ?_
          refine lv_i2l C.1 C.2.1 dX0_works_51 rfl ?_
          obtain ⟨⟨I, B⟩, hc, hs⟩ := bd_e hs
          refine C_call C hI (kX0_push l D cy P0 q z _ xx _ _ _ _ _ _ _ hc) (rv_X0 hI) ml_X0_90 im_X0_push se_X0_push ini_X0 co_X0_push hyX0_push rfl ⟨by decide, by decide⟩ hl.1 rfl (Nat.le_of_ble_eq_true rfl) dX0_works_52 (fun H locs hI => ?_)
          refine lv_goto (tgt := 170) C.1 C.2.1 dX0_works_55 (by decide) ?_
          obtain ⟨x5_170, ex5_170⟩ : ∃ y : Int32, y = (x5 + 2) := ⟨_, rfl⟩
          have hs := gv_at ex5_170 hs
          refine lv_iinc (v := x5_170) (lv' := [(5, .int x5_170), (7, .int x7_41), (6, .int x6_33), (0, .ref (q 5)), (1, .ref tc), (4, .int x4)]) C.1 C.2.1 dX0_works_170 hl (k := 5) rfl (by rw [ex5_170]; rfl) (by decide) rfl (fun ls hl => ?_)
          refine lv_goto (tgt := 20) C.1 C.2.1 dX0_works_173 (by decide) ?_
          exact ih _ _ _ _ _ _ _ _ _ _ _ hs hI (lv_sub hl [3, 4, 5, 0] rfl) kk0 kk1
  obtain ⟨o_20, hL, hs⟩ := bd_e hs
  refine KL_20 FU _ _ _ _ _ _ _ _ _ _ _ hL hI (lv_sub hl [2, 3, 1, 0] rfl) (fun I B H locs ls eo hI hl => ?_) (fun I B H locs ls eo hI hl => ?_)
  · rw [eo] at hs
    refine lv_iconst (v := 0) C.1 C.2.1 dX0_works_168 (by decide) ?_
    obtain ⟨rfl, rfl, rfl⟩ := so3 hs
    exact C_zret C hI (by decide) dX0_works_169
  · rw [eo] at hs
    refine lv_iconst (v := 1) C.1 C.2.1 dX0_works_176 (by decide) ?_
    obtain ⟨rfl, rfl, rfl⟩ := so3 hs
    exact C_zret C hI (by decide) dX0_works_177
def sX0_isHolding (nb nc : Nat) (fb fc : Nat → Int32) (x2 : Int32) (I : Nat → Int32) (J : Nat → Int64) (A : Nat → Nat → Int32) (B : Nat → Nat → Int64) : Option ((Int32) × (Nat → Int32) × (Nat → Int64) × (Nat → Nat → Int64)) :=
ck (inB (x2 + (1 : Int32)) nb) <|
gv (fb (ix (x2 + (1 : Int32)))) fun x3_8 =>
ck (inB (x2 + (2 : Int32)) nb) <|
gv (fb (ix (x2 + (2 : Int32)))) fun x4_17 =>
ck (inB (x2 + (3 : Int32)) nb) <|
gv (fb (ix (x2 + (3 : Int32)))) fun x5_27 =>
gv (fun (y0_j67 : Int32) (I : Nat → Int32) (J : Nat → Int64) (B : Nat → Nat → Int64) =>
if y0_j67 = 0 then
(some ((0 : Int32), I, J, B))
else
(sX0_works nb nc fb fc x3_8 x4_17 I J A B).bind fun (r_82, I, B) =>
if r_82 = 0 then
(some ((0 : Int32), I, J, B))
else
gv (if x3_8 = x4_17 then (0 : Int64) else (B 97 (ix (0 : Int32)))) fun v_107 =>
gv (vp_updL J 95 v_107) fun J =>
some ((1 : Int32), I, J, B)) fun k_67 =>
gv (fun (I : Nat → Int32) (J : Nat → Int64) (B : Nat → Nat → Int64) =>
k_67 (1 : Int32) I J B) fun k_62 =>
if x4_17 = x5_27 then
(k_62 I J B)
else
(sX0_works nb nc fb fc x4_17 x5_27 I J A B).bind fun (r_45, I, B) =>
gv (fun (I : Nat → Int32) (J : Nat → Int64) (B : Nat → Nat → Int64) =>
k_67 (0 : Int32) I J B) fun k_66 =>
if r_45 = 0 then
(k_66 I J B)
else
if (lg_cmp (B 97 (ix (0 : Int32))) (0 : Int64)) = 0 then
(k_66 I J B)
else
k_62 I J B
set_option maxRecDepth 100000 in
set_option maxHeartbeats 8000000 in
theorem kX0_isHolding (l : Launch) (D : va_G) (cy : Nat → ClassId) (P0 : Nat → Prop) (q z : Nat → Nat) (tl : va_W) (xx : (Nat → Option Nat) × (Nat → Option Nat) × Nat) (ta tb tc nb nc : Nat) (fb fc : Nat → Int32) (x2 : Int32) (I : Nat → Int32) (J : Nat → Int64) (A : Nat → Nat → Int32) (B : Nat → Nat → Int64) (r : Int32) (I2 : Nat → Int32) (J2 : Nat → Int64) (B2 : Nat → Nat → Int64) (hs : sX0_isHolding nb nc fb fc x2 I J A B = some (r, I2, J2, B2)) : McC l yX0_isHolding cX0_isHolding 7 (some .boolean) 3 [.ref (q 5), .ref ta, .int x2] D cy P0 q z (TC cy ta tb tc nb nc fb fc ++ tl) xx I J A B (some (.int r)) xx I2 J2 A B2 := by
  refine C_start rfl (Nat.le_of_ble_eq_true rfl) ?_
  intro p e s m args below meth c H locs C hI ls hl
  have hl : lv_has ls 7 [(0, .ref (q 5)), (1, .ref ta), (2, .int x2)] := hl
  rw [sX0_isHolding] at hs
  refine lv_aload_n C.1 C.2.1 dX0_isHolding_0 rfl (lv_at hl 1 rfl) ?_
  refine cg_X0_text_b C hI dX0_isHolding_1 ?_
  refine lv_iload_n C.1 C.2.1 dX0_isHolding_4 rfl (lv_at hl 2 rfl) ?_
  refine lv_iconst (v := 1) C.1 C.2.1 dX0_isHolding_5 (by decide) ?_
  refine lv_iadd C.1 C.2.1 dX0_isHolding_6 ?_
  obtain ⟨hk, hs⟩ := ck_e hs
  refine ca_text_b C hI hk dX0_isHolding_7 ?_
  refine lv_topi (fun x3_8 ex3_8 => ?_)
  have hs := gv_at ex3_8 hs
  refine lv_istore_n (lv' := [(3, .int x3_8), (0, .ref (q 5)), (1, .ref ta), (2, .int x2)]) C.1 C.2.1 dX0_isHolding_8 rfl hl (by decide) rfl (fun ls hl => ?_)
  refine lv_aload_n C.1 C.2.1 dX0_isHolding_9 rfl (lv_at hl 2 rfl) ?_
  refine cg_X0_text_b C hI dX0_isHolding_10 ?_
  refine lv_iload_n C.1 C.2.1 dX0_isHolding_13 rfl (lv_at hl 3 rfl) ?_
  refine lv_iconst (v := 2) C.1 C.2.1 dX0_isHolding_14 (by decide) ?_
  refine lv_iadd C.1 C.2.1 dX0_isHolding_15 ?_
  obtain ⟨hk, hs⟩ := ck_e hs
  refine ca_text_b C hI hk dX0_isHolding_16 ?_
  refine lv_topi (fun x4_17 ex4_17 => ?_)
  have hs := gv_at ex4_17 hs
  refine lv_istore (lv' := [(4, .int x4_17), (3, .int x3_8), (0, .ref (q 5)), (1, .ref ta), (2, .int x2)]) C.1 C.2.1 dX0_isHolding_17 hl (by decide) rfl (fun ls hl => ?_)
  refine lv_aload_n C.1 C.2.1 dX0_isHolding_19 rfl (lv_at hl 3 rfl) ?_
  refine cg_X0_text_b C hI dX0_isHolding_20 ?_
  refine lv_iload_n C.1 C.2.1 dX0_isHolding_23 rfl (lv_at hl 4 rfl) ?_
  refine lv_iconst (v := 3) C.1 C.2.1 dX0_isHolding_24 (by decide) ?_
  refine lv_iadd C.1 C.2.1 dX0_isHolding_25 ?_
  obtain ⟨hk, hs⟩ := ck_e hs
  refine ca_text_b C hI hk dX0_isHolding_26 ?_
  refine lv_topi (fun x5_27 ex5_27 => ?_)
  have hs := gv_at ex5_27 hs
  refine lv_istore (lv' := [(5, .int x5_27), (4, .int x4_17), (3, .int x3_8), (0, .ref (q 5)), (1, .ref ta), (2, .int x2)]) C.1 C.2.1 dX0_isHolding_27 hl (by decide) rfl (fun ls hl => ?_)
  refine lv_iload C.1 C.2.1 dX0_isHolding_29 (lv_at hl 1 rfl) ?_
  refine lv_iload C.1 C.2.1 dX0_isHolding_31 (lv_at hl 0 rfl) ?_
  obtain ⟨k_67, ek_67, hs⟩ := gv_ex hs
  have KJ_67 : ∀ (y0_j67 : Int32) (I : Nat → Int32) (J : Nat → Int64) (B : Nat → Nat → Int64) (H : Heap) (locs : List Loc) (ls : Array Slot), k_67 y0_j67 I J B = some (r, I2, J2, B2) → CI D cy s P0 s.heap H locs q z (TC cy ta tb tc nb nc fb fc ++ tl) xx I J A B → lv_has ls 7 [(0, .ref (q 5)), (1, .ref ta), (3, .int x3_8), (4, .int x4_17)] → W p l e (rmL 3) s m args below meth c H locs 0 0 (MQ below (cQ D cy P0 q (TC cy ta tb tc nb nc fb fc ++ tl) (some (.int r)) xx I2 J2 A B2) args s 0 0 P0) (F0 m 67 ls [.int y0_j67]) := by
    intro y0_j67 I J B H locs ls hs hI hl
    rw [ek_67] at hs
    refine lv_istore (lv' := [(6, .int y0_j67), (0, .ref (q 5)), (1, .ref ta), (3, .int x3_8), (4, .int x4_17)]) C.1 C.2.1 dX0_isHolding_67 hl (by decide) rfl (fun ls hl => ?_)
    refine lv_iload C.1 C.2.1 dX0_isHolding_69 (lv_at hl 0 rfl) ?_
    refine lv_if_eq (tgt := 88) C.1 C.2.1 dX0_isHolding_71 (by decide) (fun cn => ?_) (fun cn => ?_)
    · have hs := if_t cn hs
      refine lv_iconst (v := 0) C.1 C.2.1 dX0_isHolding_88 (by decide) ?_
      obtain ⟨rfl, rfl, rfl, rfl⟩ := so4 hs
      exact C_zret C hI (by decide) dX0_isHolding_89
    · have hs := if_f cn hs
      refine lv_aload_n C.1 C.2.1 dX0_isHolding_74 rfl (lv_at hl 1 rfl) ?_
      refine lv_aload_n C.1 C.2.1 dX0_isHolding_75 rfl (lv_at hl 2 rfl) ?_
      refine cg_X0_text_c C hI dX0_isHolding_76 ?_
      refine lv_iload_n C.1 C.2.1 dX0_isHolding_79 rfl (lv_at hl 3 rfl) ?_
      refine lv_iload C.1 C.2.1 dX0_isHolding_80 (lv_at hl 4 rfl) ?_
      obtain ⟨⟨r_82, I, B⟩, hc, hs⟩ := bd_e hs
      refine C_call C hI (kX0_works l D cy P0 q z tl xx ta tb tc nb nc fb fc _ _ _ _ _ _ _ _ _ hc) (rv_X0 hI) ml_X0_78 im_X0_works se_X0_works ini_X0 co_X0_works hyX0_works rfl ⟨by decide, by decide⟩ hl.1 rfl (Nat.le_of_ble_eq_true rfl) dX0_isHolding_82 (fun H locs hI => ?_)
      refine lv_if_ne (tgt := 90) C.1 C.2.1 dX0_isHolding_85 (by decide) (fun cn => ?_) (fun cn => ?_)
      · have hs := if_f cn hs
        refine lv_aload_n C.1 C.2.1 dX0_isHolding_90 rfl (lv_at hl 1 rfl) ?_
        refine lv_iload_n C.1 C.2.1 dX0_isHolding_91 rfl (lv_at hl 3 rfl) ?_
        refine lv_iload C.1 C.2.1 dX0_isHolding_92 (lv_at hl 4 rfl) ?_
        obtain ⟨v_107, ev_107, hs⟩ := gv_ex hs
        have KP_107 : W p l e (rmL 3) s m args below meth c H locs 0 0 (MQ below (cQ D cy P0 q (TC cy ta tb tc nb nc fb fc ++ tl) (some (.int r)) xx I2 J2 A B2) args s 0 0 P0) (F0 m 107 ls [.long v_107, .ref (q 5)]) := by
          refine cp_X0_95 C hI dX0_isHolding_107 (fun H locs hI => ?_)
          have hs := gv_be hs
          refine lv_iconst (v := 1) C.1 C.2.1 dX0_isHolding_110 (by decide) ?_
          obtain ⟨rfl, rfl, rfl, rfl⟩ := so4 hs
          exact C_zret C hI (by decide) dX0_isHolding_111
        refine lv_icmp_ne (tgt := 101) C.1 C.2.1 dX0_isHolding_94 (by decide) (fun cn => ?_) (fun cn => ?_)
        · have ev_107 := if_f' cn ev_107
          refine lv_aload_n C.1 C.2.1 dX0_isHolding_101 rfl (lv_at hl 1 rfl) ?_
          refine cg_X0_97 C hI dX0_isHolding_102 ?_
          refine lv_iconst (v := 0) C.1 C.2.1 dX0_isHolding_105 (by decide) ?_
          refine ca_97 C hI (by decide) dX0_isHolding_106 ?_
          subst ev_107
          exact KP_107
        · have ev_107 := if_t' cn ev_107
          refine lv_lconst (v := 0) C.1 C.2.1 dX0_isHolding_97 (by decide) ?_
          refine lv_goto (tgt := 107) C.1 C.2.1 dX0_isHolding_98 (by decide) ?_
          subst ev_107
          exact KP_107
      · have hs := if_t cn hs
        refine lv_iconst (v := 0) C.1 C.2.1 dX0_isHolding_88 (by decide) ?_
        obtain ⟨rfl, rfl, rfl, rfl⟩ := so4 hs
        exact C_zret C hI (by decide) dX0_isHolding_89
  obtain ⟨k_62, ek_62, hs⟩ := gv_ex hs
  have KJ_62 : ∀ (I : Nat → Int32) (J : Nat → Int64) (B : Nat → Nat → Int64) (H : Heap) (locs : List Loc) (ls : Array Slot), k_62 I J B = some (r, I2, J2, B2) → CI D cy s P0 s.heap H locs q z (TC cy ta tb tc nb nc fb fc ++ tl) xx I J A B → lv_has ls 7 [(0, .ref (q 5)), (1, .ref ta), (3, .int x3_8), (4, .int x4_17)] → W p l e (rmL 3) s m args below meth c H locs 0 0 (MQ below (cQ D cy P0 q (TC cy ta tb tc nb nc fb fc ++ tl) (some (.int r)) xx I2 J2 A B2) args s 0 0 P0) (F0 m 62 ls []) := by
    intro I J B H locs ls hs hI hl
    rw [ek_62] at hs
    refine lv_iconst (v := 1) C.1 C.2.1 dX0_isHolding_62 (by decide) ?_
    refine lv_goto (tgt := 67) C.1 C.2.1 dX0_isHolding_63 (by decide) ?_
    exact KJ_67 _ _ _ _ _ _ _ hs hI (lv_sub hl [0, 1, 2, 3] rfl)
  refine lv_icmp_eq (tgt := 62) C.1 C.2.1 dX0_isHolding_33 (by decide) (fun cn => ?_) (fun cn => ?_)
  · have hs := if_t cn hs
    exact KJ_62 _ _ _ _ _ _ hs hI (lv_sub hl [3, 4, 2, 1] rfl)
  · have hs := if_f cn hs
    refine lv_aload_n C.1 C.2.1 dX0_isHolding_36 rfl (lv_at hl 3 rfl) ?_
    refine lv_aload_n C.1 C.2.1 dX0_isHolding_37 rfl (lv_at hl 4 rfl) ?_
    refine cg_X0_text_c C hI dX0_isHolding_38 ?_
    refine lv_iload C.1 C.2.1 dX0_isHolding_41 (lv_at hl 1 rfl) ?_
    refine lv_iload C.1 C.2.1 dX0_isHolding_43 (lv_at hl 0 rfl) ?_
    obtain ⟨⟨r_45, I, B⟩, hc, hs⟩ := bd_e hs
    refine C_call C hI (kX0_works l D cy P0 q z tl xx ta tb tc nb nc fb fc _ _ _ _ _ _ _ _ _ hc) (rv_X0 hI) ml_X0_78 im_X0_works se_X0_works ini_X0 co_X0_works hyX0_works rfl ⟨by decide, by decide⟩ hl.1 rfl (Nat.le_of_ble_eq_true rfl) dX0_isHolding_45 (fun H locs hI => ?_)
    obtain ⟨k_66, ek_66, hs⟩ := gv_ex hs
    have KJ_66 : ∀ (I : Nat → Int32) (J : Nat → Int64) (B : Nat → Nat → Int64) (H : Heap) (locs : List Loc) (ls : Array Slot), k_66 I J B = some (r, I2, J2, B2) → CI D cy s P0 s.heap H locs q z (TC cy ta tb tc nb nc fb fc ++ tl) xx I J A B → lv_has ls 7 [(0, .ref (q 5)), (1, .ref ta), (3, .int x3_8), (4, .int x4_17)] → W p l e (rmL 3) s m args below meth c H locs 0 0 (MQ below (cQ D cy P0 q (TC cy ta tb tc nb nc fb fc ++ tl) (some (.int r)) xx I2 J2 A B2) args s 0 0 P0) (F0 m 66 ls []) := by
      intro I J B H locs ls hs hI hl
      rw [ek_66] at hs
      refine lv_iconst (v := 0) C.1 C.2.1 dX0_isHolding_66 (by decide) ?_
      exact KJ_67 _ _ _ _ _ _ _ hs hI (lv_sub hl [0, 1, 2, 3] rfl)
    refine lv_if_eq (tgt := 66) C.1 C.2.1 dX0_isHolding_48 (by decide) (fun cn => ?_) (fun cn => ?_)
    · have hs := if_t cn hs
      exact KJ_66 _ _ _ _ _ _ hs hI (lv_sub hl [3, 4, 2, 1] rfl)
    · have hs := if_f cn hs
      refine lv_aload_n C.1 C.2.1 dX0_isHolding_51 rfl (lv_at hl 3 rfl) ?_
      refine cg_X0_97 C hI dX0_isHolding_52 ?_
      refine lv_iconst (v := 0) C.1 C.2.1 dX0_isHolding_55 (by decide) ?_
      refine ca_97 C hI (by decide) dX0_isHolding_56 ?_
      refine lv_lconst (v := 0) C.1 C.2.1 dX0_isHolding_57 (by decide) ?_
      refine W.lcmp C.1 C.2.1 dX0_isHolding_58 ?_
      refine lv_if_eq (tgt := 66) C.1 C.2.1 dX0_isHolding_59 (by decide) (fun cn => ?_) (fun cn => ?_)
      · have hs := if_t cn hs
        exact KJ_66 _ _ _ _ _ _ hs hI (lv_sub hl [3, 4, 2, 1] rfl)
      · have hs := if_f cn hs
        exact KJ_62 _ _ _ _ _ _ hs hI (lv_sub hl [3, 4, 2, 1] rfl)
def lX0_tells_11 (nb nc : Nat) (fb fc : Nat → Int32) : Nat → Int32 → Int32 → Int32 → (Nat → Int32) → (Nat → Int64) → (Nat → Nat → Int32) → (Nat → Nat → Int64) → Option (((Nat → Int32) × (Nat → Int64) × (Nat → Nat → Int64)) ⊕ ((Nat → Int32) × (Nat → Int64) × (Nat → Nat → Int64)))
  | 0, _, _, _, _, _, _, _ => none
  | n + 1, x2, x3, x4, I, J, A, B =>
    if x4 < 0 then
    (some (.inr (I, J, B)))
    else
    ck (inB (x4 + (0 : Int32)) nb) <|
    if (fb (ix (x4 + (0 : Int32)))) = x2 then
    ((sX0_isHolding nb nc fb fc x4 I J A B).bind fun (r_33, I, J, B) =>
    if r_33 = 0 then
    (gv (x4 - x3) fun x4_45 =>
    lX0_tells_11 nb nc fb fc n x2 x3 x4_45 I J A B)
    else
    some (.inl (I, J, B)))
    else
    gv (x4 - x3) fun x4_45 =>
    lX0_tells_11 nb nc fb fc n x2 x3 x4_45 I J A B
def sX0_tells (nb nc : Nat) (fb fc : Nat → Int32) (x2 : Int32) (I : Nat → Int32) (J : Nat → Int64) (A : Nat → Nat → Int32) (B : Nat → Nat → Int64) : Option ((Int32) × (Nat → Int32) × (Nat → Int64) × (Nat → Nat → Int64)) :=
gv ((Int32.ofNat nb) - (4 : Int32)) fun x4_9 =>
(lX0_tells_11 nb nc fb fc FU x2 (4 : Int32) x4_9 I J A B).bind fun o_11 => match o_11 with
| .inl (I, J, B) =>
some ((1 : Int32), I, J, B)
| .inr (I, J, B) =>
some ((0 : Int32), I, J, B)
set_option maxRecDepth 100000 in
set_option maxHeartbeats 8000000 in
theorem kX0_tells (l : Launch) (D : va_G) (cy : Nat → ClassId) (P0 : Nat → Prop) (q z : Nat → Nat) (tl : va_W) (xx : (Nat → Option Nat) × (Nat → Option Nat) × Nat) (ta tb tc nb nc : Nat) (fb fc : Nat → Int32) (x2 : Int32) (I : Nat → Int32) (J : Nat → Int64) (A : Nat → Nat → Int32) (B : Nat → Nat → Int64) (r : Int32) (I2 : Nat → Int32) (J2 : Nat → Int64) (B2 : Nat → Nat → Int64) (hs : sX0_tells nb nc fb fc x2 I J A B = some (r, I2, J2, B2)) : McC l yX0_tells cX0_tells 5 (some .boolean) 4 [.ref (q 5), .ref ta, .int x2] D cy P0 q z (TC cy ta tb tc nb nc fb fc ++ tl) xx I J A B (some (.int r)) xx I2 J2 A B2 := by
  refine C_start rfl (Nat.le_of_ble_eq_true rfl) ?_
  intro p e s m args below meth c H locs C hI ls hl
  have hl : lv_has ls 5 [(0, .ref (q 5)), (1, .ref ta), (2, .int x2)] := hl
  rw [sX0_tells] at hs
  refine lv_iconst (v := 4) C.1 C.2.1 dX0_tells_0 (by decide) ?_
  refine lv_istore_n (lv' := [(3, .int (4 : Int32)), (0, .ref (q 5)), (1, .ref ta), (2, .int x2)]) C.1 C.2.1 dX0_tells_1 rfl hl (by decide) rfl (fun ls hl => ?_)
  refine lv_aload_n C.1 C.2.1 dX0_tells_2 rfl (lv_at hl 2 rfl) ?_
  refine cg_X0_text_b C hI dX0_tells_3 ?_
  refine cl_text_b C hI dX0_tells_6 ?_
  refine lv_iload_n C.1 C.2.1 dX0_tells_7 rfl (lv_at hl 0 rfl) ?_
  refine lv_isub C.1 C.2.1 dX0_tells_8 ?_
  refine lv_topi (fun x4_9 ex4_9 => ?_)
  have hs := gv_at ex4_9 hs
  refine lv_istore (lv' := [(4, .int x4_9), (3, .int (4 : Int32)), (0, .ref (q 5)), (1, .ref ta), (2, .int x2)]) C.1 C.2.1 dX0_tells_9 hl (by decide) rfl (fun ls hl => ?_)
  have KL_11 : ∀ (n : Nat) (x2 : Int32) (x3 : Int32) (x4 : Int32) (I : Nat → Int32) (J : Nat → Int64) (A : Nat → Nat → Int32) (B : Nat → Nat → Int64) (o : ((Nat → Int32) × (Nat → Int64) × (Nat → Nat → Int64)) ⊕ ((Nat → Int32) × (Nat → Int64) × (Nat → Nat → Int64))) (Q : State → Prop) (H : Heap) (locs : List Loc) (ls : Array Slot), lX0_tells_11 nb nc fb fc n x2 x3 x4 I J A B = some o → CI D cy s P0 s.heap H locs q z (TC cy ta tb tc nb nc fb fc ++ tl) xx I J A B → lv_has ls 5 [(0, .ref (q 5)), (1, .ref ta), (2, .int x2), (3, .int x3), (4, .int x4)] → (∀ (I_0 : Nat → Int32) (J_0 : Nat → Int64) (B_0 : Nat → Nat → Int64) (H : Heap) (locs : List Loc) (ls : Array Slot), o = (.inl (I_0, J_0, B_0)) → CI D cy s P0 s.heap H locs q z (TC cy ta tb tc nb nc fb fc ++ tl) xx I_0 J_0 A B_0 → lv_has ls 5 [] → W p l e (rmL 4) s m args below meth c H locs 0 0 Q (F0 m 39 ls [])) → (∀ (I_1 : Nat → Int32) (J_1 : Nat → Int64) (B_1 : Nat → Nat → Int64) (H : Heap) (locs : List Loc) (ls : Array Slot), o = (.inr (I_1, J_1, B_1)) → CI D cy s P0 s.heap H locs q z (TC cy ta tb tc nb nc fb fc ++ tl) xx I_1 J_1 A B_1 → lv_has ls 5 [] → W p l e (rmL 4) s m args below meth c H locs 0 0 Q (F0 m 50 ls [])) → W p l e (rmL 4) s m args below meth c H locs 0 0 Q (F0 m 11 ls []) := by
    intro n; induction n with
    | zero => intro x2 x3 x4 I J A B o Q H locs ls hs; rw [lX0_tells_11] at hs; cases hs
    | succ n ih =>
      intro x2 x3 x4 I J A B o Q H locs ls hs hI hl kk0 kk1
      rw [lX0_tells_11] at hs
      refine lv_iload C.1 C.2.1 dX0_tells_11 (lv_at hl 4 rfl) ?_
      refine lv_if_lt (tgt := 50) C.1 C.2.1 dX0_tells_13 (by decide) (fun cn => ?_) (fun cn => ?_)
      · have hs := if_t cn hs
        have eo := (Option.some.inj hs).symm
        exact kk1 _ _ _ _ _ _ eo hI (lv_sub hl [] rfl)
      · have hs := if_f cn hs
        refine lv_aload_n C.1 C.2.1 dX0_tells_16 rfl (lv_at hl 1 rfl) ?_
        refine cg_X0_text_b C hI dX0_tells_17 ?_
        refine lv_iload C.1 C.2.1 dX0_tells_20 (lv_at hl 4 rfl) ?_
        refine lv_iconst (v := 0) C.1 C.2.1 dX0_tells_22 (by decide) ?_
        refine lv_iadd C.1 C.2.1 dX0_tells_23 ?_
        obtain ⟨hk, hs⟩ := ck_e hs
        refine ca_text_b C hI hk dX0_tells_24 ?_
        refine lv_iload_n C.1 C.2.1 dX0_tells_25 rfl (lv_at hl 2 rfl) ?_
        refine lv_icmp_ne (tgt := 41) C.1 C.2.1 dX0_tells_26 (by decide) (fun cn => ?_) (fun cn => ?_)
        · have hs := if_f cn hs
          refine lv_iload C.1 C.2.1 dX0_tells_41 (lv_at hl 4 rfl) ?_
          refine lv_iload_n C.1 C.2.1 dX0_tells_43 rfl (lv_at hl 3 rfl) ?_
          refine lv_isub C.1 C.2.1 dX0_tells_44 ?_
          refine lv_topi (fun x4_45 ex4_45 => ?_)
          have hs := gv_at ex4_45 hs
          refine lv_istore (lv' := [(4, .int x4_45), (0, .ref (q 5)), (1, .ref ta), (2, .int x2), (3, .int x3)]) C.1 C.2.1 dX0_tells_45 hl (by decide) rfl (fun ls hl => ?_)
          refine lv_goto (tgt := 11) C.1 C.2.1 dX0_tells_47 (by decide) ?_
          exact ih _ _ _ _ _ _ _ _ _ _ _ _ hs hI (lv_sub hl [1, 2, 3, 4, 0] rfl) kk0 kk1
        · have hs := if_t cn hs
          refine lv_aload_n C.1 C.2.1 dX0_tells_29 rfl (lv_at hl 0 rfl) ?_
          refine lv_aload_n C.1 C.2.1 dX0_tells_30 rfl (lv_at hl 1 rfl) ?_
          refine lv_iload C.1 C.2.1 dX0_tells_31 (lv_at hl 4 rfl) ?_
          obtain ⟨⟨r_33, I, J, B⟩, hc, hs⟩ := bd_e hs
          refine C_call C hI (kX0_isHolding l D cy P0 q z tl xx ta tb tc nb nc fb fc _ _ _ _ _ _ _ _ _ hc) (rv_X0 hI) ml_X0_71 im_X0_isHolding se_X0_isHolding ini_X0 co_X0_isHolding hyX0_isHolding rfl ⟨by decide, by decide⟩ hl.1 rfl (Nat.le_of_ble_eq_true rfl) dX0_tells_33 (fun H locs hI => ?_)
          refine lv_if_eq (tgt := 41) C.1 C.2.1 dX0_tells_36 (by decide) (fun cn => ?_) (fun cn => ?_)
          · have hs := if_t cn hs
            refine lv_iload C.1 C.2.1 dX0_tells_41 (lv_at hl 4 rfl) ?_
            refine lv_iload_n C.1 C.2.1 dX0_tells_43 rfl (lv_at hl 3 rfl) ?_
            refine lv_isub C.1 C.2.1 dX0_tells_44 ?_
            refine lv_topi (fun x4_45 ex4_45 => ?_)
            have hs := gv_at ex4_45 hs
            refine lv_istore (lv' := [(4, .int x4_45), (0, .ref (q 5)), (1, .ref ta), (2, .int x2), (3, .int x3)]) C.1 C.2.1 dX0_tells_45 hl (by decide) rfl (fun ls hl => ?_)
            refine lv_goto (tgt := 11) C.1 C.2.1 dX0_tells_47 (by decide) ?_
            exact ih _ _ _ _ _ _ _ _ _ _ _ _ hs hI (lv_sub hl [1, 2, 3, 4, 0] rfl) kk0 kk1
          · have hs := if_f cn hs
            have eo := (Option.some.inj hs).symm
            exact kk0 _ _ _ _ _ _ eo hI (lv_sub hl [] rfl)
  obtain ⟨o_11, hL, hs⟩ := bd_e hs
  refine KL_11 FU _ _ _ _ _ _ _ _ _ _ _ _ hL hI (lv_sub hl [2, 3, 4, 1, 0] rfl) (fun I J B H locs ls eo hI hl => ?_) (fun I J B H locs ls eo hI hl => ?_)
  · rw [eo] at hs
    refine lv_iconst (v := 1) C.1 C.2.1 dX0_tells_39 (by decide) ?_
    obtain ⟨rfl, rfl, rfl, rfl⟩ := so4 hs
    exact C_zret C hI (by decide) dX0_tells_40
  · rw [eo] at hs
    refine lv_iconst (v := 0) C.1 C.2.1 dX0_tells_50 (by decide) ?_
    obtain ⟨rfl, rfl, rfl, rfl⟩ := so4 hs
    exact C_zret C hI (by decide) dX0_tells_51
def lX7_needBy_13 (nb nc : Nat) (fb fc : Nat → Int32) : Nat → Int32 → Int32 → Int64 → Int32 → (Nat → Int32) → (Nat → Int64) → (Nat → Nat → Int32) → (Nat → Nat → Int64) → Option (Int64 × (Nat → Int32) × (Nat → Int64) × (Nat → Nat → Int32) × (Nat → Nat → Int64))
  | 0, _, _, _, _, _, _, _, _ => none
  | n + 1, x2, x3, x4, x6, I, J, A, B =>
    if (I 32) ≤ x6 then
    (some (x4, I, J, A, B))
    else
    (sX1_blow x6 (1 : Int32) I J A B).bind fun J =>
    (sX4_isOnFace x6 I J A B).bind fun r_44 =>
    (sX1_stands (x2 / (8 : Int32)) (0 : Int32) I J A B).bind fun (r_58, A, B) =>
    gv (fun (y0_j76 : Int32) (I : Nat → Int32) (J : Nat → Int64) (A : Nat → Nat → Int32) (B : Nat → Nat → Int64) =>
    (sX0_faceJoint x2 x3 I J A B).bind fun A =>
    (sX0_faceWind y0_j76 r_44 I J A B).bind fun A =>
    gv (fun (y0_j126 : Int32) (I : Nat → Int32) (J : Nat → Int64) (A : Nat → Nat → Int32) (B : Nat → Nat → Int64) =>
    if y0_j126 = 0 then
    (gv (x6 + 1) fun x6_161 =>
    lX7_needBy_13 nb nc fb fc n x2 x3 x4 x6_161 I J A B)
    else
    (sX0_tells nb nc fb fc (256 : Int32) I J A B).bind fun (r_141, I, J, B) =>
    if r_141 = 0 then
    (gv (x6 + 1) fun x6_161 =>
    lX7_needBy_13 nb nc fb fc n x2 x3 x4 x6_161 I J A B)
    else
    gv (if (J 95) < x4 then x4 else (J 95)) fun x4_159 =>
    gv (x6 + 1) fun x6_161 =>
    lX7_needBy_13 nb nc fb fc n x2 x3 x4_159 x6_161 I J A B) fun k_126 =>
    gv (fun (I : Nat → Int32) (J : Nat → Int64) (A : Nat → Nat → Int32) (B : Nat → Nat → Int64) =>
    k_126 (1 : Int32) I J A B) fun k_121 =>
    if r_44 = 0 then
    ((sX0_tells nb nc fb fc (258 : Int32) I J A B).bind fun (r_115, I, J, B) =>
    if r_115 = 0 then
    (k_126 (0 : Int32) I J A B)
    else
    k_121 I J A B)
    else
    k_121 I J A B) fun k_76 =>
    if r_58 = 0 then
    (k_76 (0 : Int32) I J A B)
    else
    (sX1_loadOf x2 I J A B).bind fun r_69 =>
    k_76 r_69 I J A B
def sX7_needBy (nb nc : Nat) (fb fc : Nat → Int32) (x2 : Int32) (x3 : Int32) (I : Nat → Int32) (J : Nat → Int64) (A : Nat → Nat → Int32) (B : Nat → Nat → Int64) : Option ((Int32) × (Nat → Int32) × (Nat → Int64) × (Nat → Nat → Int32) × (Nat → Nat → Int64)) :=
(sX1_ready  I J A B).bind fun (I, A) =>
(lX7_needBy_13 nb nc fb fc FU x2 x3 (0 : Int64) (0 : Int32) I J A B).bind fun (x4_13, I, J, A, B) =>
some ((x4_13.toInt32), I, J, A, B)
set_option maxRecDepth 100000 in
set_option maxHeartbeats 8000000 in
theorem kX7_needBy (l : Launch) (D : va_G) (cy : Nat → ClassId) (P0 : Nat → Prop) (q z : Nat → Nat) (tl : va_W) (xx : (Nat → Option Nat) × (Nat → Option Nat) × Nat) (ta tb tc nb nc : Nat) (fb fc : Nat → Int32) (x2 : Int32) (x3 : Int32) (I : Nat → Int32) (J : Nat → Int64) (A : Nat → Nat → Int32) (B : Nat → Nat → Int64) (r : Int32) (I2 : Nat → Int32) (J2 : Nat → Int64) (A2 : Nat → Nat → Int32) (B2 : Nat → Nat → Int64) (hs : sX7_needBy nb nc fb fc x2 x3 I J A B = some (r, I2, J2, A2, B2)) : McC l yX7_needBy cX7_needBy 10 (some .int) 5 [.ref (q 99), .ref ta, .int x2, .int x3] D cy P0 q z (TC cy ta tb tc nb nc fb fc ++ tl) xx I J A B (some (.int r)) xx I2 J2 A2 B2 := by
  refine C_start rfl (Nat.le_of_ble_eq_true rfl) ?_
  intro p e s m args below meth c H locs C hI ls hl
  have hl : lv_has ls 10 [(0, .ref (q 99)), (1, .ref ta), (2, .int x2), (3, .int x3)] := hl
  rw [sX7_needBy] at hs
  refine lv_lconst (v := 0) C.1 C.2.1 dX7_needBy_0 (by decide) ?_
  refine lv_lstore (lv' := [(4, .long (0 : Int64)), (0, .ref (q 99)), (1, .ref ta), (2, .int x2), (3, .int x3)]) C.1 C.2.1 dX7_needBy_1 hl (by decide) rfl (fun ls hl => ?_)
  refine lv_aload_n C.1 C.2.1 dX7_needBy_3 rfl (lv_at hl 1 rfl) ?_
  refine cg_X7_2 C hI dX7_needBy_4 ?_
  obtain ⟨⟨I, A⟩, hc, hs⟩ := bd_e hs
  refine C_call C hI (kX1_ready l D cy P0 q z _ xx _ _ _ _ _ _ hc) (rv_X1 hI) ml_X7_139 im_X1_ready se_X1_ready ini_X1 co_X1_ready hyX1_ready rfl ⟨by decide, by decide⟩ hl.1 rfl (Nat.le_of_ble_eq_true rfl) dX7_needBy_7 (fun H locs hI => ?_)
  refine lv_iconst (v := 0) C.1 C.2.1 dX7_needBy_10 (by decide) ?_
  refine lv_istore (lv' := [(6, .int (0 : Int32)), (4, .long (0 : Int64)), (0, .ref (q 99)), (1, .ref ta), (2, .int x2), (3, .int x3)]) C.1 C.2.1 dX7_needBy_11 hl (by decide) rfl (fun ls hl => ?_)
  have KL_13 : ∀ (n : Nat) (x2 : Int32) (x3 : Int32) (x4 : Int64) (x6 : Int32) (I : Nat → Int32) (J : Nat → Int64) (A : Nat → Nat → Int32) (B : Nat → Nat → Int64) (o : Int64 × (Nat → Int32) × (Nat → Int64) × (Nat → Nat → Int32) × (Nat → Nat → Int64)) (Q : State → Prop) (H : Heap) (locs : List Loc) (ls : Array Slot), lX7_needBy_13 nb nc fb fc n x2 x3 x4 x6 I J A B = some o → CI D cy s P0 s.heap H locs q z (TC cy ta tb tc nb nc fb fc ++ tl) xx I J A B → lv_has ls 10 [(0, .ref (q 99)), (1, .ref ta), (2, .int x2), (3, .int x3), (4, .long x4), (6, .int x6)] → (∀ (o4_0 : Int64) (I_0 : Nat → Int32) (J_0 : Nat → Int64) (A_0 : Nat → Nat → Int32) (B_0 : Nat → Nat → Int64) (H : Heap) (locs : List Loc) (ls : Array Slot), o = (o4_0, I_0, J_0, A_0, B_0) → CI D cy s P0 s.heap H locs q z (TC cy ta tb tc nb nc fb fc ++ tl) xx I_0 J_0 A_0 B_0 → lv_has ls 10 [(4, .long o4_0)] → W p l e (rmL 5) s m args below meth c H locs 0 0 Q (F0 m 167 ls [])) → W p l e (rmL 5) s m args below meth c H locs 0 0 Q (F0 m 13 ls []) := by
    intro n; induction n with
    | zero => intro x2 x3 x4 x6 I J A B o Q H locs ls hs; rw [lX7_needBy_13] at hs; cases hs
    | succ n ih =>
      intro x2 x3 x4 x6 I J A B o Q H locs ls hs hI hl kk0
      rw [lX7_needBy_13] at hs
      refine lv_iload C.1 C.2.1 dX7_needBy_13 (lv_at hl 5 rfl) ?_
      refine lv_aload_n C.1 C.2.1 dX7_needBy_15 rfl (lv_at hl 0 rfl) ?_
      refine cg_X7_0 C hI dX7_needBy_16 ?_
      refine cg_X7_17 C hI dX7_needBy_19 ?_
      refine cg_X7_32 C hI dX7_needBy_22 ?_
      refine lv_icmp_ge (tgt := 167) C.1 C.2.1 dX7_needBy_25 (by decide) (fun cn => ?_) (fun cn => ?_)
      · have hs := if_t cn hs
        have eo := (Option.some.inj hs).symm
        exact kk0 _ _ _ _ _ _ _ _ eo hI (lv_sub hl [4] rfl)
      · have hs := if_f cn hs
        refine lv_aload_n C.1 C.2.1 dX7_needBy_28 rfl (lv_at hl 0 rfl) ?_
        refine cg_X7_2 C hI dX7_needBy_29 ?_
        refine lv_iload C.1 C.2.1 dX7_needBy_32 (lv_at hl 5 rfl) ?_
        refine lv_iconst (v := 1) C.1 C.2.1 dX7_needBy_34 (by decide) ?_
        obtain ⟨J, hc, hs⟩ := bd_e hs
        refine C_call C hI (kX1_blow l D cy P0 q z _ xx _ _ _ _ _ _ _ hc) (rv_X1 hI) ml_X7_142 im_X1_blow se_X1_blow ini_X1 co_X1_blow hyX1_blow rfl ⟨by decide, by decide⟩ hl.1 rfl (Nat.le_of_ble_eq_true rfl) dX7_needBy_35 (fun H locs hI => ?_)
        refine lv_aload_n C.1 C.2.1 dX7_needBy_38 rfl (lv_at hl 0 rfl) ?_
        refine cg_X7_0 C hI dX7_needBy_39 ?_
        refine lv_iload C.1 C.2.1 dX7_needBy_42 (lv_at hl 5 rfl) ?_
        obtain ⟨r_44, hc, hs⟩ := bd_e hs
        refine C_call C hI (kX4_isOnFace l D cy P0 q z _ xx _ _ _ _ _ _ hc) (rv_X4 hI) ml_X7_316 im_X4_isOnFace se_X4_isOnFace ini_X4 co_X4_isOnFace hyX4_isOnFace rfl ⟨by decide, by decide⟩ hl.1 rfl (Nat.le_of_ble_eq_true rfl) dX7_needBy_44 (fun H locs hI => ?_)
        refine lv_istore (lv' := [(7, .int r_44), (0, .ref (q 99)), (1, .ref ta), (2, .int x2), (3, .int x3), (4, .long x4), (6, .int x6)]) C.1 C.2.1 dX7_needBy_47 hl (by decide) rfl (fun ls hl => ?_)
        refine lv_aload_n C.1 C.2.1 dX7_needBy_49 rfl (lv_at hl 1 rfl) ?_
        refine cg_X7_2 C hI dX7_needBy_50 ?_
        refine lv_iload_n C.1 C.2.1 dX7_needBy_53 rfl (lv_at hl 3 rfl) ?_
        refine lv_bipush (v := 8) C.1 C.2.1 dX7_needBy_54 (by decide) ?_
        refine lv_idiv C.1 C.2.1 dX7_needBy_56 (by decide) ?_
        refine lv_iconst (v := 0) C.1 C.2.1 dX7_needBy_57 (by decide) ?_
        obtain ⟨⟨r_58, A, B⟩, hc, hs⟩ := bd_e hs
        refine C_call C hI (kX1_stands l D cy P0 q z _ xx _ _ _ _ _ _ _ _ _ hc) (rv_X1 hI) ml_X7_145 im_X1_stands se_X1_stands ini_X1 co_X1_stands hyX1_stands rfl ⟨by decide, by decide⟩ hl.1 rfl (Nat.le_of_ble_eq_true rfl) dX7_needBy_58 (fun H locs hI => ?_)
        obtain ⟨k_76, ek_76, hs⟩ := gv_ex hs
        have KJ_76 : ∀ (y0_j76 : Int32) (I : Nat → Int32) (J : Nat → Int64) (A : Nat → Nat → Int32) (B : Nat → Nat → Int64) (H : Heap) (locs : List Loc) (ls : Array Slot), k_76 y0_j76 I J A B = some o → CI D cy s P0 s.heap H locs q z (TC cy ta tb tc nb nc fb fc ++ tl) xx I J A B → lv_has ls 10 [(0, .ref (q 99)), (1, .ref ta), (2, .int x2), (3, .int x3), (4, .long x4), (6, .int x6), (7, .int r_44)] → W p l e (rmL 5) s m args below meth c H locs 0 0 Q (F0 m 76 ls [.int y0_j76]) := by
          intro y0_j76 I J A B H locs ls hs hI hl
          rw [ek_76] at hs
          refine lv_istore (lv' := [(8, .int y0_j76), (0, .ref (q 99)), (1, .ref ta), (2, .int x2), (3, .int x3), (4, .long x4), (6, .int x6), (7, .int r_44)]) C.1 C.2.1 dX7_needBy_76 hl (by decide) rfl (fun ls hl => ?_)
          refine lv_aload_n C.1 C.2.1 dX7_needBy_78 rfl (lv_at hl 1 rfl) ?_
          refine cg_X7_5 C hI dX7_needBy_79 ?_
          refine lv_aload_n C.1 C.2.1 dX7_needBy_82 rfl (lv_at hl 1 rfl) ?_
          refine cg_X7_0 C hI dX7_needBy_83 ?_
          refine lv_iload_n C.1 C.2.1 dX7_needBy_86 rfl (lv_at hl 3 rfl) ?_
          refine lv_iload_n C.1 C.2.1 dX7_needBy_87 rfl (lv_at hl 4 rfl) ?_
          obtain ⟨A, hc, hs⟩ := bd_e hs
          refine C_call C hI (kX0_faceJoint l D cy P0 q z _ xx _ _ _ _ _ _ _ hc) (rv_X0 hI) ml_X7_322 im_X0_faceJoint se_X0_faceJoint ini_X0 co_X0_faceJoint hyX0_faceJoint rfl ⟨by decide, by decide⟩ hl.1 rfl (Nat.le_of_ble_eq_true rfl) dX7_needBy_88 (fun H locs hI => ?_)
          refine lv_aload_n C.1 C.2.1 dX7_needBy_91 rfl (lv_at hl 1 rfl) ?_
          refine cg_X7_5 C hI dX7_needBy_92 ?_
          refine lv_iload C.1 C.2.1 dX7_needBy_95 (lv_at hl 0 rfl) ?_
          refine lv_iload C.1 C.2.1 dX7_needBy_97 (lv_at hl 7 rfl) ?_
          obtain ⟨A, hc, hs⟩ := bd_e hs
          refine C_call C hI (kX0_faceWind l D cy P0 q z _ xx _ _ _ _ _ _ _ hc) (rv_X0 hI) ml_X7_326 im_X0_faceWind se_X0_faceWind ini_X0 co_X0_faceWind hyX0_faceWind rfl ⟨by decide, by decide⟩ hl.1 rfl (Nat.le_of_ble_eq_true rfl) dX7_needBy_99 (fun H locs hI => ?_)
          refine lv_iload C.1 C.2.1 dX7_needBy_102 (lv_at hl 7 rfl) ?_
          obtain ⟨k_126, ek_126, hs⟩ := gv_ex hs
          have KJ_126 : ∀ (y0_j126 : Int32) (I : Nat → Int32) (J : Nat → Int64) (A : Nat → Nat → Int32) (B : Nat → Nat → Int64) (H : Heap) (locs : List Loc) (ls : Array Slot), k_126 y0_j126 I J A B = some o → CI D cy s P0 s.heap H locs q z (TC cy ta tb tc nb nc fb fc ++ tl) xx I J A B → lv_has ls 10 [(0, .ref (q 99)), (1, .ref ta), (2, .int x2), (3, .int x3), (4, .long x4), (6, .int x6)] → W p l e (rmL 5) s m args below meth c H locs 0 0 Q (F0 m 126 ls [.int y0_j126]) := by
            intro y0_j126 I J A B H locs ls hs hI hl
            rw [ek_126] at hs
            refine lv_istore (lv' := [(9, .int y0_j126), (0, .ref (q 99)), (1, .ref ta), (2, .int x2), (3, .int x3), (4, .long x4), (6, .int x6)]) C.1 C.2.1 dX7_needBy_126 hl (by decide) rfl (fun ls hl => ?_)
            refine lv_iload C.1 C.2.1 dX7_needBy_128 (lv_at hl 0 rfl) ?_
            refine lv_if_eq (tgt := 161) C.1 C.2.1 dX7_needBy_130 (by decide) (fun cn => ?_) (fun cn => ?_)
            · have hs := if_t cn hs
              obtain ⟨x6_161, ex6_161⟩ : ∃ y : Int32, y = (x6 + 1) := ⟨_, rfl⟩
              have hs := gv_at ex6_161 hs
              refine lv_iinc (v := x6_161) (lv' := [(6, .int x6_161), (9, .int y0_j126), (0, .ref (q 99)), (1, .ref ta), (2, .int x2), (3, .int x3), (4, .long x4)]) C.1 C.2.1 dX7_needBy_161 hl (k := 6) rfl (by rw [ex6_161]; rfl) (by decide) rfl (fun ls hl => ?_)
              refine lv_goto (tgt := 13) C.1 C.2.1 dX7_needBy_164 (by decide) ?_
              exact ih _ _ _ _ _ _ _ _ _ _ _ _ _ hs hI (lv_sub hl [2, 3, 4, 5, 6, 0] rfl) kk0
            · have hs := if_f cn hs
              refine lv_aload_n C.1 C.2.1 dX7_needBy_133 rfl (lv_at hl 1 rfl) ?_
              refine cg_X7_5 C hI dX7_needBy_134 ?_
              refine lv_aload_n C.1 C.2.1 dX7_needBy_137 rfl (lv_at hl 2 rfl) ?_
              refine lv_sipush (v := 256) C.1 C.2.1 dX7_needBy_138 (by decide) ?_
              obtain ⟨⟨r_141, I, J, B⟩, hc, hs⟩ := bd_e hs
              refine C_call C hI (kX0_tells l D cy P0 q z tl xx ta tb tc nb nc fb fc _ _ _ _ _ _ _ _ _ hc) (rv_X0 hI) ml_X7_305 im_X0_tells se_X0_tells ini_X0 co_X0_tells hyX0_tells rfl ⟨by decide, by decide⟩ hl.1 rfl (Nat.le_of_ble_eq_true rfl) dX7_needBy_141 (fun H locs hI => ?_)
              refine lv_if_eq (tgt := 161) C.1 C.2.1 dX7_needBy_144 (by decide) (fun cn => ?_) (fun cn => ?_)
              · have hs := if_t cn hs
                obtain ⟨x6_161, ex6_161⟩ : ∃ y : Int32, y = (x6 + 1) := ⟨_, rfl⟩
                have hs := gv_at ex6_161 hs
                refine lv_iinc (v := x6_161) (lv' := [(6, .int x6_161), (9, .int y0_j126), (0, .ref (q 99)), (1, .ref ta), (2, .int x2), (3, .int x3), (4, .long x4)]) C.1 C.2.1 dX7_needBy_161 hl (k := 6) rfl (by rw [ex6_161]; rfl) (by decide) rfl (fun ls hl => ?_)
                refine lv_goto (tgt := 13) C.1 C.2.1 dX7_needBy_164 (by decide) ?_
                exact ih _ _ _ _ _ _ _ _ _ _ _ _ _ hs hI (lv_sub hl [2, 3, 4, 5, 6, 0] rfl) kk0
              · have hs := if_f cn hs
                refine lv_lload C.1 C.2.1 dX7_needBy_147 (lv_at hl 5 rfl) ?_
                refine lv_aload_n C.1 C.2.1 dX7_needBy_149 rfl (lv_at hl 1 rfl) ?_
                refine cg_X7_5 C hI dX7_needBy_150 ?_
                refine cg_X7_95 C hI dX7_needBy_153 ?_
                refine c_maxL C hl.1 ml_X7_330 (by decide) (Nat.le_of_ble_eq_true rfl) dX7_needBy_156 ?_
                refine lv_topl (fun x4_159 ex4_159 => ?_)
                have hs := gv_at ex4_159 hs
                refine lv_lstore (lv' := [(4, .long x4_159), (9, .int y0_j126), (0, .ref (q 99)), (1, .ref ta), (2, .int x2), (3, .int x3), (6, .int x6)]) C.1 C.2.1 dX7_needBy_159 hl (by decide) rfl (fun ls hl => ?_)
                obtain ⟨x6_161, ex6_161⟩ : ∃ y : Int32, y = (x6 + 1) := ⟨_, rfl⟩
                have hs := gv_at ex6_161 hs
                refine lv_iinc (v := x6_161) (lv' := [(6, .int x6_161), (4, .long x4_159), (9, .int y0_j126), (0, .ref (q 99)), (1, .ref ta), (2, .int x2), (3, .int x3)]) C.1 C.2.1 dX7_needBy_161 hl (k := 6) rfl (by rw [ex6_161]; rfl) (by decide) rfl (fun ls hl => ?_)
                refine lv_goto (tgt := 13) C.1 C.2.1 dX7_needBy_164 (by decide) ?_
                exact ih _ _ _ _ _ _ _ _ _ _ _ _ _ hs hI (lv_sub hl [3, 4, 5, 6, 1, 0] rfl) kk0
          obtain ⟨k_121, ek_121, hs⟩ := gv_ex hs
          have KJ_121 : ∀ (I : Nat → Int32) (J : Nat → Int64) (A : Nat → Nat → Int32) (B : Nat → Nat → Int64) (H : Heap) (locs : List Loc) (ls : Array Slot), k_121 I J A B = some o → CI D cy s P0 s.heap H locs q z (TC cy ta tb tc nb nc fb fc ++ tl) xx I J A B → lv_has ls 10 [(0, .ref (q 99)), (1, .ref ta), (2, .int x2), (3, .int x3), (4, .long x4), (6, .int x6)] → W p l e (rmL 5) s m args below meth c H locs 0 0 Q (F0 m 121 ls []) := by
            intro I J A B H locs ls hs hI hl
            rw [ek_121] at hs
            refine lv_iconst (v := 1) C.1 C.2.1 dX7_needBy_121 (by decide) ?_
            refine lv_goto (tgt := 126) C.1 C.2.1 dX7_needBy_122 (by decide) ?_
            exact KJ_126 _ _ _ _ _ _ _ _ hs hI (lv_sub hl [0, 1, 2, 3, 4, 5] rfl)
          refine lv_if_ne (tgt := 121) C.1 C.2.1 dX7_needBy_104 (by decide) (fun cn => ?_) (fun cn => ?_)
          · have hs := if_f cn hs
            exact KJ_121 _ _ _ _ _ _ _ hs hI (lv_sub hl [1, 2, 3, 4, 5, 6] rfl)
          · have hs := if_t cn hs
            refine lv_aload_n C.1 C.2.1 dX7_needBy_107 rfl (lv_at hl 1 rfl) ?_
            refine cg_X7_5 C hI dX7_needBy_108 ?_
            refine lv_aload_n C.1 C.2.1 dX7_needBy_111 rfl (lv_at hl 2 rfl) ?_
            refine lv_sipush (v := 258) C.1 C.2.1 dX7_needBy_112 (by decide) ?_
            obtain ⟨⟨r_115, I, J, B⟩, hc, hs⟩ := bd_e hs
            refine C_call C hI (kX0_tells l D cy P0 q z tl xx ta tb tc nb nc fb fc _ _ _ _ _ _ _ _ _ hc) (rv_X0 hI) ml_X7_305 im_X0_tells se_X0_tells ini_X0 co_X0_tells hyX0_tells rfl ⟨by decide, by decide⟩ hl.1 rfl (Nat.le_of_ble_eq_true rfl) dX7_needBy_115 (fun H locs hI => ?_)
            refine lv_if_eq (tgt := 125) C.1 C.2.1 dX7_needBy_118 (by decide) (fun cn => ?_) (fun cn => ?_)
            · have hs := if_t cn hs
              refine lv_iconst (v := 0) C.1 C.2.1 dX7_needBy_125 (by decide) ?_
              exact KJ_126 _ _ _ _ _ _ _ _ hs hI (lv_sub hl [1, 2, 3, 4, 5, 6] rfl)
            · have hs := if_f cn hs
              exact KJ_121 _ _ _ _ _ _ _ hs hI (lv_sub hl [1, 2, 3, 4, 5, 6] rfl)
        refine lv_if_eq (tgt := 75) C.1 C.2.1 dX7_needBy_61 (by decide) (fun cn => ?_) (fun cn => ?_)
        · have hs := if_t cn hs
          refine lv_iconst (v := 0) C.1 C.2.1 dX7_needBy_75 (by decide) ?_
          exact KJ_76 _ _ _ _ _ _ _ _ hs hI (lv_sub hl [1, 2, 3, 4, 5, 6, 0] rfl)
        · have hs := if_f cn hs
          refine lv_aload_n C.1 C.2.1 dX7_needBy_64 rfl (lv_at hl 1 rfl) ?_
          refine cg_X7_2 C hI dX7_needBy_65 ?_
          refine lv_iload_n C.1 C.2.1 dX7_needBy_68 rfl (lv_at hl 3 rfl) ?_
          obtain ⟨r_69, hc, hs⟩ := bd_e hs
          refine C_call C hI (kX1_loadOf l D cy P0 q z _ xx _ _ _ _ _ _ hc) (rv_X1 hI) ml_X7_319 im_X1_loadOf se_X1_loadOf ini_X1 co_X1_loadOf hyX1_loadOf rfl ⟨by decide, by decide⟩ hl.1 rfl (Nat.le_of_ble_eq_true rfl) dX7_needBy_69 (fun H locs hI => ?_)
          refine lv_goto (tgt := 76) C.1 C.2.1 dX7_needBy_72 (by decide) ?_
          exact KJ_76 _ _ _ _ _ _ _ _ hs hI (lv_sub hl [1, 2, 3, 4, 5, 6, 0] rfl)
  obtain ⟨⟨x4_13, I_L, J_L, A_L, B_L⟩, hL, hs⟩ := bd_e hs
  refine KL_13 FU _ _ _ _ _ _ _ _ _ _ _ _ _ hL hI (lv_sub hl [2, 3, 4, 5, 1, 0] rfl) (fun z0 z1 z2 z3 z4 H locs ls eo hI hl => ?_)
  obtain ⟨rfl, rfl, rfl, rfl, rfl⟩ := pr5 eo
  refine lv_lload C.1 C.2.1 dX7_needBy_167 (lv_at hl 0 rfl) ?_
  refine lv_l2i C.1 C.2.1 dX7_needBy_169 rfl ?_
  obtain ⟨rfl, rfl, rfl, rfl, rfl⟩ := so5 hs
  exact C_iret C hI dX7_needBy_170
def sX7_needN (x1 : Int32) (x2 : Int32) (x3 : Int32) (I : Nat → Int32) (J : Nat → Int64) (A : Nat → Nat → Int32) (B : Nat → Nat → Int64) : Option ((Int32) × (Nat → Int32) × (Nat → Int64) × (Nat → Nat → Int32) × (Nat → Nat → Int64)) :=
some ((-1 : Int32), I, J, A, B)
set_option maxRecDepth 100000 in
set_option maxHeartbeats 8000000 in
theorem kX7_needN (l : Launch) (D : va_G) (cy : Nat → ClassId) (P0 : Nat → Prop) (q z : Nat → Nat) (tl : va_W) (xx : (Nat → Option Nat) × (Nat → Option Nat) × Nat) (x1 : Int32) (x2 : Int32) (x3 : Int32) (I : Nat → Int32) (J : Nat → Int64) (A : Nat → Nat → Int32) (B : Nat → Nat → Int64) (r : Int32) (I2 : Nat → Int32) (J2 : Nat → Int64) (A2 : Nat → Nat → Int32) (B2 : Nat → Nat → Int64) (htx : txt xx I x1 = none) (hs : sX7_needN x1 x2 x3 I J A B = some (r, I2, J2, A2, B2)) : McC l yX7_need cX7_need 5 (some .int) 6 [.ref (q 99), .int x1, .int x2, .int x3] D cy P0 q z tl xx I J A B (some (.int r)) xx I2 J2 A2 B2 := by
  refine C_start rfl (Nat.le_of_ble_eq_true rfl) ?_
  intro p e s m args below meth c H locs C hI ls hl
  have hl : lv_has ls 5 [(0, .ref (q 99)), (1, .int x1), (2, .int x2), (3, .int x3)] := hl
  rw [sX7_needN] at hs
  refine lv_aload_n C.1 C.2.1 dX7_need_0 rfl (lv_at hl 0 rfl) ?_
  refine lv_iload_n C.1 C.2.1 dX7_need_1 rfl (lv_at hl 1 rfl) ?_
  refine c_textAt_N C hI htx ml_X7_186 (by decide) hl.1 (Nat.le_of_ble_eq_true rfl) dX7_need_2 (fun {H} {locs} hI => ?_)
  refine lv_astoreN (lv' := [(4, .null), (0, .ref (q 99)), (1, .int x1), (2, .int x2), (3, .int x3)]) C.1 C.2.1 dX7_need_5 hl (by decide) rfl (fun ls hl => ?_)
  refine lv_aloadN C.1 C.2.1 dX7_need_7 (lv_at hl 0 rfl) ?_
  refine lv_ifnullN (tgt := 26) C.1 C.2.1 dX7_need_9 (by decide) ?_
  refine lv_iconst (v := -1) C.1 C.2.1 dX7_need_26 (by decide) ?_
  obtain ⟨rfl, rfl, rfl, rfl, rfl⟩ := so5 hs
  exact C_iret C hI dX7_need_27
def sX7_needS (nb nc : Nat) (fb fc : Nat → Int32) (x1 : Int32) (x2 : Int32) (x3 : Int32) (I : Nat → Int32) (J : Nat → Int64) (A : Nat → Nat → Int32) (B : Nat → Nat → Int64) : Option ((Int32) × (Nat → Int32) × (Nat → Int64) × (Nat → Nat → Int32) × (Nat → Nat → Int64)) :=
(sX7_isJoint x2).bind fun r_13 =>
if r_13 = 0 then
(some ((-1 : Int32), I, J, A, B))
else
(sX7_isDay x3).bind fun r_20 =>
if r_20 = 0 then
(some ((-1 : Int32), I, J, A, B))
else
(sX7_needBy nb nc fb fc x2 x3 I J A B).bind fun (r_33, I, J, A, B) =>
some (r_33, I, J, A, B)
set_option maxRecDepth 100000 in
set_option maxHeartbeats 8000000 in
theorem kX7_needS (l : Launch) (D : va_G) (cy : Nat → ClassId) (P0 : Nat → Prop) (q z : Nat → Nat) (tl : va_W) (xx : (Nat → Option Nat) × (Nat → Option Nat) × Nat) (ta tb tc nb nc : Nat) (fb fc : Nat → Int32) (x1 : Int32) (x2 : Int32) (x3 : Int32) (I : Nat → Int32) (J : Nat → Int64) (A : Nat → Nat → Int32) (B : Nat → Nat → Int64) (r : Int32) (I2 : Nat → Int32) (J2 : Nat → Int64) (A2 : Nat → Nat → Int32) (B2 : Nat → Nat → Int64) (htx : txt xx I x1 = some ta) (hs : sX7_needS nb nc fb fc x1 x2 x3 I J A B = some (r, I2, J2, A2, B2)) : McC l yX7_need cX7_need 5 (some .int) 6 [.ref (q 99), .int x1, .int x2, .int x3] D cy P0 q z (TC cy ta tb tc nb nc fb fc ++ tl) xx I J A B (some (.int r)) xx I2 J2 A2 B2 := by
  refine C_start rfl (Nat.le_of_ble_eq_true rfl) ?_
  intro p e s m args below meth c H locs C hI ls hl
  have hl : lv_has ls 5 [(0, .ref (q 99)), (1, .int x1), (2, .int x2), (3, .int x3)] := hl
  rw [sX7_needS] at hs
  refine lv_aload_n C.1 C.2.1 dX7_need_0 rfl (lv_at hl 0 rfl) ?_
  refine lv_iload_n C.1 C.2.1 dX7_need_1 rfl (lv_at hl 1 rfl) ?_
  refine c_textAt_S C hI htx ml_X7_186 (by decide) hl.1 (Nat.le_of_ble_eq_true rfl) dX7_need_2 (fun {H} {locs} hI => ?_)
  refine lv_astore (lv' := [(4, .ref ta), (0, .ref (q 99)), (1, .int x1), (2, .int x2), (3, .int x3)]) C.1 C.2.1 dX7_need_5 hl (by decide) rfl (fun ls hl => ?_)
  refine lv_aload C.1 C.2.1 dX7_need_7 (lv_at hl 0 rfl) ?_
  refine lv_ifnull C.1 C.2.1 dX7_need_9 ?_
  refine lv_iload_n C.1 C.2.1 dX7_need_12 rfl (lv_at hl 3 rfl) ?_
  obtain ⟨r_13, hc, hs⟩ := bd_e hs
  refine S_call (h := 6) C (kX7_isJoint l _ _ hc) ml_X7_66 st_X7_isJoint ini_X7 co_X7_isJoint hyX7_isJoint rfl ⟨by decide, by decide⟩ hl.1 rfl (Nat.le_of_ble_eq_true rfl) dX7_need_13 ⟨Nat.le_refl 0, Nat.le_refl 0, Nat.le_refl _, Nat.le_refl _⟩ ?_
  refine lv_if_eq (tgt := 26) C.1 C.2.1 dX7_need_16 (by decide) (fun cn => ?_) (fun cn => ?_)
  · have hs := if_t cn hs
    refine lv_iconst (v := -1) C.1 C.2.1 dX7_need_26 (by decide) ?_
    obtain ⟨rfl, rfl, rfl, rfl, rfl⟩ := so5 hs
    exact C_iret C hI dX7_need_27
  · have hs := if_f cn hs
    refine lv_iload_n C.1 C.2.1 dX7_need_19 rfl (lv_at hl 4 rfl) ?_
    obtain ⟨r_20, hc, hs⟩ := bd_e hs
    refine S_call (h := 6) C (kX7_isDay l _ _ hc) ml_X7_190 st_X7_isDay ini_X7 co_X7_isDay hyX7_isDay rfl ⟨by decide, by decide⟩ hl.1 rfl (Nat.le_of_ble_eq_true rfl) dX7_need_20 ⟨Nat.le_refl 0, Nat.le_refl 0, Nat.le_refl _, Nat.le_refl _⟩ ?_
    refine lv_if_ne (tgt := 28) C.1 C.2.1 dX7_need_23 (by decide) (fun cn => ?_) (fun cn => ?_)
    · have hs := if_f cn hs
      refine lv_aload_n C.1 C.2.1 dX7_need_28 rfl (lv_at hl 1 rfl) ?_
      refine lv_aload C.1 C.2.1 dX7_need_29 (lv_at hl 0 rfl) ?_
      refine lv_iload_n C.1 C.2.1 dX7_need_31 rfl (lv_at hl 3 rfl) ?_
      refine lv_iload_n C.1 C.2.1 dX7_need_32 rfl (lv_at hl 4 rfl) ?_
      obtain ⟨⟨r_33, I, J, A, B⟩, hc, hs⟩ := bd_e hs
      refine C_call C hI (kX7_needBy l D cy P0 q z tl xx ta tb tc nb nc fb fc _ _ _ _ _ _ _ _ _ _ _ hc) (rv_X7 hI) ml_X7_193 im_X7_needBy se_X7_needBy ini_X7 co_X7_needBy hyX7_needBy rfl ⟨by decide, by decide⟩ hl.1 rfl (Nat.le_of_ble_eq_true rfl) dX7_need_33 (fun H locs hI => ?_)
      obtain ⟨rfl, rfl, rfl, rfl, rfl⟩ := so5 hs
      exact C_iret C hI dX7_need_36
    · have hs := if_t cn hs
      refine lv_iconst (v := -1) C.1 C.2.1 dX7_need_26 (by decide) ?_
      obtain ⟨rfl, rfl, rfl, rfl, rfl⟩ := so5 hs
      exact C_iret C hI dX7_need_27
def sX7_stepN (x1 : Int32) (x2 : Int32) (x3 : Int32) (x4 : Int32) (x5 : Int32) (I : Nat → Int32) (J : Nat → Int64) (A : Nat → Nat → Int32) (B : Nat → Nat → Int64) : Option ((Int32) × (Nat → Int32) × (Nat → Int64) × (Nat → Nat → Int32) × (Nat → Nat → Int64)) :=
(sX7_isDay x1).bind fun r_1 =>
if r_1 = 0 then
((sX7_refuse (-1 : Int32) I J A B).bind fun (r_33, I) =>
some (r_33, I, J, A, B))
else
(sX7_isJoint x2).bind fun r_8 =>
if r_8 = 0 then
((sX7_refuse (-1 : Int32) I J A B).bind fun (r_33, I) =>
some (r_33, I, J, A, B))
else
(sX7_isWithin x3 (0 : Int32) (1 : Int32)).bind fun r_17 =>
if r_17 = 0 then
((sX7_refuse (-1 : Int32) I J A B).bind fun (r_33, I) =>
some (r_33, I, J, A, B))
else
(sX7_isPerson x4).bind fun r_25 =>
if r_25 = 0 then
((sX7_refuse (-1 : Int32) I J A B).bind fun (r_33, I) =>
some (r_33, I, J, A, B))
else
(sX7_refuse (-2 : Int32) I J A B).bind fun (r_53, I) =>
some (r_53, I, J, A, B)
set_option maxRecDepth 100000 in
set_option maxHeartbeats 8000000 in
theorem kX7_stepN (l : Launch) (D : va_G) (cy : Nat → ClassId) (P0 : Nat → Prop) (q z : Nat → Nat) (tl : va_W) (xx : (Nat → Option Nat) × (Nat → Option Nat) × Nat) (x1 : Int32) (x2 : Int32) (x3 : Int32) (x4 : Int32) (x5 : Int32) (I : Nat → Int32) (J : Nat → Int64) (A : Nat → Nat → Int32) (B : Nat → Nat → Int64) (r : Int32) (I2 : Nat → Int32) (J2 : Nat → Int64) (A2 : Nat → Nat → Int32) (B2 : Nat → Nat → Int64) (htx : txt xx I x5 = none) (hs : sX7_stepN x1 x2 x3 x4 x5 I J A B = some (r, I2, J2, A2, B2)) : McC l yX7_step cX7_step 9 (some .int) 6 [.ref (q 99), .int x1, .int x2, .int x3, .int x4, .int x5] D cy P0 q z tl xx I J A B (some (.int r)) xx I2 J2 A2 B2 := by
  refine C_start rfl (Nat.le_of_ble_eq_true rfl) ?_
  intro p e s m args below meth c H locs C hI ls hl
  have hl : lv_has ls 9 [(0, .ref (q 99)), (1, .int x1), (2, .int x2), (3, .int x3), (4, .int x4), (5, .int x5)] := hl
  rw [sX7_stepN] at hs
  refine lv_iload_n C.1 C.2.1 dX7_step_0 rfl (lv_at hl 1 rfl) ?_
  obtain ⟨r_1, hc, hs⟩ := bd_e hs
  refine S_call (h := 6) C (kX7_isDay l _ _ hc) ml_X7_190 st_X7_isDay ini_X7 co_X7_isDay hyX7_isDay rfl ⟨by decide, by decide⟩ hl.1 rfl (Nat.le_of_ble_eq_true rfl) dX7_step_1 ⟨Nat.le_refl 0, Nat.le_refl 0, Nat.le_refl _, Nat.le_refl _⟩ ?_
  refine lv_if_eq (tgt := 31) C.1 C.2.1 dX7_step_4 (by decide) (fun cn => ?_) (fun cn => ?_)
  · have hs := if_t cn hs
    refine lv_aload_n C.1 C.2.1 dX7_step_31 rfl (lv_at hl 0 rfl) ?_
    refine lv_iconst (v := -1) C.1 C.2.1 dX7_step_32 (by decide) ?_
    obtain ⟨⟨r_33, I⟩, hc, hs⟩ := bd_e hs
    refine C_call C hI (kX7_refuse l D cy P0 q z tl xx _ _ _ _ _ _ _ hc) (rv_X7 hI) ml_X7_70 im_X7_refuse se_X7_refuse ini_X7 co_X7_refuse hyX7_refuse rfl ⟨by decide, by decide⟩ hl.1 rfl (Nat.le_of_ble_eq_true rfl) dX7_step_33 (fun H locs hI => ?_)
    obtain ⟨rfl, rfl, rfl, rfl, rfl⟩ := so5 hs
    exact C_iret C hI dX7_step_36
  · have hs := if_f cn hs
    refine lv_iload_n C.1 C.2.1 dX7_step_7 rfl (lv_at hl 2 rfl) ?_
    obtain ⟨r_8, hc, hs⟩ := bd_e hs
    refine S_call (h := 6) C (kX7_isJoint l _ _ hc) ml_X7_66 st_X7_isJoint ini_X7 co_X7_isJoint hyX7_isJoint rfl ⟨by decide, by decide⟩ hl.1 rfl (Nat.le_of_ble_eq_true rfl) dX7_step_8 ⟨Nat.le_refl 0, Nat.le_refl 0, Nat.le_refl _, Nat.le_refl _⟩ ?_
    refine lv_if_eq (tgt := 31) C.1 C.2.1 dX7_step_11 (by decide) (fun cn => ?_) (fun cn => ?_)
    · have hs := if_t cn hs
      refine lv_aload_n C.1 C.2.1 dX7_step_31 rfl (lv_at hl 0 rfl) ?_
      refine lv_iconst (v := -1) C.1 C.2.1 dX7_step_32 (by decide) ?_
      obtain ⟨⟨r_33, I⟩, hc, hs⟩ := bd_e hs
      refine C_call C hI (kX7_refuse l D cy P0 q z tl xx _ _ _ _ _ _ _ hc) (rv_X7 hI) ml_X7_70 im_X7_refuse se_X7_refuse ini_X7 co_X7_refuse hyX7_refuse rfl ⟨by decide, by decide⟩ hl.1 rfl (Nat.le_of_ble_eq_true rfl) dX7_step_33 (fun H locs hI => ?_)
      obtain ⟨rfl, rfl, rfl, rfl, rfl⟩ := so5 hs
      exact C_iret C hI dX7_step_36
    · have hs := if_f cn hs
      refine lv_iload_n C.1 C.2.1 dX7_step_14 rfl (lv_at hl 3 rfl) ?_
      refine lv_iconst (v := 0) C.1 C.2.1 dX7_step_15 (by decide) ?_
      refine lv_iconst (v := 1) C.1 C.2.1 dX7_step_16 (by decide) ?_
      obtain ⟨r_17, hc, hs⟩ := bd_e hs
      refine S_call (h := 6) C (kX7_isWithin l _ _ _ _ hc) ml_X7_80 st_X7_isWithin ini_X7 co_X7_isWithin hyX7_isWithin rfl ⟨by decide, by decide⟩ hl.1 rfl (Nat.le_of_ble_eq_true rfl) dX7_step_17 ⟨Nat.le_refl 0, Nat.le_refl 0, Nat.le_refl _, Nat.le_refl _⟩ ?_
      refine lv_if_eq (tgt := 31) C.1 C.2.1 dX7_step_20 (by decide) (fun cn => ?_) (fun cn => ?_)
      · have hs := if_t cn hs
        refine lv_aload_n C.1 C.2.1 dX7_step_31 rfl (lv_at hl 0 rfl) ?_
        refine lv_iconst (v := -1) C.1 C.2.1 dX7_step_32 (by decide) ?_
        obtain ⟨⟨r_33, I⟩, hc, hs⟩ := bd_e hs
        refine C_call C hI (kX7_refuse l D cy P0 q z tl xx _ _ _ _ _ _ _ hc) (rv_X7 hI) ml_X7_70 im_X7_refuse se_X7_refuse ini_X7 co_X7_refuse hyX7_refuse rfl ⟨by decide, by decide⟩ hl.1 rfl (Nat.le_of_ble_eq_true rfl) dX7_step_33 (fun H locs hI => ?_)
        obtain ⟨rfl, rfl, rfl, rfl, rfl⟩ := so5 hs
        exact C_iret C hI dX7_step_36
      · have hs := if_f cn hs
        refine lv_iload C.1 C.2.1 dX7_step_23 (lv_at hl 4 rfl) ?_
        obtain ⟨r_25, hc, hs⟩ := bd_e hs
        refine S_call (h := 6) C (kX7_isPerson l _ _ hc) ml_X7_197 st_X7_isPerson ini_X7 co_X7_isPerson hyX7_isPerson rfl ⟨by decide, by decide⟩ hl.1 rfl (Nat.le_of_ble_eq_true rfl) dX7_step_25 ⟨Nat.le_refl 0, Nat.le_refl 0, Nat.le_refl _, Nat.le_refl _⟩ ?_
        refine lv_if_ne (tgt := 37) C.1 C.2.1 dX7_step_28 (by decide) (fun cn => ?_) (fun cn => ?_)
        · have hs := if_f cn hs
          refine lv_aload_n C.1 C.2.1 dX7_step_37 rfl (lv_at hl 0 rfl) ?_
          refine lv_iload C.1 C.2.1 dX7_step_38 (lv_at hl 5 rfl) ?_
          refine c_textAt_N C hI htx ml_X7_186 (by decide) hl.1 (Nat.le_of_ble_eq_true rfl) dX7_step_40 (fun {H} {locs} hI => ?_)
          refine lv_astoreN (lv' := [(6, .null), (0, .ref (q 99)), (1, .int x1), (2, .int x2), (3, .int x3), (4, .int x4), (5, .int x5)]) C.1 C.2.1 dX7_step_43 hl (by decide) rfl (fun ls hl => ?_)
          refine lv_aloadN C.1 C.2.1 dX7_step_45 (lv_at hl 0 rfl) ?_
          refine lv_ifnonnullN C.1 C.2.1 dX7_step_47 ?_
          refine lv_aload_n C.1 C.2.1 dX7_step_50 rfl (lv_at hl 1 rfl) ?_
          refine lv_bipush (v := -2) C.1 C.2.1 dX7_step_51 (by decide) ?_
          obtain ⟨⟨r_53, I⟩, hc, hs⟩ := bd_e hs
          refine C_call C hI (kX7_refuse l D cy P0 q z tl xx _ _ _ _ _ _ _ hc) (rv_X7 hI) ml_X7_70 im_X7_refuse se_X7_refuse ini_X7 co_X7_refuse hyX7_refuse rfl ⟨by decide, by decide⟩ hl.1 rfl (Nat.le_of_ble_eq_true rfl) dX7_step_53 (fun H locs hI => ?_)
          obtain ⟨rfl, rfl, rfl, rfl, rfl⟩ := so5 hs
          exact C_iret C hI dX7_step_56
        · have hs := if_t cn hs
          refine lv_aload_n C.1 C.2.1 dX7_step_31 rfl (lv_at hl 0 rfl) ?_
          refine lv_iconst (v := -1) C.1 C.2.1 dX7_step_32 (by decide) ?_
          obtain ⟨⟨r_33, I⟩, hc, hs⟩ := bd_e hs
          refine C_call C hI (kX7_refuse l D cy P0 q z tl xx _ _ _ _ _ _ _ hc) (rv_X7 hI) ml_X7_70 im_X7_refuse se_X7_refuse ini_X7 co_X7_refuse hyX7_refuse rfl ⟨by decide, by decide⟩ hl.1 rfl (Nat.le_of_ble_eq_true rfl) dX7_step_33 (fun H locs hI => ?_)
          obtain ⟨rfl, rfl, rfl, rfl, rfl⟩ := so5 hs
          exact C_iret C hI dX7_step_36
def sX7_stepS (nb nc : Nat) (fb fc : Nat → Int32) (x1 : Int32) (x2 : Int32) (x3 : Int32) (x4 : Int32) (x5 : Int32) (I : Nat → Int32) (J : Nat → Int64) (A : Nat → Nat → Int32) (B : Nat → Nat → Int64) : Option ((Int32) × (Nat → Int32) × (Nat → Int64) × (Nat → Nat → Int32) × (Nat → Nat → Int64)) :=
(sX7_isDay x1).bind fun r_1 =>
if r_1 = 0 then
((sX7_refuse (-1 : Int32) I J A B).bind fun (r_33, I) =>
some (r_33, I, J, A, B))
else
(sX7_isJoint x2).bind fun r_8 =>
if r_8 = 0 then
((sX7_refuse (-1 : Int32) I J A B).bind fun (r_33, I) =>
some (r_33, I, J, A, B))
else
(sX7_isWithin x3 (0 : Int32) (1 : Int32)).bind fun r_17 =>
if r_17 = 0 then
((sX7_refuse (-1 : Int32) I J A B).bind fun (r_33, I) =>
some (r_33, I, J, A, B))
else
(sX7_isPerson x4).bind fun r_25 =>
if r_25 = 0 then
((sX7_refuse (-1 : Int32) I J A B).bind fun (r_33, I) =>
some (r_33, I, J, A, B))
else
gv (fun (I : Nat → Int32) (J : Nat → Int64) (A : Nat → Nat → Int32) (B : Nat → Nat → Int64) =>
(sX5_isFull 1  I J A B).bind fun r_100 =>
if r_100 = 0 then
(ck (inB x2 48) <|
gv (va_up A 11 (upd (A 11) (ix x2) x3)) fun A =>
ck (inB x2 48) <|
gv (va_up A 12 (upd (A 12) (ix x2) (0 : Int32))) fun A =>
(sX4_holdOf x2 I J A B).bind fun r_138 =>
(sX7_needBy nb nc fb fc x2 x1 I J A B).bind fun (r_146, I, J, A, B) =>
gv (if r_138 < r_146 then (0 : Int32) else (1 : Int32)) fun v_157 =>
(sX5_open 1  I J A B).bind fun I =>
(sX5_put 1 (0 : Int32) x1 I J A B).bind fun A =>
(sX5_put 1 (1 : Int32) x2 I J A B).bind fun A =>
(sX5_put 1 (2 : Int32) x3 I J A B).bind fun A =>
(sX5_put 1 (3 : Int32) x4 I J A B).bind fun A =>
(sX5_put 1 (4 : Int32) x5 I J A B).bind fun A =>
(sX5_put 1 (5 : Int32) v_157 I J A B).bind fun A =>
(sX7_accept v_157 I J A B).bind fun (r_212, I) =>
some (r_212, I, J, A, B))
else
(sX7_refuse (-5 : Int32) I J A B).bind fun (r_109, I) =>
some (r_109, I, J, A, B)) fun k_98 =>
if (I 35) ≤ 0 then
(k_98 I J A B)
else
(sX5_cell 1 ((I 35) - (1 : Int32)) (0 : Int32) I J A B).bind fun r_85 =>
if r_85 ≤ x1 then
(k_98 I J A B)
else
(sX7_refuse (-3 : Int32) I J A B).bind fun (r_94, I) =>
some (r_94, I, J, A, B)
set_option maxRecDepth 100000 in
set_option maxHeartbeats 8000000 in
theorem kX7_stepS (l : Launch) (D : va_G) (cy : Nat → ClassId) (P0 : Nat → Prop) (q z : Nat → Nat) (tl : va_W) (xx : (Nat → Option Nat) × (Nat → Option Nat) × Nat) (ta tb tc nb nc : Nat) (fb fc : Nat → Int32) (x1 : Int32) (x2 : Int32) (x3 : Int32) (x4 : Int32) (x5 : Int32) (I : Nat → Int32) (J : Nat → Int64) (A : Nat → Nat → Int32) (B : Nat → Nat → Int64) (r : Int32) (I2 : Nat → Int32) (J2 : Nat → Int64) (A2 : Nat → Nat → Int32) (B2 : Nat → Nat → Int64) (htx : txt xx I x5 = some ta) (hs : sX7_stepS nb nc fb fc x1 x2 x3 x4 x5 I J A B = some (r, I2, J2, A2, B2)) : McC l yX7_step cX7_step 9 (some .int) 6 [.ref (q 99), .int x1, .int x2, .int x3, .int x4, .int x5] D cy P0 q z (TC cy ta tb tc nb nc fb fc ++ tl) xx I J A B (some (.int r)) xx I2 J2 A2 B2 := by
  refine C_start rfl (Nat.le_of_ble_eq_true rfl) ?_
  intro p e s m args below meth c H locs C hI ls hl
  have hl : lv_has ls 9 [(0, .ref (q 99)), (1, .int x1), (2, .int x2), (3, .int x3), (4, .int x4), (5, .int x5)] := hl
  rw [sX7_stepS] at hs
  refine lv_iload_n C.1 C.2.1 dX7_step_0 rfl (lv_at hl 1 rfl) ?_
  obtain ⟨r_1, hc, hs⟩ := bd_e hs
  refine S_call (h := 6) C (kX7_isDay l _ _ hc) ml_X7_190 st_X7_isDay ini_X7 co_X7_isDay hyX7_isDay rfl ⟨by decide, by decide⟩ hl.1 rfl (Nat.le_of_ble_eq_true rfl) dX7_step_1 ⟨Nat.le_refl 0, Nat.le_refl 0, Nat.le_refl _, Nat.le_refl _⟩ ?_
  refine lv_if_eq (tgt := 31) C.1 C.2.1 dX7_step_4 (by decide) (fun cn => ?_) (fun cn => ?_)
  · have hs := if_t cn hs
    refine lv_aload_n C.1 C.2.1 dX7_step_31 rfl (lv_at hl 0 rfl) ?_
    refine lv_iconst (v := -1) C.1 C.2.1 dX7_step_32 (by decide) ?_
    obtain ⟨⟨r_33, I⟩, hc, hs⟩ := bd_e hs
    refine C_call C hI (kX7_refuse l D cy P0 q z _ xx _ _ _ _ _ _ _ hc) (rv_X7 hI) ml_X7_70 im_X7_refuse se_X7_refuse ini_X7 co_X7_refuse hyX7_refuse rfl ⟨by decide, by decide⟩ hl.1 rfl (Nat.le_of_ble_eq_true rfl) dX7_step_33 (fun H locs hI => ?_)
    obtain ⟨rfl, rfl, rfl, rfl, rfl⟩ := so5 hs
    exact C_iret C hI dX7_step_36
  · have hs := if_f cn hs
    refine lv_iload_n C.1 C.2.1 dX7_step_7 rfl (lv_at hl 2 rfl) ?_
    obtain ⟨r_8, hc, hs⟩ := bd_e hs
    refine S_call (h := 6) C (kX7_isJoint l _ _ hc) ml_X7_66 st_X7_isJoint ini_X7 co_X7_isJoint hyX7_isJoint rfl ⟨by decide, by decide⟩ hl.1 rfl (Nat.le_of_ble_eq_true rfl) dX7_step_8 ⟨Nat.le_refl 0, Nat.le_refl 0, Nat.le_refl _, Nat.le_refl _⟩ ?_
    refine lv_if_eq (tgt := 31) C.1 C.2.1 dX7_step_11 (by decide) (fun cn => ?_) (fun cn => ?_)
    · have hs := if_t cn hs
      refine lv_aload_n C.1 C.2.1 dX7_step_31 rfl (lv_at hl 0 rfl) ?_
      refine lv_iconst (v := -1) C.1 C.2.1 dX7_step_32 (by decide) ?_
      obtain ⟨⟨r_33, I⟩, hc, hs⟩ := bd_e hs
      refine C_call C hI (kX7_refuse l D cy P0 q z _ xx _ _ _ _ _ _ _ hc) (rv_X7 hI) ml_X7_70 im_X7_refuse se_X7_refuse ini_X7 co_X7_refuse hyX7_refuse rfl ⟨by decide, by decide⟩ hl.1 rfl (Nat.le_of_ble_eq_true rfl) dX7_step_33 (fun H locs hI => ?_)
      obtain ⟨rfl, rfl, rfl, rfl, rfl⟩ := so5 hs
      exact C_iret C hI dX7_step_36
    · have hs := if_f cn hs
      refine lv_iload_n C.1 C.2.1 dX7_step_14 rfl (lv_at hl 3 rfl) ?_
      refine lv_iconst (v := 0) C.1 C.2.1 dX7_step_15 (by decide) ?_
      refine lv_iconst (v := 1) C.1 C.2.1 dX7_step_16 (by decide) ?_
      obtain ⟨r_17, hc, hs⟩ := bd_e hs
      refine S_call (h := 6) C (kX7_isWithin l _ _ _ _ hc) ml_X7_80 st_X7_isWithin ini_X7 co_X7_isWithin hyX7_isWithin rfl ⟨by decide, by decide⟩ hl.1 rfl (Nat.le_of_ble_eq_true rfl) dX7_step_17 ⟨Nat.le_refl 0, Nat.le_refl 0, Nat.le_refl _, Nat.le_refl _⟩ ?_
      refine lv_if_eq (tgt := 31) C.1 C.2.1 dX7_step_20 (by decide) (fun cn => ?_) (fun cn => ?_)
      · have hs := if_t cn hs
        refine lv_aload_n C.1 C.2.1 dX7_step_31 rfl (lv_at hl 0 rfl) ?_
        refine lv_iconst (v := -1) C.1 C.2.1 dX7_step_32 (by decide) ?_
        obtain ⟨⟨r_33, I⟩, hc, hs⟩ := bd_e hs
        refine C_call C hI (kX7_refuse l D cy P0 q z _ xx _ _ _ _ _ _ _ hc) (rv_X7 hI) ml_X7_70 im_X7_refuse se_X7_refuse ini_X7 co_X7_refuse hyX7_refuse rfl ⟨by decide, by decide⟩ hl.1 rfl (Nat.le_of_ble_eq_true rfl) dX7_step_33 (fun H locs hI => ?_)
        obtain ⟨rfl, rfl, rfl, rfl, rfl⟩ := so5 hs
        exact C_iret C hI dX7_step_36
      · have hs := if_f cn hs
        refine lv_iload C.1 C.2.1 dX7_step_23 (lv_at hl 4 rfl) ?_
        obtain ⟨r_25, hc, hs⟩ := bd_e hs
        refine S_call (h := 6) C (kX7_isPerson l _ _ hc) ml_X7_197 st_X7_isPerson ini_X7 co_X7_isPerson hyX7_isPerson rfl ⟨by decide, by decide⟩ hl.1 rfl (Nat.le_of_ble_eq_true rfl) dX7_step_25 ⟨Nat.le_refl 0, Nat.le_refl 0, Nat.le_refl _, Nat.le_refl _⟩ ?_
        refine lv_if_ne (tgt := 37) C.1 C.2.1 dX7_step_28 (by decide) (fun cn => ?_) (fun cn => ?_)
        · have hs := if_f cn hs
          refine lv_aload_n C.1 C.2.1 dX7_step_37 rfl (lv_at hl 0 rfl) ?_
          refine lv_iload C.1 C.2.1 dX7_step_38 (lv_at hl 5 rfl) ?_
          refine c_textAt_S C hI htx ml_X7_186 (by decide) hl.1 (Nat.le_of_ble_eq_true rfl) dX7_step_40 (fun {H} {locs} hI => ?_)
          refine lv_astore (lv' := [(6, .ref ta), (0, .ref (q 99)), (1, .int x1), (2, .int x2), (3, .int x3), (4, .int x4), (5, .int x5)]) C.1 C.2.1 dX7_step_43 hl (by decide) rfl (fun ls hl => ?_)
          refine lv_aload C.1 C.2.1 dX7_step_45 (lv_at hl 0 rfl) ?_
          refine lv_ifnonnull (tgt := 57) C.1 C.2.1 dX7_step_47 (by decide) ?_
          refine lv_aload_n C.1 C.2.1 dX7_step_57 rfl (lv_at hl 1 rfl) ?_
          refine cg_X7_0 C hI dX7_step_58 ?_
          refine cg_X7_18 C hI dX7_step_61 ?_
          refine lv_astore (lv' := [(7, .ref (q 18)), (6, .ref ta), (0, .ref (q 99)), (1, .int x1), (2, .int x2), (3, .int x3), (4, .int x4), (5, .int x5)]) C.1 C.2.1 dX7_step_64 hl (by decide) rfl (fun ls hl => ?_)
          refine lv_aload C.1 C.2.1 dX7_step_66 (lv_at hl 0 rfl) ?_
          refine cg_X7_35 C hI dX7_step_68 ?_
          obtain ⟨k_98, ek_98, hs⟩ := gv_ex hs
          have KJ_98 : ∀ (I : Nat → Int32) (J : Nat → Int64) (A : Nat → Nat → Int32) (B : Nat → Nat → Int64) (H : Heap) (locs : List Loc) (ls : Array Slot), k_98 I J A B = some (r, I2, J2, A2, B2) → CI D cy s P0 s.heap H locs q z (TC cy ta tb tc nb nc fb fc ++ tl) xx I J A B → lv_has ls 9 [(0, .ref (q 99)), (1, .int x1), (2, .int x2), (3, .int x3), (4, .int x4), (5, .int x5), (6, .ref ta), (7, .ref (q 18))] → W p l e (rmL 6) s m args below meth c H locs 0 0 (MQ below (cQ D cy P0 q (TC cy ta tb tc nb nc fb fc ++ tl) (some (.int r)) xx I2 J2 A2 B2) args s 0 0 P0) (F0 m 98 ls []) := by
            intro I J A B H locs ls hs hI hl
            rw [ek_98] at hs
            refine lv_aload C.1 C.2.1 dX7_step_98 (lv_at hl 7 rfl) ?_
            obtain ⟨r_100, hc, hs⟩ := bd_e hs
            refine C_call C hI (kX5_isFull l D cy P0 q z _ xx 1 (by decide) _ _ _ _ _ hc) (rv_X5 hI 1 (by decide)) ml_X7_108 im_X5_isFull se_X5_isFull ini_X5 co_X5_isFull hyX5_isFull rfl ⟨by decide, by decide⟩ hl.1 rfl (Nat.le_of_ble_eq_true rfl) dX7_step_100 (fun H locs hI => ?_)
            refine lv_if_eq (tgt := 113) C.1 C.2.1 dX7_step_103 (by decide) (fun cn => ?_) (fun cn => ?_)
            · have hs := if_t cn hs
              refine lv_aload_n C.1 C.2.1 dX7_step_113 rfl (lv_at hl 0 rfl) ?_
              refine cg_X7_0 C hI dX7_step_114 ?_
              refine cg_X7_11 C hI dX7_step_117 ?_
              refine lv_iload_n C.1 C.2.1 dX7_step_120 rfl (lv_at hl 2 rfl) ?_
              refine lv_iload_n C.1 C.2.1 dX7_step_121 rfl (lv_at hl 3 rfl) ?_
              obtain ⟨hk, hs⟩ := ck_e hs
              refine cs_11 C hI hk dX7_step_122 (fun H locs hI => ?_)
              have hs := gv_be hs
              refine lv_aload_n C.1 C.2.1 dX7_step_123 rfl (lv_at hl 0 rfl) ?_
              refine cg_X7_0 C hI dX7_step_124 ?_
              refine cg_X7_12 C hI dX7_step_127 ?_
              refine lv_iload_n C.1 C.2.1 dX7_step_130 rfl (lv_at hl 2 rfl) ?_
              refine lv_iconst (v := 0) C.1 C.2.1 dX7_step_131 (by decide) ?_
              obtain ⟨hk, hs⟩ := ck_e hs
              refine cs_12 C hI hk dX7_step_132 (fun H locs hI => ?_)
              have hs := gv_be hs
              refine lv_aload_n C.1 C.2.1 dX7_step_133 rfl (lv_at hl 0 rfl) ?_
              refine cg_X7_0 C hI dX7_step_134 ?_
              refine lv_iload_n C.1 C.2.1 dX7_step_137 rfl (lv_at hl 2 rfl) ?_
              obtain ⟨r_138, hc, hs⟩ := bd_e hs
              refine C_call C hI (kX4_holdOf l D cy P0 q z _ xx _ _ _ _ _ _ hc) (rv_X4 hI) ml_X7_130 im_X4_holdOf se_X4_holdOf ini_X4 co_X4_holdOf hyX4_holdOf rfl ⟨by decide, by decide⟩ hl.1 rfl (Nat.le_of_ble_eq_true rfl) dX7_step_138 (fun H locs hI => ?_)
              refine lv_aload_n C.1 C.2.1 dX7_step_141 rfl (lv_at hl 0 rfl) ?_
              refine lv_aload C.1 C.2.1 dX7_step_142 (lv_at hl 6 rfl) ?_
              refine lv_iload_n C.1 C.2.1 dX7_step_144 rfl (lv_at hl 2 rfl) ?_
              refine lv_iload_n C.1 C.2.1 dX7_step_145 rfl (lv_at hl 1 rfl) ?_
              obtain ⟨⟨r_146, I, J, A, B⟩, hc, hs⟩ := bd_e hs
              refine C_call C hI (kX7_needBy l D cy P0 q z tl xx ta tb tc nb nc fb fc _ _ _ _ _ _ _ _ _ _ _ hc) (rv_X7 hI) ml_X7_193 im_X7_needBy se_X7_needBy ini_X7 co_X7_needBy hyX7_needBy rfl ⟨by decide, by decide⟩ hl.1 rfl (Nat.le_of_ble_eq_true rfl) dX7_step_146 (fun H locs hI => ?_)
              obtain ⟨v_157, ev_157, hs⟩ := gv_ex hs
              have KP_157 : W p l e (rmL 6) s m args below meth c H locs 0 0 (MQ below (cQ D cy P0 q (TC cy ta tb tc nb nc fb fc ++ tl) (some (.int r)) xx I2 J2 A2 B2) args s 0 0 P0) (F0 m 157 ls [.int v_157]) := by
                refine lv_istore (lv' := [(8, .int v_157), (0, .ref (q 99)), (1, .int x1), (2, .int x2), (3, .int x3), (4, .int x4), (5, .int x5), (6, .ref ta), (7, .ref (q 18))]) C.1 C.2.1 dX7_step_157 hl (by decide) rfl (fun ls hl => ?_)
                refine lv_aload C.1 C.2.1 dX7_step_159 (lv_at hl 8 rfl) ?_
                obtain ⟨I, hc, hs⟩ := bd_e hs
                refine C_call C hI (kX5_open l D cy P0 q z _ xx 1 (by decide) _ _ _ _ _ hc) (rv_X5 hI 1 (by decide)) ml_X7_114 im_X5_open se_X5_open ini_X5 co_X5_open hyX5_open rfl ⟨by decide, by decide⟩ hl.1 rfl (Nat.le_of_ble_eq_true rfl) dX7_step_161 (fun H locs hI => ?_)
                refine lv_aload C.1 C.2.1 dX7_step_164 (lv_at hl 8 rfl) ?_
                refine lv_iconst (v := 0) C.1 C.2.1 dX7_step_166 (by decide) ?_
                refine lv_iload_n C.1 C.2.1 dX7_step_167 rfl (lv_at hl 2 rfl) ?_
                obtain ⟨A, hc, hs⟩ := bd_e hs
                refine C_call C hI (kX5_put l D cy P0 q z _ xx 1 (by decide) _ _ _ _ _ _ _ hc) (rv_X5 hI 1 (by decide)) ml_X7_117 im_X5_put se_X5_put ini_X5 co_X5_put hyX5_put rfl ⟨by decide, by decide⟩ hl.1 rfl (Nat.le_of_ble_eq_true rfl) dX7_step_168 (fun H locs hI => ?_)
                refine lv_aload C.1 C.2.1 dX7_step_171 (lv_at hl 8 rfl) ?_
                refine lv_iconst (v := 1) C.1 C.2.1 dX7_step_173 (by decide) ?_
                refine lv_iload_n C.1 C.2.1 dX7_step_174 rfl (lv_at hl 3 rfl) ?_
                obtain ⟨A, hc, hs⟩ := bd_e hs
                refine C_call C hI (kX5_put l D cy P0 q z _ xx 1 (by decide) _ _ _ _ _ _ _ hc) (rv_X5 hI 1 (by decide)) ml_X7_117 im_X5_put se_X5_put ini_X5 co_X5_put hyX5_put rfl ⟨by decide, by decide⟩ hl.1 rfl (Nat.le_of_ble_eq_true rfl) dX7_step_175 (fun H locs hI => ?_)
                refine lv_aload C.1 C.2.1 dX7_step_178 (lv_at hl 8 rfl) ?_
                refine lv_iconst (v := 2) C.1 C.2.1 dX7_step_180 (by decide) ?_
                refine lv_iload_n C.1 C.2.1 dX7_step_181 rfl (lv_at hl 4 rfl) ?_
                obtain ⟨A, hc, hs⟩ := bd_e hs
                refine C_call C hI (kX5_put l D cy P0 q z _ xx 1 (by decide) _ _ _ _ _ _ _ hc) (rv_X5 hI 1 (by decide)) ml_X7_117 im_X5_put se_X5_put ini_X5 co_X5_put hyX5_put rfl ⟨by decide, by decide⟩ hl.1 rfl (Nat.le_of_ble_eq_true rfl) dX7_step_182 (fun H locs hI => ?_)
                refine lv_aload C.1 C.2.1 dX7_step_185 (lv_at hl 8 rfl) ?_
                refine lv_iconst (v := 3) C.1 C.2.1 dX7_step_187 (by decide) ?_
                refine lv_iload C.1 C.2.1 dX7_step_188 (lv_at hl 5 rfl) ?_
                obtain ⟨A, hc, hs⟩ := bd_e hs
                refine C_call C hI (kX5_put l D cy P0 q z _ xx 1 (by decide) _ _ _ _ _ _ _ hc) (rv_X5 hI 1 (by decide)) ml_X7_117 im_X5_put se_X5_put ini_X5 co_X5_put hyX5_put rfl ⟨by decide, by decide⟩ hl.1 rfl (Nat.le_of_ble_eq_true rfl) dX7_step_190 (fun H locs hI => ?_)
                refine lv_aload C.1 C.2.1 dX7_step_193 (lv_at hl 8 rfl) ?_
                refine lv_iconst (v := 4) C.1 C.2.1 dX7_step_195 (by decide) ?_
                refine lv_iload C.1 C.2.1 dX7_step_196 (lv_at hl 6 rfl) ?_
                obtain ⟨A, hc, hs⟩ := bd_e hs
                refine C_call C hI (kX5_put l D cy P0 q z _ xx 1 (by decide) _ _ _ _ _ _ _ hc) (rv_X5 hI 1 (by decide)) ml_X7_117 im_X5_put se_X5_put ini_X5 co_X5_put hyX5_put rfl ⟨by decide, by decide⟩ hl.1 rfl (Nat.le_of_ble_eq_true rfl) dX7_step_198 (fun H locs hI => ?_)
                refine lv_aload C.1 C.2.1 dX7_step_201 (lv_at hl 8 rfl) ?_
                refine lv_iconst (v := 5) C.1 C.2.1 dX7_step_203 (by decide) ?_
                refine lv_iload C.1 C.2.1 dX7_step_204 (lv_at hl 0 rfl) ?_
                obtain ⟨A, hc, hs⟩ := bd_e hs
                refine C_call C hI (kX5_put l D cy P0 q z _ xx 1 (by decide) _ _ _ _ _ _ _ hc) (rv_X5 hI 1 (by decide)) ml_X7_117 im_X5_put se_X5_put ini_X5 co_X5_put hyX5_put rfl ⟨by decide, by decide⟩ hl.1 rfl (Nat.le_of_ble_eq_true rfl) dX7_step_206 (fun H locs hI => ?_)
                refine lv_aload_n C.1 C.2.1 dX7_step_209 rfl (lv_at hl 1 rfl) ?_
                refine lv_iload C.1 C.2.1 dX7_step_210 (lv_at hl 0 rfl) ?_
                obtain ⟨⟨r_212, I⟩, hc, hs⟩ := bd_e hs
                refine C_call C hI (kX7_accept l D cy P0 q z _ xx _ _ _ _ _ _ _ hc) (rv_X7 hI) ml_X7_77 im_X7_accept se_X7_accept ini_X7 co_X7_accept hyX7_accept rfl ⟨by decide, by decide⟩ hl.1 rfl (Nat.le_of_ble_eq_true rfl) dX7_step_212 (fun H locs hI => ?_)
                obtain ⟨rfl, rfl, rfl, rfl, rfl⟩ := so5 hs
                exact C_iret C hI dX7_step_215
              refine lv_icmp_lt (tgt := 156) C.1 C.2.1 dX7_step_149 (by decide) (fun cn => ?_) (fun cn => ?_)
              · have ev_157 := if_t' cn ev_157
                refine lv_iconst (v := 0) C.1 C.2.1 dX7_step_156 (by decide) ?_
                subst ev_157
                exact KP_157
              · have ev_157 := if_f' cn ev_157
                refine lv_iconst (v := 1) C.1 C.2.1 dX7_step_152 (by decide) ?_
                refine lv_goto (tgt := 157) C.1 C.2.1 dX7_step_153 (by decide) ?_
                subst ev_157
                exact KP_157
            · have hs := if_f cn hs
              refine lv_aload_n C.1 C.2.1 dX7_step_106 rfl (lv_at hl 0 rfl) ?_
              refine lv_bipush (v := -5) C.1 C.2.1 dX7_step_107 (by decide) ?_
              obtain ⟨⟨r_109, I⟩, hc, hs⟩ := bd_e hs
              refine C_call C hI (kX7_refuse l D cy P0 q z _ xx _ _ _ _ _ _ _ hc) (rv_X7 hI) ml_X7_70 im_X7_refuse se_X7_refuse ini_X7 co_X7_refuse hyX7_refuse rfl ⟨by decide, by decide⟩ hl.1 rfl (Nat.le_of_ble_eq_true rfl) dX7_step_109 (fun H locs hI => ?_)
              obtain ⟨rfl, rfl, rfl, rfl, rfl⟩ := so5 hs
              exact C_iret C hI dX7_step_112
          refine lv_if_le (tgt := 98) C.1 C.2.1 dX7_step_71 (by decide) (fun cn => ?_) (fun cn => ?_)
          · have hs := if_t cn hs
            exact KJ_98 _ _ _ _ _ _ _ hs hI (lv_sub hl [2, 3, 4, 5, 6, 7, 1, 0] rfl)
          · have hs := if_f cn hs
            refine lv_iload_n C.1 C.2.1 dX7_step_74 rfl (lv_at hl 3 rfl) ?_
            refine lv_aload C.1 C.2.1 dX7_step_75 (lv_at hl 0 rfl) ?_
            refine lv_aload C.1 C.2.1 dX7_step_77 (lv_at hl 0 rfl) ?_
            refine cg_X7_35 C hI dX7_step_79 ?_
            refine lv_iconst (v := 1) C.1 C.2.1 dX7_step_82 (by decide) ?_
            refine lv_isub C.1 C.2.1 dX7_step_83 ?_
            refine lv_iconst (v := 0) C.1 C.2.1 dX7_step_84 (by decide) ?_
            obtain ⟨r_85, hc, hs⟩ := bd_e hs
            refine C_call C hI (kX5_cell l D cy P0 q z _ xx 1 (by decide) _ _ _ _ _ _ _ hc) (rv_X5 hI 1 (by decide)) ml_X7_203 im_X5_cell se_X5_cell ini_X5 co_X5_cell hyX5_cell rfl ⟨by decide, by decide⟩ hl.1 rfl (Nat.le_of_ble_eq_true rfl) dX7_step_85 (fun H locs hI => ?_)
            refine lv_icmp_ge (tgt := 98) C.1 C.2.1 dX7_step_88 (by decide) (fun cn => ?_) (fun cn => ?_)
            · have hs := if_t cn hs
              exact KJ_98 _ _ _ _ _ _ _ hs hI (lv_sub hl [2, 3, 4, 5, 6, 7, 1, 0] rfl)
            · have hs := if_f cn hs
              refine lv_aload_n C.1 C.2.1 dX7_step_91 rfl (lv_at hl 2 rfl) ?_
              refine lv_bipush (v := -3) C.1 C.2.1 dX7_step_92 (by decide) ?_
              obtain ⟨⟨r_94, I⟩, hc, hs⟩ := bd_e hs
              refine C_call C hI (kX7_refuse l D cy P0 q z _ xx _ _ _ _ _ _ _ hc) (rv_X7 hI) ml_X7_70 im_X7_refuse se_X7_refuse ini_X7 co_X7_refuse hyX7_refuse rfl ⟨by decide, by decide⟩ hl.1 rfl (Nat.le_of_ble_eq_true rfl) dX7_step_94 (fun H locs hI => ?_)
              obtain ⟨rfl, rfl, rfl, rfl, rfl⟩ := so5 hs
              exact C_iret C hI dX7_step_97
        · have hs := if_t cn hs
          refine lv_aload_n C.1 C.2.1 dX7_step_31 rfl (lv_at hl 0 rfl) ?_
          refine lv_iconst (v := -1) C.1 C.2.1 dX7_step_32 (by decide) ?_
          obtain ⟨⟨r_33, I⟩, hc, hs⟩ := bd_e hs
          refine C_call C hI (kX7_refuse l D cy P0 q z _ xx _ _ _ _ _ _ _ hc) (rv_X7 hI) ml_X7_70 im_X7_refuse se_X7_refuse ini_X7 co_X7_refuse hyX7_refuse rfl ⟨by decide, by decide⟩ hl.1 rfl (Nat.le_of_ble_eq_true rfl) dX7_step_33 (fun H locs hI => ?_)
          obtain ⟨rfl, rfl, rfl, rfl, rfl⟩ := so5 hs
          exact C_iret C hI dX7_step_36
def sX7_firstN (x1 : Int32) (I : Nat → Int32) (J : Nat → Int64) (A : Nat → Nat → Int32) (B : Nat → Nat → Int64) : Option ((Int32) × (Nat → Int32) × (Nat → Int64) × (Nat → Nat → Int32) × (Nat → Nat → Int64)) :=
some ((-1 : Int32), I, J, A, B)
set_option maxRecDepth 100000 in
set_option maxHeartbeats 8000000 in
theorem kX7_firstN (l : Launch) (D : va_G) (cy : Nat → ClassId) (P0 : Nat → Prop) (q z : Nat → Nat) (tl : va_W) (xx : (Nat → Option Nat) × (Nat → Option Nat) × Nat) (x1 : Int32) (I : Nat → Int32) (J : Nat → Int64) (A : Nat → Nat → Int32) (B : Nat → Nat → Int64) (r : Int32) (I2 : Nat → Int32) (J2 : Nat → Int64) (A2 : Nat → Nat → Int32) (B2 : Nat → Nat → Int64) (htx : txt xx I x1 = none) (hs : sX7_firstN x1 I J A B = some (r, I2, J2, A2, B2)) : McC l yX7_first cX7_first 7 (some .int) 5 [.ref (q 99), .int x1] D cy P0 q z tl xx I J A B (some (.int r)) xx I2 J2 A2 B2 := by
  refine C_start rfl (Nat.le_of_ble_eq_true rfl) ?_
  intro p e s m args below meth c H locs C hI ls hl
  have hl : lv_has ls 7 [(0, .ref (q 99)), (1, .int x1)] := hl
  rw [sX7_firstN] at hs
  refine lv_aload_n C.1 C.2.1 dX7_first_0 rfl (lv_at hl 0 rfl) ?_
  refine lv_iload_n C.1 C.2.1 dX7_first_1 rfl (lv_at hl 1 rfl) ?_
  refine c_textAt_N C hI htx ml_X7_186 (by decide) hl.1 (Nat.le_of_ble_eq_true rfl) dX7_first_2 (fun {H} {locs} hI => ?_)
  refine lv_astore_nN (lv' := [(2, .null), (0, .ref (q 99)), (1, .int x1)]) C.1 C.2.1 dX7_first_5 rfl hl (by decide) rfl (fun ls hl => ?_)
  refine lv_aload_nN C.1 C.2.1 dX7_first_6 rfl (lv_at hl 0 rfl) ?_
  refine lv_ifnonnullN C.1 C.2.1 dX7_first_7 ?_
  refine lv_iconst (v := -1) C.1 C.2.1 dX7_first_10 (by decide) ?_
  obtain ⟨rfl, rfl, rfl, rfl, rfl⟩ := so5 hs
  exact C_iret C hI dX7_first_11
def lX7_first_20 (nb nc : Nat) (fb fc : Nat → Int32) : Nat → Int32 → Int64 → Int32 → (Nat → Int32) → (Nat → Int64) → (Nat → Nat → Int32) → (Nat → Nat → Int64) → Option (Int32 × (Nat → Int32) × (Nat → Int64) × (Nat → Nat → Int32) × (Nat → Nat → Int64))
  | 0, _, _, _, _, _, _, _ => none
  | n + 1, x3, x4, x6, I, J, A, B =>
    if (I 44) ≤ x6 then
    (some (x3, I, J, A, B))
    else
    (sX0_faceTower x6 I J A B).bind fun A =>
    (sX0_tells nb nc fb fc (257 : Int32) I J A B).bind fun (r_56, I, J, B) =>
    if r_56 = 0 then
    (gv (x6 + 1) fun x6_92 =>
    lX7_first_20 nb nc fb fc n x3 x4 x6_92 I J A B)
    else
    gv (fun (I : Nat → Int32) (J : Nat → Int64) (A : Nat → Nat → Int32) (B : Nat → Nat → Int64) =>
    gv (J 95) fun x4_90 =>
    gv (x6 + 1) fun x6_92 =>
    lX7_first_20 nb nc fb fc n x6 x4_90 x6_92 I J A B) fun k_80 =>
    if x3 = (-1 : Int32) then
    (k_80 I J A B)
    else
    if (lg_cmp (J 95) x4) ≤ 0 then
    (gv (x6 + 1) fun x6_92 =>
    lX7_first_20 nb nc fb fc n x3 x4 x6_92 I J A B)
    else
    k_80 I J A B
def sX7_firstS (nb nc : Nat) (fb fc : Nat → Int32) (x1 : Int32) (I : Nat → Int32) (J : Nat → Int64) (A : Nat → Nat → Int32) (B : Nat → Nat → Int64) : Option ((Int32) × (Nat → Int32) × (Nat → Int64) × (Nat → Nat → Int32) × (Nat → Nat → Int64)) :=
(lX7_first_20 nb nc fb fc FU (-1 : Int32) (0 : Int64) (0 : Int32) I J A B).bind fun (x3_20, I, J, A, B) =>
some (x3_20, I, J, A, B)
set_option maxRecDepth 100000 in
set_option maxHeartbeats 8000000 in
theorem kX7_firstS (l : Launch) (D : va_G) (cy : Nat → ClassId) (P0 : Nat → Prop) (q z : Nat → Nat) (tl : va_W) (xx : (Nat → Option Nat) × (Nat → Option Nat) × Nat) (ta tb tc nb nc : Nat) (fb fc : Nat → Int32) (x1 : Int32) (I : Nat → Int32) (J : Nat → Int64) (A : Nat → Nat → Int32) (B : Nat → Nat → Int64) (r : Int32) (I2 : Nat → Int32) (J2 : Nat → Int64) (A2 : Nat → Nat → Int32) (B2 : Nat → Nat → Int64) (htx : txt xx I x1 = some ta) (hs : sX7_firstS nb nc fb fc x1 I J A B = some (r, I2, J2, A2, B2)) : McC l yX7_first cX7_first 7 (some .int) 5 [.ref (q 99), .int x1] D cy P0 q z (TC cy ta tb tc nb nc fb fc ++ tl) xx I J A B (some (.int r)) xx I2 J2 A2 B2 := by
  refine C_start rfl (Nat.le_of_ble_eq_true rfl) ?_
  intro p e s m args below meth c H locs C hI ls hl
  have hl : lv_has ls 7 [(0, .ref (q 99)), (1, .int x1)] := hl
  rw [sX7_firstS] at hs
  refine lv_aload_n C.1 C.2.1 dX7_first_0 rfl (lv_at hl 0 rfl) ?_
  refine lv_iload_n C.1 C.2.1 dX7_first_1 rfl (lv_at hl 1 rfl) ?_
  refine c_textAt_S C hI htx ml_X7_186 (by decide) hl.1 (Nat.le_of_ble_eq_true rfl) dX7_first_2 (fun {H} {locs} hI => ?_)
  refine lv_astore_n (lv' := [(2, .ref ta), (0, .ref (q 99)), (1, .int x1)]) C.1 C.2.1 dX7_first_5 rfl hl (by decide) rfl (fun ls hl => ?_)
  refine lv_aload_n C.1 C.2.1 dX7_first_6 rfl (lv_at hl 0 rfl) ?_
  refine lv_ifnonnull (tgt := 12) C.1 C.2.1 dX7_first_7 (by decide) ?_
  refine lv_iconst (v := -1) C.1 C.2.1 dX7_first_12 (by decide) ?_
  refine lv_istore_n (lv' := [(3, .int (-1 : Int32)), (2, .ref ta), (0, .ref (q 99)), (1, .int x1)]) C.1 C.2.1 dX7_first_13 rfl hl (by decide) rfl (fun ls hl => ?_)
  refine lv_lconst (v := 0) C.1 C.2.1 dX7_first_14 (by decide) ?_
  refine lv_lstore (lv' := [(4, .long (0 : Int64)), (3, .int (-1 : Int32)), (2, .ref ta), (0, .ref (q 99)), (1, .int x1)]) C.1 C.2.1 dX7_first_15 hl (by decide) rfl (fun ls hl => ?_)
  refine lv_iconst (v := 0) C.1 C.2.1 dX7_first_17 (by decide) ?_
  refine lv_istore (lv' := [(6, .int (0 : Int32)), (4, .long (0 : Int64)), (3, .int (-1 : Int32)), (2, .ref ta), (0, .ref (q 99)), (1, .int x1)]) C.1 C.2.1 dX7_first_18 hl (by decide) rfl (fun ls hl => ?_)
  have KL_20 : ∀ (n : Nat) (x3 : Int32) (x4 : Int64) (x6 : Int32) (I : Nat → Int32) (J : Nat → Int64) (A : Nat → Nat → Int32) (B : Nat → Nat → Int64) (o : Int32 × (Nat → Int32) × (Nat → Int64) × (Nat → Nat → Int32) × (Nat → Nat → Int64)) (Q : State → Prop) (H : Heap) (locs : List Loc) (ls : Array Slot), lX7_first_20 nb nc fb fc n x3 x4 x6 I J A B = some o → CI D cy s P0 s.heap H locs q z (TC cy ta tb tc nb nc fb fc ++ tl) xx I J A B → lv_has ls 7 [(0, .ref (q 99)), (2, .ref ta), (3, .int x3), (4, .long x4), (6, .int x6)] → (∀ (o3_0 : Int32) (I_0 : Nat → Int32) (J_0 : Nat → Int64) (A_0 : Nat → Nat → Int32) (B_0 : Nat → Nat → Int64) (H : Heap) (locs : List Loc) (ls : Array Slot), o = (o3_0, I_0, J_0, A_0, B_0) → CI D cy s P0 s.heap H locs q z (TC cy ta tb tc nb nc fb fc ++ tl) xx I_0 J_0 A_0 B_0 → lv_has ls 7 [(3, .int o3_0)] → W p l e (rmL 5) s m args below meth c H locs 0 0 Q (F0 m 98 ls [])) → W p l e (rmL 5) s m args below meth c H locs 0 0 Q (F0 m 20 ls []) := by
    intro n; induction n with
    | zero => intro x3 x4 x6 I J A B o Q H locs ls hs; rw [lX7_first_20] at hs; cases hs
    | succ n ih =>
      intro x3 x4 x6 I J A B o Q H locs ls hs hI hl kk0
      rw [lX7_first_20] at hs
      refine lv_iload C.1 C.2.1 dX7_first_20 (lv_at hl 4 rfl) ?_
      refine lv_aload_n C.1 C.2.1 dX7_first_22 rfl (lv_at hl 0 rfl) ?_
      refine cg_X7_0 C hI dX7_first_23 ?_
      refine cg_X7_21 C hI dX7_first_26 ?_
      refine cg_X7_44 C hI dX7_first_29 ?_
      refine lv_icmp_ge (tgt := 98) C.1 C.2.1 dX7_first_32 (by decide) (fun cn => ?_) (fun cn => ?_)
      · have hs := if_t cn hs
        have eo := (Option.some.inj hs).symm
        exact kk0 _ _ _ _ _ _ _ _ eo hI (lv_sub hl [2] rfl)
      · have hs := if_f cn hs
        refine lv_aload_n C.1 C.2.1 dX7_first_35 rfl (lv_at hl 0 rfl) ?_
        refine cg_X7_5 C hI dX7_first_36 ?_
        refine lv_aload_n C.1 C.2.1 dX7_first_39 rfl (lv_at hl 0 rfl) ?_
        refine cg_X7_0 C hI dX7_first_40 ?_
        refine lv_iload C.1 C.2.1 dX7_first_43 (lv_at hl 4 rfl) ?_
        obtain ⟨A, hc, hs⟩ := bd_e hs
        refine C_call C hI (kX0_faceTower l D cy P0 q z _ xx _ _ _ _ _ _ hc) (rv_X0 hI) ml_X7_301 im_X0_faceTower se_X0_faceTower ini_X0 co_X0_faceTower hyX0_faceTower rfl ⟨by decide, by decide⟩ hl.1 rfl (Nat.le_of_ble_eq_true rfl) dX7_first_45 (fun H locs hI => ?_)
        refine lv_aload_n C.1 C.2.1 dX7_first_48 rfl (lv_at hl 0 rfl) ?_
        refine cg_X7_5 C hI dX7_first_49 ?_
        refine lv_aload_n C.1 C.2.1 dX7_first_52 rfl (lv_at hl 1 rfl) ?_
        refine lv_sipush (v := 257) C.1 C.2.1 dX7_first_53 (by decide) ?_
        obtain ⟨⟨r_56, I, J, B⟩, hc, hs⟩ := bd_e hs
        refine C_call C hI (kX0_tells l D cy P0 q z tl xx ta tb tc nb nc fb fc _ _ _ _ _ _ _ _ _ hc) (rv_X0 hI) ml_X7_305 im_X0_tells se_X0_tells ini_X0 co_X0_tells hyX0_tells rfl ⟨by decide, by decide⟩ hl.1 rfl (Nat.le_of_ble_eq_true rfl) dX7_first_56 (fun H locs hI => ?_)
        refine lv_if_eq (tgt := 92) C.1 C.2.1 dX7_first_59 (by decide) (fun cn => ?_) (fun cn => ?_)
        · have hs := if_t cn hs
          obtain ⟨x6_92, ex6_92⟩ : ∃ y : Int32, y = (x6 + 1) := ⟨_, rfl⟩
          have hs := gv_at ex6_92 hs
          refine lv_iinc (v := x6_92) (lv' := [(6, .int x6_92), (0, .ref (q 99)), (2, .ref ta), (3, .int x3), (4, .long x4)]) C.1 C.2.1 dX7_first_92 hl (k := 4) rfl (by rw [ex6_92]; rfl) (by decide) rfl (fun ls hl => ?_)
          refine lv_goto (tgt := 20) C.1 C.2.1 dX7_first_95 (by decide) ?_
          exact ih _ _ _ _ _ _ _ _ _ _ _ _ hs hI (lv_sub hl [1, 2, 3, 4, 0] rfl) kk0
        · have hs := if_f cn hs
          refine lv_iload_n C.1 C.2.1 dX7_first_62 rfl (lv_at hl 2 rfl) ?_
          refine lv_iconst (v := -1) C.1 C.2.1 dX7_first_63 (by decide) ?_
          obtain ⟨k_80, ek_80, hs⟩ := gv_ex hs
          have KJ_80 : ∀ (I : Nat → Int32) (J : Nat → Int64) (A : Nat → Nat → Int32) (B : Nat → Nat → Int64) (H : Heap) (locs : List Loc) (ls : Array Slot), k_80 I J A B = some o → CI D cy s P0 s.heap H locs q z (TC cy ta tb tc nb nc fb fc ++ tl) xx I J A B → lv_has ls 7 [(0, .ref (q 99)), (2, .ref ta), (6, .int x6)] → W p l e (rmL 5) s m args below meth c H locs 0 0 Q (F0 m 80 ls []) := by
            intro I J A B H locs ls hs hI hl
            rw [ek_80] at hs
            refine lv_iload C.1 C.2.1 dX7_first_80 (lv_at hl 2 rfl) ?_
            refine lv_istore_n (lv' := [(3, .int x6), (0, .ref (q 99)), (2, .ref ta), (6, .int x6)]) C.1 C.2.1 dX7_first_82 rfl hl (by decide) rfl (fun ls hl => ?_)
            refine lv_aload_n C.1 C.2.1 dX7_first_83 rfl (lv_at hl 1 rfl) ?_
            refine cg_X7_5 C hI dX7_first_84 ?_
            refine cg_X7_95 C hI dX7_first_87 ?_
            refine lv_topl (fun x4_90 ex4_90 => ?_)
            have hs := gv_at ex4_90 hs
            refine lv_lstore (lv' := [(4, .long x4_90), (3, .int x6), (0, .ref (q 99)), (2, .ref ta), (6, .int x6)]) C.1 C.2.1 dX7_first_90 hl (by decide) rfl (fun ls hl => ?_)
            obtain ⟨x6_92, ex6_92⟩ : ∃ y : Int32, y = (x6 + 1) := ⟨_, rfl⟩
            have hs := gv_at ex6_92 hs
            refine lv_iinc (v := x6_92) (lv' := [(6, .int x6_92), (4, .long x4_90), (3, .int x6), (0, .ref (q 99)), (2, .ref ta)]) C.1 C.2.1 dX7_first_92 hl (k := 4) rfl (by rw [ex6_92]; rfl) (by decide) rfl (fun ls hl => ?_)
            refine lv_goto (tgt := 20) C.1 C.2.1 dX7_first_95 (by decide) ?_
            exact ih _ _ _ _ _ _ _ _ _ _ _ _ hs hI (lv_sub hl [3, 4, 2, 1, 0] rfl) kk0
          refine lv_icmp_eq (tgt := 80) C.1 C.2.1 dX7_first_64 (by decide) (fun cn => ?_) (fun cn => ?_)
          · have hs := if_t cn hs
            exact KJ_80 _ _ _ _ _ _ _ hs hI (lv_sub hl [0, 1, 4] rfl)
          · have hs := if_f cn hs
            refine lv_aload_n C.1 C.2.1 dX7_first_67 rfl (lv_at hl 0 rfl) ?_
            refine cg_X7_5 C hI dX7_first_68 ?_
            refine cg_X7_95 C hI dX7_first_71 ?_
            refine lv_lload C.1 C.2.1 dX7_first_74 (lv_at hl 3 rfl) ?_
            refine W.lcmp C.1 C.2.1 dX7_first_76 ?_
            refine lv_if_le (tgt := 92) C.1 C.2.1 dX7_first_77 (by decide) (fun cn => ?_) (fun cn => ?_)
            · have hs := if_t cn hs
              obtain ⟨x6_92, ex6_92⟩ : ∃ y : Int32, y = (x6 + 1) := ⟨_, rfl⟩
              have hs := gv_at ex6_92 hs
              refine lv_iinc (v := x6_92) (lv' := [(6, .int x6_92), (0, .ref (q 99)), (2, .ref ta), (3, .int x3), (4, .long x4)]) C.1 C.2.1 dX7_first_92 hl (k := 4) rfl (by rw [ex6_92]; rfl) (by decide) rfl (fun ls hl => ?_)
              refine lv_goto (tgt := 20) C.1 C.2.1 dX7_first_95 (by decide) ?_
              exact ih _ _ _ _ _ _ _ _ _ _ _ _ hs hI (lv_sub hl [1, 2, 3, 4, 0] rfl) kk0
            · have hs := if_f cn hs
              exact KJ_80 _ _ _ _ _ _ _ hs hI (lv_sub hl [0, 1, 4] rfl)
  obtain ⟨⟨x3_20, I_L, J_L, A_L, B_L⟩, hL, hs⟩ := bd_e hs
  refine KL_20 FU _ _ _ _ _ _ _ _ _ _ _ _ hL hI (lv_sub hl [4, 3, 2, 1, 0] rfl) (fun z0 z1 z2 z3 z4 H locs ls eo hI hl => ?_)
  obtain ⟨rfl, rfl, rfl, rfl, rfl⟩ := pr5 eo
  refine lv_iload_n C.1 C.2.1 dX7_first_98 rfl (lv_at hl 0 rfl) ?_
  obtain ⟨rfl, rfl, rfl, rfl, rfl⟩ := so5 hs
  exact C_iret C hI dX7_first_99
